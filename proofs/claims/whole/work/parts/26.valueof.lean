section VALUEOF
variable {K : Mem → Option (Int × Mem)} {x1 x4 x5 x6 s : Int} {n : Nat} {M : Mem}
theorem c_v0 (h : ¬ x6 < x4) : f_X6_valueOf_L43 K x1 x4 (n + 1) x5 x6 M = K M := by rw [f_X6_valueOf_L43, if_neg h]
theorem c_v1 (h : x6 < x4) (hs : rd 960 (M 17) (w32 (w32 (x1 * 160) + x6)) = s) (h1 : ¬ s < 300) (h2 : s < 1000) : f_X6_valueOf_L43 K x1 x4 (n + 1) x5 x6 M = f_X6_valueOf_L43 K x1 x4 n (w32 (x5 + 1)) (w32 (x6 + 1)) (wr M 19 31 (w32 (x5 + 1)) (rd 6 (M 20) (w32 (s - 300)))) := by
  rw [f_X6_valueOf_L43, if_pos h, hs, if_neg h1, if_pos h2]
theorem c_v2 (h : x6 < x4) (hs : rd 960 (M 17) (w32 (w32 (x1 * 160) + x6)) = s) (h1 : ¬ s < 300) (h2 : ¬ s < 1000) : f_X6_valueOf_L43 K x1 x4 (n + 1) x5 x6 M = f_X6_valueOf_L43 K x1 x4 n (w32 (x5 + 1)) (w32 (x6 + 1)) (wr M 19 31 (w32 (x5 + 1)) (w32 (s - 1000))) := by
  rw [f_X6_valueOf_L43, if_pos h, hs, if_neg h1, if_neg h2]
theorem c_v3 (h : x6 < x4) (hs : rd 960 (M 17) (w32 (w32 (x1 * 160) + x6)) = s) (h1 : s < 300) (h2 : s = 261) : f_X6_valueOf_L43 K x1 x4 (n + 1) x5 x6 M = f_X6_valueOf_L43 K x1 x4 n x5 (w32 (x6 + 1)) (wr M 19 31 x5 (if rd 31 (M 19) x5 = 0 then 1 else 0)) := by
  rw [f_X6_valueOf_L43, if_pos h, hs, if_pos h1, if_pos h2]
  by_cases hz : rd 31 (M 19) x5 = 0
  · rw [if_pos hz, if_pos hz]
  · rw [if_neg hz, if_neg hz]
theorem c_v4 (h : x6 < x4) (hs : rd 960 (M 17) (w32 (w32 (x1 * 160) + x6)) = s) (h1 : s < 300) (h2 : ¬ s = 261) (h3 : s = 262) : f_X6_valueOf_L43 K x1 x4 (n + 1) x5 x6 M = f_X6_valueOf_L43 K x1 x4 n x5 (w32 (x6 + 1)) (wr M 19 31 x5 (w32 (-(rd 31 (M 19) x5)))) := by
  rw [f_X6_valueOf_L43, if_pos h, hs, if_pos h1, if_neg h2, if_pos h3]
theorem c_v5 (h : x6 < x4) (hs : rd 960 (M 17) (w32 (w32 (x1 * 160) + x6)) = s) (h1 : s < 300) (h2 : ¬ s = 261) (h3 : ¬ s = 262) {a : Int} (ha : w32 (x5 + (-1)) = a) : f_X6_valueOf_L43 K x1 x4 (n + 1) x5 x6 M = f_X6_valueOf_L43 K x1 x4 n a (w32 (x6 + 1)) (wr M 19 31 a (f_X6_joined s (rd 31 (M 19) a) (rd 31 (M 19) (w32 (a + 1))))) := by
  rw [f_X6_valueOf_L43, if_pos h, hs, if_pos h1, if_neg h2, if_neg h3, ha]
end VALUEOF
theorem c_join {s c a b : Int} (h : cvr s c) (hc : c = 11 ∨ c = 12 ∨ 14 ≤ c ∧ c ≤ 18) : f_X6_joined s a b = bo c a b := by
  unfold bo f_X6_joined f_X10_bothOf
  rcases h with h | h | h | h | h | h | h | h | h | h | h
  · omega
  · omega
  · omega
  · omega
  all_goals (obtain ⟨rfl, rfl⟩ := h; simp)
theorem w160 {t i : Nat} (ht : t < 6) (hi : i < 160) : w32 (w32 ((t : Int) * 160) + (i : Int)) = ((160 * t + i : Nat) : Int) := by
  rw [w32_id (z := (t : Int) * 160) (by omega) (by omega), w32_id (by omega) (by omega)]; omega
theorem w_d0 {d : Nat} (h : d < 2147483648) : w32 ((d : Int) - 1 + 1) = (d : Int) := by rw [w32_id (by omega) (by omega)]; omega
theorem w_d1 {d : Nat} (h1 : 2 ≤ d) (h : d < 2147483648) : w32 ((d : Int) - 1 + (-1)) = ((d - 2 : Nat) : Int) := by rw [w32_id (by omega) (by omega)]; omega
theorem c_valueL {M0 : Mem} {t B : Nat} {cs : Nat → Int} {nm : Nat → Int} {K : Mem → Option (Int × Mem)} (ht : t < 6) (hB2 : B ≤ 160) (hcs : ∀ i : Nat, i < B → cvr (M0 17 (160 * t + i)) (cs i)) (hnm : ∀ j : Nat, j < 6 → M0 20 j = nm j) :
    ∀ (k i d : Nat) (st : Nat → Int) (fuel : Nat) (M : Mem), i + k = B → k < fuel → wfc cs k i d → d ≤ 31 → (∀ j : Nat, j < d → M 19 j = st j) → agx [19] M0 M →
      ∃ M', f_X6_valueOf_L43 K (t : Int) (B : Int) fuel ((d : Int) - 1) (i : Int) M = K M' ∧ M' 19 0 = evs cs nm k i d st 0 ∧ agx [19] M0 M' := by
  intro k
  induction k with
  | zero =>
    intro i d st fuel M hi hf hw hd hst hM
    obtain ⟨n, rfl⟩ : ∃ n, fuel = n + 1 := ⟨fuel - 1, by omega⟩
    have hd1 : d = 1 := hw
    exact ⟨M, c_v0 (by omega), hst 0 (by omega), hM⟩
  | succ k ih =>
    intro i d st fuel M hi hf hw hd hst hM
    obtain ⟨n, rfl⟩ : ∃ n, fuel = n + 1 := ⟨fuel - 1, by omega⟩
    have h : (i : Int) < (B : Int) := by omega
    have hs : rd 960 (M 17) (w32 (w32 ((t : Int) * 160) + (i : Int))) = M0 17 (160 * t + i) := by rw [w160 ht (by omega), rd_n (by omega), hM 17 (by decide)]
    have hcv := hcs i (by omega)
    have h20 : ∀ j : Nat, j < 6 → M 20 j = nm j := fun j hj => by rw [hM 20 (by decide)]; exact hnm j hj
    have hi1 : w32 ((i : Int) + 1) = ((i + 1 : Nat) : Int) := w32_n1 (by omega)
    have key : ∀ (v : Int) (d' j : Nat) (e : Int) (st' : Nat → Int), e = (d' : Int) - 1 → j < 31 → d' ≤ 31 → wfc cs k (i + 1) d' → (∀ q : Nat, q < d' → mset M 19 j v 19 q = st' q) → ∃ M', f_X6_valueOf_L43 K (t : Int) (B : Int) n e ((i + 1 : Nat) : Int) (wr M 19 31 (j : Int) v) = K M' ∧ M' 19 0 = evs cs nm k (i + 1) d' st' 0 ∧ agx [19] M0 M' := fun v d' j e st' he hj h1 h2 h3 => by
      subst he
      rw [wr_n hj]
      exact ih (i + 1) d' st' n (mset M 19 j v) (by omega) (by omega) h2 h1 h3 (hM.mset (by decide))
    rw [evs]
    rw [wfc] at hw
    generalize hcc : cs i = c at hw hcv ⊢
    generalize M0 17 (160 * t + i) = s at hs hcv
    clear hcs hcc ih hi
    rcases hw with ⟨hc0, hd2, hw⟩ | ⟨hc0, hd2, hw⟩ | ⟨hc0, hd2, hw⟩
    · rcases hc0 with ⟨c1, c2⟩ | ⟨c1, c2⟩
      · have hsc : s = 300 + c := by unfold cvr at hcv; omega
        have e1 : w32 (s - 300) = ((c.toNat : Nat) : Int) := by rw [w32_id (by omega) (by omega)]; omega
        rw [c_v1 h hs (by omega) (by omega), e1, rd_n (by omega), h20 _ (by omega), hi1, w_d0 (by omega), if_pos (by omega)]
        exact key _ (d + 1) d _ _ (by omega) (by omega) hd2 hw (st_push hst)
      · have hsc : s = c - 99000 := by unfold cvr at hcv; omega
        have e1 : w32 (s - 1000) = c - 100000 := by rw [w32_id (by omega) (by omega)]; omega
        rw [c_v2 h hs (by omega) (by omega), e1, hi1, w_d0 (by omega), if_neg (by omega), if_pos (by omega)]
        exact key _ (d + 1) d _ _ (by omega) (by omega) hd2 hw (st_push hst)
    · have e3 : (d : Int) - 1 = ((d - 1 : Nat) : Int) := by omega
      have e5 : rd 31 (M 19) ((d : Int) - 1) = st (d - 1) := by rw [e3, rd_n (by omega)]; exact hst (d - 1) (by omega)
      rcases hc0 with hc0 | hc0
      · have hsc : s = 261 := by unfold cvr at hcv; omega
        rw [c_v3 h hs (by omega) hsc, e5, hi1, if_neg (show ¬ c < 11 by omega), if_neg (show ¬ 100000 ≤ c by omega), if_pos hc0]
        rw [e3]
        exact key _ d (d - 1) _ _ (by omega) (by omega) hd hw (st_set hst)
      · have hsc : s = 262 := by unfold cvr at hcv; omega
        rw [c_v4 h hs (by omega) (by omega) hsc, e5, hi1, if_neg (show ¬ c < 11 by omega), if_neg (show ¬ 100000 ≤ c by omega), if_neg (show ¬ c = 13 by omega), if_pos hc0]
        rw [e3]
        exact key _ d (d - 1) _ _ (by omega) (by omega) hd hw (st_set hst)
    · have hsc : s < 300 ∧ s ≠ 261 ∧ s ≠ 262 := by unfold cvr at hcv; omega
      have e4 : w32 (((d - 2 : Nat) : Int) + 1) = ((d - 1 : Nat) : Int) := by rw [w32_id (by omega) (by omega)]; omega
      rw [c_v5 h hs hsc.1 hsc.2.1 hsc.2.2 (w_d1 hd2 (by omega)), e4, rd_n (by omega), rd_n (by omega), hi1, hst (d - 1) (by omega), hst (d - 2) (by omega), c_join hcv hc0, if_neg (by omega), if_neg (by omega), if_neg (by omega), if_neg (by omega)]
      exact key _ (d - 1) (d - 2) _ _ (by omega) (by omega) (by omega) hw (fun q hq => st_set hst q (by omega))
/-- the class's text beside the reference's -/
def CX (M : Mem) (t : Nat) : Prop := (∀ p : Nat, p < 3 → M 18 (3 * t + p) = M 46 (4 * t + p + 1)) ∧ M 46 (4 * t) = 0 ∧ ∀ i : Nat, i < txb M t 3 → cvr (M 17 (160 * t + i)) (M 45 (200 * t + i))
theorem c_bits {set : Nat} (h : set < 1024) : f_J6_bitCount_0f7a4 (set : Int) = ((popc set : Nat) : Int) := bitc_n (by omega)
theorem clm_c1 (v : Int) : (if 0 < (if v < 99 then v else 99) then (if v < 99 then v else 99) else 0) = clm 1 v := by
  unfold clm; simp only [if_pos, if_neg, Nat.one_ne_zero, if_false, if_true]; split <;> split <;> (try split) <;> (try split) <;> omega
theorem clm_c2 (v : Int) : (if 0 < (if v < 999 then v else 999) then (if v < 999 then v else 999) else 0) = clm 2 v := by
  unfold clm; simp only [show ¬ (2 : Nat) = 0 by decide, show ¬ (2 : Nat) = 1 by decide, if_false]; split <;> split <;> (try split) <;> (try split) <;> omega
theorem w3p {t p : Nat} (ht : t < 6) (hp : p < 3) : w32 (w32 ((t : Int) * 3) + (p : Int)) = ((3 * t + p : Nat) : Int) := by rw [w32_id (z := (t : Int) * 3) (by omega) (by omega), w32_id (by omega) (by omega)]; omega
theorem w3m {t p : Nat} (ht : t < 6) (hp : p + 1 < 3) : w32 (w32 (w32 ((t : Int) * 3) + ((p + 1 : Nat) : Int)) - 1) = ((3 * t + p : Nat) : Int) := by
  rw [w3p ht hp, w32_id (by omega) (by omega)]; omega
theorem c_clamp {p : Nat} (hp : p < 3) (v : Int) (M' : Mem) : (if (p : Int) = 0 then (if v = 0 then some ((0 : Int), M') else some (1, M')) else (if (p : Int) = 1 then some ((if 0 < (if v < 99 then v else 99) then (if v < 99 then v else 99) else 0), M') else some ((if 0 < (if v < 999 then v else 999) then (if v < 999 then v else 999) else 0), M'))) = some (clm p v, M') := by
  rcases (show p = 0 ∨ p = 1 ∨ p = 2 by omega) with rfl | rfl | rfl
  · rw [if_pos (by decide)]
    unfold clm
    rw [if_pos rfl]
    by_cases hv : v = 0
    · rw [if_pos hv, if_pos hv]
    · rw [if_neg hv, if_neg hv]
  · rw [if_neg (by decide), if_pos (by decide), clm_c1]
  · rw [if_neg (by decide), if_neg (by decide), clm_c2]
theorem TX_le {M : Mem} {t p : Nat} (hX : TX M t) (hp : p < 3) : txb M t (p + 1) ≤ txb M t 3 := by
  have h1 := (hX 1 (by decide)).2.2.1
  have h2 := (hX 2 (by decide)).2.2.1
  rcases (show p = 0 ∨ p = 1 ∨ p = 2 by omega) with rfl | rfl | rfl
  · exact Nat.le_trans h1 h2
  · exact h2
  · exact Nat.le_refl _
theorem c_valueOf {M0 : Mem} {t p : Nat} {nm : Nat → Int} (ht : t < 6) (hp : p < 3) (hX : TX M0 t) (hC : CX M0 t) (hnm : ∀ j : Nat, j < 6 → M0 20 j = nm j) :
    ∃ M', f_X6_valueOf (t : Int) (p : Int) M0 = some (evs (txc M0 t) nm (txb M0 t (p + 1) - txb M0 t p) (txb M0 t p) 0 (fun _ => 0) 0, M') ∧ agx [19] M0 M' := by
  obtain ⟨x1, x2, x3, x4, x5⟩ := hX p hp
  have hb3 := TX_le hX hp
  obtain ⟨y1, y2, y3⟩ := hC
  have e9 : rd 18 (M0 18) (w32 (w32 ((t : Int) * 3) + (p : Int))) = ((txb M0 t (p + 1) : Nat) : Int) := by
    rw [w3p ht hp, rd_n (by omega), y1 p hp, x2]
  have hl : ∀ K : Mem → Option (Int × Mem), ∃ M', f_X6_valueOf_L43 K (t : Int) ((txb M0 t (p + 1) : Nat) : Int) 100000 (-1) ((txb M0 t p : Nat) : Int) M0 = K M' ∧ M' 19 0 = evs (txc M0 t) nm (txb M0 t (p + 1) - txb M0 t p) (txb M0 t p) 0 (fun _ => 0) 0 ∧ agx [19] M0 M' := by
    intro K
    exact c_valueL (K := K) (cs := txc M0 t) ht x4 (fun i hi => y3 i (Nat.lt_of_lt_of_le hi hb3)) hnm (txb M0 t (p + 1) - txb M0 t p) (txb M0 t p) 0 (fun _ => 0) 100000 M0 (Nat.add_sub_cancel' x3) (Nat.lt_of_le_of_lt (Nat.sub_le _ _) (Nat.lt_of_le_of_lt x4 (by decide))) x5 (by decide) (fun j hj => absurd hj (Nat.not_lt_zero _)) agx.refl
  unfold f_X6_valueOf
  rw [e9]
  by_cases h0 : p = 0
  · subst h0
    rw [if_pos (show ((0 : Nat) : Int) = 0 from rfl)]
    obtain ⟨M', e, e2, h⟩ := hl (fun M2 => some (rd 31 (M2 19) 0, M2))
    rw [show ((txb M0 t 0 : Nat) : Int) = 0 from x1.symm.trans y2] at e
    exact ⟨M', by rw [e, ← e2]; rfl, h⟩
  · obtain ⟨q, rfl⟩ : ∃ q, p = q + 1 := ⟨p - 1, by omega⟩
    rw [if_neg (by omega), w3m ht hp, rd_n (by omega), y1 q (by omega), show M0 46 (4 * t + q + 1) = ((txb M0 t (q + 1) : Nat) : Int) from x1]
    obtain ⟨M', e, e2, h⟩ := hl (fun M2 => some (rd 31 (M2 19) 0, M2))
    exact ⟨M', by rw [e, ← e2]; rfl, h⟩
theorem c_says {M : Mem} {t p set : Nat} {price place guest left : Int} (ht : t < 6) (hp : p < 3) (hX : TX M t) (hC : CX M t) (hs : set < 1024) :
    ∃ M', f_X6_says (t : Int) (p : Int) price (set : Int) place guest left M = some (sy M t p price (set : Int) place guest left, M') ∧ agx [19, 20] M M' := by
  have hag : agx [20] M (wr (wr (wr (wr (wr (wr M 20 6 0 price) 20 6 1 (set : Int)) 20 6 2 place) 20 6 3 ((popc set : Nat) : Int)) 20 6 4 guest) 20 6 5 left) :=
    (((((agx.refl.wr (by decide)).wr (by decide)).wr (by decide)).wr (by decide)).wr (by decide)).wr (by decide)
  have hnm : ∀ j : Nat, j < 6 → (wr (wr (wr (wr (wr (wr M 20 6 0 price) 20 6 1 (set : Int)) 20 6 2 place) 20 6 3 ((popc set : Nat) : Int)) 20 6 4 guest) 20 6 5 left) 20 j = nmf price (set : Int) place ((popc set : Nat) : Int) guest left j := by
    intro j hj
    match j, hj with
    | 0, _ => rfl
    | 1, _ => rfl
    | 2, _ => rfl
    | 3, _ => rfl
    | 4, _ => rfl
    | 5, _ => rfl
    | j + 6, h => omega
  generalize hM1 : (wr (wr (wr (wr (wr (wr M 20 6 0 price) 20 6 1 (set : Int)) 20 6 2 place) 20 6 3 ((popc set : Nat) : Int)) 20 6 4 guest) 20 6 5 left) = M1 at hnm hag
  have e45 : txc M1 t = txc M t := by funext i; unfold txc; rw [hag 45 (by decide)]
  have e46 : txb M1 t = txb M t := by funext i; unfold txb; rw [hag 46 (by decide)]
  have hX1 : TX M1 t := by
    intro q hq
    obtain ⟨x1, x2, x3⟩ := hX q hq
    rw [e45, e46, hag 46 (by decide)]
    exact ⟨x1, x2, x3⟩
  have hC1 : CX M1 t := by
    unfold CX
    rw [e46, hag 18 (by decide), hag 46 (by decide), hag 45 (by decide), hag 17 (by decide)]
    exact hC
  obtain ⟨M', e, h⟩ := c_valueOf ht hp hX1 hC1 hnm
  rw [e45, e46] at e
  refine ⟨M', ?_, (hag.mono (by decide)).trans (h.mono (by decide))⟩
  rw [f_X6_says, c_bits hs, hM1]
  refine ob_I e ?_
  unfold sy
  rw [Int.toNat_natCast]
  exact c_clamp hp _ M'
