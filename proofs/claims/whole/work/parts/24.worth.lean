theorem w4p {t p : Nat} (ht : t < 6) (hp : p < 3) : w32 (w32 (w32 (4 * (t : Int)) + (p : Int)) + 1) = ((4 * t + p + 1 : Nat) : Int) := by
  rw [w32_id (z := 4 * (t : Int)) (by omega) (by omega), w32_id (z := 4 * (t : Int) + (p : Int)) (by omega) (by omega), w32_id (by omega) (by omega)]; omega
theorem w2i {t i : Nat} (ht : t < 6) (hi : i < 200) : w32 (w32 (200 * (t : Int)) + (i : Int)) = ((200 * t + i : Nat) : Int) := by
  rw [w32_id (z := 200 * (t : Int)) (by omega) (by omega), w32_id (by omega) (by omega)]; omega
theorem w32_m1 {d : Nat} (h : 1 ≤ d) (h2 : d < 2147483648) : w32 ((d : Int) - 1) = ((d - 1 : Nat) : Int) := by rw [w32_id (by omega) (by omega)]; omega
theorem w32_p1 {d : Nat} (h : 1 ≤ d) (h2 : d < 2147483648) : w32 ((d : Int) + (-1)) = ((d - 1 : Nat) : Int) := by rw [w32_id (by omega) (by omega)]; omega
theorem st_set {M : Mem} {c d j : Nat} {v : Int} {st : Nat → Int} (h : ∀ q : Nat, q < d → M c q = st q) : ∀ q : Nat, q < d → mset M c j v c q = (fun i => if i = j then v else st i) q := by
  intro q hq
  by_cases e : q = j
  · subst e; rw [mset_at]; simp
  · rw [mset_i e]; simp only [e, if_false]; exact h q hq
theorem st_push {M : Mem} {c d : Nat} {v : Int} {st : Nat → Int} (h : ∀ q : Nat, q < d → M c q = st q) : ∀ q : Nat, q < d + 1 → mset M c d v c q = (fun i => if i = d then v else st i) q := by
  intro q hq
  by_cases e : q = d
  · subst e; rw [mset_at]; simp
  · rw [mset_i e]; simp only [e, if_false]; exact h q (by omega)
theorem r_worthL {M0 : Mem} {t p B : Nat} {cs : Nat → Int} {nm : Nat → Int} (ht : t < 6) (hp : p < 3) (hr : M0 38 14 = (t : Int)) (hB : M0 46 (4 * t + p + 1) = (B : Int)) (hB2 : B ≤ 160) (hcs : ∀ i : Nat, M0 45 (200 * t + i) = cs i) (hnm : ∀ j : Nat, j < 6 → M0 55 j = nm j) :
    ∀ (k i d : Nat) (st : Nat → Int) (fuel : Nat) (M : Mem), i + k = B → k < fuel → wfc cs k i d → d ≤ 31 → (∀ j : Nat, j < d → M 54 j = st j) → agx [54] M0 M →
      ∃ M', f_X10_worth_L16 (p : Int) fuel (d : Int) (i : Int) M = some (evs cs nm k i d st 0, M') ∧ agx [54] M0 M' := by
  intro k
  induction k with
  | zero =>
    intro i d st fuel M hi hf hw hd hst hM
    obtain ⟨n, rfl⟩ : ∃ n, fuel = n + 1 := ⟨fuel - 1, by omega⟩
    have hA : w32 (w32 (w32 (4 * M 38 14) + (p : Int)) + 1) = ((4 * t + p + 1 : Nat) : Int) := by rw [hM 38 (by decide), hr, w4p ht hp]
    have h2 : ¬ (i : Int) < M 46 ((4 * t + p + 1 : Nat) : Int).toNat := by rw [Int.toNat_natCast, hM 46 (by decide), hB]; omega
    have hd1 : d = 1 := hw
    exact ⟨M, by rw [r_w0 hA ⟨by omega, by omega⟩ h2, hst 0 (by omega)]; rfl, hM⟩
  | succ k ih =>
    intro i d st fuel M hi hf hw hd hst hM
    obtain ⟨n, rfl⟩ : ∃ n, fuel = n + 1 := ⟨fuel - 1, by omega⟩
    have hA : w32 (w32 (w32 (4 * M 38 14) + (p : Int)) + 1) = ((4 * t + p + 1 : Nat) : Int) := by rw [hM 38 (by decide), hr, w4p ht hp]
    have h1 : (0 : Int) ≤ ((4 * t + p + 1 : Nat) : Int) ∧ ((4 * t + p + 1 : Nat) : Int) < 24 := ⟨by omega, by omega⟩
    have h2 : (i : Int) < M 46 ((4 * t + p + 1 : Nat) : Int).toNat := by rw [Int.toNat_natCast, hM 46 (by decide), hB]; omega
    have hB' : w32 (w32 (200 * M 38 14) + (i : Int)) = ((200 * t + i : Nat) : Int) := by rw [hM 38 (by decide), hr, w2i ht (by omega)]
    have h3 : (0 : Int) ≤ ((200 * t + i : Nat) : Int) ∧ ((200 * t + i : Nat) : Int) < 1200 := ⟨by omega, by omega⟩
    have hc : M 45 ((200 * t + i : Nat) : Int).toNat = cs i := by rw [Int.toNat_natCast, hM 45 (by decide), hcs]
    have h55 : ∀ j : Nat, j < 6 → M 55 j = nm j := fun j hj => by rw [hM 55 (by decide)]; exact hnm j hj
    have hi1 : w32 ((i : Int) + 1) = ((i + 1 : Nat) : Int) := w32_n1 (by omega)
    have key : ∀ (v : Int) (d' j : Nat) (st' : Nat → Int), d' ≤ 31 → wfc cs k (i + 1) d' → (∀ q : Nat, q < d' → mset M 54 j v 54 q = st' q) → ∃ M', f_X10_worth_L16 (p : Int) n (d' : Int) ((i + 1 : Nat) : Int) (mset M 54 j v) = some (evs cs nm k (i + 1) d' st' 0, M') ∧ agx [54] M0 M' := fun v d' j st' h1 h2 h3 => ih (i + 1) d' st' n (mset M 54 j v) (by omega) (by omega) h2 h1 h3 (hM.mset (by decide))
    rw [evs]
    rw [wfc] at hw
    generalize hcc : cs i = c at hw hc ⊢
    clear hcs hcc ih hB hr
    rcases hw with ⟨hc0, hd2, hw⟩ | ⟨hc0, hd2, hw⟩ | ⟨hc0, hd2, hw⟩
    · rcases hc0 with ⟨c1, c2⟩ | ⟨c1, c2⟩
      · rw [r_w1 hA h1 h2 hB' h3 hc (by omega) (by omega) ⟨c1, c2⟩ ⟨by omega, by omega⟩, if_pos (by omega), Int.toNat_natCast, h55 _ (by omega), w32_n1 (a := d) (by omega), hi1]
        exact key _ (d + 1) d _ hd2 hw (st_push hst)
      · rw [r_w2 hA h1 h2 hB' h3 hc (by omega) (by omega) ⟨by omega, by omega⟩, if_neg (by omega), if_pos (by omega), Int.toNat_natCast, w32_n1 (a := d) (by omega), hi1, w32_id (z := c - 100000) (by omega) (by omega)]
        exact key _ (d + 1) d _ hd2 hw (st_push hst)
    · have e3 := w32_m1 hd2 (by omega)
      have h7 : (0 : Int) ≤ w32 ((d : Int) - 1) ∧ w32 ((d : Int) - 1) < 200 := by rw [e3]; exact ⟨by omega, by omega⟩
      have e5 : M 54 (w32 ((d : Int) - 1)).toNat = st (d - 1) := by rw [e3, Int.toNat_natCast]; exact hst (d - 1) (by omega)
      rcases hc0 with hc0 | hc0
      · rw [r_w3 hA h1 h2 hB' h3 hc (by omega) (by omega) hc0 h7, e5, e3, Int.toNat_natCast, hi1, if_neg (show ¬ c < 11 by omega), if_neg (show ¬ 100000 ≤ c by omega), if_pos hc0]
        exact key _ d (d - 1) _ hd hw (st_set hst)
      · rw [r_w4 hA h1 h2 hB' h3 hc (by omega) (by omega) (by omega) hc0 h7, e5, e3, Int.toNat_natCast, hi1, if_neg (by omega), if_neg (by omega), if_neg (by omega), if_pos hc0]
        exact key _ d (d - 1) _ hd hw (st_set hst)
    · have e3 := w32_p1 (d := d) (by omega) (by omega)
      have e4 : w32 (((d - 1 : Nat) : Int) - 1) = ((d - 2 : Nat) : Int) := w32_m1 (d := d - 1) (by omega) (by omega)
      rw [r_w5 hA h1 h2 hB' h3 hc (by omega) (by omega) (by omega) (by omega) e3 e4 ⟨by omega, by omega⟩ ⟨by omega, by omega⟩, Int.toNat_natCast, Int.toNat_natCast, hi1, hst (d - 1) (by omega), hst (d - 2) (by omega), if_neg (by omega), if_neg (by omega), if_neg (by omega), if_neg (by omega)]
      exact key _ (d - 1) (d - 2) _ (by omega) hw (fun q hq => st_set hst q (by omega))
