/-! liking, teaching -/
theorem clm_b1 (v : Int) : 0 ≤ clm 1 v ∧ clm 1 v ≤ 99 := by
  unfold clm
  simp only [Nat.one_ne_zero, if_false, if_true]
  split
  · exact ⟨by omega, by omega⟩
  · split
    · exact ⟨by omega, by omega⟩
    · exact ⟨by omega, by omega⟩
theorem clm_b2 (v : Int) : 0 ≤ clm 2 v ∧ clm 2 v ≤ 999 := by
  unfold clm
  simp only [show ¬ (2 : Nat) = 0 by decide, show ¬ (2 : Nat) = 1 by decide, if_false]
  split
  · exact ⟨by omega, by omega⟩
  · split
    · exact ⟨by omega, by omega⟩
    · exact ⟨by omega, by omega⟩
def lw (M : Mem) (g l s : Nat) : Nat := (sy M (rl M) 1 (PR M l) (s : Int) (l : Int) (g : Int) ((FT M).length : Int)).toNat
theorem lw_e (M : Mem) (g l s : Nat) : sy M (rl M) 1 (PR M l) (s : Int) (l : Int) (g : Int) ((FT M).length : Int) = ((lw M g l s : Nat) : Int) ∧ lw M g l s ≤ 99 := by
  have := clm_b1 (evs (txc M (rl M)) (nmf (PR M l) (s : Int) (l : Int) ((popc (s : Int).toNat : Nat) : Int) (g : Int) ((FT M).length : Int)) (txb M (rl M) (1 + 1) - txb M (rl M) 1) (txb M (rl M) 1) 0 (fun _ => 0) 0)
  unfold lw sy
  exact ⟨by omega, by omega⟩
def lik (M : Mem) (g l : Nat) : Nat := sl (FT M) (fun t => lw M g l (hd M l t))
theorem lik_le (M : Mem) (g l : Nat) : lik M g l ≤ 71280 := by
  have h1 := sl_le (f := fun t => lw M g l (hd M l t)) (c := 99) (FT M) (fun t _ => (lw_e M g l _).2)
  have h2 := FT_len M
  unfold lik
  omega
theorem lik_su (M : Mem) (g l : Nat) : su (fun s => ct M (fun t => hd M l t == s) * lw M g l s) 64 = lik M g l := by
  unfold lik ct
  exact su_sl (h := fun t => hd M l t) (N := 64) (lw M g l) (FT M) (fun t ht => hd_lt (FT_lt ht))
theorem agq.eq0 {M M' : Mem} (h : agq M M') : lw M' = lw M ∧ lik M' = lik M ∧ cw M' = cw M ∧ sfb M' = sfb M := by
  obtain ⟨e1, e2, e3⟩ := h.eCH0
  have e4 : lw M' = lw M := by funext g l s; unfold lw; rw [h.esy, h.erl, h.ePR, e1]
  have e5 : cw M' = cw M := by funext l Q; unfold cw; rw [e2, h.ehd]
  refine ⟨e4, ?_, e5, ?_⟩
  · funext g l; unfold lik; rw [e1, e4, h.ehd]
  · funext g l; unfold sfb; rw [e1, e5, h.eshn]
/-- what c_says gives over memories that agree -/
theorem c_says' {M M2 : Mem} {p l s : Nat} {guest left : Int} (h : Inv M) (hq : agq M M2) (hp : p < 3) (hl : l < 10) (hs : s < 64) :
    ∃ M3, f_X6_says (M2 0 11) (p : Int) (f_X3_priceOf (l : Int) M2) (s : Int) (l : Int) guest left M2 = some (sy M (rl M) p (PR M l) (s : Int) (l : Int) guest left, M3) ∧ agx [19, 20] M2 M3 := by
  obtain ⟨⟨hL, hF, hT, ⟨t1, t2, t3, t4, t5, t6⟩⟩, ⟨⟨c1, c2, c3, c4⟩, cF, k1, k2, k3⟩, hR⟩ := h
  have er : M2 0 11 = (rl M : Int) := by rw [hq.z 11, k2, t4]
  have ep : f_X3_priceOf (l : Int) M2 = PR M l := by rw [f_X3_priceOf, rd_n hl, hq.c 5 (by decide), (c2 l hl).2]; rfl
  obtain ⟨M3, e3, g⟩ := c_says (M := M2) (t := rl M) (p := p) (set := s) (price := PR M l) (place := (l : Int)) (guest := guest) (left := left) (by omega) hp (by rw [hq.eTX]; exact t6 _ t5) (by rw [hq.eCX]; exact k3 _ t5) (by omega)
  rw [hq.esy] at e3
  exact ⟨M3, by rw [er, ep]; exact e3, g⟩
theorem r_asks' {M M2 : Mem} {p l s : Nat} {guest left : Int} (h : Inv M) (ha : agr M M2) (hp : p < 3) (hl : l < 10) (hs : s < 64) :
    ∃ M3, f_X10_asksOf (p : Int) (l : Int) (s : Int) guest left M2 = some (sy M (rl M) p (PR M l) (s : Int) (l : Int) guest left, M3) ∧ agx [54, 55] M2 M3 := by
  obtain ⟨⟨hL, hF, hT, ⟨t1, t2, t3, t4, t5, t6⟩⟩, hR⟩ := h
  obtain ⟨M3, e3, g⟩ := r_asksOf (M := M2) (t := rl M) (p := p) (l := l) (set := s) (price := PR M l) (guest := guest) (left := left) (by omega) hp (by rw [ha.s 14]; exact t4) (by rw [ha.eTX]; exact t6 _ t5) hl (by omega) (by rw [ha.c 40 (by decide)]; rfl)
  rw [ha.esy] at e3
  exact ⟨M3, e3, g⟩
theorem c_liking {M M1 : Mem} {g l : Nat} (h : Inv M) (c : CH M) (hq1 : agq M M1) (hc1 : CH M1) (hl : l < ln M) (hl2 : l < 10) :
    ∃ M2, f_X9_liking (g : Int) (l : Int) M1 = some (((lik M g l : Nat) : Int), M2) ∧ agx [19, 20] M1 M2 := by
  have hlen := FT_len M
  unfold f_X9_liking
  obtain ⟨n, st, e, hP1, hP2⟩ := loopN (N := 64) (F := fun n i (st : Int × Mem) => f_X9_liking_L6 (g : Int) (l : Int) n st.1 (i : Int) st.2) (P := fun i st => st.1 = ((su (fun s => ct M (fun t => hd M l t == s) * lw M g l s) i : Nat) : Int) ∧ agx [19, 20] M1 st.2) (by
    intro n i st hi hP
    obtain ⟨h1, h2⟩ := hP
    have hq : agq M st.2 := hq1.trans (agq.of h2 (by decide))
    have hC : CH st.2 := hc1.of (agq.of h2 (by decide)) h2 (by decide)
    have hhav : f_X1_having (l : Int) (i : Int) st.2 = ((ct M (fun t => hd M l t == i) : Nat) : Int) := by
      rw [c_having hC (by rw [hq.eln]; exact hl) hl2 hi, hq.eCH0.2.1, hq.ehd]
    have hle := su_mono (f := fun s => ct M (fun t => hd M l t == s) * lw M g l s) (n := i + 1) (m := 64) (by omega)
    rw [lik_su, su_s] at hle
    have hll := lik_le M g l
    have e21 : st.2 21 5 = ((FT M).length : Int) := by rw [hC.1, hq.eFT]
    show ∃ st' : Int × Mem, f_X9_liking_L6 (g : Int) (l : Int) (n + 1) st.1 (i : Int) st.2 = f_X9_liking_L6 (g : Int) (l : Int) n st'.1 ((i + 1 : Nat) : Int) st'.2 ∧ _
    rw [f_X9_liking_L6, if_pos (by omega), hhav, w32_n1 (a := i) (by omega)]
    by_cases hc : 0 < ct M (fun t => hd M l t == i)
    · obtain ⟨M3, e3, g3⟩ := c_says' (M := M) (M2 := st.2) (p := 1) (l := l) (s := i) (guest := (g : Int)) (left := st.2 21 5) h hq (by decide) hl2 hi
      have e3' : f_X6_says (st.2 0 11) 1 (f_X3_priceOf (l : Int) st.2) (i : Int) (l : Int) (g : Int) (st.2 21 5) st.2 = some (sy M (rl M) 1 (PR M l) (i : Int) (l : Int) (g : Int) (st.2 21 5), M3) := e3
      rw [e21, (lw_e M g l i).1] at e3'
      refine ⟨(((su (fun s => ct M (fun t => hd M l t == s) * lw M g l s) (i + 1) : Nat) : Int), M3), ?_, rfl, h2.trans g3⟩
      rw [if_pos (by omega)]
      refine ob_I (by rw [e21]; exact e3') ?_
      have em : ∀ _ : Unit, w32 (((ct M (fun t => hd M l t == i) : Nat) : Int) * ((lw M g l i : Nat) : Int)) = ((ct M (fun t => hd M l t == i) * lw M g l i : Nat) : Int) := fun _ => by
        rw [← Int.natCast_mul, w32_id (by omega) (by omega)]
      rw [em (), h1, w32_id (by omega) (by omega), su_s, ← Int.natCast_add]
    · refine ⟨(((su (fun s => ct M (fun t => hd M l t == s) * lw M g l s) (i + 1) : Nat) : Int), st.2), ?_, rfl, h2⟩
      rw [if_neg (by omega), h1, su_s, show ct M (fun t => hd M l t == i) = 0 by omega, Nat.zero_mul] <;> simp only [Nat.add_zero]) 64 100000 0 (0, M1) (by omega) (by omega) ⟨rfl, agx.refl⟩
  have e : f_X9_liking_L6 (g : Int) (l : Int) 100000 0 0 M1 = f_X9_liking_L6 (g : Int) (l : Int) (n + 1) st.1 ((64 : Nat) : Int) st.2 := e
  exact ⟨st.2, by rw [e, f_X9_liking_L6, if_neg (by decide), hP1, lik_su], hP2⟩
theorem r_liking {M M1 : Mem} {g l : Nat} (h : Inv M) (ha1 : agr M M1) (ho1 : FO M M1) (hl2 : l < 10) :
    ∃ M2, f_X10_liking (l : Int) (g : Int) M1 = some (((lik M g l : Nat) : Int), M2) ∧ agx [54, 55] M1 M2 := by
  have hlen := FT_len M
  unfold f_X10_liking
  obtain ⟨n, st, e, hP1, hP2⟩ := loopN (N := (FT M).length) (F := fun n k (st : Int × Mem) => f_X10_liking_L5 (l : Int) (g : Int) n st.1 (k : Int) st.2) (P := fun k st => st.1 = ((sk (FT M) (fun t => lw M g l (hd M l t)) k : Nat) : Int) ∧ agx [54, 55] M1 st.2) (by
    intro n k st hk hP
    obtain ⟨h1, h2⟩ := hP
    have ha : agr M st.2 := ha1.trans (agr.of h2 (by decide))
    have ho : FO M st.2 := ho1.of h2 (by decide)
    have h64 := hd_lt (M := M) (l := l) (FT_lt (getD_mem hk))
    have hle : sk (FT M) (fun t => lw M g l (hd M l t)) (k + 1) ≤ 71280 := by
      have h1 := sl_le (f := fun t => lw M g l (hd M l t)) (c := 99) ((FT M).take (k + 1)) (fun t _ => (lw_e M g l _).2)
      have h2 : ((FT M).take (k + 1)).length ≤ 720 := by rw [List.length_take]; omega
      unfold sk; omega
    rw [sk_s hk] at hle
    obtain ⟨M3, e3, g3⟩ := r_asks' (M := M) (M2 := st.2) (p := 1) (l := l) (s := hd M l ((FT M).getD k 0)) (guest := (g : Int)) (left := st.2 38 40) h ha (by decide) hl2 h64
    have e3' : f_X10_asksOf 1 (l : Int) ((hd M l ((FT M).getD k 0) : Nat) : Int) (g : Int) (st.2 38 40) st.2 = some (sy M (rl M) 1 (PR M l) ((hd M l ((FT M).getD k 0) : Nat) : Int) (l : Int) (g : Int) (st.2 38 40), M3) := e3
    rw [ho.1, (lw_e M g l _).1] at e3'
    refine ⟨(((sk (FT M) (fun t => lw M g l (hd M l t)) (k + 1) : Nat) : Int), M3), ?_, rfl, h2.trans g3⟩
    show f_X10_liking_L5 (l : Int) (g : Int) (n + 1) st.1 (k : Int) st.2 = f_X10_liking_L5 (l : Int) (g : Int) n _ ((k + 1 : Nat) : Int) M3
    rw [f_X10_liking_L5, if_pos (by rw [ho.1]; omega), if_pos ⟨by omega, by omega⟩, Int.toNat_natCast, r_hi h.1 ha ho hk hl2, Option.bind_some]
    refine ob_I (by rw [ho.1]; exact e3') ?_
    rw [h1, w32_id (by omega) (by omega), w32_n1 (a := k) (by omega), sk_s hk, ← Int.natCast_add]) (FT M).length 100000 0 (0, M1) (by omega) (by omega) ⟨rfl, agx.refl⟩
  have e : f_X10_liking_L5 (l : Int) (g : Int) 100000 0 0 M1 = f_X10_liking_L5 (l : Int) (g : Int) (n + 1) st.1 (((FT M).length : Nat) : Int) st.2 := e
  have ho : FO M st.2 := ho1.of hP2 (by decide)
  exact ⟨st.2, by rw [e, f_X10_liking_L5, if_neg (by rw [ho.1]; omega), hP1, sk_all]; rfl, hP2⟩
/-- teaching -/
def tw (M : Mem) (l s c : Nat) : Nat := (sy M (rl M) 2 (PR M l) (s : Int) (l : Int) 0 (c : Int)).toNat
theorem tw_e (M : Mem) (l s c : Nat) : sy M (rl M) 2 (PR M l) (s : Int) (l : Int) 0 (c : Int) = ((tw M l s c : Nat) : Int) ∧ tw M l s c ≤ 999 := by
  have := clm_b2 (evs (txc M (rl M)) (nmf (PR M l) (s : Int) (l : Int) ((popc (s : Int).toNat : Nat) : Int) 0 (c : Int)) (txb M (rl M) (2 + 1) - txb M (rl M) 2) (txb M (rl M) 2) 0 (fun _ => 0) 0)
  unfold tw sy
  exact ⟨by omega, by omega⟩
def teA (M : Mem) (l i : Nat) : Nat := su (fun s => ct M (fun t => hd M l t == s) * tw M l s (ct M (fun t => hd M l t == s))) i
def te (M : Mem) (l : Nat) : Nat := teA M l 64
theorem su_le {f g : Nat → Nat} {n : Nat} (h : ∀ k, f k ≤ g k) : su f n ≤ su g n := by
  induction n with
  | zero => exact Nat.le_refl _
  | succ n ih => rw [su_s, su_s]; have := h n; omega
theorem teA_le (M : Mem) (l : Nat) {i : Nat} (hi : i ≤ 64) : teA M l i ≤ 719280 := by
  have h1 : teA M l i ≤ su (fun s => ct M (fun t => hd M l t == s) * 999) i := su_le (fun s => Nat.mul_le_mul_left _ (tw_e M l s _).2)
  have h2 : su (fun s => ct M (fun t => hd M l t == s) * 999) i ≤ su (fun s => ct M (fun t => hd M l t == s) * 999) 64 := su_mono hi
  have h3 : su (fun s => ct M (fun t => hd M l t == s) * 999) 64 = sl (FT M) (fun _ => 999) := by
    unfold ct; exact su_sl (h := fun t => hd M l t) (N := 64) (fun _ => 999) (FT M) (fun t ht => hd_lt (FT_lt ht))
  have h4 := sl_le (f := fun _ => 999) (c := 999) (FT M) (fun _ _ => Nat.le_refl _)
  have h5 := FT_len M
  omega
theorem c_teaching {M M1 : Mem} {l : Nat} (h : Inv M) (hq1 : agq M M1) (hc1 : CH M1) (hl : l < ln M) (hl2 : l < 10) :
    ∃ M2, f_X9_teaching (l : Int) M1 = some (((te M l : Nat) : Int), M2) ∧ agx [19, 20] M1 M2 := by
  unfold f_X9_teaching
  obtain ⟨n, st, e, hP1, hP2⟩ := loopN (N := 64) (F := fun n i (st : Int × Mem) => f_X9_teaching_L5 (l : Int) n st.1 (i : Int) st.2) (P := fun i st => st.1 = ((teA M l i : Nat) : Int) ∧ agx [19, 20] M1 st.2) (by
    intro n i st hi hP
    obtain ⟨h1, h2⟩ := hP
    have hq : agq M st.2 := hq1.trans (agq.of h2 (by decide))
    have hC : CH st.2 := hc1.of (agq.of h2 (by decide)) h2 (by decide)
    have hhav : f_X1_having (l : Int) (i : Int) st.2 = ((ct M (fun t => hd M l t == i) : Nat) : Int) := by
      rw [c_having hC (by rw [hq.eln]; exact hl) hl2 hi, hq.eCH0.2.1, hq.ehd]
    have hle := teA_le M l (i := i + 1) (by omega)
    have es : teA M l (i + 1) = teA M l i + ct M (fun t => hd M l t == i) * tw M l i (ct M (fun t => hd M l t == i)) := su_s _ _
    rw [es] at hle
    show ∃ st' : Int × Mem, f_X9_teaching_L5 (l : Int) (n + 1) st.1 (i : Int) st.2 = f_X9_teaching_L5 (l : Int) n st'.1 ((i + 1 : Nat) : Int) st'.2 ∧ _
    rw [f_X9_teaching_L5, if_pos (by omega), hhav, w32_n1 (a := i) (by omega)]
    by_cases hc : 0 < ct M (fun t => hd M l t == i)
    · obtain ⟨M3, e3, g3⟩ := c_says' (M := M) (M2 := st.2) (p := 2) (l := l) (s := i) (guest := 0) (left := ((ct M (fun t => hd M l t == i) : Nat) : Int)) h hq (by decide) hl2 hi
      have e3' : f_X6_says (st.2 0 11) 2 (f_X3_priceOf (l : Int) st.2) (i : Int) (l : Int) 0 ((ct M (fun t => hd M l t == i) : Nat) : Int) st.2 = some (sy M (rl M) 2 (PR M l) (i : Int) (l : Int) 0 ((ct M (fun t => hd M l t == i) : Nat) : Int), M3) := e3
      rw [(tw_e M l i _).1] at e3'
      refine ⟨(((teA M l (i + 1) : Nat) : Int), M3), ?_, rfl, h2.trans g3⟩
      rw [if_pos (by omega)]
      refine ob_I e3' ?_
      have em : ∀ _ : Unit, w32 (((ct M (fun t => hd M l t == i) : Nat) : Int) * ((tw M l i (ct M (fun t => hd M l t == i)) : Nat) : Int)) = ((ct M (fun t => hd M l t == i) * tw M l i (ct M (fun t => hd M l t == i)) : Nat) : Int) := fun _ => by
        rw [← Int.natCast_mul, w32_id (by omega) (by omega)]
      rw [em (), h1, w32_id (by omega) (by omega), es, ← Int.natCast_add]
    · refine ⟨(((teA M l (i + 1) : Nat) : Int), st.2), ?_, rfl, h2⟩
      rw [if_neg (by omega), h1, es, show ct M (fun t => hd M l t == i) = 0 by omega, Nat.zero_mul] <;> simp only [Nat.add_zero]) 64 100000 0 (0, M1) (by omega) (by omega) ⟨rfl, agx.refl⟩
  have e : f_X9_teaching_L5 (l : Int) 100000 0 0 M1 = f_X9_teaching_L5 (l : Int) (n + 1) st.1 ((64 : Nat) : Int) st.2 := e
  exact ⟨st.2, by rw [e, f_X9_teaching_L5, if_neg (by decide), hP1]; rfl, hP2⟩
/-- counts by two lines -/
def c2 (M : Mem) (a b : Nat) (k : Nat) : Nat → Bool := fun t => 64 * hd M a t + hd M b t == k
theorem r_counts {M M1 : Mem} {a b : Nat} (h : Inv M) (ha1 : agr M M1) (ho1 : FO M M1) (ha : a < 10) (hb : b < 10) :
    ∃ M2, f_X10_counts (a : Int) (b : Int) M1 = some (0, M2) ∧ agx [62] M1 M2 ∧ ∀ k : Nat, k < 4096 → M2 62 k = ((ct M (c2 M a b k) : Nat) : Int) := by
  have hlen := FT_len M
  obtain ⟨n0, MA, e0, z1, z2⟩ := loopN (N := 4096) (F := fun n i (M2 : Mem) => f_X10_counts_L2 (fun M490 => f_X10_counts_L24 (a : Int) (b : Int) 100000 0 M490) (a : Int) (b : Int) n (i : Int) M2) (P := fun i M2 => agx [62] M1 M2 ∧ ∀ j : Nat, j < i → M2 62 j = 0) (by
    intro n i M2 hi hP
    obtain ⟨p1, p2⟩ := hP
    refine ⟨mset M2 62 i 0, ?_, p1.mset (by decide), fun j hj => ?_⟩
    · show f_X10_counts_L2 (fun M490 => f_X10_counts_L24 (a : Int) (b : Int) 100000 0 M490) (a : Int) (b : Int) (n + 1) (i : Int) M2 = f_X10_counts_L2 (fun M490 => f_X10_counts_L24 (a : Int) (b : Int) 100000 0 M490) (a : Int) (b : Int) n ((i + 1 : Nat) : Int) _
      rw [f_X10_counts_L2, if_pos (by omega), if_pos ⟨by omega, by omega⟩, Int.toNat_natCast, w32_n1 (by omega)]
    · rw [mset_if]
      by_cases e : j = i
      · rw [if_pos e]
      · rw [if_neg e]; exact p2 j (by omega)) 4096 100000 0 M1 (by omega) (by omega) ⟨agx.refl, fun j hj => absurd hj (Nat.not_lt_zero _)⟩
  have e0 : f_X10_counts_L2 (fun M490 => f_X10_counts_L24 (a : Int) (b : Int) 100000 0 M490) (a : Int) (b : Int) 100000 0 M1 = f_X10_counts_L2 (fun M490 => f_X10_counts_L24 (a : Int) (b : Int) 100000 0 M490) (a : Int) (b : Int) (n0 + 1) ((4096 : Nat) : Int) MA := e0
  obtain ⟨n, M2, e, g1, g2⟩ := loopN (N := (FT M).length) (F := fun n k (M2 : Mem) => f_X10_counts_L24 (a : Int) (b : Int) n (k : Int) M2) (P := fun k M2 => agx [62] M1 M2 ∧ ∀ j : Nat, j < 4096 → M2 62 j = ((ck (FT M) (c2 M a b j) k : Nat) : Int)) (by
    intro n k M2 hk hP
    obtain ⟨p1, p2⟩ := hP
    have ha2 : agr M M2 := ha1.trans (agr.of p1 (by decide))
    have ho2 : FO M M2 := ho1.of p1 (by decide)
    have h1 := hd_lt (M := M) (l := a) (FT_lt (getD_mem hk))
    have h2 := hd_lt (M := M) (l := b) (FT_lt (getD_mem hk))
    have ew : ∀ _ : Unit, w32 (w32 (64 * ((hd M a ((FT M).getD k 0) : Nat) : Int)) + ((hd M b ((FT M).getD k 0) : Nat) : Int)) = ((64 * hd M a ((FT M).getD k 0) + hd M b ((FT M).getD k 0) : Nat) : Int) := fun _ => by
      rw [w32_id (z := 64 * ((hd M a ((FT M).getD k 0) : Nat) : Int)) (by omega) (by omega), w32_id (by omega) (by omega)]; omega
    generalize hi0 : 64 * hd M a ((FT M).getD k 0) + hd M b ((FT M).getD k 0) = i0 at ew
    have hi1 : i0 < 4096 := by omega
    have hle := ck_le (FT M) (c2 M a b i0) k
    refine ⟨mset M2 62 i0 ((ck (FT M) (c2 M a b i0) k + 1 : Nat) : Int), ?_, p1.mset (by decide), fun j hj => ?_⟩
    · show f_X10_counts_L24 (a : Int) (b : Int) (n + 1) (k : Int) M2 = f_X10_counts_L24 (a : Int) (b : Int) n ((k + 1 : Nat) : Int) _
      rw [f_X10_counts_L24, if_pos (by rw [ho2.1]; omega), if_pos ⟨by omega, by omega⟩, Int.toNat_natCast, r_hi h.1 ha2 ho2 hk ha, Option.bind_some, if_pos ⟨by omega, by omega⟩, r_hi h.1 ha2 ho2 hk hb, Option.bind_some, ew (), if_pos ⟨by omega, by omega⟩, if_pos ⟨by omega, by omega⟩, Int.toNat_natCast, p2 i0 hi1, w32_n1 (by omega), w32_n1 (by omega)]
    · rw [mset_if, ck_s hk]
      unfold c2
      rw [hi0]
      by_cases e : j = i0
      · subst e; rw [if_pos rfl, if_pos (by simp)]
      · rw [if_neg e, if_neg (by simp; exact fun q => e q.symm)]; exact p2 j hj) (FT M).length 100000 0 MA (by omega) (by omega) ⟨z1, fun j hj => by rw [z2 j hj]; rfl⟩
  have e : f_X10_counts_L24 (a : Int) (b : Int) 100000 0 MA = f_X10_counts_L24 (a : Int) (b : Int) (n + 1) (((FT M).length : Nat) : Int) M2 := e
  have ho2 : FO M M2 := ho1.of g1 (by decide)
  refine ⟨M2, ?_, g1, fun k hk => by rw [g2 k hk, ck_all]; rfl⟩
  unfold f_X10_counts
  rw [e0, f_X10_counts_L2, if_neg (by decide), e, f_X10_counts_L24, if_neg (by rw [ho2.1]; omega)]
theorem r_teaching {M M1 : Mem} {l : Nat} (h : Inv M) (ha1 : agr M M1) (ho1 : FO M M1) (hl2 : l < 10) :
    ∃ M2, f_X10_teaching (l : Int) M1 = some (((te M l : Nat) : Int), M2) ∧ agx [54, 55, 62] M1 M2 := by
  obtain ⟨MA, eA, z1, z2⟩ := r_counts (a := l) (b := l) h ha1 ho1 hl2 hl2
  have ec : ∀ i : Nat, i < 64 → ct M (c2 M l l (65 * i)) = ct M (fun t => hd M l t == i) := by
    intro i hi
    unfold ct
    refine List.countP_congr (fun t ht => ?_)
    unfold c2
    simp only [beq_iff_eq]
    constructor <;> intro q <;> omega
  obtain ⟨n, st, e, hP1, hP2⟩ := loopN (N := 64) (F := fun n i (st : Int × Mem) => f_X10_teaching_L10 (l : Int) n st.1 (i : Int) st.2) (P := fun i st => st.1 = ((teA M l i : Nat) : Int) ∧ agx [54, 55] MA st.2) (by
    intro n i st hi hP
    obtain ⟨h1, h2⟩ := hP
    have ha : agr M st.2 := (ha1.trans (agr.of z1 (by decide))).trans (agr.of h2 (by decide))
    have e62 : st.2 62 (65 * i) = ((ct M (fun t => hd M l t == i) : Nat) : Int) := by rw [h2 62 (by decide), z2 _ (by omega), ec i hi]
    have hle := teA_le M l (i := i + 1) (by omega)
    have es : teA M l (i + 1) = teA M l i + ct M (fun t => hd M l t == i) * tw M l i (ct M (fun t => hd M l t == i)) := su_s _ _
    rw [es] at hle
    have e65 : ∀ _ : Unit, w32 (65 * (i : Int)) = ((65 * i : Nat) : Int) := fun _ => by rw [w32_id (by omega) (by omega)]; omega
    show ∃ st' : Int × Mem, f_X10_teaching_L10 (l : Int) (n + 1) st.1 (i : Int) st.2 = f_X10_teaching_L10 (l : Int) n st'.1 ((i + 1 : Nat) : Int) st'.2 ∧ _
    rw [f_X10_teaching_L10, if_pos (by omega), e65 (), if_pos ⟨by omega, by omega⟩, Int.toNat_natCast, e62, w32_n1 (a := i) (by omega)]
    by_cases hc : 0 < ct M (fun t => hd M l t == i)
    · obtain ⟨M3, e3, g3⟩ := r_asks' (M := M) (M2 := st.2) (p := 2) (l := l) (s := i) (guest := 0) (left := ((ct M (fun t => hd M l t == i) : Nat) : Int)) h ha (by decide) hl2 hi
      have e3' : f_X10_asksOf 2 (l : Int) (i : Int) 0 ((ct M (fun t => hd M l t == i) : Nat) : Int) st.2 = some (sy M (rl M) 2 (PR M l) (i : Int) (l : Int) 0 ((ct M (fun t => hd M l t == i) : Nat) : Int), M3) := e3
      rw [(tw_e M l i _).1] at e3'
      refine ⟨(((teA M l (i + 1) : Nat) : Int), M3), ?_, rfl, h2.trans g3⟩
      rw [if_pos (by omega)]
      refine ob_I e3' ?_
      have em : ∀ _ : Unit, w32 (((ct M (fun t => hd M l t == i) : Nat) : Int) * ((tw M l i (ct M (fun t => hd M l t == i)) : Nat) : Int)) = ((ct M (fun t => hd M l t == i) * tw M l i (ct M (fun t => hd M l t == i)) : Nat) : Int) := fun _ => by
        rw [← Int.natCast_mul, w32_id (by omega) (by omega)]
      rw [em (), h1, w32_id (by omega) (by omega), es, ← Int.natCast_add]
    · refine ⟨(((teA M l (i + 1) : Nat) : Int), st.2), ?_, rfl, h2⟩
      rw [if_neg (by omega), h1, es, show ct M (fun t => hd M l t == i) = 0 by omega, Nat.zero_mul, Int.add_zero, w32_id (by omega) (by omega)] <;> simp only [Nat.add_zero]) 64 100000 0 (0, MA) (by omega) (by omega) ⟨rfl, agx.refl⟩
  have e : f_X10_teaching_L10 (l : Int) 100000 0 0 MA = f_X10_teaching_L10 (l : Int) (n + 1) st.1 ((64 : Nat) : Int) st.2 := e
  refine ⟨st.2, ?_, (z1.mono (by decide)).trans (hP2.mono (by decide))⟩
  unfold f_X10_teaching
  refine ob_I eA ?_
  rw [e, f_X10_teaching_L10, if_neg (by decide), hP1]; rfl
/-! the best of several -/
def bstA (st : Int × Nat) (id : Int) (v : Nat) : Int × Nat := if st.1 = -1 ∨ st.2 < v then (id, v) else st
def bsJ (st : Int × Nat) : Prop := st.1 = -1 → st.2 = 0
theorem bst_J {st : Int × Nat} {id : Int} {v : Nat} (hid : id ≠ -1) (h : bsJ st) : bsJ (bstA st id v) := by
  unfold bstA
  by_cases hc : st.1 = -1 ∨ st.2 < v
  · rw [if_pos hc]; exact fun q => absurd q hid
  · rw [if_neg hc]; exact h
def tsA (M : Mem) : Nat → Int × Nat
  | 0 => (-1, 0)
  | k + 1 => bstA (tsA M k) (k : Int) (te M k)
theorem tsA_J (M : Mem) : ∀ k : Nat, bsJ (tsA M k) := by
  intro k
  induction k with
  | zero => exact fun _ => rfl
  | succ k ih => exact bst_J (by omega) ih
theorem op_taste {M : Mem} (h : Inv M) (x : Int) : OK2 (f_X9_taste x) (f_X10_taste x) M := by
  by_cases h0 : f_X9_within x 0 1 = 0
  · exact OK2.no h (by rw [f_X9_taste, if_pos h0]) (by rw [f_X10_taste, in_w, if_pos h0])
  refine qry h fun M1 e1 a1 i1 c1 => ?_
  have l2 := i1.1.1.2.1
  have e33 : M1 3 3 = (ln M1 : Int) := by rw [i1.2.1.1.1, i1.1.1.1]
  have e0 : M1 38 0 = (ln M1 : Int) := i1.1.1.1
  obtain ⟨n, ⟨sa, sb, M2⟩, e, p1, p2, p3⟩ := loopN (N := ln M1) (F := fun n k (st : Int × Int × Mem) => f_X9_taste_L25 (fun y248 y249 M250 => if x = 0 then some (y248, M250) else some (y249, M250)) x n st.1 st.2.1 (k : Int) st.2.2) (P := fun k st => st.1 = (tsA M1 k).1 ∧ st.2.1 = (((tsA M1 k).2 : Nat) : Int) ∧ agx [19, 20] M1 st.2.2) (by
    intro n k st hk hP
    obtain ⟨q1, q2, q3⟩ := hP
    obtain ⟨M3, e3, g3⟩ := c_teaching (l := k) i1 (agq.of q3 (by decide)) (c1.of (agq.of q3 (by decide)) q3 (by decide)) hk (by omega)
    refine ⟨((tsA M1 (k + 1)).1, (((tsA M1 (k + 1)).2 : Nat) : Int), M3), ?_, rfl, rfl, q3.trans g3⟩
    show f_X9_taste_L25 (fun y248 y249 M250 => if x = 0 then some (y248, M250) else some (y249, M250)) x (n + 1) st.1 st.2.1 (k : Int) st.2.2 = f_X9_taste_L25 (fun y248 y249 M250 => if x = 0 then some (y248, M250) else some (y249, M250)) x n _ _ ((k + 1 : Nat) : Int) M3
    rw [f_X9_taste_L25, if_pos (by rw [q3 3 (by decide)]; omega)]
    refine ob_I e3 ?_
    rw [q1, q2, w32_n1 (by omega), show tsA M1 (k + 1) = bstA (tsA M1 k) (k : Int) (te M1 k) from rfl]
    unfold bstA
    by_cases hc1 : (tsA M1 k).1 = -1
    · rw [if_pos hc1, if_pos (Or.inl hc1)]
    · rw [if_neg hc1]
      by_cases hc2 : (tsA M1 k).2 < te M1 k
      · rw [if_pos (by omega), if_pos (Or.inr hc2)]
      · rw [if_neg (by omega), if_neg (by omega)]) (ln M1) 100000 0 (-1, 0, M1) (by omega) (by omega) ⟨rfl, rfl, agx.refl⟩
  have e : f_X9_taste_L25 (fun y248 y249 M250 => if x = 0 then some (y248, M250) else some (y249, M250)) x 100000 (-1) 0 0 M1 = f_X9_taste_L25 (fun y248 y249 M250 => if x = 0 then some (y248, M250) else some (y249, M250)) x (n + 1) sa sb ((ln M1 : Nat) : Int) M2 := e
  have p1 : sa = (tsA M1 (ln M1)).1 := p1
  have p2 : sb = (((tsA M1 (ln M1)).2 : Nat) : Int) := p2
  have p3 : agx [19, 20] M1 M2 := p3
  have hq : agq M1 M2 := agq.of p3 (by decide)
  refine ⟨if x = 0 then (tsA M1 (ln M1)).1 else (((tsA M1 (ln M1)).2 : Nat) : Int), M2, ?_, hq, i1.q hq (fun _ => c1.of hq p3 (by decide)), c1.of hq p3 (by decide), fun M3 e3 a3 o3 => ?_⟩
  · rw [f_X9_taste, if_neg h0]
    refine ob_I e1 ?_
    rw [e, f_X9_taste_L25, if_neg (by rw [p3 3 (by decide)]; omega), p1, p2]
    by_cases hx : x = 0
    · rw [if_pos hx, if_pos hx]
    · rw [if_neg hx, if_neg hx]
  · have i2 : Inv M2 := i1.q hq (fun _ => c1.of hq p3 (by decide))
    have ets : tsA M2 = tsA M1 := by
      have ete : te M2 = te M1 := by
        funext l; unfold te teA tw; rw [hq.eCH0.2.1, hq.ehd, hq.esy, hq.erl, hq.ePR]
      funext k
      induction k with
      | zero => rfl
      | succ k ih => show bstA (tsA M2 k) _ _ = bstA (tsA M1 k) _ _; rw [ih, ete]
    have e20 : M2 38 0 = (ln M1 : Int) := by rw [hq.s 0, e0]
    have eln2 : ln M2 = ln M1 := hq.eln
    obtain ⟨n2, st2, e2, r1, r2, r3⟩ := loopN (N := ln M1) (F := fun n k (st : Int × Int × Mem) => f_X10_taste_L23 (fun y501 y502 M503 => if x = 0 then some (y501, M503) else some (y502, M503)) x n st.1 st.2.1 (k : Int) st.2.2) (P := fun k st => st.1 = (tsA M2 k).1 ∧ st.2.1 = (((tsA M2 k).2 : Nat) : Int) ∧ agx [54, 55, 62] M3 st.2.2) (by
      intro n k st hk hP
      obtain ⟨q1, q2, q3⟩ := hP
      obtain ⟨M4, e4, g4⟩ := r_teaching (l := k) i2 (a3.trans (agr.of q3 (by decide))) (o3.of q3 (by decide)) (by omega)
      have hJ := tsA_J M2 k
      refine ⟨((tsA M2 (k + 1)).1, (((tsA M2 (k + 1)).2 : Nat) : Int), M4), ?_, rfl, rfl, q3.trans g4⟩
      show f_X10_taste_L23 (fun y501 y502 M503 => if x = 0 then some (y501, M503) else some (y502, M503)) x (n + 1) st.1 st.2.1 (k : Int) st.2.2 = f_X10_taste_L23 (fun y501 y502 M503 => if x = 0 then some (y501, M503) else some (y502, M503)) x n _ _ ((k + 1 : Nat) : Int) M4
      rw [f_X10_taste_L23, if_pos (by rw [q3 38 (by decide), a3.s 0, e20]; omega)]
      refine ob_I e4 ?_
      rw [q1, q2, w32_n1 (by omega), show tsA M2 (k + 1) = bstA (tsA M2 k) (k : Int) (te M2 k) from rfl]
      unfold bstA
      by_cases hc1 : (tsA M2 k).1 = -1
      · have hz := hJ hc1
        rw [if_pos hc1, if_pos (Or.inl hc1)]
        by_cases hc2 : (tsA M2 k).2 < te M2 k
        · rw [if_pos (by omega)]
        · rw [if_neg (by omega), hz, show te M2 k = 0 by omega]
      · rw [if_neg hc1]
        by_cases hc2 : (tsA M2 k).2 < te M2 k
        · rw [if_pos (by omega), if_pos (by omega), if_pos (Or.inr hc2)]
        · rw [if_neg (by omega), if_neg (by omega), if_neg (by omega)]) (ln M1) 100000 0 (-1, 0, M3) (by omega) (by omega) ⟨rfl, rfl, agx.refl⟩
    have e2 : f_X10_taste_L23 (fun y501 y502 M503 => if x = 0 then some (y501, M503) else some (y502, M503)) x 100000 (-1) 0 0 M3 = f_X10_taste_L23 (fun y501 y502 M503 => if x = 0 then some (y501, M503) else some (y502, M503)) x (n2 + 1) st2.1 st2.2.1 ((ln M1 : Nat) : Int) st2.2.2 := e2
    refine ⟨st2.2.2, ?_, a3.trans (agr.of r3 (by decide))⟩
    rw [f_X10_taste, in_w, if_neg h0]
    refine ob_I e3 ?_
    rw [e2, f_X10_taste_L23, if_neg (by rw [r3 38 (by decide), a3.s 0, e20]; omega), r1, r2, ets]
    by_cases hx : x = 0
    · rw [if_pos hx, if_pos hx]
    · rw [if_neg hx, if_neg hx]
