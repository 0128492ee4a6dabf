/-! two lines at once -/
theorem su_upd {f g : Nat → Nat} {i0 : Nat} (h : ∀ k, k ≠ i0 → g k = f k) : ∀ N : Nat, i0 < N → su g N + f i0 = su f N + g i0 := by
  intro N
  induction N with
  | zero => intro q; omega
  | succ N ih =>
    intro q
    rw [su_s, su_s]
    by_cases e : i0 = N
    · subst e
      have : su g i0 = su f i0 := su_c (fun k hk => h k (by omega))
      omega
    · have := ih (by omega)
      rw [h N (fun q => e q.symm)]; omega
def sqL (M : Mem) (a b : Nat) (L : List Nat) : Nat := su (fun k => L.countP (c2 M a b k) * L.countP (c2 M a b k)) 4096
theorem sqL_le (M : Mem) (a b : Nat) (L : List Nat) (h1 : L.length ≤ 720) (h2 : ∀ t ∈ L, t < 720) : sqL M a b L ≤ 518400 := by
  have h3 : sqL M a b L ≤ su (fun k => L.countP (c2 M a b k) * 720) 4096 := su_le (fun k => Nat.mul_le_mul_left _ (Nat.le_trans List.countP_le_length h1))
  have h4 : su (fun k => L.countP (c2 M a b k) * 720) 4096 = sl L (fun _ => 720) := su_sl (h := fun t => 64 * hd M a t + hd M b t) (N := 4096) (fun _ => 720) L (fun t ht => by
    have x1 := hd_lt (M := M) (l := a) (h2 t ht)
    have x2 := hd_lt (M := M) (l := b) (h2 t ht)
    omega)
  have h5 := sl_le (f := fun _ => 720) (c := 720) L (fun _ _ => Nat.le_refl _)
  omega
def sq (M : Mem) (a b : Nat) : Nat := sqL M a b (FT M)
theorem sq_le (M : Mem) (a b : Nat) : sq M a b ≤ 518400 := sqL_le M a b (FT M) (FT_len M) (fun _ h => FT_lt h)
theorem c_squares {M M1 : Mem} {a b : Nat} (h : Inv M) (hq1 : agq M M1) (hc1 : CH M1) (ha : a < 10) (hb : b < 10) :
    ∃ M2, f_X1_squares (a : Int) (b : Int) M1 = some (((sq M a b : Nat) : Int), M2) ∧ agx [26] M1 M2 := by
  have hlen := FT_len M
  obtain ⟨MA, eA, z1, z2⟩ := c_clear (M := M1) (ci := 26) (N := 4096) (by decide)
  obtain ⟨n, ⟨sa, M2⟩, e, p1, p2, p3⟩ := loopN (N := (FT M).length) (F := fun n k (st : Int × Mem) => f_X1_squares_L13 (a : Int) (b : Int) n st.1 (k : Int) st.2) (P := fun k st => st.1 = ((sqL M a b ((FT M).take k) : Nat) : Int) ∧ agx [26] M1 st.2 ∧ ∀ j : Nat, j < 4096 → st.2 26 j = ((ck (FT M) (c2 M a b j) k : Nat) : Int)) (by
    intro n k ⟨x4, M2⟩ hk ⟨q1, q2, q3⟩
    have q1 : x4 = ((sqL M a b ((FT M).take k) : Nat) : Int) := q1
    have q2 : agx [26] M1 M2 := q2
    have q3 : ∀ j : Nat, j < 4096 → M2 26 j = ((ck (FT M) (c2 M a b j) k : Nat) : Int) := q3
    have hq : agq M M2 := hq1.trans (agq.of q2 (by decide))
    have hC : CH M2 := hc1.of (agq.of q2 (by decide)) q2 (by decide)
    have e21 : M2 21 5 = ((FT M).length : Int) := by rw [hC.1, hq.eFT]
    have et : f_X1_tongueOf (k : Int) M2 = (((FT M).getD k 0 : Nat) : Int) := by rw [c_tongueOf hC (by rw [hq.eFT]; exact hk), hq.eFT]
    have hcl : CLn M2 := by rw [hq.eCLn]; exact h.2.1.1
    have ea : f_X3_had (a : Int) (((FT M).getD k 0 : Nat) : Int) M2 = ((hd M a ((FT M).getD k 0) : Nat) : Int) := by rw [c_had hcl ha (FT_lt (getD_mem hk)), hq.ehd]
    have eb : f_X3_had (b : Int) (((FT M).getD k 0 : Nat) : Int) M2 = ((hd M b ((FT M).getD k 0) : Nat) : Int) := by rw [c_had hcl hb (FT_lt (getD_mem hk)), hq.ehd]
    have h1 := hd_lt (M := M) (l := a) (FT_lt (getD_mem hk))
    have h2 := hd_lt (M := M) (l := b) (FT_lt (getD_mem hk))
    have ew : ∀ _ : Unit, w32 (w32 (((hd M a ((FT M).getD k 0) : Nat) : Int) * 64) + ((hd M b ((FT M).getD k 0) : Nat) : Int)) = ((64 * hd M a ((FT M).getD k 0) + hd M b ((FT M).getD k 0) : Nat) : Int) := fun _ => by
      rw [w32_id (z := ((hd M a ((FT M).getD k 0) : Nat) : Int) * 64) (by omega) (by omega), w32_id (by omega) (by omega)]; omega
    have hstep : ∀ j : Nat, ck (FT M) (c2 M a b j) (k + 1) = ck (FT M) (c2 M a b j) k + if j = 64 * hd M a ((FT M).getD k 0) + hd M b ((FT M).getD k 0) then 1 else 0 := by
      intro j
      rw [ck_s hk]
      unfold c2
      by_cases e : j = 64 * hd M a ((FT M).getD k 0) + hd M b ((FT M).getD k 0)
      · rw [if_pos (by simp [e]), if_pos e]
      · rw [if_neg (by simp; exact fun q => e q.symm), if_neg e]
    generalize hi0 : 64 * hd M a ((FT M).getD k 0) + hd M b ((FT M).getD k 0) = i0 at ew hstep
    have hi1 : i0 < 4096 := by omega
    have hle := ck_le (FT M) (c2 M a b i0) k
    have hsq1 := sqL_le M a b ((FT M).take (k + 1)) (by rw [List.length_take]; omega) (fun t ht => FT_lt (List.mem_of_mem_take ht))
    have hsum : sqL M a b ((FT M).take (k + 1)) = sqL M a b ((FT M).take k) + (2 * ck (FT M) (c2 M a b i0) k + 1) := by
      have hu := su_upd (f := fun j => ck (FT M) (c2 M a b j) k * ck (FT M) (c2 M a b j) k) (g := fun j => ck (FT M) (c2 M a b j) (k + 1) * ck (FT M) (c2 M a b j) (k + 1)) (i0 := i0) (fun j hj => by simp only [hstep j, if_neg hj] <;> simp only [Nat.add_zero]) 4096 hi1
      simp only [hstep i0, if_pos] at hu
      have ex : (ck (FT M) (c2 M a b i0) k + 1) * (ck (FT M) (c2 M a b i0) k + 1) = ck (FT M) (c2 M a b i0) k * ck (FT M) (c2 M a b i0) k + (2 * ck (FT M) (c2 M a b i0) k + 1) := by
        rw [Nat.add_mul, Nat.mul_add, Nat.mul_one, Nat.one_mul]; omega
      rw [ex] at hu
      show su (fun j => ck (FT M) (c2 M a b j) (k + 1) * ck (FT M) (c2 M a b j) (k + 1)) 4096 = su (fun j => ck (FT M) (c2 M a b j) k * ck (FT M) (c2 M a b j) k) 4096 + _
      omega
    refine ⟨(((sqL M a b ((FT M).take (k + 1)) : Nat) : Int), mset M2 26 i0 ((ck (FT M) (c2 M a b i0) k + 1 : Nat) : Int)), ?_, rfl, q2.mset (by decide), fun j hj => ?_⟩
    · show f_X1_squares_L13 (a : Int) (b : Int) (n + 1) x4 (k : Int) M2 = f_X1_squares_L13 (a : Int) (b : Int) n _ ((k + 1 : Nat) : Int) _
      have e2c : ∀ _ : Unit, w32 (w32 (2 * ((ck (FT M) (c2 M a b i0) k + 1 : Nat) : Int)) - 1) = ((2 * ck (FT M) (c2 M a b i0) k + 1 : Nat) : Int) := fun _ => by
        rw [w32_id (z := 2 * ((ck (FT M) (c2 M a b i0) k + 1 : Nat) : Int)) (by omega) (by omega), w32_id (by omega) (by omega)]; omega
      rw [f_X1_squares_L13, if_pos (by rw [e21]; omega), et, ea, eb, ew (), rd_n hi1, q3 i0 hi1, w32_n1 (a := ck (FT M) (c2 M a b i0) k) (by omega), wr_n hi1, e2c (), q1, w32_id (by omega) (by omega), w32_n1 (a := k) (by omega), hsum, Int.natCast_add (sqL M a b ((FT M).take k))]
    · show mset M2 26 i0 ((ck (FT M) (c2 M a b i0) k + 1 : Nat) : Int) 26 j = _
      rw [mset_if, hstep j]
      by_cases e : j = i0
      · subst e; rw [if_pos rfl, if_pos rfl]
      · rw [if_neg e, if_neg e, q3 j hj]; rfl) (FT M).length 100000 0 (0, MA) (by omega) (by omega) ⟨by
        have : sqL M a b ((FT M).take 0) = 0 := by unfold sqL; exact su_z 4096
        rw [this]; rfl, z1, fun j hj => by show MA 26 j = _; rw [z2 j hj]; rfl⟩
  have e : f_X1_squares_L13 (a : Int) (b : Int) 100000 0 0 MA = f_X1_squares_L13 (a : Int) (b : Int) (n + 1) sa (((FT M).length : Nat) : Int) M2 := e
  have p1 : sa = ((sqL M a b ((FT M).take (FT M).length) : Nat) : Int) := p1
  have p2 : agx [26] M1 M2 := p2
  have hC : CH M2 := hc1.of (agq.of p2 (by decide)) p2 (by decide)
  have hq : agq M M2 := hq1.trans (agq.of p2 (by decide))
  refine ⟨M2, ?_, p2⟩
  unfold f_X1_squares
  refine ob_I eA ?_
  rw [e, f_X1_squares_L13, if_neg (by rw [hC.1, hq.eFT]; omega), p1, List.take_length]; rfl
theorem r_sqL {K : Int → Mem → Option (Int × Mem)} {x1 x2 x3 x4 x5 : Int} {M M2 : Mem} {a b : Nat} (h62 : ∀ k : Nat, k < 4096 → M2 62 k = ((ct M (c2 M a b k) : Nat) : Int)) : f_X10_two_L61 K x1 x2 x3 x4 x5 100000 0 0 M2 = K ((sq M a b : Nat) : Int) M2 := by
  obtain ⟨n, st, e, hP⟩ := loopN (N := 4096) (F := fun n i (st : Int) => f_X10_two_L61 K x1 x2 x3 x4 x5 n st (i : Int) M2) (P := fun i st => st = ((su (fun k => ct M (c2 M a b k) * ct M (c2 M a b k)) i : Nat) : Int)) (by
    intro n i st hi hP
    subst hP
    have hle : su (fun k => ct M (c2 M a b k) * ct M (c2 M a b k)) (i + 1) ≤ 518400 := Nat.le_trans (su_mono (by omega : i + 1 ≤ 4096)) (sq_le M a b)
    rw [su_s] at hle
    refine ⟨_, ?_, rfl⟩
    show f_X10_two_L61 K x1 x2 x3 x4 x5 (n + 1) _ (i : Int) M2 = f_X10_two_L61 K x1 x2 x3 x4 x5 n _ ((i + 1 : Nat) : Int) M2
    rw [f_X10_two_L61, if_pos (by omega), if_pos ⟨by omega, by omega⟩, if_pos ⟨by omega, by omega⟩, Int.toNat_natCast, h62 i hi, ← Int.natCast_mul, w32_id (z := ((ct M (c2 M a b i) * ct M (c2 M a b i) : Nat) : Int)) (by omega) (by omega), w32_id (by omega) (by omega), w32_n1 (a := i) (by omega), su_s, ← Int.natCast_add]) 4096 100000 0 0 (by omega) (by omega) rfl
  have e : f_X10_two_L61 K x1 x2 x3 x4 x5 100000 0 0 M2 = f_X10_two_L61 K x1 x2 x3 x4 x5 (n + 1) st ((4096 : Nat) : Int) M2 := e
  rw [e, f_X10_two_L61, if_neg (by decide), hP]; rfl
def bstB (st : Int × Nat) (id : Int) (v : Nat) : Int × Nat := if st.1 = -1 ∨ v < st.2 then (id, v) else st
def twI (M : Mem) (a : Nat) (st : Int × Nat) : Nat → Int × Nat
  | 0 => st
  | d + 1 => bstB (twI M a st d) ((10 * a + (a + 1 + d) : Nat) : Int) (sq M a (a + 1 + d))
def twO (M : Mem) : Nat → Int × Nat
  | 0 => (-1, 0)
  | a + 1 => twI M a (twO M a) (ln M - (a + 1))
theorem w10 {a b : Nat} (ha : a < 10) (hb : b < 100) : w32 (w32 (10 * (a : Int)) + (b : Int)) = ((10 * a + b : Nat) : Int) := by
  rw [w32_id (z := 10 * (a : Int)) (by omega) (by omega), w32_id (by omega) (by omega)]; omega
theorem c_twoI {K : Int → Int → Mem → Option (Int × Mem)} {x1 : Int} {M M1 : Mem} {a : Nat} {s0 : Int × Nat} (h : Inv M) (hq1 : agq M M1) (hc1 : CH M1) (ha : a < ln M) :
    ∃ M2, f_X9_two_L43 K x1 (a : Int) 100000 s0.1 ((s0.2 : Nat) : Int) ((a + 1 : Nat) : Int) M1 = K (twI M a s0 (ln M - (a + 1))).1 (((twI M a s0 (ln M - (a + 1))).2 : Nat) : Int) M2 ∧ agx [26] M1 M2 := by
  have l2 := h.1.1.2.1
  have e33 : M 3 3 = (ln M : Int) := by rw [h.2.1.1.1, h.1.1.1]
  obtain ⟨n, ⟨sa, sb, M2⟩, e, p1, p2, p3⟩ := loopN (N := ln M - (a + 1)) (F := fun n d (st : Int × Int × Mem) => f_X9_two_L43 K x1 (a : Int) n st.1 st.2.1 ((a + 1 + d : Nat) : Int) st.2.2) (P := fun d st => st.1 = (twI M a s0 d).1 ∧ st.2.1 = (((twI M a s0 d).2 : Nat) : Int) ∧ agx [26] M1 st.2.2) (by
    intro n d ⟨sa, sb, M2⟩ hd ⟨q1, q2, q3⟩
    have q1 : sa = (twI M a s0 d).1 := q1
    have q2 : sb = (((twI M a s0 d).2 : Nat) : Int) := q2
    have q3 : agx [26] M1 M2 := q3
    have hq : agq M M2 := hq1.trans (agq.of q3 (by decide))
    obtain ⟨M3, e3, g3⟩ := c_squares (a := a) (b := a + 1 + d) h hq (hc1.of (agq.of q3 (by decide)) q3 (by decide)) (by omega) (by omega)
    refine ⟨((twI M a s0 (d + 1)).1, (((twI M a s0 (d + 1)).2 : Nat) : Int), M3), ?_, rfl, rfl, q3.trans g3⟩
    show f_X9_two_L43 K x1 (a : Int) (n + 1) sa sb ((a + 1 + d : Nat) : Int) M2 = f_X9_two_L43 K x1 (a : Int) n _ _ ((a + 1 + (d + 1) : Nat) : Int) M3
    rw [show a + 1 + (d + 1) = a + 1 + d + 1 from rfl, f_X9_two_L43, if_pos (by rw [hq.c 3 (by decide), e33]; omega)]
    refine ob_I e3 ?_
    rw [q1, q2, w32_n1 (by omega), w10 (by omega) (by omega), show twI M a s0 (d + 1) = bstB (twI M a s0 d) ((10 * a + (a + 1 + d) : Nat) : Int) (sq M a (a + 1 + d)) from rfl]
    unfold bstB
    by_cases hc1 : (twI M a s0 d).1 = -1
    · rw [if_pos hc1, if_pos (Or.inl hc1)]
    · rw [if_neg hc1]
      by_cases hc2 : sq M a (a + 1 + d) < (twI M a s0 d).2
      · rw [if_pos (by omega), if_pos (Or.inr hc2)]
      · rw [if_neg (by omega), if_neg (by omega)]) (ln M - (a + 1)) 100000 0 (s0.1, ((s0.2 : Nat) : Int), M1) (by omega) (by omega) ⟨rfl, rfl, agx.refl⟩
  have e : f_X9_two_L43 K x1 (a : Int) 100000 s0.1 ((s0.2 : Nat) : Int) ((a + 1 : Nat) : Int) M1 = f_X9_two_L43 K x1 (a : Int) (n + 1) sa sb ((a + 1 + (ln M - (a + 1)) : Nat) : Int) M2 := e
  have p1 : sa = (twI M a s0 (ln M - (a + 1))).1 := p1
  have p2 : sb = (((twI M a s0 (ln M - (a + 1))).2 : Nat) : Int) := p2
  have p3 : agx [26] M1 M2 := p3
  have hq : agq M M2 := hq1.trans (agq.of p3 (by decide))
  exact ⟨M2, by rw [e, f_X9_two_L43, if_neg (by rw [hq.c 3 (by decide), e33]; omega), p1, p2], p3⟩
theorem r_twoI {K : Int → Int → Mem → Option (Int × Mem)} {x1 : Int} {M M1 : Mem} {a : Nat} {s0 : Int × Nat} (h : Inv M) (ha1 : agr M M1) (ho1 : FO M M1) (ha : a < ln M) :
    ∃ M2, f_X10_two_L38 K x1 (a : Int) 100000 s0.1 ((s0.2 : Nat) : Int) ((a + 1 : Nat) : Int) M1 = K (twI M a s0 (ln M - (a + 1))).1 (((twI M a s0 (ln M - (a + 1))).2 : Nat) : Int) M2 ∧ agx [62] M1 M2 := by
  have l2 := h.1.1.2.1
  have e0 : M 38 0 = (ln M : Int) := h.1.1.1
  obtain ⟨n, ⟨sa, sb, M2⟩, e, p1, p2, p3⟩ := loopN (N := ln M - (a + 1)) (F := fun n d (st : Int × Int × Mem) => f_X10_two_L38 K x1 (a : Int) n st.1 st.2.1 ((a + 1 + d : Nat) : Int) st.2.2) (P := fun d st => st.1 = (twI M a s0 d).1 ∧ st.2.1 = (((twI M a s0 d).2 : Nat) : Int) ∧ agx [62] M1 st.2.2) (by
    intro n d ⟨sa, sb, M2⟩ hd ⟨q1, q2, q3⟩
    have q1 : sa = (twI M a s0 d).1 := q1
    have q2 : sb = (((twI M a s0 d).2 : Nat) : Int) := q2
    have q3 : agx [62] M1 M2 := q3
    have hq : agr M M2 := ha1.trans (agr.of q3 (by decide))
    obtain ⟨M3, e3, g3, g4⟩ := r_counts (a := a) (b := a + 1 + d) h hq (ho1.of q3 (by decide)) (by omega) (by omega)
    refine ⟨((twI M a s0 (d + 1)).1, (((twI M a s0 (d + 1)).2 : Nat) : Int), M3), ?_, rfl, rfl, q3.trans g3⟩
    show f_X10_two_L38 K x1 (a : Int) (n + 1) sa sb ((a + 1 + d : Nat) : Int) M2 = f_X10_two_L38 K x1 (a : Int) n _ _ ((a + 1 + (d + 1) : Nat) : Int) M3
    rw [show a + 1 + (d + 1) = a + 1 + d + 1 from rfl, f_X10_two_L38, if_pos (by rw [hq.s 0, e0]; omega)]
    refine ob_I e3 ?_
    rw [r_sqL g4, q1, q2, w32_n1 (by omega), w10 (by omega) (by omega), show twI M a s0 (d + 1) = bstB (twI M a s0 d) ((10 * a + (a + 1 + d) : Nat) : Int) (sq M a (a + 1 + d)) from rfl]
    unfold bstB
    by_cases hc1 : (twI M a s0 d).1 = -1
    · rw [if_pos hc1, if_pos (Or.inl hc1)]
    · rw [if_neg hc1]
      by_cases hc2 : sq M a (a + 1 + d) < (twI M a s0 d).2
      · rw [if_pos (by omega), if_pos (Or.inr hc2)]
      · rw [if_neg (by omega), if_neg (by omega)]) (ln M - (a + 1)) 100000 0 (s0.1, ((s0.2 : Nat) : Int), M1) (by omega) (by omega) ⟨rfl, rfl, agx.refl⟩
  have e : f_X10_two_L38 K x1 (a : Int) 100000 s0.1 ((s0.2 : Nat) : Int) ((a + 1 : Nat) : Int) M1 = f_X10_two_L38 K x1 (a : Int) (n + 1) sa sb ((a + 1 + (ln M - (a + 1)) : Nat) : Int) M2 := e
  have p1 : sa = (twI M a s0 (ln M - (a + 1))).1 := p1
  have p2 : sb = (((twI M a s0 (ln M - (a + 1))).2 : Nat) : Int) := p2
  have p3 : agx [62] M1 M2 := p3
  have hq : agr M M2 := ha1.trans (agr.of p3 (by decide))
  exact ⟨M2, by rw [e, f_X10_two_L38, if_neg (by rw [hq.s 0, e0]; omega), p1, p2], p3⟩
theorem c_twoO {K : Int → Int → Mem → Option (Int × Mem)} {x1 : Int} {M : Mem} (h : Inv M) (c : CH M) :
    ∃ M2, f_X9_two_L25 K x1 100000 (-1) 0 0 M = K (twO M (ln M)).1 (((twO M (ln M)).2 : Nat) : Int) M2 ∧ agx [26] M M2 := by
  have l2 := h.1.1.2.1
  have e33 : M 3 3 = (ln M : Int) := by rw [h.2.1.1.1, h.1.1.1]
  obtain ⟨n, ⟨sa, sb, M2⟩, e, p1, p2, p3⟩ := loopN (N := ln M) (F := fun n a (st : Int × Int × Mem) => f_X9_two_L25 K x1 n st.1 st.2.1 (a : Int) st.2.2) (P := fun a st => st.1 = (twO M a).1 ∧ st.2.1 = (((twO M a).2 : Nat) : Int) ∧ agx [26] M st.2.2) (by
    intro n a ⟨sa, sb, M2⟩ ha ⟨q1, q2, q3⟩
    have q1 : sa = (twO M a).1 := q1
    have q2 : sb = (((twO M a).2 : Nat) : Int) := q2
    have q3 : agx [26] M M2 := q3
    have hq : agq M M2 := agq.of q3 (by decide)
    obtain ⟨M3, e3, g3⟩ := c_twoI (K := fun y255 y256 M257 => f_X9_two_L25 K x1 n y255 y256 (w32 ((a : Int) + 1)) M257) (x1 := x1) (a := a) (s0 := twO M a) h hq (c.of hq q3 (by decide)) ha
    refine ⟨((twO M (a + 1)).1, (((twO M (a + 1)).2 : Nat) : Int), M3), ?_, rfl, rfl, q3.trans g3⟩
    show f_X9_two_L25 K x1 (n + 1) sa sb (a : Int) M2 = f_X9_two_L25 K x1 n _ _ ((a + 1 : Nat) : Int) M3
    rw [f_X9_two_L25, if_pos (by rw [hq.c 3 (by decide), e33]; omega), q1, q2]
    have ew : ∀ _ : Unit, w32 ((a : Int) + 1) = ((a + 1 : Nat) : Int) := fun _ => w32_n1 (by omega)
    rw [ew ()] at e3
    rw [show twO M (a + 1) = twI M a (twO M a) (ln M - (a + 1)) from rfl, ew ()]
    exact e3) (ln M) 100000 0 (-1, 0, M) (by omega) (by omega) ⟨rfl, rfl, agx.refl⟩
  have e : f_X9_two_L25 K x1 100000 (-1) 0 0 M = f_X9_two_L25 K x1 (n + 1) sa sb ((ln M : Nat) : Int) M2 := e
  have p1 : sa = (twO M (ln M)).1 := p1
  have p2 : sb = (((twO M (ln M)).2 : Nat) : Int) := p2
  have p3 : agx [26] M M2 := p3
  exact ⟨M2, by rw [e, f_X9_two_L25, if_neg (by rw [p3 3 (by decide), e33]; omega), p1, p2], p3⟩
theorem r_twoO {K : Int → Int → Mem → Option (Int × Mem)} {x1 : Int} {M M1 : Mem} (h : Inv M) (ha1 : agr M M1) (ho1 : FO M M1) :
    ∃ M2, f_X10_two_L23 K x1 100000 (-1) 0 0 M1 = K (twO M (ln M)).1 (((twO M (ln M)).2 : Nat) : Int) M2 ∧ agx [62] M1 M2 := by
  have l2 := h.1.1.2.1
  have e0 : M 38 0 = (ln M : Int) := h.1.1.1
  obtain ⟨n, ⟨sa, sb, M2⟩, e, p1, p2, p3⟩ := loopN (N := ln M) (F := fun n a (st : Int × Int × Mem) => f_X10_two_L23 K x1 n st.1 st.2.1 (a : Int) st.2.2) (P := fun a st => st.1 = (twO M a).1 ∧ st.2.1 = (((twO M a).2 : Nat) : Int) ∧ agx [62] M1 st.2.2) (by
    intro n a ⟨sa, sb, M2⟩ ha ⟨q1, q2, q3⟩
    have q1 : sa = (twO M a).1 := q1
    have q2 : sb = (((twO M a).2 : Nat) : Int) := q2
    have q3 : agx [62] M1 M2 := q3
    have hq : agr M M2 := ha1.trans (agr.of q3 (by decide))
    obtain ⟨M3, e3, g3⟩ := r_twoI (K := fun y255 y256 M257 => f_X10_two_L23 K x1 n y255 y256 (w32 ((a : Int) + 1)) M257) (x1 := x1) (a := a) (s0 := twO M a) h hq (ho1.of q3 (by decide)) ha
    refine ⟨((twO M (a + 1)).1, (((twO M (a + 1)).2 : Nat) : Int), M3), ?_, rfl, rfl, q3.trans g3⟩
    show f_X10_two_L23 K x1 (n + 1) sa sb (a : Int) M2 = f_X10_two_L23 K x1 n _ _ ((a + 1 : Nat) : Int) M3
    rw [f_X10_two_L23, if_pos (by rw [hq.s 0, e0]; omega), q1, q2]
    have ew : ∀ _ : Unit, w32 ((a : Int) + 1) = ((a + 1 : Nat) : Int) := fun _ => w32_n1 (by omega)
    rw [ew ()] at e3
    rw [show twO M (a + 1) = twI M a (twO M a) (ln M - (a + 1)) from rfl, ew ()]
    exact e3) (ln M) 100000 0 (-1, 0, M1) (by omega) (by omega) ⟨rfl, rfl, agx.refl⟩
  have e : f_X10_two_L23 K x1 100000 (-1) 0 0 M1 = f_X10_two_L23 K x1 (n + 1) sa sb ((ln M : Nat) : Int) M2 := e
  have p1 : sa = (twO M (ln M)).1 := p1
  have p2 : sb = (((twO M (ln M)).2 : Nat) : Int) := p2
  have p3 : agx [62] M1 M2 := p3
  exact ⟨M2, by rw [e, f_X10_two_L23, if_neg (by rw [p3 38 (by decide), ha1.s 0, e0]; omega), p1, p2], p3⟩
theorem agq.etwo {M M' : Mem} (h : agq M M') : twO M' = twO M := by
  have esq : sq M' = sq M := by funext a b; unfold sq sqL c2; rw [h.eFT, h.ehd]
  have eI : twI M' = twI M := by
    funext a st d
    induction d with
    | zero => rfl
    | succ d ih => show bstB (twI M' a st d) _ _ = bstB (twI M a st d) _ _; rw [ih, esq]
  funext a
  induction a with
  | zero => rfl
  | succ a ih => show twI M' a (twO M' a) _ = twI M a (twO M a) _; rw [ih, eI, h.eln]
theorem op_two {M : Mem} (h : Inv M) (x : Int) : OK2 (f_X9_two x) (f_X10_two x) M := by
  by_cases h0 : f_X9_within x 0 1 = 0
  · exact OK2.no h (by rw [f_X9_two, if_pos h0]) (by rw [f_X10_two, in_w, if_pos h0])
  refine qry h fun M1 e1 a1 i1 c1 => ?_
  obtain ⟨M2, e, p3⟩ := c_twoO (K := fun y258 y259 M260 => if x = 0 then some (y258, M260) else some (y259, M260)) (x1 := x) i1 c1
  have hq : agq M1 M2 := agq.of p3 (by decide)
  have i2 : Inv M2 := i1.q hq (fun _ => c1.of hq p3 (by decide))
  refine ⟨if x = 0 then (twO M1 (ln M1)).1 else (((twO M1 (ln M1)).2 : Nat) : Int), M2, ?_, hq, i2, c1.of hq p3 (by decide), fun M3 e3 a3 o3 => ?_⟩
  · rw [f_X9_two, if_neg h0]
    refine ob_I e1 ?_
    rw [e]
    by_cases hx : x = 0
    · rw [if_pos hx, if_pos hx]
    · rw [if_neg hx, if_neg hx]
  · obtain ⟨M4, e4, p4⟩ := r_twoO (K := fun y513 y514 M515 => if x = 0 then some (y513, M515) else some (y514, M515)) (x1 := x) i2 a3 o3
    refine ⟨M4, ?_, a3.trans (agr.of p4 (by decide))⟩
    rw [f_X10_two, in_w, if_neg h0]
    refine ob_I e3 ?_
    rw [e4, hq.etwo, hq.eln]
    by_cases hx : x = 0
    · rw [if_pos hx, if_pos hx]
    · rw [if_neg hx, if_neg hx]
/-! what to ask -/
theorem bit_and : ∀ s : Nat, s < 64 → ∀ p : Nat, p < 6 → (s &&& 2 ^ p == 2 ^ p) = ((s >>> p) % 2 == 1) := by decide +kernel
def hv (M : Mem) (l p : Nat) : Nat := cw M l (fun s => s &&& 2 ^ p == 2 ^ p)
def les (M : Mem) (l p : Nat) : Nat := if hv M l p < (FT M).length - hv M l p then hv M l p else (FT M).length - hv M l p
def akI (M : Mem) (l : Nat) (st : Int × Nat) : Nat → Int × Nat
  | 0 => st
  | p + 1 => bstA (akI M l st p) ((10 * l + p : Nat) : Int) (les M l p)
def akO (M : Mem) : Nat → Int × Nat
  | 0 => (-1, 0)
  | l + 1 => akI M l (akO M l) 6
theorem akI_J {M : Mem} {l : Nat} {st : Int × Nat} (h : bsJ st) : ∀ p : Nat, bsJ (akI M l st p) := by
  intro p
  induction p with
  | zero => exact h
  | succ p ih => exact bst_J (by omega) ih
theorem akO_J (M : Mem) : ∀ l : Nat, bsJ (akO M l) := by
  intro l
  induction l with
  | zero => exact fun _ => rfl
  | succ l ih => exact akI_J ih 6
theorem c_askI {K : Int → Int → Mem → Option (Int × Mem)} {x1 : Int} {M : Mem} {l : Nat} {s0 : Int × Nat} (h : Inv M) (c : CH M) (hl : l < ln M) (hl2 : l < 10) :
    f_X9_ask_L40 K x1 (l : Int) 100000 s0.1 ((s0.2 : Nat) : Int) 0 M = K (akI M l s0 6).1 (((akI M l s0 6).2 : Nat) : Int) M := by
  have hlen := FT_len M
  obtain ⟨n, ⟨sa, sb⟩, e, p1, p2⟩ := loopN (N := 6) (F := fun n p (st : Int × Int) => f_X9_ask_L40 K x1 (l : Int) n st.1 st.2 (p : Int) M) (P := fun p st => st.1 = (akI M l s0 p).1 ∧ st.2 = (((akI M l s0 p).2 : Nat) : Int)) (by
    intro n p ⟨sa, sb⟩ hp ⟨q1, q2⟩
    have q1 : sa = (akI M l s0 p).1 := q1
    have q2 : sb = (((akI M l s0 p).2 : Nat) : Int) := q2
    have h2p : 2 ^ p < 64 := Nat.pow_lt_pow_right (n := 6) (a := 2) (by decide) hp
    have hc := cw_le M l (fun s => s &&& 2 ^ p == 2 ^ p)
    have elw : ∀ _ : Unit, (if w32 ((((FT M).length : Nat) : Int) - ((hv M l p : Nat) : Int)) < ((hv M l p : Nat) : Int) then w32 ((((FT M).length : Nat) : Int) - ((hv M l p : Nat) : Int)) else ((hv M l p : Nat) : Int)) = ((les M l p : Nat) : Int) := fun _ => by
      have hc : hv M l p ≤ (FT M).length := hc
      unfold les
      rw [w32_id (by omega) (by omega)]
      by_cases q : hv M l p < (FT M).length - hv M l p
      · rw [if_neg (by omega), if_pos q]
      · rw [if_neg q]
        by_cases q2 : (((FT M).length : Nat) : Int) - ((hv M l p : Nat) : Int) < ((hv M l p : Nat) : Int)
        · rw [if_pos q2]; omega
        · rw [if_neg q2]; omega
    refine ⟨((akI M l s0 (p + 1)).1, (((akI M l s0 (p + 1)).2 : Nat) : Int)), ?_, rfl, rfl⟩
    show f_X9_ask_L40 K x1 (l : Int) (n + 1) sa sb (p : Int) M = f_X9_ask_L40 K x1 (l : Int) n _ _ ((p + 1 : Nat) : Int) M
    have ewa : f_X1_withAll (l : Int) ((2 ^ p : Nat) : Int) M = some ((hv M l p : Nat) : Int) := c_withAll c hl hl2 h2p
    rw [f_X9_ask_L40, if_pos (by omega), b_shl_n (by omega), ewa, Option.bind_some, c.1, elw (), q1, q2, w32_n1 (by omega), w10 hl2 (by omega), show akI M l s0 (p + 1) = bstA (akI M l s0 p) ((10 * l + p : Nat) : Int) (les M l p) from rfl]
    unfold bstA
    by_cases hc1 : (akI M l s0 p).1 = -1
    · rw [if_pos hc1, if_pos (Or.inl hc1)]
    · rw [if_neg hc1]
      by_cases hc2 : (akI M l s0 p).2 < les M l p
      · rw [if_pos (by omega), if_pos (Or.inr hc2)]
      · rw [if_neg (by omega), if_neg (by omega)]) 6 100000 0 (s0.1, ((s0.2 : Nat) : Int)) (by omega) (by omega) ⟨rfl, rfl⟩
  have e : f_X9_ask_L40 K x1 (l : Int) 100000 s0.1 ((s0.2 : Nat) : Int) 0 M = f_X9_ask_L40 K x1 (l : Int) (n + 1) sa sb ((6 : Nat) : Int) M := e
  have p1 : sa = (akI M l s0 6).1 := p1
  have p2 : sb = (((akI M l s0 6).2 : Nat) : Int) := p2
  rw [e, f_X9_ask_L40, if_neg (by decide), p1, p2]
theorem c_askO {K : Int → Int → Mem → Option (Int × Mem)} {x1 : Int} {M : Mem} (h : Inv M) (c : CH M) : f_X9_ask_L25 K x1 100000 (-1) 0 0 M = K (akO M (ln M)).1 (((akO M (ln M)).2 : Nat) : Int) M := by
  have l2 := h.1.1.2.1
  have e33 : M 3 3 = (ln M : Int) := by rw [h.2.1.1.1, h.1.1.1]
  obtain ⟨n, ⟨sa, sb⟩, e, p1, p2⟩ := loopN (N := ln M) (F := fun n a (st : Int × Int) => f_X9_ask_L25 K x1 n st.1 st.2 (a : Int) M) (P := fun a st => st.1 = (akO M a).1 ∧ st.2 = (((akO M a).2 : Nat) : Int)) (by
    intro n a ⟨sa, sb⟩ ha ⟨q1, q2⟩
    have q1 : sa = (akO M a).1 := q1
    have q2 : sb = (((akO M a).2 : Nat) : Int) := q2
    refine ⟨((akO M (a + 1)).1, (((akO M (a + 1)).2 : Nat) : Int)), ?_, rfl, rfl⟩
    show f_X9_ask_L25 K x1 (n + 1) sa sb (a : Int) M = f_X9_ask_L25 K x1 n _ _ ((a + 1 : Nat) : Int) M
    rw [f_X9_ask_L25, if_pos (by omega), q1, q2, c_askI h c ha (by omega), w32_n1 (by omega), show akO M (a + 1) = akI M a (akO M a) 6 from rfl]) (ln M) 100000 0 (-1, 0) (by omega) (by omega) ⟨rfl, rfl⟩
  have e : f_X9_ask_L25 K x1 100000 (-1) 0 0 M = f_X9_ask_L25 K x1 (n + 1) sa sb ((ln M : Nat) : Int) M := e
  have p1 : sa = (akO M (ln M)).1 := p1
  have p2 : sb = (((akO M (ln M)).2 : Nat) : Int) := p2
  rw [e, f_X9_ask_L25, if_neg (by omega), p1, p2]
theorem r_askN {K : Int → Mem → Option (Int × Mem)} {x1 x2 x3 : Int} {M M2 : Mem} {l p : Nat} (h : Inv M) (ha : agr M M2) (ho : FO M M2) (hl2 : l < 10) (hp : p < 6) : f_X10_ask_L48 K x1 x2 x3 (l : Int) (p : Int) 100000 0 0 M2 = K ((hv M l p : Nat) : Int) M2 := by
  have hlen := FT_len M
  obtain ⟨n, st, e, hP⟩ := loopN (N := (FT M).length) (F := fun n k (st : Int) => f_X10_ask_L48 K x1 x2 x3 (l : Int) (p : Int) n st (k : Int) M2) (P := fun k st => st = ((ck (FT M) (fun t => hd M l t &&& 2 ^ p == 2 ^ p) k : Nat) : Int)) (by
    intro n k st hk hP
    subst hP
    have hle := ck_le (FT M) (fun t => hd M l t &&& 2 ^ p == 2 ^ p) k
    have h64 := hd_lt (M := M) (l := l) (FT_lt (getD_mem hk))
    refine ⟨_, ?_, rfl⟩
    show f_X10_ask_L48 K x1 x2 x3 (l : Int) (p : Int) (n + 1) _ (k : Int) M2 = f_X10_ask_L48 K x1 x2 x3 (l : Int) (p : Int) n _ ((k + 1 : Nat) : Int) M2
    rw [f_X10_ask_L48, if_pos (by rw [ho.1]; omega), if_pos ⟨by omega, by omega⟩, Int.toNat_natCast, r_hi h.1 ha ho hk hl2, Option.bind_some, r_bit (by omega) (by omega), w32_id (by omega) (by omega), w32_n1 (a := k) (by omega), ck_s hk, bit_and _ h64 p hp]
    by_cases hb : (hd M l ((FT M).getD k 0) >>> p) % 2 = 1
    · rw [hb, if_pos (by simp), ← Int.natCast_add]
    · rw [show (hd M l ((FT M).getD k 0) >>> p) % 2 = 0 by omega, if_neg (by simp), ← Int.natCast_add]) (FT M).length 100000 0 0 (by omega) (by omega) rfl
  have e : f_X10_ask_L48 K x1 x2 x3 (l : Int) (p : Int) 100000 0 0 M2 = f_X10_ask_L48 K x1 x2 x3 (l : Int) (p : Int) (n + 1) st (((FT M).length : Nat) : Int) M2 := e
  rw [e, f_X10_ask_L48, if_neg (by rw [ho.1]; omega), hP, ck_all]; rfl
theorem r_askI {K : Int → Int → Mem → Option (Int × Mem)} {x1 : Int} {M M2 : Mem} {l : Nat} {s0 : Int × Nat} (h : Inv M) (ha : agr M M2) (ho : FO M M2) (hl2 : l < 10) (hJ : bsJ s0) :
    f_X10_ask_L35 K x1 (l : Int) 100000 s0.1 ((s0.2 : Nat) : Int) 0 M2 = K (akI M l s0 6).1 (((akI M l s0 6).2 : Nat) : Int) M2 := by
  have hlen := FT_len M
  obtain ⟨n, ⟨sa, sb⟩, e, p1, p2⟩ := loopN (N := 6) (F := fun n p (st : Int × Int) => f_X10_ask_L35 K x1 (l : Int) n st.1 st.2 (p : Int) M2) (P := fun p st => st.1 = (akI M l s0 p).1 ∧ st.2 = (((akI M l s0 p).2 : Nat) : Int)) (by
    intro n p ⟨sa, sb⟩ hp ⟨q1, q2⟩
    have q1 : sa = (akI M l s0 p).1 := q1
    have q2 : sb = (((akI M l s0 p).2 : Nat) : Int) := q2
    have hc := cw_le M l (fun s => s &&& 2 ^ p == 2 ^ p)
    have hc : hv M l p ≤ (FT M).length := hc
    have hJ2 := akI_J (M := M) (l := l) hJ p
    refine ⟨((akI M l s0 (p + 1)).1, (((akI M l s0 (p + 1)).2 : Nat) : Int)), ?_, rfl, rfl⟩
    show f_X10_ask_L35 K x1 (l : Int) (n + 1) sa sb (p : Int) M2 = f_X10_ask_L35 K x1 (l : Int) n _ _ ((p + 1 : Nat) : Int) M2
    rw [f_X10_ask_L35, if_pos (by omega), r_askN h ha ho hl2 hp, ho.1, w32_id (z := (((FT M).length : Nat) : Int) - ((hv M l p : Nat) : Int)) (by omega) (by omega), q1, q2, w32_n1 (by omega), w10 hl2 (by omega), show akI M l s0 (p + 1) = bstA (akI M l s0 p) ((10 * l + p : Nat) : Int) (les M l p) from rfl]
    have key : ∀ v : Nat, (if (akI M l s0 p).1 = -1 then (if (((akI M l s0 p).2 : Nat) : Int) < (v : Int) then f_X10_ask_L35 K x1 (l : Int) n ((10 * l + p : Nat) : Int) (v : Int) ((p + 1 : Nat) : Int) M2 else f_X10_ask_L35 K x1 (l : Int) n ((10 * l + p : Nat) : Int) (((akI M l s0 p).2 : Nat) : Int) ((p + 1 : Nat) : Int) M2) else (if (((akI M l s0 p).2 : Nat) : Int) < (v : Int) then (if (((akI M l s0 p).2 : Nat) : Int) < (v : Int) then f_X10_ask_L35 K x1 (l : Int) n ((10 * l + p : Nat) : Int) (v : Int) ((p + 1 : Nat) : Int) M2 else f_X10_ask_L35 K x1 (l : Int) n ((10 * l + p : Nat) : Int) (((akI M l s0 p).2 : Nat) : Int) ((p + 1 : Nat) : Int) M2) else (if (((akI M l s0 p).2 : Nat) : Int) < (v : Int) then f_X10_ask_L35 K x1 (l : Int) n (akI M l s0 p).1 (v : Int) ((p + 1 : Nat) : Int) M2 else f_X10_ask_L35 K x1 (l : Int) n (akI M l s0 p).1 (((akI M l s0 p).2 : Nat) : Int) ((p + 1 : Nat) : Int) M2))) = f_X10_ask_L35 K x1 (l : Int) n (bstA (akI M l s0 p) ((10 * l + p : Nat) : Int) v).1 (((bstA (akI M l s0 p) ((10 * l + p : Nat) : Int) v).2 : Nat) : Int) ((p + 1 : Nat) : Int) M2 := by
      intro v
      unfold bstA
      by_cases hc1 : (akI M l s0 p).1 = -1
      · have hz := hJ2 hc1
        rw [if_pos hc1, if_pos (Or.inl hc1)]
        by_cases hc2 : (akI M l s0 p).2 < v
        · rw [if_pos (by omega)]
        · rw [if_neg (by omega), hz, show v = 0 by omega]
      · rw [if_neg hc1]
        by_cases hc2 : (akI M l s0 p).2 < v
        · rw [if_pos (by omega), if_pos (by omega), if_pos (Or.inr hc2)]
        · rw [if_neg (by omega), if_neg (by omega), if_neg (by omega)]
    by_cases hq : hv M l p < (FT M).length - hv M l p
    · rw [if_pos (by omega)]
      have e2 : les M l p = hv M l p := by unfold les; rw [if_pos hq]
      rw [e2]; exact key _
    · rw [if_neg (by omega)]
      have e2 : les M l p = (FT M).length - hv M l p := by unfold les; rw [if_neg hq]
      have e3 : (((FT M).length : Nat) : Int) - ((hv M l p : Nat) : Int) = (((FT M).length - hv M l p : Nat) : Int) := by omega
      rw [e2, e3]; exact key _) 6 100000 0 (s0.1, ((s0.2 : Nat) : Int)) (by omega) (by omega) ⟨rfl, rfl⟩
  have e : f_X10_ask_L35 K x1 (l : Int) 100000 s0.1 ((s0.2 : Nat) : Int) 0 M2 = f_X10_ask_L35 K x1 (l : Int) (n + 1) sa sb ((6 : Nat) : Int) M2 := e
  have p1 : sa = (akI M l s0 6).1 := p1
  have p2 : sb = (((akI M l s0 6).2 : Nat) : Int) := p2
  rw [e, f_X10_ask_L35, if_neg (by decide), p1, p2]
theorem r_askO {K : Int → Int → Mem → Option (Int × Mem)} {x1 : Int} {M M2 : Mem} (h : Inv M) (ha1 : agr M M2) (ho : FO M M2) : f_X10_ask_L23 K x1 100000 (-1) 0 0 M2 = K (akO M (ln M)).1 (((akO M (ln M)).2 : Nat) : Int) M2 := by
  have l2 := h.1.1.2.1
  have e0 : M2 38 0 = (ln M : Int) := by rw [ha1.s 0, h.1.1.1]
  obtain ⟨n, ⟨sa, sb⟩, e, p1, p2⟩ := loopN (N := ln M) (F := fun n a (st : Int × Int) => f_X10_ask_L23 K x1 n st.1 st.2 (a : Int) M2) (P := fun a st => st.1 = (akO M a).1 ∧ st.2 = (((akO M a).2 : Nat) : Int)) (by
    intro n a ⟨sa, sb⟩ ha ⟨q1, q2⟩
    have q1 : sa = (akO M a).1 := q1
    have q2 : sb = (((akO M a).2 : Nat) : Int) := q2
    refine ⟨((akO M (a + 1)).1, (((akO M (a + 1)).2 : Nat) : Int)), ?_, rfl, rfl⟩
    show f_X10_ask_L23 K x1 (n + 1) sa sb (a : Int) M2 = f_X10_ask_L23 K x1 n _ _ ((a + 1 : Nat) : Int) M2
    rw [f_X10_ask_L23, if_pos (by omega), q1, q2, r_askI h ha1 ho (by omega) (akO_J M a), w32_n1 (by omega), show akO M (a + 1) = akI M a (akO M a) 6 from rfl]) (ln M) 100000 0 (-1, 0) (by omega) (by omega) ⟨rfl, rfl⟩
  have e : f_X10_ask_L23 K x1 100000 (-1) 0 0 M2 = f_X10_ask_L23 K x1 (n + 1) sa sb ((ln M : Nat) : Int) M2 := e
  have p1 : sa = (akO M (ln M)).1 := p1
  have p2 : sb = (((akO M (ln M)).2 : Nat) : Int) := p2
  rw [e, f_X10_ask_L23, if_neg (by omega), p1, p2]
theorem op_ask {M : Mem} (h : Inv M) (x : Int) : OK2 (f_X9_ask x) (f_X10_ask x) M := by
  by_cases h0 : f_X9_within x 0 1 = 0
  · exact OK2.no h (by rw [f_X9_ask, if_pos h0]) (by rw [f_X10_ask, in_w, if_pos h0])
  refine qry h fun M1 e1 a1 i1 c1 => ⟨if x = 0 then (akO M1 (ln M1)).1 else (((akO M1 (ln M1)).2 : Nat) : Int), M1, ?_, agq.refl, i1, c1, fun M3 e3 a3 o3 => ⟨M3, ?_, a3⟩⟩
  · rw [f_X9_ask, if_neg h0]
    refine ob_I e1 ?_
    rw [c_askO i1 c1]
    by_cases hx : x = 0
    · rw [if_pos hx, if_pos hx]
    · rw [if_neg hx, if_neg hx]
  · rw [f_X10_ask, in_w, if_neg h0]
    refine ob_I e3 ?_
    rw [r_askO i1 a3 o3]
    by_cases hx : x = 0
    · rw [if_pos hx, if_pos hx]
    · rw [if_neg hx, if_neg hx]
