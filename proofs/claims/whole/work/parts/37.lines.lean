/-! a line comes -/
theorem c_partsOf {A : Mem} {t sg : Nat} (h2 : ∀ i : Nat, i < 4320 → A 2 i = (tb i : Int)) (ht : t < 720) (hs : sg < 64) : f_X7_partsOf (t : Int) (sg : Int) A = some ((ps sg t : Nat) : Int) := by
  unfold f_X7_partsOf
  obtain ⟨n, st, e, h⟩ := loopN (N := 6) (F := fun n i (st : Int) => f_X7_partsOf_L5 (t : Int) (sg : Int) A n st (i : Int)) (P := fun i st => st = ((psA sg t i : Nat) : Int)) (by
    intro n i st hi hP
    subst hP
    have h1 := psA_lt (sg := sg) ht i (by omega)
    have hp : f_X7_partOf (t : Int) (i : Int) A = (tb (6 * t + i) : Int) := by
      have e : w32 (w32 ((t : Int) * 6) + (i : Int)) = ((6 * t + i : Nat) : Int) := by
        rw [w32_id (z := (t : Int) * 6) (by omega) (by omega), w32_id (by omega) (by omega)]; omega
      rw [f_X7_partOf, e, rd_n (by omega), h2 _ (by omega)]
    refine ⟨((psA sg t (i + 1) : Nat) : Int), ?_, rfl⟩
    show f_X7_partsOf_L5 (t : Int) (sg : Int) A (n + 1) _ (i : Int) = _
    rw [f_X7_partsOf_L5, if_pos (by omega), r_bit (by omega) (by omega), w32_n1 (by omega), hp]
    have h2 : (sg >>> i) % 2 = 0 ∨ (sg >>> i) % 2 = 1 := by omega
    rcases h2 with h2 | h2
    · rw [if_pos (by rw [h2]; rfl), psA_s, if_neg (by rw [h2]; decide)]
    · rw [if_neg (by rw [h2]; decide), b_shl_1 _ (Nat.lt_trans (tb_lt t ht i hi) (by decide)), psA_s, if_pos h2, b_or_n (by omega) (Nat.lt_of_lt_of_le (Nat.pow_lt_pow_right (by decide) (tb_lt t ht i hi)) (by decide))]) 6 100000 0 0 rfl (by decide) rfl
  have e : f_X7_partsOf_L5 (t : Int) (sg : Int) A 100000 0 0 = f_X7_partsOf_L5 (t : Int) (sg : Int) A (n + 1) st ((6 : Nat) : Int) := e
  rw [e, f_X7_partsOf_L5, if_neg (by decide), h]
  rfl
theorem c_add {A : Mem} {n sg : Nat} {cost : Int} (h2 : ∀ i : Nat, i < 4320 → A 2 i = (tb i : Int)) (h3 : A 3 3 = (n : Int)) (hn : n < 10) (hs : sg < 64) :
    ∃ A', f_X9_addLine (sg : Int) cost A = some ((n : Int), A') ∧ agp (dd [4, 5, 6] [(3, 3), (0, 12)]) A A' ∧ A' 0 12 = 1 ∧ A' 3 3 = ((n + 1 : Nat) : Int) ∧ (∀ j : Nat, A' 4 j = if j = n then (sg : Int) else A 4 j) ∧ (∀ j : Nat, A' 5 j = if j = n then cost else A 5 j) ∧ (∀ t : Nat, t < 720 → A' 6 (720 * n + t) = ((ps sg t : Nat) : Int)) ∧ ∀ j : Nat, (j < 720 * n ∨ 720 * n + 720 ≤ j) → A' 6 j = A 6 j := by
  have hA1 : agp (dd [4, 5, 6] [(3, 3), (0, 12)]) A (mset (mset (mset A 0 12 1) 4 n (sg : Int)) 5 n cost) := ((agp.refl.mset (by rfl)).mset (by rfl)).mset (by rfl)
  have e4 : ∀ j : Nat, mset (mset (mset A 0 12 1) 4 n (sg : Int)) 5 n cost 4 j = if j = n then (sg : Int) else A 4 j := fun j => by
    rw [mset_c (by decide)]
    by_cases e : j = n
    · subst e; rw [mset_at, if_pos rfl]
    · rw [mset_i e, if_neg e]; rfl
  have e5 : ∀ j : Nat, mset (mset (mset A 0 12 1) 4 n (sg : Int)) 5 n cost 5 j = if j = n then cost else A 5 j := fun j => by
    by_cases e : j = n
    · subst e; rw [mset_at, if_pos rfl]
    · rw [mset_i e, if_neg e]; rfl
  have e6 : mset (mset (mset A 0 12 1) 4 n (sg : Int)) 5 n cost 6 = A 6 := rfl
  have e33 : mset (mset (mset A 0 12 1) 4 n (sg : Int)) 5 n cost 3 3 = (n : Int) := h3
  have e2 : mset (mset (mset A 0 12 1) 4 n (sg : Int)) 5 n cost 2 = A 2 := rfl
  have e0 : mset (mset (mset A 0 12 1) 4 n (sg : Int)) 5 n cost 0 12 = 1 := rfl
  generalize hAA : mset (mset (mset A 0 12 1) 4 n (sg : Int)) 5 n cost = A1 at hA1 e4 e5 e6 e33 e2 e0
  obtain ⟨k, A2, e, g1, g2, g3⟩ := loopN (N := 720) (F := fun k i (M2 : Mem) => f_X3_add_L29 (sg : Int) (n : Int) k (i : Int) M2) (P := fun i M2 => agx [6] A1 M2 ∧ (∀ t : Nat, t < i → M2 6 (720 * n + t) = ((ps sg t : Nat) : Int)) ∧ ∀ j : Nat, (j < 720 * n ∨ 720 * n + 720 ≤ j) → M2 6 j = A1 6 j) (by
    intro k t M2 ht hP
    obtain ⟨p1, p2, p3⟩ := hP
    have ew : w32 (w32 ((n : Int) * 720) + (t : Int)) = ((720 * n + t : Nat) : Int) := by
      rw [w32_id (z := (n : Int) * 720) (by omega) (by omega), w32_id (by omega) (by omega)]; omega
    refine ⟨mset M2 6 (720 * n + t) ((ps sg t : Nat) : Int), ?_, p1.mset (by decide), fun q hq => ?_, fun j hj => ?_⟩
    · show f_X3_add_L29 (sg : Int) (n : Int) (k + 1) (t : Int) M2 = f_X3_add_L29 (sg : Int) (n : Int) k ((t + 1 : Nat) : Int) _
      rw [f_X3_add_L29, if_pos (by omega), c_partsOf (by rw [p1 2 (by decide), e2]; exact h2) ht hs, Option.bind_some, ew, wr_n (by omega), w32_n1 (by omega)]
    · by_cases e : q = t
      · subst e; rw [mset_at]
      · rw [mset_i (by omega)]; exact p2 q (by omega)
    · rw [mset_i (by omega)]; exact p3 j hj) 720 100000 0 A1 (by omega) (by omega) ⟨agx.refl, fun q hq => absurd hq (Nat.not_lt_zero _), fun j _ => rfl⟩
  have e : f_X3_add_L29 (sg : Int) (n : Int) 100000 0 A1 = f_X3_add_L29 (sg : Int) (n : Int) (k + 1) ((720 : Nat) : Int) A2 := e
  have g33 : A2 3 3 = (n : Int) := by rw [g1 3 (by decide)]; exact e33
  have hres : f_X9_addLine (sg : Int) cost A = some ((n : Int), mset A2 3 3 ((n + 1 : Nat) : Int)) := by
    have h33 : mset A 0 12 1 3 3 = (n : Int) := h3
    have hadd : f_X3_add (sg : Int) cost (mset A 0 12 1) = some ((n : Int), mset A2 3 3 ((n + 1 : Nat) : Int)) := by
      rw [f_X3_add, h33, wr_n hn, wr_n hn, hAA, e, f_X3_add_L29, if_neg (by decide), g33, w32_n1 (by omega)]
    rw [f_X9_addLine]
    exact ob_I hadd rfl
  refine ⟨_, hres, ?_, ?_, mset_at _ _ _ _, fun j => ?_, fun j => ?_, fun t ht => ?_, fun j hj => ?_⟩
  · exact (hA1.x g1 (by intro c hc j; simp at hc; subst hc; rfl)).mset (by rfl)
  · rw [mset_c (by decide), g1 0 (by decide)]; exact e0
  · rw [mset_c (by decide), g1 4 (by decide)]; exact e4 j
  · rw [mset_c (by decide), g1 5 (by decide)]; exact e5 j
  · rw [mset_c (by decide)]; exact g2 t ht
  · rw [mset_c (by decide), g3 j hj, e6]
theorem popc_0 : ∀ x : Nat, x < 64 → (popc x = 0 ↔ x = 0) := by decide +kernel
/-- whether a line may stand -/
def mst (x c : Int) : Prop := 1 ≤ x ∧ x ≤ 63 ∧ popc x.toNat ≤ 3 ∧ 1 ≤ c ∧ c ≤ 99
theorem c_may {x c : Int} : f_X3_mayStand x c = 0 ↔ ¬ mst x c := by
  unfold f_X3_mayStand mst f_X9_isParts
  by_cases h1 : f_X9_within x 0 63 = 0
  · rw [if_pos h1]
    rw [wi_0] at h1
    exact ⟨fun _ h => h1 ⟨by omega, by omega⟩, fun _ => rfl⟩
  rw [if_neg h1]
  rw [wi_0] at h1
  obtain ⟨k, rfl⟩ : ∃ k : Nat, x = (k : Int) := ⟨x.toNat, by omega⟩
  have h0 := popc_0 k (by omega)
  rw [bitc_n (by omega), Int.toNat_natCast]
  by_cases h2 : f_X9_within ((popc k : Nat) : Int) 1 3 = 0
  · rw [if_pos h2]
    rw [wi_0] at h2
    exact ⟨fun _ h => h2 ⟨by omega, by omega⟩, fun _ => rfl⟩
  rw [if_neg h2]
  rw [wi_0] at h2
  by_cases h3 : f_X9_within c 1 99 = 0
  · rw [if_pos h3]
    rw [wi_0] at h3
    exact ⟨fun _ h => h3 ⟨h.2.2.2.1, h.2.2.2.2⟩, fun _ => rfl⟩
  rw [if_neg h3]
  rw [wi_0] at h3
  constructor
  · intro q; exact absurd q (by decide)
  · intro q; exact absurd ⟨by omega, by omega, by omega, by omega, by omega⟩ q
theorem r_line0 {x c : Int} {B : Mem} (h : ¬ mst x c) : f_X10_line x c B = some (-2, B) := by
  unfold mst at h
  rw [f_X10_line, in_w, in_w]
  by_cases h1 : f_X9_within x 1 63 = 0
  · rw [if_pos h1]
  rw [if_neg h1]
  rw [wi_0] at h1
  obtain ⟨k, rfl⟩ : ∃ k : Nat, x = (k : Int) := ⟨x.toNat, by omega⟩
  rw [r_ones (by omega), Option.bind_some]
  rw [Int.toNat_natCast] at h
  by_cases h2 : (3 : Int) < ((popc k : Nat) : Int)
  · rw [if_pos h2]
  rw [if_neg h2, if_pos]
  rw [wi_0]
  omega
theorem r_line1 {x c : Int} {B : Mem} (h : mst x c) (h0 : B 38 0 = 10) : f_X10_line x c B = some (-4, B) := by
  obtain ⟨a1, a2, a3, a4, a5⟩ := h
  obtain ⟨k, rfl⟩ : ∃ k : Nat, x = (k : Int) := ⟨x.toNat, by omega⟩
  rw [Int.toNat_natCast] at a3
  rw [f_X10_line, in_w, in_w, if_neg (by rw [wi_0]; omega), r_ones (by omega), Option.bind_some, if_neg (by omega), if_neg (by rw [wi_0]; omega), if_pos h0]
theorem r_line2 {x c : Int} {B : Mem} {n : Nat} (h : mst x c) (h0 : B 38 0 = (n : Int)) (hn : n < 10) : f_X10_line x c B = some ((n : Int), mset (mset (mset B 39 n x) 40 n c) 38 0 ((n + 1 : Nat) : Int)) := by
  obtain ⟨a1, a2, a3, a4, a5⟩ := h
  obtain ⟨k, rfl⟩ : ∃ k : Nat, x = (k : Int) := ⟨x.toNat, by omega⟩
  rw [Int.toNat_natCast] at a3
  have en2 : w32 (((n + 1 : Nat) : Int) - 1) = (n : Int) := by rw [w32_id (by omega) (by omega)]; omega
  have e1 : mset B 39 (B 38 0).toNat (k : Int) 38 0 = (n : Int) := h0
  rw [f_X10_line, in_w, in_w, if_neg (by rw [wi_0]; omega), r_ones (by omega), Option.bind_some, if_neg (by omega), if_neg (by rw [wi_0]; omega), if_neg (by omega), if_pos ⟨by omega, by omega⟩, e1, if_pos ⟨by omega, by omega⟩]
  have e2 : mset (mset B 39 (B 38 0).toNat (k : Int)) 40 ((n : Int)).toNat c 38 0 = (n : Int) := h0
  rw [e2, mset_at, w32_n1 (by omega), en2, h0, Int.toNat_natCast]
theorem line_inv {M M' : Mem} {n : Nat} {x c : Int} (h : Inv M) (hm : mst x c) (hn : ln M = n) (hn2 : n < 10) (ha : agp (dd [4, 5, 6, 39, 40] [(3, 3), (0, 12), (38, 0)]) M M') (hz : M' 0 12 = 1) (h33 : M' 3 3 = ((n + 1 : Nat) : Int)) (h380 : M' 38 0 = ((n + 1 : Nat) : Int))
    (h4 : ∀ j : Nat, M' 4 j = if j = n then x else M 4 j) (h5 : ∀ j : Nat, M' 5 j = if j = n then c else M 5 j) (h39 : ∀ j : Nat, M' 39 j = if j = n then x else M 39 j) (h40 : ∀ j : Nat, M' 40 j = if j = n then c else M 40 j)
    (h6 : ∀ t : Nat, t < 720 → M' 6 (720 * n + t) = ((ps x.toNat t : Nat) : Int)) (h6' : ∀ j : Nat, (j < 720 * n ∨ 720 * n + 720 ≤ j) → M' 6 j = M 6 j) : Inv M' := by
  obtain ⟨⟨⟨l1, l2, l3⟩, hF, hT, hX⟩, ⟨⟨c1, c2, c3, c4⟩, cF, cT⟩, hG, hP, hI, hS, hW, hC⟩ := h
  obtain ⟨a1, a2, a3, a4, a5⟩ := hm
  have el : ln M' = n + 1 := by unfold ln; rw [h380]; omega
  have es : ∀ j : Nat, sgn M' j = if j = n then x.toNat else sgn M j := by
    intro j; unfold sgn; rw [h39]; split <;> rfl
  refine ⟨⟨⟨by rw [el]; exact h380, by omega, fun l hl => ?_⟩, (RFa_e (ha.p 38 6) (ha.c 42)).mpr hF, (TB_e (ha.c 43)).mpr hT, (RTx_e (ha.p 38 13) (ha.p 38 14) (ha.c 45) (ha.c 46)).mpr hX⟩,
    ⟨⟨by rw [h33, h380], fun l hl => ?_, fun l hl t ht => ?_, by rw [ha.c 2]; exact c4⟩, (CFa_e (ha.p 7 4) (ha.p 38 6) (ha.c 8) (ha.c 9) (ha.c 10) (ha.c 11) (ha.c 42)).mpr cF, (CTx_e (ha.p 12 5) (ha.p 38 13) (ha.p 0 11) (ha.p 38 14) (ha.c 45) (ha.c 46) (ha.c 17) (ha.c 18)).mpr cT⟩,
    (Gs_e (ha.p 0 9) (ha.p 38 3) (ha.c 37) (ha.c 41) (ha.p 0 10) (ha.p 38 5)).mpr hG, (Tp_e (ha.p 13 3) (ha.p 38 10) (ha.c 14) (ha.c 44)).mpr hP, ?_, (Sh_e (ha.c 34) (ha.c 48) (ha.c 35) (ha.c 49) (ha.c 36) (ha.c 50)).mpr hS, (WD_e (ha.c 52)).mpr hW, fun q => by rw [hz] at q; exact absurd q (by decide)⟩
  · rw [h39, h40, es]
    obtain ⟨b1, b2, b3, b4⟩ := l3 l hl
    by_cases e : l = n
    · rw [if_pos e, if_pos e, if_pos e]
      exact ⟨by omega, by omega, a3, by omega, by omega⟩
    · rw [if_neg e, if_neg e, if_neg e]
      exact ⟨b1, b2, b3, b4⟩
  · rw [h4, h5, h39, h40]
    by_cases e : l = n
    · rw [if_pos e, if_pos e, if_pos e, if_pos e]; exact ⟨rfl, rfl⟩
    · rw [if_neg e, if_neg e, if_neg e, if_neg e]; exact c2 l hl
  · unfold hd
    rw [es]
    by_cases e : l = n
    · subst e; rw [if_pos rfl]; exact h6 t ht
    · rw [if_neg e, h6' _ (by omega)]; exact c3 l hl t ht
  · obtain ⟨i1, i2, i3, i4, i5, i6, i7, i8, i9⟩ := hI
    unfold Im
    rw [ha.c 31, ha.p 38 15, ha.p 38 16, ha.p 38 17, ha.p 38 18, ha.p 38 19, ha.p 38 20, ha.c 32, ha.c 47, h380, ha.p 38 3, ha.p 38 6, ha.p 38 13]
    refine ⟨i1, i2, i3, i4, i5, i6, i7, i8, fun q => ?_⟩
    obtain ⟨j1, j2⟩ := i9 q
    exact ⟨⟨j1.1, by have := j1.2; omega⟩, j2⟩
theorem op_line {M : Mem} (h : Inv M) (x c : Int) : OK2 (f_X9_line x c) (f_X10_line x c) M := by
  by_cases hm : mst x c
  · have hm0 : ¬ f_X3_mayStand x c = 0 := fun q => c_may.mp q hm
    obtain ⟨⟨⟨l1, l2, l3⟩, hR⟩, ⟨⟨c1, c2, c3, c4⟩, hA⟩, hRest⟩ := id h
    by_cases hn : ln M = 10
    · exact OK2.no h (by rw [f_X9_line, if_neg hm0, if_neg (by omega)]) (r_line1 hm (by omega))
    · obtain ⟨k, rfl⟩ : ∃ k : Nat, x = (k : Int) := ⟨x.toNat, by have := hm.1; omega⟩
      obtain ⟨M1, e1, a1, a2, a3, a4, a5, a6, a7⟩ := c_add (A := M) (n := ln M) (sg := k) (cost := c) c4 (by omega) (by omega) (by have := hm.2.1; omega)
      have e2 := r_line2 (B := M1) (n := ln M) hm (by rw [a1.p 38 0]; exact l1) (by omega)
      refine ⟨((ln M : Nat) : Int), M1, mset (mset (mset M1 39 (ln M) (k : Int)) 40 (ln M) c) 38 0 ((ln M + 1 : Nat) : Int), ?_, e2, ?_⟩
      · rw [f_X9_line, if_neg hm0, if_pos (by omega)]
        exact ob_I e1 rfl
      · refine line_inv h hm rfl (by omega) ?_ ?_ ?_ (mset_at _ _ _ _) ?_ ?_ ?_ ?_ ?_ ?_
        · exact (((agp.dm a1).mset (by rfl)).mset (by rfl)).mset (by rfl)
        · exact a2
        · exact a3
        · exact a4
        · exact a5
        · intro j
          rw [mset_c (by decide), mset_c (by decide)]
          by_cases e : j = ln M
          · rw [if_pos e, e, mset_at]
          · rw [mset_i e, if_neg e, a1.c 39]
        · intro j
          rw [mset_c (by decide)]
          by_cases e : j = ln M
          · rw [if_pos e, e, mset_at]
          · rw [mset_i e, if_neg e, mset_c (by decide), a1.c 40]
        · intro t ht; rw [Int.toNat_natCast]; exact a6 t ht
        · exact a7
  · exact OK2.no h (by rw [f_X9_line, if_pos (c_may.mpr hm)]) (r_line0 hm)
/-! taken -/
theorem isOne_M (x1 : Int) (M M' : Mem) : ∀ (n : Nat) (a b : Int), f_X0_isOne_L4 x1 M n a b = f_X0_isOne_L4 x1 M' n a b := by
  intro n
  induction n with
  | zero => intro a b; rfl
  | succ n ih => intro a b; rw [f_X0_isOne_L4, f_X0_isOne_L4, ih]
theorem isOne_d : ∀ k : Nat, k < 6 → ∀ w : Nat, w < 6 → f_X0_isOne (k : Int) (w : Int) (fun _ _ => 0) = some (f_X10_isUnder (k : Int) (w : Int)) := by decide +kernel
theorem isOne_e {M : Mem} {k w : Nat} (hk : k < 6) (hw : w < 6) : f_X0_isOne (k : Int) (w : Int) M = some (f_X10_isUnder (k : Int) (w : Int)) := by
  rw [← isOne_d k hk w hw, f_X0_isOne, f_X0_isOne, isOne_M _ M (fun _ _ => 0)]
theorem op_taken {M : Mem} (h : Inv M) (i k : Int) : ∃ r, f_X9_taken i k M = some r ∧ f_X10_taken i k M = some r := by
  obtain ⟨⟨⟨l1, l2, l3⟩, ⟨f1, f2, f3⟩, hT, hX⟩, ⟨⟨c1, c2, c3, c4⟩, ⟨k1, k2⟩, cT⟩, hR⟩ := id h
  by_cases hk : f_X9_within k 0 6 = 0
  · exact ⟨-2, by rw [f_X9_taken, if_pos hk], by rw [f_X10_taken, in_w, if_pos hk]⟩
  by_cases hi : f_X9_within i 0 21 = 0
  · exact ⟨-12, by rw [f_X9_taken, if_neg hk, if_pos hi], by rw [f_X10_taken, in_w, if_neg hk, in_w, if_pos hi]⟩
  have hk2 := hk
  have hi2 := hi
  rw [wi_0] at hk2 hi2
  have e10 : w32 (i - 10) = i - 10 := w32_id (by omega) (by omega)
  by_cases hs : i < 10
  · rcases isl_n h (x := i) with h0 | ⟨l, rfl, hl, hl2, h0⟩
    · refine ⟨-11, by rw [f_X9_taken, if_neg hk, if_neg hi, e10, if_pos (by omega), if_pos h0], ?_⟩
      rw [f_X9_isLine, wi_0, c1, l1, w32_id (by omega) (by omega)] at h0
      rw [f_X10_taken, in_w, if_neg hk, in_w, if_neg hi, if_pos hs, if_neg (by omega)]
    · by_cases h6 : k = 6
      · exact ⟨M 39 l, by rw [f_X9_taken, if_neg hk, if_neg hi, e10, if_pos (by omega), if_neg h0, if_pos (by omega), if_pos h6, f_X3_signsOf, rd_n hl2, (c2 l hl2).1], by rw [f_X10_taken, in_w, if_neg hk, in_w, if_neg hi, if_pos hs, if_pos (by omega), if_pos h6, if_pos ⟨by omega, by omega⟩, Int.toNat_natCast]⟩
      · exact ⟨-13, by rw [f_X9_taken, if_neg hk, if_neg hi, e10, if_pos (by omega), if_neg h0, if_pos (by omega), if_neg h6], by rw [f_X10_taken, in_w, if_neg hk, in_w, if_neg hi, if_pos hs, if_pos (by omega), if_neg h6]⟩
  · obtain ⟨f, hf⟩ : ∃ f : Nat, i - 10 = (f : Int) := ⟨(i - 10).toNat, by omega⟩
    by_cases hlt : f < fn M
    · by_cases h6 : k = 6
      · exact ⟨-13, by rw [f_X9_taken, if_neg hk, if_neg hi, e10, if_neg (by omega), if_pos (by omega), if_neg (by omega), if_pos h6], by rw [f_X10_taken, in_w, if_neg hk, in_w, if_neg hi, if_neg hs, e10, if_pos (by omega), if_neg (by omega)]⟩
      · obtain ⟨w, rfl⟩ : ∃ w : Nat, k = (w : Int) := ⟨k.toNat, by omega⟩
        obtain ⟨a1, a2, a3⟩ := f3 f hlt
        have e4 : w32 (4 * (f : Int)) = ((4 * f : Nat) : Int) := by rw [w32_id (by omega) (by omega)]; omega
        have eK : rd 12 (M 8) (f : Int) = (fk M f : Int) := by rw [rd_n (by omega), (k2 f hlt).1, a1]
        by_cases hu : f_X10_isUnder (fk M f : Int) (w : Int) = 0
        · exact ⟨-13, by rw [f_X9_taken, if_neg hk, if_neg hi, e10, if_neg (by omega), if_pos (by omega), if_neg (by omega), if_neg h6, hf, eK, isOne_e (by omega) (by omega), Option.bind_some, if_pos hu], by rw [f_X10_taken, in_w, if_neg hk, in_w, if_neg hi, if_neg hs, e10, if_pos (by omega), if_pos (by omega), hf, e4, if_pos ⟨by omega, by omega⟩, Int.toNat_natCast, a1, if_pos hu]⟩
        · exact ⟨(f : Int), by rw [f_X9_taken, if_neg hk, if_neg hi, e10, if_neg (by omega), if_pos (by omega), if_neg (by omega), if_neg h6, hf, eK, isOne_e (by omega) (by omega), Option.bind_some, if_neg hu], by rw [f_X10_taken, in_w, if_neg hk, in_w, if_neg hi, if_neg hs, e10, if_pos (by omega), if_pos (by omega), hf, e4, if_pos ⟨by omega, by omega⟩, Int.toNat_natCast, a1, if_neg hu]⟩
    · exact ⟨-11, by rw [f_X9_taken, if_neg hk, if_neg hi, e10, if_neg (by omega), if_neg (by omega)], by rw [f_X10_taken, in_w, if_neg hk, in_w, if_neg hi, if_neg hs, e10, if_neg (by omega)]⟩
