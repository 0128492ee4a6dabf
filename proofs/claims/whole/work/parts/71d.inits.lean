/-! the start: both constructors, the invariant -/
/-- values set one behind another -/
def msl (M : Mem) (c : Nat) : Nat → List Int → Mem
  | _, [] => M
  | i, a :: L => msl (mset M c i a) c (i + 1) L
theorem msl_c {c d : Nat} (h : d ≠ c) : ∀ (L : List Int) (M : Mem) (i : Nat), msl M c i L d = M d := by
  intro L
  induction L with
  | nil => intro M i; rfl
  | cons a L ih => intro M i; rw [msl, ih]; exact mset_c h
theorem msl_lo {c : Nat} : ∀ (L : List Int) (M : Mem) (i j : Nat), j < i → msl M c i L c j = M c j := by
  intro L
  induction L with
  | nil => intro M i j _; rfl
  | cons a L ih => intro M i j h; rw [msl, ih _ _ _ (by omega)]; exact mset_i (by omega)
theorem msl_at {c : Nat} : ∀ (L : List Int) (M : Mem) (i k : Nat), k < L.length → msl M c i L c (i + k) = L.getD k 0 := by
  intro L
  induction L with
  | nil => intro M i k h; exact absurd h (Nat.not_lt_zero _)
  | cons a L ih =>
    intro M i k h
    rw [msl]
    cases k with
    | zero => exact (msl_lo L _ _ _ (by omega)).trans (mset_at M c i a)
    | succ k =>
      rw [show i + (k + 1) = i + 1 + k by omega, ih _ _ _ (Nat.lt_of_succ_lt_succ h)]; rfl
def z_ZZ (M : Mem) : Mem := (mup (mup (mup (mup (mup (mup (mup (mup (mup (mup (msl (mup (msl (mup (mup (mup (msl (mup (mup (mup (mup (mup (mup (mup (mset (mup (mup (mup M 39 (fun _ => 0)) 40 (fun _ => 0)) 41 (fun _ => 0)) 38 5 100) 42 (fun _ => 0)) 43 (fun _ => 0)) 44 (fun _ => 0)) 45 (fun _ => 0)) 46 (fun _ => 0)) 47 (fun _ => 0)) 48 (fun _ => 0)) 48 0 [-1, -1, -1, -1]) 49 (fun _ => 0)) 50 (fun _ => 0)) 51 (fun _ => 0)) 51 0 [109, 97, 121, 32, 49, 32, 59, 32, 108, 105, 107, 101, 115, 32, 53, 48, 32, 45, 32, 112, 114, 105, 99, 101, 32, 43, 32, 109, 97, 110, 121, 32, 59, 32, 108, 101, 97, 114, 110, 115, 32, 55, 50, 48, 32, 45, 32, 108, 101, 102, 116, 32, 59]) 52 (fun _ => 0)) 52 0 [109, 97, 121, 32, 32, 32, 32, 32, 108, 105, 107, 101, 115, 32, 32, 32, 108, 101, 97, 114, 110, 115, 32, 32, 112, 114, 105, 99, 101, 32, 32, 32, 112, 97, 114, 116, 115, 32, 32, 32, 112, 108, 97, 99, 101, 32, 32, 32, 109, 97, 110, 121, 32, 32, 32, 32, 103, 117, 101, 115, 116, 32, 32, 32, 108, 101, 102, 116, 32, 32, 32, 32, 111, 114, 32, 32, 32, 32, 32, 32, 97, 110, 100, 32, 32, 32, 32, 32, 110, 111, 116, 32, 32, 32, 32, 32]) 53 (fun _ => 0)) 54 (fun _ => 0)) 55 (fun _ => 0)) 56 (fun _ => 0)) 57 (fun _ => 0)) 58 (fun _ => 0)) 59 (fun _ => 0)) 60 (fun _ => 0)) 61 (fun _ => 0)) 62 (fun _ => 0))
set_option maxRecDepth 20000 in
theorem z_ZZ_e (M : Mem) : f_X10_init M = f_X10_init_tail (z_ZZ M) := rfl
theorem z_Z39 (M : Mem) : z_ZZ M 39 = fun _ => 0 := by
  unfold z_ZZ
  rw [mup_c (by decide), mup_c (by decide), mup_c (by decide), mup_c (by decide), mup_c (by decide), mup_c (by decide), mup_c (by decide), mup_c (by decide), mup_c (by decide), mup_c (by decide), msl_c (by decide), mup_c (by decide), msl_c (by decide), mup_c (by decide), mup_c (by decide), mup_c (by decide), msl_c (by decide), mup_c (by decide), mup_c (by decide), mup_c (by decide), mup_c (by decide), mup_c (by decide), mup_c (by decide), mup_c (by decide), mset_c (by decide), mup_c (by decide), mup_c (by decide), mup_at]
theorem z_Z40 (M : Mem) : z_ZZ M 40 = fun _ => 0 := by
  unfold z_ZZ
  rw [mup_c (by decide), mup_c (by decide), mup_c (by decide), mup_c (by decide), mup_c (by decide), mup_c (by decide), mup_c (by decide), mup_c (by decide), mup_c (by decide), mup_c (by decide), msl_c (by decide), mup_c (by decide), msl_c (by decide), mup_c (by decide), mup_c (by decide), mup_c (by decide), msl_c (by decide), mup_c (by decide), mup_c (by decide), mup_c (by decide), mup_c (by decide), mup_c (by decide), mup_c (by decide), mup_c (by decide), mset_c (by decide), mup_c (by decide), mup_at]
theorem z_Z41 (M : Mem) : z_ZZ M 41 = fun _ => 0 := by
  unfold z_ZZ
  rw [mup_c (by decide), mup_c (by decide), mup_c (by decide), mup_c (by decide), mup_c (by decide), mup_c (by decide), mup_c (by decide), mup_c (by decide), mup_c (by decide), mup_c (by decide), msl_c (by decide), mup_c (by decide), msl_c (by decide), mup_c (by decide), mup_c (by decide), mup_c (by decide), msl_c (by decide), mup_c (by decide), mup_c (by decide), mup_c (by decide), mup_c (by decide), mup_c (by decide), mup_c (by decide), mup_c (by decide), mset_c (by decide), mup_at]
theorem z_Z42 (M : Mem) : z_ZZ M 42 = fun _ => 0 := by
  unfold z_ZZ
  rw [mup_c (by decide), mup_c (by decide), mup_c (by decide), mup_c (by decide), mup_c (by decide), mup_c (by decide), mup_c (by decide), mup_c (by decide), mup_c (by decide), mup_c (by decide), msl_c (by decide), mup_c (by decide), msl_c (by decide), mup_c (by decide), mup_c (by decide), mup_c (by decide), msl_c (by decide), mup_c (by decide), mup_c (by decide), mup_c (by decide), mup_c (by decide), mup_c (by decide), mup_c (by decide), mup_at]
theorem z_Z44 (M : Mem) : z_ZZ M 44 = fun _ => 0 := by
  unfold z_ZZ
  rw [mup_c (by decide), mup_c (by decide), mup_c (by decide), mup_c (by decide), mup_c (by decide), mup_c (by decide), mup_c (by decide), mup_c (by decide), mup_c (by decide), mup_c (by decide), msl_c (by decide), mup_c (by decide), msl_c (by decide), mup_c (by decide), mup_c (by decide), mup_c (by decide), msl_c (by decide), mup_c (by decide), mup_c (by decide), mup_c (by decide), mup_c (by decide), mup_at]
theorem z_Z47 (M : Mem) : z_ZZ M 47 = fun _ => 0 := by
  unfold z_ZZ
  rw [mup_c (by decide), mup_c (by decide), mup_c (by decide), mup_c (by decide), mup_c (by decide), mup_c (by decide), mup_c (by decide), mup_c (by decide), mup_c (by decide), mup_c (by decide), msl_c (by decide), mup_c (by decide), msl_c (by decide), mup_c (by decide), mup_c (by decide), mup_c (by decide), msl_c (by decide), mup_c (by decide), mup_at]
theorem z_Z49 (M : Mem) : z_ZZ M 49 = fun _ => 0 := by
  unfold z_ZZ
  rw [mup_c (by decide), mup_c (by decide), mup_c (by decide), mup_c (by decide), mup_c (by decide), mup_c (by decide), mup_c (by decide), mup_c (by decide), mup_c (by decide), mup_c (by decide), msl_c (by decide), mup_c (by decide), msl_c (by decide), mup_c (by decide), mup_c (by decide), mup_at]
theorem z_Z50 (M : Mem) : z_ZZ M 50 = fun _ => 0 := by
  unfold z_ZZ
  rw [mup_c (by decide), mup_c (by decide), mup_c (by decide), mup_c (by decide), mup_c (by decide), mup_c (by decide), mup_c (by decide), mup_c (by decide), mup_c (by decide), mup_c (by decide), msl_c (by decide), mup_c (by decide), msl_c (by decide), mup_c (by decide), mup_at]
theorem z_Z38 (M : Mem) (j : Nat) : z_ZZ M 38 j = if j = 5 then 100 else M 38 j := by
  unfold z_ZZ
  rw [mup_c (by decide), mup_c (by decide), mup_c (by decide), mup_c (by decide), mup_c (by decide), mup_c (by decide), mup_c (by decide), mup_c (by decide), mup_c (by decide), mup_c (by decide), msl_c (by decide), mup_c (by decide), msl_c (by decide), mup_c (by decide), mup_c (by decide), mup_c (by decide), msl_c (by decide), mup_c (by decide), mup_c (by decide), mup_c (by decide), mup_c (by decide), mup_c (by decide), mup_c (by decide), mup_c (by decide)]
  by_cases q : j = 5
  · rw [q, mset_at, if_pos rfl]
  · rw [mset_i q, if_neg q, mup_c (by decide), mup_c (by decide), mup_c (by decide)]
theorem z_Zlo (M : Mem) {c : Nat} (h : c < 38) : z_ZZ M c = M c := by
  unfold z_ZZ
  rw [mup_c (by omega), mup_c (by omega), mup_c (by omega), mup_c (by omega), mup_c (by omega), mup_c (by omega), mup_c (by omega), mup_c (by omega), mup_c (by omega), mup_c (by omega), msl_c (by omega), mup_c (by omega), msl_c (by omega), mup_c (by omega), mup_c (by omega), mup_c (by omega), msl_c (by omega), mup_c (by omega), mup_c (by omega), mup_c (by omega), mup_c (by omega), mup_c (by omega), mup_c (by omega), mup_c (by omega), mset_c (by omega), mup_c (by omega), mup_c (by omega), mup_c (by omega)]
theorem z_L48 : ∀ j : Nat, j < 4 → ([-1, -1, -1, -1] : List Int).getD j 0 = -1 := by decide +kernel
theorem z_Z48 (M : Mem) {j : Nat} (h : j < 4) : z_ZZ M 48 j = -1 := by
  unfold z_ZZ
  rw [mup_c (by decide), mup_c (by decide), mup_c (by decide), mup_c (by decide), mup_c (by decide), mup_c (by decide), mup_c (by decide), mup_c (by decide), mup_c (by decide), mup_c (by decide), msl_c (by decide), mup_c (by decide), msl_c (by decide), mup_c (by decide), mup_c (by decide), mup_c (by decide)]
  have e := msl_at (c := 48) ([-1, -1, -1, -1] : List Int)
  refine Eq.trans ?_ (z_L48 j h)
  rw [← e _ 0 j h, Nat.zero_add]
theorem z_L51 : ∀ j : Nat, j < 53 → ([109, 97, 121, 32, 49, 32, 59, 32, 108, 105, 107, 101, 115, 32, 53, 48, 32, 45, 32, 112, 114, 105, 99, 101, 32, 43, 32, 109, 97, 110, 121, 32, 59, 32, 108, 101, 97, 114, 110, 115, 32, 55, 50, 48, 32, 45, 32, 108, 101, 102, 116, 32, 59] : List Int).getD j 0 = z_lw j := by decide +kernel
theorem z_Z51 (M : Mem) {j : Nat} (h : j < 53) : z_ZZ M 51 j = z_lw j := by
  unfold z_ZZ
  rw [mup_c (by decide), mup_c (by decide), mup_c (by decide), mup_c (by decide), mup_c (by decide), mup_c (by decide), mup_c (by decide), mup_c (by decide), mup_c (by decide), mup_c (by decide), msl_c (by decide), mup_c (by decide)]
  have e := msl_at (c := 51) ([109, 97, 121, 32, 49, 32, 59, 32, 108, 105, 107, 101, 115, 32, 53, 48, 32, 45, 32, 112, 114, 105, 99, 101, 32, 43, 32, 109, 97, 110, 121, 32, 59, 32, 108, 101, 97, 114, 110, 115, 32, 55, 50, 48, 32, 45, 32, 108, 101, 102, 116, 32, 59] : List Int)
  refine Eq.trans ?_ (z_L51 j h)
  rw [← e _ 0 j h, Nat.zero_add]
theorem z_L52 : ∀ j : Nat, j < 96 → ([109, 97, 121, 32, 32, 32, 32, 32, 108, 105, 107, 101, 115, 32, 32, 32, 108, 101, 97, 114, 110, 115, 32, 32, 112, 114, 105, 99, 101, 32, 32, 32, 112, 97, 114, 116, 115, 32, 32, 32, 112, 108, 97, 99, 101, 32, 32, 32, 109, 97, 110, 121, 32, 32, 32, 32, 103, 117, 101, 115, 116, 32, 32, 32, 108, 101, 102, 116, 32, 32, 32, 32, 111, 114, 32, 32, 32, 32, 32, 32, 97, 110, 100, 32, 32, 32, 32, 32, 110, 111, 116, 32, 32, 32, 32, 32] : List Int).getD j 0 = ((wds.getD j 0 : Nat) : Int) := by decide +kernel
theorem z_Z52 (M : Mem) {j : Nat} (h : j < 96) : z_ZZ M 52 j = ((wds.getD j 0 : Nat) : Int) := by
  unfold z_ZZ
  rw [mup_c (by decide), mup_c (by decide), mup_c (by decide), mup_c (by decide), mup_c (by decide), mup_c (by decide), mup_c (by decide), mup_c (by decide), mup_c (by decide), mup_c (by decide)]
  have e := msl_at (c := 52) ([109, 97, 121, 32, 32, 32, 32, 32, 108, 105, 107, 101, 115, 32, 32, 32, 108, 101, 97, 114, 110, 115, 32, 32, 112, 114, 105, 99, 101, 32, 32, 32, 112, 97, 114, 116, 115, 32, 32, 32, 112, 108, 97, 99, 101, 32, 32, 32, 109, 97, 110, 121, 32, 32, 32, 32, 103, 117, 101, 115, 116, 32, 32, 32, 108, 101, 102, 116, 32, 32, 32, 32, 111, 114, 32, 32, 32, 32, 32, 32, 97, 110, 100, 32, 32, 32, 32, 32, 110, 111, 116, 32, 32, 32, 32, 32] : List Int)
  refine Eq.trans ?_ (z_L52 j h)
  rw [← e _ 0 j h, Nat.zero_add]
theorem z_copy (Z : Mem) (K : Mem → Option (Int × Mem)) : ∃ N, f_X10_init_tail_L1107 K 100000 0 Z = K N ∧ agx [44] Z N ∧ ∀ j : Nat, N 44 j = if j < 53 then Z 51 j else Z 44 j := by
  obtain ⟨n, M1, e, h⟩ := loopN (N := 53) (F := fun n i (st : Mem) => f_X10_init_tail_L1107 K n (i : Int) st) (P := fun i st => agx [44] Z st ∧ ∀ j : Nat, st 44 j = if j < i then Z 51 j else Z 44 j) (by
    intro n i M1 hi hP
    obtain ⟨p1, p2⟩ := hP
    refine ⟨mset M1 44 i (Z 51 i), ?_, p1.mset (by decide), fun j => ?_⟩
    · show f_X10_init_tail_L1107 K (n + 1) (i : Int) M1 = f_X10_init_tail_L1107 K n ((i + 1 : Nat) : Int) (mset M1 44 i (Z 51 i))
      rw [f_X10_init_tail_L1107, if_pos (by omega), if_pos ⟨by omega, by omega⟩, if_pos ⟨by omega, by omega⟩, w32_n1 (by omega), Int.toNat_natCast, p1 51 (by decide)]
    · by_cases q : j = i
      · rw [q, mset_at, if_pos (by omega)]
      · rw [mset_i q, p2 j]
        by_cases q2 : j < i
        · rw [if_pos q2, if_pos (by omega)]
        · rw [if_neg q2, if_neg (by omega)]) 53 100000 0 Z rfl (by decide) ⟨agx.refl, fun j => by rw [if_neg (Nat.not_lt_zero _)]⟩
  have e : f_X10_init_tail_L1107 K 100000 0 Z = f_X10_init_tail_L1107 K (n + 1) ((53 : Nat) : Int) M1 := e
  rw [e, f_X10_init_tail_L1107, if_neg (by decide)]
  exact ⟨M1, rfl, h.1, h.2⟩
def z_z : Nat → Int := fun _ => 0
/-- what the class's constructor leaves -/
def z_CI (M A' : Mem) : Prop := (∀ j : Nat, j < 4320 → M 2 j = ((tb j : Nat) : Int)) ∧ (M 3 = z_z ∧ M 4 = z_z ∧ M 5 = z_z ∧ M 6 = z_z ∧ M 7 = z_z) ∧ (M 12 5 = 1 ∧ M 13 3 = 0 ∧ (∀ j : Nat, M 14 j = if j < 53 then z_lw j else 0) ∧ M 17 = A' 17 ∧ M 18 = A' 18) ∧ (M 31 = z_z ∧ M 32 = z_z ∧ (∀ s : Nat, s < 4 → M 34 s = -1) ∧ M 35 = z_z ∧ M 36 = z_z ∧ M 37 = z_z) ∧ (M 0 9 = 0 ∧ M 0 10 = 100 ∧ M 0 11 = 0 ∧ M 0 12 = 1) ∧
  ∀ B : Mem, TPE z_lw 53 B → WD B → B 38 13 = 0 → B 38 26 = 0 → B 38 34 = 0 → ∃ B', f_X10_text_L26 KT 100000 1 0 B = some (0, B') ∧ agp (Drr 0) B B' ∧ B' 38 10 = 0 ∧ B' 38 13 = 1 ∧ SND A' B' 0
def z_A1 (M : Mem) : Mem := mup (mup (mup (mup (mup (mup (mup (mup (mup M 3 z_z) 4 z_z) 5 z_z) 6 z_z) 7 z_z) 8 z_z) 9 z_z) 10 z_z) 11 z_z
def z_A2 (M : Mem) : Mem := mup (mup (mup (mup (mup (mup (mup (mup (mup M 12 z_z) 13 z_z) 14 z_z) 15 z_z) 16 z_z) 17 z_z) 18 z_z) 19 z_z) 20 z_z
def z_A3 (M : Mem) : Mem := mup (mup (mup (mup (mup (mup (mup (mup (mup (mup (mup (mup M 21 z_z) 22 z_z) 23 z_z) 24 z_z) 25 z_z) 26 z_z) 27 z_z) 28 z_z) 29 z_z) 30 z_z) 31 z_z) 32 z_z
def z_A4 (M : Mem) : Mem := mset (mset (mup (mup (mup (mset (mset (mset (mset (mup (mup M 33 z_z) 34 z_z) 34 0 (-1)) 34 1 (-1)) 34 2 (-1)) 34 3 (-1)) 35 z_z) 36 z_z) 37 z_z) 0 10 100) 0 12 1
theorem z_X9 : ∃ M A', f_X9_init (mup (fun _ _ => 0) 0 (fun _ => 0)) = some (0, M) ∧ z_CI M A' := by
  obtain ⟨Ma, a1, a2, a3⟩ := z_X7 (mup (mup (fun _ _ => 0) 0 z_z) 1 z_z)
  generalize hD : z_A2 (z_A1 Ma) = D
  have d0 : D 0 = z_z := by rw [← hD]; exact (show z_A2 (z_A1 Ma) 0 = Ma 0 from rfl).trans (a2 0 (by decide))
  have d2 : D 2 = Ma 2 := by rw [← hD]; rfl
  have d3 : D 3 = z_z := by rw [← hD]; rfl
  have d4 : D 4 = z_z := by rw [← hD]; rfl
  have d5 : D 5 = z_z := by rw [← hD]; rfl
  have d6 : D 6 = z_z := by rw [← hD]; rfl
  have d7 : D 7 = z_z := by rw [← hD]; rfl
  have d12 : D 12 = z_z := by rw [← hD]; rfl
  have d13 : D 13 = z_z := by rw [← hD]; rfl
  have d14 : D 14 = z_z := by rw [← hD]; rfl
  obtain ⟨E, e1, e2, e3, e4⟩ := z_adds (M := D) (by rw [d13]; rfl) (fun j => by rw [d14]; rfl) (fun M578 => ob (f_X6_read M578) fun r579 M580 => some (0, M580))
  obtain ⟨A', t1, t2, t3, t4, t5⟩ := z_text (A := E) ⟨by decide, e3, fun j hj => by rw [e4 j, if_pos hj]⟩ (by rw [e2 12 (by decide), d12]; rfl)
  refine ⟨z_A4 (z_A3 A'), A', ?_, ?_⟩
  · unfold f_X9_init
    refine ob_I a1 ?_
    refine ob_I (r := 0) (M1 := mup (mup (mup (mup Ma 3 z_z) 4 z_z) 5 z_z) 6 z_z) rfl ?_
    refine ob_I (r := 0) (M1 := z_A1 Ma) rfl ?_
    refine ob_I (r := 0) (M1 := A') ?_ ?_
    · unfold f_X6_init
      refine ob_I (r := 0) (M1 := mup (mup (mup (mup (mup (z_A1 Ma) 12 z_z) 13 z_z) 14 z_z) 15 z_z) 16 z_z) rfl ?_
      show f_X6_init_tail (z_A2 (z_A1 Ma)) = _
      rw [hD]
      unfold f_X6_init_tail
      rw [e1]
      exact ob_I t1 rfl
    refine ob_I (r := 0) (M1 := mup (mup (mup (mup (mup (mup A' 21 z_z) 22 z_z) 23 z_z) 24 z_z) 25 z_z) 26 z_z) rfl ?_
    refine ob_I (r := 0) (M1 := mup (mup (mup (mup (mup (mup (mup (mup (mup (mup A' 21 z_z) 22 z_z) 23 z_z) 24 z_z) 25 z_z) 26 z_z) 27 z_z) 28 z_z) 29 z_z) 30 z_z) rfl ?_
    refine ob_I (r := 0) (M1 := z_A3 A') rfl ?_
    refine ob_I (r := 0) (M1 := mup (mup (mset (mset (mset (mset (mup (mup (z_A3 A') 33 z_z) 34 z_z) 34 0 (-1)) 34 1 (-1)) 34 2 (-1)) 34 3 (-1)) 35 z_z) 36 z_z) rfl ?_
    rfl
  · generalize hF : z_A4 (z_A3 A') = F
    have lo : ∀ c, c < 8 → c ≠ 0 → F c = D c := fun c h1 h2 => by
      have z1 : F c = A' c := by
        rw [← hF]
        have : c = 1 ∨ c = 2 ∨ c = 3 ∨ c = 4 ∨ c = 5 ∨ c = 6 ∨ c = 7 := by omega
        rcases this with rfl | rfl | rfl | rfl | rfl | rfl | rfl <;> rfl
      rw [z1, t2 c (by simp; omega), e2 c (by simp; omega)]
    have z0 : A' 0 = z_z := by rw [t2 0 (by decide), e2 0 (by decide)]; exact d0
    refine ⟨fun j hj => ?_, ⟨?_, ?_, ?_, ?_, ?_⟩, ⟨?_, ?_, fun j => ?_, ?_, ?_⟩, ⟨?_, ?_, fun s hs => ?_, ?_, ?_, ?_⟩, ⟨?_, ?_, ?_, ?_⟩, t5⟩
    · rw [lo 2 (by decide) (by decide), d2]; exact a3 j hj
    · rw [lo 3 (by decide) (by decide)]; exact d3
    · rw [lo 4 (by decide) (by decide)]; exact d4
    · rw [lo 5 (by decide) (by decide)]; exact d5
    · rw [lo 6 (by decide) (by decide)]; exact d6
    · rw [lo 7 (by decide) (by decide)]; exact d7
    · rw [← hF]; exact t4
    · rw [← hF]; exact t3
    · rw [← hF]
      have : z_A4 (z_A3 A') 14 = A' 14 := rfl
      rw [this, t2 14 (by decide)]; exact e4 j
    · rw [← hF]; rfl
    · rw [← hF]; rfl
    · rw [← hF]; rfl
    · rw [← hF]; rfl
    · rw [← hF]
      have : s = 0 ∨ s = 1 ∨ s = 2 ∨ s = 3 := by omega
      rcases this with rfl | rfl | rfl | rfl <;> rfl
    · rw [← hF]; rfl
    · rw [← hF]; rfl
    · rw [← hF]; rfl
    · rw [← hF]; exact (show z_A4 (z_A3 A') 0 9 = A' 0 9 from rfl).trans (by rw [z0]; rfl)
    · rw [← hF]; rfl
    · rw [← hF]; exact (show z_A4 (z_A3 A') 0 11 = A' 0 11 from rfl).trans (by rw [z0]; rfl)
    · rw [← hF]; rfl
/-- the reference's constructor behind the class's: the invariant -/
theorem z_X10 {M A' : Mem} (h : z_CI M A') : ∃ N, f_X10_init (mup M 38 (fun _ => 0)) = some (0, N) ∧ Inv N := by
  obtain ⟨c2, ⟨c3, c4, c5, c6, c7⟩, ⟨c12, c13, c14, c17, c18⟩, ⟨c31, c32, c34, c35, c36, c37⟩, ⟨c09, c010, c011, c012⟩, ct5⟩ := h
  obtain ⟨N2, n1, n2, n3⟩ := z_copy (z_ZZ (mup M 38 (fun _ => 0))) (fun M581 => ob (f_X10_text (mset M581 38 10 53)) fun r582 M583 => f_X10_init_tail_L1146 100000 0 0 M583)
  have w38 : ∀ j, N2 38 j = if j = 5 then 100 else 0 := fun j => by
    rw [n2 38 (by decide), z_Z38, mup_at]
  have w52 : WD N2 := fun i hi => by rw [n2 52 (by decide), z_Z52 _ hi]
  generalize hB : mset (mset (mset N2 38 10 53) 38 26 0) 38 34 0 = B
  have b0 : ∀ c, c ≠ 38 → B c = N2 c := fun c hc => by rw [← hB, mset_c hc, mset_c hc, mset_c hc]
  have b38 : ∀ j, j ≠ 10 → j ≠ 26 → j ≠ 34 → B 38 j = if j = 5 then 100 else 0 := fun j j1 j2 j3 => by
    rw [← hB, mset_i j3, mset_i j2, mset_i j1]; exact w38 j
  have b10 : B 38 10 = 53 := by rw [← hB, mset_i (by decide), mset_i (by decide), mset_at]
  have b26 : B 38 26 = 0 := by rw [← hB, mset_i (by decide), mset_at]
  have b34 : B 38 34 = 0 := by rw [← hB, mset_at]
  have hTP : TPE z_lw 53 B := ⟨by decide, b10, fun j hj => by rw [b0 44 (by decide), n3 j, if_pos hj, z_Z51 _ hj]⟩
  have hW : WD B := fun i hi => by rw [b0 52 (by decide)]; exact w52 i hi
  obtain ⟨B', t1, t2, t3, t4, t5⟩ := ct5 B hTP hW (b38 13 (by decide) (by decide) (by decide)) b26 b34
  obtain ⟨N, r1, r2, r3⟩ := z_rows B'
  refine ⟨N, ?_, ?_⟩
  · rw [z_ZZ_e]
    unfold f_X10_init_tail
    rw [n1]
    refine ob_I (r := 0) (M1 := B') ?_ r1
    rw [rtext_e, if_neg (by rw [mset_i (by decide), w38]; decide), hB]
    exact t1
  · have k0 : ∀ c, c < 38 → N c = M c := fun c hc => by
      rw [r2 c (by simp; omega), t2.c c (fun j => by unfold Drr Dr; simp; omega), b0 c (by omega), n2 c (by simp; omega), z_Zlo _ hc, mup_c (by omega)]
    have k1 : ∀ c, c ≠ 38 → c ≠ 43 → c ≠ 44 → c ≠ 45 → c ≠ 46 → c ≠ 53 → N c = z_ZZ (mup M 38 (fun _ => 0)) c := fun c h1 h2 h3 h4 h5 h6 => by
      rw [r2 c (by simp; omega), t2.c c (fun j => by unfold Drr Dr; simp; omega), b0 c h1, n2 c (by simp; omega)]
    have k38 : ∀ j, j < 26 → j ≠ 10 → j ≠ 13 → N 38 j = if j = 5 then 100 else 0 := fun j h1 h2 h3 => by
      rw [r2 38 (by decide), t2.p 38 j (by unfold Drr Dr; simp; omega)]
      exact b38 j h2 (by omega) (by omega)
    have k44 : ∀ j, N 44 j = if j < 53 then z_lw j else 0 := fun j => by
      rw [r2 44 (by decide), t2.c 44 (fun j => by rfl), b0 44 (by decide), n3 j]
      by_cases q : j < 53
      · rw [if_pos q, if_pos q, z_Z51 _ q]
      · rw [if_neg q, if_neg q, z_Z44]
    have k39 : N 39 = z_z := (k1 39 (by decide) (by decide) (by decide) (by decide) (by decide) (by decide)).trans (z_Z39 _)
    have k40 : N 40 = z_z := (k1 40 (by decide) (by decide) (by decide) (by decide) (by decide) (by decide)).trans (z_Z40 _)
    have k41 : N 41 = z_z := (k1 41 (by decide) (by decide) (by decide) (by decide) (by decide) (by decide)).trans (z_Z41 _)
    have k47 : N 47 = z_z := (k1 47 (by decide) (by decide) (by decide) (by decide) (by decide) (by decide)).trans (z_Z47 _)
    have k49 : N 49 = z_z := (k1 49 (by decide) (by decide) (by decide) (by decide) (by decide) (by decide)).trans (z_Z49 _)
    have k50 : N 50 = z_z := (k1 50 (by decide) (by decide) (by decide) (by decide) (by decide) (by decide)).trans (z_Z50 _)
    have k48 : ∀ s, s < 4 → N 48 s = -1 := fun s hs => by rw [k1 48 (by decide) (by decide) (by decide) (by decide) (by decide) (by decide)]; exact z_Z48 _ hs
    have k52 : WD N := fun i hi => by rw [k1 52 (by decide) (by decide) (by decide) (by decide) (by decide) (by decide)]; exact z_Z52 _ hi
    have k10 : N 38 10 = 0 := by rw [r2 38 (by decide)]; exact t3
    have k13 : N 38 13 = 1 := by rw [r2 38 (by decide)]; exact t4
    have g : ∀ j, j < 26 → j ≠ 10 → j ≠ 13 → j ≠ 5 → N 38 j = 0 := fun j h1 h2 h3 h4 => by rw [k38 j h1 h2 h3, if_neg h4]
    have g0 := g 0 (by decide) (by decide) (by decide) (by decide)
    have g3 := g 3 (by decide) (by decide) (by decide) (by decide)
    have g6 := g 6 (by decide) (by decide) (by decide) (by decide)
    have g14 := g 14 (by decide) (by decide) (by decide) (by decide)
    have g15 := g 15 (by decide) (by decide) (by decide) (by decide)
    have g16 := g 16 (by decide) (by decide) (by decide) (by decide)
    have g17 := g 17 (by decide) (by decide) (by decide) (by decide)
    have g18 := g 18 (by decide) (by decide) (by decide) (by decide)
    have g19 := g 19 (by decide) (by decide) (by decide) (by decide)
    have g20 := g 20 (by decide) (by decide) (by decide) (by decide)
    have g5 : N 38 5 = 100 := by rw [k38 5 (by decide) (by decide) (by decide), if_pos rfl]
    have e17 : B' 17 = A' 17 := by
      rw [t2.c 17 (fun j => by rfl), b0 17 (by decide), n2 17 (by decide), z_Zlo _ (by decide), mup_c (by decide)]; exact c17
    have e18 : B' 18 = A' 18 := by
      rw [t2.c 18 (fun j => by rfl), b0 18 (by decide), n2 18 (by decide), z_Zlo _ (by decide), mup_c (by decide)]; exact c18
    have hTX : TX N 0 := by rw [TX_e (M := B') (r2 45 (by decide)) (r2 46 (by decide))]; exact snd_TX (by decide) t5
    have hCX : CX N 0 := by rw [CX_e (M := B') (r2 45 (by decide)) (r2 46 (by decide)) (r2 17 (by decide)) (r2 18 (by decide))]; exact snd_CX e18 e17 t5
    have eln : ln N = 0 := by unfold ln; rw [g0]; rfl
    have efn : fn N = 0 := by unfold fn; rw [g6]; rfl
    have egn : gn N = 0 := by unfold gn; rw [g3]; rfl
    have etn : tn N = 1 := by unfold tn; rw [k13]; rfl
    have erl : rl N = 0 := by unfold rl; rw [g14]; rfl
    have esg : ∀ l, sgn N l = 0 := fun l => by unfold sgn; rw [k39]; rfl
    have lwb : ∀ j : Nat, 0 ≤ (if j < 53 then z_lw j else 0) ∧ (if j < 53 then z_lw j else (0 : Int)) ≤ 255 := fun j => by
      by_cases q : j < 53
      · rw [if_pos q]
        have := z_lw_b j (by omega)
        unfold z_lw
        omega
      · rw [if_neg q]; decide
    refine ⟨⟨⟨?_, ?_, fun l hl => ?_⟩, ⟨?_, ?_, fun f hf => ?_⟩, r3, ⟨?_, ?_, ?_, ?_, ?_, fun t ht => ?_⟩⟩, ⟨⟨?_, fun l hl => ?_, fun l hl t ht => ?_, fun i hi => ?_⟩, ⟨?_, fun f hf => ?_⟩, ⟨?_, ?_, fun t ht => ?_⟩⟩, ⟨?_, ?_, ?_, fun q hq => ?_, ?_, ?_, ?_⟩, ⟨?_, ?_, ?_, fun i hi => ?_⟩, ⟨?_, ?_, ?_, ?_, ?_, ?_, ?_, fun l hl => ?_, fun z => ?_⟩, ⟨fun s hs => ?_, fun i hi => ?_⟩, k52, fun z => ?_⟩
    · rw [eln, g0]; rfl
    · rw [eln]; decide
    · rw [esg l, k39, k40]; exact ⟨rfl, by decide, by decide, Int.le_refl _, by show (0 : Int) ≤ 99; decide⟩
    · rw [efn, g6]; rfl
    · rw [efn]; decide
    · rw [efn] at hf; exact absurd hf (Nat.not_lt_zero _)
    · rw [etn, k13]; rfl
    · rw [etn]; decide
    · rw [etn]; decide
    · rw [erl, g14]; rfl
    · rw [erl, etn]; decide
    · rw [etn] at ht
      have : t = 0 := by omega
      rw [this]; exact hTX
    · rw [k0 3 (by decide), c3, g0]; rfl
    · rw [k0 4 (by decide), k0 5 (by decide), c4, c5, k39, k40]; exact ⟨rfl, rfl⟩
    · rw [k0 6 (by decide), c6]
      unfold hd
      rw [esg l, ps_0]; rfl
    · rw [k0 2 (by decide)]; exact c2 i hi
    · rw [k0 7 (by decide), c7, g6]; rfl
    · rw [efn] at hf; exact absurd hf (Nat.not_lt_zero _)
    · rw [k0 12 (by decide), c12, k13]
    · rw [k0 0 (by decide), c011, g14]
    · rw [etn] at ht
      have : t = 0 := by omega
      rw [this]; exact hCX
    · rw [k0 0 (by decide), c09, g3]
    · rw [egn, g3]; rfl
    · rw [egn]; decide
    · rw [k0 37 (by decide), c37, k41]; exact ⟨rfl, Int.le_refl _, by show (0 : Int) ≤ 63; decide⟩
    · rw [k0 0 (by decide), c010, g5]
    · rw [g5]; decide
    · rw [g5]; decide
    · rw [k0 13 (by decide), c13, k10]
    · rw [k10]; decide
    · rw [k10]; decide
    · rw [k0 14 (by decide), c14 i, k44 i]; exact ⟨rfl, lwb i⟩
    · rw [k0 31 (by decide), c31, g15]; rfl
    · exact Or.inl g15
    · rw [k0 31 (by decide), c31, g16]; rfl
    · rw [k0 31 (by decide), c31, g17]; rfl
    · rw [k0 31 (by decide), c31, g18]; rfl
    · rw [k0 31 (by decide), c31, g19]; rfl
    · rw [k0 31 (by decide), c31, g20]; rfl
    · rw [k0 32 (by decide), c32, k47]
    · rw [g15] at z; exact absurd z (by decide)
    · rw [k0 34 (by decide), k0 35 (by decide), c34 s hs, c35, k48 s hs, k49]; exact ⟨rfl, rfl, by decide, by decide, Int.le_refl _, by show (0 : Int) ≤ 40; decide⟩
    · rw [k0 36 (by decide), c36, k50]
    · rw [k0 0 (by decide), c012] at z; exact absurd z (by decide)
