/-! the start: the first text -/
def z_law : List Nat := [109, 97, 121, 32, 49, 32, 59, 32, 108, 105, 107, 101, 115, 32, 53, 48, 32, 45, 32, 112, 114, 105, 99, 101, 32, 43, 32, 109, 97, 110, 121, 32, 59, 32, 108, 101, 97, 114, 110, 115, 32, 55, 50, 48, 32, 45, 32, 108, 101, 102, 116, 32, 59]
def z_lw (j : Nat) : Int := ((z_law.getD j 0 : Nat) : Int)
theorem z_lw_b : ∀ j : Nat, j < 160 → z_law.getD j 0 < 256 := by decide +kernel
theorem z_ch : ∀ i : Nat, i < 53 → f_J0_charAt_5068e 13 (i : Int) = some (z_lw i) := by decide +kernel
theorem z_len : f_J0_length_8abf5 13 = 53 := by decide +kernel
/-- a small memory with the first text on the reference's tape -/
def z_B : Mem := fun c j => if c = 44 then z_lw j else if c = 52 then ((wds.getD j 0 : Nat) : Int) else if c = 38 ∧ j = 10 then 53 else 0
theorem z_B_ok : (f_X10_text_L26 KT 100000 1 0 z_B).map Prod.fst = some 0 := by decide +kernel
theorem z_text {A : Mem} (hA : TPC z_lw 53 A) (h5 : A 12 5 = 0) : ∃ A', f_X6_read A = some (-1, A') ∧ agx [12, 13, 15, 16, 17, 18] A A' ∧ A' 13 3 = 0 ∧ A' 12 5 = 1 ∧
    ∀ B : Mem, TPE z_lw 53 B → WD B → B 38 13 = 0 → B 38 26 = 0 → B 38 34 = 0 → ∃ B', f_X10_text_L26 KT 100000 1 0 B = some (0, B') ∧ agp (Drr 0) B B' ∧ B' 38 10 = 0 ∧ B' 38 13 = 1 ∧ SND A' B' 0 := by
  have hA0 : TPC z_lw 53 (mset (mset A 12 6 0) 12 7 0) := ⟨hA.1, by rw [mset_c (by decide), mset_c (by decide)]; exact hA.2.1, fun j hj => by rw [mset_c (by decide), mset_c (by decide)]; exact hA.2.2 j hj⟩
  have hby : ∀ j, j < 53 → ∃ x : Nat, z_lw j = (x : Int) ∧ x < 256 := fun j hj => ⟨z_law.getD j 0, rfl, z_lw_b j (by omega)⟩
  have go : ∀ B : Mem, TPE z_lw 53 B → WD B → B 38 13 = 0 → B 38 26 = 0 → B 38 34 = 0 → ∃ A1 A' B', f_X5_cut (mset (mset A 12 6 0) 12 7 0) = some (0, A1) ∧ agx [15, 16] (mset (mset A 12 6 0) 12 7 0) A1 ∧ agp (Dcc 0) A1 A' ∧ agp (Drr 0) B B' ∧ A' 13 3 = 0 ∧ B' 38 10 = 0 ∧
      ((∃ pl : Nat, pl ≤ 160 ∧ cT A1 = some ((pl : Int), A') ∧ f_X10_text_L26 KT 100000 1 0 B = some (-100 - (pl : Int), B')) ∨
       (cT A1 = some (-1, A') ∧ f_X10_text_L26 KT 100000 1 0 B = some (0, B') ∧ A' 12 5 = 1 ∧ B' 38 13 = 1 ∧ SND A' B' 0)) := by
    intro B hB hW b13 b26 b34
    obtain ⟨A1, nt, ae, c1, c2, c3, c4, c5, c6, c7, c8⟩ := lex hA0 hB hW hby
    have a125 : A1 12 5 = 0 := by rw [c2 12 (by decide), mset_i (by decide), mset_i (by decide)]; exact h5
    have a126 : A1 12 6 = 0 := by rw [c2 12 (by decide), mset_i (by decide), mset_at]
    have a127 : A1 12 7 = 0 := by rw [c2 12 (by decide), mset_at]
    have R0 : RDT A1 B 0 nt ae := ⟨by decide, b13, c3, c4, c5, c6⟩
    have P0 : PT A1 B 0 0 ae [] := ⟨a125, ⟨agp.refl, a127, a126, fun j hj => absurd hj (Nat.not_lt_zero _)⟩, b13, by rw [c7]; exact b26, b34, fun j hj => absurd hj (Nat.not_lt_zero _), Nat.le_refl _⟩
    obtain ⟨A2, B2, f1, f2, f3, f4, f5⟩ := text_go R0 P0 c8
    refine ⟨A1, A2, B2, c1, c2, f1, f2, f3, f4, ?_⟩
    rcases f5 with ⟨pl, u1, u2, u3, u4, u5⟩ | ⟨u2, u3, u4, u5, u6⟩
    · exact Or.inl ⟨pl, u1, u2, u3⟩
    · exact Or.inr ⟨u2, u3, u4, u5, u6⟩
  have zB1 : TPE z_lw 53 z_B := ⟨by decide, rfl, fun j _ => rfl⟩
  obtain ⟨A1, A', B0, c1, c2, f1, f2, f3, f4, f5⟩ := go z_B zB1 (fun i _ => rfl) rfl rfl rfl
  rcases f5 with ⟨pl, u1, u2, u3⟩ | ⟨u2, u3, u4, u5, u6⟩
  · have := z_B_ok
    rw [u3] at this
    have this : some (-100 - (pl : Int)) = some (0 : Int) := this
    have := Option.some.inj this
    omega
  · refine ⟨A', ?_, fun c hc => ?_, f3, u4, fun B hB hW b13 b26 b34 => ?_⟩
    · rw [read_e, c1]; exact u2
    · simp only [List.mem_cons, List.not_mem_nil, or_false, not_or] at hc
      obtain ⟨n12, n13, n15, n16, n17, n18⟩ := hc
      have z1 : A' c = A1 c := f1.c c (fun j => by unfold Dcc Dc; simp; omega)
      rw [z1, c2 c (by simp; omega), mset_c n12, mset_c n12]
    · obtain ⟨A1', A'', B', d1, d2, g1, g2, g3, g4, g5⟩ := go B hB hW b13 b26 b34
      have e1 : A1 = A1' := by
        rw [c1] at d1
        exact congrArg Prod.snd (Option.some.inj d1)
      subst e1
      rcases g5 with ⟨pl, v1, v2, v3⟩ | ⟨v2, v3, v4, v5, v6⟩
      · rw [u2] at v2
        have := congrArg Prod.fst (Option.some.inj v2)
        have this : (-1 : Int) = (pl : Int) := this
        omega
      · have e2 : A' = A'' := by
          rw [u2] at v2
          exact congrArg Prod.snd (Option.some.inj v2)
        subst e2
        exact ⟨B', v3, g2, g4, v5, v6⟩
theorem z_adds {M : Mem} (h13 : M 13 3 = 0) (h14 : ∀ j, M 14 j = 0) (K : Mem → Option (Int × Mem)) : ∃ M', f_X6_init_tail_L50 K 100000 0 M = K M' ∧ agx [13, 14] M M' ∧ M' 13 3 = 53 ∧ ∀ j : Nat, M' 14 j = if j < 53 then z_lw j else 0 := by
  obtain ⟨n, M1, e, h⟩ := loopN (N := 53) (F := fun n i (st : Mem) => f_X6_init_tail_L50 K n (i : Int) st) (P := fun i st => agx [13, 14] M st ∧ st 13 3 = (i : Int) ∧ ∀ j : Nat, st 14 j = if j < i then z_lw j else 0) (by
    intro n i M1 hi hP
    obtain ⟨p1, p2, p3⟩ := hP
    have ea : f_X5_add (z_lw i) M1 = some (0, mset (mset M1 14 i (z_lw i)) 13 3 ((i + 1 : Nat) : Int)) := by
      unfold f_X5_add
      rw [p2, if_pos (by omega), wr_n (by omega), mset_c (d := 13) (by decide), p2, w32_n1 (by omega)]
    refine ⟨mset (mset M1 14 i (z_lw i)) 13 3 ((i + 1 : Nat) : Int), ?_, (p1.mset (by decide)).mset (by decide), mset_at _ _ _ _, fun j => ?_⟩
    · show f_X6_init_tail_L50 K (n + 1) (i : Int) M1 = f_X6_init_tail_L50 K n ((i + 1 : Nat) : Int) (mset (mset M1 14 i (z_lw i)) 13 3 ((i + 1 : Nat) : Int))
      rw [f_X6_init_tail_L50, z_len, if_pos (by omega), z_ch i hi]
      simp only [Option.bind_some]
      refine ob_I ea ?_
      rw [w32_n1 (by omega)]
    · rw [mset_c (by decide)]
      by_cases q : j = i
      · rw [q, mset_at, if_pos (by omega)]
      · rw [mset_i q, p3 j]
        by_cases q2 : j < i
        · rw [if_pos q2, if_pos (by omega)]
        · rw [if_neg q2, if_neg (by omega)]) 53 100000 0 M rfl (by decide) ⟨agx.refl, h13, fun j => by rw [if_neg (Nat.not_lt_zero _)]; exact h14 j⟩
  have e : f_X6_init_tail_L50 K 100000 0 M = f_X6_init_tail_L50 K (n + 1) ((53 : Nat) : Int) M1 := e
  rw [e, f_X6_init_tail_L50, z_len, if_neg (by decide)]
  exact ⟨M1, rfl, h.1, h.2.1, h.2.2⟩
