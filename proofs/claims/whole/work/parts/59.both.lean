/-! texts: the call, both answers -/
theorem text_both {M : Mem} (h : Inv M) (ht : tn M < 6) : ∃ A1 A' B', agx [15, 16] (mset (mset M 12 6 0) 12 7 0) A1 ∧ agp (Dcc (tn M)) A1 A' ∧ agp (Drr (tn M)) (mset (mset A' 38 26 0) 38 34 0) B' ∧ A' 13 3 = 0 ∧ B' 38 10 = 0 ∧
    ((∃ pl : Nat, pl ≤ 160 ∧ f_X9_text M = some (-100 - (pl : Int), A') ∧ f_X10_text A' = some (-100 - (pl : Int), B') ∧ A' 12 5 = (tn M : Int) ∧ B' 38 13 = (tn M : Int)) ∨
     (f_X9_text M = some ((tn M : Int), A') ∧ f_X10_text A' = some ((tn M : Int), B') ∧ A' 12 5 = ((tn M + 1 : Nat) : Int) ∧ B' 38 13 = ((tn M + 1 : Nat) : Int) ∧ SND A' B' (tn M))) := by
  obtain ⟨p1, p2, p3, p4⟩ := h.2.2.2.1
  have hW : WD M := h.2.2.2.2.2.2.1
  have h13 : M 38 13 = (tn M : Int) := h.1.2.2.2.1
  have h125 : M 12 5 = (tn M : Int) := h.2.1.2.2.1.trans h13
  generalize tn M = t at ht h13 h125
  obtain ⟨s, hs⟩ : ∃ s : Nat, M 38 10 = (s : Int) := ⟨(M 38 10).toNat, by omega⟩
  have hs160 : s ≤ 160 := by omega
  have hA : TPC (M 44) s (mset (mset M 12 6 0) 12 7 0) := ⟨hs160, by rw [mset_c (by decide), mset_c (by decide), p1, hs], fun j hj => by rw [mset_c (by decide), mset_c (by decide)]; exact (p4 j (by omega)).1⟩
  have hB : TPE (M 44) s M := ⟨hs160, hs, fun _ _ => rfl⟩
  obtain ⟨A1, nt, ae, c1, c2, c3, c4, c5, c6, c7, c8⟩ := lex hA hB hW (fun j hj => ⟨(M 44 j).toNat, by have := (p4 j (by omega)).2; omega, by have := (p4 j (by omega)).2; omega⟩)
  have RM : RDT A1 M t nt ae := ⟨ht, h13, c3, c4, c5, c6⟩
  have a125 : A1 12 5 = (t : Int) := by rw [c2 12 (by decide), mset_i (by decide), mset_i (by decide)]; exact h125
  have a126 : A1 12 6 = 0 := by rw [c2 12 (by decide), mset_i (by decide), mset_at]
  have a127 : A1 12 7 = 0 := by rw [c2 12 (by decide), mset_at]
  have big : ∀ X : Mem, X 44 = M 44 → X 52 = M 52 → X 38 = M 38 → RDT A1 (mset (mset X 38 26 0) 38 34 0) t nt ae ∧ PT A1 (mset (mset X 38 26 0) 38 34 0) t 0 ae [] := by
    intro X x1 x2 x3
    have e13 : mset (mset X 38 26 0) 38 34 0 38 13 = M 38 13 := by rw [mset_i (by decide), mset_i (by decide), x3]
    refine ⟨rdt_e RM rfl rfl (by rw [mset_c (by decide), mset_c (by decide), x1]) (by rw [mset_c (by decide), mset_c (by decide), x2]) (by rw [mset_i (by decide), mset_i (by decide), x3]) e13, a125, ⟨agp.refl, a127, a126, fun j hj => absurd hj (Nat.not_lt_zero _)⟩, e13.trans h13, by rw [mset_i (by decide), mset_at, c7], mset_at _ _ _ _, fun j hj => absurd hj (Nat.not_lt_zero _), Nat.le_refl _⟩
  have e9 : f_X9_text M = ob (cT A1) fun r M1 => if r = -1 then some (w32 ((M1 12 5) - 1), M1) else some (w32 ((-100) - r), M1) := by
    unfold f_X9_text
    rw [if_pos (by rw [h125]; omega), read_e, c1]
    rfl
  obtain ⟨R0, P0⟩ := big M rfl rfl rfl
  obtain ⟨A2, B2, f1, f2, f3, f4, f5⟩ := text_go R0 P0 c8
  have hup : ∀ cc, 19 ≤ cc → A2 cc = M cc := by
    intro cc hcc
    have z1 : A2 cc = A1 cc := f1.c cc (fun j => by unfold Dcc Dc; simp; omega)
    rw [z1, c2 cc (by simp; omega), mset_c (by omega), mset_c (by omega)]
  obtain ⟨R1, P1'⟩ := big A2 (hup 44 (by decide)) (hup 52 (by decide)) (hup 38 (by decide))
  obtain ⟨A3, B3, g1, g2, g3, g4, g5⟩ := text_go R1 P1' c8
  have e38 : A2 38 13 = (t : Int) := by rw [hup 38 (by decide)]; exact h13
  have e10 : f_X10_text A2 = f_X10_text_L26 KT 100000 1 0 (mset (mset A2 38 26 0) 38 34 0) := by
    rw [rtext_e, if_neg (by rw [e38]; omega)]
  have same : ∀ r r' : Int, cT A1 = some (r, A2) → cT A1 = some (r', A3) → r = r' ∧ A2 = A3 := by
    intro r r' z1 z2
    rw [z1] at z2
    have z3 := Option.some.inj z2
    exact ⟨congrArg Prod.fst z3, congrArg Prod.snd z3⟩
  refine ⟨A1, A2, B3, c2, f1, g2, f3, g4, ?_⟩
  rcases f5 with ⟨pl, u1, u2, u3, u4, u5⟩ | ⟨u2, u3, u4, u5, u6⟩ <;> rcases g5 with ⟨pl', v1, v2, v3, v4, v5⟩ | ⟨v2, v3, v4, v5, v6⟩
  · obtain ⟨w1, w2⟩ := same _ _ u2 v2
    have w1 : pl = pl' := Int.ofNat_inj.mp w1
    subst w1
    refine Or.inl ⟨pl, u1, ?_, by rw [e10]; exact v3, u4, v5⟩
    rw [e9]
    exact ob_I u2 (by rw [if_neg (by omega), w32_id (by omega) (by omega)])
  · exact absurd (same _ _ u2 v2).1 (by omega)
  · exact absurd (same _ _ u2 v2).1 (by omega)
  · obtain ⟨w1, w2⟩ := same _ _ u2 v2
    refine Or.inr ⟨?_, by rw [e10]; exact v3, u4, v5, by rw [w2]; exact v6⟩
    rw [e9]
    refine ob_I u2 ?_
    rw [if_pos rfl, u4, show w32 (((t + 1 : Nat) : Int) - 1) = (t : Int) by rw [w32_id (by omega) (by omega)]; omega]
