/-! texts: the levels, one above the other -/
section LEVELS
variable {A0 B0 : Mem} {t nt : Nat} {ae : Nat → Int} {g : Int}
/-- a second comparison can't stand -/
def cmp2 (x : Int) (h c : List Int) : Prop := (x = 60 ∨ x = 61) → ∃ y r, (uw 5 h c).1 = y :: r ∧ f_X10_rank y = 4
theorem lx_term {rE rN rO : Int → Mem → Option (Int × Mem)} {o : Nat} {need : Nat} (R : RDT A0 B0 t nt ae) (h5 : A0 12 5 = (t : Int)) (hO : OKf A0 B0 t nt ae 7 7 (fun _ _ _ => True) false need o (rO (o : Int))) :
    OKf A0 B0 t nt ae 6 6 (fun x h c => True ∧ (x == 42) = false) false (need + 1) o (f_X6_readTerm rE rN rO (o : Int)) := by
  refine lv_level (tks := fun x => x == 42) (L := f_X6_readTerm_L12 rE rN rO (o : Int)) (G := rO (o : Int)) R h5 (fun A => rfl) (fun fuel n A hn => ?_) hO (by decide) (by decide) (by decide) (fun x hx => ?_)
  · rw [f_X6_readTerm_L12, if_pos hn, f_X6_pass]
    by_cases h : f_X6_token A = 42
    · rw [if_pos h, if_pos (beq_iff_eq.mpr h), h]; rfl
    · rw [if_neg h, if_neg (fun q => h (beq_iff_eq.mp q))]; rfl
  · rw [beq_iff_eq] at hx
    subst hx
    refine ⟨by decide, by decide, by decide, by decide, ?_, by decide, by decide⟩
    unfold cvr sgo; omega
theorem lx_sum {rE rN rO : Int → Mem → Option (Int × Mem)} {o : Nat} {need : Nat} (R : RDT A0 B0 t nt ae) (h5 : A0 12 5 = (t : Int)) (hO : OKf A0 B0 t nt ae 6 6 (fun x h c => True ∧ (x == 42) = false) false need o (f_X6_readTerm rE rN rO (o : Int))) :
    OKf A0 B0 t nt ae 5 5 (fun x h c => (True ∧ (x == 42) = false) ∧ (x == 43 || x == 45) = false) false (need + 1) o (f_X6_readSum rE rN rO (o : Int)) := by
  refine lv_level (tks := fun x => x == 43 || x == 45) (L := f_X6_readSum_L12 rE rN rO (o : Int)) (G := f_X6_readTerm rE rN rO (o : Int)) R h5 (fun A => rfl) (fun fuel n A hn => ?_) hO (by decide) (by decide) (by decide) (fun x hx => ?_)
  · rw [f_X6_readSum_L12, if_pos hn]
    by_cases h : f_X6_token A = 43
    · rw [if_pos h, if_pos (by rw [h]; rfl)]
    · rw [if_neg h]
      by_cases h2 : f_X6_token A = 45
      · rw [if_pos h2, if_pos (by rw [h2]; rfl)]
      · rw [if_neg h2, if_neg (by simp [h, h2])]
  · rw [Bool.or_eq_true, beq_iff_eq, beq_iff_eq] at hx
    rcases hx with hx | hx
    · subst hx
      refine ⟨by decide, by decide, by decide, by decide, ?_, by decide, by decide⟩
      unfold cvr sgo; omega
    · subst hx
      refine ⟨by decide, by decide, by decide, by decide, ?_, by decide, by decide⟩
      unfold cvr sgo; omega
/-- what stands behind a comparison -/
def exC (x : Int) (h c : List Int) : Prop := cmp2 x h c ∧ x ≠ 42 ∧ x ≠ 43 ∧ x ≠ 45
theorem lx_comp {rE rN rO : Int → Mem → Option (Int × Mem)} {o : Nat} {need : Nat} (R : RDT A0 B0 t nt ae) (h5 : A0 12 5 = (t : Int)) (hO : OKf A0 B0 t nt ae 5 5 (fun x h c => (True ∧ (x == 42) = false) ∧ (x == 43 || x == 45) = false) false need o (f_X6_readSum rE rN rO (o : Int))) :
    OKf A0 B0 t nt ae 4 4 exC false (need + 1) o (f_X6_readCompared rE rN rO (o : Int)) := by
  have r3 := R.2.2.1
  have exS : ∀ {x : Int} {h c : List Int}, ((True ∧ (x == 42) = false) ∧ (x == 43 || x == 45) = false) → x ≠ 42 ∧ x ≠ 43 ∧ x ≠ 45 := by
    intro x h c q
    simp at q
    exact ⟨q.1, q.2.1, q.2.2⟩
  intro A B i g hl cl d mn hA hB hi hlen hcn htop hd hmn
  obtain ⟨r, A2, i2, g1, g2, g3, g4, g5, g6⟩ := hO A B i g hl cl d mn hA hB hi hlen hcn (fun y r e => Int.lt_trans (htop y r e) (by decide)) (by omega) hmn
  rcases g6 with ⟨rfl, B', f1, f2⟩ | ⟨rfl, w, q, cl1, B', g', mn', f1, f2, f3, f4, f5, f6, f7, f8, f9⟩
  · exact ⟨0, A2, i2, by rw [f_X6_readCompared]; exact ob_I g1 (by rw [if_pos rfl]), g2, g3, g4, g5, Or.inl ⟨rfl, B', f1, f2⟩⟩
  · have etok := a_token f2 (by omega)
    by_cases hc : A0 15 i2 = 60 ∨ A0 15 i2 = 61
    · have hi2 : i2 < nt := by
        have : i2 ≠ nt := by intro e; rw [e, R.2.2.2.2.1] at hc; omega
        omega
      have hsg : f_X10_rank (sgo (A0 15 i2)) = 4 ∧ sgo (A0 15 i2) ≠ -1 ∧ (sgo (A0 15 i2) = 11 ∨ sgo (A0 15 i2) = 12 ∨ 14 ≤ sgo (A0 15 i2) ∧ sgo (A0 15 i2) ≤ 18) ∧ 12 < sgo (A0 15 i2) ∧ cvr (A0 15 i2) (sgo (A0 15 i2)) ∧ ulv (sgo (A0 15 i2)) = 5 := by
        rcases hc with e | e
        · rw [e]; refine ⟨by decide, by decide, by decide, by decide, ?_, by decide⟩
          unfold cvr sgo; omega
        · rw [e]; refine ⟨by decide, by decide, by decide, by decide, ?_, by decide⟩
          unfold cvr sgo; omega
      obtain ⟨x1, x2, x3, x4, x5, x6⟩ := hsg
      have euw : uw 5 (q ++ hl) cl1 = (hl, w ++ cl) := by
        rw [uw_app (Int.le_refl 5) q hl cl1 f4, f5]
        cases hl with
        | nil => rfl
        | cons y r => exact uw_stop (Int.lt_trans (htop y r rfl) (by decide))
      have hul := uw_len 5 (q ++ hl) cl1
      rw [euw] at hul
      have hul : hl.length + (w ++ cl).length = (q ++ hl).length + cl1.length := hul
      obtain ⟨-, o2⟩ := o_op (K := KE) R hi2 f3 (by omega) x2
      obtain ⟨B1, v1, s1⟩ := o2 (fun z => by
        obtain ⟨_, y, r, z1, z2⟩ := z
        rw [euw] at z1
        have := htop y r z1
        omega)
      rw [x6, euw] at v1
      have hop := opn_sg x3
      have hA1 := a_next f2 (by omega)
      obtain ⟨r, A3, i3, k1, k2, k3, k4, k5, k6⟩ := hO _ B1 (i2 + 1) _ (sgo (A0 15 i2) :: hl) (w ++ cl) (d + 1) (if 12 < sgo (A0 15 i2) then 0 else 1) hA1 v1 (by omega) (by rw [List.length_cons]; omega) (by rw [cnt_c, hop, Nat.zero_add]; exact hcn) (fun y r e => by cases e; rw [x1]; decide) (by omega) (by rw [if_neg (by decide)]; intro _; rw [if_pos x4])
      have hbody : f_X6_readCompared rE rN rO (o : Int) A = ob (f_X6_readSum rE rN rO (o : Int) (mset A2 12 7 (w32 (A2 12 7 + 1)))) fun r88 M89 => if r88 = 0 then some (0, M89) else ob (f_X6_write (A0 15 i2) M89) fun _ M91 => some (1, M91) := by
        rw [f_X6_readCompared]
        refine ob_I g1 ?_
        rw [if_neg (by decide), etok]
        rcases hc with e | e
        · rw [if_pos e]
        · rw [if_neg (by omega), if_pos e]
      rcases k6 with ⟨rfl, B3, u1, u2⟩ | ⟨rfl, w2, q2, cl2, B3, g3', mn3, u1, u2, u3, u4, u5, u6, u7, u8, u9⟩
      · refine ⟨0, A3, i3, by rw [hbody]; exact ob_I k1 (by rw [if_pos rfl]), k2, k3, by omega, k5, Or.inl ⟨rfl, B3, u1, fun f => ?_⟩⟩
        rw [show f + (i3 - i) + 1 = ((f + (i3 - (i2 + 1)) + 1) + 1) + (i2 - i) by omega, f9, s1]
        exact u2 f
      · obtain ⟨A4, a1, a2⟩ := a_write (s := A0 15 i2) (c := sgo (A0 15 i2)) R.1 h5 u2 (by
          have := congrArg List.length u5
          simp only [List.length_append, List.length_reverse, List.length_cons] at this u6 ⊢
          omega) x5
        have hcl : (sgo (A0 15 i2) :: (w2 ++ (w ++ cl))) = (sgo (A0 15 i2) :: (w2 ++ w)) ++ cl := by simp
        rw [hcl] at a2
        have hql : q2 ++ sgo (A0 15 i2) :: hl = (q2 ++ [sgo (A0 15 i2)]) ++ hl := by simp
        have hcm : cmp2 (A0 15 i3) ((q2 ++ [sgo (A0 15 i2)]) ++ hl) cl2 := by
          intro _
          refine ⟨sgo (A0 15 i2), hl, ?_, x1⟩
          rw [← hql, uw_app (Int.le_refl 5) q2 _ cl2 u4, uw_stop (by rw [x1]; decide)]
        rw [hql] at u3 u6
        refine ⟨1, A4, i3, by rw [hbody]; exact ob_I k1 (by rw [if_neg (by decide)]; exact ob_I a1 rfl), a2.1, a2.2.1, by omega, k5, Or.inr ⟨rfl, sgo (A0 15 i2) :: (w2 ++ w), q2 ++ [sgo (A0 15 i2)], cl2, B3, g3', mn3, by omega, a2, u3, fun x hx => ?_, ?_, u6, ?_, ⟨hcm, exS (h := hl) (c := cl) u8⟩, fun f => ?_⟩⟩
        · rcases List.mem_append.mp hx with hx | hx
          · exact Int.le_trans (by decide) (u4 x hx)
          · rw [List.mem_singleton.mp hx, x1]; decide
        · rw [List.reverse_append, List.reverse_singleton]
          simp only [List.singleton_append, List.cons_append, List.append_assoc, List.nil_append]
          rw [u5]
        · rw [List.reverse_cons, List.reverse_append]
          exact wd_bi (wd_app _ _ _ _ _ f7 u7) x3
        · rw [show f + (i3 - i) = ((f + (i3 - (i2 + 1))) + 1) + (i2 - i) by omega, f9, s1]
          exact u9 f
    · refine ⟨1, A2, i2, ?_, g2, g3, g4, g5, Or.inr ⟨rfl, w, q, cl1, B', g', mn', f1, f2, f3, fun x hx => Int.le_trans (by decide) (f4 x hx), f5, f6, f7, ⟨fun e => absurd e hc, exS (h := hl) (c := cl) f8⟩, f9⟩⟩
      rw [f_X6_readCompared]
      refine ob_I g1 ?_
      rw [if_neg (by decide), etok, if_neg (fun e => hc (Or.inl e)), if_neg (fun e => hc (Or.inr e))]
theorem lx_not {rE rN rO : Int → Mem → Option (Int × Mem)} {o need : Nat} (R : RDT A0 B0 t nt ae) (h5 : A0 12 5 = (t : Int)) (ho : o ≤ 5) (hO : OKf A0 B0 t nt ae 4 4 exC false need o (f_X6_readCompared rE rN rO (o : Int)))
    (hN : o < 5 → OKf A0 B0 t nt ae 3 4 exC true need (o + 1) (rN ((o + 1 : Nat) : Int))) :
    OKf A0 B0 t nt ae 3 4 exC true need o (f_X6_readNot rE rN rO (o : Int)) := by
  have r3 := R.2.2.1
  intro A B i g hl cl d mn hA hB hi hlen hcn htop hd hmn
  rw [if_pos rfl] at hmn
  have etok := a_token hA (by omega)
  by_cases hx : A0 15 i = 261
  · have hi2 : i < nt := by
      have : i ≠ nt := by intro e; rw [e, R.2.2.2.2.1] at hx; exact absurd hx (by decide)
      omega
    obtain ⟨o1, o2⟩ := w_opens (K := KE) (mn := mn) (sg := 13) (mn' := 1) R hi2 hB hlen (by omega) (Or.inl ⟨hx, hmn, rfl, rfl⟩)
    by_cases h5' : o = 5
    · obtain ⟨B', f1, f2⟩ := o1 (by omega)
      refine ⟨0, A, i, ?_, hA.1, hA.2.1, Nat.le_refl _, hi, Or.inl ⟨rfl, B', f1, fun f => by rw [Nat.sub_self]; exact f2 _⟩⟩
      rw [f_X6_readNot, etok, if_pos hx, if_neg (by omega)]
    · obtain ⟨B1, v1, s1⟩ := o2 (by omega)
      have hop : opn 13 = 1 := by decide
      obtain ⟨r, A2, i2, g1, g2, g3, g4, g5, g6⟩ := hN (by omega) _ B1 (i + 1) _ (13 :: hl) cl d 1 (a_next hA (by omega)) v1 (by omega) (by rw [List.length_cons]; omega) (by rw [cnt_c, hop]; omega) (fun y r e => by cases e; decide) hd (by rw [if_pos rfl])
      have hbody : f_X6_readNot rE rN rO (o : Int) A = ob (rN ((o + 1 : Nat) : Int) (mset A 12 7 (w32 (A 12 7 + 1)))) fun r96 M97 => if r96 = 0 then some (0, M97) else ob (f_X6_write 261 M97) fun _ M99 => some (1, M99) := by
        rw [f_X6_readNot, etok, if_pos hx, if_pos (by omega), w32_n1 (by omega)]
      rcases g6 with ⟨rfl, B', f1, f2⟩ | ⟨rfl, w, q, cl1, B', g', mn', f1, f2, f3, f4, f5, f6, f7, f8, f9⟩
      · refine ⟨0, A2, i2, by rw [hbody]; exact ob_I g1 (by rw [if_pos rfl]), g2, g3, by omega, g5, Or.inl ⟨rfl, B', f1, fun f => ?_⟩⟩
        rw [show f + (i2 - i) + 1 = (f + (i2 - (i + 1)) + 1) + 1 by omega, s1]
        exact f2 f
      · obtain ⟨A3, a1, a2⟩ := a_write (s := 261) (c := 13) R.1 h5 f2 (by
          have := congrArg List.length f5
          simp only [List.length_append, List.length_reverse, List.length_cons] at this f6 ⊢
          omega) (by unfold cvr; omega)
        have hql : q ++ 13 :: hl = (q ++ [13]) ++ hl := by simp
        rw [hql] at f3 f6 f8
        refine ⟨1, A3, i2, by rw [hbody]; exact ob_I g1 (by rw [if_neg (by decide)]; exact ob_I a1 rfl), a2.1, a2.2.1, by omega, g5, Or.inr ⟨rfl, 13 :: w, q ++ [13], cl1, B', g', mn', by omega, a2, f3, fun x hx => ?_, ?_, f6, ?_, f8, fun f => ?_⟩⟩
        · rcases List.mem_append.mp hx with hx | hx
          · exact f4 x hx
          · rw [List.mem_singleton.mp hx]; decide
        · rw [List.reverse_append, List.reverse_singleton]
          simp only [List.singleton_append, List.cons_append, List.append_assoc, List.nil_append]
          rw [f5]
        · rw [List.reverse_cons]
          exact wd_un f7 (Or.inl rfl)
        · rw [show f + (i2 - i) = (f + (i2 - (i + 1))) + 1 by omega, s1]
          exact f9 f
  · obtain ⟨r, A2, i2, g1, g2, g3, g4, g5, g6⟩ := hO A B i g hl cl d mn hA hB hi hlen hcn htop hd (by rw [if_neg (by decide)]; exact fun e => absurd e hx)
    have hr : r = 0 ∨ r = 1 := by
      rcases g6 with ⟨e, _⟩ | ⟨e, _⟩
      · exact Or.inl e
      · exact Or.inr e
    refine ⟨r, A2, i2, ?_, g2, g3, g4, g5, ?_⟩
    · rw [f_X6_readNot, etok, if_neg hx]
      exact ob_I g1 (by rw [if_pos hr])
    · rcases g6 with ⟨e, h1⟩ | ⟨rfl, w, q, cl1, B', g', mn', f1, f2, f3, f4, f5, f6, f7, f8, f9⟩
      · exact Or.inl ⟨e, h1⟩
      · exact Or.inr ⟨rfl, w, q, cl1, B', g', mn', f1, f2, f3, fun x hx => Int.le_trans (by decide) (f4 x hx), f5, f6, f7, f8, f9⟩
def exB (x : Int) (h c : List Int) : Prop := exC x h c ∧ (x == 260) = false
def exE (x : Int) (h c : List Int) : Prop := exB x h c ∧ (x == 259) = false
theorem lx_both {rE rN rO : Int → Mem → Option (Int × Mem)} {o : Nat} {need : Nat} (R : RDT A0 B0 t nt ae) (h5 : A0 12 5 = (t : Int)) (hO : OKf A0 B0 t nt ae 3 4 exC true need o (rN (o : Int))) :
    OKf A0 B0 t nt ae 2 2 exB true (need + 1) o (f_X6_readBoth rE rN rO (o : Int)) := by
  refine lv_level (tks := fun x => x == 260) (L := f_X6_readBoth_L12 rE rN rO (o : Int)) (G := rN (o : Int)) R h5 (fun A => rfl) (fun fuel n A hn => ?_) hO (by decide) (by decide) (by decide) (fun x hx => ?_)
  · rw [f_X6_readBoth_L12, if_pos hn, f_X6_pass]
    by_cases h : f_X6_token A = 260
    · rw [if_pos h, if_pos (beq_iff_eq.mpr h), h]; rfl
    · rw [if_neg h, if_neg (fun q => h (beq_iff_eq.mp q))]; rfl
  · rw [beq_iff_eq] at hx
    subst hx
    refine ⟨by decide, by decide, by decide, by decide, ?_, by decide, by decide⟩
    unfold cvr sgo; omega
theorem lx_either {rE rN rO : Int → Mem → Option (Int × Mem)} {o : Nat} {need : Nat} (R : RDT A0 B0 t nt ae) (h5 : A0 12 5 = (t : Int)) (hO : OKf A0 B0 t nt ae 2 2 exB true need o (f_X6_readBoth rE rN rO (o : Int))) :
    OKf A0 B0 t nt ae 1 1 exE true (need + 1) o (f_X6_readEither rE rN rO (o : Int)) := by
  refine lv_level (tks := fun x => x == 259) (L := f_X6_readEither_L12 rE rN rO (o : Int)) (G := f_X6_readBoth rE rN rO (o : Int)) R h5 (fun A => rfl) (fun fuel n A hn => ?_) hO (by decide) (by decide) (by decide) (fun x hx => ?_)
  · rw [f_X6_readEither_L12, if_pos hn, f_X6_pass]
    by_cases h : f_X6_token A = 259
    · rw [if_pos h, if_pos (beq_iff_eq.mpr h), h]; rfl
    · rw [if_neg h, if_neg (fun q => h (beq_iff_eq.mp q))]; rfl
  · rw [beq_iff_eq] at hx
    subst hx
    refine ⟨by decide, by decide, by decide, by decide, ?_, by decide, by decide⟩
    unfold cvr sgo; omega
end LEVELS
