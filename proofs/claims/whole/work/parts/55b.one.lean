section ONES2
variable {A0 B0 : Mem} {t nt : Nat} {ae : Nat → Int} {g : Int}
theorem lx_one {rE rN rO : Int → Mem → Option (Int × Mem)} {o e : Nat} (R : RDT A0 B0 t nt ae) (h5 : A0 12 5 = (t : Int)) (ho : o + e = 5)
    (hO : o < 5 → OK1 A0 B0 t nt ae (1 + 5 * (e - 1)) (o + 1) (rO ((o + 1 : Nat) : Int))) (hE : o < 5 → OKf A0 B0 t nt ae 1 1 exE true (1 + 5 * e) (o + 1) (rE ((o + 1 : Nat) : Int))) :
    OK1 A0 B0 t nt ae (1 + 5 * e) o (f_X6_readOne rE rN rO (o : Int)) := by
  have r3 := R.2.2.1
  intro A B i g hl cl d mn hA hB hi hlen hcn hd hmn
  have etok : ∀ _ : Unit, f_X6_token A = A0 15 i := fun _ => a_token hA (by omega)
  have hnt : A0 15 i ≠ 0 → i < nt := fun e => by
    have : i ≠ nt := by intro q; rw [q] at e; exact e R.2.2.2.2.1
    omega
  by_cases h300 : A0 15 i < 300
  · by_cases h45 : A0 15 i = 45
    · have hi2 := hnt (by omega)
      obtain ⟨o1, o2⟩ := w_opens (K := KE) (mn := mn) (sg := 19) (mn' := 0) R hi2 hB hlen (by omega) (Or.inr (Or.inl ⟨h45, rfl, rfl⟩))
      by_cases h5' : o = 5
      · obtain ⟨B', f1, f2⟩ := o1 (by omega)
        refine ⟨0, A, i, ?_, hA.1, hA.2.1, Nat.le_refl _, hi, Or.inl ⟨rfl, B', f1, fun f => by rw [Nat.sub_self]; exact f2 _⟩⟩
        rw [f_X6_readOne, etok (), if_pos h300, if_pos h45, if_neg (by omega)]
      · obtain ⟨B1, v1, s1⟩ := o2 (by omega)
        have hop : opn 19 = 1 := by decide
        obtain ⟨r, A2, i2, g1, g2, g3, g4, g5, g6⟩ := hO (by omega) _ B1 (i + 1) _ (19 :: hl) cl d 0 (a_next hA (by omega)) v1 (by omega) (by rw [List.length_cons]; omega) (by rw [cnt_c, hop]; omega) (by omega) (fun _ => rfl)
        have hbody : f_X6_readOne rE rN rO (o : Int) A = ob (rO ((o + 1 : Nat) : Int) (mset A 12 7 (w32 (A 12 7 + 1)))) fun r102 M103 => if r102 = 0 then some (0, M103) else ob (f_X6_write 262 M103) fun _ M105 => some (1, M105) := by
          rw [f_X6_readOne, etok (), if_pos h300, if_pos h45, if_pos (by omega), if_neg (by omega), w32_n1 (by omega)]
        rcases g6 with ⟨rfl, B', f1, f2⟩ | ⟨rfl, w, B', g', mn', f1, f2, f3, f4, f5, f6⟩
        · refine ⟨0, A2, i2, by rw [hbody]; exact ob_I g1 (by rw [if_pos rfl]), g2, g3, by omega, g5, Or.inl ⟨rfl, B', f1, fun f => ?_⟩⟩
          rw [show f + (i2 - i) + 1 = (f + (i2 - (i + 1)) + 1) + 1 by omega, s1]
          exact f2 f
        · rw [List.length_cons] at f4
          obtain ⟨A3, a1, a2⟩ := a_write (s := 262) (c := 19) R.1 h5 f2 (by omega) (by unfold cvr; omega)
          have eu : uw 7 (19 :: hl) (w ++ cl) = uw 7 hl ((19 :: w) ++ cl) := by
            rw [uw_c, if_neg (by decide)]; rfl
          rw [eu] at f3
          refine ⟨1, A3, i2, by rw [hbody]; exact ob_I g1 (by rw [if_neg (by decide)]; exact ob_I a1 rfl), a2.1, a2.2.1, by omega, g5, Or.inr ⟨rfl, 19 :: w, B', g', mn', by omega, a2, f3, by rw [List.cons_append, List.length_cons]; omega, ?_, fun f => ?_⟩⟩
          · rw [List.reverse_cons]
            exact wd_un f5 (Or.inr rfl)
          · rw [show f + (i2 - i) = (f + (i2 - (i + 1))) + 1 by omega, s1]
            exact f6 f
    · by_cases h40 : A0 15 i = 40
      · have hi2 := hnt (by omega)
        obtain ⟨o1, o2⟩ := w_opens (K := KE) (mn := mn) (sg := 0) (mn' := 1) R hi2 hB hlen (by omega) (Or.inr (Or.inr ⟨h40, rfl, rfl⟩))
        by_cases h5' : o = 5
        · obtain ⟨B', f1, f2⟩ := o1 (by omega)
          refine ⟨0, A, i, ?_, hA.1, hA.2.1, Nat.le_refl _, hi, Or.inl ⟨rfl, B', f1, fun f => by rw [Nat.sub_self]; exact f2 _⟩⟩
          rw [f_X6_readOne, etok (), if_pos h300, if_neg h45, if_pos h40, if_neg (by omega)]
        · obtain ⟨B1, v1, s1⟩ := o2 (by omega)
          have hop : opn 0 = 1 := by decide
          obtain ⟨r, A2, i2, g1, g2, g3, g4, g5, g6⟩ := hE (by omega) _ B1 (i + 1) _ (0 :: hl) cl d 1 (a_next hA (by omega)) v1 (by omega) (by rw [List.length_cons]; omega) (by rw [cnt_c, hop]; omega) (fun y r e => by cases e; decide) hd (by rw [if_pos rfl])
          have hbody : f_X6_readOne rE rN rO (o : Int) A = ob (rE ((o + 1 : Nat) : Int) (mset A 12 7 (w32 (A 12 7 + 1)))) fun r114 M115 => if r114 = 0 then some (0, M115) else ob (f_X6_pass 41 M115) fun r116 M117 => if r116 = 0 then some (0, M117) else some (1, M117) := by
            rw [f_X6_readOne, etok (), if_pos h300, if_neg h45, if_pos h40, if_pos (by omega), if_pos h40, w32_n1 (by omega)]
          rcases g6 with ⟨rfl, B', f1, f2⟩ | ⟨rfl, w, q, cl1, B', g', mn', f1, f2, f3, f4, f5, f6, f7, f8, f9⟩
          · refine ⟨0, A2, i2, by rw [hbody]; exact ob_I g1 (by rw [if_pos rfl]), g2, g3, by omega, g5, Or.inl ⟨rfl, B', f1, fun f => ?_⟩⟩
            rw [show f + (i2 - i) + 1 = (f + (i2 - (i + 1)) + 1) + 1 by omega, s1]
            exact f2 f
          · have etok2 : ∀ _ : Unit, f_X6_token A2 = A0 15 i2 := fun _ => a_token f2 (by omega)
            have eu : uw 1 (q ++ 0 :: hl) cl1 = (0 :: hl, w ++ cl) := by
              rw [uw_app (Int.le_refl 1) q _ cl1 f4, f5, uw_stop (by decide)]
            have hul := uw_len 1 (q ++ 0 :: hl) cl1
            rw [eu] at hul
            have hul : (0 :: hl).length + (w ++ cl).length = (q ++ 0 :: hl).length + cl1.length := hul
            rw [List.length_cons] at hul
            by_cases h41 : A0 15 i2 = 41
            · have hi3 : i2 < nt := by
                have : i2 ≠ nt := by intro e; rw [e, R.2.2.2.2.1] at h41; exact absurd h41 (by decide)
                omega
              obtain ⟨B3, v3, s3⟩ := (o_close (K := KE) R hi3 f3 (by omega) h41).2 hl (by rw [eu])
              rw [eu] at v3
              refine ⟨1, _, i2 + 1, ?_, (a_next f2 (by omega)).1, (a_next f2 (by omega)).2.1, by omega, by omega, Or.inr ⟨rfl, w, B3, _, mn', by omega, a_next f2 (by omega), v3, by omega, f7, fun f => ?_⟩⟩
              · rw [hbody]
                refine ob_I g1 ?_
                rw [if_neg (by decide), f_X6_pass, etok2 (), if_pos h41]
                rfl
              · rw [show f + (i2 + 1 - i) = ((f + 1) + (i2 - (i + 1))) + 1 by omega, s1, f9]
                exact s3 f mn'
            · obtain ⟨B3, k1, k2⟩ := dead R g5 f3 (by omega) f8 (fun e => absurd e h41) (fun _ => by rw [eu]; intro e; cases e)
              refine ⟨0, A2, i2, ?_, g2, g3, by omega, g5, Or.inl ⟨rfl, B3, k1, fun f => ?_⟩⟩
              · rw [hbody]
                refine ob_I g1 ?_
                rw [if_neg (by decide), f_X6_pass, etok2 (), if_neg h41]
                rfl
              · rw [show f + (i2 - i) + 1 = ((f + 1) + (i2 - (i + 1))) + 1 by omega, s1, f9]
                exact k2 f mn'
      · obtain ⟨B', f1, f2⟩ := w_bad (K := KE) (mn := mn) R hi hB h300 h45 h40 hmn
        refine ⟨0, A, i, ?_, hA.1, hA.2.1, Nat.le_refl _, hi, Or.inl ⟨rfl, B', f1, fun f => by rw [Nat.sub_self]; exact f2 _⟩⟩
        rw [f_X6_readOne, etok (), if_pos h300, if_neg h45, if_neg h40]
  · have hi2 := hnt (by omega)
    have hv := R.2.2.2.2.2 i hi2
    obtain ⟨B', v1, s1⟩ := w_one (K := KE) R hi2 hB hlen (by omega)
    have hcv : cvr (A0 15 i) (rcod (A0 15 i)) ∧ (0 ≤ rcod (A0 15 i) ∧ rcod (A0 15 i) < 6 ∨ 100000 ≤ rcod (A0 15 i) ∧ rcod (A0 15 i) < 110000) := by
      generalize A0 15 i = x at hv h300
      unfold vtk at hv
      unfold cvr rcod
      by_cases q : x < 1000
      · have hx : 300 ≤ x ∧ x ≤ 305 := by omega
        clear hv
        rw [if_pos q]; exact ⟨Or.inl ⟨by omega, by omega, by omega⟩, Or.inl ⟨by omega, by omega⟩⟩
      · have hx : 1000 ≤ x ∧ x < 11000 := by omega
        clear hv
        rw [if_neg q]; exact ⟨Or.inr (Or.inl ⟨by omega, by omega, by omega⟩), Or.inr ⟨by omega, by omega⟩⟩
    obtain ⟨A3, a1, a2⟩ := a_write (s := A0 15 i) (c := rcod (A0 15 i)) R.1 h5 (a_next hA (by omega)) (by omega) hcv.1
    refine ⟨1, A3, i + 1, ?_, a2.1, a2.2.1, by omega, by omega, Or.inr ⟨rfl, [rcod (A0 15 i)], B', A0 16 i, mn, by omega, a2, v1, by rw [List.length_append, List.length_singleton]; omega, Or.inl ⟨hcv.2, by omega, rfl⟩, fun f => ?_⟩⟩
    · rw [f_X6_readOne, etok (), if_neg h300]
      exact ob_I a1 rfl
    · rw [show f + (i + 1 - i) = f + 1 by omega]; exact s1 f mn
end ONES2
