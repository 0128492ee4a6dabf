/-! texts: the three parts -/
theorem nth_app (w cl : List Int) (j : Nat) (h : j < w.length) : nth (w ++ cl) (cl.length + j) = w.reverse.getD j 0 := by
  unfold nth
  rw [List.reverse_append]
  simp only [List.getD, List.getElem?_append, List.length_reverse]
  rw [if_neg (by omega), Nat.add_sub_cancel_left]
theorem nth_low (w cl : List Int) (j : Nat) (h : j < cl.length) : nth (w ++ cl) j = nth cl j := by
  unfold nth
  rw [List.reverse_append]
  simp only [List.getD, List.getElem?_append, List.length_reverse]
  rw [if_pos h]
theorem wfc_of (cs : Nat → Int) : ∀ (l : List Int) (a d : Nat), wd l d 1 → (∀ j, j < l.length → cs (a + j) = l.getD j 0) → wfc cs l.length a d := by
  intro l
  induction l with
  | nil => intro a d h _; exact h
  | cons c l ih =>
    intro a d h hc
    have h0 : cs a = c := hc 0 (by rw [List.length_cons]; omega)
    have hr : ∀ j, j < l.length → cs (a + 1 + j) = l.getD j 0 := fun j hj => by
      have := hc (j + 1) (by rw [List.length_cons]; omega)
      rw [show a + 1 + j = a + (j + 1) by omega, this]; rfl
    show wfc cs (l.length + 1) a d
    rw [wfc, h0]
    rcases h with ⟨k1, k2, k3⟩ | ⟨k1, k2, k3⟩ | ⟨k1, k2, k3⟩
    · exact Or.inl ⟨k1, k2, ih _ _ k3 hr⟩
    · exact Or.inr (Or.inl ⟨k1, k2, ih _ _ k3 hr⟩)
    · exact Or.inr (Or.inr ⟨k1, k2, ih _ _ k3 hr⟩)
section PARTS
variable {A B : Mem} {t nt : Nat} {ae : Nat → Int}
/-- where both stand between two parts -/
def PT (A B : Mem) (t i : Nat) (ae : Nat → Int) (cl : List Int) : Prop := A 12 5 = (t : Int) ∧ VA A t A i cl ∧ B 38 13 = (t : Int) ∧ B 38 26 = ae i ∧ B 38 34 = (cl.length : Int) ∧ (∀ j, j < cl.length → B 45 (200 * t + j) = nth cl j) ∧ cl.length ≤ i
def Dp (t p : Nat) (c j : Nat) : Bool := Dc t c j || (c == 18 && j == 3 * t + p)
def Dq (t p : Nat) (c j : Nat) : Bool := Dr t c j || (c == 46 && j == 4 * t + p)
theorem part_go {i p : Nat} {cl : List Int} (R : RDT A B t nt ae) (hp : p < 3) (hi : i ≤ nt) (h : PT A B t i ae cl) :
    ∃ r A' i', f_X6_readPart ((256 + p : Nat) : Int) (p : Int) A = some (r, A') ∧ agp (Dp t p) A A' ∧ A' 12 7 = ((i' : Nat) : Int) ∧ i' ≤ nt ∧
      ((r = 0 ∧ ∃ B', agp (Dq t p) B B' ∧ B' 38 27 = A 16 i' ∧ ∀ K f, f_X10_text_L26 K (f + 1) 1 (p : Int) B = f_X10_text_L26 K f 0 ((p + 1 : Nat) : Int) B') ∨
       (r = 1 ∧ ∃ (w : List Int) (B' : Mem), agp (Dq t p) B B' ∧ PT A' B' t i' ae (w ++ cl) ∧ A' 18 (3 * t + p) = ((w ++ cl).length : Int) ∧ B' 46 (4 * t + p) = (cl.length : Int) ∧ wd w.reverse 0 1 ∧ ∀ K f, f_X10_text_L26 K (f + 1) 1 (p : Int) B = f_X10_text_L26 K f 1 ((p + 1 : Nat) : Int) B')) := by
  obtain ⟨r1, r2, r3, r4, r5, r6⟩ := id R
  obtain ⟨h1, h2, h3, h4, h5, h6, h7⟩ := h
  have etok : f_X6_token A = A 15 i := by rw [f_X6_token, h2.2.1, rd_n (by omega)]
  have hDp : ∀ {M : Mem}, agp (Dc t) A M → agp (Dp t p) A M := fun ha c j hj => ha c j (by unfold Dp at hj; rw [Bool.or_eq_false_iff] at hj; exact hj.1)
  have hDq : ∀ {M : Mem}, agp (Dr t) B M → agp (Dq t p) B M := fun ha c j hj => ha c j (by unfold Dq at hj; rw [Bool.or_eq_false_iff] at hj; exact hj.1)
  -- the reference reads the key
  obtain ⟨B1, e1, a1, a2, a3, a4, a5⟩ := r4 i hi B rfl rfl rfl h4
  have hB1 : agp (Dr t) B B1 := fun c j hj => a1 c j (by
    unfold Dr at hj
    unfold dd
    simp at hj ⊢
    obtain ⟨⟨q1, q2⟩, q3⟩ := hj
    refine ⟨fun e => ?_, fun e => ?_, fun e => ?_, fun e => ?_⟩ <;> (have := q2 e; omega))
  have hx : A 15 i = 0 ∨ vtk (A 15 i) := by
    by_cases q : i < nt
    · exact Or.inr (r6 i q)
    · have : i = nt := by omega
      rw [this]; exact Or.inl r5
  have hw : ∀ _ : Unit, w32 (w32 (4 * (B1 38 13)) + (p : Int)) = ((4 * t + p : Nat) : Int) := fun _ => by
    rw [a1.p 38 13, h3, w32_id (z := 4 * (t : Int)) (by omega) (by omega), w32_id (by omega) (by omega)]; omega
  have hin : (0 : Int) ≤ ((4 * t + p : Nat) : Int) ∧ ((4 * t + p : Nat) : Int) < 24 := ⟨by omega, by omega⟩
  have hp3 : ((p : Nat) : Int) < 3 := by omega
  have ep1 : ∀ _ : Unit, w32 ((p : Int) + 1) = ((p + 1 : Nat) : Int) := fun _ => w32_n1 (by omega)
  have e34 : B1 38 34 = (cl.length : Int) := by rw [a1.p 38 34]; exact h5
  by_cases hk : A 15 i = ((256 + p : Nat) : Int)
  · have hi2 : i < nt := by
      have : i ≠ nt := by intro e; rw [e, r5] at hk; omega
      omega
    have et : rtok (A 15 i) = 3 := by
      rw [hk]; unfold rtok
      rw [if_neg (by omega), if_neg (by omega), if_pos (by omega)]
    have ev : B1 38 29 = (p : Int) := by
      rw [a5 (by omega) (by omega), hk]; unfold rval
      rw [if_pos (by omega)]; omega
    -- the memory in which the E is read
    have hBE : agp (Dq t p) B (mset (mset (mset B1 46 (4 * t + p) (cl.length : Int)) 38 32 0) 38 33 0) := by
      refine agp.mset (agp.mset (agp.mset (hDq hB1) ?_) ?_) ?_
      · unfold Dq; simp
      · unfold Dq; rw [Dr_t (by omega)]; rfl
      · unfold Dq; rw [Dr_t (by omega)]; rfl
    have hV0 : VB (mset (mset (mset B1 46 (4 * t + p) (cl.length : Int)) 38 32 0) 38 33 0) t ae (mset (mset (mset B1 46 (4 * t + p) (cl.length : Int)) 38 32 0) 38 33 0) (i + 1) (A 16 i) [] cl := by
      refine ⟨agp.refl, ⟨?_, ?_⟩, ?_, ?_, ?_, fun j hj => absurd hj (Nat.not_lt_zero _), fun j hj => ?_⟩
      · rw [mset_i (by decide), mset_i (by decide), mset_c (by decide)]; exact a2
      · rw [mset_i (by decide), mset_i (by decide), mset_c (by decide)]; exact a3
      · rw [mset_i (by decide), mset_i (by decide), mset_c (by decide)]; exact e34
      · rw [mset_i (by decide), mset_at]; rfl
      · rw [mset_at]; rfl
      · rw [mset_c (by decide), mset_c (by decide), mset_c (by decide), a1.c 45]; exact h6 j hj
    have eref : ∀ K f, f_X10_text_L26 K (f + 1) 1 (p : Int) B = ob (f_X10_eRead_L14 KE 100000 1 1 (mset (mset (mset B1 46 (4 * t + p) (cl.length : Int)) 38 32 0) 38 33 0)) fun r385 M386 => if r385 = 0 then f_X10_text_L26 K f 0 ((p + 1 : Nat) : Int) M386 else f_X10_text_L26 K f 1 ((p + 1 : Nat) : Int) M386 := by
      intro K f
      rw [f_X10_text_L26, if_pos hp3, if_neg (by decide)]
      refine ob_I e1 ?_
      rw [a4, et, if_pos rfl, ev, if_pos rfl, hw (), if_pos hin, Int.toNat_natCast, e34, ep1 ()]
      rfl
    generalize hBEe : mset (mset (mset B1 46 (4 * t + p) (cl.length : Int)) 38 32 0) 38 33 0 = BE at hBE hV0 eref
    have hBE46 : BE 46 (4 * t + p) = (cl.length : Int) := by rw [← hBEe, mset_c (by decide), mset_c (by decide), mset_at]
    have hBE13 : BE 38 13 = (t : Int) := by rw [← hBEe, mset_i (by decide), mset_i (by decide), mset_c (by decide), a1.p 38 13]; exact h3
    have hcls : ∀ c, c ≠ 38 → c ≠ 46 → BE c = B1 c := fun c q1 q2 => by rw [← hBEe, mset_c q1, mset_c q1, mset_c q2]
    have RE : RDT A BE t nt ae := by
      have q44 : BE 44 = B 44 := by rw [hcls 44 (by decide) (by decide), a1.c 44]
      have q52 : BE 52 = B 52 := by rw [hcls 52 (by decide) (by decide), a1.c 52]
      have q10 : BE 38 10 = B 38 10 := by rw [← hBEe, mset_i (by decide), mset_i (by decide), mset_c (by decide), a1.p 38 10]
      exact ⟨r1, hBE13, r3, fun k hk B2 z1 z2 z3 z4 => r4 k hk B2 (z1.trans q44) (z2.trans q52) (z3.trans q10) z4, r5, r6⟩
    have hA1 := a_next h2 (by omega)
    obtain ⟨r, A2, i2, g1, g2, g3, g4, g5, g6⟩ := (lx_all RE h1 5 0 (by omega)).2.2 24 (by omega) _ BE (i + 1) _ [] cl 0 1 hA1 hV0 (by omega) (by rw [List.length_nil]; omega) rfl (fun y r e => by cases e) (by omega) (by rw [if_pos rfl])
    have hbody : f_X6_readPart ((256 + p : Nat) : Int) (p : Int) A = ob ((fz_rd 24).1 0 (mset A 12 7 (w32 (A 12 7 + 1)))) fun r122 M123 => if r122 = 0 then some (0, M123) else ob (f_X6_pass 59 M123) fun r124 M125 => if r124 = 0 then some (0, M125) else some (1, wr M125 18 18 (w32 (w32 (M125 12 5 * 3) + (p : Int))) (M125 12 6)) := by
      rw [f_X6_readPart, f_X6_pass, etok, if_pos hk]
      rfl
    rcases g6 with ⟨rfl, B', f1, f2⟩ | ⟨rfl, w, q, cl1, B', g', mn', f1, f2, f3, f4, f5, f6, f7, f8, f9⟩
    · refine ⟨0, A2, i2, by rw [hbody]; exact ob_I g1 (by rw [if_pos rfl]), hDp g2, g3, g5, Or.inl ⟨rfl, B', fun c j hj => ?_, f1.1, fun K f => ?_⟩⟩
      · rw [f1.2 c j (by unfold Dq at hj; rw [Bool.or_eq_false_iff] at hj; exact hj.1)]; exact hBE c j hj
      · rw [eref]
        have := f2 (100000 - (i2 - (i + 1)) - 1)
        rw [show 100000 - (i2 - (i + 1)) - 1 + (i2 - (i + 1)) + 1 = 100000 by omega] at this
        exact ob_I this (by rw [if_pos rfl])
    · rw [List.append_nil] at f3 f6 f8
      have eu : uw 1 q cl1 = ([], w ++ cl) := by
        have := uw_app (Int.le_refl 1) q [] cl1 f4
        rw [List.append_nil] at this
        rw [this, f5]; rfl
      have etok2 : ∀ _ : Unit, f_X6_token A2 = A 15 i2 := fun _ => a_token f2 (by omega)
      by_cases h59 : A 15 i2 = 59
      · have hi3 : i2 < nt := by
          have : i2 ≠ nt := by intro e; rw [e, r5] at h59; exact absurd h59 (by decide)
          omega
        obtain ⟨B3, v3, s3⟩ := o_semi (mn := mn') RE hi3 f3 f6 h59
        rw [eu] at v3
        have v3 : VB BE t ae B3 (i2 + 1) (A 16 i2) [] (w ++ cl) := v3
        have hA3 := a_next f2 (by omega)
        have hlen := uw_len 1 q cl1
        rw [eu] at hlen
        have hlen : 0 + (w ++ cl).length = q.length + cl1.length := hlen
        have hA3' : VA A t (mset A2 12 7 (w32 (A2 12 7 + 1))) (i2 + 1) (w ++ cl) := hA3
        have e125 : mset A2 12 7 (w32 (A2 12 7 + 1)) 12 5 = (t : Int) := by rw [hA3'.1 12 5 (by rfl)]; exact h1
        generalize hA3e : mset A2 12 7 (w32 (A2 12 7 + 1)) = A3 at hA3' e125
        have ew3 : ∀ _ : Unit, wr A3 18 18 (w32 (w32 (A3 12 5 * 3) + (p : Int))) (A3 12 6) = mset A3 18 (3 * t + p) ((w ++ cl).length : Int) := fun _ => by
          rw [e125, w3p r1 hp, wr_n (by omega), hA3'.2.2.1]
        refine ⟨1, mset A3 18 (3 * t + p) ((w ++ cl).length : Int), i2 + 1, ?_, agp.mset (hDp hA3'.1) (by unfold Dp; simp), by rw [mset_c (by decide)]; exact hA3'.2.1, by omega, Or.inr ⟨rfl, w, B3, fun c j hj => ?_, ⟨by rw [mset_c (by decide)]; exact e125, ⟨agp.refl, by rw [mset_c (by decide)]; exact hA3'.2.1, by rw [mset_c (by decide)]; exact hA3'.2.2.1, fun j hj => by rw [mset_c (by decide)]; exact hA3'.2.2.2 j hj⟩, by rw [v3.1 38 13 Dr_13]; exact hBE13, v3.2.1.1, v3.2.2.1, v3.2.2.2.2.2.2, by omega⟩, mset_at _ _ _ _, by rw [v3.1 46 _ (by rfl)]; exact hBE46, f7, fun K f => ?_⟩⟩
        · rw [hbody]
          refine ob_I g1 ?_
          rw [if_neg (by decide), f_X6_pass, etok2 (), if_pos h59]
          show (if (1 : Int) = 0 then some ((0 : Int), mset A2 12 7 (w32 (A2 12 7 + 1))) else some (1, wr (mset A2 12 7 (w32 (A2 12 7 + 1))) 18 18 (w32 (w32 (mset A2 12 7 (w32 (A2 12 7 + 1)) 12 5 * 3) + (p : Int))) (mset A2 12 7 (w32 (A2 12 7 + 1)) 12 6))) = _
          rw [if_neg (by decide), hA3e, ew3 ()]
        · rw [v3.1 c j (by unfold Dq at hj; rw [Bool.or_eq_false_iff] at hj; exact hj.1)]; exact hBE c j hj
        · rw [eref]
          have e9 := f9 (100000 - (i2 - (i + 1)))
          rw [show 100000 - (i2 - (i + 1)) + (i2 - (i + 1)) = 100000 by omega] at e9
          have e10 := s3 (100000 - (i2 - (i + 1)) - 1)
          rw [show 100000 - (i2 - (i + 1)) - 1 + 1 = 100000 - (i2 - (i + 1)) by omega, eu, if_pos rfl] at e10
          exact ob_I (e9.trans e10) (by rw [if_neg (by decide)])
      · obtain ⟨B3, k1, k2⟩ := dead RE g5 f3 f6 f8 (fun _ => by rw [eu]) (fun e => absurd e h59)
        refine ⟨0, A2, i2, ?_, hDp g2, g3, g5, Or.inl ⟨rfl, B3, fun c j hj => ?_, k1.1, fun K f => ?_⟩⟩
        · rw [hbody]
          refine ob_I g1 ?_
          rw [if_neg (by decide), f_X6_pass, etok2 (), if_neg h59]
          rfl
        · rw [k1.2 c j (by unfold Dq at hj; rw [Bool.or_eq_false_iff] at hj; exact hj.1)]; exact hBE c j hj
        · rw [eref]
          have e9 := f9 (100000 - (i2 - (i + 1)))
          rw [show 100000 - (i2 - (i + 1)) + (i2 - (i + 1)) = 100000 by omega] at e9
          have e10 := k2 (100000 - (i2 - (i + 1)) - 1) mn'
          rw [show 100000 - (i2 - (i + 1)) - 1 + 1 = 100000 - (i2 - (i + 1)) by omega] at e10
          exact ob_I (e9.trans e10) (by rw [if_pos rfl])
  · refine ⟨0, A, i, ?_, agp.refl, h2.2.1, hi, Or.inl ⟨rfl, mset B1 46 (4 * t + p) (cl.length : Int), agp.mset (hDq hB1) (by unfold Dq; simp), by rw [mset_c (by decide)]; exact a3, fun K f => ?_⟩⟩
    · rw [f_X6_readPart, f_X6_pass, etok, if_neg hk]
      rfl
    · rw [f_X10_text_L26, if_pos hp3, if_neg (by decide)]
      refine ob_I e1 ?_
      rw [a4, hw (), ep1 ()]
      by_cases q3 : rtok (A 15 i) = 3
      · have hr : 256 ≤ A 15 i ∧ A 15 i ≤ 258 := by
          generalize A 15 i = x at hx q3
          unfold vtk at hx
          unfold rtok at q3
          by_cases z1 : x < 2
          · rw [if_pos z1] at q3; omega
          rw [if_neg z1] at q3
          by_cases z2 : x < 256
          · rw [if_pos z2] at q3; omega
          rw [if_neg z2] at q3
          by_cases z3 : x < 259
          · exact ⟨by omega, by omega⟩
          rw [if_neg z3] at q3
          by_cases z4 : x < 262
          · rw [if_pos z4] at q3; omega
          rw [if_neg z4] at q3
          by_cases z5 : x < 1000
          · rw [if_pos z5] at q3; omega
          · rw [if_neg z5] at q3; omega
        have ev : B1 38 29 = A 15 i - 256 := by
          rw [a5 hr.1 (by omega)]; unfold rval
          rw [if_pos (by omega)]
        rw [if_pos q3, if_neg (by rw [ev]; omega), if_pos hin, Int.toNat_natCast, e34]
      · rw [if_neg q3, if_pos hin, Int.toNat_natCast, e34]
end PARTS
