/-! texts: the three parts and the end -/
section TEXT
variable {A B : Mem} {t nt : Nat} {ae : Nat → Int}
theorem rdt_e {A' B' : Mem} (R : RDT A B t nt ae) (h1 : A' 15 = A 15) (h2 : A' 16 = A 16) (h3 : B' 44 = B 44) (h4 : B' 52 = B 52) (h5 : B' 38 10 = B 38 10) (h6 : B' 38 13 = B 38 13) : RDT A' B' t nt ae := by
  obtain ⟨r1, r2, r3, r4, r5, r6⟩ := R
  refine ⟨r1, by rw [h6]; exact r2, r3, fun k hk B2 z1 z2 z3 z4 => ?_, by rw [h1]; exact r5, by rw [h1]; exact r6⟩
  obtain ⟨B3, q1, q2, q3, q4, q5, q6⟩ := r4 k hk B2 (z1.trans h3) (z2.trans h4) (z3.trans h5) z4
  exact ⟨B3, q1, q2, q3, by rw [h2]; exact q4, by rw [h1]; exact q5, by rw [h1]; exact q6⟩
/-- the class's reading behind the cut -/
def cT (M127 : Mem) : Option (Int × Mem) :=
  ob (f_X6_readPart 256 0 M127) fun r128 M129 =>
  if r128 = 0 then
    ob (f_X5_empty M129) fun r130 M131 =>
    some (rd 161 (M131 16) (M131 12 7), M131)
  else
    ob (f_X6_readPart 257 1 M129) fun r132 M133 =>
    if r132 = 0 then
      ob (f_X5_empty M133) fun r134 M135 =>
      some (rd 161 (M135 16) (M135 12 7), M135)
    else
      ob (f_X6_readPart 258 2 M133) fun r136 M137 =>
      if r136 = 0 then
        ob (f_X5_empty M137) fun r138 M139 =>
        some (rd 161 (M139 16) (M139 12 7), M139)
      else
        if f_X6_token M137 = 0 then
          ob (f_X5_empty M137) fun r142 M143 =>
          some ((-1), (mset M143 12 5 (w32 ((M143 12 5) + 1))))
        else
          ob (f_X5_empty M137) fun r140 M141 =>
          some (rd 161 (M141 16) (M141 12 7), M141)
theorem read_e (M : Mem) : f_X6_read M = ob (f_X5_cut (mset (mset M 12 6 0) 12 7 0)) fun _ A => cT A := rfl
def KT : Int → Mem → Option (Int × Mem) := fun y387 M388 =>
        if y387 = 0 then
          if 0 ≤ w32 ((w32 (4 * (M388 38 13))) + 3) ∧ w32 ((w32 (4 * (M388 38 13))) + 3) < 24 then
            if y387 = 0 then
              some (w32 ((-100) - ((mset (mset M388 46 (w32 ((w32 (4 * (M388 38 13))) + 3)).toNat (M388 38 34)) 38 10 0) 38 27)), (mset (mset M388 46 (w32 ((w32 (4 * (M388 38 13))) + 3)).toNat (M388 38 34)) 38 10 0))
            else
              some (w32 (((mset (mset (mset M388 46 (w32 ((w32 (4 * (M388 38 13))) + 3)).toNat (M388 38 34)) 38 10 0) 38 13 (w32 (((mset (mset M388 46 (w32 ((w32 (4 * (M388 38 13))) + 3)).toNat (M388 38 34)) 38 10 0) 38 13) + 1))) 38 13) - 1), (mset (mset (mset M388 46 (w32 ((w32 (4 * (M388 38 13))) + 3)).toNat (M388 38 34)) 38 10 0) 38 13 (w32 (((mset (mset M388 46 (w32 ((w32 (4 * (M388 38 13))) + 3)).toNat (M388 38 34)) 38 10 0) 38 13) + 1))))
          else none
        else
          ob (f_X10_next M388) fun r389 M390 =>
          if M390 38 28 = 0 then
            if 0 ≤ w32 ((w32 (4 * (M390 38 13))) + 3) ∧ w32 ((w32 (4 * (M390 38 13))) + 3) < 24 then
              some (w32 (((mset (mset (mset M390 46 (w32 ((w32 (4 * (M390 38 13))) + 3)).toNat (M390 38 34)) 38 10 0) 38 13 (w32 (((mset (mset M390 46 (w32 ((w32 (4 * (M390 38 13))) + 3)).toNat (M390 38 34)) 38 10 0) 38 13) + 1))) 38 13) - 1), (mset (mset (mset M390 46 (w32 ((w32 (4 * (M390 38 13))) + 3)).toNat (M390 38 34)) 38 10 0) 38 13 (w32 (((mset (mset M390 46 (w32 ((w32 (4 * (M390 38 13))) + 3)).toNat (M390 38 34)) 38 10 0) 38 13) + 1))))
            else none
          else
            if 0 ≤ w32 ((w32 (4 * (M390 38 13))) + 3) ∧ w32 ((w32 (4 * (M390 38 13))) + 3) < 24 then
              some (w32 ((-100) - ((mset (mset M390 46 (w32 ((w32 (4 * (M390 38 13))) + 3)).toNat (M390 38 34)) 38 10 0) 38 27)), (mset (mset M390 46 (w32 ((w32 (4 * (M390 38 13))) + 3)).toNat (M390 38 34)) 38 10 0))
            else none
theorem rtext_e (M : Mem) : f_X10_text M = if M 38 13 = 6 then some (-4, M) else f_X10_text_L26 KT 100000 1 0 (mset (mset M 38 26 0) 38 34 0) := rfl
/-- cells that a reading may change -/
def Dcc (t : Nat) (c j : Nat) : Bool := Dc t c j || (c == 18 && decide (3 * t ≤ j)) || (c == 13 && j == 3) || (c == 12 && j == 5)
def Drr (t : Nat) (c j : Nat) : Bool := Dr t c j || (c == 46 && decide (4 * t ≤ j)) || (c == 38 && (j == 10 || j == 13))
theorem Dp_c {p : Nat} {M M' : Mem} (h : agp (Dp t p) M M') : agp (Dcc t) M M' := fun c j hj => h c j (by
  unfold Dcc at hj
  rw [Bool.or_eq_false_iff, Bool.or_eq_false_iff, Bool.or_eq_false_iff] at hj
  obtain ⟨⟨⟨k1, k2⟩, k3⟩, k4⟩ := hj
  unfold Dp
  rw [k1, Bool.false_or]
  rw [Bool.and_eq_false_iff] at k2 ⊢
  rcases k2 with k2 | k2
  · exact Or.inl k2
  · right
    have := of_decide_eq_false k2
    simp; omega)
theorem Dq_r {p : Nat} {M M' : Mem} (h : agp (Dq t p) M M') : agp (Drr t) M M' := fun c j hj => h c j (by
  unfold Drr at hj
  rw [Bool.or_eq_false_iff, Bool.or_eq_false_iff] at hj
  obtain ⟨⟨k1, k2⟩, k3⟩ := hj
  unfold Dq
  rw [k1, Bool.false_or]
  rw [Bool.and_eq_false_iff] at k2 ⊢
  rcases k2 with k2 | k2
  · exact Or.inl k2
  · right
    have := of_decide_eq_false k2
    simp; omega)
/-- what a sound text leaves -/
def SND (A' B' : Mem) (t : Nat) : Prop := ∃ w0 w1 w2 : List Int, wd w0.reverse 0 1 ∧ wd w1.reverse 0 1 ∧ wd w2.reverse 0 1 ∧ (w2 ++ (w1 ++ w0)).length ≤ 160 ∧ A' 18 (3 * t) = (w0.length : Int) ∧ A' 18 (3 * t + 1) = ((w1 ++ w0).length : Int) ∧ A' 18 (3 * t + 2) = ((w2 ++ (w1 ++ w0)).length : Int) ∧
  B' 46 (4 * t) = 0 ∧ B' 46 (4 * t + 1) = (w0.length : Int) ∧ B' 46 (4 * t + 2) = ((w1 ++ w0).length : Int) ∧ B' 46 (4 * t + 3) = ((w2 ++ (w1 ++ w0)).length : Int) ∧ (∀ j, j < (w2 ++ (w1 ++ w0)).length → cvr (A' 17 (160 * t + j)) (nth (w2 ++ (w1 ++ w0)) j)) ∧ ∀ j, j < (w2 ++ (w1 ++ w0)).length → B' 45 (200 * t + j) = nth (w2 ++ (w1 ++ w0)) j
theorem k_fail {B : Mem} {pl : Nat} (ht : t < 6) (h13 : B 38 13 = (t : Int)) (h27 : B 38 27 = (pl : Int)) (hpl : pl ≤ 160) : ∃ B', KT 0 B = some (-100 - (pl : Int), B') ∧ agp (Drr t) B B' ∧ B' 38 10 = 0 ∧ B' 38 13 = (t : Int) := by
  have ew : ∀ _ : Unit, w32 (w32 (4 * (t : Int)) + 3) = ((4 * t + 3 : Nat) : Int) := fun _ => by
    rw [w32_id (z := 4 * (t : Int)) (by omega) (by omega), w32_id (by omega) (by omega)]; omega
  refine ⟨mset (mset B 46 (4 * t + 3) (B 38 34)) 38 10 0, ?_, agp.mset (agp.mset agp.refl (by unfold Drr; simp)) (by unfold Drr; simp), mset_at _ _ _ _, by rw [mset_i (by decide), mset_c (by decide)]; exact h13⟩
  unfold KT
  rw [if_pos rfl, h13, ew (), if_pos ⟨by omega, by omega⟩, if_pos rfl, Int.toNat_natCast, mset_i (show (27 : Nat) ≠ 10 by decide), mset_c (show (38 : Nat) ≠ 46 by decide), h27, w32_id (by omega) (by omega)]
theorem text_go (R : RDT A B t nt ae) (h : PT A B t 0 ae []) (hpl : ∀ i, i ≤ nt → ∃ p : Nat, A 16 i = (p : Int) ∧ p ≤ 160) :
    ∃ A' B', agp (Dcc t) A A' ∧ agp (Drr t) B B' ∧ A' 13 3 = 0 ∧ B' 38 10 = 0 ∧
      ((∃ pl : Nat, pl ≤ 160 ∧ cT A = some ((pl : Int), A') ∧ f_X10_text_L26 KT 100000 1 0 B = some (-100 - (pl : Int), B') ∧ A' 12 5 = (t : Int) ∧ B' 38 13 = (t : Int)) ∨
       (cT A = some (-1, A') ∧ f_X10_text_L26 KT 100000 1 0 B = some ((t : Int), B') ∧ A' 12 5 = ((t + 1 : Nat) : Int) ∧ B' 38 13 = ((t + 1 : Nat) : Int) ∧ SND A' B' t)) := by
  have r1 := R.1
  have r3 := R.2.2.1
  -- a fault, told by both
  have fail : ∀ (A1 B1 : Mem) (i : Nat), agp (Dcc t) A A1 → agp (Drr t) B B1 → A1 12 7 = (i : Int) → i ≤ nt → A1 12 5 = (t : Int) → B1 38 13 = (t : Int) → B1 38 27 = A 16 i →
      ∃ (pl : Nat) (B' : Mem), pl ≤ 160 ∧ (ob (f_X5_empty A1) fun _ M131 => some (rd 161 (M131 16) (M131 12 7), M131)) = some ((pl : Int), mset A1 13 3 0) ∧ KT 0 B1 = some (-100 - (pl : Int), B') ∧ agp (Dcc t) A (mset A1 13 3 0) ∧ agp (Drr t) B B' ∧ B' 38 10 = 0 ∧ B' 38 13 = (t : Int) := by
    intro A1 B1 i hA hB h7 hi h5 h13 h27
    obtain ⟨pl, hp1, hp2⟩ := hpl i hi
    obtain ⟨B', k1, k2, k3, k4⟩ := k_fail r1 h13 (h27.trans hp1) hp2
    refine ⟨pl, B', hp2, ?_, k1, agp.mset hA (by unfold Dcc; simp), hB.trans k2, k3, k4⟩
    have ee : f_X5_empty A1 = some (0, mset A1 13 3 0) := rfl
    refine ob_I ee ?_
    rw [mset_c (d := 16) (by decide), mset_c (d := 12) (by decide), h7, rd_n (by omega), show A1 16 = A 16 from hA.c 16, hp1]
  have fin0 : ∀ (f : Nat) (p : Int) (B1 : Mem), p < 3 → f_X10_text_L26 KT (f + 1) 0 p B1 = KT 0 B1 := by
    intro f p B1 hp
    rw [f_X10_text_L26, if_pos hp, if_pos rfl]
  have fin3 : ∀ (f : Nat) (y : Int) (B1 : Mem), f_X10_text_L26 KT (f + 1) y 3 B1 = KT y B1 := by
    intro f y B1
    rw [f_X10_text_L26, if_neg (by decide)]
  obtain ⟨ra, A1, i1, a1, a2, a3, a4, a5⟩ := part_go (p := 0) R (by decide) (Nat.zero_le _) h
  have a1 : f_X6_readPart 256 0 A = some (ra, A1) := a1
  rcases a5 with ⟨rfl, B1, b1, b2, b3⟩ | ⟨rfl, w0, B1, b1, b2, b3, b4, b5, b6⟩
  · have h51 : A1 12 5 = (t : Int) := by rw [a2.p 12 5 (by rfl)]; exact h.1
    obtain ⟨pl, B', z1, z2, z3, z4, z5, z6, z7⟩ := fail A1 B1 i1 (Dp_c a2) (Dq_r b1) a3 a4 h51 (by rw [b1.p 38 13 (by rfl)]; exact R.2.1) b2
    refine ⟨mset A1 13 3 0, B', z4, z5, mset_at _ _ _ _, z6, Or.inl ⟨pl, z1, ?_, ?_, by rw [mset_c (by decide)]; exact h51, z7⟩⟩
    · unfold cT; exact ob_I a1 (by rw [if_pos rfl]; exact z2)
    · have := b3 KT 99999
      rw [fin0 _ _ _ (by decide)] at this
      exact this.trans z3
  have R1 : RDT A1 B1 t nt ae := rdt_e R (a2.c 15 (by intro j; rfl)) (a2.c 16 (by intro j; rfl)) (b1.c 44 (by intro j; rfl)) (b1.c 52 (by intro j; rfl)) (b1.p 38 10 (by rfl)) (b1.p 38 13 (by rfl))
  obtain ⟨rb, A2, i2, c1, c2, c3, c4, c5⟩ := part_go (p := 1) R1 (by decide) a4 b2
  have c1 : f_X6_readPart 257 1 A1 = some (rb, A2) := c1
  have e16 : A1 16 = A 16 := a2.c 16 (by intro j; rfl)
  rcases c5 with ⟨rfl, B2, d1, d2, d3⟩ | ⟨rfl, w1, B2, d1, d2, d3, d4, d5, d6⟩
  · have h51 : A2 12 5 = (t : Int) := by rw [c2.p 12 5 (by rfl)]; exact b2.1
    rw [e16] at d2
    obtain ⟨pl, B', z1, z2, z3, z4, z5, z6, z7⟩ := fail A2 B2 i2 ((Dp_c a2).trans (Dp_c c2)) ((Dq_r b1).trans (Dq_r d1)) c3 c4 h51 (by rw [d1.p 38 13 (by rfl)]; exact R1.2.1) d2
    refine ⟨mset A2 13 3 0, B', z4, z5, mset_at _ _ _ _, z6, Or.inl ⟨pl, z1, ?_, ?_, by rw [mset_c (by decide)]; exact h51, z7⟩⟩
    · unfold cT; exact ob_I a1 (by rw [if_neg (by decide)]; exact ob_I c1 (by rw [if_pos rfl]; exact z2))
    · have q1 := b6 KT 99999
      have q2 := d3 KT 99998
      have q2 : f_X10_text_L26 KT 99999 1 ((0 + 1 : Nat) : Int) B1 = f_X10_text_L26 KT 99998 0 ((1 + 1 : Nat) : Int) B2 := q2
      rw [fin0 99997 _ _ (by decide)] at q2
      exact (q1.trans q2).trans z3
  have R2 : RDT A2 B2 t nt ae := rdt_e R1 (c2.c 15 (by intro j; rfl)) (c2.c 16 (by intro j; rfl)) (d1.c 44 (by intro j; rfl)) (d1.c 52 (by intro j; rfl)) (d1.p 38 10 (by rfl)) (d1.p 38 13 (by rfl))
  obtain ⟨rc, A3, i3, f1, f2, f3, f4, f5⟩ := part_go (p := 2) R2 (by decide) c4 d2
  have f1 : f_X6_readPart 258 2 A2 = some (rc, A3) := f1
  have e16b : A2 16 = A 16 := (c2.c 16 (by intro j; rfl)).trans e16
  have hcA : ∀ r M, f_X6_readPart 258 2 A2 = some (r, M) → cT A = (if r = 0 then ob (f_X5_empty M) fun r138 M139 => some (rd 161 (M139 16) (M139 12 7), M139) else if f_X6_token M = 0 then ob (f_X5_empty M) fun r142 M143 => some ((-1), (mset M143 12 5 (w32 ((M143 12 5) + 1)))) else ob (f_X5_empty M) fun r140 M141 => some (rd 161 (M141 16) (M141 12 7), M141)) := by
    intro r M hm
    unfold cT
    exact ob_I a1 (by rw [if_neg (by decide)]; exact ob_I c1 (by rw [if_neg (by decide)]; exact ob_I hm rfl))
  have hAA : agp (Dcc t) A A3 := ((Dp_c a2).trans (Dp_c c2)).trans (Dp_c f2)
  rcases f5 with ⟨rfl, B3, g1, g2, g3⟩ | ⟨rfl, w2, B3, g1, g2, g3, g4, g5, g6⟩
  · have h51 : A3 12 5 = (t : Int) := by rw [f2.p 12 5 (by rfl)]; exact d2.1
    rw [e16b] at g2
    obtain ⟨pl, B', z1, z2, z3, z4, z5, z6, z7⟩ := fail A3 B3 i3 hAA (((Dq_r b1).trans (Dq_r d1)).trans (Dq_r g1)) f3 f4 h51 (by rw [g1.p 38 13 (by rfl)]; exact R2.2.1) g2
    refine ⟨mset A3 13 3 0, B', z4, z5, mset_at _ _ _ _, z6, Or.inl ⟨pl, z1, ?_, ?_, by rw [mset_c (by decide)]; exact h51, z7⟩⟩
    · rw [hcA 0 A3 f1, if_pos rfl]; exact z2
    · have q1 := b6 KT 99999
      have q2 : f_X10_text_L26 KT 99999 1 ((0 + 1 : Nat) : Int) B1 = f_X10_text_L26 KT 99998 1 ((1 + 1 : Nat) : Int) B2 := d6 KT 99998
      have q3 : f_X10_text_L26 KT 99998 1 ((1 + 1 : Nat) : Int) B2 = f_X10_text_L26 KT 99997 0 ((2 + 1 : Nat) : Int) B3 := g3 KT 99997
      have q4 : f_X10_text_L26 KT 99997 0 ((2 + 1 : Nat) : Int) B3 = KT 0 B3 := fin3 99996 0 B3
      exact (((q1.trans q2).trans q3).trans q4).trans z3
  -- all three are sound; the end
  have R3 : RDT A3 B3 t nt ae := rdt_e R2 (f2.c 15 (by intro j; rfl)) (f2.c 16 (by intro j; rfl)) (g1.c 44 (by intro j; rfl)) (g1.c 52 (by intro j; rfl)) (g1.p 38 10 (by rfl)) (g1.p 38 13 (by rfl))
  obtain ⟨p1, p2, p3, p4, p5, p6, p7⟩ := g2
  have hreads : f_X10_text_L26 KT 100000 1 0 B = KT 1 B3 := by
    have q1 := b6 KT 99999
    have q2 : f_X10_text_L26 KT 99999 1 ((0 + 1 : Nat) : Int) B1 = f_X10_text_L26 KT 99998 1 ((1 + 1 : Nat) : Int) B2 := d6 KT 99998
    have q3 : f_X10_text_L26 KT 99998 1 ((1 + 1 : Nat) : Int) B2 = f_X10_text_L26 KT 99997 1 ((2 + 1 : Nat) : Int) B3 := g6 KT 99997
    have q4 : f_X10_text_L26 KT 99997 1 ((2 + 1 : Nat) : Int) B3 = KT 1 B3 := fin3 99996 1 B3
    exact ((q1.trans q2).trans q3).trans q4
  have etok : ∀ _ : Unit, f_X6_token A3 = A3 15 i3 := fun _ => a_token p2 (by omega)
  obtain ⟨B4, n1, n2, n3, n4, n5, n6⟩ := R3.2.2.2.1 i3 f4 B3 rfl rfl rfl p4
  have hB4 : agp (Dr t) B3 B4 := fun c j hj => n2 c j (by
    unfold Dr at hj
    unfold dd
    simp at hj ⊢
    obtain ⟨⟨q1, q2⟩, q3⟩ := hj
    refine ⟨fun e => ?_, fun e => ?_, fun e => ?_, fun e => ?_⟩ <;> (have := q2 e; omega))
  have hDr : agp (Drr t) B3 B4 := fun c j hj => hB4 c j (by
    unfold Drr at hj
    rw [Bool.or_eq_false_iff, Bool.or_eq_false_iff] at hj
    exact hj.1.1)
  have hBB : agp (Drr t) B B4 := (((Dq_r b1).trans (Dq_r d1)).trans (Dq_r g1)).trans hDr
  have h413 : B4 38 13 = (t : Int) := by rw [n2.p 38 13]; exact p3
  have ew : ∀ _ : Unit, w32 (w32 (4 * (t : Int)) + 3) = ((4 * t + 3 : Nat) : Int) := fun _ => by
    rw [w32_id (z := 4 * (t : Int)) (by omega) (by omega), w32_id (by omega) (by omega)]; omega
  have hin : (0 : Int) ≤ ((4 * t + 3 : Nat) : Int) ∧ ((4 * t + 3 : Nat) : Int) < 24 := ⟨by omega, by omega⟩
  have hv : A3 15 i3 = 0 ∨ vtk (A3 15 i3) := by
    by_cases q : i3 < nt
    · exact Or.inr (R3.2.2.2.2.2 i3 q)
    · have : i3 = nt := by omega
      rw [this]; exact Or.inl R3.2.2.2.2.1
  by_cases hz : A3 15 i3 = 0
  · have hrt : rtok (A3 15 i3) = 0 := by rw [hz]; rfl
    have ee : f_X5_empty A3 = some (0, mset A3 13 3 0) := rfl
    have e5 : ∀ _ : Unit, w32 (mset A3 13 3 0 12 5 + 1) = ((t + 1 : Nat) : Int) := fun _ => by rw [mset_c (by decide), p1, w32_n1 (by omega)]
    have e34 : B4 38 34 = ((w2 ++ (w1 ++ (w0 ++ []))).length : Int) := by rw [n2.p 38 34]; exact p5
    refine ⟨mset (mset A3 13 3 0) 12 5 ((t + 1 : Nat) : Int), mset (mset (mset B4 46 (4 * t + 3) (B4 38 34)) 38 10 0) 38 13 ((t + 1 : Nat) : Int), agp.mset (agp.mset hAA (by unfold Dcc; simp)) (by unfold Dcc; simp), agp.mset (agp.mset (agp.mset hBB (by unfold Drr; simp)) (by unfold Drr; simp)) (by unfold Drr; simp), by rw [mset_c (by decide), mset_at], by rw [mset_i (by decide), mset_at], Or.inr ⟨?_, ?_, mset_at _ _ _ _, mset_at _ _ _ _, ?_⟩⟩
    · rw [hcA 1 A3 f1, if_neg (by decide), etok (), if_pos hz]
      refine ob_I ee ?_
      rw [e5 ()]
    · rw [hreads]
      unfold KT
      rw [if_neg (by decide)]
      refine ob_I n1 ?_
      have e13 : mset (mset B4 46 (4 * t + 3) (B4 38 34)) 38 10 0 38 13 = (t : Int) := by rw [mset_i (by decide), mset_c (by decide)]; exact h413
      rw [n5, hrt, if_pos rfl, h413, ew (), if_pos hin, Int.toNat_natCast, e13, w32_n1 (by omega), mset_at]
      rw [show w32 (((t + 1 : Nat) : Int) - 1) = (t : Int) by rw [w32_id (by omega) (by omega)]; omega]
    · rw [List.append_nil] at *
      refine ⟨w0, w1, w2, b5, d5, g5, by have := p7; omega, ?_, ?_, ?_, ?_, ?_, ?_, ?_, fun j hj => ?_, fun j hj => ?_⟩
      · rw [mset_c (by decide), mset_c (by decide), f2.p 18 (3 * t) (by unfold Dp Dc; simp), c2.p 18 (3 * t) (by unfold Dp Dc; simp)]; exact b3
      · rw [mset_c (by decide), mset_c (by decide), f2.p 18 (3 * t + 1) (by unfold Dp Dc; simp)]; exact d3
      · rw [mset_c (by decide), mset_c (by decide)]; exact g3
      · rw [mset_c (by decide), mset_c (by decide), mset_i (by omega), n2.c 46, g1.p 46 (4 * t) (by unfold Dq Dr; simp), d1.p 46 (4 * t) (by unfold Dq Dr; simp)]; exact b4
      · rw [mset_c (by decide), mset_c (by decide), mset_i (by omega), n2.c 46, g1.p 46 (4 * t + 1) (by unfold Dq Dr; simp)]; exact d4
      · rw [mset_c (by decide), mset_c (by decide), mset_i (by omega), n2.c 46]; exact g4
      · rw [mset_c (by decide), mset_c (by decide), mset_at]; exact e34
      · rw [mset_c (by decide), mset_c (by decide)]; exact p2.2.2.2 j hj
      · rw [mset_c (by decide), mset_c (by decide), mset_c (by decide), n2.c 45]; exact p6 j hj
  · have hrt : rtok (A3 15 i3) ≠ 0 := by
      generalize A3 15 i3 = x at hz hv
      unfold vtk at hv
      unfold rtok
      by_cases q1 : x < 2
      · rw [if_pos q1]; omega
      rw [if_neg q1]
      by_cases q2 : x < 256
      · rw [if_pos q2]; omega
      rw [if_neg q2]
      by_cases q3 : x < 259
      · rw [if_pos q3]; decide
      rw [if_neg q3]
      by_cases q4 : x < 262
      · rw [if_pos q4]; omega
      rw [if_neg q4]
      by_cases q5 : x < 1000
      · rw [if_pos q5]; decide
      · rw [if_neg q5]; decide
    have e16c : A3 16 = A 16 := (f2.c 16 (by intro j; rfl)).trans e16b
    rw [e16c] at n4
    obtain ⟨pl, B', z1, z2, z3, z4, z5, z6, z7⟩ := fail A3 B4 i3 hAA hBB f3 f4 p1 h413 n4
    refine ⟨mset A3 13 3 0, B', z4, z5, mset_at _ _ _ _, z6, Or.inl ⟨pl, z1, ?_, ?_, by rw [mset_c (by decide)]; exact p1, z7⟩⟩
    · rw [hcA 1 A3 f1, if_neg (by decide), etok (), if_neg hz]; exact z2
    · rw [hreads]
      have : KT 1 B3 = KT 0 B4 := by
        unfold KT
        rw [if_neg (by decide)]
        refine ob_I n1 ?_
        rw [n5, if_neg hrt, if_pos rfl, if_pos rfl]
      rw [this]; exact z3
end TEXT
