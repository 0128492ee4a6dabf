/-! texts: one token of the reference's reading -/
def rtok (x : Int) : Int := if x < 2 then -x else if x < 256 then x else if x < 259 then 3 else if x < 262 then x - 255 else if x < 1000 then 2 else 1
def rval (x : Int) : Int := if x < 300 then x - 256 else if x < 1000 then x - 300 else x - 1000
def rcod (x : Int) : Int := if x < 1000 then x - 300 else x + 99000
/-- a token (of the class) that is one -/
def vtk (x : Int) : Prop := x = 1 ∨ x = 40 ∨ x = 41 ∨ x = 42 ∨ x = 43 ∨ x = 45 ∨ x = 59 ∨ x = 60 ∨ x = 61 ∨ (256 ≤ x ∧ x ≤ 261) ∨ (300 ≤ x ∧ x ≤ 305) ∨ (1000 ≤ x ∧ x < 11000)
def KE : Mem → Option (Int × Mem) := fun M380 => ob (f_X10_unwinds 1 M380) fun r381 M382 => if M382 38 32 = 0 then some (1, M382) else some (0, M382)
section READ
variable (A0 B0 : Mem) (t nt : Nat) (ae : Nat → Int)
/-- the reference's tokens are the class's -/
def NXT (A0 B0 : Mem) (nt : Nat) (ae : Nat → Int) : Prop := ∀ i, i ≤ nt → ∀ B : Mem, B 44 = B0 44 → B 52 = B0 52 → B 38 10 = B0 38 10 → B 38 26 = ae i → ∃ B', f_X10_next B = some (0, B') ∧ agp (dd [] [(38, 26), (38, 27), (38, 28), (38, 29)]) B B' ∧ B' 38 26 = ae (i + 1) ∧ B' 38 27 = A0 16 i ∧ B' 38 28 = rtok (A0 15 i) ∧ (256 ≤ A0 15 i → ¬ (259 ≤ A0 15 i ∧ A0 15 i ≤ 261) → B' 38 29 = rval (A0 15 i))
/-- what all of the reading rests on -/
def RDT : Prop := t < 6 ∧ B0 38 13 = (t : Int) ∧ nt ≤ 160 ∧ NXT A0 B0 nt ae ∧ A0 15 nt = 0 ∧ ∀ i, i < nt → vtk (A0 15 i)
end READ
section STEPS
variable {A0 B0 : Mem} {t nt : Nat} {ae : Nat → Int} {g : Int}
theorem b_next {B : Mem} {i : Nat} {hl cl : List Int} (R : RDT A0 B0 t nt ae) (hi : i ≤ nt) (h : VB B0 t ae B i g hl cl) : ∃ B', f_X10_next B = some (0, B') ∧ VB B0 t ae B' (i + 1) (A0 16 i) hl cl ∧ B' 38 28 = rtok (A0 15 i) ∧ (256 ≤ A0 15 i → ¬ (259 ≤ A0 15 i ∧ A0 15 i ≤ 261) → B' 38 29 = rval (A0 15 i)) := by
  obtain ⟨r1, r2, r3, r4, r5⟩ := R
  obtain ⟨h1, h2, h3, h4, h5, h6, h7⟩ := h
  obtain ⟨B', e, a1, a2, a3, a4, a5⟩ := r4 i hi B (h1.c 44) (h1.c 52) (h1.p 38 10) h2.1
  refine ⟨B', e, ⟨fun c j hj => ?_, ⟨a2, a3⟩, by rw [a1.p 38 34]; exact h3, by rw [a1.p 38 32]; exact h4, by rw [a1.p 38 33]; exact h5, by rw [a1.c 53]; exact h6, by rw [a1.c 45]; exact h7⟩, a4, a5⟩
  rw [a1 c j, h1 c j hj]
  unfold Dr at hj
  rw [Bool.or_eq_false_iff, Bool.or_eq_false_iff, Bool.and_eq_false_iff] at hj
  rcases hj.1.2 with q | q
  · unfold dd
    simp at q ⊢
    exact ⟨fun e => absurd e q, fun e => absurd e q, fun e => absurd e q, fun e => absurd e q⟩
  · unfold dd
    simp at q ⊢
    exact ⟨fun _ => q.1.1.1.1.1.1, fun _ => q.1.1.1.1.1.2, fun _ => q.1.1.1.1.2, fun _ => q.1.1.1.2⟩
/-- the reading of a token ends it -/
def FL (A0 B0 : Mem) (t : Nat) (B' : Mem) (i : Nat) : Prop := B' 38 27 = A0 16 i ∧ agp (Dr t) B0 B'
theorem VB.fl {B : Mem} {i j : Nat} {hl cl : List Int} (h : VB B0 t ae B j (A0 16 i) hl cl) : FL A0 B0 t B i := ⟨h.2.1.2, h.1⟩
/-! where a ONE is wanted -/
theorem w_one {K : Mem → Option (Int × Mem)} {B : Mem} {i : Nat} {hl cl : List Int} (R : RDT A0 B0 t nt ae) (hi : i < nt) (h : VB B0 t ae B i g hl cl) (hlen : hl.length + cl.length ≤ i) (hx : 300 ≤ A0 15 i) : ∃ B', VB B0 t ae B' (i + 1) (A0 16 i) (uw 7 hl (rcod (A0 15 i) :: cl)).1 (uw 7 hl (rcod (A0 15 i) :: cl)).2 ∧ ∀ f mn, f_X10_eRead_L14 K (f + 1) 1 mn B = f_X10_eRead_L14 K f 0 mn B' := by
  obtain ⟨B1, e1, v1, k1, k2⟩ := b_next R (by omega) h
  have hv := R.2.2.2.2.2 i hi
  have k2 := k2 (by omega) (by omega)
  have r3 := R.2.2.1
  obtain ⟨B2, e2, v2⟩ := b_puts (x := rcod (A0 15 i)) R.1 R.2.1 v1 (by omega)
  obtain ⟨B3, e3, v3⟩ := b_unwinds (p := 7) R.1 R.2.1 (by decide) v2 (by rw [List.length_cons]; omega)
  refine ⟨B3, v3, fun f mn => ?_⟩
  rw [f_X10_eRead_L14]
  refine ob_I e1 ?_
  rw [if_neg (by decide), k1, k2]
  generalize A0 15 i = x at hx hv e2
  unfold vtk at hv
  by_cases hc : x < 1000
  · have q1 : rtok x = 2 := by unfold rtok; rw [if_neg (by omega), if_neg (by omega), if_neg (by omega), if_neg (by omega), if_pos hc]
    have q2 : rval x = rcod x := by unfold rval rcod; rw [if_neg (by omega), if_pos hc, if_pos hc]
    rw [q1, q2, if_neg (by decide), if_pos rfl, if_neg (by decide)]
    exact ob_I e2 (ob_I e3 rfl)
  · have q1 : rtok x = 1 := by unfold rtok; rw [if_neg (by omega), if_neg (by omega), if_neg (by omega), if_neg (by omega), if_neg hc]
    have q2 : w32 (100000 + rval x) = rcod x := by unfold rval rcod; rw [if_neg (by omega), if_neg hc, if_neg hc, w32_id (by omega) (by omega)]; omega
    rw [q1, if_pos rfl, if_pos rfl, q2]
    exact ob_I e2 (ob_I e3 rfl)
theorem w_opens {K : Mem → Option (Int × Mem)} {B : Mem} {i : Nat} {hl cl : List Int} {mn sg mn' : Int} (R : RDT A0 B0 t nt ae) (hi : i < nt) (h : VB B0 t ae B i g hl cl) (hlen : hl.length + cl.length ≤ i) (hc5 : cnt hl ≤ 5) (hx : (A0 15 i = 261 ∧ mn = 1 ∧ sg = 13 ∧ mn' = 1) ∨ (A0 15 i = 45 ∧ sg = 19 ∧ mn' = 0) ∨ (A0 15 i = 40 ∧ sg = 0 ∧ mn' = 1)) :
    (cnt hl = 5 → ∃ B', FL A0 B0 t B' i ∧ ∀ f, f_X10_eRead_L14 K (f + 1) 1 mn B = some (0, B')) ∧ (cnt hl < 5 → ∃ B', VB B0 t ae B' (i + 1) (A0 16 i) (sg :: hl) cl ∧ ∀ f, f_X10_eRead_L14 K (f + 1) 1 mn B = f_X10_eRead_L14 K f 1 mn' B') := by
  obtain ⟨B1, e1, v1, k1, k2⟩ := b_next R (by omega) h
  have r3 := R.2.2.1
  have hsg : opn sg = 1 := by rcases hx with ⟨_, _, q, _⟩ | ⟨_, q, _⟩ | ⟨_, q, _⟩ <;> (rw [q]; rfl)
  obtain ⟨o1, o2⟩ := b_opensOne (x := sg) hsg v1 (by omega) hc5
  have body : ∀ f, f_X10_eRead_L14 K (f + 1) 1 mn B = ob (f_X10_opensOne sg B1) fun r M => if r = 0 then some (0, M) else f_X10_eRead_L14 K f 1 mn' M := by
    intro f
    rw [f_X10_eRead_L14]
    refine ob_I e1 ?_
    rw [if_neg (by decide), k1]
    rcases hx with ⟨q1, q2, q3, q4⟩ | ⟨q1, q3, q4⟩ | ⟨q1, q3, q4⟩
    · have e : rtok (A0 15 i) = 6 := by rw [q1]; rfl
      rw [e, q2, q3, q4, if_neg (by decide), if_neg (by decide), if_pos rfl, if_neg (by decide)]
    · have e : rtok (A0 15 i) = 45 := by rw [q1]; rfl
      rw [e, q3, q4, if_neg (by decide), if_neg (by decide), if_neg (by decide), if_pos rfl]
    · have e : rtok (A0 15 i) = 40 := by rw [q1]; rfl
      rw [e, q3, q4, if_neg (by decide), if_neg (by decide), if_neg (by decide), if_neg (by decide), if_pos rfl]
  refine ⟨fun q => ⟨B1, v1.fl, fun f => ?_⟩, fun q => ?_⟩
  · rw [body]; exact ob_I (o1 q) (by rw [if_pos rfl])
  · obtain ⟨B2, e2, v2⟩ := o2 q
    exact ⟨B2, v2, fun f => by rw [body]; exact ob_I e2 (by rw [if_neg (by decide)])⟩
theorem w_bad {K : Mem → Option (Int × Mem)} {B : Mem} {i : Nat} {hl cl : List Int} {mn : Int} (R : RDT A0 B0 t nt ae) (hi : i ≤ nt) (h : VB B0 t ae B i g hl cl) (hx : A0 15 i < 300) (h45 : A0 15 i ≠ 45) (h40 : A0 15 i ≠ 40) (h261 : A0 15 i = 261 → mn = 0) : ∃ B', FL A0 B0 t B' i ∧ ∀ f, f_X10_eRead_L14 K (f + 1) 1 mn B = some (0, B') := by
  obtain ⟨B1, e1, v1, k1, k2⟩ := b_next R hi h
  refine ⟨B1, v1.fl, fun f => ?_⟩
  have hv : A0 15 i = 0 ∨ vtk (A0 15 i) := by
    by_cases q : i < nt
    · exact Or.inr (R.2.2.2.2.2 i q)
    · have : i = nt := by omega
      rw [this]; exact Or.inl R.2.2.2.2.1
  have hr : rtok (A0 15 i) ≠ 1 ∧ rtok (A0 15 i) ≠ 2 ∧ rtok (A0 15 i) ≠ 45 ∧ rtok (A0 15 i) ≠ 40 ∧ (rtok (A0 15 i) = 6 → A0 15 i = 261) := by
    generalize A0 15 i = x at *
    unfold vtk at hv
    unfold rtok
    by_cases q1 : x < 2
    · rw [if_pos q1]; omega
    rw [if_neg q1]
    by_cases q2 : x < 256
    · rw [if_pos q2]; omega
    rw [if_neg q2]
    by_cases q3 : x < 259
    · rw [if_pos q3]; omega
    rw [if_neg q3]
    by_cases q4 : x < 262
    · rw [if_pos q4]; omega
    omega
  rw [f_X10_eRead_L14]
  refine ob_I e1 ?_
  rw [if_neg (by decide), k1, if_neg hr.1, if_neg hr.2.1]
  by_cases q6 : rtok (A0 15 i) = 6
  · rw [if_pos q6, if_pos (h261 (hr.2.2.2.2 q6)), if_neg hr.2.2.1, if_neg hr.2.2.2.1]
  · rw [if_neg q6, if_neg hr.2.2.1, if_neg hr.2.2.2.1]
/-! behind a ONE -/
theorem o_semi {B : Mem} {i : Nat} {hl cl : List Int} {mn : Int} (R : RDT A0 B0 t nt ae) (hi : i < nt) (h : VB B0 t ae B i g hl cl) (hlen : hl.length + cl.length ≤ i) (hx : A0 15 i = 59) : ∃ B', VB B0 t ae B' (i + 1) (A0 16 i) (uw 1 hl cl).1 (uw 1 hl cl).2 ∧ ∀ f, f_X10_eRead_L14 KE (f + 1) 0 mn B = some (if (uw 1 hl cl).1 = [] then 1 else 0, B') := by
  obtain ⟨B1, e1, v1, k1, k2⟩ := b_next R (by omega) h
  have r3 := R.2.2.1
  obtain ⟨B2, e2, v2⟩ := b_unwinds (p := 1) R.1 R.2.1 (by decide) v1 (by omega)
  refine ⟨B2, v2, fun f => ?_⟩
  rw [f_X10_eRead_L14]
  refine ob_I e1 ?_
  have e : rtok (A0 15 i) = 59 := by rw [hx]; rfl
  rw [if_pos rfl, k1, e, if_pos rfl]
  unfold KE
  refine ob_I e2 ?_
  rw [v2.2.2.2.1]
  cases hq : (uw 1 hl cl).1 with
  | nil => rw [if_pos (by rfl), if_pos rfl]
  | cons y l => rw [if_neg (by rw [List.length_cons]; omega), if_neg (by intro q; cases q)]
theorem o_close {K : Mem → Option (Int × Mem)} {B : Mem} {i : Nat} {hl cl : List Int} (R : RDT A0 B0 t nt ae) (hi : i < nt) (h : VB B0 t ae B i g hl cl) (hlen : hl.length + cl.length ≤ i) (hx : A0 15 i = 41) :
    ((uw 1 hl cl).1 = [] → ∃ B', FL A0 B0 t B' i ∧ ∀ f mn, f_X10_eRead_L14 K (f + 1) 0 mn B = some (0, B')) ∧ (∀ r, (uw 1 hl cl).1 = 0 :: r → ∃ B', VB B0 t ae B' (i + 1) (A0 16 i) (uw 7 r (uw 1 hl cl).2).1 (uw 7 r (uw 1 hl cl).2).2 ∧ ∀ f mn, f_X10_eRead_L14 K (f + 1) 0 mn B = f_X10_eRead_L14 K f 0 mn B') := by
  obtain ⟨B1, e1, v1, k1, k2⟩ := b_next R (by omega) h
  have r3 := R.2.2.1
  have hul := uw_len 1 hl cl
  obtain ⟨B2, e2, v2⟩ := b_unwinds (p := 1) R.1 R.2.1 (by decide) v1 (by omega)
  have e : rtok (A0 15 i) = 41 := by rw [hx]; rfl
  refine ⟨fun q => ⟨B2, v2.fl, fun f mn => ?_⟩, fun r q => ?_⟩
  · rw [f_X10_eRead_L14]
    refine ob_I e1 ?_
    rw [if_pos rfl, k1, e, if_neg (by decide), if_pos rfl]
    refine ob_I e2 ?_
    rw [v2.2.2.2.1, q, if_pos (by rfl)]
  · obtain ⟨h1, h2, h3, h4, h5, h6, h7⟩ := id v2
    rw [q] at h4 h5 h6 hul
    rw [List.length_cons] at h4 hul
    rw [cnt_c] at h5
    have ho : opn 0 = 1 := by rfl
    rw [ho] at h5
    have w1 : ∀ _ : Unit, w32 (B2 38 32 - 1) = (r.length : Int) := fun _ => by rw [h4, w32_id (by omega) (by omega)]; omega
    have hcl : ∀ l : List Int, cnt l ≤ l.length := by
      intro l
      unfold cnt
      induction l with
      | nil => exact Nat.le_refl _
      | cons y l ih2 =>
        rw [List.map_cons, List.sum_cons, List.length_cons]
        have : opn y ≤ 1 := by unfold opn; split <;> omega
        omega
    have hcr := hcl r
    have w2 : ∀ _ : Unit, w32 (B2 38 33 - 1) = (cnt r : Int) := fun _ => by rw [h5, w32_id (by omega) (by omega)]; omega
    have hV : VB B0 t ae (mset (mset B2 38 32 (r.length : Int)) 38 33 (cnt r : Int)) (i + 1) (A0 16 i) r (uw 1 hl cl).2 := by
      refine ⟨(h1.mset (Dr_t (by omega))).mset (Dr_t (by omega)), ⟨by rw [mset_i (by decide), mset_i (by decide)]; exact h2.1, by rw [mset_i (by decide), mset_i (by decide)]; exact h2.2⟩, by rw [mset_i (by decide), mset_i (by decide)]; exact h3, by rw [mset_i (by decide), mset_at], mset_at _ _ _ _, fun j hj => ?_, fun j hj => ?_⟩
      · rw [mset_c (by decide), mset_c (by decide), h6 j (by rw [List.length_cons]; omega), nth_lt hj]
      · rw [mset_c (by decide), mset_c (by decide)]; exact h7 j hj
    obtain ⟨B3, e3, v3⟩ := b_unwinds (p := 7) R.1 R.2.1 (by decide) hV (by omega)
    refine ⟨B3, v3, fun f mn => ?_⟩
    rw [f_X10_eRead_L14]
    refine ob_I e1 ?_
    rw [if_pos rfl, k1, e, if_neg (by decide), if_pos rfl]
    refine ob_I e2 ?_
    rw [if_neg (by rw [h4]; omega), w1 (), mset_i (show (33 : Nat) ≠ 32 by decide), w2 ()]
    exact ob_I e3 rfl
/-- the sign between two of a token -/
def sgo (x : Int) : Int := if x = 259 then 11 else if x = 260 then 12 else if x = 60 then 14 else if x = 61 then 15 else if x = 43 then 16 else if x = 45 then 17 else if x = 42 then 18 else -1
theorem sign_e {x : Int} {M : Mem} (h : M 38 28 = rtok x) (hv : x = 0 ∨ vtk x) : f_X10_signOf M = sgo x := by
  unfold f_X10_signOf
  rw [h]
  unfold vtk at hv
  unfold rtok sgo
  rcases (show x = 259 ∨ x = 260 ∨ x = 60 ∨ x = 61 ∨ x = 43 ∨ x = 45 ∨ x = 42 ∨ ¬ (x = 259 ∨ x = 260 ∨ x = 60 ∨ x = 61 ∨ x = 43 ∨ x = 45 ∨ x = 42) by omega) with q | q | q | q | q | q | q | q
  · subst q; rfl
  · subst q; rfl
  · subst q; rfl
  · subst q; rfl
  · subst q; rfl
  · subst q; rfl
  · subst q; rfl
  · rw [if_neg (show ¬ x = 259 by omega), if_neg (show ¬ x = 260 by omega), if_neg (show ¬ x = 60 by omega), if_neg (show ¬ x = 61 by omega), if_neg (show ¬ x = 43 by omega), if_neg (show ¬ x = 45 by omega), if_neg (show ¬ x = 42 by omega)]
    by_cases q1 : x < 2
    · rw [if_pos q1, if_neg (by omega), if_neg (by omega), if_neg (by omega), if_neg (by omega), if_neg (by omega), if_neg (by omega), if_neg (by omega)]
    rw [if_neg q1]
    by_cases q2 : x < 256
    · rw [if_pos q2, if_neg (by omega), if_neg (by omega), if_neg (by omega), if_neg (by omega), if_neg (by omega), if_neg (by omega), if_neg (by omega)]
    rw [if_neg q2]
    by_cases q3 : x < 259
    · rw [if_pos q3]; rfl
    rw [if_neg q3]
    by_cases q4 : x < 262
    · have : x = 261 := by omega
      subst this; rfl
    rw [if_neg q4]
    by_cases q5 : x < 1000
    · rw [if_pos q5]; rfl
    · rw [if_neg q5]; rfl
/-- how far a sign unwinds -/
def ulv (sg : Int) : Int := if f_X10_rank sg = 4 then 5 else f_X10_rank sg
theorem b_between {B : Mem} {i : Nat} {hl cl : List Int} {sg : Int} (R : RDT A0 B0 t nt ae) (hs : 11 ≤ sg ∧ sg ≤ 18 ∧ sg ≠ 13) (h : VB B0 t ae B i g hl cl) (hlen : hl.length + cl.length ≤ 160) :
    ((f_X10_rank sg = 4 ∧ ∃ y r, (uw 5 hl cl).1 = y :: r ∧ f_X10_rank y = 4) → ∃ B', f_X10_between sg B = some (0, B') ∧ agp (Dr t) B0 B' ∧ B' 38 27 = g) ∧
    (¬ (f_X10_rank sg = 4 ∧ ∃ y r, (uw 5 hl cl).1 = y :: r ∧ f_X10_rank y = 4) → ∃ B', f_X10_between sg B = some (1, B') ∧ VB B0 t ae B' i g (sg :: (uw (ulv sg) hl cl).1) (uw (ulv sg) hl cl).2) := by
  have hul := uw_len (ulv sg) hl cl
  have hpos : 0 < ulv sg := by
    unfold ulv f_X10_rank
    rcases (show sg = 11 ∨ sg = 12 ∨ sg = 14 ∨ sg = 15 ∨ sg = 16 ∨ sg = 17 ∨ sg = 18 by omega) with q | q | q | q | q | q | q <;> (subst q; decide)
  have hop : opn sg = 0 := by unfold opn; rw [if_neg (by omega)]
  obtain ⟨B2, e2, v2⟩ := b_unwinds (p := ulv sg) R.1 R.2.1 hpos h hlen
  have hol : ∃ B', f_X10_holds sg B2 = some (0, B') ∧ VB B0 t ae B' i g (sg :: (uw (ulv sg) hl cl).1) (uw (ulv sg) hl cl).2 := by
    obtain ⟨B3, e3, w1, w2, w3, w4, w5, w6, w7⟩ := b_holds (x := sg) v2 (by omega)
    exact ⟨B3, e3, w1, w2, w3, w4, by rw [w5, v2.2.2.2.2.1, cnt_c, hop, Nat.zero_add], w6, w7⟩
  obtain ⟨B3, e3, v3⟩ := hol
  by_cases h4 : f_X10_rank sg = 4
  · have eu : ulv sg = 5 := by unfold ulv; rw [if_pos h4]
    rw [eu] at e2 v2 v3 hul
    have hbody : f_X10_between sg B = (if 0 < B2 38 32 then (if 0 ≤ w32 (B2 38 32 - 1) ∧ w32 (B2 38 32 - 1) < 200 then (if f_X10_rank (B2 53 (w32 (B2 38 32 - 1)).toNat) = 4 then some (0, B2) else ob (f_X10_holds sg B2) fun _ M345 => some (1, M345)) else none) else ob (f_X10_holds sg B2) fun _ M343 => some (1, M343)) := by
      rw [f_X10_between, if_pos h4]
      refine ob_I e2 ?_
      rw [if_pos h4]
    rw [eu]
    obtain ⟨h1, h2, h3, h4', h5, h6, h7⟩ := id v2
    cases hq : (uw 5 hl cl).1 with
    | nil =>
      rw [hq] at h4' v3
      refine ⟨fun ⟨_, y, r, q, _⟩ => (by cases q), fun _ => ⟨B3, ?_, v3⟩⟩
      rw [hbody, if_neg (by rw [h4']; decide)]
      exact ob_I e3 rfl
    | cons y r =>
      rw [hq] at h4' h6 v3 hul
      rw [List.length_cons] at h4' hul
      have ew : ∀ _ : Unit, w32 (B2 38 32 - 1) = (r.length : Int) := fun _ => by rw [h4', w32_id (by omega) (by omega)]; omega
      have et : B2 53 r.length = y := by rw [h6 _ (by rw [List.length_cons]; omega), nth_top]
      have hb2 : f_X10_between sg B = (if f_X10_rank y = 4 then some (0, B2) else ob (f_X10_holds sg B2) fun _ M345 => some (1, M345)) := by
        rw [hbody, if_pos (by rw [h4']; omega), ew (), if_pos ⟨by omega, by omega⟩, Int.toNat_natCast, et]
      refine ⟨fun ⟨_, y', r', q, q2⟩ => ⟨B2, ?_, h1, h2.2⟩, fun q => ⟨B3, ?_, v3⟩⟩
      · cases q
        rw [hb2, if_pos q2]
      · rw [hb2, if_neg (fun q2 => q ⟨h4, y, r, rfl, q2⟩)]
        exact ob_I e3 rfl
  · have eu : ulv sg = f_X10_rank sg := by unfold ulv; rw [if_neg h4]
    refine ⟨fun q => absurd q.1 h4, fun _ => ⟨B3, ?_, v3⟩⟩
    rw [f_X10_between, if_neg h4, ← eu]
    refine ob_I e2 ?_
    rw [if_neg (show ¬ ulv sg = 4 by rw [eu]; exact h4)]
    exact ob_I e3 rfl
theorem o_op {K : Mem → Option (Int × Mem)} {B : Mem} {i : Nat} {hl cl : List Int} (R : RDT A0 B0 t nt ae) (hi : i < nt) (h : VB B0 t ae B i g hl cl) (hlen : hl.length + cl.length ≤ i) (hx : sgo (A0 15 i) ≠ -1) :
    ((f_X10_rank (sgo (A0 15 i)) = 4 ∧ ∃ y r, (uw 5 hl cl).1 = y :: r ∧ f_X10_rank y = 4) → ∃ B', FL A0 B0 t B' i ∧ ∀ f mn, f_X10_eRead_L14 K (f + 1) 0 mn B = some (0, B')) ∧
    (¬ (f_X10_rank (sgo (A0 15 i)) = 4 ∧ ∃ y r, (uw 5 hl cl).1 = y :: r ∧ f_X10_rank y = 4) → ∃ B', VB B0 t ae B' (i + 1) (A0 16 i) (sgo (A0 15 i) :: (uw (ulv (sgo (A0 15 i))) hl cl).1) (uw (ulv (sgo (A0 15 i))) hl cl).2 ∧ ∀ f mn, f_X10_eRead_L14 K (f + 1) 0 mn B = f_X10_eRead_L14 K f 1 (if 12 < sgo (A0 15 i) then 0 else 1) B') := by
  obtain ⟨B1, e1, v1, k1, k2⟩ := b_next R (by omega) h
  have r3 := R.2.2.1
  have hv := R.2.2.2.2.2 i hi
  have es := sign_e k1 (Or.inr hv)
  have hs : 11 ≤ sgo (A0 15 i) ∧ sgo (A0 15 i) ≤ 18 ∧ sgo (A0 15 i) ≠ 13 ∧ rtok (A0 15 i) ≠ 59 ∧ rtok (A0 15 i) ≠ 41 := by
    generalize A0 15 i = x at hx
    unfold sgo at hx
    rcases (show x = 259 ∨ x = 260 ∨ x = 60 ∨ x = 61 ∨ x = 43 ∨ x = 45 ∨ x = 42 ∨ ¬ (x = 259 ∨ x = 260 ∨ x = 60 ∨ x = 61 ∨ x = 43 ∨ x = 45 ∨ x = 42) by omega) with q | q | q | q | q | q | q | q
    · subst q; decide
    · subst q; decide
    · subst q; decide
    · subst q; decide
    · subst q; decide
    · subst q; decide
    · subst q; decide
    · exfalso
      rw [if_neg (show ¬ x = 259 by omega), if_neg (show ¬ x = 260 by omega), if_neg (show ¬ x = 60 by omega), if_neg (show ¬ x = 61 by omega), if_neg (show ¬ x = 43 by omega), if_neg (show ¬ x = 45 by omega), if_neg (show ¬ x = 42 by omega)] at hx
      exact hx rfl
  obtain ⟨b1, b2⟩ := b_between (sg := sgo (A0 15 i)) R ⟨hs.1, hs.2.1, hs.2.2.1⟩ v1 (by omega)
  have body : ∀ f mn, f_X10_eRead_L14 K (f + 1) 0 mn B = ob (f_X10_between (sgo (A0 15 i)) B1) fun r348 M349 => if r348 = 0 then some (0, M349) else if 12 < sgo (A0 15 i) then f_X10_eRead_L14 K f 1 0 M349 else f_X10_eRead_L14 K f 1 1 M349 := by
    intro f mn
    rw [f_X10_eRead_L14]
    refine ob_I e1 ?_
    rw [if_pos rfl, es, k1, if_neg hs.2.2.2.1, if_neg hs.2.2.2.2, if_neg hx]
  refine ⟨fun q => ?_, fun q => ?_⟩
  · obtain ⟨B2, e2, w1, w2⟩ := b1 q
    exact ⟨B2, ⟨w2, w1⟩, fun f mn => by rw [body]; exact ob_I e2 (by rw [if_pos rfl])⟩
  · obtain ⟨B2, e2, v2⟩ := b2 q
    refine ⟨B2, v2, fun f mn => ?_⟩
    rw [body]
    refine ob_I e2 ?_
    rw [if_neg (by decide)]
    by_cases c : 12 < sgo (A0 15 i)
    · rw [if_pos c, if_pos c]
    · rw [if_neg c, if_neg c]
theorem o_bad {K : Mem → Option (Int × Mem)} {B : Mem} {i : Nat} {hl cl : List Int} (R : RDT A0 B0 t nt ae) (hi : i ≤ nt) (h : VB B0 t ae B i g hl cl) (hx : sgo (A0 15 i) = -1) (h59 : A0 15 i ≠ 59) (h41 : A0 15 i ≠ 41) : ∃ B', FL A0 B0 t B' i ∧ ∀ f mn, f_X10_eRead_L14 K (f + 1) 0 mn B = some (0, B') := by
  obtain ⟨B1, e1, v1, k1, k2⟩ := b_next R hi h
  have hv : A0 15 i = 0 ∨ vtk (A0 15 i) := by
    by_cases q : i < nt
    · exact Or.inr (R.2.2.2.2.2 i q)
    · have : i = nt := by omega
      rw [this]; exact Or.inl R.2.2.2.2.1
  have es := sign_e k1 hv
  have hr : rtok (A0 15 i) ≠ 59 ∧ rtok (A0 15 i) ≠ 41 := by
    generalize A0 15 i = x at h59 h41 hv
    unfold vtk at hv
    unfold rtok
    by_cases q1 : x < 2
    · rw [if_pos q1]; omega
    rw [if_neg q1]
    by_cases q2 : x < 256
    · rw [if_pos q2]; omega
    rw [if_neg q2]
    by_cases q3 : x < 259
    · rw [if_pos q3]; omega
    rw [if_neg q3]
    by_cases q4 : x < 262
    · rw [if_pos q4]; omega
    rw [if_neg q4]
    by_cases q5 : x < 1000
    · rw [if_pos q5]; omega
    · rw [if_neg q5]; omega
  refine ⟨B1, v1.fl, fun f mn => ?_⟩
  rw [f_X10_eRead_L14]
  refine ob_I e1 ?_
  rw [if_pos rfl, k1, if_neg hr.1, if_neg hr.2, es, if_pos hx]
end STEPS
