/-! memories that agree but at some places -/
def agp (D : Nat → Nat → Bool) (M M' : Mem) : Prop := ∀ c j : Nat, D c j = false → M' c j = M c j
def dd (L : List Nat) (P : List (Nat × Nat)) (c j : Nat) : Bool := L.any (fun d => c == d) || P.any (fun q => c == q.1 && j == q.2)
theorem agp.c {D : Nat → Nat → Bool} {M M' : Mem} (h : agp D M M') (c : Nat) (hc : ∀ j, D c j = false := by intro j; rfl) : M' c = M c := funext fun j => h c j (hc j)
theorem agp.p {D : Nat → Nat → Bool} {M M' : Mem} (h : agp D M M') (c j : Nat) (hc : D c j = false := by rfl) : M' c j = M c j := h c j hc
theorem agp.refl {D : Nat → Nat → Bool} {M : Mem} : agp D M M := fun _ _ _ => rfl
theorem agp.trans {D : Nat → Nat → Bool} {M M1 M2 : Mem} (h1 : agp D M M1) (h2 : agp D M1 M2) : agp D M M2 := fun c j h => (h2 c j h).trans (h1 c j h)
theorem agp.mset {D : Nat → Nat → Bool} {M M1 : Mem} (h : agp D M M1) {c i : Nat} {v : Int} (hc : D c i = true) : agp D M (mset M1 c i v) := fun d j hd => by
  by_cases e : d = c
  · subst e
    by_cases e2 : j = i
    · subst e2; rw [hc] at hd; cases hd
    · rw [mset_i e2]; exact h _ j hd
  · rw [mset_c e]; exact h d j hd
theorem agp.x {D : Nat → Nat → Bool} {L : List Nat} {M M1 M2 : Mem} (h : agp D M M1) (h2 : agx L M1 M2) (hL : ∀ c ∈ L, ∀ j, D c j = true) : agp D M M2 := fun c j hd => by
  rw [h2 c (fun hc => by rw [hL c hc j] at hd; cases hd)]; exact h c j hd
theorem dd_mono {L L2 : List Nat} {P P2 : List (Nat × Nat)} (h1 : ∀ x ∈ L, x ∈ L2) (h2 : ∀ x ∈ P, x ∈ P2) {c j : Nat} (h : dd L2 P2 c j = false) : dd L P c j = false := by
  unfold dd at h ⊢
  rw [Bool.or_eq_false_iff, List.any_eq_false, List.any_eq_false] at h
  rw [Bool.or_eq_false_iff, List.any_eq_false, List.any_eq_false]
  exact ⟨fun x hx => h.1 x (h1 x hx), fun x hx => h.2 x (h2 x hx)⟩
theorem agp.dm {L L2 : List Nat} {P P2 : List (Nat × Nat)} {M M' : Mem} (h : agp (dd L P) M M') (h1 : ∀ x ∈ L, x ∈ L2 := by decide) (h2 : ∀ x ∈ P, x ∈ P2 := by decide) : agp (dd L2 P2) M M' := fun c j hc => h c j (dd_mono h1 h2 hc)
/-! facts -/
theorem fact_e {M : Mem} (h : Inv M) (a b c d : Int) : f_X10_isFact a b c d M = f_X9_mayBeFact a b c d M := by
  rw [f_X10_isFact, f_X9_mayBeFact]
  simp only [isl_e h]
  rfl
theorem fact_n {M : Mem} (h : Inv M) {a b c d : Int} (hf : ¬ f_X9_mayBeFact a b c d M = 0) : ∃ k l p m : Nat, a = (k : Int) ∧ b = (l : Int) ∧ c = (p : Int) ∧ d = (m : Int) ∧ k ≤ 5 ∧ l < ln M ∧ l < 10 ∧ p < 64 ∧ m < 10 := by
  rw [f_X9_mayBeFact] at hf
  by_cases h1 : f_X9_within a 0 5 = 0
  · rw [if_pos h1] at hf; exact absurd rfl hf
  rw [if_neg h1] at hf
  rcases isl_n h (x := b) with h0 | ⟨l, rfl, hl, hl2, h0⟩
  · rw [if_pos h0] at hf; exact absurd rfl hf
  rw [if_neg h0] at hf
  by_cases h3 : f_X9_isParts c = 0
  · rw [if_pos h3] at hf; exact absurd rfl hf
  rw [if_neg h3] at hf
  by_cases h4 : f_X9_within d 0 9 = 0
  · rw [if_pos h4] at hf; exact absurd rfl hf
  rw [f_X9_isParts] at h3
  rw [wi_0] at h1 h3 h4
  exact ⟨a.toNat, l, c.toNat, d.toNat, by omega, rfl, by omega, by omega, by omega, hl, hl2, by omega, by omega⟩
theorem r_lays {M : Mem} {n : Nat} {a b c d : Int} (hn : M 38 6 = (n : Int)) (h : n < 13) : f_X10_lays a b c d M = some (0, mset (mset (mset (mset M 42 (4 * n) a) 42 (4 * n + 1) b) 42 (4 * n + 2) c) 42 (4 * n + 3) d) := by
  have e0 : w32 (4 * M 38 6) = ((4 * n : Nat) : Int) := by rw [hn, w32_id (by omega) (by omega)]; omega
  have e1 : w32 (((4 * n : Nat) : Int) + 1) = ((4 * n + 1 : Nat) : Int) := by rw [w32_id (by omega) (by omega)]; omega
  have e2 : w32 (((4 * n : Nat) : Int) + 2) = ((4 * n + 2 : Nat) : Int) := by rw [w32_id (by omega) (by omega)]; omega
  have e3 : w32 (((4 * n : Nat) : Int) + 3) = ((4 * n + 3 : Nat) : Int) := by rw [w32_id (by omega) (by omega)]; omega
  rw [f_X10_lays]
  simp only [mset_c (show (38 : Nat) ≠ 42 by decide), e0, e1, e2, e3, Int.toNat_natCast]
  rw [if_pos ⟨by omega, by omega⟩, if_pos ⟨by omega, by omega⟩, if_pos ⟨by omega, by omega⟩, if_pos ⟨by omega, by omega⟩]
/-- what lies of a fact laid -/
theorem lays_at {f : Nat → Int} {n : Nat} {a b c d : Int} {g : Nat → Int} (hg : ∀ j : Nat, g j = if j = 4 * n + 3 then d else if j = 4 * n + 2 then c else if j = 4 * n + 1 then b else if j = 4 * n then a else f j) :
    g (4 * n) = a ∧ g (4 * n + 1) = b ∧ g (4 * n + 2) = c ∧ g (4 * n + 3) = d ∧ ∀ j : Nat, j < 4 * n → g j = f j := by
  refine ⟨?_, ?_, ?_, ?_, fun j hj => ?_⟩
  · rw [hg, if_neg (by omega), if_neg (by omega), if_neg (by omega), if_pos rfl]
  · rw [hg, if_neg (by omega), if_neg (by omega), if_pos rfl]
  · rw [hg, if_neg (by omega), if_pos rfl]
  · rw [hg, if_pos rfl]
  · rw [hg, if_neg (by omega), if_neg (by omega), if_neg (by omega), if_neg (by omega)]
theorem mset4 {M : Mem} {k n : Nat} {a b c d : Int} : ∀ j : Nat, mset (mset (mset (mset M k (4 * n) a) k (4 * n + 1) b) k (4 * n + 2) c) k (4 * n + 3) d k j = if j = 4 * n + 3 then d else if j = 4 * n + 2 then c else if j = 4 * n + 1 then b else if j = 4 * n then a else M k j := by
  intro j
  unfold mset
  simp
theorem op_know {M : Mem} (h : Inv M) (a b c d : Int) : OK2 (f_X9_know a b c d) (f_X10_know a b c d) M := by
  by_cases hf : f_X9_mayBeFact a b c d M = 0
  · exact OK2.no h (by rw [f_X9_know, if_pos hf]) (by rw [f_X10_know, fact_e h, if_pos hf])
  obtain ⟨⟨hL, ⟨f1, f2, f3⟩, hT, hX⟩, ⟨cL, ⟨k1, k2⟩, cT⟩, hG, hP, hI, hS, hW, hC⟩ := id h
  by_cases hn : fn M = 12
  · exact OK2.no h (by rw [f_X9_know, if_neg hf, if_neg (by rw [k1, f1]; omega)]) (by rw [f_X10_know, fact_e h, if_neg hf, if_pos (by rw [f1]; omega)])
  obtain ⟨kk, l, p, m, rfl, rfl, rfl, rfl, b1, b2, b3, b4, b5⟩ := fact_n h hf
  have hlt : fn M < 12 := by omega
  have hn74 : M 7 4 = (fn M : Int) := by rw [k1, f1]
  generalize hN : fn M = n at hlt hn74 f1 f3 k2
  have en1 : w32 ((n : Int) + 1) = ((n + 1 : Nat) : Int) := w32_n1 (by omega)
  have en2 : w32 (((n + 1 : Nat) : Int) - 1) = (n : Int) := by rw [w32_id (by omega) (by omega)]; omega
  have hA : ∃ M1, f_X0_add (kk : Int) (l : Int) (p : Int) (m : Int) (mset M 0 12 1) = some ((n : Int), M1) ∧ M1 = mset (mset (mset (mset (mset (mset M 0 12 1) 8 n (kk : Int)) 9 n (l : Int)) 10 n (p : Int)) 11 n (m : Int)) 7 4 ((n + 1 : Nat) : Int) := by
    refine ⟨_, ?_, rfl⟩
    have e7 : mset M 0 12 1 7 4 = (n : Int) := hn74
    rw [f_X0_add, e7]
    simp only [wr_n hlt]
    have e8 : mset (mset (mset (mset (mset M 0 12 1) 8 n (kk : Int)) 9 n (l : Int)) 10 n (p : Int)) 11 n (m : Int) 7 4 = (n : Int) := hn74
    rw [e8, en1]
  obtain ⟨M1, eA, hM1⟩ := hA
  have h6 : M1 38 6 = (n : Int) := by rw [hM1]; exact f1
  have eB := r_lays (a := (kk : Int)) (b := (l : Int)) (c := (p : Int)) (d := (m : Int)) h6 (by omega)
  have eI : f_X10_isFact (kk : Int) (l : Int) (p : Int) (m : Int) M1 = f_X9_mayBeFact (kk : Int) (l : Int) (p : Int) (m : Int) M := by
    rw [← fact_e h, hM1]; rfl
  refine ⟨(n : Int), M1, mset (mset (mset (mset (mset M1 42 (4 * n) (kk : Int)) 42 (4 * n + 1) (l : Int)) 42 (4 * n + 2) (p : Int)) 42 (4 * n + 3) (m : Int)) 38 6 ((n + 1 : Nat) : Int), ?_, ?_, ?_⟩
  · rw [f_X9_know, if_neg hf, if_pos (by rw [hn74]; omega)]
    exact ob_I eA rfl
  · rw [f_X10_know, eI, if_neg hf, if_neg (by rw [h6]; omega)]
    refine ob_I eB ?_
    rw [mset_at, mset_c (by decide), mset_c (by decide), mset_c (by decide), mset_c (by decide), h6, en1, en2]
  · have h42 : ∀ j : Nat, mset (mset (mset (mset (mset M1 42 (4 * n) (kk : Int)) 42 (4 * n + 1) (l : Int)) 42 (4 * n + 2) (p : Int)) 42 (4 * n + 3) (m : Int)) 38 6 ((n + 1 : Nat) : Int) 42 j = if j = 4 * n + 3 then (m : Int) else if j = 4 * n + 2 then (p : Int) else if j = 4 * n + 1 then (l : Int) else if j = 4 * n then (kk : Int) else M 42 j := by
      intro j
      rw [mset_c (by decide), mset4, hM1]; rfl
    have h8 : ∀ j : Nat, (mset (mset (mset (mset (mset M1 42 (4 * n) (kk : Int)) 42 (4 * n + 1) (l : Int)) 42 (4 * n + 2) (p : Int)) 42 (4 * n + 3) (m : Int)) 38 6 ((n + 1 : Nat) : Int) 8 j = if j = n then (kk : Int) else M 8 j) ∧ (mset (mset (mset (mset (mset M1 42 (4 * n) (kk : Int)) 42 (4 * n + 1) (l : Int)) 42 (4 * n + 2) (p : Int)) 42 (4 * n + 3) (m : Int)) 38 6 ((n + 1 : Nat) : Int) 9 j = if j = n then (l : Int) else M 9 j) ∧ (mset (mset (mset (mset (mset M1 42 (4 * n) (kk : Int)) 42 (4 * n + 1) (l : Int)) 42 (4 * n + 2) (p : Int)) 42 (4 * n + 3) (m : Int)) 38 6 ((n + 1 : Nat) : Int) 10 j = if j = n then (p : Int) else M 10 j) ∧ (mset (mset (mset (mset (mset M1 42 (4 * n) (kk : Int)) 42 (4 * n + 1) (l : Int)) 42 (4 * n + 2) (p : Int)) 42 (4 * n + 3) (m : Int)) 38 6 ((n + 1 : Nat) : Int) 11 j = if j = n then (m : Int) else M 11 j) := by
      intro j
      rw [hM1]
      unfold mset
      simp
    generalize hM2 : mset (mset (mset (mset (mset M1 42 (4 * n) (kk : Int)) 42 (4 * n + 1) (l : Int)) 42 (4 * n + 2) (p : Int)) 42 (4 * n + 3) (m : Int)) 38 6 ((n + 1 : Nat) : Int) = M2 at h42 h8 ⊢
    have ha : agp (dd [8, 9, 10, 11, 42] [(0, 12), (7, 4), (38, 6)]) M M2 := by
      rw [← hM2, hM1]
      exact (((((((((((agp.refl.mset (by rfl)).mset (by rfl)).mset (by rfl)).mset (by rfl)).mset (by rfl)).mset (by rfl)).mset (by rfl)).mset (by rfl)).mset (by rfl)).mset (by rfl)).mset (by rfl))
    have hz : M2 0 12 = 1 := by rw [← hM2, hM1]; rfl
    have h74 : M2 7 4 = ((n + 1 : Nat) : Int) := by rw [← hM2, hM1]; rfl
    have h386 : M2 38 6 = ((n + 1 : Nat) : Int) := by rw [← hM2]; rfl
    have en : fn M2 = n + 1 := by unfold fn; rw [h386]; omega
    obtain ⟨g0, g1, g2, g3, g4⟩ := lays_at h42
    refine ⟨⟨(RLn_e (ha.p 38 0) (ha.c 39) (ha.c 40)).mpr hL, ⟨by rw [en]; exact h386, by omega, fun f hf => ?_⟩, (TB_e (ha.c 43)).mpr hT, (RTx_e (ha.p 38 13) (ha.p 38 14) (ha.c 45) (ha.c 46)).mpr hX⟩,
      ⟨(CLn_e (ha.p 3 3) (ha.p 38 0) (ha.c 4) (ha.c 39) (ha.c 5) (ha.c 40) (ha.c 6) (ha.c 2)).mpr cL, ⟨by rw [h74, h386], fun f hf => ?_⟩, (CTx_e (ha.p 12 5) (ha.p 38 13) (ha.p 0 11) (ha.p 38 14) (ha.c 45) (ha.c 46) (ha.c 17) (ha.c 18)).mpr cT⟩,
      (Gs_e (ha.p 0 9) (ha.p 38 3) (ha.c 37) (ha.c 41) (ha.p 0 10) (ha.p 38 5)).mpr hG, (Tp_e (ha.p 13 3) (ha.p 38 10) (ha.c 14) (ha.c 44)).mpr hP, ?_, (Sh_e (ha.c 34) (ha.c 48) (ha.c 35) (ha.c 49) (ha.c 36) (ha.c 50)).mpr hS, (WD_e (ha.c 52)).mpr hW, fun q => by rw [hz] at q; exact absurd q (by decide)⟩
    · by_cases e : f = n
      · subst e
        unfold RF1 fk fl fp fm
        rw [g0, g1, g2, g3]
        simp only [Int.toNat_natCast]
        refine ⟨?_, b1, ?_, b3, ?_, b4, ?_, b5⟩ <;> trivial
      · have hf2 : f < n := by omega
        have h0 := f3 f hf2
        unfold RF1 fk fl fp fm at h0 ⊢
        rw [g4 _ (by omega), g4 _ (by omega), g4 _ (by omega), g4 _ (by omega)]
        exact h0
    · obtain ⟨a1, a2, a3, a4⟩ := h8 f
      rw [a1, a2, a3, a4]
      by_cases e : f = n
      · subst e
        rw [if_pos rfl, if_pos rfl, if_pos rfl, if_pos rfl, g0, g1, g2, g3]
        exact ⟨rfl, rfl, rfl, rfl⟩
      · rw [if_neg e, if_neg e, if_neg e, if_neg e, g4 _ (by omega), g4 _ (by omega), g4 _ (by omega), g4 _ (by omega)]
        exact k2 f (by omega)
    · obtain ⟨i1, i2, i3, i4, i5, i6, i7, i8, i9⟩ := hI
      unfold Im
      rw [ha.c 31, ha.p 38 15, ha.p 38 16, ha.p 38 17, ha.p 38 18, ha.p 38 19, ha.p 38 20, ha.c 32, ha.c 47, ha.p 38 0, ha.p 38 3, ha.p 38 13, h386]
      refine ⟨i1, i2, i3, i4, i5, i6, i7, i8, fun q => ?_⟩
      obtain ⟨j1, j2, j3, j4⟩ := i9 q
      exact ⟨j1, j2, ⟨j3.1, by have := j3.2; rw [f1] at this; omega⟩, j4⟩
theorem op_factTold {M : Mem} (h : Inv M) (x y : Int) : f_X10_factTold x y M = some (f_X9_factTold x y M) := by
  obtain ⟨⟨hL, ⟨f1, f2, f3⟩, hT, hX⟩, ⟨cL, ⟨k1, k2⟩, cT⟩, hR⟩ := h
  rw [f_X10_factTold, f_X9_factTold, in_w, in_w, k1, f1]
  have e0 : w32 ((fn M : Int) - 1) = (fn M : Int) - 1 := w32_id (by omega) (by omega)
  rw [e0]
  by_cases hx : f_X9_within x 0 ((fn M : Int) - 1) = 0
  · rw [if_pos hx, if_pos hx]
  rw [if_neg hx, if_neg hx]
  rw [wi_0] at hx
  obtain ⟨f, rfl⟩ : ∃ f : Nat, x = (f : Int) := ⟨x.toNat, by omega⟩
  obtain ⟨a1, a2, a3, a4⟩ := k2 f (by omega)
  have e1 : ∀ j : Nat, j < 4 → w32 (w32 (4 * (f : Int)) + (j : Int)) = ((4 * f + j : Nat) : Int) := by
    intro j hj
    rw [w32_id (z := 4 * (f : Int)) (by omega) (by omega), w32_id (by omega) (by omega)]; omega
  simp only [rd_n (show f < 12 by omega), a1, a2, a3, a4]
  by_cases hy : f_X9_within y 0 3 = 0
  · rw [if_pos hy]
    rw [wi_0] at hy
    rw [if_neg (by omega), if_neg (by omega), if_neg (by omega), if_neg (by omega)]
  · rw [if_neg hy]
    rw [wi_0] at hy
    obtain ⟨j, rfl⟩ : ∃ j : Nat, y = (j : Int) := ⟨y.toNat, by omega⟩
    rw [e1 j (by omega), if_pos ⟨by omega, by omega⟩, Int.toNat_natCast]
    match j, (show j < 4 by omega) with
    | 0, _ => rfl
    | 1, _ => rfl
    | 2, _ => rfl
    | 3, _ => rfl
    | j + 4, q => omega
theorem op_forget {M : Mem} (h : Inv M) : OK2 f_X9_forget f_X10_forget M := by
  obtain ⟨⟨hL, ⟨f1, f2, f3⟩, hT, hX⟩, ⟨cL, ⟨k1, k2⟩, cT⟩, hG, hP, hI, hS, hW, hC⟩ := id h
  obtain ⟨i1, i2, i3, i4, i5, i6, i7, i8, i9⟩ := id hI
  by_cases hn : fn M = 0
  · exact OK2.no h (by rw [f_X9_forget, if_neg (by rw [k1, f1]; omega)]) (by rw [f_X10_forget, if_pos (by rw [f1]; omega)])
  have hn74 : M 7 4 = (fn M : Int) := by rw [k1, f1]
  obtain ⟨n, hN⟩ : ∃ n, fn M = n + 1 := ⟨fn M - 1, by omega⟩
  rw [hN] at f1 f2 f3 k2 hn74
  have en : w32 (((n + 1 : Nat) : Int) - 1) = (n : Int) := by rw [w32_id (by omega) (by omega)]; omega
  have fin : ∀ (b : Int) (M2 : Mem), agp (dd [] [(0, 12), (7, 4), (38, 6), (38, 15), (31, 1)]) M M2 → M2 0 12 = 1 → M2 7 4 = (n : Int) → M2 38 6 = (n : Int) → M2 31 1 = b → M2 38 15 = b → (b = 0 ∨ b = 1 ∧ M 38 15 = 1 ∧ M 38 18 ≤ (n : Int)) → Inv M2 := by
    intro b M2 ha hz h74 h386 hb1 hb2 hb
    have en2 : fn M2 = n := by unfold fn; rw [h386]; omega
    have h31 : ∀ j : Nat, j ≠ 1 → M2 31 j = M 31 j := fun j hj => ha 31 j (by unfold dd; simp [hj])
    refine ⟨⟨(RLn_e (ha.p 38 0) (ha.c 39) (ha.c 40)).mpr hL, ⟨by rw [en2]; exact h386, by omega, fun f hf => ?_⟩, (TB_e (ha.c 43)).mpr hT, (RTx_e (ha.p 38 13) (ha.p 38 14) (ha.c 45) (ha.c 46)).mpr hX⟩,
      ⟨(CLn_e (ha.p 3 3) (ha.p 38 0) (ha.c 4) (ha.c 39) (ha.c 5) (ha.c 40) (ha.c 6) (ha.c 2)).mpr cL, ⟨by rw [h74, h386], fun f hf => ?_⟩, (CTx_e (ha.p 12 5) (ha.p 38 13) (ha.p 0 11) (ha.p 38 14) (ha.c 45) (ha.c 46) (ha.c 17) (ha.c 18)).mpr cT⟩,
      (Gs_e (ha.p 0 9) (ha.p 38 3) (ha.c 37) (ha.c 41) (ha.p 0 10) (ha.p 38 5)).mpr hG, (Tp_e (ha.p 13 3) (ha.p 38 10) (ha.c 14) (ha.c 44)).mpr hP, ?_, (Sh_e (ha.c 34) (ha.c 48) (ha.c 35) (ha.c 49) (ha.c 36) (ha.c 50)).mpr hS, (WD_e (ha.c 52)).mpr hW, fun q => by rw [hz] at q; exact absurd q (by decide)⟩
    · have h0 := f3 f (by omega)
      unfold RF1 fk fl fp fm at h0 ⊢
      rw [ha.c 42]
      exact h0
    · rw [ha.c 8, ha.c 9, ha.c 10, ha.c 11, ha.c 42]
      exact k2 f (by omega)
    · unfold Im
      rw [hb1, hb2, h31 2 (by decide), h31 3 (by decide), h31 4 (by decide), h31 5 (by decide), h31 6 (by decide), ha.p 38 16, ha.p 38 17, ha.p 38 18, ha.p 38 19, ha.p 38 20, ha.c 32, ha.c 47, ha.p 38 0, ha.p 38 3, ha.p 38 13, h386]
      refine ⟨rfl, by omega, i3, i4, i5, i6, i7, i8, fun q => ?_⟩
      rcases hb with hb | ⟨hb, hb3, hb4⟩
      · rw [hb] at q; exact absurd q (by decide)
      · obtain ⟨j1, j2, j3, j4⟩ := i9 hb3
        exact ⟨j1, j2, ⟨j3.1, hb4⟩, j4⟩
  by_cases hk : M 31 4 < M 7 4
  · have e9 : f_X9_forget M = some ((n : Int), mset (mset M 7 4 (n : Int)) 0 12 1) := by
      rw [f_X9_forget, if_pos (by rw [hn74]; omega), if_pos hk, hn74, en]; rfl
    generalize hM1 : mset (mset M 7 4 (n : Int)) 0 12 1 = M1 at e9
    have g6 : M1 38 6 = ((n + 1 : Nat) : Int) := by rw [← hM1]; exact f1
    have g15 : M1 38 15 = M 38 15 := by rw [← hM1]; rfl
    have g18 : M1 38 18 = M 38 18 := by rw [← hM1]; rfl
    rw [i5, hn74] at hk
    rcases i2 with hz | hz
    · refine ⟨(n : Int), M1, mset (mset M1 38 6 (n : Int)) 38 15 0, e9, ?_, fin 0 _ ?_ (by rw [← hM1]; rfl) (by rw [← hM1]; rfl) (by rfl) (by rw [← hM1]; exact i1.trans hz) (by rfl) (Or.inl rfl)⟩
      · rw [f_X10_forget, if_neg (by rw [g6]; omega), g6, en, mset_i (by decide), g15, if_pos hz]; rfl
      · rw [← hM1]; exact (((agp.refl.mset (by rfl)).mset (by rfl)).mset (by rfl)).mset (by rfl)
    · refine ⟨(n : Int), M1, mset (mset M1 38 6 (n : Int)) 38 15 1, e9, ?_, fin 1 _ ?_ (by rw [← hM1]; rfl) (by rw [← hM1]; rfl) (by rfl) (by rw [← hM1]; exact i1.trans hz) (by rfl) (Or.inr ⟨rfl, hz, by omega⟩)⟩
      · rw [f_X10_forget, if_neg (by rw [g6]; omega), g6, en, mset_i (show (15 : Nat) ≠ 6 by decide), g15, if_neg (by rw [hz]; decide), mset_at, mset_i (show (18 : Nat) ≠ 6 by decide), g18, if_neg (by omega)]; rfl
      · rw [← hM1]; exact (((agp.refl.mset (by rfl)).mset (by rfl)).mset (by rfl)).mset (by rfl)
  · have e9 : f_X9_forget M = some ((n : Int), mset (mset (mset M 31 1 0) 7 4 (n : Int)) 0 12 1) := by
      have e7 : mset M 31 1 0 7 4 = ((n + 1 : Nat) : Int) := hn74
      rw [f_X9_forget, if_pos (by rw [hn74]; omega), if_neg hk, e7, en]; rfl
    generalize hM1 : mset (mset (mset M 31 1 0) 7 4 (n : Int)) 0 12 1 = M1 at e9
    have g6 : M1 38 6 = ((n + 1 : Nat) : Int) := by rw [← hM1]; exact f1
    have g15 : M1 38 15 = M 38 15 := by rw [← hM1]; rfl
    have g18 : M1 38 18 = M 38 18 := by rw [← hM1]; rfl
    rw [i5, hn74] at hk
    refine ⟨(n : Int), M1, mset (mset M1 38 6 (n : Int)) 38 15 0, e9, ?_, fin 0 _ ?_ (by rw [← hM1]; rfl) (by rw [← hM1]; rfl) (by rfl) (by rw [← hM1]; rfl) (by rfl) (Or.inl rfl)⟩
    · by_cases hz : M 38 15 = 0
      · rw [f_X10_forget, if_neg (by rw [g6]; omega), g6, en, mset_i (show (15 : Nat) ≠ 6 by decide), g15, if_pos hz]; rfl
      · rw [f_X10_forget, if_neg (by rw [g6]; omega), g6, en, mset_i (show (15 : Nat) ≠ 6 by decide), g15, if_neg hz, mset_at, mset_i (show (18 : Nat) ≠ 6 by decide), g18, if_pos (by omega)]; rfl
    · rw [← hM1]; exact ((((agp.refl.mset (by rfl)).mset (by rfl)).mset (by rfl)).mset (by rfl)).mset (by rfl)
