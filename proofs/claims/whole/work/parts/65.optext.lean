theorem DT_r {t c j : Nat} (hj : DT t c j = false) : Drr t c j = false := by
  unfold DT at hj
  unfold Drr Dr
  simp only [Bool.or_eq_false_iff] at hj ⊢
  obtain ⟨⟨⟨⟨⟨⟨⟨⟨⟨a1, a2⟩, a3⟩, a4⟩, a5⟩, a6⟩, a7⟩, a8⟩, a9⟩, a10⟩ := hj
  refine ⟨⟨⟨⟨a10, ?_⟩, a8⟩, a9⟩, ?_⟩
  · cases q : (c == 38)
    · rfl
    · rw [q] at a7
      simp only [Bool.true_and, Bool.or_eq_false_iff] at a7 ⊢
      obtain ⟨⟨⟨⟨⟨⟨⟨⟨b1, b2⟩, b3⟩, b4⟩, b5⟩, b6⟩, b7⟩, b8⟩, b9⟩ := a7
      exact ⟨⟨⟨⟨⟨⟨b3, b4⟩, b5⟩, b6⟩, b7⟩, b8⟩, b9⟩
  · cases q : (c == 38)
    · rfl
    · rw [q] at a7
      simp only [Bool.true_and, Bool.or_eq_false_iff] at a7 ⊢
      exact a7.1.1.1.1.1.1.1
theorem DT_c {t c j : Nat} (hj : DT t c j = false) : Dcc t c j = false := by
  unfold DT at hj
  unfold Dcc Dc
  simp only [Bool.or_eq_false_iff] at hj ⊢
  obtain ⟨⟨⟨⟨⟨⟨⟨⟨⟨a1, a2⟩, a3⟩, a4⟩, a5⟩, a6⟩, a7⟩, a8⟩, a9⟩, a10⟩ := hj
  cases q : (c == 12)
  · exact ⟨⟨⟨⟨rfl, a5⟩, a6⟩, a4⟩, rfl⟩
  · rw [q] at a3
    simp only [Bool.true_and, Bool.or_eq_false_iff] at a3 ⊢
    exact ⟨⟨⟨⟨⟨a3.1.2, a3.2⟩, a5⟩, a6⟩, a4⟩, a3.1.1⟩
/-! texts: the call -/
theorem op_text {M : Mem} (h : Inv M) : OK2 f_X9_text f_X10_text M := by
  have h13 : M 38 13 = (tn M : Int) := h.1.2.2.2.1
  have h6 : tn M ≤ 6 := h.1.2.2.2.2.2.1
  have h125 : M 12 5 = (tn M : Int) := h.2.1.2.2.1.trans h13
  by_cases ht : tn M < 6
  · obtain ⟨A1, A', B', c2, f1, g2, f3, g4, ho⟩ := text_both h ht
    have fr : ∀ c j, DT (tn M) c j = false → B' c j = M c j := by
      intro c j hj
      generalize tn M = t at hj f1 g2
      have hj0 := hj
      have s1 : Drr t c j = false := DT_r hj0
      have s2 : Dcc t c j = false := DT_c hj0
      rw [g2 c j s1]
      have n1 : ¬ (c = 38 ∧ j = 34) := by rintro ⟨rfl, rfl⟩; exact absurd hj0 (by simp [DT])
      have n2 : ¬ (c = 38 ∧ j = 26) := by rintro ⟨rfl, rfl⟩; exact absurd hj0 (by simp [DT])
      have n3 : ¬ (c = 12 ∧ j = 7) := by rintro ⟨rfl, rfl⟩; exact absurd hj0 (by simp [DT])
      have n4 : ¬ (c = 12 ∧ j = 6) := by rintro ⟨rfl, rfl⟩; exact absurd hj0 (by simp [DT])
      have e1 : mset (mset A' 38 26 0) 38 34 0 c j = A' c j := by
        show (if c = 38 ∧ j = 34 then (0 : Int) else (if c = 38 ∧ j = 26 then 0 else A' c j)) = A' c j
        rw [if_neg n1, if_neg n2]
      have e2 : mset (mset M 12 6 0) 12 7 0 c j = M c j := by
        show (if c = 12 ∧ j = 7 then (0 : Int) else (if c = 12 ∧ j = 6 then 0 else M c j)) = M c j
        rw [if_neg n3, if_neg n4]
      rw [e1, f1 c j s2, c2 c (by intro z; have z := List.mem_cons.mp z; rcases z with rfl | z; exact absurd hj0 (by simp [DT]); have z := List.mem_singleton.mp z; subst z; exact absurd hj0 (by simp [DT])), e2]
    have low : ∀ c, c < 38 → B' c = A' c := fun c hc => funext fun j => by
      rw [g2 c j (by unfold Drr Dr; simp; omega), mset_c (by omega), mset_c (by omega)]
    have e13 : B' 13 3 = 0 := by rw [low 13 (by decide)]; exact f3
    rcases ho with ⟨pl, u1, u2, u3, u4, u5⟩ | ⟨u2, u3, u4, u5, u6⟩
    · exact ⟨_, A', B', u2, u3, inv_text (A' := A') h rfl ht fr (low 17 (by decide)) (low 18 (by decide)) (by rw [low 12 (by decide)]; exact u4) e13 g4 u5 (Or.inl rfl)⟩
    · exact ⟨_, A', B', u2, u3, inv_text (A' := A') h rfl ht fr (low 17 (by decide)) (low 18 (by decide)) (by rw [low 12 (by decide)]; exact u4) e13 g4 u5 (Or.inr ⟨rfl, u6⟩)⟩
  · refine OK2.no (r := -4) h ?_ ?_
    · unfold f_X9_text
      rw [if_neg (by rw [h125]; omega)]
    · rw [rtext_e, if_pos (by rw [h13]; omega)]
