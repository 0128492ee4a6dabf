theorem op_copy {M : Mem} (h : Inv M) (x i y j n : Int) (hi : r32 i) (hj : r32 j) (hn : r32 n) : OK2 (f_X9_copy x i y j n) (f_X10_copy x i y j n) M := by
  have hb2 : ∀ x : Int, f_X9_isSheet x = f_X9_within x 0 3 := fun _ => rfl
  by_cases h1 : f_X9_within x 0 3 = 0
  · exact OK2.no h (by rw [f_X9_copy, hb2, if_pos h1]) (by rw [f_X10_copy, in_w, if_pos h1])
  by_cases h2 : f_X9_within y 0 3 = 0
  · exact OK2.no h (by rw [f_X9_copy, hb2, if_neg h1, hb2, if_pos h2]) (by rw [f_X10_copy, in_w, if_neg h1, in_w, if_pos h2])
  obtain ⟨s, rfl, hs⟩ := ish h1
  obtain ⟨t, rfl, ht⟩ := ish h2
  have hS := h.2.2.2.2.2.1
  have hr : (0 : Int) ≤ (s : Int) ∧ (s : Int) < 4 := ⟨by omega, by omega⟩
  have hr2 : (0 : Int) ≤ (t : Int) ∧ (t : Int) < 4 := ⟨by omega, by omega⟩
  obtain ⟨s1, s2, s3, s4, s5, s6⟩ := hS.1 s hs
  obtain ⟨t1, t2, t3, t4, t5, t6⟩ := hS.1 t ht
  unfold r32 at hi hj hn
  by_cases h3 : M 48 s = -1
  · exact OK2.no h (by rw [f_X9_copy, hb2, if_neg h1, hb2, if_neg h2, c_missing hS hs, if_pos h3, if_neg (by decide)]) (by rw [f_X10_copy, in_w, if_neg h1, in_w, if_neg h2, if_pos hr, Int.toNat_natCast, if_pos h3])
  by_cases h4 : M 48 t = -1
  · exact OK2.no h (by rw [f_X9_copy, hb2, if_neg h1, hb2, if_neg h2, c_missing hS hs, if_neg h3, if_pos rfl, c_missing hS ht, if_pos h4, if_neg (by decide)]) (by rw [f_X10_copy, in_w, if_neg h1, in_w, if_neg h2, if_pos hr, Int.toNat_natCast, if_neg h3, if_pos hr2, Int.toNat_natCast, if_pos h4])
  have eA := c_copyE (i := i) (j := j) (n := n) hS hs ht h1 h2 h3 h4
  have eB := fun (M1 : Mem) (q1 : M1 48 = M 48) (q2 : M1 49 = M 49) => r_copyE (i := i) (j := j) (n := n) hS hs ht h1 h2 h3 h4 q1 q2
  clear h1 h2 h3 h4
  by_cases h5 : M 48 s = M 48 t
  · rw [if_pos h5] at eA
    by_cases h6 : n < 0
    · exact OK2.no h (by rw [eA, if_pos h6]) (by rw [eB M rfl rfl, if_pos h5, if_pos h6])
    rw [if_neg h6, w32_id (by omega) (by omega), w32_id (by omega) (by omega)] at eA
    by_cases h7 : 0 ≤ i ∧ i ≤ M 49 s - n ∧ 0 ≤ j ∧ j ≤ M 49 t - n
    · obtain ⟨a, rfl⟩ : ∃ k : Nat, i = (k : Int) := ⟨i.toNat, by omega⟩
      obtain ⟨b, rfl⟩ : ∃ k : Nat, j = (k : Int) := ⟨j.toNat, by omega⟩
      obtain ⟨m, rfl⟩ : ∃ k : Nat, n = (k : Int) := ⟨n.toNat, by omega⟩
      have ba : a ≤ 40 := by omega
      have bb : b ≤ 40 := by omega
      have b1 : 40 * s + a + m ≤ 160 := by omega
      have b2 : 40 * t + b + m ≤ 160 := by omega
      have b3 : m ≤ 40 := by omega
      have emv : f_X4_move (s : Int) (a : Int) (t : Int) (b : Int) (m : Int) M = some (0, mcpy M 36 36 (40 * s + a) (40 * t + b) m) := by
        rw [f_X4_move, if_neg h6, w40 hs ba, w40 ht bb, w32_id (z := 160 - (m : Int)) (by omega) (by omega), if_neg (by rw [wi_0]; omega), if_neg (by rw [wi_0]; omega), if_pos ⟨by omega, by omega, by omega, by omega, by omega⟩, Int.toNat_natCast, Int.toNat_natCast, Int.toNat_natCast]
      obtain ⟨M2, e2, d1, d2⟩ := r_copyL (B := mcpy M 36 36 (40 * s + a) (40 * t + b) m) (n := m) (a := 40 * s + a) (b := 40 * t + b) b1 b2
      refine ⟨(m : Int), mcpy M 36 36 (40 * s + a) (40 * t + b) m, M2, ?_, ?_, ?_⟩
      · rw [eA, if_neg (by rw [wi_0]; omega), if_neg (by rw [wi_0]; omega)]
        exact ob_I emv rfl
      · rw [eB (mcpy M 36 36 (40 * s + a) (40 * t + b) m) (mcpy_c (show (48 : Nat) ≠ 36 by decide)) (mcpy_c (show (49 : Nat) ≠ 36 by decide)), if_pos h5, if_neg h6, if_neg (by omega), if_neg (by omega), if_neg (by omega), if_neg (by omega), w32_id (by omega) (by omega), if_neg (by omega), w32_id (by omega) (by omega), if_neg (by omega), w40' hs ba, w40' ht bb]
        exact e2
      · refine Sh.inv h ?_ ⟨fun q hq => ?_, fun q hq => ?_⟩
        · exact agp.x (agp.x agp.refl (agx.refl.mcpy (L := [36]) (by decide)) (by intro c hc j; simp at hc; subst hc; rfl)) d1 (by intro c hc j; simp at hc; subst hc; rfl)
        · rw [d1 34 (by decide), d1 48 (by decide), d1 35 (by decide), d1 49 (by decide)]
          exact hS.1 q hq
        · rw [d1 36 (by decide), d2 q]
          have e50 : mcpy M 36 36 (40 * s + a) (40 * t + b) m 50 = M 50 := mcpy_c (by decide)
          rw [e50]
          unfold mcpy
          rw [mup_at]
          by_cases hq2 : 40 * t + b ≤ q ∧ q < 40 * t + b + m
          · rw [if_pos hq2, if_pos hq2]; exact hS.2 _ (by omega)
          · rw [if_neg hq2, if_neg hq2]; exact hS.2 q hq
    · have e9 : f_X9_copy (s : Int) i (t : Int) j n M = some (-12, M) := by
        rw [eA]
        by_cases q1 : f_X9_within i 0 (M 49 s - n) = 0
        · rw [if_pos q1]
        · rw [if_neg q1, if_pos]
          rw [wi_0] at q1 ⊢
          omega
      refine OK2.no h e9 ?_
      rw [eB M rfl rfl, if_pos h5, if_neg h6]
      by_cases q1 : i < 0
      · rw [if_pos q1]
      rw [if_neg q1]
      by_cases q2 : j < 0
      · rw [if_pos q2]
      rw [if_neg q2]
      by_cases q3 : M 49 s < i
      · rw [if_pos q3]
      rw [if_neg q3]
      by_cases q4 : M 49 t < j
      · rw [if_pos q4]
      rw [if_neg q4, w32_id (by omega) (by omega), w32_id (by omega) (by omega)]
      by_cases q5 : M 49 s - i < n
      · rw [if_pos q5]
      rw [if_neg q5, if_pos (by omega)]
  · exact OK2.no h (by rw [eA, if_neg h5]) (by rw [eB M rfl rfl, if_neg h5])
