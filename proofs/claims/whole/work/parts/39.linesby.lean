theorem mix_a {A B : Mem} {c : Nat} (h : c < 38) : mix A B c = A c := by
  funext j; unfold mix; rw [if_pos h]
theorem mix_self (A : Mem) : mix A A = A := by
  funext c j; unfold mix; split <;> rfl
theorem linesBy_go {s n : Nat} {at_ : Int} (hs : s < 4) (hn : n ≤ 10) (hat : r32 at_) : ∀ (d k came fu1 fu2 : Nat) (A B : Mem), k + d = n → d < fu1 → d < fu2 → came ≤ k → Inv (mix A B) →
    ∃ r A' B', f_X9_linesBy_L65 (s : Int) at_ (n : Int) fu1 (came : Int) (k : Int) A = some (r, A') ∧ (∀ c, 38 ≤ c → A' c = A c) ∧ (∀ B0 : Mem, (∀ c, 38 ≤ c → B0 c = B c) → ∃ B1, f_X10_linesBy_L64 (s : Int) at_ (n : Int) fu2 (came : Int) (k : Int) B0 = some (r, B1) ∧ (∀ c, c < 38 → B1 c = B0 c) ∧ ∀ c, 38 ≤ c → B1 c = B' c) ∧ Inv (mix A' B') := by
  unfold r32 at hat
  intro d
  induction d with
  | zero =>
    intro k came fu1 fu2 A B hk hf1 hf2 hc hI
    obtain ⟨m1, rfl⟩ : ∃ m, fu1 = m + 1 := ⟨fu1 - 1, by omega⟩
    obtain ⟨m2, rfl⟩ : ∃ m, fu2 = m + 1 := ⟨fu2 - 1, by omega⟩
    refine ⟨(came : Int), A, B, by rw [f_X9_linesBy_L65, if_neg (by omega)], fun _ _ => rfl, fun B0 hB => ⟨B0, by rw [f_X10_linesBy_L64, if_neg (by omega)], fun _ _ => rfl, hB⟩, hI⟩
  | succ d ih =>
    intro k came fu1 fu2 A B hk hf1 hf2 hc hI
    obtain ⟨m1, rfl⟩ : ∃ m, fu1 = m + 1 := ⟨fu1 - 1, by omega⟩
    obtain ⟨m2, rfl⟩ : ∃ m, fu2 = m + 1 := ⟨fu2 - 1, by omega⟩
    obtain ⟨hS1, hS2⟩ := hI.2.2.2.2.2.1
    obtain ⟨s1, s2, s3, s4, s5, s6⟩ := hS1 s hs
    rw [mix_a (by decide), mix_e (by decide)] at s1 s2
    rw [mix_e (by decide)] at s3 s4 s5 s6
    have hr : (0 : Int) ≤ (s : Int) ∧ (s : Int) < 4 := ⟨by omega, by omega⟩
    have ez : f_X4_sizeOf (s : Int) A = B 49 s := by rw [f_X4_sizeOf, rd_n hs, s2]
    have e2k : ∀ _ : Unit, w32 (2 * (k : Int)) = ((2 * k : Nat) : Int) := fun _ => by rw [w32_id (by omega) (by omega)]; omega
    have eb : ∀ _ : Unit, w32 (w32 (B 49 s - ((2 * k : Nat) : Int)) - 2) = B 49 s - 2 * (k : Int) - 2 := fun _ => by
      rw [w32_id (z := B 49 s - ((2 * k : Nat) : Int)) (by omega) (by omega), w32_id (by omega) (by omega)]; omega
    have ek1 : ∀ _ : Unit, w32 ((k : Int) + 1) = ((k + 1 : Nat) : Int) := fun _ => w32_n1 (by omega)
    by_cases hin : 0 ≤ at_ ∧ at_ ≤ B 49 s - 2 * (k : Int) - 2
    · obtain ⟨a, rfl⟩ : ∃ a : Nat, at_ = (a : Int) := ⟨at_.toNat, by omega⟩
      have hin1 : ¬ f_X9_within (a : Int) 0 (B 49 s - 2 * (k : Int) - 2) = 0 := by rw [wi_0]; omega
      have ei : ∀ _ : Unit, w32 ((a : Int) + ((2 * k : Nat) : Int)) = ((a + 2 * k : Nat) : Int) := fun _ => by rw [w32_id (by omega) (by omega)]; omega
      have ei1 : ∀ _ : Unit, w32 (((a + 2 * k : Nat) : Int) + 1) = ((a + 2 * k + 1 : Nat) : Int) := fun _ => w32_n1 (by omega)
      have r0 : f_X4_read (s : Int) ((a + 2 * k : Nat) : Int) A = B 50 (40 * s + (a + 2 * k)) := by
        have := hS2 (40 * s + (a + 2 * k)) (by omega)
        rw [mix_a (by decide), mix_e (by decide)] at this
        rw [f_X4_read, w40 hs (by omega), rd_n (by omega), this]
      have r1 : f_X4_read (s : Int) ((a + 2 * k + 1 : Nat) : Int) A = B 50 (40 * s + (a + 2 * k) + 1) := by
        have := hS2 (40 * s + (a + 2 * k) + 1) (by omega)
        rw [mix_a (by decide), mix_e (by decide)] at this
        rw [f_X4_read, w40 hs (by omega), rd_n (by omega), show 40 * s + (a + 2 * k + 1) = 40 * s + (a + 2 * k) + 1 by omega, this]
      have cstep : f_X9_linesBy_L65 (s : Int) (a : Int) (n : Int) (m1 + 1) (came : Int) (k : Int) A = (if f_X3_mayStand (B 50 (40 * s + (a + 2 * k))) (B 50 (40 * s + (a + 2 * k) + 1)) = 0 then f_X9_linesBy_L65 (s : Int) (a : Int) (n : Int) m1 (came : Int) ((k + 1 : Nat) : Int) A else if A 3 3 < 10 then ob (f_X9_addLine (B 50 (40 * s + (a + 2 * k))) (B 50 (40 * s + (a + 2 * k) + 1)) A) fun _ M309 => f_X9_linesBy_L65 (s : Int) (a : Int) (n : Int) m1 (w32 ((came : Int) + 1)) ((k + 1 : Nat) : Int) M309 else f_X9_linesBy_L65 (s : Int) (a : Int) (n : Int) m1 (came : Int) ((k + 1 : Nat) : Int) A) := by
        rw [f_X9_linesBy_L65, if_pos (by omega), ez, e2k (), eb (), if_neg hin1, ei (), ei1 (), r0, r1, ek1 ()]
      have rstep : ∀ B0 : Mem, (∀ c, 38 ≤ c → B0 c = B c) → f_X10_linesBy_L64 (s : Int) (a : Int) (n : Int) (m2 + 1) (came : Int) (k : Int) B0 = ob (f_X10_line (B 50 (40 * s + (a + 2 * k))) (B 50 (40 * s + (a + 2 * k) + 1)) B0) fun r563 M564 => if r563 < 0 then f_X10_linesBy_L64 (s : Int) (a : Int) (n : Int) m2 (w32 ((came : Int) + 0)) ((k + 1 : Nat) : Int) M564 else f_X10_linesBy_L64 (s : Int) (a : Int) (n : Int) m2 (w32 ((came : Int) + 1)) ((k + 1 : Nat) : Int) M564 := by
        intro B0 hB
        have ew : ∀ _ : Unit, w32 (((40 * s + (a + 2 * k) : Nat) : Int) + 1) = ((40 * s + (a + 2 * k) + 1 : Nat) : Int) := fun _ => w32_n1 (by omega)
        rw [f_X10_linesBy_L64, if_pos (by omega), if_neg (by omega), e2k (), ei (), if_neg (by omega), if_pos hr, Int.toNat_natCast, hB 49 (by decide), w32_id (z := B 49 s - 2) (by omega) (by omega), if_neg (by omega), w40' hs (by omega), if_pos ⟨by omega, by omega⟩, ew (), if_pos ⟨by omega, by omega⟩, Int.toNat_natCast, Int.toNat_natCast, hB 50 (by decide), ek1 ()]
      have ec0 : ∀ _ : Unit, w32 ((came : Int) + 0) = (came : Int) := fun _ => by rw [Int.add_zero, w32_id (by omega) (by omega)]
      have ec1 : ∀ _ : Unit, w32 ((came : Int) + 1) = ((came + 1 : Nat) : Int) := fun _ => w32_n1 (by omega)
      rw [cstep]
      generalize B 50 (40 * s + (a + 2 * k)) = x at rstep ⊢
      generalize B 50 (40 * s + (a + 2 * k) + 1) = c at rstep ⊢
      have l1 : B 38 0 = (ln (mix A B) : Int) := by have := hI.1.1.1; rwa [mix_e (by decide)] at this
      have l2 := hI.1.1.2.1
      have l3 : A 3 3 = (ln (mix A B) : Int) := by have := hI.2.1.1.1; rw [mix_a (by decide), mix_e (by decide)] at this; rw [this, l1]
      by_cases hm : mst x c
      · rw [if_neg (fun q => c_may.mp q hm)]
        by_cases hf : ln (mix A B) = 10
        · rw [if_neg (by omega)]
          obtain ⟨r, A', B', i1, i2, i3, i4⟩ := ih (k + 1) came m1 m2 A B (by omega) (by omega) (by omega) (by omega) hI
          refine ⟨r, A', B', i1, i2, fun B0 hB => ?_, i4⟩
          obtain ⟨B1, j1, j2, j3⟩ := i3 B0 hB
          refine ⟨B1, ?_, j2, j3⟩
          rw [rstep B0 hB]
          refine ob_I (r_line1 hm (by rw [hB 38 (by decide)]; omega)) ?_
          rw [if_pos (by decide), ec0 ()]; exact j1
        · rw [if_pos (by omega)]
          obtain ⟨kx, rfl⟩ : ∃ k : Nat, x = (k : Int) := ⟨x.toNat, by have := hm.1; omega⟩
          have hc4 : ∀ i : Nat, i < 4320 → A 2 i = (tb i : Int) := fun i hi => by have := hI.2.1.1.2.2.2 i hi; rwa [mix_a (by decide)] at this
          obtain ⟨M1, e1, a1, a2, a3, a4, a5, a6, a7⟩ := c_add (A := A) (n := ln (mix A B)) (sg := kx) (cost := c) hc4 l3 (by omega) (by have := hm.2.1; omega)
          generalize hN : ln (mix A B) = N at *
          have hI2 : Inv (mix M1 (mset (mset (mset B 39 N (kx : Int)) 40 N c) 38 0 ((N + 1 : Nat) : Int))) := by
            refine line_inv (n := N) hI hm hN (by omega) ?_ ?_ ?_ ?_ ?_ ?_ ?_ ?_ ?_ ?_
            · intro d j hd
              by_cases hd2 : d < 38
              · rw [mix_a hd2, mix_a hd2]
                exact a1.dm (L2 := [4, 5, 6, 39, 40]) (P2 := [(3, 3), (0, 12), (38, 0)]) (by decide) (by decide) d j hd
              · rw [mix_e (by omega), mix_e (by omega)]
                have hag : agp (dd [4, 5, 6, 39, 40] [(3, 3), (0, 12), (38, 0)]) B (mset (mset (mset B 39 N (kx : Int)) 40 N c) 38 0 ((N + 1 : Nat) : Int)) := ((agp.refl.mset (by rfl)).mset (by rfl)).mset (by rfl)
                exact hag d j hd
            · rw [mix_a (by decide)]; exact a2
            · rw [mix_a (by decide)]; exact a3
            · rw [mix_e (by decide), mset_at]
            · intro j; rw [mix_a (by decide), mix_a (by decide)]; exact a4 j
            · intro j; rw [mix_a (by decide), mix_a (by decide)]; exact a5 j
            · intro j; rw [mix_e (by decide), mix_e (by decide), mset_c (by decide), mset_c (by decide), mset_if]
            · intro j; rw [mix_e (by decide), mix_e (by decide), mset_c (by decide), mset_if]; rfl
            · intro t ht; rw [mix_a (by decide), Int.toNat_natCast]; exact a6 t ht
            · intro j hj; rw [mix_a (by decide), mix_a (by decide)]; exact a7 j hj
          obtain ⟨r, A', B', i1, i2, i3, i4⟩ := ih (k + 1) (came + 1) m1 m2 M1 _ (by omega) (by omega) (by omega) (by omega) hI2
          refine ⟨r, A', B', ?_, fun d hd => ?_, fun B0 hB => ?_, i4⟩
          · rw [ec1 ()]; exact ob_I e1 i1
          · rw [i2 d hd]
            funext j
            exact a1 d j (by unfold dd; simp; omega)
          · have e2 := r_line2 (B := B0) (n := N) hm (by rw [hB 38 (by decide)]; exact l1) (by omega)
            obtain ⟨B1, j1, j2, j3⟩ := i3 (mset (mset (mset B0 39 N (kx : Int)) 40 N c) 38 0 ((N + 1 : Nat) : Int)) (fun d hd => by
              funext j
              unfold mset
              rw [hB d hd])
            refine ⟨B1, ?_, fun d hd => ?_, j3⟩
            · rw [rstep B0 hB]
              refine ob_I e2 ?_
              rw [if_neg (by omega), ec1 ()]; exact j1
            · rw [j2 d hd, mset_c (by omega), mset_c (by omega), mset_c (by omega)]
      · rw [if_pos (c_may.mpr hm)]
        obtain ⟨r, A', B', i1, i2, i3, i4⟩ := ih (k + 1) came m1 m2 A B (by omega) (by omega) (by omega) (by omega) hI
        refine ⟨r, A', B', i1, i2, fun B0 hB => ?_, i4⟩
        obtain ⟨B1, j1, j2, j3⟩ := i3 B0 hB
        refine ⟨B1, ?_, j2, j3⟩
        rw [rstep B0 hB]
        refine ob_I (r_line0 hm) ?_
        rw [if_pos (by decide), ec0 ()]; exact j1
    · refine ⟨-12, A, B, ?_, fun _ _ => rfl, fun B0 hB => ⟨B0, ?_, fun _ _ => rfl, hB⟩, hI⟩
      · rw [f_X9_linesBy_L65, if_pos (by omega), ez, e2k (), eb (), if_pos (by rw [wi_0]; exact hin)]
      · rw [f_X10_linesBy_L64, if_pos (by omega)]
        by_cases h0 : at_ < 0
        · rw [if_pos h0]
        rw [if_neg h0, e2k ()]
        by_cases h1 : w32 (at_ + ((2 * k : Nat) : Int)) < at_
        · rw [if_pos h1]
        rw [if_neg h1, if_pos hr, Int.toNat_natCast, hB 49 (by decide), w32_id (z := B 49 s - 2) (by omega) (by omega), if_pos]
        unfold w32 at h1 ⊢
        omega
theorem op_linesBy {M : Mem} (h : Inv M) (x y i n : Int) (hi : r32 i) : OK2 (f_X9_linesBy x y i n) (f_X10_linesBy x y i n) M := by
  have hb2 : ∀ x : Int, f_X9_isSheet x = f_X9_within x 0 3 := fun _ => rfl
  by_cases h1 : f_X9_within x 0 3 = 0
  · exact OK2.no h (by rw [f_X9_linesBy, hb2, if_pos h1]) (by rw [f_X10_linesBy, in_w, if_pos h1])
  by_cases h2 : f_X9_within y 0 2 = 0
  · exact OK2.no h (by rw [f_X9_linesBy, hb2, if_neg h1, if_pos h2]) (by rw [f_X10_linesBy, in_w, if_neg h1, in_w, if_pos h2])
  by_cases h3 : f_X9_within n 0 10 = 0
  · exact OK2.no h (by rw [f_X9_linesBy, hb2, if_neg h1, if_neg h2, if_pos h3]) (by rw [f_X10_linesBy, in_w, if_neg h1, in_w, if_neg h2, in_w, if_pos h3])
  obtain ⟨s, rfl, hs⟩ := ish h1
  have hS := h.2.2.2.2.2.1
  have hr : (0 : Int) ≤ (s : Int) ∧ (s : Int) < 4 := ⟨by omega, by omega⟩
  obtain ⟨s1, s2, s3, s4, s5, s6⟩ := hS.1 s hs
  by_cases h4 : M 48 s = -1
  · exact OK2.no h (by rw [f_X9_linesBy, hb2, if_neg h1, if_neg h2, if_neg h3, c_missing hS hs, if_pos h4, if_neg (by decide)]) (by rw [f_X10_linesBy, in_w, if_neg h1, in_w, if_neg h2, in_w, if_neg h3, if_pos hr, Int.toNat_natCast, if_pos h4])
  by_cases h5 : M 48 s = y
  · have h3' := h3
    rw [wi_0] at h3'
    obtain ⟨m, rfl⟩ : ∃ k : Nat, n = (k : Int) := ⟨n.toNat, by omega⟩
    obtain ⟨r, A', B', i1, i2, i3, i4⟩ := linesBy_go (s := s) (n := m) (at_ := i) hs (by omega) hi m 0 0 100000 100000 M M (by omega) (by omega) (by omega) (by omega) (by rw [mix_self]; exact h)
    obtain ⟨B1, j1, j2, j3⟩ := i3 A' i2
    refine ⟨r, A', B1, ?_, ?_, ?_⟩
    · rw [f_X9_linesBy, hb2, if_neg h1, if_neg h2, if_neg h3, c_missing hS hs, if_neg h4, if_pos rfl, f_X4_sortOf, rd_n hs, s1, if_pos h5]; exact i1
    · rw [f_X10_linesBy, in_w, if_neg h1, in_w, if_neg h2, in_w, if_neg h3, if_pos hr, Int.toNat_natCast, i2 48 (by decide), if_neg h4, if_pos hr, if_pos h5]; exact j1
    · have e : B1 = mix A' B' := by
        funext c
        by_cases hc : c < 38
        · rw [mix_a hc, j2 c hc]
        · rw [mix_e (by omega), j3 c (by omega)]
      rw [e]; exact i4
  · exact OK2.no h (by rw [f_X9_linesBy, hb2, if_neg h1, if_neg h2, if_neg h3, c_missing hS hs, if_neg h4, if_pos rfl, f_X4_sortOf, rd_n hs, s1, if_neg h5]) (by rw [f_X10_linesBy, in_w, if_neg h1, in_w, if_neg h2, in_w, if_neg h3, if_pos hr, Int.toNat_natCast, if_neg h4, if_pos hr, if_neg h5])
