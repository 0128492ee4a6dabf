/-! texts: the call keeps the invariant -/
def DT (t c j : Nat) : Bool := (c == 15) || (c == 16) || (c == 12 && (j == 5 || j == 6 || j == 7)) || (c == 13 && j == 3) || (c == 17 && decide (160 * t ≤ j)) || (c == 18 && decide (3 * t ≤ j)) || (c == 38 && (j == 10 || j == 13 || j == 26 || j == 27 || j == 28 || j == 29 || j == 32 || j == 33 || j == 34)) || (c == 45 && decide (200 * t ≤ j)) || (c == 46 && decide (4 * t ≤ j)) || (c == 53)
theorem snd_TX {A B : Mem} {t : Nat} (ht : t < 6) (h : SND A B t) : TX B t := by
  obtain ⟨w0, w1, w2, d0, d1, d2, hl, a0, a1, a2, b0, b1, b2, b3, c1, c2⟩ := h
  have e0 : txb B t 0 = 0 := by unfold txb; rw [Nat.add_zero, b0]; rfl
  have e1 : txb B t 1 = w0.length := by unfold txb; rw [b1]; rfl
  have e2 : txb B t 2 = (w1 ++ w0).length := by unfold txb; rw [b2]; rfl
  have e3 : txb B t 3 = (w2 ++ (w1 ++ w0)).length := by unfold txb; rw [b3]; rfl
  have l1 : (w1 ++ w0).length = w1.length + w0.length := List.length_append
  have l2 : (w2 ++ (w1 ++ w0)).length = w2.length + (w1 ++ w0).length := List.length_append
  intro p hp
  have : p = 0 ∨ p = 1 ∨ p = 2 := by omega
  rcases this with rfl | rfl | rfl
  · rw [e0, e1]
    refine ⟨b0, b1, by omega, by omega, ?_⟩
    have := wfc_of (txc B t) w0.reverse 0 0 d0 (fun j hj => by
      rw [List.length_reverse] at hj
      unfold txc
      rw [Nat.zero_add, c2 j (by omega), nth_low _ _ _ (by omega), nth_low _ _ _ hj]; rfl)
    rw [List.length_reverse] at this
    exact this
  · rw [e1, e2]
    refine ⟨b1, b2, by omega, by omega, ?_⟩
    have := wfc_of (txc B t) w1.reverse w0.length 0 d1 (fun j hj => by
      rw [List.length_reverse] at hj
      unfold txc
      rw [c2 _ (by omega), nth_low _ _ _ (by omega), nth_app _ _ _ hj])
    rw [List.length_reverse] at this
    rw [show (w1 ++ w0).length - w0.length = w1.length by omega]
    exact this
  · rw [e2, e3]
    refine ⟨b2, b3, by omega, by omega, ?_⟩
    have := wfc_of (txc B t) w2.reverse (w1 ++ w0).length 0 d2 (fun j hj => by
      rw [List.length_reverse] at hj
      unfold txc
      rw [c2 _ (by omega), nth_app _ _ _ hj])
    rw [List.length_reverse] at this
    rw [show (w2 ++ (w1 ++ w0)).length - (w1 ++ w0).length = w2.length by omega]
    exact this
theorem snd_CX {A B : Mem} {t : Nat} (e18 : B 18 = A 18) (e17 : B 17 = A 17) (h : SND A B t) : CX B t := by
  obtain ⟨w0, w1, w2, d0, d1, d2, hl, a0, a1, a2, b0, b1, b2, b3, c1, c2⟩ := h
  have e3 : txb B t 3 = (w2 ++ (w1 ++ w0)).length := by unfold txb; rw [b3]; rfl
  refine ⟨fun p hp => ?_, b0, fun i hi => ?_⟩
  · have : p = 0 ∨ p = 1 ∨ p = 2 := by omega
    rcases this with rfl | rfl | rfl
    · rw [e18]; exact a0.trans b1.symm
    · rw [e18]; exact a1.trans b2.symm
    · rw [e18]; exact a2.trans b3.symm
  · rw [e3] at hi
    rw [e17, c2 i hi]; exact c1 i hi
theorem inv_text {M A' B' : Mem} {t t' : Nat} (h : Inv M) (et : tn M = t) (ht : t < 6) (fr : ∀ c j, DT t c j = false → B' c j = M c j) (e17 : B' 17 = A' 17) (e18 : B' 18 = A' 18) (e12 : B' 12 5 = (t' : Int)) (e13 : B' 13 3 = 0) (e10 : B' 38 10 = 0) (e38 : B' 38 13 = (t' : Int)) (ho : t' = t ∨ t' = t + 1 ∧ SND A' B' t) : Inv B' := by
  obtain ⟨⟨h1, h2, h3, h4⟩, ⟨k1, k2, k3⟩, i3, i4, i5, i6, i7, i8⟩ := h
  have fc : ∀ c, (∀ j, DT t c j = false) → B' c = M c := fun c hc => funext fun j => fr c j (hc j)
  have f45 : ∀ j, j < 200 * t → B' 45 j = M 45 j := fun j hj => fr 45 j (by unfold DT; simp; omega)
  have f46 : ∀ j, j < 4 * t → B' 46 j = M 46 j := fun j hj => fr 46 j (by unfold DT; simp; omega)
  have f17 : ∀ j, j < 160 * t → B' 17 j = M 17 j := fun j hj => fr 17 j (by unfold DT; simp; omega)
  have f18 : ∀ j, j < 3 * t → B' 18 j = M 18 j := fun j hj => fr 18 j (by unfold DT; simp; omega)
  obtain ⟨r1, r2, r3, r4, r5, r6⟩ := h4
  rw [et] at r1 r2 r5 r6
  have etn : tn B' = t' := by unfold tn; rw [e38]; rfl
  have e14 : B' 38 14 = M 38 14 := fr 38 14 (by rfl)
  have erl : rl B' = rl M := by unfold rl; rw [e14]
  have tx : ∀ u, u < t' → TX B' u ∧ CX B' u := by
    intro u hu
    by_cases q : u < t
    · exact ⟨TX_k ht f45 f46 q (r6 u q), CX_k ht f17 f18 f45 f46 q (r6 u q) (k3.2.2 u (by rw [et]; exact q))⟩
    · rcases ho with z | ⟨z, sn⟩
      · omega
      · have : u = t := by omega
        rw [this]; exact ⟨snd_TX ht sn, snd_CX e18 e17 sn⟩
  refine ⟨⟨?_, ?_, ?_, ?_⟩, ⟨?_, ?_, ?_⟩, ?_, ?_, ?_, ?_, ?_, ?_⟩
  · rw [RLn_e (M := M) (fr 38 0 (by rfl)) (fc 39 (fun j => by rfl)) (fc 40 (fun j => by rfl))]; exact h1
  · rw [RFa_e (M := M) (fr 38 6 (by rfl)) (fc 42 (fun j => by rfl))]; exact h2
  · rw [TB_e (M := M) (fc 43 (fun j => by rfl))]; exact h3
  · refine ⟨by rw [etn]; exact e38, by rw [etn]; omega, by rw [etn]; omega, by rw [erl, e14]; exact r4, by rw [erl, etn]; omega, fun u hu => (tx u (by rw [etn] at hu; exact hu)).1⟩
  · rw [CLn_e (M := M) (fr 3 3 (by rfl)) (fr 38 0 (by rfl)) (fc 4 (fun j => by rfl)) (fc 39 (fun j => by rfl)) (fc 5 (fun j => by rfl)) (fc 40 (fun j => by rfl)) (fc 6 (fun j => by rfl)) (fc 2 (fun j => by rfl))]; exact k1
  · rw [CFa_e (M := M) (fr 7 4 (by rfl)) (fr 38 6 (by rfl)) (fc 8 (fun j => by rfl)) (fc 9 (fun j => by rfl)) (fc 10 (fun j => by rfl)) (fc 11 (fun j => by rfl)) (fc 42 (fun j => by rfl))]; exact k2
  · exact ⟨e12.trans e38.symm, by rw [fr 0 11 (by rfl), e14]; exact k3.2.1, fun u hu => (tx u (by rw [etn] at hu; exact hu)).2⟩
  · rw [Gs_e (M := M) (fr 0 9 (by rfl)) (fr 38 3 (by rfl)) (fc 37 (fun j => by rfl)) (fc 41 (fun j => by rfl)) (fr 0 10 (by rfl)) (fr 38 5 (by rfl))]; exact i3
  · refine ⟨e13.trans e10.symm, by rw [e10]; decide, by rw [e10]; decide, fun i hi => ?_⟩
    rw [fc 14 (fun j => by rfl), fc 44 (fun j => by rfl)]; exact i4.2.2.2 i hi
  · unfold Im at i5 ⊢
    rw [fc 31 (fun j => by rfl), fc 32 (fun j => by rfl), fc 47 (fun j => by rfl), fr 38 15 (by rfl), fr 38 16 (by rfl), fr 38 17 (by rfl), fr 38 18 (by rfl), fr 38 19 (by rfl), fr 38 20 (by rfl), fr 38 0 (by rfl), fr 38 3 (by rfl), fr 38 6 (by rfl), e38]
    rw [r1] at i5
    obtain ⟨y1, y2, y3, y4, y5, y6, y7, y8, y9⟩ := i5
    refine ⟨y1, y2, y3, y4, y5, y6, y7, y8, fun z => ?_⟩
    obtain ⟨z1, z2, z3, z4, z5, z6⟩ := y9 z
    exact ⟨z1, z2, z3, z4, ⟨z5.1, by omega⟩, z6⟩
  · rw [Sh_e (M := M) (fc 34 (fun j => by rfl)) (fc 48 (fun j => by rfl)) (fc 35 (fun j => by rfl)) (fc 49 (fun j => by rfl)) (fc 36 (fun j => by rfl)) (fc 50 (fun j => by rfl))]; exact i6
  · rw [WD_e (M := M) (fc 52 (fun j => by rfl))]; exact i7
  · intro z
    rw [CH_k (M := M) (fun a b c d e => sy_k ht f45 f46 r5 (r6 _ r5) (by decide) a b c d e) (fr 38 0 (by rfl)) (fr 38 6 (by rfl)) e14 (fc 39 (fun j => by rfl)) (fc 40 (fun j => by rfl)) (fc 42 (fun j => by rfl)) (fc 21 (fun j => by rfl)) (fc 22 (fun j => by rfl)) (fc 23 (fun j => by rfl)) (fc 24 (fun j => by rfl))]
    exact i8 (by rw [← fr 0 12 (by rfl)]; exact z)
