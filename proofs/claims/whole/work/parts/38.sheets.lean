/-! sheets -/
theorem Sh.inv {M M' : Mem} (h : Inv M) (ha : agp (dd [34, 35, 36, 48, 49, 50] []) M M') (hS' : Sh M') : Inv M' := by
  obtain ⟨hR, hA, hG, hP, hI, hS, hW, hC⟩ := h
  exact ⟨⟨(RLn_e (ha.p 38 0) (ha.c 39) (ha.c 40)).mpr hR.1, (RFa_e (ha.p 38 6) (ha.c 42)).mpr hR.2.1, (TB_e (ha.c 43)).mpr hR.2.2.1, (RTx_e (ha.p 38 13) (ha.p 38 14) (ha.c 45) (ha.c 46)).mpr hR.2.2.2⟩,
        ⟨(CLn_e (ha.p 3 3) (ha.p 38 0) (ha.c 4) (ha.c 39) (ha.c 5) (ha.c 40) (ha.c 6) (ha.c 2)).mpr hA.1, (CFa_e (ha.p 7 4) (ha.p 38 6) (ha.c 8) (ha.c 9) (ha.c 10) (ha.c 11) (ha.c 42)).mpr hA.2.1, (CTx_e (ha.p 12 5) (ha.p 38 13) (ha.p 0 11) (ha.p 38 14) (ha.c 45) (ha.c 46) (ha.c 17) (ha.c 18)).mpr hA.2.2⟩,
        (Gs_e (ha.p 0 9) (ha.p 38 3) (ha.c 37) (ha.c 41) (ha.p 0 10) (ha.p 38 5)).mpr hG, (Tp_e (ha.p 13 3) (ha.p 38 10) (ha.c 14) (ha.c 44)).mpr hP, (Im_e (ha.c 31) (ha.p 38 15) (ha.p 38 16) (ha.p 38 17) (ha.p 38 18) (ha.p 38 19) (ha.p 38 20) (ha.c 32) (ha.c 47) (ha.p 38 0) (ha.p 38 3) (ha.p 38 6) (ha.p 38 13)).mpr hI, hS', (WD_e (ha.c 52)).mpr hW, fun q => (CH_e (M := M) (ha.p 38 0) (ha.p 38 6) (ha.p 38 14) (ha.c 39) (ha.c 40) (ha.c 42) (ha.c 45) (ha.c 46) (ha.c 21) (ha.c 22) (ha.c 23) (ha.c 24)).mpr (hC (by rw [← ha.p 0 12]; exact q))⟩
theorem w40 {s i : Nat} (hs : s < 4) (hi : i ≤ 40) : w32 (w32 ((s : Int) * 40) + (i : Int)) = ((40 * s + i : Nat) : Int) := by
  rw [w32_id (z := (s : Int) * 40) (by omega) (by omega), w32_id (by omega) (by omega)]; omega
theorem w40' {s i : Nat} (hs : s < 4) (hi : i ≤ 40) : w32 (w32 (40 * (s : Int)) + (i : Int)) = ((40 * s + i : Nat) : Int) := by
  rw [w32_id (z := 40 * (s : Int)) (by omega) (by omega), w32_id (by omega) (by omega)]; omega
theorem mset_if {M : Mem} {c i : Nat} {v : Int} : ∀ j : Nat, mset M c i v c j = if j = i then v else M c j := fun j => by
  by_cases e : j = i
  · subst e; rw [mset_at, if_pos rfl]
  · rw [mset_i e, if_neg e]
theorem c_become {A : Mem} {s : Nat} {sort n : Int} (hs : s < 4) : ∃ A', f_X4_become (s : Int) sort n A = some (0, A') ∧ agx [34, 35, 36] A A' ∧ (∀ j : Nat, A' 34 j = if j = s then sort else A 34 j) ∧ (∀ j : Nat, A' 35 j = if j = s then n else A 35 j) ∧ ∀ j : Nat, A' 36 j = if 40 * s ≤ j ∧ j < 40 * s + 40 then 0 else A 36 j := by
  obtain ⟨k, A', e, g1, g2⟩ := loopN (N := 40) (F := fun k i (M2 : Mem) => f_X4_become_L21 (s : Int) k (i : Int) M2) (P := fun i M2 => agx [36] (mset (mset A 34 s sort) 35 s n) M2 ∧ ∀ j : Nat, M2 36 j = if 40 * s ≤ j ∧ j < 40 * s + i then 0 else A 36 j) (by
    intro k i M2 hi hP
    obtain ⟨p1, p2⟩ := hP
    refine ⟨mset M2 36 (40 * s + i) 0, ?_, p1.mset (by decide), fun j => ?_⟩
    · show f_X4_become_L21 (s : Int) (k + 1) (i : Int) M2 = f_X4_become_L21 (s : Int) k ((i + 1 : Nat) : Int) _
      rw [f_X4_become_L21, if_pos (by omega), w40 hs (by omega), wr_n (by omega), w32_n1 (by omega)]
    · rw [mset_if, p2]
      by_cases e : j = 40 * s + i
      · rw [if_pos e, if_pos ⟨by omega, by omega⟩]
      · rw [if_neg e]
        by_cases h1 : 40 * s ≤ j ∧ j < 40 * s + i
        · rw [if_pos h1, if_pos ⟨h1.1, by omega⟩]
        · rw [if_neg h1, if_neg (by omega)]) 40 100000 0 (mset (mset A 34 s sort) 35 s n) (by omega) (by omega) ⟨agx.refl, fun j => by rw [if_neg (by omega)]; rfl⟩
  have e : f_X4_become_L21 (s : Int) 100000 0 (mset (mset A 34 s sort) 35 s n) = f_X4_become_L21 (s : Int) (k + 1) ((40 : Nat) : Int) A' := e
  refine ⟨A', ?_, (((agx.refl.mset (by decide)).mset (by decide)).trans (g1.mono (by decide))), fun j => ?_, fun j => ?_, g2⟩
  · rw [f_X4_become, wr_n hs, wr_n hs, e, f_X4_become_L21, if_neg (by decide)]
  · rw [g1 34 (by decide), mset_c (by decide), mset_if]
  · rw [g1 35 (by decide), mset_if]; rfl
theorem r_sheetL {B : Mem} {s : Nat} (hs : s < 4) : ∃ B', f_X10_sheet_L70 (s : Int) 100000 0 B = some (1, B') ∧ agx [50] B B' ∧ ∀ j : Nat, B' 50 j = if 40 * s ≤ j ∧ j < 40 * s + 40 then 0 else B 50 j := by
  obtain ⟨k, A', e, g1, g2⟩ := loopN (N := 40) (F := fun k i (M2 : Mem) => f_X10_sheet_L70 (s : Int) k (i : Int) M2) (P := fun i M2 => agx [50] B M2 ∧ ∀ j : Nat, M2 50 j = if 40 * s ≤ j ∧ j < 40 * s + i then 0 else B 50 j) (by
    intro k i M2 hi hP
    obtain ⟨p1, p2⟩ := hP
    refine ⟨mset M2 50 (40 * s + i) 0, ?_, p1.mset (by decide), fun j => ?_⟩
    · show f_X10_sheet_L70 (s : Int) (k + 1) (i : Int) M2 = f_X10_sheet_L70 (s : Int) k ((i + 1 : Nat) : Int) _
      rw [f_X10_sheet_L70, if_pos (by omega), w40' hs (by omega), if_pos ⟨by omega, by omega⟩, Int.toNat_natCast, w32_n1 (by omega)]
    · rw [mset_if, p2]
      by_cases e : j = 40 * s + i
      · rw [if_pos e, if_pos ⟨by omega, by omega⟩]
      · rw [if_neg e]
        by_cases h1 : 40 * s ≤ j ∧ j < 40 * s + i
        · rw [if_pos h1, if_pos ⟨h1.1, by omega⟩]
        · rw [if_neg h1, if_neg (by omega)]) 40 100000 0 B (by omega) (by omega) ⟨agx.refl, fun j => by rw [if_neg (by omega)]⟩
  have e : f_X10_sheet_L70 (s : Int) 100000 0 B = f_X10_sheet_L70 (s : Int) (k + 1) ((40 : Nat) : Int) A' := e
  exact ⟨A', by rw [e, f_X10_sheet_L70, if_neg (by decide)], g1, g2⟩
theorem ish {x : Int} (h : ¬ f_X9_within x 0 3 = 0) : ∃ s : Nat, x = (s : Int) ∧ s < 4 := by
  rw [wi_0] at h; exact ⟨x.toNat, by omega, by omega⟩
/-- a sheet becomes a row of both -/
theorem sheet_both {M M1 M2 : Mem} {s : Nat} {sort n : Int} (h : Inv M) (hs : s < 4) (hsort : -1 ≤ sort ∧ sort ≤ 2) (hn : 0 ≤ n ∧ n ≤ 40) (a1 : agx [34, 35, 36] M M1) (a2 : ∀ j : Nat, M1 34 j = if j = s then sort else M 34 j) (a3 : ∀ j : Nat, M1 35 j = if j = s then n else M 35 j) (a4 : ∀ j : Nat, M1 36 j = if 40 * s ≤ j ∧ j < 40 * s + 40 then 0 else M 36 j)
    (d1 : agx [50] (mset (mset M1 48 s sort) 49 s n) M2) (d2 : ∀ j : Nat, M2 50 j = if 40 * s ≤ j ∧ j < 40 * s + 40 then 0 else M 50 j) : Inv M2 := by
  obtain ⟨s1, s2⟩ := h.2.2.2.2.2.1
  have ha : agp (dd [34, 35, 36, 48, 49, 50] []) M M2 := by
    refine agp.x (M1 := mset (mset M1 48 s sort) 49 s n) ?_ d1 (by intro c hc j; simp at hc; subst hc; rfl)
    refine agp.mset (agp.mset ?_ (by rfl)) (by rfl)
    exact agp.x agp.refl a1 (by intro c hc j; simp at hc; rcases hc with rfl | rfl | rfl <;> rfl)
  refine Sh.inv h ha ⟨fun j hj => ?_, fun j hj => ?_⟩
  · have e48 : M2 48 j = if j = s then sort else M 48 j := by
      rw [d1 48 (by decide), mset_c (by decide), mset_if, a1 48 (by decide)]
    have e49 : M2 49 j = if j = s then n else M 49 j := by
      rw [d1 49 (by decide), mset_if, mset_c (by decide), a1 49 (by decide)]
    have e34 : M2 34 j = if j = s then sort else M 34 j := by rw [d1 34 (by decide)]; exact a2 j
    have e35 : M2 35 j = if j = s then n else M 35 j := by rw [d1 35 (by decide)]; exact a3 j
    rw [e48, e49, e34, e35]
    by_cases e : j = s
    · rw [if_pos e, if_pos e, if_pos e, if_pos e]; exact ⟨rfl, rfl, hsort.1, hsort.2, hn.1, hn.2⟩
    · rw [if_neg e, if_neg e, if_neg e, if_neg e]; exact s1 j hj
  · have e36 : M2 36 j = if 40 * s ≤ j ∧ j < 40 * s + 40 then 0 else M 36 j := by rw [d1 36 (by decide)]; exact a4 j
    rw [e36, d2 j, s2 j hj]
theorem op_sheet {M : Mem} (h : Inv M) (x y z : Int) : OK2 (f_X9_sheet x y z) (f_X10_sheet x y z) M := by
  have hb2 : ∀ x : Int, f_X9_isSheet x = f_X9_within x 0 3 := fun _ => rfl
  by_cases h1 : f_X9_within x 0 3 = 0
  · exact OK2.no h (by rw [f_X9_sheet, hb2, if_pos h1]) (by rw [f_X10_sheet, in_w, if_pos h1])
  by_cases h2 : f_X9_within y (-1) 2 = 0
  · exact OK2.no h (by rw [f_X9_sheet, hb2, if_neg h1, if_pos h2]) (by rw [f_X10_sheet, in_w, if_neg h1, in_w, if_pos h2])
  obtain ⟨s, rfl, hs⟩ := ish h1
  have h2' := h2
  rw [wi_0] at h2'
  have hr : (0 : Int) ≤ (s : Int) ∧ (s : Int) < 4 := ⟨by omega, by omega⟩
  by_cases h3 : y = -1
  · obtain ⟨M1, e1, a1, a2, a3, a4⟩ := c_become (A := M) (s := s) (sort := -1) (n := 0) hs
    obtain ⟨M2, e2, d1, d2⟩ := r_sheetL (B := mset (mset M1 48 s (-1)) 49 s 0) (s := s) hs
    refine ⟨1, M1, M2, ?_, ?_, sheet_both h hs ⟨by decide, by decide⟩ ⟨by decide, by decide⟩ a1 a2 a3 a4 d1 (fun j => by rw [d2 j, mset_c (by decide), mset_c (by decide), a1 50 (by decide)])⟩
    · rw [f_X9_sheet, hb2, if_neg h1, if_neg h2, if_pos h3]; exact ob_I e1 rfl
    · rw [f_X10_sheet, in_w, if_neg h1, in_w, if_neg h2, if_pos h3, if_pos h3, if_pos hr, if_pos h3, if_pos hr, Int.toNat_natCast, h3]; exact e2
  · by_cases h4 : 40 < z
    · exact OK2.no h (by rw [f_X9_sheet, hb2, if_neg h1, if_neg h2, if_neg h3, if_pos h4]) (by rw [f_X10_sheet, in_w, if_neg h1, in_w, if_neg h2, if_neg h3, if_pos h4])
    by_cases h5 : z < 0
    · exact OK2.no h (by rw [f_X9_sheet, hb2, if_neg h1, if_neg h2, if_neg h3, if_neg h4, if_pos h5]) (by rw [f_X10_sheet, in_w, if_neg h1, in_w, if_neg h2, if_neg h3, if_neg h4, if_neg h3, if_pos h5])
    obtain ⟨M1, e1, a1, a2, a3, a4⟩ := c_become (A := M) (s := s) (sort := y) (n := z) hs
    obtain ⟨M2, e2, d1, d2⟩ := r_sheetL (B := mset (mset M1 48 s y) 49 s z) (s := s) hs
    refine ⟨1, M1, M2, ?_, ?_, sheet_both h hs ⟨by omega, by omega⟩ ⟨by omega, by omega⟩ a1 a2 a3 a4 d1 (fun j => by rw [d2 j, mset_c (by decide), mset_c (by decide), a1 50 (by decide)])⟩
    · rw [f_X9_sheet, hb2, if_neg h1, if_neg h2, if_neg h3, if_neg h4, if_neg h5]; exact ob_I e1 rfl
    · rw [f_X10_sheet, in_w, if_neg h1, in_w, if_neg h2, if_neg h3, if_neg h4, if_neg h3, if_neg h5, if_pos hr, if_neg h3, if_pos hr, Int.toNat_natCast]; exact e2
