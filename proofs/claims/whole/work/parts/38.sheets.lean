/-! sheets -/
theorem Sh.inv {M M' : Mem} (h : Inv M) (ha : agp (dd [34, 35, 36, 48, 49, 50] []) M M') (hS' : Sh M') : Inv M' := by
  obtain ⟨hR, hA, hG, hP, hI, hS, hW, hC⟩ := h
  exact ⟨⟨(RLn_e (ha.p 38 0) (ha.c 39) (ha.c 40)).mpr hR.1, (RFa_e (ha.p 38 6) (ha.c 42)).mpr hR.2.1, (TB_e (ha.c 43)).mpr hR.2.2.1, (RTx_e (ha.p 38 13) (ha.p 38 14) (ha.c 45) (ha.c 46)).mpr hR.2.2.2⟩,
        ⟨(CLn_e (ha.p 3 3) (ha.p 38 0) (ha.c 4) (ha.c 39) (ha.c 5) (ha.c 40) (ha.c 6) (ha.c 2)).mpr hA.1, (CFa_e (ha.p 7 4) (ha.p 38 6) (ha.c 8) (ha.c 9) (ha.c 10) (ha.c 11) (ha.c 42)).mpr hA.2.1, (CTx_e (ha.p 12 5) (ha.p 38 13) (ha.p 0 11) (ha.p 38 14) (ha.c 45) (ha.c 46) (ha.c 17) (ha.c 18)).mpr hA.2.2⟩,
        (Gs_e (ha.p 0 9) (ha.p 38 3) (ha.c 37) (ha.c 41) (ha.p 0 10) (ha.p 38 5)).mpr hG, (Tp_e (ha.p 13 3) (ha.p 38 10) (ha.c 14) (ha.c 44)).mpr hP, (Im_e (ha.c 31) (ha.p 38 15) (ha.p 38 16) (ha.p 38 17) (ha.p 38 18) (ha.p 38 19) (ha.p 38 20) (ha.c 32) (ha.c 47) (ha.p 38 0) (ha.p 38 3) (ha.p 38 6) (ha.p 38 13)).mpr hI, hS', (WD_e (ha.c 52)).mpr hW, fun q => (CH_e (M := M) (ha.p 38 0) (ha.p 38 6) (ha.p 38 14) (ha.c 39) (ha.c 40) (ha.c 42) (ha.c 45) (ha.c 46) (ha.c 21) (ha.c 22) (ha.c 23) (ha.c 24)).mpr (hC (by rw [← ha.p 0 12]; exact q))⟩
theorem w40 {s i : Nat} (hs : s < 4) (hi : i ≤ 40) : w32 (w32 ((s : Int) * 40) + (i : Int)) = ((40 * s + i : Nat) : Int) := by
  rw [w32_id (z := (s : Int) * 40) (by omega) (by omega), w32_id (by omega) (by omega)]; omega
theorem w40' {s i : Nat} (hs : s < 4) (hi : i ≤ 40) : w32 (w32 (40 * (s : Int)) + (i : Int)) = ((40 * s + i : Nat) : Int) := by
  rw [w32_id (z := 40 * (s : Int)) (by omega) (by omega), w32_id (by omega) (by omega)]; omega
theorem mset_if {M : Mem} {c i : Nat} {v : Int} : ∀ j : Nat, mset M c i v c j = if j = i then v else M c j := fun j => by
  by_cases e : j = i
  · subst e; rw [mset_at, if_pos rfl]
  · rw [mset_i e, if_neg e]
theorem c_become {A : Mem} {s : Nat} {sort n : Int} (hs : s < 4) : ∃ A', f_X4_become (s : Int) sort n A = some (0, A') ∧ agx [34, 35, 36] A A' ∧ (∀ j : Nat, A' 34 j = if j = s then sort else A 34 j) ∧ (∀ j : Nat, A' 35 j = if j = s then n else A 35 j) ∧ ∀ j : Nat, A' 36 j = if 40 * s ≤ j ∧ j < 40 * s + 40 then 0 else A 36 j := by
  obtain ⟨k, A', e, g1, g2⟩ := loopN (N := 40) (F := fun k i (M2 : Mem) => f_X4_become_L21 (s : Int) k (i : Int) M2) (P := fun i M2 => agx [36] (mset (mset A 34 s sort) 35 s n) M2 ∧ ∀ j : Nat, M2 36 j = if 40 * s ≤ j ∧ j < 40 * s + i then 0 else A 36 j) (by
    intro k i M2 hi hP
    obtain ⟨p1, p2⟩ := hP
    refine ⟨mset M2 36 (40 * s + i) 0, ?_, p1.mset (by decide), fun j => ?_⟩
    · show f_X4_become_L21 (s : Int) (k + 1) (i : Int) M2 = f_X4_become_L21 (s : Int) k ((i + 1 : Nat) : Int) _
      rw [f_X4_become_L21, if_pos (by omega), w40 hs (by omega), wr_n (by omega), w32_n1 (by omega)]
    · rw [mset_if, p2]
      by_cases e : j = 40 * s + i
      · rw [if_pos e, if_pos ⟨by omega, by omega⟩]
      · rw [if_neg e]
        by_cases h1 : 40 * s ≤ j ∧ j < 40 * s + i
        · rw [if_pos h1, if_pos ⟨h1.1, by omega⟩]
        · rw [if_neg h1, if_neg (by omega)]) 40 100000 0 (mset (mset A 34 s sort) 35 s n) (by omega) (by omega) ⟨agx.refl, fun j => by rw [if_neg (by omega)]; rfl⟩
  have e : f_X4_become_L21 (s : Int) 100000 0 (mset (mset A 34 s sort) 35 s n) = f_X4_become_L21 (s : Int) (k + 1) ((40 : Nat) : Int) A' := e
  refine ⟨A', ?_, (((agx.refl.mset (by decide)).mset (by decide)).trans (g1.mono (by decide))), fun j => ?_, fun j => ?_, g2⟩
  · rw [f_X4_become, wr_n hs, wr_n hs, e, f_X4_become_L21, if_neg (by decide)]
  · rw [g1 34 (by decide), mset_c (by decide), mset_if]
  · rw [g1 35 (by decide), mset_if]; rfl
theorem r_sheetL {B : Mem} {s : Nat} (hs : s < 4) : ∃ B', f_X10_sheet_L70 (s : Int) 100000 0 B = some (1, B') ∧ agx [50] B B' ∧ ∀ j : Nat, B' 50 j = if 40 * s ≤ j ∧ j < 40 * s + 40 then 0 else B 50 j := by
  obtain ⟨k, A', e, g1, g2⟩ := loopN (N := 40) (F := fun k i (M2 : Mem) => f_X10_sheet_L70 (s : Int) k (i : Int) M2) (P := fun i M2 => agx [50] B M2 ∧ ∀ j : Nat, M2 50 j = if 40 * s ≤ j ∧ j < 40 * s + i then 0 else B 50 j) (by
    intro k i M2 hi hP
    obtain ⟨p1, p2⟩ := hP
    refine ⟨mset M2 50 (40 * s + i) 0, ?_, p1.mset (by decide), fun j => ?_⟩
    · show f_X10_sheet_L70 (s : Int) (k + 1) (i : Int) M2 = f_X10_sheet_L70 (s : Int) k ((i + 1 : Nat) : Int) _
      rw [f_X10_sheet_L70, if_pos (by omega), w40' hs (by omega), if_pos ⟨by omega, by omega⟩, Int.toNat_natCast, w32_n1 (by omega)]
    · rw [mset_if, p2]
      by_cases e : j = 40 * s + i
      · rw [if_pos e, if_pos ⟨by omega, by omega⟩]
      · rw [if_neg e]
        by_cases h1 : 40 * s ≤ j ∧ j < 40 * s + i
        · rw [if_pos h1, if_pos ⟨h1.1, by omega⟩]
        · rw [if_neg h1, if_neg (by omega)]) 40 100000 0 B (by omega) (by omega) ⟨agx.refl, fun j => by rw [if_neg (by omega)]⟩
  have e : f_X10_sheet_L70 (s : Int) 100000 0 B = f_X10_sheet_L70 (s : Int) (k + 1) ((40 : Nat) : Int) A' := e
  exact ⟨A', by rw [e, f_X10_sheet_L70, if_neg (by decide)], g1, g2⟩
theorem ish {x : Int} (h : ¬ f_X9_within x 0 3 = 0) : ∃ s : Nat, x = (s : Int) ∧ s < 4 := by
  rw [wi_0] at h; exact ⟨x.toNat, by omega, by omega⟩
/-- a sheet becomes a row of both -/
theorem sheet_both {M M1 M2 : Mem} {s : Nat} {sort n : Int} (h : Inv M) (hs : s < 4) (hsort : -1 ≤ sort ∧ sort ≤ 2) (hn : 0 ≤ n ∧ n ≤ 40) (a1 : agx [34, 35, 36] M M1) (a2 : ∀ j : Nat, M1 34 j = if j = s then sort else M 34 j) (a3 : ∀ j : Nat, M1 35 j = if j = s then n else M 35 j) (a4 : ∀ j : Nat, M1 36 j = if 40 * s ≤ j ∧ j < 40 * s + 40 then 0 else M 36 j)
    (d1 : agx [50] (mset (mset M1 48 s sort) 49 s n) M2) (d2 : ∀ j : Nat, M2 50 j = if 40 * s ≤ j ∧ j < 40 * s + 40 then 0 else M 50 j) : Inv M2 := by
  obtain ⟨s1, s2⟩ := h.2.2.2.2.2.1
  have ha : agp (dd [34, 35, 36, 48, 49, 50] []) M M2 := by
    refine agp.x (M1 := mset (mset M1 48 s sort) 49 s n) ?_ d1 (by intro c hc j; simp at hc; subst hc; rfl)
    refine agp.mset (agp.mset ?_ (by rfl)) (by rfl)
    exact agp.x agp.refl a1 (by intro c hc j; simp at hc; rcases hc with rfl | rfl | rfl <;> rfl)
  refine Sh.inv h ha ⟨fun j hj => ?_, fun j hj => ?_⟩
  · have e48 : M2 48 j = if j = s then sort else M 48 j := by
      rw [d1 48 (by decide), mset_c (by decide), mset_if, a1 48 (by decide)]
    have e49 : M2 49 j = if j = s then n else M 49 j := by
      rw [d1 49 (by decide), mset_if, mset_c (by decide), a1 49 (by decide)]
    have e34 : M2 34 j = if j = s then sort else M 34 j := by rw [d1 34 (by decide)]; exact a2 j
    have e35 : M2 35 j = if j = s then n else M 35 j := by rw [d1 35 (by decide)]; exact a3 j
    rw [e48, e49, e34, e35]
    by_cases e : j = s
    · rw [if_pos e, if_pos e, if_pos e, if_pos e]; exact ⟨rfl, rfl, hsort.1, hsort.2, hn.1, hn.2⟩
    · rw [if_neg e, if_neg e, if_neg e, if_neg e]; exact s1 j hj
  · have e36 : M2 36 j = if 40 * s ≤ j ∧ j < 40 * s + 40 then 0 else M 36 j := by rw [d1 36 (by decide)]; exact a4 j
    rw [e36, d2 j, s2 j hj]
theorem op_sheet {M : Mem} (h : Inv M) (x y z : Int) : OK2 (f_X9_sheet x y z) (f_X10_sheet x y z) M := by
  have hb2 : ∀ x : Int, f_X9_isSheet x = f_X9_within x 0 3 := fun _ => rfl
  by_cases h1 : f_X9_within x 0 3 = 0
  · exact OK2.no h (by rw [f_X9_sheet, hb2, if_pos h1]) (by rw [f_X10_sheet, in_w, if_pos h1])
  by_cases h2 : f_X9_within y (-1) 2 = 0
  · exact OK2.no h (by rw [f_X9_sheet, hb2, if_neg h1, if_pos h2]) (by rw [f_X10_sheet, in_w, if_neg h1, in_w, if_pos h2])
  obtain ⟨s, rfl, hs⟩ := ish h1
  have h2' := h2
  rw [wi_0] at h2'
  have hr : (0 : Int) ≤ (s : Int) ∧ (s : Int) < 4 := ⟨by omega, by omega⟩
  by_cases h3 : y = -1
  · obtain ⟨M1, e1, a1, a2, a3, a4⟩ := c_become (A := M) (s := s) (sort := -1) (n := 0) hs
    obtain ⟨M2, e2, d1, d2⟩ := r_sheetL (B := mset (mset M1 48 s (-1)) 49 s 0) (s := s) hs
    refine ⟨1, M1, M2, ?_, ?_, sheet_both h hs ⟨by decide, by decide⟩ ⟨by decide, by decide⟩ a1 a2 a3 a4 d1 (fun j => by rw [d2 j, mset_c (by decide), mset_c (by decide), a1 50 (by decide)])⟩
    · rw [f_X9_sheet, hb2, if_neg h1, if_neg h2, if_pos h3]; exact ob_I e1 rfl
    · rw [f_X10_sheet, in_w, if_neg h1, in_w, if_neg h2, if_pos h3, if_pos h3, if_pos hr, if_pos h3, if_pos hr, Int.toNat_natCast, h3]; exact e2
  · by_cases h4 : 40 < z
    · exact OK2.no h (by rw [f_X9_sheet, hb2, if_neg h1, if_neg h2, if_neg h3, if_pos h4]) (by rw [f_X10_sheet, in_w, if_neg h1, in_w, if_neg h2, if_neg h3, if_pos h4])
    by_cases h5 : z < 0
    · exact OK2.no h (by rw [f_X9_sheet, hb2, if_neg h1, if_neg h2, if_neg h3, if_neg h4, if_pos h5]) (by rw [f_X10_sheet, in_w, if_neg h1, in_w, if_neg h2, if_neg h3, if_neg h4, if_neg h3, if_pos h5])
    obtain ⟨M1, e1, a1, a2, a3, a4⟩ := c_become (A := M) (s := s) (sort := y) (n := z) hs
    obtain ⟨M2, e2, d1, d2⟩ := r_sheetL (B := mset (mset M1 48 s y) 49 s z) (s := s) hs
    refine ⟨1, M1, M2, ?_, ?_, sheet_both h hs ⟨by omega, by omega⟩ ⟨by omega, by omega⟩ a1 a2 a3 a4 d1 (fun j => by rw [d2 j, mset_c (by decide), mset_c (by decide), a1 50 (by decide)])⟩
    · rw [f_X9_sheet, hb2, if_neg h1, if_neg h2, if_neg h3, if_neg h4, if_neg h5]; exact ob_I e1 rfl
    · rw [f_X10_sheet, in_w, if_neg h1, in_w, if_neg h2, if_neg h3, if_neg h4, if_neg h3, if_neg h5, if_pos hr, if_neg h3, if_pos hr, Int.toNat_natCast]; exact e2
theorem c_missing {M : Mem} {s : Nat} (h : Sh M) (hs : s < 4) : f_X4_isMissing (s : Int) M = if M 48 s = -1 then 1 else 0 := by
  rw [f_X4_isMissing, f_X4_sortOf, rd_n hs, (h.1 s hs).1]
theorem op_cell {M : Mem} (h : Inv M) (x i v : Int) : OK2 (f_X9_cell x i v) (f_X10_cell x i v) M := by
  have hb2 : ∀ x : Int, f_X9_isSheet x = f_X9_within x 0 3 := fun _ => rfl
  by_cases h1 : f_X9_within x 0 3 = 0
  · exact OK2.no h (by rw [f_X9_cell, hb2, if_pos h1]) (by rw [f_X10_cell, in_w, if_pos h1])
  obtain ⟨s, rfl, hs⟩ := ish h1
  have hS := h.2.2.2.2.2.1
  have hr : (0 : Int) ≤ (s : Int) ∧ (s : Int) < 4 := ⟨by omega, by omega⟩
  obtain ⟨s1, s2, s3, s4, s5, s6⟩ := hS.1 s hs
  by_cases h2 : M 48 s = -1
  · exact OK2.no h (by rw [f_X9_cell, hb2, if_neg h1, c_missing hS hs, if_pos h2, if_neg (by decide)]) (by rw [f_X10_cell, in_w, if_neg h1, if_pos hr, Int.toNat_natCast, if_pos h2])
  have ez : f_X4_sizeOf (s : Int) M = M 49 s := by rw [f_X4_sizeOf, rd_n hs, s2]
  by_cases h3 : f_X9_within i 0 (w32 (M 49 s - 1)) = 0
  · exact OK2.no h (by rw [f_X9_cell, hb2, if_neg h1, c_missing hS hs, if_neg h2, if_pos rfl, ez, if_pos h3]) (by rw [f_X10_cell, in_w, if_neg h1, if_pos hr, Int.toNat_natCast, if_neg h2, if_pos hr, in_w, if_pos h3])
  have h3' := h3
  rw [wi_0, w32_id (by omega) (by omega)] at h3'
  obtain ⟨k, rfl⟩ : ∃ k : Nat, i = (k : Int) := ⟨i.toNat, by omega⟩
  have fin : ∀ w : Int, Inv (mset (mset M 36 (40 * s + k) w) 50 (40 * s + k) w) := by
    intro w
    refine Sh.inv h ((agp.refl.mset (by rfl)).mset (by rfl)) ⟨fun j hj => hS.1 j hj, fun j hj => ?_⟩
    rw [mset_if, mset_c (by decide), mset_if, mset_c (by decide), hS.2 j hj]
  have ewr : f_X4_write (s : Int) (k : Int) v M = some (0, mset M 36 (40 * s + k) (if M 48 s = 0 then b_i2b v else if M 48 s = 1 then b_i2s v else v)) := by
    rw [f_X4_write, f_X4_sortOf, rd_n hs, s1, w40 hs (by omega), wr_n (by omega), wr_n (by omega), wr_n (by omega)]
    by_cases q0 : M 48 s = 0
    · rw [if_pos q0, if_pos q0]
    · rw [if_neg q0, if_neg q0]
      by_cases q1 : M 48 s = 1
      · rw [if_pos q1, if_pos q1]
      · rw [if_neg q1, if_neg q1]
  refine ⟨1, _, _, ?_, ?_, fin (if M 48 s = 0 then b_i2b v else if M 48 s = 1 then b_i2s v else v)⟩
  · rw [f_X9_cell, hb2, if_neg h1, c_missing hS hs, if_neg h2, if_pos rfl, ez, if_neg h3]
    exact ob_I ewr rfl
  · have e48 : mset M 36 (40 * s + k) (if M 48 s = 0 then b_i2b v else if M 48 s = 1 then b_i2s v else v) 48 s = M 48 s := rfl
    have e49 : mset M 36 (40 * s + k) (if M 48 s = 0 then b_i2b v else if M 48 s = 1 then b_i2s v else v) 49 s = M 49 s := rfl
    have hr2 : (0 : Int) ≤ ((40 * s + k : Nat) : Int) ∧ ((40 * s + k : Nat) : Int) < 160 := ⟨by omega, by omega⟩
    rw [f_X10_cell, in_w, if_neg h1, if_pos hr, Int.toNat_natCast, e48, if_neg h2, if_pos hr, e49, in_w, if_neg h3, if_pos hr, w40' hs (by omega), if_pos hr2, if_pos hr, if_pos hr2, if_pos hr2, Int.toNat_natCast]
    by_cases q0 : M 48 s = 0
    · rw [if_pos q0, if_pos q0]
    · rw [if_neg q0, if_neg q0]
      by_cases q1 : M 48 s = 1
      · rw [if_pos q1, if_pos q1]
      · rw [if_neg q1, if_neg q1]
theorem r_copyL {B : Mem} {n a b : Nat} (ha : a + n ≤ 160) (hb : b + n ≤ 160) : ∃ B', f_X10_copy_L147 (n : Int) (a : Int) (b : Int) 100000 0 B = some ((n : Int), B') ∧ agx [50] B B' ∧ ∀ j : Nat, B' 50 j = if b ≤ j ∧ j < b + n then B 50 (a + (j - b)) else B 50 j := by
  by_cases hab : a < b
  · obtain ⟨k, A', e, g1, g2⟩ := loopN (N := n) (F := fun k i (M2 : Mem) => f_X10_copy_L147 (n : Int) (a : Int) (b : Int) k (i : Int) M2) (P := fun i M2 => agx [50] B M2 ∧ ∀ j : Nat, M2 50 j = if b + (n - i) ≤ j ∧ j < b + n then B 50 (a + (j - b)) else B 50 j) (by
      intro k i M2 hi hP
      obtain ⟨p1, p2⟩ := hP
      have e1 : w32 (w32 ((n : Int) - 1) - (i : Int)) = ((n - 1 - i : Nat) : Int) := by rw [w32_id (z := (n : Int) - 1) (by omega) (by omega), w32_id (by omega) (by omega)]; omega
      have e2 : w32 ((a : Int) + ((n - 1 - i : Nat) : Int)) = ((a + (n - 1 - i) : Nat) : Int) := by rw [w32_id (by omega) (by omega)]; omega
      have e3 : w32 ((b : Int) + ((n - 1 - i : Nat) : Int)) = ((b + (n - 1 - i) : Nat) : Int) := by rw [w32_id (by omega) (by omega)]; omega
      refine ⟨mset M2 50 (b + (n - 1 - i)) (M2 50 (a + (n - 1 - i))), ?_, p1.mset (by decide), fun j => ?_⟩
      · show f_X10_copy_L147 (n : Int) (a : Int) (b : Int) (k + 1) (i : Int) M2 = f_X10_copy_L147 (n : Int) (a : Int) (b : Int) k ((i + 1 : Nat) : Int) _
        rw [f_X10_copy_L147, if_pos (by omega), if_pos (by omega), e1, e2, e3, if_pos ⟨by omega, by omega⟩, if_pos ⟨by omega, by omega⟩, Int.toNat_natCast, Int.toNat_natCast, w32_n1 (by omega)]
      · rw [mset_if, p2 (a + (n - 1 - i)), if_neg (by omega), p2 j]
        by_cases e : j = b + (n - 1 - i)
        · rw [if_pos e, if_pos ⟨by omega, by omega⟩, e, Nat.add_sub_cancel_left]
        · rw [if_neg e]
          by_cases h1 : b + (n - i) ≤ j ∧ j < b + n
          · rw [if_pos h1, if_pos ⟨by omega, h1.2⟩]
          · rw [if_neg h1, if_neg (by omega)]) n 100000 0 B (by omega) (by omega) ⟨agx.refl, fun j => by rw [if_neg (by omega)]⟩
    have e : f_X10_copy_L147 (n : Int) (a : Int) (b : Int) 100000 0 B = f_X10_copy_L147 (n : Int) (a : Int) (b : Int) (k + 1) ((n : Nat) : Int) A' := e
    refine ⟨A', by rw [e, f_X10_copy_L147, if_neg (by omega)], g1, fun j => ?_⟩
    rw [g2 j, Nat.sub_self, Nat.add_zero]
  · obtain ⟨k, A', e, g1, g2⟩ := loopN (N := n) (F := fun k i (M2 : Mem) => f_X10_copy_L147 (n : Int) (a : Int) (b : Int) k (i : Int) M2) (P := fun i M2 => agx [50] B M2 ∧ ∀ j : Nat, M2 50 j = if b ≤ j ∧ j < b + i then B 50 (a + (j - b)) else B 50 j) (by
      intro k i M2 hi hP
      obtain ⟨p1, p2⟩ := hP
      have e2 : w32 ((a : Int) + (i : Int)) = ((a + i : Nat) : Int) := by rw [w32_id (by omega) (by omega)]; omega
      have e3 : w32 ((b : Int) + (i : Int)) = ((b + i : Nat) : Int) := by rw [w32_id (by omega) (by omega)]; omega
      refine ⟨mset M2 50 (b + i) (M2 50 (a + i)), ?_, p1.mset (by decide), fun j => ?_⟩
      · show f_X10_copy_L147 (n : Int) (a : Int) (b : Int) (k + 1) (i : Int) M2 = f_X10_copy_L147 (n : Int) (a : Int) (b : Int) k ((i + 1 : Nat) : Int) _
        rw [f_X10_copy_L147, if_pos (by omega), if_neg (by omega), e2, e3, if_pos ⟨by omega, by omega⟩, if_pos ⟨by omega, by omega⟩, Int.toNat_natCast, Int.toNat_natCast, w32_n1 (by omega)]
      · rw [mset_if, p2 (a + i), if_neg (by omega), p2 j]
        by_cases e : j = b + i
        · rw [if_pos e, if_pos ⟨by omega, by omega⟩, e, Nat.add_sub_cancel_left]
        · rw [if_neg e]
          by_cases h1 : b ≤ j ∧ j < b + i
          · rw [if_pos h1, if_pos ⟨h1.1, by omega⟩]
          · rw [if_neg h1, if_neg (by omega)]) n 100000 0 B (by omega) (by omega) ⟨agx.refl, fun j => by rw [if_neg (by omega)]⟩
    have e : f_X10_copy_L147 (n : Int) (a : Int) (b : Int) 100000 0 B = f_X10_copy_L147 (n : Int) (a : Int) (b : Int) (k + 1) ((n : Nat) : Int) A' := e
    exact ⟨A', by rw [e, f_X10_copy_L147, if_neg (by omega)], g1, g2⟩
theorem op_copy {M : Mem} (h : Inv M) (x i y j n : Int) (hi : r32 i) (hj : r32 j) (hn : r32 n) : OK2 (f_X9_copy x i y j n) (f_X10_copy x i y j n) M := by
  have hb2 : ∀ x : Int, f_X9_isSheet x = f_X9_within x 0 3 := fun _ => rfl
  by_cases h1 : f_X9_within x 0 3 = 0
  · exact OK2.no h (by rw [f_X9_copy, hb2, if_pos h1]) (by rw [f_X10_copy, in_w, if_pos h1])
  by_cases h2 : f_X9_within y 0 3 = 0
  · exact OK2.no h (by rw [f_X9_copy, hb2, if_neg h1, hb2, if_pos h2]) (by rw [f_X10_copy, in_w, if_neg h1, in_w, if_pos h2])
  obtain ⟨s, rfl, hs⟩ := ish h1
  obtain ⟨t, rfl, ht⟩ := ish h2
  have hS := h.2.2.2.2.2.1
  have hr : (0 : Int) ≤ (s : Int) ∧ (s : Int) < 4 := ⟨by omega, by omega⟩
  have hr2 : (0 : Int) ≤ (t : Int) ∧ (t : Int) < 4 := ⟨by omega, by omega⟩
  obtain ⟨s1, s2, s3, s4, s5, s6⟩ := hS.1 s hs
  obtain ⟨t1, t2, t3, t4, t5, t6⟩ := hS.1 t ht
  unfold r32 at hi hj hn
  by_cases h3 : M 48 s = -1
  · exact OK2.no h (by rw [f_X9_copy, hb2, if_neg h1, hb2, if_neg h2, c_missing hS hs, if_pos h3, if_neg (by decide)]) (by rw [f_X10_copy, in_w, if_neg h1, in_w, if_neg h2, if_pos hr, Int.toNat_natCast, if_pos h3])
  by_cases h4 : M 48 t = -1
  · exact OK2.no h (by rw [f_X9_copy, hb2, if_neg h1, hb2, if_neg h2, c_missing hS hs, if_neg h3, if_pos rfl, c_missing hS ht, if_pos h4, if_neg (by decide)]) (by rw [f_X10_copy, in_w, if_neg h1, in_w, if_neg h2, if_pos hr, Int.toNat_natCast, if_neg h3, if_pos hr2, Int.toNat_natCast, if_pos h4])
  have eA : f_X9_copy (s : Int) i (t : Int) j n M = (if M 48 s = M 48 t then (if n < 0 then some (-12, M) else if f_X9_within i 0 (w32 (M 49 s - n)) = 0 then some (-12, M) else if f_X9_within j 0 (w32 (M 49 t - n)) = 0 then some (-12, M) else ob (f_X4_move (s : Int) i (t : Int) j n M) fun _ M307 => some (n, M307)) else some (-13, M)) := by
    rw [f_X9_copy, hb2, if_neg h1, hb2, if_neg h2, c_missing hS hs, if_neg h3, if_pos rfl, c_missing hS ht, if_neg h4, if_pos rfl, f_X4_sortOf, f_X4_sortOf, f_X4_sizeOf, f_X4_sizeOf, rd_n hs, rd_n ht, rd_n hs, rd_n ht, s1, t1, s2, t2]
  have eB : ∀ M1 : Mem, M1 48 = M 48 → M1 49 = M 49 → f_X10_copy (s : Int) i (t : Int) j n M1 = (if M 48 s = M 48 t then (if n < 0 then some (-12, M1) else if i < 0 then some (-12, M1) else if j < 0 then some (-12, M1) else if M 49 s < i then some (-12, M1) else if M 49 t < j then some (-12, M1) else if w32 (M 49 s - i) < n then some (-12, M1) else if w32 (M 49 t - j) < n then some (-12, M1) else f_X10_copy_L147 n (w32 (w32 (40 * (s : Int)) + i)) (w32 (w32 (40 * (t : Int)) + j)) 100000 0 M1) else some (-13, M1)) := by
    intro M1 q1 q2
    rw [f_X10_copy, in_w, if_neg h1, in_w, if_neg h2, if_pos hr, Int.toNat_natCast, q1, q2, if_neg h3, if_pos hr2, Int.toNat_natCast, if_neg h4, if_pos hr, if_pos hr2, if_pos hr, if_pos hr2, if_pos hr, if_pos hr2]
  by_cases h5 : M 48 s = M 48 t
  · rw [if_pos h5] at eA
    by_cases h6 : n < 0
    · exact OK2.no h (by rw [eA, if_pos h6]) (by rw [eB M rfl rfl, if_pos h5, if_pos h6])
    rw [if_neg h6, w32_id (by omega) (by omega), w32_id (by omega) (by omega)] at eA
    by_cases h7 : 0 ≤ i ∧ i ≤ M 49 s - n ∧ 0 ≤ j ∧ j ≤ M 49 t - n
    · obtain ⟨a, rfl⟩ : ∃ k : Nat, i = (k : Int) := ⟨i.toNat, by omega⟩
      obtain ⟨b, rfl⟩ : ∃ k : Nat, j = (k : Int) := ⟨j.toNat, by omega⟩
      obtain ⟨m, rfl⟩ : ∃ k : Nat, n = (k : Int) := ⟨n.toNat, by omega⟩
      have wa := w40 (i := a) hs (by omega)
      have wb := w40 (i := b) ht (by omega)
      have wa' := w40' (i := a) hs (by omega)
      have wb' := w40' (i := b) ht (by omega)
      have emv : f_X4_move (s : Int) (a : Int) (t : Int) (b : Int) (m : Int) M = some (0, mcpy M 36 36 (40 * s + a) (40 * t + b) m) := by
        rw [f_X4_move, if_neg h6, wa, wb, w32_id (z := 160 - (m : Int)) (by omega) (by omega), if_neg (by rw [wi_0]; omega), if_neg (by rw [wi_0]; omega), if_pos ⟨by omega, by omega, by omega, by omega, by omega⟩, Int.toNat_natCast, Int.toNat_natCast, Int.toNat_natCast]
      obtain ⟨M2, e2, d1, d2⟩ := r_copyL (B := mcpy M 36 36 (40 * s + a) (40 * t + b) m) (n := m) (a := 40 * s + a) (b := 40 * t + b) (by omega) (by omega)
      refine ⟨(m : Int), mcpy M 36 36 (40 * s + a) (40 * t + b) m, M2, ?_, ?_, ?_⟩
      · rw [eA, if_neg (by rw [wi_0]; omega), if_neg (by rw [wi_0]; omega)]
        exact ob_I emv rfl
      · rw [eB _ (mcpy_c (by decide)) (mcpy_c (by decide)), if_pos h5, if_neg h6, if_neg (by omega), if_neg (by omega), if_neg (by omega), if_neg (by omega), w32_id (by omega) (by omega), if_neg (by omega), w32_id (by omega) (by omega), if_neg (by omega), wa', wb']
        exact e2
      · refine Sh.inv h ?_ ⟨fun q hq => ?_, fun q hq => ?_⟩
        · exact agp.x (agp.x agp.refl (agx.refl.mcpy (L := [36]) (by decide)) (by intro c hc j; simp at hc; subst hc; rfl)) d1 (by intro c hc j; simp at hc; subst hc; rfl)
        · rw [d1 34 (by decide), d1 48 (by decide), d1 35 (by decide), d1 49 (by decide)]
          exact hS.1 q hq
        · rw [d1 36 (by decide), d2 q]
          have e50 : mcpy M 36 36 (40 * s + a) (40 * t + b) m 50 = M 50 := mcpy_c (by decide)
          rw [e50]
          unfold mcpy
          rw [mup_at]
          by_cases hq2 : 40 * t + b ≤ q ∧ q < 40 * t + b + m
          · rw [if_pos hq2, if_pos hq2]; exact hS.2 _ (by omega)
          · rw [if_neg hq2, if_neg hq2]; exact hS.2 q hq
    · have e9 : f_X9_copy (s : Int) i (t : Int) j n M = some (-12, M) := by
        rw [eA]
        by_cases q1 : f_X9_within i 0 (M 49 s - n) = 0
        · rw [if_pos q1]
        · rw [if_neg q1, if_pos]
          rw [wi_0] at q1 ⊢
          omega
      refine OK2.no h e9 ?_
      rw [eB M rfl rfl, if_pos h5, if_neg h6]
      by_cases q1 : i < 0
      · rw [if_pos q1]
      rw [if_neg q1]
      by_cases q2 : j < 0
      · rw [if_pos q2]
      rw [if_neg q2]
      by_cases q3 : M 49 s < i
      · rw [if_pos q3]
      rw [if_neg q3]
      by_cases q4 : M 49 t < j
      · rw [if_pos q4]
      rw [if_neg q4, w32_id (by omega) (by omega), w32_id (by omega) (by omega)]
      by_cases q5 : M 49 s - i < n
      · rw [if_pos q5]
      rw [if_neg q5, if_pos (by omega)]
  · exact OK2.no h (by rw [eA, if_neg h5]) (by rw [eB M rfl rfl, if_neg h5])
