theorem c_missing {M : Mem} {s : Nat} (h : Sh M) (hs : s < 4) : f_X4_isMissing (s : Int) M = if M 48 s = -1 then 1 else 0 := by
  rw [f_X4_isMissing, f_X4_sortOf, rd_n hs, (h.1 s hs).1]
theorem op_cell {M : Mem} (h : Inv M) (x i v : Int) : OK2 (f_X9_cell x i v) (f_X10_cell x i v) M := by
  have hb2 : ∀ x : Int, f_X9_isSheet x = f_X9_within x 0 3 := fun _ => rfl
  by_cases h1 : f_X9_within x 0 3 = 0
  · exact OK2.no h (by rw [f_X9_cell, hb2, if_pos h1]) (by rw [f_X10_cell, in_w, if_pos h1])
  obtain ⟨s, rfl, hs⟩ := ish h1
  have hS := h.2.2.2.2.2.1
  have hr : (0 : Int) ≤ (s : Int) ∧ (s : Int) < 4 := ⟨by omega, by omega⟩
  obtain ⟨s1, s2, s3, s4, s5, s6⟩ := hS.1 s hs
  by_cases h2 : M 48 s = -1
  · exact OK2.no h (by rw [f_X9_cell, hb2, if_neg h1, c_missing hS hs, if_pos h2, if_neg (by decide)]) (by rw [f_X10_cell, in_w, if_neg h1, if_pos hr, Int.toNat_natCast, if_pos h2])
  have ez : f_X4_sizeOf (s : Int) M = M 49 s := by rw [f_X4_sizeOf, rd_n hs, s2]
  by_cases h3 : f_X9_within i 0 (w32 (M 49 s - 1)) = 0
  · exact OK2.no h (by rw [f_X9_cell, hb2, if_neg h1, c_missing hS hs, if_neg h2, if_pos rfl, ez, if_pos h3]) (by rw [f_X10_cell, in_w, if_neg h1, if_pos hr, Int.toNat_natCast, if_neg h2, if_pos hr, in_w, if_pos h3])
  have h3' := h3
  rw [wi_0, w32_id (by omega) (by omega)] at h3'
  obtain ⟨k, rfl⟩ : ∃ k : Nat, i = (k : Int) := ⟨i.toNat, by omega⟩
  have fin : ∀ w : Int, Inv (mset (mset M 36 (40 * s + k) w) 50 (40 * s + k) w) := by
    intro w
    refine Sh.inv h ((agp.refl.mset (by rfl)).mset (by rfl)) ⟨fun j hj => hS.1 j hj, fun j hj => ?_⟩
    rw [mset_if, mset_c (by decide), mset_if, mset_c (by decide), hS.2 j hj]
  have ewr : f_X4_write (s : Int) (k : Int) v M = some (0, mset M 36 (40 * s + k) (if M 48 s = 0 then b_i2b v else if M 48 s = 1 then b_i2s v else v)) := by
    rw [f_X4_write, f_X4_sortOf, rd_n hs, s1, w40 hs (by omega), wr_n (by omega), wr_n (by omega), wr_n (by omega)]
    by_cases q0 : M 48 s = 0
    · rw [if_pos q0, if_pos q0]
    · rw [if_neg q0, if_neg q0]
      by_cases q1 : M 48 s = 1
      · rw [if_pos q1, if_pos q1]
      · rw [if_neg q1, if_neg q1]
  refine ⟨1, mset M 36 (40 * s + k) (if M 48 s = 0 then b_i2b v else if M 48 s = 1 then b_i2s v else v), mset (mset M 36 (40 * s + k) (if M 48 s = 0 then b_i2b v else if M 48 s = 1 then b_i2s v else v)) 50 (40 * s + k) (if M 48 s = 0 then b_i2b v else if M 48 s = 1 then b_i2s v else v), ?_, ?_, fin (if M 48 s = 0 then b_i2b v else if M 48 s = 1 then b_i2s v else v)⟩
  · rw [f_X9_cell, hb2, if_neg h1, c_missing hS hs, if_neg h2, if_pos rfl, ez, if_neg h3]
    exact ob_I ewr rfl
  · have e48 : mset M 36 (40 * s + k) (if M 48 s = 0 then b_i2b v else if M 48 s = 1 then b_i2s v else v) 48 s = M 48 s := rfl
    have e49 : mset M 36 (40 * s + k) (if M 48 s = 0 then b_i2b v else if M 48 s = 1 then b_i2s v else v) 49 s = M 49 s := rfl
    have hr2 : (0 : Int) ≤ ((40 * s + k : Nat) : Int) ∧ ((40 * s + k : Nat) : Int) < 160 := ⟨by omega, by omega⟩
    rw [f_X10_cell, in_w, if_neg h1, if_pos hr, Int.toNat_natCast, e48, if_neg h2, if_pos hr, e49, in_w, if_neg h3, if_pos hr, w40' hs (by omega), if_pos hr2, if_pos hr, if_pos hr2, if_pos hr2, Int.toNat_natCast]
    by_cases q0 : M 48 s = 0
    · rw [if_pos q0, if_pos q0]
    · rw [if_neg q0, if_neg q0]
      by_cases q1 : M 48 s = 1
      · rw [if_pos q1, if_pos q1]
      · rw [if_neg q1, if_neg q1]
