theorem c_copyE {M : Mem} {s t : Nat} {i j n : Int} (hS : Sh M) (hs : s < 4) (ht : t < 4) (h1 : ¬ f_X9_within (s : Int) 0 3 = 0) (h2 : ¬ f_X9_within (t : Int) 0 3 = 0) (h3 : ¬ M 48 s = -1) (h4 : ¬ M 48 t = -1) : f_X9_copy (s : Int) i (t : Int) j n M = (if M 48 s = M 48 t then (if n < 0 then some (-12, M) else if f_X9_within i 0 (w32 (M 49 s - n)) = 0 then some (-12, M) else if f_X9_within j 0 (w32 (M 49 t - n)) = 0 then some (-12, M) else ob (f_X4_move (s : Int) i (t : Int) j n M) fun _ M307 => some (n, M307)) else some (-13, M)) := by
  have hb2 : ∀ x : Int, f_X9_isSheet x = f_X9_within x 0 3 := fun _ => rfl
  obtain ⟨s1, s2, s3, s4, s5, s6⟩ := hS.1 s hs
  obtain ⟨t1, t2, t3, t4, t5, t6⟩ := hS.1 t ht
  rw [f_X9_copy, hb2, if_neg h1, hb2, if_neg h2, c_missing hS hs, if_neg h3, if_pos rfl, c_missing hS ht, if_neg h4, if_pos rfl, f_X4_sortOf, f_X4_sortOf, f_X4_sizeOf, f_X4_sizeOf, rd_n hs, rd_n ht, rd_n hs, rd_n ht, s1, t1, s2, t2]
