def f_X4_sortOf (x1 : Int) (M : Mem) : Int :=
  rd 4 (M 34) x1
set_option maxHeartbeats 4000000 in
theorem t_X4_sortOf (l : Launch) (g : GG) (ad : Nat → Nat) (S : SW) (M : Mem) (hS : q_ag 0 38 ad S) (x1 : Int) : CT l g MX4_sortOf 2 0 0 S M [.inr (.inr (some (ad 33))), .inl x1] (q_ex S (some (.inl (f_X4_sortOf x1 M))) M) := by
  obtain ⟨r, H⟩ : ∃ r, f_X4_sortOf x1 M = r := ⟨_, rfl⟩
  rw [H]
  unfold f_X4_sortOf at H
  refine CT_of (ls0 := [some (.inr (.inr (some (ad 33)))), some (.inl x1)]) (by decide +kernel) (Nat.le_of_ble_eq_true rfl) rfl ?_
  refine R_aload_n (i := 0) (dX4_sortOf 0 rfl) rfl rfl ?_
  refine R_getR cgX4 33 (cl33 hS) 0 (Nat.le_of_ble_eq_true rfl) rfl (Or.inl tb_543) (dX4_sortOf 1 rfl) ?_
  refine R_iload_n (i := 1) (dX4_sortOf 2 rfl) rfl rfl ?_
  refine R_cS (st' := [.inl (rd 4 (M 34) x1)]) [.inr (.inr (some (ad 34))), .inl x1] [] (t_at l g S _ 34 (cl34 hS) (Nat.le_of_ble_eq_true rfl) x1) msX9_at (Or.inr ⟨_, tb_979⟩) ⟨Nat.le_of_ble_eq_true rfl, Nat.le_of_ble_eq_true rfl⟩ (Nat.zero_le _) (Nat.zero_le _) rfl rfl (Nat.le_of_ble_eq_true rfl) rfl (dX4_sortOf 3 rfl) ?_
  exact R_iret rfl rfl (Nat.zero_le _) (Nat.zero_le _) (dX4_sortOf 4 rfl) ⟨congrArg (fun z => some (Sum.inl z)) H, rfl, rfl⟩
def f_X4_isMissing (x1 : Int) (M : Mem) : Int :=
  if f_X4_sortOf x1 M = (-1) then
    1
  else
    0
set_option maxHeartbeats 4000000 in
theorem t_X4_isMissing (l : Launch) (g : GG) (ad : Nat → Nat) (S : SW) (M : Mem) (hS : q_ag 0 38 ad S) (x1 : Int) : CT l g MX4_isMissing 3 0 0 S M [.inr (.inr (some (ad 33))), .inl x1] (q_ex S (some (.inl (f_X4_isMissing x1 M))) M) := by
  obtain ⟨r, H⟩ : ∃ r, f_X4_isMissing x1 M = r := ⟨_, rfl⟩
  rw [H]
  unfold f_X4_isMissing at H
  refine CT_of (ls0 := [some (.inr (.inr (some (ad 33)))), some (.inl x1)]) (by decide +kernel) (Nat.le_of_ble_eq_true rfl) rfl ?_
  refine R_aload_n (i := 0) (dX4_isMissing 0 rfl) rfl rfl ?_
  refine R_iload_n (i := 1) (dX4_isMissing 1 rfl) rfl rfl ?_
  refine R_cV (st' := [.inl (f_X4_sortOf x1 M)]) [.inl x1] [] (t_X4_sortOf l g ad S _ hS   x1) msX4_sortOf (Or.inl tb_975) (Or.inl ⟨33, 4, _, _, _, (cl33 hS), rfl⟩) ⟨Nat.le_of_ble_eq_true rfl, Nat.le_of_ble_eq_true rfl⟩ (Nat.zero_le _) (Nat.zero_le _) rfl rfl (Nat.le_of_ble_eq_true rfl) rfl (dX4_isMissing 2 rfl) ?_
  refine R_iconst (dX4_isMissing 3 rfl) rfl ?_
  refine R_icmp_ne (tgt := 13) (dX4_isMissing 4 rfl) (by decide) (fun hc => ?_) (fun hc => ?_)
  · have H := ite_F H hc
    refine R_iconst (dX4_isMissing 7 rfl) rfl ?_
    exact R_iret rfl (by decide +kernel) (Nat.zero_le _) (Nat.zero_le _) (dX4_isMissing 8 rfl) ⟨congrArg (fun z => some (Sum.inl z)) H, rfl, rfl⟩
  · have H := ite_T H hc
    refine R_iconst (dX4_isMissing 5 rfl) rfl ?_
    refine R_goto (tgt := 14) (dX4_isMissing 6 rfl) (by decide) ?_
    exact R_iret rfl (by decide +kernel) (Nat.zero_le _) (Nat.zero_le _) (dX4_isMissing 8 rfl) ⟨congrArg (fun z => some (Sum.inl z)) H, rfl, rfl⟩
theorem z_X4_isMissing (x1 : Int) (M : Mem) : f_X4_isMissing x1 M = 0 ∨ f_X4_isMissing x1 M = 1 := by
  unfold f_X4_isMissing
  (repeat' split) <;> first | exact Or.inl rfl | exact Or.inr rfl | exact z_X4_sortOf ..
def f_X4_sizeOf (x1 : Int) (M : Mem) : Int :=
  rd 4 (M 35) x1
set_option maxHeartbeats 4000000 in
theorem t_X4_sizeOf (l : Launch) (g : GG) (ad : Nat → Nat) (S : SW) (M : Mem) (hS : q_ag 0 38 ad S) (x1 : Int) : CT l g MX4_sizeOf 2 0 0 S M [.inr (.inr (some (ad 33))), .inl x1] (q_ex S (some (.inl (f_X4_sizeOf x1 M))) M) := by
  obtain ⟨r, H⟩ : ∃ r, f_X4_sizeOf x1 M = r := ⟨_, rfl⟩
  rw [H]
  unfold f_X4_sizeOf at H
  refine CT_of (ls0 := [some (.inr (.inr (some (ad 33)))), some (.inl x1)]) (by decide +kernel) (Nat.le_of_ble_eq_true rfl) rfl ?_
  refine R_aload_n (i := 0) (dX4_sizeOf 0 rfl) rfl rfl ?_
  refine R_getR cgX4 33 (cl33 hS) 1 (Nat.le_of_ble_eq_true rfl) rfl (Or.inl tb_544) (dX4_sizeOf 1 rfl) ?_
  refine R_iload_n (i := 1) (dX4_sizeOf 2 rfl) rfl rfl ?_
  refine R_cS (st' := [.inl (rd 4 (M 35) x1)]) [.inr (.inr (some (ad 35))), .inl x1] [] (t_at l g S _ 35 (cl35 hS) (Nat.le_of_ble_eq_true rfl) x1) msX9_at (Or.inr ⟨_, tb_979⟩) ⟨Nat.le_of_ble_eq_true rfl, Nat.le_of_ble_eq_true rfl⟩ (Nat.zero_le _) (Nat.zero_le _) rfl rfl (Nat.le_of_ble_eq_true rfl) rfl (dX4_sizeOf 3 rfl) ?_
  exact R_iret rfl rfl (Nat.zero_le _) (Nat.zero_le _) (dX4_sizeOf 4 rfl) ⟨congrArg (fun z => some (Sum.inl z)) H, rfl, rfl⟩
def f_X4_become_L21 (x1 : Int) : Nat → Int → Mem → Option (Int × Mem)
  | 0, _, _ => none
  | n + 1, x4, M =>
    if x4 < 40 then
      f_X4_become_L21 x1 n (w32 (x4 + 1)) (wr M 36 160 (w32 ((w32 (x1 * 40)) + x4)) 0)
    else
      some (0, M)
set_option maxHeartbeats 4000000 in
theorem t_X4_become_L21 (l : Launch) (g : GG) (ad : Nat → Nat) (S : SW) (hS : q_ag 0 38 ad S) (x1 : Int) {r : Int} {M' : Mem} : ∀ (n : Nat) (x4 : Int) (M : Mem), f_X4_become_L21 x1 n x4 M = some (r, M') → RW l g MX4_become (q_rm 2 0 0) 0 0 (q_ex S none M') 21 S M 0 0 [some (.inr (.inr (some (ad 33)))), some (.inl x1), none, none, some (.inl x4)] [] := by
  intro n
  induction n with
  | zero => intro x4 M H; exact absurd H (by simp [f_X4_become_L21])
  | succ n ih =>
    intro x4 M H
    rw [f_X4_become_L21] at H
    refine R_iload (i := 4) (dX4_become 12 rfl) rfl ?_
    refine R_bipush (dX4_become 13 rfl) rfl rfl ?_
    refine R_icmp_ge (tgt := 49) (dX4_become 14 rfl) (by decide) (fun hc => ?_) (fun hc => ?_)
    · have H := ite_F H hc
      exact R_vret rfl (Nat.zero_le _) (Nat.zero_le _) (dX4_become 26 rfl) ⟨rfl, rfl, (Prod.mk.inj (Option.some.inj H)).2⟩
    · have H := ite_T H hc
      refine R_aload_n (i := 0) (dX4_become 15 rfl) rfl rfl ?_
      refine R_getR cgX4 33 (cl33 hS) 2 (Nat.le_of_ble_eq_true rfl) rfl (Or.inl tb_545) (dX4_become 16 rfl) ?_
      refine R_iload_n (i := 1) (dX4_become 17 rfl) rfl rfl ?_
      refine R_bipush (dX4_become 18 rfl) rfl rfl ?_
      refine R_imul (dX4_become 19 rfl) ?_
      refine R_iload (i := 4) (dX4_become 20 rfl) rfl ?_
      refine R_iadd (dX4_become 21 rfl) ?_
      refine R_iconst (dX4_become 22 rfl) rfl ?_
      refine R_cS (st' := []) [.inr (.inr (some (ad 36))), .inl (w32 ((w32 (x1 * 40)) + x4)), .inl 0] [] (t_put l g S _ 36 (cl36 hS) (Nat.le_of_ble_eq_true rfl) (w32 ((w32 (x1 * 40)) + x4)) 0) msX9_put (Or.inr ⟨_, tb_1000⟩) ⟨Nat.le_of_ble_eq_true rfl, Nat.le_of_ble_eq_true rfl⟩ (Nat.zero_le _) (Nat.zero_le _) rfl rfl (Nat.le_of_ble_eq_true rfl) rfl (dX4_become 23 rfl) ?_
      refine R_iinc (i := 4) (ls' := [some (.inr (.inr (some (ad 33)))), some (.inl x1), none, none, some (.inl (w32 (x4 + 1)))]) (dX4_become 24 rfl) rfl (Nat.le_of_ble_eq_true rfl) rfl rfl ?_
      refine R_goto (tgt := 21) (dX4_become 25 rfl) (by decide) ?_
      exact ih (w32 (x4 + 1)) (wr M 36 160 (w32 ((w32 (x1 * 40)) + x4)) 0) H
def f_X4_become (x1 : Int) (x2 : Int) (x3 : Int) (M : Mem) : Option (Int × Mem) :=
  f_X4_become_L21
    x1 100000 0 (wr (wr M 34 4 x1 x2) 35 4 x1 x3)
set_option maxHeartbeats 4000000 in
theorem t_X4_become (l : Launch) (g : GG) (ad : Nat → Nat) (S : SW) (M : Mem) (hS : q_ag 0 38 ad S) (x1 : Int) (x2 : Int) (x3 : Int) {r : Int} {M' : Mem} (H : f_X4_become x1 x2 x3 M = some (r, M')) : CT l g MX4_become 2 0 0 S M [.inr (.inr (some (ad 33))), .inl x1, .inl x2, .inl x3] (q_ex S none M') := by
  unfold f_X4_become at H
  refine CT_of (ls0 := [some (.inr (.inr (some (ad 33)))), some (.inl x1), some (.inl x2), some (.inl x3), none]) (by decide +kernel) (Nat.le_of_ble_eq_true rfl) rfl ?_
  refine R_aload_n (i := 0) (dX4_become 0 rfl) rfl rfl ?_
  refine R_getR cgX4 33 (cl33 hS) 0 (Nat.le_of_ble_eq_true rfl) rfl (Or.inl tb_543) (dX4_become 1 rfl) ?_
  refine R_iload_n (i := 1) (dX4_become 2 rfl) rfl rfl ?_
  refine R_iload_n (i := 2) (dX4_become 3 rfl) rfl rfl ?_
  refine R_cS (st' := []) [.inr (.inr (some (ad 34))), .inl x1, .inl x2] [] (t_put l g S _ 34 (cl34 hS) (Nat.le_of_ble_eq_true rfl) x1 x2) msX9_put (Or.inr ⟨_, tb_1000⟩) ⟨Nat.le_of_ble_eq_true rfl, Nat.le_of_ble_eq_true rfl⟩ (Nat.zero_le _) (Nat.zero_le _) rfl rfl (Nat.le_of_ble_eq_true rfl) rfl (dX4_become 4 rfl) ?_
  refine R_aload_n (i := 0) (dX4_become 5 rfl) rfl rfl ?_
  refine R_getR cgX4 33 (cl33 hS) 1 (Nat.le_of_ble_eq_true rfl) rfl (Or.inl tb_544) (dX4_become 6 rfl) ?_
  refine R_iload_n (i := 1) (dX4_become 7 rfl) rfl rfl ?_
  refine R_iload_n (i := 3) (dX4_become 8 rfl) rfl rfl ?_
  refine R_cS (st' := []) [.inr (.inr (some (ad 35))), .inl x1, .inl x3] [] (t_put l g S _ 35 (cl35 hS) (Nat.le_of_ble_eq_true rfl) x1 x3) msX9_put (Or.inr ⟨_, tb_1000⟩) ⟨Nat.le_of_ble_eq_true rfl, Nat.le_of_ble_eq_true rfl⟩ (Nat.zero_le _) (Nat.zero_le _) rfl rfl (Nat.le_of_ble_eq_true rfl) rfl (dX4_become 9 rfl) ?_
  refine R_iconst (dX4_become 10 rfl) rfl ?_
  refine R_istore (i := 4) (ls' := [some (.inr (.inr (some (ad 33)))), some (.inl x1), some (.inl x2), some (.inl x3), some (.inl 0)]) (dX4_become 11 rfl) (Nat.le_of_ble_eq_true rfl) (Nat.le_of_ble_eq_true rfl) rfl rfl ?_
  refine R_mask [true, true, false, false, true] rfl ?_
  exact t_X4_become_L21 l g ad S hS x1  100000 0 (wr (wr M 34 4 x1 x2) 35 4 x1 x3) H 
def f_X4_read (x1 : Int) (x2 : Int) (M : Mem) : Int :=
  rd 160 (M 36) (w32 ((w32 (x1 * 40)) + x2))
set_option maxHeartbeats 4000000 in
theorem t_X4_read (l : Launch) (g : GG) (ad : Nat → Nat) (S : SW) (M : Mem) (hS : q_ag 0 38 ad S) (x1 : Int) (x2 : Int) : CT l g MX4_read 2 0 0 S M [.inr (.inr (some (ad 33))), .inl x1, .inl x2] (q_ex S (some (.inl (f_X4_read x1 x2 M))) M) := by
  obtain ⟨r, H⟩ : ∃ r, f_X4_read x1 x2 M = r := ⟨_, rfl⟩
  rw [H]
  unfold f_X4_read at H
  refine CT_of (ls0 := [some (.inr (.inr (some (ad 33)))), some (.inl x1), some (.inl x2)]) (by decide +kernel) (Nat.le_of_ble_eq_true rfl) rfl ?_
  refine R_aload_n (i := 0) (dX4_read 0 rfl) rfl rfl ?_
  refine R_getR cgX4 33 (cl33 hS) 2 (Nat.le_of_ble_eq_true rfl) rfl (Or.inl tb_545) (dX4_read 1 rfl) ?_
  refine R_iload_n (i := 1) (dX4_read 2 rfl) rfl rfl ?_
  refine R_bipush (dX4_read 3 rfl) rfl rfl ?_
  refine R_imul (dX4_read 4 rfl) ?_
  refine R_iload_n (i := 2) (dX4_read 5 rfl) rfl rfl ?_
  refine R_iadd (dX4_read 6 rfl) ?_
  refine R_cS (st' := [.inl (rd 160 (M 36) (w32 ((w32 (x1 * 40)) + x2)))]) [.inr (.inr (some (ad 36))), .inl (w32 ((w32 (x1 * 40)) + x2))] [] (t_at l g S _ 36 (cl36 hS) (Nat.le_of_ble_eq_true rfl) (w32 ((w32 (x1 * 40)) + x2))) msX9_at (Or.inr ⟨_, tb_979⟩) ⟨Nat.le_of_ble_eq_true rfl, Nat.le_of_ble_eq_true rfl⟩ (Nat.zero_le _) (Nat.zero_le _) rfl rfl (Nat.le_of_ble_eq_true rfl) rfl (dX4_read 7 rfl) ?_
  exact R_iret rfl rfl (Nat.zero_le _) (Nat.zero_le _) (dX4_read 8 rfl) ⟨congrArg (fun z => some (Sum.inl z)) H, rfl, rfl⟩
def f_X4_write (x1 : Int) (x2 : Int) (x3 : Int) (M : Mem) : Option (Int × Mem) :=
  if f_X4_sortOf x1 M = 0 then
    some (0, (wr M 36 160 (w32 ((w32 (x1 * 40)) + x2)) (b_i2b x3)))
  else
    if f_X4_sortOf x1 M = 1 then
      some (0, (wr M 36 160 (w32 ((w32 (x1 * 40)) + x2)) (b_i2s x3)))
    else
      some (0, (wr M 36 160 (w32 ((w32 (x1 * 40)) + x2)) x3))
set_option maxHeartbeats 4000000 in
theorem t_X4_write (l : Launch) (g : GG) (ad : Nat → Nat) (S : SW) (M : Mem) (hS : q_ag 0 38 ad S) (x1 : Int) (x2 : Int) (x3 : Int) {r : Int} {M' : Mem} (H : f_X4_write x1 x2 x3 M = some (r, M')) : CT l g MX4_write 3 0 0 S M [.inr (.inr (some (ad 33))), .inl x1, .inl x2, .inl x3] (q_ex S none M') := by
  unfold f_X4_write at H
  refine CT_of (ls0 := [some (.inr (.inr (some (ad 33)))), some (.inl x1), some (.inl x2), some (.inl x3), none]) (by decide +kernel) (Nat.le_of_ble_eq_true rfl) rfl ?_
  refine R_aload_n (i := 0) (dX4_write 0 rfl) rfl rfl ?_
  refine R_iload_n (i := 1) (dX4_write 1 rfl) rfl rfl ?_
  refine R_cV (st' := [.inl (f_X4_sortOf x1 M)]) [.inl x1] [] (t_X4_sortOf l g ad S _ hS   x1) msX4_sortOf (Or.inl tb_975) (Or.inl ⟨33, 4, _, _, _, (cl33 hS), rfl⟩) ⟨Nat.le_of_ble_eq_true rfl, Nat.le_of_ble_eq_true rfl⟩ (Nat.zero_le _) (Nat.zero_le _) rfl rfl (Nat.le_of_ble_eq_true rfl) rfl (dX4_write 2 rfl) ?_
  refine R_istore (i := 4) (ls' := [some (.inr (.inr (some (ad 33)))), some (.inl x1), some (.inl x2), some (.inl x3), some (.inl (f_X4_sortOf x1 M))]) (dX4_write 3 rfl) (Nat.le_of_ble_eq_true rfl) (Nat.le_of_ble_eq_true rfl) rfl rfl ?_
  refine R_aload_n (i := 0) (dX4_write 4 rfl) rfl rfl ?_
  refine R_getR cgX4 33 (cl33 hS) 2 (Nat.le_of_ble_eq_true rfl) rfl (Or.inl tb_545) (dX4_write 5 rfl) ?_
  refine R_iload_n (i := 1) (dX4_write 6 rfl) rfl rfl ?_
  refine R_bipush (dX4_write 7 rfl) rfl rfl ?_
  refine R_imul (dX4_write 8 rfl) ?_
  refine R_iload_n (i := 2) (dX4_write 9 rfl) rfl rfl ?_
  refine R_iadd (dX4_write 10 rfl) ?_
  refine R_iload (i := 4) (dX4_write 11 rfl) rfl ?_
  refine R_if_ne (tgt := 27) (dX4_write 12 rfl) (by decide) (fun hc => ?_) (fun hc => ?_)
  · have H := ite_F H hc
    refine R_iload (i := 4) (dX4_write 16 rfl) rfl ?_
    refine R_iconst (dX4_write 17 rfl) rfl ?_
    refine R_icmp_ne (tgt := 38) (dX4_write 18 rfl) (by decide) (fun hc => ?_) (fun hc => ?_)
    · have H := ite_F H hc
      refine R_iload_n (i := 3) (dX4_write 22 rfl) rfl rfl ?_
      refine R_cS (st' := []) [.inr (.inr (some (ad 36))), .inl (w32 ((w32 (x1 * 40)) + x2)), .inl x3] [] (t_put l g S _ 36 (cl36 hS) (Nat.le_of_ble_eq_true rfl) (w32 ((w32 (x1 * 40)) + x2)) x3) msX9_put (Or.inr ⟨_, tb_1000⟩) ⟨Nat.le_of_ble_eq_true rfl, Nat.le_of_ble_eq_true rfl⟩ (Nat.zero_le _) (Nat.zero_le _) rfl rfl (Nat.le_of_ble_eq_true rfl) rfl (dX4_write 23 rfl) ?_
      exact R_vret rfl (Nat.zero_le _) (Nat.zero_le _) (dX4_write 24 rfl) ⟨rfl, rfl, (Prod.mk.inj (Option.some.inj H)).2⟩
    · have H := ite_T H hc
      refine R_iload_n (i := 3) (dX4_write 19 rfl) rfl rfl ?_
      refine R_i2s (dX4_write 20 rfl) ?_
      refine R_goto (tgt := 39) (dX4_write 21 rfl) (by decide) ?_
      refine R_cS (st' := []) [.inr (.inr (some (ad 36))), .inl (w32 ((w32 (x1 * 40)) + x2)), .inl (b_i2s x3)] [] (t_put l g S _ 36 (cl36 hS) (Nat.le_of_ble_eq_true rfl) (w32 ((w32 (x1 * 40)) + x2)) (b_i2s x3)) msX9_put (Or.inr ⟨_, tb_1000⟩) ⟨Nat.le_of_ble_eq_true rfl, Nat.le_of_ble_eq_true rfl⟩ (Nat.zero_le _) (Nat.zero_le _) rfl rfl (Nat.le_of_ble_eq_true rfl) rfl (dX4_write 23 rfl) ?_
      exact R_vret rfl (Nat.zero_le _) (Nat.zero_le _) (dX4_write 24 rfl) ⟨rfl, rfl, (Prod.mk.inj (Option.some.inj H)).2⟩
  · have H := ite_T H hc
    refine R_iload_n (i := 3) (dX4_write 13 rfl) rfl rfl ?_
    refine R_i2b (dX4_write 14 rfl) ?_
    refine R_goto (tgt := 39) (dX4_write 15 rfl) (by decide) ?_
    refine R_cS (st' := []) [.inr (.inr (some (ad 36))), .inl (w32 ((w32 (x1 * 40)) + x2)), .inl (b_i2b x3)] [] (t_put l g S _ 36 (cl36 hS) (Nat.le_of_ble_eq_true rfl) (w32 ((w32 (x1 * 40)) + x2)) (b_i2b x3)) msX9_put (Or.inr ⟨_, tb_1000⟩) ⟨Nat.le_of_ble_eq_true rfl, Nat.le_of_ble_eq_true rfl⟩ (Nat.zero_le _) (Nat.zero_le _) rfl rfl (Nat.le_of_ble_eq_true rfl) rfl (dX4_write 23 rfl) ?_
    exact R_vret rfl (Nat.zero_le _) (Nat.zero_le _) (dX4_write 24 rfl) ⟨rfl, rfl, (Prod.mk.inj (Option.some.inj H)).2⟩
def f_X4_move (x1 : Int) (x2 : Int) (x3 : Int) (x4 : Int) (x5 : Int) (M : Mem) : Option (Int × Mem) :=
  if x5 < 0 then
    some (0, M)
  else
    if f_X9_within (w32 ((w32 (x1 * 40)) + x2)) 0 (w32 (160 - x5)) = 0 then
      some (0, M)
    else
      if f_X9_within (w32 ((w32 (x3 * 40)) + x4)) 0 (w32 (160 - x5)) = 0 then
        some (0, M)
      else
        if 0 ≤ w32 ((w32 (x1 * 40)) + x2) ∧ 0 ≤ w32 ((w32 (x3 * 40)) + x4) ∧ 0 ≤ x5 ∧ w32 ((w32 (x1 * 40)) + x2) + x5 ≤ 160 ∧ w32 ((w32 (x3 * 40)) + x4) + x5 ≤ 160 then
          some (0, (mcpy M 36 36 (w32 ((w32 (x1 * 40)) + x2)).toNat (w32 ((w32 (x3 * 40)) + x4)).toNat (x5).toNat))
        else none
set_option maxHeartbeats 4000000 in
theorem t_X4_move (l : Launch) (g : GG) (ad : Nat → Nat) (S : SW) (M : Mem) (hS : q_ag 0 38 ad S) (x1 : Int) (x2 : Int) (x3 : Int) (x4 : Int) (x5 : Int) {r : Int} {M' : Mem} (H : f_X4_move x1 x2 x3 x4 x5 M = some (r, M')) : CT l g MX4_move 2 0 0 S M [.inr (.inr (some (ad 33))), .inl x1, .inl x2, .inl x3, .inl x4, .inl x5] (q_ex S none M') := by
  unfold f_X4_move at H
  refine CT_of (ls0 := [some (.inr (.inr (some (ad 33)))), some (.inl x1), some (.inl x2), some (.inl x3), some (.inl x4), some (.inl x5), none, none]) (by decide +kernel) (Nat.le_of_ble_eq_true rfl) rfl ?_
  refine R_iload_n (i := 1) (dX4_move 0 rfl) rfl rfl ?_
  refine R_bipush (dX4_move 1 rfl) rfl rfl ?_
  refine R_imul (dX4_move 2 rfl) ?_
  refine R_iload_n (i := 2) (dX4_move 3 rfl) rfl rfl ?_
  refine R_iadd (dX4_move 4 rfl) ?_
  refine R_istore (i := 6) (ls' := [some (.inr (.inr (some (ad 33)))), some (.inl x1), some (.inl x2), some (.inl x3), some (.inl x4), some (.inl x5), some (.inl (w32 ((w32 (x1 * 40)) + x2))), none]) (dX4_move 5 rfl) (Nat.le_of_ble_eq_true rfl) (Nat.le_of_ble_eq_true rfl) rfl rfl ?_
  refine R_iload_n (i := 3) (dX4_move 6 rfl) rfl rfl ?_
  refine R_bipush (dX4_move 7 rfl) rfl rfl ?_
  refine R_imul (dX4_move 8 rfl) ?_
  refine R_iload (i := 4) (dX4_move 9 rfl) rfl ?_
  refine R_iadd (dX4_move 10 rfl) ?_
  refine R_istore (i := 7) (ls' := [some (.inr (.inr (some (ad 33)))), some (.inl x1), some (.inl x2), some (.inl x3), some (.inl x4), some (.inl x5), some (.inl (w32 ((w32 (x1 * 40)) + x2))), some (.inl (w32 ((w32 (x3 * 40)) + x4)))]) (dX4_move 11 rfl) (Nat.le_of_ble_eq_true rfl) (Nat.le_of_ble_eq_true rfl) rfl rfl ?_
  refine R_iload (i := 5) (dX4_move 12 rfl) rfl ?_
  refine R_if_lt (tgt := 73) (dX4_move 13 rfl) (by decide) (fun hc => ?_) (fun hc => ?_)
  · have H := ite_T H hc
    exact R_vret rfl (Nat.zero_le _) (Nat.zero_le _) (dX4_move 40 rfl) ⟨rfl, rfl, (Prod.mk.inj (Option.some.inj H)).2⟩
  · have H := ite_F H hc
    refine R_iload (i := 6) (dX4_move 14 rfl) rfl ?_
    refine R_iconst (dX4_move 15 rfl) rfl ?_
    refine R_aload_n (i := 0) (dX4_move 16 rfl) rfl rfl ?_
    refine R_getR cgX4 33 (cl33 hS) 2 (Nat.le_of_ble_eq_true rfl) rfl (Or.inl tb_545) (dX4_move 17 rfl) ?_
    refine R_alen 36 (cl36 hS) (Nat.le_of_ble_eq_true rfl) (dX4_move 18 rfl) ?_
    refine R_iload (i := 5) (dX4_move 19 rfl) rfl ?_
    refine R_isub (dX4_move 20 rfl) ?_
    refine R_cS (st' := [.inl (f_X9_within (w32 ((w32 (x1 * 40)) + x2)) 0 (w32 (160 - x5)))]) [.inl (w32 ((w32 (x1 * 40)) + x2)), .inl 0, .inl (w32 (160 - x5))] [] (t_X9_within l g S _   (w32 ((w32 (x1 * 40)) + x2)) 0 (w32 (160 - x5))) msX9_within (Or.inr ⟨_, tb_1054⟩) ⟨Nat.le_of_ble_eq_true rfl, Nat.le_of_ble_eq_true rfl⟩ (Nat.zero_le _) (Nat.zero_le _) rfl rfl (Nat.le_of_ble_eq_true rfl) rfl (dX4_move 21 rfl) ?_
    refine R_if_eq (tgt := 73) (dX4_move 22 rfl) (by decide) (fun hc => ?_) (fun hc => ?_)
    · have H := ite_T H hc
      exact R_vret rfl (Nat.zero_le _) (Nat.zero_le _) (dX4_move 40 rfl) ⟨rfl, rfl, (Prod.mk.inj (Option.some.inj H)).2⟩
    · have H := ite_F H hc
      refine R_iload (i := 7) (dX4_move 23 rfl) rfl ?_
      refine R_iconst (dX4_move 24 rfl) rfl ?_
      refine R_aload_n (i := 0) (dX4_move 25 rfl) rfl rfl ?_
      refine R_getR cgX4 33 (cl33 hS) 2 (Nat.le_of_ble_eq_true rfl) rfl (Or.inl tb_545) (dX4_move 26 rfl) ?_
      refine R_alen 36 (cl36 hS) (Nat.le_of_ble_eq_true rfl) (dX4_move 27 rfl) ?_
      refine R_iload (i := 5) (dX4_move 28 rfl) rfl ?_
      refine R_isub (dX4_move 29 rfl) ?_
      refine R_cS (st' := [.inl (f_X9_within (w32 ((w32 (x3 * 40)) + x4)) 0 (w32 (160 - x5)))]) [.inl (w32 ((w32 (x3 * 40)) + x4)), .inl 0, .inl (w32 (160 - x5))] [] (t_X9_within l g S _   (w32 ((w32 (x3 * 40)) + x4)) 0 (w32 (160 - x5))) msX9_within (Or.inr ⟨_, tb_1054⟩) ⟨Nat.le_of_ble_eq_true rfl, Nat.le_of_ble_eq_true rfl⟩ (Nat.zero_le _) (Nat.zero_le _) rfl rfl (Nat.le_of_ble_eq_true rfl) rfl (dX4_move 30 rfl) ?_
      refine R_if_eq (tgt := 73) (dX4_move 31 rfl) (by decide) (fun hc => ?_) (fun hc => ?_)
      · have H := ite_T H hc
        exact R_vret rfl (Nat.zero_le _) (Nat.zero_le _) (dX4_move 40 rfl) ⟨rfl, rfl, (Prod.mk.inj (Option.some.inj H)).2⟩
      · have H := ite_F H hc
        refine R_aload_n (i := 0) (dX4_move 32 rfl) rfl rfl ?_
        refine R_getR cgX4 33 (cl33 hS) 2 (Nat.le_of_ble_eq_true rfl) rfl (Or.inl tb_545) (dX4_move 33 rfl) ?_
        refine R_iload (i := 6) (dX4_move 34 rfl) rfl ?_
        refine R_aload_n (i := 0) (dX4_move 35 rfl) rfl rfl ?_
        refine R_getR cgX4 33 (cl33 hS) 2 (Nat.le_of_ble_eq_true rfl) rfl (Or.inl tb_545) (dX4_move 36 rfl) ?_
        refine R_iload (i := 7) (dX4_move 37 rfl) rfl ?_
        refine R_iload (i := 5) (dX4_move 38 rfl) rfl ?_
        obtain ⟨hg, H⟩ := ite_G H
        refine R_copy 36 36 (cl36 hS) (cl36 hS) hg.1 hg.2.1 hg.2.2.1 hg.2.2.2.1 hg.2.2.2.2 tb_1055 tb_898 tb_897 tb_88 (Nat.le_of_ble_eq_true rfl) (Nat.le_of_ble_eq_true rfl) (Nat.le_of_ble_eq_true rfl) (dX4_move 39 rfl) ?_
        exact R_vret rfl (Nat.zero_le _) (Nat.zero_le _) (dX4_move 40 rfl) ⟨rfl, rfl, (Prod.mk.inj (Option.some.inj H)).2⟩
def f_X5_add (x1 : Int) (M : Mem) : Option (Int × Mem) :=
  if M 13 3 < 160 then
    some (0, (mset (wr M 14 160 (M 13 3) x1) 13 3 (w32 (((wr M 14 160 (M 13 3) x1) 13 3) + 1))))
  else
    some (0, M)
set_option maxHeartbeats 4000000 in
theorem t_X5_add (l : Launch) (g : GG) (ad : Nat → Nat) (S : SW) (M : Mem) (hS : q_ag 12 21 ad S) (x1 : Int) {r : Int} {M' : Mem} (H : f_X5_add x1 M = some (r, M')) : CT l g MX5_add 2 0 0 S M [.inr (.inr (some (ad 13))), .inl x1] (q_ex S none M') := by
  unfold f_X5_add at H
  refine CT_of (ls0 := [some (.inr (.inr (some (ad 13)))), some (.inl x1)]) (by decide +kernel) (Nat.le_of_ble_eq_true rfl) rfl ?_
  refine R_aload_n (i := 0) (dX5_add 0 rfl) rfl rfl ?_
  refine R_getI cgX5 13 (cl13 hS) 3 (Nat.le_of_ble_eq_true rfl) rfl (Or.inl tb_197) (dX5_add 1 rfl) ?_
  refine R_sipush (dX5_add 2 rfl) rfl rfl ?_
  refine R_icmp_ge (tgt := 32) (dX5_add 3 rfl) (by decide) (fun hc => ?_) (fun hc => ?_)
  · have H := ite_F H hc
    exact R_vret rfl (Nat.zero_le _) (Nat.zero_le _) (dX5_add 16 rfl) ⟨rfl, rfl, (Prod.mk.inj (Option.some.inj H)).2⟩
  · have H := ite_T H hc
    refine R_aload_n (i := 0) (dX5_add 4 rfl) rfl rfl ?_
    refine R_getR cgX5 13 (cl13 hS) 0 (Nat.le_of_ble_eq_true rfl) rfl (Or.inl tb_192) (dX5_add 5 rfl) ?_
    refine R_aload_n (i := 0) (dX5_add 6 rfl) rfl rfl ?_
    refine R_getI cgX5 13 (cl13 hS) 3 (Nat.le_of_ble_eq_true rfl) rfl (Or.inl tb_197) (dX5_add 7 rfl) ?_
    refine R_iload_n (i := 1) (dX5_add 8 rfl) rfl rfl ?_
    refine R_cS (st' := []) [.inr (.inr (some (ad 14))), .inl (M 13 3), .inl x1] [] (t_put l g S _ 14 (cl14 hS) (Nat.le_of_ble_eq_true rfl) (M 13 3) x1) msX9_put (Or.inr ⟨_, tb_261⟩) ⟨Nat.le_of_ble_eq_true rfl, Nat.le_of_ble_eq_true rfl⟩ (Nat.zero_le _) (Nat.zero_le _) rfl rfl (Nat.le_of_ble_eq_true rfl) rfl (dX5_add 9 rfl) ?_
    refine R_aload_n (i := 0) (dX5_add 10 rfl) rfl rfl ?_
    refine R_dup rfl (dX5_add 11 rfl) ?_
    refine R_getI cgX5 13 (cl13 hS) 3 (Nat.le_of_ble_eq_true rfl) rfl (Or.inl tb_197) (dX5_add 12 rfl) ?_
    refine R_iconst (dX5_add 13 rfl) rfl ?_
    refine R_iadd (dX5_add 14 rfl) ?_
    refine R_putI cgX5 13 (cl13 hS) 3 (Nat.le_of_ble_eq_true rfl) rfl rfl rfl rfl (Or.inl tb_197) (dX5_add 15 rfl) ?_
    exact R_vret rfl (Nat.zero_le _) (Nat.zero_le _) (dX5_add 16 rfl) ⟨rfl, rfl, (Prod.mk.inj (Option.some.inj H)).2⟩
def f_X5_empty (M : Mem) : Option (Int × Mem) :=
  some (0, (mset M 13 3 0))
set_option maxHeartbeats 4000000 in
theorem t_X5_empty (l : Launch) (g : GG) (ad : Nat → Nat) (S : SW) (M : Mem) (hS : q_ag 12 21 ad S) {r : Int} {M' : Mem} (H : f_X5_empty M = some (r, M')) : CT l g MX5_empty 1 0 0 S M [.inr (.inr (some (ad 13)))] (q_ex S none M') := by
  unfold f_X5_empty at H
  refine CT_of (ls0 := [some (.inr (.inr (some (ad 13))))]) (by decide +kernel) (Nat.le_of_ble_eq_true rfl) rfl ?_
  refine R_aload_n (i := 0) (dX5_empty 0 rfl) rfl rfl ?_
  refine R_iconst (dX5_empty 1 rfl) rfl ?_
  refine R_putI cgX5 13 (cl13 hS) 3 (Nat.le_of_ble_eq_true rfl) rfl rfl rfl rfl (Or.inl tb_197) (dX5_empty 2 rfl) ?_
  exact R_vret rfl (Nat.zero_le _) (Nat.zero_le _) (dX5_empty 3 rfl) ⟨rfl, rfl, (Prod.mk.inj (Option.some.inj H)).2⟩
def f_X5_isBlank (x0 : Int) : Int :=
  if x0 = 32 then
    1
  else
    if x0 = 10 then
      1
    else
      0
set_option maxHeartbeats 4000000 in
theorem t_X5_isBlank (l : Launch) (g : GG) (ad : Nat → Nat) (S : SW) (M : Mem) (hS : q_ag 12 21 ad S) (x0 : Int) : CT l g MX5_isBlank 1 0 0 S M [.inl x0] (q_ex S (some (.inl (f_X5_isBlank x0))) M) := by
  obtain ⟨r, H⟩ : ∃ r, f_X5_isBlank x0 = r := ⟨_, rfl⟩
  rw [H]
  unfold f_X5_isBlank at H
  refine CT_of (ls0 := [some (.inl x0)]) (by decide +kernel) (Nat.le_of_ble_eq_true rfl) rfl ?_
  refine R_iload_n (i := 0) (dX5_isBlank 0 rfl) rfl rfl ?_
  refine R_bipush (dX5_isBlank 1 rfl) rfl rfl ?_
  refine R_icmp_eq (tgt := 12) (dX5_isBlank 2 rfl) (by decide) (fun hc => ?_) (fun hc => ?_)
  · have H := ite_T H hc
    refine R_iconst (dX5_isBlank 6 rfl) rfl ?_
    refine R_goto (tgt := 17) (dX5_isBlank 7 rfl) (by decide) ?_
    exact R_iret rfl (by decide +kernel) (Nat.zero_le _) (Nat.zero_le _) (dX5_isBlank 9 rfl) ⟨congrArg (fun z => some (Sum.inl z)) H, rfl, rfl⟩
  · have H := ite_F H hc
    refine R_iload_n (i := 0) (dX5_isBlank 3 rfl) rfl rfl ?_
    refine R_bipush (dX5_isBlank 4 rfl) rfl rfl ?_
    refine R_icmp_ne (tgt := 16) (dX5_isBlank 5 rfl) (by decide) (fun hc => ?_) (fun hc => ?_)
    · have H := ite_F H hc
      refine R_iconst (dX5_isBlank 8 rfl) rfl ?_
      exact R_iret rfl (by decide +kernel) (Nat.zero_le _) (Nat.zero_le _) (dX5_isBlank 9 rfl) ⟨congrArg (fun z => some (Sum.inl z)) H, rfl, rfl⟩
    · have H := ite_T H hc
      refine R_iconst (dX5_isBlank 6 rfl) rfl ?_
      refine R_goto (tgt := 17) (dX5_isBlank 7 rfl) (by decide) ?_
      exact R_iret rfl (by decide +kernel) (Nat.zero_le _) (Nat.zero_le _) (dX5_isBlank 9 rfl) ⟨congrArg (fun z => some (Sum.inl z)) H, rfl, rfl⟩
theorem z_X5_isBlank (x0 : Int) : f_X5_isBlank x0 = 0 ∨ f_X5_isBlank x0 = 1 := by
  unfold f_X5_isBlank
  (repeat' split) <;> first | exact Or.inl rfl | exact Or.inr rfl
def f_X5_isLetter (x0 : Int) : Int :=
  f_X9_within x0 97 122
set_option maxHeartbeats 4000000 in
theorem t_X5_isLetter (l : Launch) (g : GG) (ad : Nat → Nat) (S : SW) (M : Mem) (hS : q_ag 12 21 ad S) (x0 : Int) : CT l g MX5_isLetter 2 0 0 S M [.inl x0] (q_ex S (some (.inl (f_X5_isLetter x0))) M) := by
  obtain ⟨r, H⟩ : ∃ r, f_X5_isLetter x0 = r := ⟨_, rfl⟩
  rw [H]
  unfold f_X5_isLetter at H
  refine CT_of (ls0 := [some (.inl x0)]) (by decide +kernel) (Nat.le_of_ble_eq_true rfl) rfl ?_
  refine R_iload_n (i := 0) (dX5_isLetter 0 rfl) rfl rfl ?_
  refine R_bipush (dX5_isLetter 1 rfl) rfl rfl ?_
  refine R_bipush (dX5_isLetter 2 rfl) rfl rfl ?_
  refine R_cS (st' := [.inl (f_X9_within x0 97 122)]) [.inl x0, .inl 97, .inl 122] [] (t_X9_within l g S _   x0 97 122) msX9_within (Or.inr ⟨_, tb_281⟩) ⟨Nat.le_of_ble_eq_true rfl, Nat.le_of_ble_eq_true rfl⟩ (Nat.zero_le _) (Nat.zero_le _) rfl rfl (Nat.le_of_ble_eq_true rfl) rfl (dX5_isLetter 3 rfl) ?_
  exact R_iret rfl (q_nbz (z_X9_within x0 97 122)) (Nat.zero_le _) (Nat.zero_le _) (dX5_isLetter 4 rfl) ⟨congrArg (fun z => some (Sum.inl z)) H, rfl, rfl⟩
theorem z_X5_isLetter (x0 : Int) : f_X5_isLetter x0 = 0 ∨ f_X5_isLetter x0 = 1 := by
  unfold f_X5_isLetter
  (repeat' split) <;> first | exact Or.inl rfl | exact Or.inr rfl | exact z_X9_within ..
def f_X5_isDigit (x0 : Int) : Int :=
  f_X9_within x0 48 57
set_option maxHeartbeats 4000000 in
theorem t_X5_isDigit (l : Launch) (g : GG) (ad : Nat → Nat) (S : SW) (M : Mem) (hS : q_ag 12 21 ad S) (x0 : Int) : CT l g MX5_isDigit 2 0 0 S M [.inl x0] (q_ex S (some (.inl (f_X5_isDigit x0))) M) := by
  obtain ⟨r, H⟩ : ∃ r, f_X5_isDigit x0 = r := ⟨_, rfl⟩
  rw [H]
  unfold f_X5_isDigit at H
  refine CT_of (ls0 := [some (.inl x0)]) (by decide +kernel) (Nat.le_of_ble_eq_true rfl) rfl ?_
  refine R_iload_n (i := 0) (dX5_isDigit 0 rfl) rfl rfl ?_
  refine R_bipush (dX5_isDigit 1 rfl) rfl rfl ?_
  refine R_bipush (dX5_isDigit 2 rfl) rfl rfl ?_
  refine R_cS (st' := [.inl (f_X9_within x0 48 57)]) [.inl x0, .inl 48, .inl 57] [] (t_X9_within l g S _   x0 48 57) msX9_within (Or.inr ⟨_, tb_281⟩) ⟨Nat.le_of_ble_eq_true rfl, Nat.le_of_ble_eq_true rfl⟩ (Nat.zero_le _) (Nat.zero_le _) rfl rfl (Nat.le_of_ble_eq_true rfl) rfl (dX5_isDigit 3 rfl) ?_
  exact R_iret rfl (q_nbz (z_X9_within x0 48 57)) (Nat.zero_le _) (Nat.zero_le _) (dX5_isDigit 4 rfl) ⟨congrArg (fun z => some (Sum.inl z)) H, rfl, rfl⟩
theorem z_X5_isDigit (x0 : Int) : f_X5_isDigit x0 = 0 ∨ f_X5_isDigit x0 = 1 := by
  unfold f_X5_isDigit
  (repeat' split) <;> first | exact Or.inl rfl | exact Or.inr rfl | exact z_X9_within ..
def f_X5_endOf_L29 (x3 : Int) (x4 : Int) (M : Mem) : Nat → Int → Option Int
  | 0, _ => none
  | n + 1, x2 =>
    if x2 < M 13 3 then
      if x3 = 0 then
        if x4 = 0 then
          some x2
        else
          if f_X5_isDigit (rd 160 (M 14) x2) = 0 then
            some x2
          else
            f_X5_endOf_L29 x3 x4 M n (w32 (x2 + 1))
      else
        if f_X5_isLetter (rd 160 (M 14) x2) = 0 then
          if x4 = 0 then
            some x2
          else
            if f_X5_isDigit (rd 160 (M 14) x2) = 0 then
              some x2
            else
              f_X5_endOf_L29 x3 x4 M n (w32 (x2 + 1))
        else
          f_X5_endOf_L29 x3 x4 M n (w32 (x2 + 1))
    else
      some x2
set_option maxHeartbeats 4000000 in
theorem t_X5_endOf_L29 (l : Launch) (g : GG) (ad : Nat → Nat) (S : SW) (M : Mem) (hS : q_ag 12 21 ad S) (x3 : Int) (x4 : Int) {r : Int} : ∀ (n : Nat) (x2 : Int), f_X5_endOf_L29 x3 x4 M n x2 = some r → RW l g MX5_endOf (q_rm 3 0 0) 0 0 (q_ex S (some (.inl r)) M) 29 S M 0 0 [some (.inr (.inr (some (ad 13)))), none, some (.inl x2), some (.inl x3), some (.inl x4)] [] := by
  intro n
  induction n with
  | zero => intro x2 H; exact absurd H (by simp [f_X5_endOf_L29])
  | succ n ih =>
    intro x2 H
    rw [f_X5_endOf_L29] at H
    refine R_iload_n (i := 2) (dX5_endOf 16 rfl) rfl rfl ?_
    refine R_aload_n (i := 0) (dX5_endOf 17 rfl) rfl rfl ?_
    refine R_getI cgX5 13 (cl13 hS) 3 (Nat.le_of_ble_eq_true rfl) rfl (Or.inl tb_197) (dX5_endOf 18 rfl) ?_
    refine R_icmp_ge (tgt := 80) (dX5_endOf 19 rfl) (by decide) (fun hc => ?_) (fun hc => ?_)
    · have H := ite_F H hc
      refine R_iload_n (i := 2) (dX5_endOf 38 rfl) rfl rfl ?_
      exact R_iret rfl rfl (Nat.zero_le _) (Nat.zero_le _) (dX5_endOf 39 rfl) ⟨congrArg (fun z => some (Sum.inl z)) (Option.some.inj H), rfl, rfl⟩
    · have H := ite_T H hc
      refine R_iload_n (i := 3) (dX5_endOf 20 rfl) rfl rfl ?_
      refine R_if_eq (tgt := 55) (dX5_endOf 21 rfl) (by decide) (fun hc => ?_) (fun hc => ?_)
      · have H := ite_T H hc
        refine R_iload (i := 4) (dX5_endOf 28 rfl) rfl ?_
        refine R_if_eq (tgt := 80) (dX5_endOf 29 rfl) (by decide) (fun hc => ?_) (fun hc => ?_)
        · have H := ite_T H hc
          refine R_iload_n (i := 2) (dX5_endOf 38 rfl) rfl rfl ?_
          exact R_iret rfl rfl (Nat.zero_le _) (Nat.zero_le _) (dX5_endOf 39 rfl) ⟨congrArg (fun z => some (Sum.inl z)) (Option.some.inj H), rfl, rfl⟩
        · have H := ite_F H hc
          refine R_aload_n (i := 0) (dX5_endOf 30 rfl) rfl rfl ?_
          refine R_getR cgX5 13 (cl13 hS) 0 (Nat.le_of_ble_eq_true rfl) rfl (Or.inl tb_192) (dX5_endOf 31 rfl) ?_
          refine R_iload_n (i := 2) (dX5_endOf 32 rfl) rfl rfl ?_
          refine R_cS (st' := [.inl (rd 160 (M 14) x2)]) [.inr (.inr (some (ad 14))), .inl x2] [] (t_at l g S _ 14 (cl14 hS) (Nat.le_of_ble_eq_true rfl) x2) msX9_at (Or.inr ⟨_, tb_270⟩) ⟨Nat.le_of_ble_eq_true rfl, Nat.le_of_ble_eq_true rfl⟩ (Nat.zero_le _) (Nat.zero_le _) rfl rfl (Nat.le_of_ble_eq_true rfl) rfl (dX5_endOf 33 rfl) ?_
          refine R_cS (st' := [.inl (f_X5_isDigit (rd 160 (M 14) x2))]) [.inl (rd 160 (M 14) x2)] [] (t_X5_isDigit l g ad S _ hS   (rd 160 (M 14) x2)) msX5_isDigit (Or.inl tb_284) ⟨Nat.le_of_ble_eq_true rfl, Nat.le_of_ble_eq_true rfl⟩ (Nat.zero_le _) (Nat.zero_le _) rfl rfl (Nat.le_of_ble_eq_true rfl) rfl (dX5_endOf 34 rfl) ?_
          refine R_if_eq (tgt := 80) (dX5_endOf 35 rfl) (by decide) (fun hc => ?_) (fun hc => ?_)
          · have H := ite_T H hc
            refine R_iload_n (i := 2) (dX5_endOf 38 rfl) rfl rfl ?_
            exact R_iret rfl rfl (Nat.zero_le _) (Nat.zero_le _) (dX5_endOf 39 rfl) ⟨congrArg (fun z => some (Sum.inl z)) (Option.some.inj H), rfl, rfl⟩
          · have H := ite_F H hc
            refine R_iinc (i := 2) (ls' := [some (.inr (.inr (some (ad 13)))), none, some (.inl (w32 (x2 + 1))), some (.inl x3), some (.inl x4)]) (dX5_endOf 36 rfl) rfl (Nat.le_of_ble_eq_true rfl) rfl rfl ?_
            refine R_goto (tgt := 29) (dX5_endOf 37 rfl) (by decide) ?_
            exact ih (w32 (x2 + 1)) H
      · have H := ite_F H hc
        refine R_aload_n (i := 0) (dX5_endOf 22 rfl) rfl rfl ?_
        refine R_getR cgX5 13 (cl13 hS) 0 (Nat.le_of_ble_eq_true rfl) rfl (Or.inl tb_192) (dX5_endOf 23 rfl) ?_
        refine R_iload_n (i := 2) (dX5_endOf 24 rfl) rfl rfl ?_
        refine R_cS (st' := [.inl (rd 160 (M 14) x2)]) [.inr (.inr (some (ad 14))), .inl x2] [] (t_at l g S _ 14 (cl14 hS) (Nat.le_of_ble_eq_true rfl) x2) msX9_at (Or.inr ⟨_, tb_270⟩) ⟨Nat.le_of_ble_eq_true rfl, Nat.le_of_ble_eq_true rfl⟩ (Nat.zero_le _) (Nat.zero_le _) rfl rfl (Nat.le_of_ble_eq_true rfl) rfl (dX5_endOf 25 rfl) ?_
        refine R_cS (st' := [.inl (f_X5_isLetter (rd 160 (M 14) x2))]) [.inl (rd 160 (M 14) x2)] [] (t_X5_isLetter l g ad S _ hS   (rd 160 (M 14) x2)) msX5_isLetter (Or.inl tb_278) ⟨Nat.le_of_ble_eq_true rfl, Nat.le_of_ble_eq_true rfl⟩ (Nat.zero_le _) (Nat.zero_le _) rfl rfl (Nat.le_of_ble_eq_true rfl) rfl (dX5_endOf 26 rfl) ?_
        refine R_if_ne (tgt := 74) (dX5_endOf 27 rfl) (by decide) (fun hc => ?_) (fun hc => ?_)
        · have H := ite_F H hc
          refine R_iinc (i := 2) (ls' := [some (.inr (.inr (some (ad 13)))), none, some (.inl (w32 (x2 + 1))), some (.inl x3), some (.inl x4)]) (dX5_endOf 36 rfl) rfl (Nat.le_of_ble_eq_true rfl) rfl rfl ?_
          refine R_goto (tgt := 29) (dX5_endOf 37 rfl) (by decide) ?_
          exact ih (w32 (x2 + 1)) H
        · have H := ite_T H hc
          refine R_iload (i := 4) (dX5_endOf 28 rfl) rfl ?_
          refine R_if_eq (tgt := 80) (dX5_endOf 29 rfl) (by decide) (fun hc => ?_) (fun hc => ?_)
          · have H := ite_T H hc
            refine R_iload_n (i := 2) (dX5_endOf 38 rfl) rfl rfl ?_
            exact R_iret rfl rfl (Nat.zero_le _) (Nat.zero_le _) (dX5_endOf 39 rfl) ⟨congrArg (fun z => some (Sum.inl z)) (Option.some.inj H), rfl, rfl⟩
          · have H := ite_F H hc
            refine R_aload_n (i := 0) (dX5_endOf 30 rfl) rfl rfl ?_
            refine R_getR cgX5 13 (cl13 hS) 0 (Nat.le_of_ble_eq_true rfl) rfl (Or.inl tb_192) (dX5_endOf 31 rfl) ?_
            refine R_iload_n (i := 2) (dX5_endOf 32 rfl) rfl rfl ?_
            refine R_cS (st' := [.inl (rd 160 (M 14) x2)]) [.inr (.inr (some (ad 14))), .inl x2] [] (t_at l g S _ 14 (cl14 hS) (Nat.le_of_ble_eq_true rfl) x2) msX9_at (Or.inr ⟨_, tb_270⟩) ⟨Nat.le_of_ble_eq_true rfl, Nat.le_of_ble_eq_true rfl⟩ (Nat.zero_le _) (Nat.zero_le _) rfl rfl (Nat.le_of_ble_eq_true rfl) rfl (dX5_endOf 33 rfl) ?_
            refine R_cS (st' := [.inl (f_X5_isDigit (rd 160 (M 14) x2))]) [.inl (rd 160 (M 14) x2)] [] (t_X5_isDigit l g ad S _ hS   (rd 160 (M 14) x2)) msX5_isDigit (Or.inl tb_284) ⟨Nat.le_of_ble_eq_true rfl, Nat.le_of_ble_eq_true rfl⟩ (Nat.zero_le _) (Nat.zero_le _) rfl rfl (Nat.le_of_ble_eq_true rfl) rfl (dX5_endOf 34 rfl) ?_
            refine R_if_eq (tgt := 80) (dX5_endOf 35 rfl) (by decide) (fun hc => ?_) (fun hc => ?_)
            · have H := ite_T H hc
              refine R_iload_n (i := 2) (dX5_endOf 38 rfl) rfl rfl ?_
              exact R_iret rfl rfl (Nat.zero_le _) (Nat.zero_le _) (dX5_endOf 39 rfl) ⟨congrArg (fun z => some (Sum.inl z)) (Option.some.inj H), rfl, rfl⟩
            · have H := ite_F H hc
              refine R_iinc (i := 2) (ls' := [some (.inr (.inr (some (ad 13)))), none, some (.inl (w32 (x2 + 1))), some (.inl x3), some (.inl x4)]) (dX5_endOf 36 rfl) rfl (Nat.le_of_ble_eq_true rfl) rfl rfl ?_
              refine R_goto (tgt := 29) (dX5_endOf 37 rfl) (by decide) ?_
              exact ih (w32 (x2 + 1)) H
def f_X5_endOf (x1 : Int) (M : Mem) : Option Int :=
  f_X5_endOf_L29
    (f_X5_isLetter (rd 160 (M 14) x1)) (f_X5_isDigit (rd 160 (M 14) x1)) M 100000 (w32 (x1 + 1))
set_option maxHeartbeats 4000000 in
theorem t_X5_endOf (l : Launch) (g : GG) (ad : Nat → Nat) (S : SW) (M : Mem) (hS : q_ag 12 21 ad S) (x1 : Int) {r : Int} (H : f_X5_endOf x1 M = some r) : CT l g MX5_endOf 3 0 0 S M [.inr (.inr (some (ad 13))), .inl x1] (q_ex S (some (.inl r)) M) := by
  unfold f_X5_endOf at H
  refine CT_of (ls0 := [some (.inr (.inr (some (ad 13)))), some (.inl x1), none, none, none]) (by decide +kernel) (Nat.le_of_ble_eq_true rfl) rfl ?_
  refine R_iload_n (i := 1) (dX5_endOf 0 rfl) rfl rfl ?_
  refine R_iconst (dX5_endOf 1 rfl) rfl ?_
  refine R_iadd (dX5_endOf 2 rfl) ?_
  refine R_istore_n (i := 2) (ls' := [some (.inr (.inr (some (ad 13)))), some (.inl x1), some (.inl (w32 (x1 + 1))), none, none]) (dX5_endOf 3 rfl) rfl (Nat.le_of_ble_eq_true rfl) (Nat.le_of_ble_eq_true rfl) rfl rfl ?_
  refine R_aload_n (i := 0) (dX5_endOf 4 rfl) rfl rfl ?_
  refine R_getR cgX5 13 (cl13 hS) 0 (Nat.le_of_ble_eq_true rfl) rfl (Or.inl tb_192) (dX5_endOf 5 rfl) ?_
  refine R_iload_n (i := 1) (dX5_endOf 6 rfl) rfl rfl ?_
  refine R_cS (st' := [.inl (rd 160 (M 14) x1)]) [.inr (.inr (some (ad 14))), .inl x1] [] (t_at l g S _ 14 (cl14 hS) (Nat.le_of_ble_eq_true rfl) x1) msX9_at (Or.inr ⟨_, tb_270⟩) ⟨Nat.le_of_ble_eq_true rfl, Nat.le_of_ble_eq_true rfl⟩ (Nat.zero_le _) (Nat.zero_le _) rfl rfl (Nat.le_of_ble_eq_true rfl) rfl (dX5_endOf 7 rfl) ?_
  refine R_cS (st' := [.inl (f_X5_isLetter (rd 160 (M 14) x1))]) [.inl (rd 160 (M 14) x1)] [] (t_X5_isLetter l g ad S _ hS   (rd 160 (M 14) x1)) msX5_isLetter (Or.inl tb_278) ⟨Nat.le_of_ble_eq_true rfl, Nat.le_of_ble_eq_true rfl⟩ (Nat.zero_le _) (Nat.zero_le _) rfl rfl (Nat.le_of_ble_eq_true rfl) rfl (dX5_endOf 8 rfl) ?_
  refine R_istore_n (i := 3) (ls' := [some (.inr (.inr (some (ad 13)))), some (.inl x1), some (.inl (w32 (x1 + 1))), some (.inl (f_X5_isLetter (rd 160 (M 14) x1))), none]) (dX5_endOf 9 rfl) rfl (Nat.le_of_ble_eq_true rfl) (Nat.le_of_ble_eq_true rfl) rfl rfl ?_
  refine R_aload_n (i := 0) (dX5_endOf 10 rfl) rfl rfl ?_
  refine R_getR cgX5 13 (cl13 hS) 0 (Nat.le_of_ble_eq_true rfl) rfl (Or.inl tb_192) (dX5_endOf 11 rfl) ?_
  refine R_iload_n (i := 1) (dX5_endOf 12 rfl) rfl rfl ?_
  refine R_cS (st' := [.inl (rd 160 (M 14) x1)]) [.inr (.inr (some (ad 14))), .inl x1] [] (t_at l g S _ 14 (cl14 hS) (Nat.le_of_ble_eq_true rfl) x1) msX9_at (Or.inr ⟨_, tb_270⟩) ⟨Nat.le_of_ble_eq_true rfl, Nat.le_of_ble_eq_true rfl⟩ (Nat.zero_le _) (Nat.zero_le _) rfl rfl (Nat.le_of_ble_eq_true rfl) rfl (dX5_endOf 13 rfl) ?_
  refine R_cS (st' := [.inl (f_X5_isDigit (rd 160 (M 14) x1))]) [.inl (rd 160 (M 14) x1)] [] (t_X5_isDigit l g ad S _ hS   (rd 160 (M 14) x1)) msX5_isDigit (Or.inl tb_284) ⟨Nat.le_of_ble_eq_true rfl, Nat.le_of_ble_eq_true rfl⟩ (Nat.zero_le _) (Nat.zero_le _) rfl rfl (Nat.le_of_ble_eq_true rfl) rfl (dX5_endOf 14 rfl) ?_
  refine R_istore (i := 4) (ls' := [some (.inr (.inr (some (ad 13)))), some (.inl x1), some (.inl (w32 (x1 + 1))), some (.inl (f_X5_isLetter (rd 160 (M 14) x1))), some (.inl (f_X5_isDigit (rd 160 (M 14) x1)))]) (dX5_endOf 15 rfl) (Nat.le_of_ble_eq_true rfl) (Nat.le_of_ble_eq_true rfl) rfl rfl ?_
  refine R_mask [true, false, true, true, true] rfl ?_
  exact t_X5_endOf_L29 l g ad S M hS (f_X5_isLetter (rd 160 (M 14) x1)) (f_X5_isDigit (rd 160 (M 14) x1))  100000 (w32 (x1 + 1)) H 
def f_J0_coder_7d493 (si : Nat) : Int :=
  0
set_option maxHeartbeats 4000000 in
theorem t_J0_coder_7d493 (l : Launch) (g : GG) (S : SW) (M : Mem) (si : Nat) (hsi : si < 14) : CT l g MJ0_coder_7d493 1 0 0 S M [.inr (.inr (some (g.2.2.2.1 (10 + si))))] (q_ex S (some (.inl (f_J0_coder_7d493 si))) M) := by
  obtain ⟨r, H⟩ : ∃ r, f_J0_coder_7d493 si = r := ⟨_, rfl⟩
  rw [H]
  unfold f_J0_coder_7d493 at H
  refine CT_of (ls0 := [some (.inr (.inr (some (g.2.2.2.1 (10 + si)))))]) (by decide +kernel) (Nat.le_of_ble_eq_true rfl) rfl ?_
  refine R_gets (v := .inl 1) sel_C ⟨by decide, by decide⟩ (Or.inl tb_217) (dJ0_coder_7d493 0 rfl) ?_
  refine R_if_eq (tgt := 13) (dJ0_coder_7d493 1 rfl) (by decide) (fun hc => absurd hc (by decide)) (fun _ => ?_)
  refine R_aload_n (i := 0) (dJ0_coder_7d493 2 rfl) rfl rfl ?_
  refine R_strC si hsi tb_1577 (dJ0_coder_7d493 3 rfl) ?_
  refine R_goto (tgt := 14) (dJ0_coder_7d493 4 rfl) (by decide) ?_
  exact R_iret rfl (by decide +kernel) (Nat.zero_le _) (Nat.zero_le _) (dJ0_coder_7d493 6 rfl) ⟨congrArg (fun z => some (Sum.inl z)) H, rfl, rfl⟩
def f_J0_length_8abf5 (si : Nat) : Int :=
  b_shr ((q_sl.getD si 0 : Nat) : Int) 0
set_option maxHeartbeats 4000000 in
theorem t_J0_length_8abf5 (l : Launch) (g : GG) (S : SW) (M : Mem) (si : Nat) (hsi : si < 14) : CT l g MJ0_length_8abf5 2 0 0 S M [.inr (.inr (some (g.2.2.2.1 (10 + si))))] (q_ex S (some (.inl (f_J0_length_8abf5 si))) M) := by
  obtain ⟨r, H⟩ : ∃ r, f_J0_length_8abf5 si = r := ⟨_, rfl⟩
  rw [H]
  unfold f_J0_length_8abf5 at H
  refine CT_of (ls0 := [some (.inr (.inr (some (g.2.2.2.1 (10 + si)))))]) (by decide +kernel) (Nat.le_of_ble_eq_true rfl) rfl ?_
  refine R_aload_n (i := 0) (dJ0_length_8abf5 0 rfl) rfl rfl ?_
  refine R_strV si hsi tb_1576 (dJ0_length_8abf5 1 rfl) ?_
  refine R_blen si hsi (dJ0_length_8abf5 2 rfl) ?_
  refine R_aload_n (i := 0) (dJ0_length_8abf5 3 rfl) rfl rfl ?_
  refine R_cV (st' := [.inl 0, .inl ((q_sl.getD si 0 : Nat) : Int)]) [] [.inl ((q_sl.getD si 0 : Nat) : Int)] (t_J0_coder_7d493 l g S _  si hsi ) msJ0_coder_7d493 (Or.inl tb_213) (Or.inr ⟨si, hsi, rfl, rfl⟩) ⟨Nat.le_of_ble_eq_true rfl, Nat.le_of_ble_eq_true rfl⟩ (Nat.zero_le _) (Nat.zero_le _) rfl rfl (Nat.le_of_ble_eq_true rfl) rfl (dJ0_length_8abf5 4 rfl) ?_
  refine R_ishr (dJ0_length_8abf5 5 rfl) ?_
  exact R_iret rfl rfl (Nat.zero_le _) (Nat.zero_le _) (dJ0_length_8abf5 6 rfl) ⟨congrArg (fun z => some (Sum.inl z)) H, rfl, rfl⟩
def f_J0_isLatin1_aae02 (si : Nat) : Int :=
  1
set_option maxHeartbeats 4000000 in
theorem t_J0_isLatin1_aae02 (l : Launch) (g : GG) (S : SW) (M : Mem) (si : Nat) (hsi : si < 14) : CT l g MJ0_isLatin1_aae02 1 0 0 S M [.inr (.inr (some (g.2.2.2.1 (10 + si))))] (q_ex S (some (.inl (f_J0_isLatin1_aae02 si))) M) := by
  obtain ⟨r, H⟩ : ∃ r, f_J0_isLatin1_aae02 si = r := ⟨_, rfl⟩
  rw [H]
  unfold f_J0_isLatin1_aae02 at H
  refine CT_of (ls0 := [some (.inr (.inr (some (g.2.2.2.1 (10 + si)))))]) (by decide +kernel) (Nat.le_of_ble_eq_true rfl) rfl ?_
  refine R_gets (v := .inl 1) sel_C ⟨by decide, by decide⟩ (Or.inl tb_217) (dJ0_isLatin1_aae02 0 rfl) ?_
  refine R_if_eq (tgt := 17) (dJ0_isLatin1_aae02 1 rfl) (by decide) (fun hc => absurd hc (by decide)) (fun _ => ?_)
  refine R_aload_n (i := 0) (dJ0_isLatin1_aae02 2 rfl) rfl rfl ?_
  refine R_strC si hsi tb_1577 (dJ0_isLatin1_aae02 3 rfl) ?_
  refine R_if_ne (tgt := 17) (dJ0_isLatin1_aae02 4 rfl) (by decide) (fun hc => absurd hc (by decide)) (fun _ => ?_)
  refine R_iconst (dJ0_isLatin1_aae02 5 rfl) rfl ?_
  refine R_goto (tgt := 18) (dJ0_isLatin1_aae02 6 rfl) (by decide) ?_
  exact R_iret rfl (by decide +kernel) (Nat.zero_le _) (Nat.zero_le _) (dJ0_isLatin1_aae02 8 rfl) ⟨congrArg (fun z => some (Sum.inl z)) H, rfl, rfl⟩
def f_J3_checkIndex_8e157 (x0 : Int) (x1 : Int) : Option Int :=
  if x0 < 0 then
    none
  else
    if x0 < x1 then
      some x0
    else
      none
set_option maxHeartbeats 4000000 in
theorem t_J3_checkIndex_8e157 (l : Launch) (g : GG) (S : SW) (M : Mem) (x0 : Int) (x1 : Int) {r : Int} (H : f_J3_checkIndex_8e157 x0 x1 = some r) : CT l g MJ3_checkIndex_8e157 1 0 0 S M [.inl x0, .inl x1, .inr (.inr g.2.2.2.2.1)] (q_ex S (some (.inl r)) M) := by
  unfold f_J3_checkIndex_8e157 at H
  refine CT_of (ls0 := [some (.inl x0), some (.inl x1), some (.inr (.inr g.2.2.2.2.1))]) (by decide +kernel) (Nat.le_of_ble_eq_true rfl) rfl ?_
  refine R_iload_n (i := 0) (dJ3_checkIndex_8e157 0 rfl) rfl rfl ?_
  refine R_if_lt (tgt := 9) (dJ3_checkIndex_8e157 1 rfl) (by decide) (fun hc => ?_) (fun hc => ?_)
  · have H := ite_T H hc
    exact absurd H (by simp)
  · have H := ite_F H hc
    refine R_iload_n (i := 0) (dJ3_checkIndex_8e157 2 rfl) rfl rfl ?_
    refine R_iload_n (i := 1) (dJ3_checkIndex_8e157 3 rfl) rfl rfl ?_
    refine R_icmp_lt (tgt := 16) (dJ3_checkIndex_8e157 4 rfl) (by decide) (fun hc => ?_) (fun hc => ?_)
    · have H := ite_T H hc
      refine R_iload_n (i := 0) (dJ3_checkIndex_8e157 10 rfl) rfl rfl ?_
      exact R_iret rfl rfl (Nat.zero_le _) (Nat.zero_le _) (dJ3_checkIndex_8e157 11 rfl) ⟨congrArg (fun z => some (Sum.inl z)) (Option.some.inj H), rfl, rfl⟩
    · have H := ite_F H hc
      exact absurd H (by simp)
def f_J0_checkIndex_df160 (x0 : Int) (x1 : Int) : Option Int :=
  (f_J3_checkIndex_8e157 x0 x1).bind fun r26 =>
  some 0
set_option maxHeartbeats 4000000 in
theorem t_J0_checkIndex_df160 (l : Launch) (g : GG) (S : SW) (M : Mem) (x0 : Int) (x1 : Int) {r : Int} (H : f_J0_checkIndex_df160 x0 x1 = some r) : CT l g MJ0_checkIndex_df160 2 0 0 S M [.inl x0, .inl x1] (q_ex S none M) := by
  unfold f_J0_checkIndex_df160 at H
  refine CT_of (ls0 := [some (.inl x0), some (.inl x1)]) (by decide +kernel) (Nat.le_of_ble_eq_true rfl) rfl ?_
  refine R_iload_n (i := 0) (dJ0_checkIndex_df160 0 rfl) rfl rfl ?_
  refine R_iload_n (i := 1) (dJ0_checkIndex_df160 1 rfl) rfl rfl ?_
  refine R_gets sel_F trivial (Or.inl tb_233) (dJ0_checkIndex_df160 2 rfl) ?_
  obtain ⟨r26, hr, H⟩ := op_E H
  refine R_cS (st' := [.inl r26]) [.inl x0, .inl x1, .inr (.inr g.2.2.2.2.1)] [] (t_J3_checkIndex_8e157 l g S _   x0 x1 hr) msJ3_checkIndex_8e157 (Or.inl tb_235) ⟨Nat.le_of_ble_eq_true rfl, Nat.le_of_ble_eq_true rfl⟩ (Nat.zero_le _) (Nat.zero_le _) rfl rfl (Nat.le_of_ble_eq_true rfl) rfl (dJ0_checkIndex_df160 3 rfl) ?_
  refine R_pop rfl (dJ0_checkIndex_df160 4 rfl) ?_
  exact R_vret rfl (Nat.zero_le _) (Nat.zero_le _) (dJ0_checkIndex_df160 5 rfl) ⟨rfl, rfl, rfl⟩
def f_J1_charAt_3b067 (si : Nat) (x1 : Int) : Option Int :=
  (f_J0_checkIndex_df160 x1 ((q_sl.getD si 0 : Nat) : Int)).bind fun r27 =>
  if 0 ≤ x1 ∧ x1 < ((q_sl.getD si 0 : Nat) : Int) then
    some (b_i2c (b_and ((q_sb si).getD (x1).toNat 0) 255))
  else none
set_option maxHeartbeats 4000000 in
theorem t_J1_charAt_3b067 (l : Launch) (g : GG) (S : SW) (M : Mem) (si : Nat) (hsi : si < 14) (x1 : Int) {r : Int} (H : f_J1_charAt_3b067 si x1 = some r) : CT l g MJ1_charAt_3b067 3 0 0 S M [.inr (.inr (some (g.2.2.2.1 (30 + si)))), .inl x1] (q_ex S (some (.inl r)) M) := by
  unfold f_J1_charAt_3b067 at H
  refine CT_of (ls0 := [some (.inr (.inr (some (g.2.2.2.1 (30 + si))))), some (.inl x1)]) (by decide +kernel) (Nat.le_of_ble_eq_true rfl) rfl ?_
  refine R_iload_n (i := 1) (dJ1_charAt_3b067 0 rfl) rfl rfl ?_
  refine R_aload_n (i := 0) (dJ1_charAt_3b067 1 rfl) rfl rfl ?_
  refine R_blen si hsi (dJ1_charAt_3b067 2 rfl) ?_
  obtain ⟨r27, hr, H⟩ := op_E H
  refine R_cS (st' := []) [.inl x1, .inl ((q_sl.getD si 0 : Nat) : Int)] [] (t_J0_checkIndex_df160 l g S _   x1 ((q_sl.getD si 0 : Nat) : Int) hr) msJ0_checkIndex_df160 (Or.inl tb_230) ⟨Nat.le_of_ble_eq_true rfl, Nat.le_of_ble_eq_true rfl⟩ (Nat.zero_le _) (Nat.zero_le _) rfl rfl (Nat.le_of_ble_eq_true rfl) rfl (dJ1_charAt_3b067 3 rfl) ?_
  refine R_aload_n (i := 0) (dJ1_charAt_3b067 4 rfl) rfl rfl ?_
  refine R_iload_n (i := 1) (dJ1_charAt_3b067 5 rfl) rfl rfl ?_
  obtain ⟨hg, H⟩ := ite_G H
  refine R_bald si hsi hg (dJ1_charAt_3b067 6 rfl) ?_
  refine R_sipush (dJ1_charAt_3b067 7 rfl) rfl rfl ?_
  refine R_iand (dJ1_charAt_3b067 8 rfl) ?_
  refine R_i2c (dJ1_charAt_3b067 9 rfl) ?_
  exact R_iret rfl (sc_nar2 _) (Nat.zero_le _) (Nat.zero_le _) (dJ1_charAt_3b067 10 rfl) ⟨congrArg (fun z => some (Sum.inl z)) (Option.some.inj H), rfl, rfl⟩
def f_J0_charAt_5068e (si : Nat) (x1 : Int) : Option Int :=
  (f_J1_charAt_3b067 si x1).bind fun r28 =>
  if b_i2c r28 = r28 then some r28 else none
set_option maxHeartbeats 4000000 in
theorem t_J0_charAt_5068e (l : Launch) (g : GG) (S : SW) (M : Mem) (si : Nat) (hsi : si < 14) (x1 : Int) {r : Int} (H : f_J0_charAt_5068e si x1 = some r) : CT l g MJ0_charAt_5068e 4 0 0 S M [.inr (.inr (some (g.2.2.2.1 (10 + si)))), .inl x1] (q_ex S (some (.inl r)) M) := by
  unfold f_J0_charAt_5068e at H
  refine CT_of (ls0 := [some (.inr (.inr (some (g.2.2.2.1 (10 + si))))), some (.inl x1)]) (by decide +kernel) (Nat.le_of_ble_eq_true rfl) rfl ?_
  refine R_aload_n (i := 0) (dJ0_charAt_5068e 0 rfl) rfl rfl ?_
  refine R_cV (st' := [.inl 1]) [] [] (t_J0_isLatin1_aae02 l g S _  si hsi ) msJ0_isLatin1_aae02 (Or.inl tb_223) (Or.inr ⟨si, hsi, rfl, rfl⟩) ⟨Nat.le_of_ble_eq_true rfl, Nat.le_of_ble_eq_true rfl⟩ (Nat.zero_le _) (Nat.zero_le _) rfl rfl (Nat.le_of_ble_eq_true rfl) rfl (dJ0_charAt_5068e 1 rfl) ?_
  refine R_if_eq (tgt := 16) (dJ0_charAt_5068e 2 rfl) (by decide) (fun hc => absurd hc (by decide)) (fun _ => ?_)
  refine R_aload_n (i := 0) (dJ0_charAt_5068e 3 rfl) rfl rfl ?_
  refine R_strV si hsi tb_1576 (dJ0_charAt_5068e 4 rfl) ?_
  refine R_iload_n (i := 1) (dJ0_charAt_5068e 5 rfl) rfl rfl ?_
  obtain ⟨r28, hr, H⟩ := op_E H
  refine R_cS (st' := [.inl r28]) [.inr (.inr (some (g.2.2.2.1 (30 + si)))), .inl x1] [] (t_J1_charAt_3b067 l g S _  si hsi  x1 hr) msJ1_charAt_3b067 (Or.inl tb_227) ⟨Nat.le_of_ble_eq_true rfl, Nat.le_of_ble_eq_true rfl⟩ (Nat.zero_le _) (Nat.zero_le _) rfl rfl (Nat.le_of_ble_eq_true rfl) rfl (dJ0_charAt_5068e 6 rfl) ?_
  obtain ⟨hg, H⟩ := ite_G H
  exact R_iret rfl (sc_nar3 hg) (Nat.zero_le _) (Nat.zero_le _) (dJ0_charAt_5068e 7 rfl) ⟨congrArg (fun z => some (Sum.inl z)) (Option.some.inj H), rfl, rfl⟩
def f_X5_spells_L15 (si : Nat) (x2 : Int) (M : Mem) : Nat → Int → Option Int
  | 0, _ => none
  | n + 1, x4 =>
    if x4 < f_J0_length_8abf5 si then
      (f_J0_charAt_5068e si x4).bind fun r29 =>
      if rd 160 (M 14) (w32 (x2 + x4)) = r29 then
        f_X5_spells_L15 si x2 M n (w32 (x4 + 1))
      else
        some 0
    else
      some 1
set_option maxHeartbeats 4000000 in
theorem t_X5_spells_L15 (l : Launch) (g : GG) (ad : Nat → Nat) (S : SW) (M : Mem) (hS : q_ag 12 21 ad S) (si : Nat) (hsi : si < 14) (x2 : Int) {r : Int} : ∀ (n : Nat) (x4 : Int), f_X5_spells_L15 si x2 M n x4 = some r → RW l g MX5_spells (q_rm 5 0 0) 0 0 (q_ex S (some (.inl r)) M) 15 S M 0 0 [some (.inr (.inr (some (ad 13)))), some (.inr (.inr (some (g.2.2.2.1 (10 + si))))), some (.inl x2), none, some (.inl x4)] [] := by
  intro n
  induction n with
  | zero => intro x4 H; exact absurd H (by simp [f_X5_spells_L15])
  | succ n ih =>
    intro x4 H
    rw [f_X5_spells_L15] at H
    refine R_iload (i := 4) (dX5_spells 10 rfl) rfl ?_
    refine R_aload_n (i := 1) (dX5_spells 11 rfl) rfl rfl ?_
    refine R_cV (st' := [.inl (f_J0_length_8abf5 si), .inl x4]) [] [.inl x4] (t_J0_length_8abf5 l g S _  si hsi ) msJ0_length_8abf5 (Or.inl tb_300) (Or.inr ⟨si, hsi, rfl, rfl⟩) ⟨Nat.le_of_ble_eq_true rfl, Nat.le_of_ble_eq_true rfl⟩ (Nat.zero_le _) (Nat.zero_le _) rfl rfl (Nat.le_of_ble_eq_true rfl) rfl (dX5_spells 12 rfl) ?_
    refine R_icmp_ge (tgt := 52) (dX5_spells 13 rfl) (by decide) (fun hc => ?_) (fun hc => ?_)
    · have H := ite_F H hc
      refine R_iconst (dX5_spells 28 rfl) rfl ?_
      exact R_iret rfl (by decide +kernel) (Nat.zero_le _) (Nat.zero_le _) (dX5_spells 29 rfl) ⟨congrArg (fun z => some (Sum.inl z)) (Option.some.inj H), rfl, rfl⟩
    · have H := ite_T H hc
      refine R_aload_n (i := 0) (dX5_spells 14 rfl) rfl rfl ?_
      refine R_getR cgX5 13 (cl13 hS) 0 (Nat.le_of_ble_eq_true rfl) rfl (Or.inl tb_192) (dX5_spells 15 rfl) ?_
      refine R_iload_n (i := 2) (dX5_spells 16 rfl) rfl rfl ?_
      refine R_iload (i := 4) (dX5_spells 17 rfl) rfl ?_
      refine R_iadd (dX5_spells 18 rfl) ?_
      refine R_cS (st' := [.inl (rd 160 (M 14) (w32 (x2 + x4)))]) [.inr (.inr (some (ad 14))), .inl (w32 (x2 + x4))] [] (t_at l g S _ 14 (cl14 hS) (Nat.le_of_ble_eq_true rfl) (w32 (x2 + x4))) msX9_at (Or.inr ⟨_, tb_270⟩) ⟨Nat.le_of_ble_eq_true rfl, Nat.le_of_ble_eq_true rfl⟩ (Nat.zero_le _) (Nat.zero_le _) rfl rfl (Nat.le_of_ble_eq_true rfl) rfl (dX5_spells 19 rfl) ?_
      refine R_aload_n (i := 1) (dX5_spells 20 rfl) rfl rfl ?_
      refine R_iload (i := 4) (dX5_spells 21 rfl) rfl ?_
      obtain ⟨r29, hr, H⟩ := op_E H
      refine R_cV (st' := [.inl r29, .inl (rd 160 (M 14) (w32 (x2 + x4)))]) [.inl x4] [.inl (rd 160 (M 14) (w32 (x2 + x4)))] (t_J0_charAt_5068e l g S _  si hsi  x4 hr) msJ0_charAt_5068e (Or.inl tb_301) (Or.inr ⟨si, hsi, rfl, rfl⟩) ⟨Nat.le_of_ble_eq_true rfl, Nat.le_of_ble_eq_true rfl⟩ (Nat.zero_le _) (Nat.zero_le _) rfl rfl (Nat.le_of_ble_eq_true rfl) rfl (dX5_spells 22 rfl) ?_
      refine R_icmp_eq (tgt := 46) (dX5_spells 23 rfl) (by decide) (fun hc => ?_) (fun hc => ?_)
      · have H := ite_T H hc
        refine R_iinc (i := 4) (ls' := [some (.inr (.inr (some (ad 13)))), some (.inr (.inr (some (g.2.2.2.1 (10 + si))))), some (.inl x2), none, some (.inl (w32 (x4 + 1)))]) (dX5_spells 26 rfl) rfl (Nat.le_of_ble_eq_true rfl) rfl rfl ?_
        refine R_goto (tgt := 15) (dX5_spells 27 rfl) (by decide) ?_
        exact ih (w32 (x4 + 1)) H
      · have H := ite_F H hc
        refine R_iconst (dX5_spells 24 rfl) rfl ?_
        exact R_iret rfl (by decide +kernel) (Nat.zero_le _) (Nat.zero_le _) (dX5_spells 25 rfl) ⟨congrArg (fun z => some (Sum.inl z)) (Option.some.inj H), rfl, rfl⟩
def f_X5_spells (si : Nat) (x2 : Int) (x3 : Int) (M : Mem) : Option Int :=
  if w32 (x3 - x2) = f_J0_length_8abf5 si then
    f_X5_spells_L15
      si x2 M 100000 0
  else
    some 0
set_option maxHeartbeats 4000000 in
theorem t_X5_spells (l : Launch) (g : GG) (ad : Nat → Nat) (S : SW) (M : Mem) (hS : q_ag 12 21 ad S) (si : Nat) (hsi : si < 14) (x2 : Int) (x3 : Int) {r : Int} (H : f_X5_spells si x2 x3 M = some r) : CT l g MX5_spells 5 0 0 S M [.inr (.inr (some (ad 13))), .inr (.inr (some (g.2.2.2.1 (10 + si)))), .inl x2, .inl x3] (q_ex S (some (.inl r)) M) := by
  unfold f_X5_spells at H
  refine CT_of (ls0 := [some (.inr (.inr (some (ad 13)))), some (.inr (.inr (some (g.2.2.2.1 (10 + si))))), some (.inl x2), some (.inl x3), none]) (by decide +kernel) (Nat.le_of_ble_eq_true rfl) rfl ?_
  refine R_iload_n (i := 3) (dX5_spells 0 rfl) rfl rfl ?_
  refine R_iload_n (i := 2) (dX5_spells 1 rfl) rfl rfl ?_
  refine R_isub (dX5_spells 2 rfl) ?_
  refine R_aload_n (i := 1) (dX5_spells 3 rfl) rfl rfl ?_
  refine R_cV (st' := [.inl (f_J0_length_8abf5 si), .inl (w32 (x3 - x2))]) [] [.inl (w32 (x3 - x2))] (t_J0_length_8abf5 l g S _  si hsi ) msJ0_length_8abf5 (Or.inl tb_300) (Or.inr ⟨si, hsi, rfl, rfl⟩) ⟨Nat.le_of_ble_eq_true rfl, Nat.le_of_ble_eq_true rfl⟩ (Nat.zero_le _) (Nat.zero_le _) rfl rfl (Nat.le_of_ble_eq_true rfl) rfl (dX5_spells 4 rfl) ?_
  refine R_icmp_eq (tgt := 12) (dX5_spells 5 rfl) (by decide) (fun hc => ?_) (fun hc => ?_)
  · have H := ite_T H hc
    refine R_iconst (dX5_spells 8 rfl) rfl ?_
    refine R_istore (i := 4) (ls' := [some (.inr (.inr (some (ad 13)))), some (.inr (.inr (some (g.2.2.2.1 (10 + si))))), some (.inl x2), some (.inl x3), some (.inl 0)]) (dX5_spells 9 rfl) (Nat.le_of_ble_eq_true rfl) (Nat.le_of_ble_eq_true rfl) rfl rfl ?_
    refine R_mask [true, true, true, false, true] rfl ?_
    exact t_X5_spells_L15 l g ad S M hS si hsi x2  100000 0 H 
  · have H := ite_F H hc
    refine R_iconst (dX5_spells 6 rfl) rfl ?_
    exact R_iret rfl (by decide +kernel) (Nat.zero_le _) (Nat.zero_le _) (dX5_spells 7 rfl) ⟨congrArg (fun z => some (Sum.inl z)) (Option.some.inj H), rfl, rfl⟩
def f_X5_word (x1 : Int) (x2 : Int) (M : Mem) : Option Int :=
  (f_X5_spells 1 x1 x2 M).bind fun r30 =>
  if r30 = 0 then
    (f_X5_spells 2 x1 x2 M).bind fun r31 =>
    if r31 = 0 then
      (f_X5_spells 3 x1 x2 M).bind fun r32 =>
      if r32 = 0 then
        (f_X5_spells 4 x1 x2 M).bind fun r33 =>
        if r33 = 0 then
          (f_X5_spells 5 x1 x2 M).bind fun r34 =>
          if r34 = 0 then
            (f_X5_spells 6 x1 x2 M).bind fun r35 =>
            if r35 = 0 then
              (f_X5_spells 7 x1 x2 M).bind fun r36 =>
              if r36 = 0 then
                (f_X5_spells 8 x1 x2 M).bind fun r37 =>
                if r37 = 0 then
                  (f_X5_spells 9 x1 x2 M).bind fun r38 =>
                  if r38 = 0 then
                    (f_X5_spells 10 x1 x2 M).bind fun r39 =>
                    if r39 = 0 then
                      (f_X5_spells 11 x1 x2 M).bind fun r40 =>
                      if r40 = 0 then
                        (f_X5_spells 12 x1 x2 M).bind fun r41 =>
                        if r41 = 0 then
                          some 1
                        else
                          some 305
                      else
                        some 304
                    else
                      some 303
                  else
                    some 302
                else
                  some 301
              else
                some 300
            else
              some 261
          else
            some 260
        else
          some 259
      else
        some 258
    else
      some 257
  else
    some 256
set_option maxHeartbeats 4000000 in
theorem t_X5_word (l : Launch) (g : GG) (ad : Nat → Nat) (S : SW) (M : Mem) (hS : q_ag 12 21 ad S) (x1 : Int) (x2 : Int) {r : Int} (H : f_X5_word x1 x2 M = some r) : CT l g MX5_word 6 0 0 S M [.inr (.inr (some (ad 13))), .inl x1, .inl x2] (q_ex S (some (.inl r)) M) := by
  unfold f_X5_word at H
  refine CT_of (ls0 := [some (.inr (.inr (some (ad 13)))), some (.inl x1), some (.inl x2)]) (by decide +kernel) (Nat.le_of_ble_eq_true rfl) rfl ?_
  refine R_aload_n (i := 0) (dX5_word_0 0 rfl) rfl rfl ?_
  refine R_ldcS 1 (q := ("CardNobodyReads$Tape", 68, "may", [109, 97, 121])) rfl rfl (dX5_word_0 1 rfl) ?_
  refine R_iload_n (i := 1) (dX5_word_0 2 rfl) rfl rfl ?_
  refine R_iload_n (i := 2) (dX5_word_0 3 rfl) rfl rfl ?_
  obtain ⟨r30, hr, H⟩ := op_E H
  refine R_cV (st' := [.inl r30]) [.inr (.inr (some (g.2.2.2.1 (10 + 1)))), .inl x1, .inl x2] [] (t_X5_spells l g ad S _ hS  1 (by decide)  x1 x2 hr) msX5_spells (Or.inl tb_296) (Or.inl ⟨13, 5, _, _, _, (cl13 hS), rfl⟩) ⟨Nat.le_of_ble_eq_true rfl, Nat.le_of_ble_eq_true rfl⟩ (Nat.zero_le _) (Nat.zero_le _) rfl rfl (Nat.le_of_ble_eq_true rfl) rfl (dX5_word_0 4 rfl) ?_
  refine R_if_eq (tgt := 17) (dX5_word_0 5 rfl) (by decide) (fun hc => ?_) (fun hc => ?_)
  · have H := ite_T H hc
    refine R_aload_n (i := 0) (dX5_word_0 8 rfl) rfl rfl ?_
    refine R_ldcS 2 (q := ("CardNobodyReads$Tape", 74, "likes", [108, 105, 107, 101, 115])) rfl rfl (dX5_word_0 9 rfl) ?_
    refine R_iload_n (i := 1) (dX5_word_0 10 rfl) rfl rfl ?_
    refine R_iload_n (i := 2) (dX5_word_0 11 rfl) rfl rfl ?_
    obtain ⟨r31, hr, H⟩ := op_E H
    refine R_cV (st' := [.inl r31]) [.inr (.inr (some (g.2.2.2.1 (10 + 2)))), .inl x1, .inl x2] [] (t_X5_spells l g ad S _ hS  2 (by decide)  x1 x2 hr) msX5_spells (Or.inl tb_296) (Or.inl ⟨13, 5, _, _, _, (cl13 hS), rfl⟩) ⟨Nat.le_of_ble_eq_true rfl, Nat.le_of_ble_eq_true rfl⟩ (Nat.zero_le _) (Nat.zero_le _) rfl rfl (Nat.le_of_ble_eq_true rfl) rfl (dX5_word_0 12 rfl) ?_
    refine R_if_eq (tgt := 34) (dX5_word_0 13 rfl) (by decide) (fun hc => ?_) (fun hc => ?_)
    · have H := ite_T H hc
      refine R_aload_n (i := 0) (dX5_word_0 16 rfl) rfl rfl ?_
      refine R_ldcS 3 (q := ("CardNobodyReads$Tape", 76, "learns", [108, 101, 97, 114, 110, 115])) rfl rfl (dX5_word_0 17 rfl) ?_
      refine R_iload_n (i := 1) (dX5_word_0 18 rfl) rfl rfl ?_
      refine R_iload_n (i := 2) (dX5_word_0 19 rfl) rfl rfl ?_
      obtain ⟨r32, hr, H⟩ := op_E H
      refine R_cV (st' := [.inl r32]) [.inr (.inr (some (g.2.2.2.1 (10 + 3)))), .inl x1, .inl x2] [] (t_X5_spells l g ad S _ hS  3 (by decide)  x1 x2 hr) msX5_spells (Or.inl tb_296) (Or.inl ⟨13, 5, _, _, _, (cl13 hS), rfl⟩) ⟨Nat.le_of_ble_eq_true rfl, Nat.le_of_ble_eq_true rfl⟩ (Nat.zero_le _) (Nat.zero_le _) rfl rfl (Nat.le_of_ble_eq_true rfl) rfl (dX5_word_0 20 rfl) ?_
      refine R_if_eq (tgt := 51) (dX5_word_0 21 rfl) (by decide) (fun hc => ?_) (fun hc => ?_)
      · have H := ite_T H hc
        refine R_aload_n (i := 0) (dX5_word_0 24 rfl) rfl rfl ?_
        refine R_ldcS 4 (q := ("CardNobodyReads$Tape", 78, "or", [111, 114])) rfl rfl (dX5_word_0 25 rfl) ?_
        refine R_iload_n (i := 1) (dX5_word_0 26 rfl) rfl rfl ?_
        refine R_iload_n (i := 2) (dX5_word_0 27 rfl) rfl rfl ?_
        obtain ⟨r33, hr, H⟩ := op_E H
        refine R_cV (st' := [.inl r33]) [.inr (.inr (some (g.2.2.2.1 (10 + 4)))), .inl x1, .inl x2] [] (t_X5_spells l g ad S _ hS  4 (by decide)  x1 x2 hr) msX5_spells (Or.inl tb_296) (Or.inl ⟨13, 5, _, _, _, (cl13 hS), rfl⟩) ⟨Nat.le_of_ble_eq_true rfl, Nat.le_of_ble_eq_true rfl⟩ (Nat.zero_le _) (Nat.zero_le _) rfl rfl (Nat.le_of_ble_eq_true rfl) rfl (dX5_word_0 28 rfl) ?_
        refine R_if_eq (tgt := 68) (dX5_word_0 29 rfl) (by decide) (fun hc => ?_) (fun hc => ?_)
        · have H := ite_T H hc
          refine R_aload_n (i := 0) (dX5_word_0 32 rfl) rfl rfl ?_
          refine R_ldcS 5 (q := ("CardNobodyReads$Tape", 80, "and", [97, 110, 100])) rfl rfl (dX5_word_0 33 rfl) ?_
          refine R_iload_n (i := 1) (dX5_word_0 34 rfl) rfl rfl ?_
          refine R_iload_n (i := 2) (dX5_word_0 35 rfl) rfl rfl ?_
          obtain ⟨r34, hr, H⟩ := op_E H
          refine R_cV (st' := [.inl r34]) [.inr (.inr (some (g.2.2.2.1 (10 + 5)))), .inl x1, .inl x2] [] (t_X5_spells l g ad S _ hS  5 (by decide)  x1 x2 hr) msX5_spells (Or.inl tb_296) (Or.inl ⟨13, 5, _, _, _, (cl13 hS), rfl⟩) ⟨Nat.le_of_ble_eq_true rfl, Nat.le_of_ble_eq_true rfl⟩ (Nat.zero_le _) (Nat.zero_le _) rfl rfl (Nat.le_of_ble_eq_true rfl) rfl (dX5_word_0 36 rfl) ?_
          refine R_if_eq (tgt := 85) (dX5_word_0 37 rfl) (by decide) (fun hc => ?_) (fun hc => ?_)
          · have H := ite_T H hc
            refine R_aload_n (i := 0) (dX5_word_0 40 rfl) rfl rfl ?_
            refine R_ldcS 6 (q := ("CardNobodyReads$Tape", 82, "not", [110, 111, 116])) rfl rfl (dX5_word_0 41 rfl) ?_
            refine R_iload_n (i := 1) (dX5_word_0 42 rfl) rfl rfl ?_
            refine R_iload_n (i := 2) (dX5_word_0 43 rfl) rfl rfl ?_
            obtain ⟨r35, hr, H⟩ := op_E H
            refine R_cV (st' := [.inl r35]) [.inr (.inr (some (g.2.2.2.1 (10 + 6)))), .inl x1, .inl x2] [] (t_X5_spells l g ad S _ hS  6 (by decide)  x1 x2 hr) msX5_spells (Or.inl tb_296) (Or.inl ⟨13, 5, _, _, _, (cl13 hS), rfl⟩) ⟨Nat.le_of_ble_eq_true rfl, Nat.le_of_ble_eq_true rfl⟩ (Nat.zero_le _) (Nat.zero_le _) rfl rfl (Nat.le_of_ble_eq_true rfl) rfl (dX5_word_0 44 rfl) ?_
            refine R_if_eq (tgt := 102) (dX5_word_0 45 rfl) (by decide) (fun hc => ?_) (fun hc => ?_)
            · have H := ite_T H hc
              refine R_aload_n (i := 0) (dX5_word_0 48 rfl) rfl rfl ?_
              refine R_ldcS 7 (q := ("CardNobodyReads$Tape", 84, "price", [112, 114, 105, 99, 101])) rfl rfl (dX5_word_0 49 rfl) ?_
              refine R_iload_n (i := 1) (dX5_word_0 50 rfl) rfl rfl ?_
              refine R_iload_n (i := 2) (dX5_word_0 51 rfl) rfl rfl ?_
              obtain ⟨r36, hr, H⟩ := op_E H
              refine R_cV (st' := [.inl r36]) [.inr (.inr (some (g.2.2.2.1 (10 + 7)))), .inl x1, .inl x2] [] (t_X5_spells l g ad S _ hS  7 (by decide)  x1 x2 hr) msX5_spells (Or.inl tb_296) (Or.inl ⟨13, 5, _, _, _, (cl13 hS), rfl⟩) ⟨Nat.le_of_ble_eq_true rfl, Nat.le_of_ble_eq_true rfl⟩ (Nat.zero_le _) (Nat.zero_le _) rfl rfl (Nat.le_of_ble_eq_true rfl) rfl (dX5_word_0 52 rfl) ?_
              refine R_if_eq (tgt := 119) (dX5_word_0 53 rfl) (by decide) (fun hc => ?_) (fun hc => ?_)
              · have H := ite_T H hc
                refine R_aload_n (i := 0) (dX5_word_0 56 rfl) rfl rfl ?_
                refine R_ldcS 8 (q := ("CardNobodyReads$Tape", 88, "parts", [112, 97, 114, 116, 115])) rfl rfl (dX5_word_0 57 rfl) ?_
                refine R_iload_n (i := 1) (dX5_word_0 58 rfl) rfl rfl ?_
                refine R_iload_n (i := 2) (dX5_word_0 59 rfl) rfl rfl ?_
                obtain ⟨r37, hr, H⟩ := op_E H
                refine R_cV (st' := [.inl r37]) [.inr (.inr (some (g.2.2.2.1 (10 + 8)))), .inl x1, .inl x2] [] (t_X5_spells l g ad S _ hS  8 (by decide)  x1 x2 hr) msX5_spells (Or.inl tb_296) (Or.inl ⟨13, 5, _, _, _, (cl13 hS), rfl⟩) ⟨Nat.le_of_ble_eq_true rfl, Nat.le_of_ble_eq_true rfl⟩ (Nat.zero_le _) (Nat.zero_le _) rfl rfl (Nat.le_of_ble_eq_true rfl) rfl (dX5_word_1 0 rfl) ?_
                refine R_if_eq (tgt := 136) (dX5_word_1 1 rfl) (by decide) (fun hc => ?_) (fun hc => ?_)
                · have H := ite_T H hc
                  refine R_aload_n (i := 0) (dX5_word_1 4 rfl) rfl rfl ?_
                  refine R_ldcS 9 (q := ("CardNobodyReads$Tape", 90, "place", [112, 108, 97, 99, 101])) rfl rfl (dX5_word_1 5 rfl) ?_
                  refine R_iload_n (i := 1) (dX5_word_1 6 rfl) rfl rfl ?_
                  refine R_iload_n (i := 2) (dX5_word_1 7 rfl) rfl rfl ?_
                  obtain ⟨r38, hr, H⟩ := op_E H
                  refine R_cV (st' := [.inl r38]) [.inr (.inr (some (g.2.2.2.1 (10 + 9)))), .inl x1, .inl x2] [] (t_X5_spells l g ad S _ hS  9 (by decide)  x1 x2 hr) msX5_spells (Or.inl tb_296) (Or.inl ⟨13, 5, _, _, _, (cl13 hS), rfl⟩) ⟨Nat.le_of_ble_eq_true rfl, Nat.le_of_ble_eq_true rfl⟩ (Nat.zero_le _) (Nat.zero_le _) rfl rfl (Nat.le_of_ble_eq_true rfl) rfl (dX5_word_1 8 rfl) ?_
                  refine R_if_eq (tgt := 153) (dX5_word_1 9 rfl) (by decide) (fun hc => ?_) (fun hc => ?_)
                  · have H := ite_T H hc
                    refine R_aload_n (i := 0) (dX5_word_1 12 rfl) rfl rfl ?_
                    refine R_ldcS 10 (q := ("CardNobodyReads$Tape", 92, "many", [109, 97, 110, 121])) rfl rfl (dX5_word_1 13 rfl) ?_
                    refine R_iload_n (i := 1) (dX5_word_1 14 rfl) rfl rfl ?_
                    refine R_iload_n (i := 2) (dX5_word_1 15 rfl) rfl rfl ?_
                    obtain ⟨r39, hr, H⟩ := op_E H
                    refine R_cV (st' := [.inl r39]) [.inr (.inr (some (g.2.2.2.1 (10 + 10)))), .inl x1, .inl x2] [] (t_X5_spells l g ad S _ hS  10 (by decide)  x1 x2 hr) msX5_spells (Or.inl tb_296) (Or.inl ⟨13, 5, _, _, _, (cl13 hS), rfl⟩) ⟨Nat.le_of_ble_eq_true rfl, Nat.le_of_ble_eq_true rfl⟩ (Nat.zero_le _) (Nat.zero_le _) rfl rfl (Nat.le_of_ble_eq_true rfl) rfl (dX5_word_1 16 rfl) ?_
                    refine R_if_eq (tgt := 170) (dX5_word_1 17 rfl) (by decide) (fun hc => ?_) (fun hc => ?_)
                    · have H := ite_T H hc
                      refine R_aload_n (i := 0) (dX5_word_1 20 rfl) rfl rfl ?_
                      refine R_ldcS 11 (q := ("CardNobodyReads$Tape", 94, "guest", [103, 117, 101, 115, 116])) rfl rfl (dX5_word_1 21 rfl) ?_
                      refine R_iload_n (i := 1) (dX5_word_1 22 rfl) rfl rfl ?_
                      refine R_iload_n (i := 2) (dX5_word_1 23 rfl) rfl rfl ?_
                      obtain ⟨r40, hr, H⟩ := op_E H
                      refine R_cV (st' := [.inl r40]) [.inr (.inr (some (g.2.2.2.1 (10 + 11)))), .inl x1, .inl x2] [] (t_X5_spells l g ad S _ hS  11 (by decide)  x1 x2 hr) msX5_spells (Or.inl tb_296) (Or.inl ⟨13, 5, _, _, _, (cl13 hS), rfl⟩) ⟨Nat.le_of_ble_eq_true rfl, Nat.le_of_ble_eq_true rfl⟩ (Nat.zero_le _) (Nat.zero_le _) rfl rfl (Nat.le_of_ble_eq_true rfl) rfl (dX5_word_1 24 rfl) ?_
                      refine R_if_eq (tgt := 187) (dX5_word_1 25 rfl) (by decide) (fun hc => ?_) (fun hc => ?_)
                      · have H := ite_T H hc
                        refine R_aload_n (i := 0) (dX5_word_1 28 rfl) rfl rfl ?_
                        refine R_ldcS 12 (q := ("CardNobodyReads$Tape", 96, "left", [108, 101, 102, 116])) rfl rfl (dX5_word_1 29 rfl) ?_
                        refine R_iload_n (i := 1) (dX5_word_1 30 rfl) rfl rfl ?_
                        refine R_iload_n (i := 2) (dX5_word_1 31 rfl) rfl rfl ?_
                        obtain ⟨r41, hr, H⟩ := op_E H
                        refine R_cV (st' := [.inl r41]) [.inr (.inr (some (g.2.2.2.1 (10 + 12)))), .inl x1, .inl x2] [] (t_X5_spells l g ad S _ hS  12 (by decide)  x1 x2 hr) msX5_spells (Or.inl tb_296) (Or.inl ⟨13, 5, _, _, _, (cl13 hS), rfl⟩) ⟨Nat.le_of_ble_eq_true rfl, Nat.le_of_ble_eq_true rfl⟩ (Nat.zero_le _) (Nat.zero_le _) rfl rfl (Nat.le_of_ble_eq_true rfl) rfl (dX5_word_1 32 rfl) ?_
                        refine R_if_eq (tgt := 204) (dX5_word_1 33 rfl) (by decide) (fun hc => ?_) (fun hc => ?_)
                        · have H := ite_T H hc
                          refine R_iconst (dX5_word_1 36 rfl) rfl ?_
                          exact R_iret rfl rfl (Nat.zero_le _) (Nat.zero_le _) (dX5_word_1 37 rfl) ⟨congrArg (fun z => some (Sum.inl z)) (Option.some.inj H), rfl, rfl⟩
                        · have H := ite_F H hc
                          refine R_sipush (dX5_word_1 34 rfl) rfl rfl ?_
                          refine R_goto (tgt := 205) (dX5_word_1 35 rfl) (by decide) ?_
                          exact R_iret rfl rfl (Nat.zero_le _) (Nat.zero_le _) (dX5_word_1 37 rfl) ⟨congrArg (fun z => some (Sum.inl z)) (Option.some.inj H), rfl, rfl⟩
                      · have H := ite_F H hc
                        refine R_sipush (dX5_word_1 26 rfl) rfl rfl ?_
                        refine R_goto (tgt := 205) (dX5_word_1 27 rfl) (by decide) ?_
                        exact R_iret rfl rfl (Nat.zero_le _) (Nat.zero_le _) (dX5_word_1 37 rfl) ⟨congrArg (fun z => some (Sum.inl z)) (Option.some.inj H), rfl, rfl⟩
                    · have H := ite_F H hc
                      refine R_sipush (dX5_word_1 18 rfl) rfl rfl ?_
                      refine R_goto (tgt := 205) (dX5_word_1 19 rfl) (by decide) ?_
                      exact R_iret rfl rfl (Nat.zero_le _) (Nat.zero_le _) (dX5_word_1 37 rfl) ⟨congrArg (fun z => some (Sum.inl z)) (Option.some.inj H), rfl, rfl⟩
                  · have H := ite_F H hc
                    refine R_sipush (dX5_word_1 10 rfl) rfl rfl ?_
                    refine R_goto (tgt := 205) (dX5_word_1 11 rfl) (by decide) ?_
                    exact R_iret rfl rfl (Nat.zero_le _) (Nat.zero_le _) (dX5_word_1 37 rfl) ⟨congrArg (fun z => some (Sum.inl z)) (Option.some.inj H), rfl, rfl⟩
                · have H := ite_F H hc
                  refine R_sipush (dX5_word_1 2 rfl) rfl rfl ?_
                  refine R_goto (tgt := 205) (dX5_word_1 3 rfl) (by decide) ?_
                  exact R_iret rfl rfl (Nat.zero_le _) (Nat.zero_le _) (dX5_word_1 37 rfl) ⟨congrArg (fun z => some (Sum.inl z)) (Option.some.inj H), rfl, rfl⟩
              · have H := ite_F H hc
                refine R_sipush (dX5_word_0 54 rfl) rfl rfl ?_
                refine R_goto (tgt := 205) (dX5_word_0 55 rfl) (by decide) ?_
                exact R_iret rfl rfl (Nat.zero_le _) (Nat.zero_le _) (dX5_word_1 37 rfl) ⟨congrArg (fun z => some (Sum.inl z)) (Option.some.inj H), rfl, rfl⟩
            · have H := ite_F H hc
              refine R_sipush (dX5_word_0 46 rfl) rfl rfl ?_
              refine R_goto (tgt := 205) (dX5_word_0 47 rfl) (by decide) ?_
              exact R_iret rfl rfl (Nat.zero_le _) (Nat.zero_le _) (dX5_word_1 37 rfl) ⟨congrArg (fun z => some (Sum.inl z)) (Option.some.inj H), rfl, rfl⟩
          · have H := ite_F H hc
            refine R_sipush (dX5_word_0 38 rfl) rfl rfl ?_
            refine R_goto (tgt := 205) (dX5_word_0 39 rfl) (by decide) ?_
            exact R_iret rfl rfl (Nat.zero_le _) (Nat.zero_le _) (dX5_word_1 37 rfl) ⟨congrArg (fun z => some (Sum.inl z)) (Option.some.inj H), rfl, rfl⟩
        · have H := ite_F H hc
          refine R_sipush (dX5_word_0 30 rfl) rfl rfl ?_
          refine R_goto (tgt := 205) (dX5_word_0 31 rfl) (by decide) ?_
          exact R_iret rfl rfl (Nat.zero_le _) (Nat.zero_le _) (dX5_word_1 37 rfl) ⟨congrArg (fun z => some (Sum.inl z)) (Option.some.inj H), rfl, rfl⟩
      · have H := ite_F H hc
        refine R_sipush (dX5_word_0 22 rfl) rfl rfl ?_
        refine R_goto (tgt := 205) (dX5_word_0 23 rfl) (by decide) ?_
        exact R_iret rfl rfl (Nat.zero_le _) (Nat.zero_le _) (dX5_word_1 37 rfl) ⟨congrArg (fun z => some (Sum.inl z)) (Option.some.inj H), rfl, rfl⟩
    · have H := ite_F H hc
      refine R_sipush (dX5_word_0 14 rfl) rfl rfl ?_
      refine R_goto (tgt := 205) (dX5_word_0 15 rfl) (by decide) ?_
      exact R_iret rfl rfl (Nat.zero_le _) (Nat.zero_le _) (dX5_word_1 37 rfl) ⟨congrArg (fun z => some (Sum.inl z)) (Option.some.inj H), rfl, rfl⟩
  · have H := ite_F H hc
    refine R_sipush (dX5_word_0 6 rfl) rfl rfl ?_
    refine R_goto (tgt := 205) (dX5_word_0 7 rfl) (by decide) ?_
    exact R_iret rfl rfl (Nat.zero_le _) (Nat.zero_le _) (dX5_word_1 37 rfl) ⟨congrArg (fun z => some (Sum.inl z)) (Option.some.inj H), rfl, rfl⟩
def f_X5_value_L5 (x2 : Int) (M : Mem) : Nat → Int → Int → Option Int
  | 0, _, _ => none
  | n + 1, x3, x4 =>
    if x4 < x2 then
      f_X5_value_L5 x2 M n (w32 ((w32 ((w32 (x3 * 10)) + (rd 160 (M 14) x4))) - 48)) (w32 (x4 + 1))
    else
      some x3
set_option maxHeartbeats 4000000 in
theorem t_X5_value_L5 (l : Launch) (g : GG) (ad : Nat → Nat) (S : SW) (M : Mem) (hS : q_ag 12 21 ad S) (x2 : Int) {r : Int} : ∀ (n : Nat) (x3 : Int) (x4 : Int), f_X5_value_L5 x2 M n x3 x4 = some r → RW l g MX5_value (q_rm 2 0 0) 0 0 (q_ex S (some (.inl r)) M) 5 S M 0 0 [some (.inr (.inr (some (ad 13)))), none, some (.inl x2), some (.inl x3), some (.inl x4)] [] := by
  intro n
  induction n with
  | zero => intro x3 x4 H; exact absurd H (by simp [f_X5_value_L5])
  | succ n ih =>
    intro x3 x4 H
    rw [f_X5_value_L5] at H
    refine R_iload (i := 4) (dX5_value 4 rfl) rfl ?_
    refine R_iload_n (i := 2) (dX5_value 5 rfl) rfl rfl ?_
    refine R_icmp_ge (tgt := 35) (dX5_value 6 rfl) (by decide) (fun hc => ?_) (fun hc => ?_)
    · have H := ite_F H hc
      refine R_iload_n (i := 3) (dX5_value 20 rfl) rfl rfl ?_
      exact R_iret rfl rfl (Nat.zero_le _) (Nat.zero_le _) (dX5_value 21 rfl) ⟨congrArg (fun z => some (Sum.inl z)) (Option.some.inj H), rfl, rfl⟩
    · have H := ite_T H hc
      refine R_iload_n (i := 3) (dX5_value 7 rfl) rfl rfl ?_
      refine R_bipush (dX5_value 8 rfl) rfl rfl ?_
      refine R_imul (dX5_value 9 rfl) ?_
      refine R_aload_n (i := 0) (dX5_value 10 rfl) rfl rfl ?_
      refine R_getR cgX5 13 (cl13 hS) 0 (Nat.le_of_ble_eq_true rfl) rfl (Or.inl tb_192) (dX5_value 11 rfl) ?_
      refine R_iload (i := 4) (dX5_value 12 rfl) rfl ?_
      refine R_cS (st' := [.inl (rd 160 (M 14) x4), .inl (w32 (x3 * 10))]) [.inr (.inr (some (ad 14))), .inl x4] [.inl (w32 (x3 * 10))] (t_at l g S _ 14 (cl14 hS) (Nat.le_of_ble_eq_true rfl) x4) msX9_at (Or.inr ⟨_, tb_270⟩) ⟨Nat.le_of_ble_eq_true rfl, Nat.le_of_ble_eq_true rfl⟩ (Nat.zero_le _) (Nat.zero_le _) rfl rfl (Nat.le_of_ble_eq_true rfl) rfl (dX5_value 13 rfl) ?_
      refine R_iadd (dX5_value 14 rfl) ?_
      refine R_bipush (dX5_value 15 rfl) rfl rfl ?_
      refine R_isub (dX5_value 16 rfl) ?_
      refine R_istore_n (i := 3) (ls' := [some (.inr (.inr (some (ad 13)))), none, some (.inl x2), some (.inl (w32 ((w32 ((w32 (x3 * 10)) + (rd 160 (M 14) x4))) - 48))), some (.inl x4)]) (dX5_value 17 rfl) rfl (Nat.le_of_ble_eq_true rfl) (Nat.le_of_ble_eq_true rfl) rfl rfl ?_
      refine R_iinc (i := 4) (ls' := [some (.inr (.inr (some (ad 13)))), none, some (.inl x2), some (.inl (w32 ((w32 ((w32 (x3 * 10)) + (rd 160 (M 14) x4))) - 48))), some (.inl (w32 (x4 + 1)))]) (dX5_value 18 rfl) rfl (Nat.le_of_ble_eq_true rfl) rfl rfl ?_
      refine R_goto (tgt := 5) (dX5_value 19 rfl) (by decide) ?_
      exact ih (w32 ((w32 ((w32 (x3 * 10)) + (rd 160 (M 14) x4))) - 48)) (w32 (x4 + 1)) H
def f_X5_value (x1 : Int) (x2 : Int) (M : Mem) : Option Int :=
  f_X5_value_L5
    x2 M 100000 0 x1
set_option maxHeartbeats 4000000 in
theorem t_X5_value (l : Launch) (g : GG) (ad : Nat → Nat) (S : SW) (M : Mem) (hS : q_ag 12 21 ad S) (x1 : Int) (x2 : Int) {r : Int} (H : f_X5_value x1 x2 M = some r) : CT l g MX5_value 2 0 0 S M [.inr (.inr (some (ad 13))), .inl x1, .inl x2] (q_ex S (some (.inl r)) M) := by
  unfold f_X5_value at H
  refine CT_of (ls0 := [some (.inr (.inr (some (ad 13)))), some (.inl x1), some (.inl x2), none, none]) (by decide +kernel) (Nat.le_of_ble_eq_true rfl) rfl ?_
  refine R_iconst (dX5_value 0 rfl) rfl ?_
  refine R_istore_n (i := 3) (ls' := [some (.inr (.inr (some (ad 13)))), some (.inl x1), some (.inl x2), some (.inl 0), none]) (dX5_value 1 rfl) rfl (Nat.le_of_ble_eq_true rfl) (Nat.le_of_ble_eq_true rfl) rfl rfl ?_
  refine R_iload_n (i := 1) (dX5_value 2 rfl) rfl rfl ?_
  refine R_istore (i := 4) (ls' := [some (.inr (.inr (some (ad 13)))), some (.inl x1), some (.inl x2), some (.inl 0), some (.inl x1)]) (dX5_value 3 rfl) (Nat.le_of_ble_eq_true rfl) (Nat.le_of_ble_eq_true rfl) rfl rfl ?_
  refine R_mask [true, false, true, true, true] rfl ?_
  exact t_X5_value_L5 l g ad S M hS x2  100000 0 x1 H 
def f_J1_canEncode_9a6ad (x0 : Int) : Int :=
  if x0 < 0 then
    0
  else
    if 255 < x0 then
      0
    else
      1
set_option maxHeartbeats 4000000 in
theorem t_J1_canEncode_9a6ad (l : Launch) (g : GG) (S : SW) (M : Mem) (x0 : Int) : CT l g MJ1_canEncode_9a6ad 1 0 0 S M [.inl x0] (q_ex S (some (.inl (f_J1_canEncode_9a6ad x0))) M) := by
  obtain ⟨r, H⟩ : ∃ r, f_J1_canEncode_9a6ad x0 = r := ⟨_, rfl⟩
  rw [H]
  unfold f_J1_canEncode_9a6ad at H
  refine CT_of (ls0 := [some (.inl x0)]) (by decide +kernel) (Nat.le_of_ble_eq_true rfl) rfl ?_
  refine R_iload_n (i := 0) (dJ1_canEncode_9a6ad 0 rfl) rfl rfl ?_
  refine R_if_lt (tgt := 15) (dJ1_canEncode_9a6ad 1 rfl) (by decide) (fun hc => ?_) (fun hc => ?_)
  · have H := ite_T H hc
    refine R_iconst (dJ1_canEncode_9a6ad 7 rfl) rfl ?_
    exact R_iret rfl (by decide +kernel) (Nat.zero_le _) (Nat.zero_le _) (dJ1_canEncode_9a6ad 8 rfl) ⟨congrArg (fun z => some (Sum.inl z)) H, rfl, rfl⟩
  · have H := ite_F H hc
    refine R_iload_n (i := 0) (dJ1_canEncode_9a6ad 2 rfl) rfl rfl ?_
    refine R_sipush (dJ1_canEncode_9a6ad 3 rfl) rfl rfl ?_
    refine R_icmp_gt (tgt := 15) (dJ1_canEncode_9a6ad 4 rfl) (by decide) (fun hc => ?_) (fun hc => ?_)
    · have H := ite_T H hc
      refine R_iconst (dJ1_canEncode_9a6ad 7 rfl) rfl ?_
      exact R_iret rfl (by decide +kernel) (Nat.zero_le _) (Nat.zero_le _) (dJ1_canEncode_9a6ad 8 rfl) ⟨congrArg (fun z => some (Sum.inl z)) H, rfl, rfl⟩
    · have H := ite_F H hc
      refine R_iconst (dJ1_canEncode_9a6ad 5 rfl) rfl ?_
      refine R_goto (tgt := 16) (dJ1_canEncode_9a6ad 6 rfl) (by decide) ?_
      exact R_iret rfl (by decide +kernel) (Nat.zero_le _) (Nat.zero_le _) (dJ1_canEncode_9a6ad 8 rfl) ⟨congrArg (fun z => some (Sum.inl z)) H, rfl, rfl⟩
theorem z_J1_canEncode_9a6ad (x0 : Int) : f_J1_canEncode_9a6ad x0 = 0 ∨ f_J1_canEncode_9a6ad x0 = 1 := by
  unfold f_J1_canEncode_9a6ad
  (repeat' split) <;> first | exact Or.inl rfl | exact Or.inr rfl
def f_J1_indexOfChar_4cfef_L7 (si : Nat) (x3 : Int) (x4 : Int) : Nat → Int → Option Int
  | 0, _ => none
  | n + 1, x5 =>
    if x5 < x3 then
      if 0 ≤ x5 ∧ x5 < ((q_sl.getD si 0 : Nat) : Int) then
        if (q_sb si).getD (x5).toNat 0 = x4 then
          some x5
        else
          f_J1_indexOfChar_4cfef_L7 si x3 x4 n (w32 (x5 + 1))
      else none
    else
      some (-1)
set_option maxHeartbeats 4000000 in
theorem t_J1_indexOfChar_4cfef_L7 (l : Launch) (g : GG) (S : SW) (M : Mem) (si : Nat) (hsi : si < 14) (x3 : Int) (x4 : Int) {r : Int} : ∀ (n : Nat) (x5 : Int), f_J1_indexOfChar_4cfef_L7 si x3 x4 n x5 = some r → RW l g MJ1_indexOfChar_4cfef (q_rm 1 0 0) 0 0 (q_ex S (some (.inl r)) M) 7 S M 0 0 [some (.inr (.inr (some (g.2.2.2.1 (30 + si))))), none, none, some (.inl x3), some (.inl x4), some (.inl x5)] [] := by
  intro n
  induction n with
  | zero => intro x5 H; exact absurd H (by simp [f_J1_indexOfChar_4cfef_L7])
  | succ n ih =>
    intro x5 H
    rw [f_J1_indexOfChar_4cfef_L7] at H
    refine R_iload (i := 5) (dJ1_indexOfChar_4cfef 5 rfl) rfl ?_
    refine R_iload_n (i := 3) (dJ1_indexOfChar_4cfef 6 rfl) rfl rfl ?_
    refine R_icmp_ge (tgt := 31) (dJ1_indexOfChar_4cfef 7 rfl) (by decide) (fun hc => ?_) (fun hc => ?_)
    · have H := ite_F H hc
      refine R_iconst (dJ1_indexOfChar_4cfef 17 rfl) rfl ?_
      exact R_iret rfl rfl (Nat.zero_le _) (Nat.zero_le _) (dJ1_indexOfChar_4cfef 18 rfl) ⟨congrArg (fun z => some (Sum.inl z)) (Option.some.inj H), rfl, rfl⟩
    · have H := ite_T H hc
      refine R_aload_n (i := 0) (dJ1_indexOfChar_4cfef 8 rfl) rfl rfl ?_
      refine R_iload (i := 5) (dJ1_indexOfChar_4cfef 9 rfl) rfl ?_
      obtain ⟨hg, H⟩ := ite_G H
      refine R_bald si hsi hg (dJ1_indexOfChar_4cfef 10 rfl) ?_
      refine R_iload (i := 4) (dJ1_indexOfChar_4cfef 11 rfl) rfl ?_
      refine R_icmp_ne (tgt := 25) (dJ1_indexOfChar_4cfef 12 rfl) (by decide) (fun hc => ?_) (fun hc => ?_)
      · have H := ite_F H hc
        refine R_iinc (i := 5) (ls' := [some (.inr (.inr (some (g.2.2.2.1 (30 + si))))), none, none, some (.inl x3), some (.inl x4), some (.inl (w32 (x5 + 1)))]) (dJ1_indexOfChar_4cfef 15 rfl) rfl (Nat.le_of_ble_eq_true rfl) rfl rfl ?_
        refine R_goto (tgt := 7) (dJ1_indexOfChar_4cfef 16 rfl) (by decide) ?_
        exact ih (w32 (x5 + 1)) H
      · have H := ite_T H hc
        refine R_iload (i := 5) (dJ1_indexOfChar_4cfef 13 rfl) rfl ?_
        exact R_iret rfl rfl (Nat.zero_le _) (Nat.zero_le _) (dJ1_indexOfChar_4cfef 14 rfl) ⟨congrArg (fun z => some (Sum.inl z)) (Option.some.inj H), rfl, rfl⟩
def f_J1_indexOfChar_4cfef (si : Nat) (x1 : Int) (x2 : Int) (x3 : Int) : Option Int :=
  f_J1_indexOfChar_4cfef_L7
    si x3 (b_i2b x1) 100000 x2
set_option maxHeartbeats 4000000 in
theorem t_J1_indexOfChar_4cfef (l : Launch) (g : GG) (S : SW) (M : Mem) (si : Nat) (hsi : si < 14) (x1 : Int) (x2 : Int) (x3 : Int) {r : Int} (H : f_J1_indexOfChar_4cfef si x1 x2 x3 = some r) : CT l g MJ1_indexOfChar_4cfef 1 0 0 S M [.inr (.inr (some (g.2.2.2.1 (30 + si)))), .inl x1, .inl x2, .inl x3] (q_ex S (some (.inl r)) M) := by
  unfold f_J1_indexOfChar_4cfef at H
  refine CT_of (ls0 := [some (.inr (.inr (some (g.2.2.2.1 (30 + si))))), some (.inl x1), some (.inl x2), some (.inl x3), none, none]) (by decide +kernel) (Nat.le_of_ble_eq_true rfl) rfl ?_
  refine R_iload_n (i := 1) (dJ1_indexOfChar_4cfef 0 rfl) rfl rfl ?_
  refine R_i2b (dJ1_indexOfChar_4cfef 1 rfl) ?_
  refine R_istore (i := 4) (ls' := [some (.inr (.inr (some (g.2.2.2.1 (30 + si))))), some (.inl x1), some (.inl x2), some (.inl x3), some (.inl (b_i2b x1)), none]) (dJ1_indexOfChar_4cfef 2 rfl) (Nat.le_of_ble_eq_true rfl) (Nat.le_of_ble_eq_true rfl) rfl rfl ?_
  refine R_iload_n (i := 2) (dJ1_indexOfChar_4cfef 3 rfl) rfl rfl ?_
  refine R_istore (i := 5) (ls' := [some (.inr (.inr (some (g.2.2.2.1 (30 + si))))), some (.inl x1), some (.inl x2), some (.inl x3), some (.inl (b_i2b x1)), some (.inl x2)]) (dJ1_indexOfChar_4cfef 4 rfl) (Nat.le_of_ble_eq_true rfl) (Nat.le_of_ble_eq_true rfl) rfl rfl ?_
  refine R_mask [true, false, false, true, true, true] rfl ?_
  exact t_J1_indexOfChar_4cfef_L7 l g S M si hsi x3 (b_i2b x1)  100000 x2 H 
def f_J1_indexOf_4cfef (si : Nat) (x1 : Int) (x2 : Int) (x3 : Int) : Option Int :=
  if f_J1_canEncode_9a6ad x1 = 0 then
    some (-1)
  else
    if (if x2 < 0 then 0 else x2) < (if ((q_sl.getD si 0 : Nat) : Int) < x3 then ((q_sl.getD si 0 : Nat) : Int) else x3) then
      (f_J1_indexOfChar_4cfef si x1 (if x2 < 0 then 0 else x2) (if ((q_sl.getD si 0 : Nat) : Int) < x3 then ((q_sl.getD si 0 : Nat) : Int) else x3)).bind fun r42 =>
      some r42
    else
      some (-1)
set_option maxHeartbeats 4000000 in
theorem t_J1_indexOf_4cfef (l : Launch) (g : GG) (S : SW) (M : Mem) (si : Nat) (hsi : si < 14) (x1 : Int) (x2 : Int) (x3 : Int) {r : Int} (H : f_J1_indexOf_4cfef si x1 x2 x3 = some r) : CT l g MJ1_indexOf_4cfef 2 0 0 S M [.inr (.inr (some (g.2.2.2.1 (30 + si)))), .inl x1, .inl x2, .inl x3] (q_ex S (some (.inl r)) M) := by
  unfold f_J1_indexOf_4cfef at H
  refine CT_of (ls0 := [some (.inr (.inr (some (g.2.2.2.1 (30 + si))))), some (.inl x1), some (.inl x2), some (.inl x3)]) (by decide +kernel) (Nat.le_of_ble_eq_true rfl) rfl ?_
  refine R_iload_n (i := 1) (dJ1_indexOf_4cfef 0 rfl) rfl rfl ?_
  refine R_cS (st' := [.inl (f_J1_canEncode_9a6ad x1)]) [.inl x1] [] (t_J1_canEncode_9a6ad l g S _   x1) msJ1_canEncode_9a6ad (Or.inl tb_330) ⟨Nat.le_of_ble_eq_true rfl, Nat.le_of_ble_eq_true rfl⟩ (Nat.zero_le _) (Nat.zero_le _) rfl rfl (Nat.le_of_ble_eq_true rfl) rfl (dJ1_indexOf_4cfef 1 rfl) ?_
  refine R_if_ne (tgt := 9) (dJ1_indexOf_4cfef 2 rfl) (by decide) (fun hc => ?_) (fun hc => ?_)
  · have H := ite_F H hc
    refine R_iload_n (i := 2) (dJ1_indexOf_4cfef 5 rfl) rfl rfl ?_
    refine R_iconst (dJ1_indexOf_4cfef 6 rfl) rfl ?_
    refine R_mmax tb_333 tb_113 tb_72 tb_114 (Nat.le_of_ble_eq_true rfl) (Nat.le_of_ble_eq_true rfl) (Nat.le_of_ble_eq_true rfl) (Nat.zero_le _) (Nat.zero_le _) (dJ1_indexOf_4cfef 7 rfl) ?_
    refine R_istore_n (i := 2) (ls' := [some (.inr (.inr (some (g.2.2.2.1 (30 + si))))), some (.inl x1), some (.inl (if x2 < 0 then 0 else x2)), some (.inl x3)]) (dJ1_indexOf_4cfef 8 rfl) rfl (Nat.le_of_ble_eq_true rfl) (Nat.le_of_ble_eq_true rfl) rfl rfl ?_
    refine R_iload_n (i := 3) (dJ1_indexOf_4cfef 9 rfl) rfl rfl ?_
    refine R_aload_n (i := 0) (dJ1_indexOf_4cfef 10 rfl) rfl rfl ?_
    refine R_blen si hsi (dJ1_indexOf_4cfef 11 rfl) ?_
    refine R_mmin tb_334 tb_335 tb_72 tb_336 (Nat.le_of_ble_eq_true rfl) (Nat.le_of_ble_eq_true rfl) (Nat.le_of_ble_eq_true rfl) (Nat.zero_le _) (Nat.zero_le _) (dJ1_indexOf_4cfef 12 rfl) ?_
    refine R_istore_n (i := 3) (ls' := [some (.inr (.inr (some (g.2.2.2.1 (30 + si))))), some (.inl x1), some (.inl (if x2 < 0 then 0 else x2)), some (.inl (if ((q_sl.getD si 0 : Nat) : Int) < x3 then ((q_sl.getD si 0 : Nat) : Int) else x3))]) (dJ1_indexOf_4cfef 13 rfl) rfl (Nat.le_of_ble_eq_true rfl) (Nat.le_of_ble_eq_true rfl) rfl rfl ?_
    refine R_iload_n (i := 2) (dJ1_indexOf_4cfef 14 rfl) rfl rfl ?_
    refine R_iload_n (i := 3) (dJ1_indexOf_4cfef 15 rfl) rfl rfl ?_
    refine R_icmp_lt (tgt := 29) (dJ1_indexOf_4cfef 16 rfl) (by decide) (fun hc => ?_) (fun hc => ?_)
    · have H := ite_T H hc
      refine R_aload_n (i := 0) (dJ1_indexOf_4cfef 19 rfl) rfl rfl ?_
      refine R_iload_n (i := 1) (dJ1_indexOf_4cfef 20 rfl) rfl rfl ?_
      refine R_iload_n (i := 2) (dJ1_indexOf_4cfef 21 rfl) rfl rfl ?_
      refine R_iload_n (i := 3) (dJ1_indexOf_4cfef 22 rfl) rfl rfl ?_
      obtain ⟨r42, hr, H⟩ := op_E H
      refine R_cS (st' := [.inl r42]) [.inr (.inr (some (g.2.2.2.1 (30 + si)))), .inl x1, .inl (if x2 < 0 then 0 else x2), .inl (if ((q_sl.getD si 0 : Nat) : Int) < x3 then ((q_sl.getD si 0 : Nat) : Int) else x3)] [] (t_J1_indexOfChar_4cfef l g S _  si hsi  x1 (if x2 < 0 then 0 else x2) (if ((q_sl.getD si 0 : Nat) : Int) < x3 then ((q_sl.getD si 0 : Nat) : Int) else x3) hr) msJ1_indexOfChar_4cfef (Or.inl tb_337) ⟨Nat.le_of_ble_eq_true rfl, Nat.le_of_ble_eq_true rfl⟩ (Nat.zero_le _) (Nat.zero_le _) rfl rfl (Nat.le_of_ble_eq_true rfl) rfl (dJ1_indexOf_4cfef 23 rfl) ?_
      exact R_iret rfl rfl (Nat.zero_le _) (Nat.zero_le _) (dJ1_indexOf_4cfef 24 rfl) ⟨congrArg (fun z => some (Sum.inl z)) (Option.some.inj H), rfl, rfl⟩
    · have H := ite_F H hc
      refine R_iconst (dJ1_indexOf_4cfef 17 rfl) rfl ?_
      exact R_iret rfl rfl (Nat.zero_le _) (Nat.zero_le _) (dJ1_indexOf_4cfef 18 rfl) ⟨congrArg (fun z => some (Sum.inl z)) (Option.some.inj H), rfl, rfl⟩
  · have H := ite_T H hc
    refine R_iconst (dJ1_indexOf_4cfef 3 rfl) rfl ?_
    exact R_iret rfl rfl (Nat.zero_le _) (Nat.zero_le _) (dJ1_indexOf_4cfef 4 rfl) ⟨congrArg (fun z => some (Sum.inl z)) (Option.some.inj H), rfl, rfl⟩
def f_J0_indexOf_7cf53 (si : Nat) (x1 : Int) (x2 : Int) : Option Int :=
  (f_J1_indexOf_4cfef si x1 x2 (f_J0_length_8abf5 si)).bind fun r43 =>
  some r43
set_option maxHeartbeats 4000000 in
theorem t_J0_indexOf_7cf53 (l : Launch) (g : GG) (S : SW) (M : Mem) (si : Nat) (hsi : si < 14) (x1 : Int) (x2 : Int) {r : Int} (H : f_J0_indexOf_7cf53 si x1 x2 = some r) : CT l g MJ0_indexOf_7cf53 3 0 0 S M [.inr (.inr (some (g.2.2.2.1 (10 + si)))), .inl x1, .inl x2] (q_ex S (some (.inl r)) M) := by
  unfold f_J0_indexOf_7cf53 at H
  refine CT_of (ls0 := [some (.inr (.inr (some (g.2.2.2.1 (10 + si))))), some (.inl x1), some (.inl x2)]) (by decide +kernel) (Nat.le_of_ble_eq_true rfl) rfl ?_
  refine R_aload_n (i := 0) (dJ0_indexOf_7cf53 0 rfl) rfl rfl ?_
  refine R_cV (st' := [.inl 1]) [] [] (t_J0_isLatin1_aae02 l g S _  si hsi ) msJ0_isLatin1_aae02 (Or.inl tb_223) (Or.inr ⟨si, hsi, rfl, rfl⟩) ⟨Nat.le_of_ble_eq_true rfl, Nat.le_of_ble_eq_true rfl⟩ (Nat.zero_le _) (Nat.zero_le _) rfl rfl (Nat.le_of_ble_eq_true rfl) rfl (dJ0_indexOf_7cf53 1 rfl) ?_
  refine R_if_eq (tgt := 23) (dJ0_indexOf_7cf53 2 rfl) (by decide) (fun hc => absurd hc (by decide)) (fun _ => ?_)
  refine R_aload_n (i := 0) (dJ0_indexOf_7cf53 3 rfl) rfl rfl ?_
  refine R_strV si hsi tb_1576 (dJ0_indexOf_7cf53 4 rfl) ?_
  refine R_iload_n (i := 1) (dJ0_indexOf_7cf53 5 rfl) rfl rfl ?_
  refine R_iload_n (i := 2) (dJ0_indexOf_7cf53 6 rfl) rfl rfl ?_
  refine R_aload_n (i := 0) (dJ0_indexOf_7cf53 7 rfl) rfl rfl ?_
  refine R_cV (st' := [.inl (f_J0_length_8abf5 si), .inl x2, .inl x1, .inr (.inr (some (g.2.2.2.1 (30 + si))))]) [] [.inl x2, .inl x1, .inr (.inr (some (g.2.2.2.1 (30 + si))))] (t_J0_length_8abf5 l g S _  si hsi ) msJ0_length_8abf5 (Or.inl tb_326) (Or.inr ⟨si, hsi, rfl, rfl⟩) ⟨Nat.le_of_ble_eq_true rfl, Nat.le_of_ble_eq_true rfl⟩ (Nat.zero_le _) (Nat.zero_le _) rfl rfl (Nat.le_of_ble_eq_true rfl) rfl (dJ0_indexOf_7cf53 8 rfl) ?_
  obtain ⟨r43, hr, H⟩ := op_E H
  refine R_cS (st' := [.inl r43]) [.inr (.inr (some (g.2.2.2.1 (30 + si)))), .inl x1, .inl x2, .inl (f_J0_length_8abf5 si)] [] (t_J1_indexOf_4cfef l g S _  si hsi  x1 x2 (f_J0_length_8abf5 si) hr) msJ1_indexOf_4cfef (Or.inl tb_327) ⟨Nat.le_of_ble_eq_true rfl, Nat.le_of_ble_eq_true rfl⟩ (Nat.zero_le _) (Nat.zero_le _) rfl rfl (Nat.le_of_ble_eq_true rfl) rfl (dJ0_indexOf_7cf53 9 rfl) ?_
  refine R_goto (tgt := 36) (dJ0_indexOf_7cf53 10 rfl) (by decide) ?_
  exact R_iret rfl rfl (Nat.zero_le _) (Nat.zero_le _) (dJ0_indexOf_7cf53 18 rfl) ⟨congrArg (fun z => some (Sum.inl z)) (Option.some.inj H), rfl, rfl⟩
def f_J0_indexOf_0f7a4 (si : Nat) (x1 : Int) : Option Int :=
  (f_J0_indexOf_7cf53 si x1 0).bind fun r44 =>
  some r44
set_option maxHeartbeats 4000000 in
theorem t_J0_indexOf_0f7a4 (l : Launch) (g : GG) (S : SW) (M : Mem) (si : Nat) (hsi : si < 14) (x1 : Int) {r : Int} (H : f_J0_indexOf_0f7a4 si x1 = some r) : CT l g MJ0_indexOf_0f7a4 4 0 0 S M [.inr (.inr (some (g.2.2.2.1 (10 + si)))), .inl x1] (q_ex S (some (.inl r)) M) := by
  unfold f_J0_indexOf_0f7a4 at H
  refine CT_of (ls0 := [some (.inr (.inr (some (g.2.2.2.1 (10 + si))))), some (.inl x1)]) (by decide +kernel) (Nat.le_of_ble_eq_true rfl) rfl ?_
  refine R_aload_n (i := 0) (dJ0_indexOf_0f7a4 0 rfl) rfl rfl ?_
  refine R_iload_n (i := 1) (dJ0_indexOf_0f7a4 1 rfl) rfl rfl ?_
  refine R_iconst (dJ0_indexOf_0f7a4 2 rfl) rfl ?_
  obtain ⟨r44, hr, H⟩ := op_E H
  refine R_cV (st' := [.inl r44]) [.inl x1, .inl 0] [] (t_J0_indexOf_7cf53 l g S _  si hsi  x1 0 hr) msJ0_indexOf_7cf53 (Or.inl tb_322) (Or.inr ⟨si, hsi, rfl, rfl⟩) ⟨Nat.le_of_ble_eq_true rfl, Nat.le_of_ble_eq_true rfl⟩ (Nat.zero_le _) (Nat.zero_le _) rfl rfl (Nat.le_of_ble_eq_true rfl) rfl (dJ0_indexOf_0f7a4 3 rfl) ?_
  exact R_iret rfl rfl (Nat.zero_le _) (Nat.zero_le _) (dJ0_indexOf_0f7a4 4 rfl) ⟨congrArg (fun z => some (Sum.inl z)) (Option.some.inj H), rfl, rfl⟩
def f_X5_tokenOf (x1 : Int) (x2 : Int) (M : Mem) : Option Int :=
  if f_X5_isLetter (rd 160 (M 14) x1) = 0 then
    if f_X5_isDigit (rd 160 (M 14) x1) = 0 then
      (f_J0_indexOf_0f7a4 0 (b_i2c (rd 160 (M 14) x1))).bind fun r45 =>
      if r45 < 0 then
        some 1
      else
        some (rd 160 (M 14) x1)
    else
      if 4 < w32 (x2 - x1) then
        some 1
      else
        (f_X5_value x1 x2 M).bind fun r46 =>
        some (w32 (1000 + r46))
  else
    (f_X5_word x1 x2 M).bind fun r47 =>
    some r47
set_option maxHeartbeats 4000000 in
theorem t_X5_tokenOf (l : Launch) (g : GG) (ad : Nat → Nat) (S : SW) (M : Mem) (hS : q_ag 12 21 ad S) (x1 : Int) (x2 : Int) {r : Int} (H : f_X5_tokenOf x1 x2 M = some r) : CT l g MX5_tokenOf 7 0 0 S M [.inr (.inr (some (ad 13))), .inl x1, .inl x2] (q_ex S (some (.inl r)) M) := by
  unfold f_X5_tokenOf at H
  refine CT_of (ls0 := [some (.inr (.inr (some (ad 13)))), some (.inl x1), some (.inl x2), none]) (by decide +kernel) (Nat.le_of_ble_eq_true rfl) rfl ?_
  refine R_aload_n (i := 0) (dX5_tokenOf 0 rfl) rfl rfl ?_
  refine R_getR cgX5 13 (cl13 hS) 0 (Nat.le_of_ble_eq_true rfl) rfl (Or.inl tb_192) (dX5_tokenOf 1 rfl) ?_
  refine R_iload_n (i := 1) (dX5_tokenOf 2 rfl) rfl rfl ?_
  refine R_cS (st' := [.inl (rd 160 (M 14) x1)]) [.inr (.inr (some (ad 14))), .inl x1] [] (t_at l g S _ 14 (cl14 hS) (Nat.le_of_ble_eq_true rfl) x1) msX9_at (Or.inr ⟨_, tb_270⟩) ⟨Nat.le_of_ble_eq_true rfl, Nat.le_of_ble_eq_true rfl⟩ (Nat.zero_le _) (Nat.zero_le _) rfl rfl (Nat.le_of_ble_eq_true rfl) rfl (dX5_tokenOf 3 rfl) ?_
  refine R_istore_n (i := 3) (ls' := [some (.inr (.inr (some (ad 13)))), some (.inl x1), some (.inl x2), some (.inl (rd 160 (M 14) x1))]) (dX5_tokenOf 4 rfl) rfl (Nat.le_of_ble_eq_true rfl) (Nat.le_of_ble_eq_true rfl) rfl rfl ?_
  refine R_iload_n (i := 3) (dX5_tokenOf 5 rfl) rfl rfl ?_
  refine R_cS (st' := [.inl (f_X5_isLetter (rd 160 (M 14) x1))]) [.inl (rd 160 (M 14) x1)] [] (t_X5_isLetter l g ad S _ hS   (rd 160 (M 14) x1)) msX5_isLetter (Or.inl tb_278) ⟨Nat.le_of_ble_eq_true rfl, Nat.le_of_ble_eq_true rfl⟩ (Nat.zero_le _) (Nat.zero_le _) rfl rfl (Nat.le_of_ble_eq_true rfl) rfl (dX5_tokenOf 6 rfl) ?_
  refine R_if_eq (tgt := 23) (dX5_tokenOf 7 rfl) (by decide) (fun hc => ?_) (fun hc => ?_)
  · have H := ite_T H hc
    refine R_iload_n (i := 3) (dX5_tokenOf 13 rfl) rfl rfl ?_
    refine R_cS (st' := [.inl (f_X5_isDigit (rd 160 (M 14) x1))]) [.inl (rd 160 (M 14) x1)] [] (t_X5_isDigit l g ad S _ hS   (rd 160 (M 14) x1)) msX5_isDigit (Or.inl tb_284) ⟨Nat.le_of_ble_eq_true rfl, Nat.le_of_ble_eq_true rfl⟩ (Nat.zero_le _) (Nat.zero_le _) rfl rfl (Nat.le_of_ble_eq_true rfl) rfl (dX5_tokenOf 14 rfl) ?_
    refine R_if_eq (tgt := 52) (dX5_tokenOf 15 rfl) (by decide) (fun hc => ?_) (fun hc => ?_)
    · have H := ite_T H hc
      refine R_ldcS 0 (q := ("CardNobodyReads$Tape", 61, "();+-*<=", [40, 41, 59, 43, 45, 42, 60, 61])) rfl rfl (dX5_tokenOf 30 rfl) ?_
      refine R_iload_n (i := 3) (dX5_tokenOf 31 rfl) rfl rfl ?_
      refine R_i2c (dX5_tokenOf 32 rfl) ?_
      obtain ⟨r45, hr, H⟩ := op_E H
      refine R_cV (st' := [.inl r45]) [.inl (b_i2c (rd 160 (M 14) x1))] [] (t_J0_indexOf_0f7a4 l g S _  0 (by decide)  (b_i2c (rd 160 (M 14) x1)) hr) msJ0_indexOf_0f7a4 (Or.inl tb_318) (Or.inr ⟨0, (by decide), rfl, rfl⟩) ⟨Nat.le_of_ble_eq_true rfl, Nat.le_of_ble_eq_true rfl⟩ (Nat.zero_le _) (Nat.zero_le _) rfl rfl (Nat.le_of_ble_eq_true rfl) rfl (dX5_tokenOf 33 rfl) ?_
      refine R_if_lt (tgt := 66) (dX5_tokenOf 34 rfl) (by decide) (fun hc => ?_) (fun hc => ?_)
      · have H := ite_T H hc
        refine R_iconst (dX5_tokenOf 37 rfl) rfl ?_
        exact R_iret rfl rfl (Nat.zero_le _) (Nat.zero_le _) (dX5_tokenOf 38 rfl) ⟨congrArg (fun z => some (Sum.inl z)) (Option.some.inj H), rfl, rfl⟩
      · have H := ite_F H hc
        refine R_iload_n (i := 3) (dX5_tokenOf 35 rfl) rfl rfl ?_
        refine R_goto (tgt := 67) (dX5_tokenOf 36 rfl) (by decide) ?_
        exact R_iret rfl rfl (Nat.zero_le _) (Nat.zero_le _) (dX5_tokenOf 38 rfl) ⟨congrArg (fun z => some (Sum.inl z)) (Option.some.inj H), rfl, rfl⟩
    · have H := ite_F H hc
      refine R_iload_n (i := 2) (dX5_tokenOf 16 rfl) rfl rfl ?_
      refine R_iload_n (i := 1) (dX5_tokenOf 17 rfl) rfl rfl ?_
      refine R_isub (dX5_tokenOf 18 rfl) ?_
      refine R_iconst (dX5_tokenOf 19 rfl) rfl ?_
      refine R_icmp_le (tgt := 41) (dX5_tokenOf 20 rfl) (by decide) (fun hc => ?_) (fun hc => ?_)
      · have H := ite_F H hc
        refine R_sipush (dX5_tokenOf 23 rfl) rfl rfl ?_
        refine R_aload_n (i := 0) (dX5_tokenOf 24 rfl) rfl rfl ?_
        refine R_iload_n (i := 1) (dX5_tokenOf 25 rfl) rfl rfl ?_
        refine R_iload_n (i := 2) (dX5_tokenOf 26 rfl) rfl rfl ?_
        obtain ⟨r46, hr, H⟩ := op_E H
        refine R_cV (st' := [.inl r46, .inl 1000]) [.inl x1, .inl x2] [.inl 1000] (t_X5_value l g ad S _ hS   x1 x2 hr) msX5_value (Or.inl tb_313) (Or.inl ⟨13, 5, _, _, _, (cl13 hS), rfl⟩) ⟨Nat.le_of_ble_eq_true rfl, Nat.le_of_ble_eq_true rfl⟩ (Nat.zero_le _) (Nat.zero_le _) rfl rfl (Nat.le_of_ble_eq_true rfl) rfl (dX5_tokenOf 27 rfl) ?_
        refine R_iadd (dX5_tokenOf 28 rfl) ?_
        exact R_iret rfl rfl (Nat.zero_le _) (Nat.zero_le _) (dX5_tokenOf 29 rfl) ⟨congrArg (fun z => some (Sum.inl z)) (Option.some.inj H), rfl, rfl⟩
      · have H := ite_T H hc
        refine R_iconst (dX5_tokenOf 21 rfl) rfl ?_
        refine R_goto (tgt := 51) (dX5_tokenOf 22 rfl) (by decide) ?_
        exact R_iret rfl rfl (Nat.zero_le _) (Nat.zero_le _) (dX5_tokenOf 29 rfl) ⟨congrArg (fun z => some (Sum.inl z)) (Option.some.inj H), rfl, rfl⟩
  · have H := ite_F H hc
    refine R_aload_n (i := 0) (dX5_tokenOf 8 rfl) rfl rfl ?_
    refine R_iload_n (i := 1) (dX5_tokenOf 9 rfl) rfl rfl ?_
    refine R_iload_n (i := 2) (dX5_tokenOf 10 rfl) rfl rfl ?_
    obtain ⟨r47, hr, H⟩ := op_E H
    refine R_cV (st' := [.inl r47]) [.inl x1, .inl x2] [] (t_X5_word l g ad S _ hS   x1 x2 hr) msX5_word (Or.inl tb_291) (Or.inl ⟨13, 5, _, _, _, (cl13 hS), rfl⟩) ⟨Nat.le_of_ble_eq_true rfl, Nat.le_of_ble_eq_true rfl⟩ (Nat.zero_le _) (Nat.zero_le _) rfl rfl (Nat.le_of_ble_eq_true rfl) rfl (dX5_tokenOf 11 rfl) ?_
    exact R_iret rfl rfl (Nat.zero_le _) (Nat.zero_le _) (dX5_tokenOf 12 rfl) ⟨congrArg (fun z => some (Sum.inl z)) (Option.some.inj H), rfl, rfl⟩
def f_X5_cut_L6 (K71 : Int → Mem → Option (Int × Mem)) : Nat → Int → Int → Int → Mem → Option (Int × Mem)
  | 0, _, _, _, _ => none
  | n + 1, x1, x2, x3, M =>
    if x3 < M 13 3 then
      if x3 < x2 then
        f_X5_cut_L6 K71 n x1 x2 (w32 (x3 + 1)) M
      else
        if f_X5_isBlank (rd 160 (M 14) x3) = 0 then
          (f_X5_endOf x3 M).bind fun r48 =>
          (f_X5_tokenOf x3 r48 M).bind fun r49 =>
          f_X5_cut_L6 K71 n (w32 (x1 + 1)) r48 (w32 (x3 + 1)) (wr (wr M 15 161 x1 r49) 16 161 x1 x3)
        else
          f_X5_cut_L6 K71 n x1 x2 (w32 (x3 + 1)) M
    else
      K71 x1 M
set_option maxHeartbeats 4000000 in
theorem t_X5_cut_L6 (l : Launch) (g : GG) (ad : Nat → Nat) (S : SW) (hS : q_ag 12 21 ad S) {K71 : Int → Mem → Option (Int × Mem)} {r : Int} {M' : Mem} : ∀ (n : Nat) (x1 : Int) (x2 : Int) (x3 : Int) (M : Mem), f_X5_cut_L6 K71 n x1 x2 x3 M = some (r, M') → (∀ (z1 : Int) (M1 : Mem), K71 z1 M1 = some (r, M') → RW l g MX5_cut (q_rm 8 0 0) 0 0 (q_ex S none M') 71 S M1 0 0 [some (.inr (.inr (some (ad 13)))), some (.inl z1), none, none] []) → RW l g MX5_cut (q_rm 8 0 0) 0 0 (q_ex S none M') 6 S M 0 0 [some (.inr (.inr (some (ad 13)))), some (.inl x1), some (.inl x2), some (.inl x3)] [] := by
  intro n
  induction n with
  | zero => intro x1 x2 x3 M H; exact absurd H (by simp [f_X5_cut_L6])
  | succ n ih =>
    intro x1 x2 x3 M H hK71
    rw [f_X5_cut_L6] at H
    refine R_iload_n (i := 3) (dX5_cut 6 rfl) rfl rfl ?_
    refine R_aload_n (i := 0) (dX5_cut 7 rfl) rfl rfl ?_
    refine R_getI cgX5 13 (cl13 hS) 3 (Nat.le_of_ble_eq_true rfl) rfl (Or.inl tb_197) (dX5_cut 8 rfl) ?_
    refine R_icmp_ge (tgt := 71) (dX5_cut 9 rfl) (by decide) (fun hc => ?_) (fun hc => ?_)
    · have H := ite_F H hc
      refine R_mask [true, true, false, false] rfl ?_
      exact hK71 x1 M H
    · have H := ite_T H hc
      refine R_iload_n (i := 3) (dX5_cut 10 rfl) rfl rfl ?_
      refine R_iload_n (i := 2) (dX5_cut 11 rfl) rfl rfl ?_
      refine R_icmp_lt (tgt := 65) (dX5_cut 12 rfl) (by decide) (fun hc => ?_) (fun hc => ?_)
      · have H := ite_T H hc
        refine R_iinc (i := 3) (ls' := [some (.inr (.inr (some (ad 13)))), some (.inl x1), some (.inl x2), some (.inl (w32 (x3 + 1)))]) (dX5_cut 37 rfl) rfl (Nat.le_of_ble_eq_true rfl) rfl rfl ?_
        refine R_goto (tgt := 6) (dX5_cut 38 rfl) (by decide) ?_
        exact ih x1 x2 (w32 (x3 + 1)) M H hK71
      · have H := ite_F H hc
        refine R_aload_n (i := 0) (dX5_cut 13 rfl) rfl rfl ?_
        refine R_getR cgX5 13 (cl13 hS) 0 (Nat.le_of_ble_eq_true rfl) rfl (Or.inl tb_192) (dX5_cut 14 rfl) ?_
        refine R_iload_n (i := 3) (dX5_cut 15 rfl) rfl rfl ?_
        refine R_cS (st' := [.inl (rd 160 (M 14) x3)]) [.inr (.inr (some (ad 14))), .inl x3] [] (t_at l g S _ 14 (cl14 hS) (Nat.le_of_ble_eq_true rfl) x3) msX9_at (Or.inr ⟨_, tb_270⟩) ⟨Nat.le_of_ble_eq_true rfl, Nat.le_of_ble_eq_true rfl⟩ (Nat.zero_le _) (Nat.zero_le _) rfl rfl (Nat.le_of_ble_eq_true rfl) rfl (dX5_cut 16 rfl) ?_
        refine R_cS (st' := [.inl (f_X5_isBlank (rd 160 (M 14) x3))]) [.inl (rd 160 (M 14) x3)] [] (t_X5_isBlank l g ad S _ hS   (rd 160 (M 14) x3)) msX5_isBlank (Or.inl tb_271) ⟨Nat.le_of_ble_eq_true rfl, Nat.le_of_ble_eq_true rfl⟩ (Nat.zero_le _) (Nat.zero_le _) rfl rfl (Nat.le_of_ble_eq_true rfl) rfl (dX5_cut 17 rfl) ?_
        refine R_if_ne (tgt := 65) (dX5_cut 18 rfl) (by decide) (fun hc => ?_) (fun hc => ?_)
        · have H := ite_F H hc
          refine R_iinc (i := 3) (ls' := [some (.inr (.inr (some (ad 13)))), some (.inl x1), some (.inl x2), some (.inl (w32 (x3 + 1)))]) (dX5_cut 37 rfl) rfl (Nat.le_of_ble_eq_true rfl) rfl rfl ?_
          refine R_goto (tgt := 6) (dX5_cut 38 rfl) (by decide) ?_
          exact ih x1 x2 (w32 (x3 + 1)) M H hK71
        · have H := ite_T H hc
          refine R_aload_n (i := 0) (dX5_cut 19 rfl) rfl rfl ?_
          refine R_iload_n (i := 3) (dX5_cut 20 rfl) rfl rfl ?_
          obtain ⟨r48, hr, H⟩ := op_E H
          refine R_cV (st' := [.inl r48]) [.inl x3] [] (t_X5_endOf l g ad S _ hS   x3 hr) msX5_endOf (Or.inl tb_274) (Or.inl ⟨13, 5, _, _, _, (cl13 hS), rfl⟩) ⟨Nat.le_of_ble_eq_true rfl, Nat.le_of_ble_eq_true rfl⟩ (Nat.zero_le _) (Nat.zero_le _) rfl rfl (Nat.le_of_ble_eq_true rfl) rfl (dX5_cut 21 rfl) ?_
          refine R_istore_n (i := 2) (ls' := [some (.inr (.inr (some (ad 13)))), some (.inl x1), some (.inl r48), some (.inl x3)]) (dX5_cut 22 rfl) rfl (Nat.le_of_ble_eq_true rfl) (Nat.le_of_ble_eq_true rfl) rfl rfl ?_
          refine R_aload_n (i := 0) (dX5_cut 23 rfl) rfl rfl ?_
          refine R_getR cgX5 13 (cl13 hS) 1 (Nat.le_of_ble_eq_true rfl) rfl (Or.inl tb_193) (dX5_cut 24 rfl) ?_
          refine R_iload_n (i := 1) (dX5_cut 25 rfl) rfl rfl ?_
          refine R_aload_n (i := 0) (dX5_cut 26 rfl) rfl rfl ?_
          refine R_iload_n (i := 3) (dX5_cut 27 rfl) rfl rfl ?_
          refine R_iload_n (i := 2) (dX5_cut 28 rfl) rfl rfl ?_
          obtain ⟨r49, hr, H⟩ := op_E H
          refine R_cV (st' := [.inl r49, .inl x1, .inr (.inr (some (ad 15)))]) [.inl x3, .inl r48] [.inl x1, .inr (.inr (some (ad 15)))] (t_X5_tokenOf l g ad S _ hS   x3 r48 hr) msX5_tokenOf (Or.inl tb_287) (Or.inl ⟨13, 5, _, _, _, (cl13 hS), rfl⟩) ⟨Nat.le_of_ble_eq_true rfl, Nat.le_of_ble_eq_true rfl⟩ (Nat.zero_le _) (Nat.zero_le _) rfl rfl (Nat.le_of_ble_eq_true rfl) rfl (dX5_cut 29 rfl) ?_
          refine R_cS (st' := []) [.inr (.inr (some (ad 15))), .inl x1, .inl r49] [] (t_put l g S _ 15 (cl15 hS) (Nat.le_of_ble_eq_true rfl) x1 r49) msX9_put (Or.inr ⟨_, tb_261⟩) ⟨Nat.le_of_ble_eq_true rfl, Nat.le_of_ble_eq_true rfl⟩ (Nat.zero_le _) (Nat.zero_le _) rfl rfl (Nat.le_of_ble_eq_true rfl) rfl (dX5_cut 30 rfl) ?_
          refine R_aload_n (i := 0) (dX5_cut 31 rfl) rfl rfl ?_
          refine R_getR cgX5 13 (cl13 hS) 2 (Nat.le_of_ble_eq_true rfl) rfl (Or.inl tb_195) (dX5_cut 32 rfl) ?_
          refine R_iload_n (i := 1) (dX5_cut 33 rfl) rfl rfl ?_
          refine R_iload_n (i := 3) (dX5_cut 34 rfl) rfl rfl ?_
          refine R_cS (st' := []) [.inr (.inr (some (ad 16))), .inl x1, .inl x3] [] (t_put l g S _ 16 (cl16 hS) (Nat.le_of_ble_eq_true rfl) x1 x3) msX9_put (Or.inr ⟨_, tb_261⟩) ⟨Nat.le_of_ble_eq_true rfl, Nat.le_of_ble_eq_true rfl⟩ (Nat.zero_le _) (Nat.zero_le _) rfl rfl (Nat.le_of_ble_eq_true rfl) rfl (dX5_cut 35 rfl) ?_
          refine R_iinc (i := 1) (ls' := [some (.inr (.inr (some (ad 13)))), some (.inl (w32 (x1 + 1))), some (.inl r48), some (.inl x3)]) (dX5_cut 36 rfl) rfl (Nat.le_of_ble_eq_true rfl) rfl rfl ?_
          refine R_iinc (i := 3) (ls' := [some (.inr (.inr (some (ad 13)))), some (.inl (w32 (x1 + 1))), some (.inl r48), some (.inl (w32 (x3 + 1)))]) (dX5_cut 37 rfl) rfl (Nat.le_of_ble_eq_true rfl) rfl rfl ?_
          refine R_goto (tgt := 6) (dX5_cut 38 rfl) (by decide) ?_
          exact ih (w32 (x1 + 1)) r48 (w32 (x3 + 1)) (wr (wr M 15 161 x1 r49) 16 161 x1 x3) H hK71
def f_X5_cut (M : Mem) : Option (Int × Mem) :=
  f_X5_cut_L6
    (fun y50 M51 =>
      some (0, (wr (wr M51 15 161 y50 0) 16 161 y50 ((wr M51 15 161 y50 0) 13 3)))
    )
    100000 0 0 0 M
set_option maxHeartbeats 4000000 in
theorem t_X5_cut (l : Launch) (g : GG) (ad : Nat → Nat) (S : SW) (M : Mem) (hS : q_ag 12 21 ad S) {r : Int} {M' : Mem} (H : f_X5_cut M = some (r, M')) : CT l g MX5_cut 8 0 0 S M [.inr (.inr (some (ad 13)))] (q_ex S none M') := by
  unfold f_X5_cut at H
  refine CT_of (ls0 := [some (.inr (.inr (some (ad 13)))), none, none, none]) (by decide +kernel) (Nat.le_of_ble_eq_true rfl) rfl ?_
  refine R_iconst (dX5_cut 0 rfl) rfl ?_
  refine R_istore_n (i := 1) (ls' := [some (.inr (.inr (some (ad 13)))), some (.inl 0), none, none]) (dX5_cut 1 rfl) rfl (Nat.le_of_ble_eq_true rfl) (Nat.le_of_ble_eq_true rfl) rfl rfl ?_
  refine R_iconst (dX5_cut 2 rfl) rfl ?_
  refine R_istore_n (i := 2) (ls' := [some (.inr (.inr (some (ad 13)))), some (.inl 0), some (.inl 0), none]) (dX5_cut 3 rfl) rfl (Nat.le_of_ble_eq_true rfl) (Nat.le_of_ble_eq_true rfl) rfl rfl ?_
  refine R_iconst (dX5_cut 4 rfl) rfl ?_
  refine R_istore_n (i := 3) (ls' := [some (.inr (.inr (some (ad 13)))), some (.inl 0), some (.inl 0), some (.inl 0)]) (dX5_cut 5 rfl) rfl (Nat.le_of_ble_eq_true rfl) (Nat.le_of_ble_eq_true rfl) rfl rfl ?_
  refine t_X5_cut_L6 l g ad S hS  100000 0 0 0 M H (fun y50 M51 H => ?_)
  refine R_aload_n (i := 0) (dX5_cut 39 rfl) rfl rfl ?_
  refine R_getR cgX5 13 (cl13 hS) 1 (Nat.le_of_ble_eq_true rfl) rfl (Or.inl tb_193) (dX5_cut 40 rfl) ?_
  refine R_iload_n (i := 1) (dX5_cut 41 rfl) rfl rfl ?_
  refine R_iconst (dX5_cut 42 rfl) rfl ?_
  refine R_cS (st' := []) [.inr (.inr (some (ad 15))), .inl y50, .inl 0] [] (t_put l g S _ 15 (cl15 hS) (Nat.le_of_ble_eq_true rfl) y50 0) msX9_put (Or.inr ⟨_, tb_261⟩) ⟨Nat.le_of_ble_eq_true rfl, Nat.le_of_ble_eq_true rfl⟩ (Nat.zero_le _) (Nat.zero_le _) rfl rfl (Nat.le_of_ble_eq_true rfl) rfl (dX5_cut 43 rfl) ?_
  refine R_aload_n (i := 0) (dX5_cut 44 rfl) rfl rfl ?_
  refine R_getR cgX5 13 (cl13 hS) 2 (Nat.le_of_ble_eq_true rfl) rfl (Or.inl tb_195) (dX5_cut 45 rfl) ?_
  refine R_iload_n (i := 1) (dX5_cut 46 rfl) rfl rfl ?_
  refine R_aload_n (i := 0) (dX5_cut 47 rfl) rfl rfl ?_
  refine R_getI cgX5 13 (cl13 hS) 3 (Nat.le_of_ble_eq_true rfl) rfl (Or.inl tb_197) (dX5_cut 48 rfl) ?_
  refine R_cS (st' := []) [.inr (.inr (some (ad 16))), .inl y50, .inl ((wr M51 15 161 y50 0) 13 3)] [] (t_put l g S _ 16 (cl16 hS) (Nat.le_of_ble_eq_true rfl) y50 ((wr M51 15 161 y50 0) 13 3)) msX9_put (Or.inr ⟨_, tb_261⟩) ⟨Nat.le_of_ble_eq_true rfl, Nat.le_of_ble_eq_true rfl⟩ (Nat.zero_le _) (Nat.zero_le _) rfl rfl (Nat.le_of_ble_eq_true rfl) rfl (dX5_cut 49 rfl) ?_
  exact R_vret rfl (Nat.zero_le _) (Nat.zero_le _) (dX5_cut 50 rfl) ⟨rfl, rfl, (Prod.mk.inj (Option.some.inj H)).2⟩
def f_X6_token (M : Mem) : Int :=
  rd 161 (M 15) (M 12 7)
set_option maxHeartbeats 4000000 in
theorem t_X6_token (l : Launch) (g : GG) (ad : Nat → Nat) (S : SW) (M : Mem) (hS : q_ag 12 21 ad S) : CT l g MX6_token 2 0 0 S M [.inr (.inr (some (ad 12)))] (q_ex S (some (.inl (f_X6_token M))) M) := by
  obtain ⟨r, H⟩ : ∃ r, f_X6_token M = r := ⟨_, rfl⟩
  rw [H]
  unfold f_X6_token at H
  refine CT_of (ls0 := [some (.inr (.inr (some (ad 12))))]) (by decide +kernel) (Nat.le_of_ble_eq_true rfl) rfl ?_
  refine R_aload_n (i := 0) (dX6_token 0 rfl) rfl rfl ?_
  refine R_getR cgX6 12 (cl12 hS) 0 (Nat.le_of_ble_eq_true rfl) rfl (Or.inl tb_425) (dX6_token 1 rfl) ?_
  refine R_getR cgX5 13 (cl13 hS) 1 (Nat.le_of_ble_eq_true rfl) rfl (Or.inr ⟨_, tb_194⟩) (dX6_token 2 rfl) ?_
  refine R_aload_n (i := 0) (dX6_token 3 rfl) rfl rfl ?_
  refine R_getI cgX6 12 (cl12 hS) 7 (Nat.le_of_ble_eq_true rfl) rfl (Or.inl tb_434) (dX6_token 4 rfl) ?_
  refine R_cS (st' := [.inl (rd 161 (M 15) (M 12 7))]) [.inr (.inr (some (ad 15))), .inl (M 12 7)] [] (t_at l g S _ 15 (cl15 hS) (Nat.le_of_ble_eq_true rfl) (M 12 7)) msX9_at (Or.inr ⟨_, tb_387⟩) ⟨Nat.le_of_ble_eq_true rfl, Nat.le_of_ble_eq_true rfl⟩ (Nat.zero_le _) (Nat.zero_le _) rfl rfl (Nat.le_of_ble_eq_true rfl) rfl (dX6_token 5 rfl) ?_
  exact R_iret rfl rfl (Nat.zero_le _) (Nat.zero_le _) (dX6_token 6 rfl) ⟨congrArg (fun z => some (Sum.inl z)) H, rfl, rfl⟩
def f_X6_pass (x1 : Int) (M : Mem) : Option (Int × Mem) :=
  if f_X6_token M = x1 then
    some (1, (mset M 12 7 (w32 ((M 12 7) + 1))))
  else
    some (0, M)
set_option maxHeartbeats 4000000 in
theorem t_X6_pass (l : Launch) (g : GG) (ad : Nat → Nat) (S : SW) (M : Mem) (hS : q_ag 12 21 ad S) (x1 : Int) {r : Int} {M' : Mem} (H : f_X6_pass x1 M = some (r, M')) : CT l g MX6_pass 3 0 0 S M [.inr (.inr (some (ad 12))), .inl x1] (q_ex S (some (.inl r)) M') := by
  unfold f_X6_pass at H
  refine CT_of (ls0 := [some (.inr (.inr (some (ad 12)))), some (.inl x1)]) (by decide +kernel) (Nat.le_of_ble_eq_true rfl) rfl ?_
  refine R_aload_n (i := 0) (dX6_pass 0 rfl) rfl rfl ?_
  refine R_cV (st' := [.inl (f_X6_token M)]) [] [] (t_X6_token l g ad S _ hS  ) msX6_token (Or.inl tb_383) (Or.inl ⟨12, 6, _, _, _, (cl12 hS), rfl⟩) ⟨Nat.le_of_ble_eq_true rfl, Nat.le_of_ble_eq_true rfl⟩ (Nat.zero_le _) (Nat.zero_le _) rfl rfl (Nat.le_of_ble_eq_true rfl) rfl (dX6_pass 1 rfl) ?_
  refine R_iload_n (i := 1) (dX6_pass 2 rfl) rfl rfl ?_
  refine R_icmp_eq (tgt := 10) (dX6_pass 3 rfl) (by decide) (fun hc => ?_) (fun hc => ?_)
  · have H := ite_T H hc
    refine R_aload_n (i := 0) (dX6_pass 6 rfl) rfl rfl ?_
    refine R_dup rfl (dX6_pass 7 rfl) ?_
    refine R_getI cgX6 12 (cl12 hS) 7 (Nat.le_of_ble_eq_true rfl) rfl (Or.inl tb_434) (dX6_pass 8 rfl) ?_
    refine R_iconst (dX6_pass 9 rfl) rfl ?_
    refine R_iadd (dX6_pass 10 rfl) ?_
    refine R_putI cgX6 12 (cl12 hS) 7 (Nat.le_of_ble_eq_true rfl) rfl rfl rfl rfl (Or.inl tb_434) (dX6_pass 11 rfl) ?_
    refine R_iconst (dX6_pass 12 rfl) rfl ?_
    exact R_iret rfl (by decide +kernel) (Nat.zero_le _) (Nat.zero_le _) (dX6_pass 13 rfl) ⟨congrArg (fun z => some (Sum.inl z)) (Prod.mk.inj (Option.some.inj H)).1, rfl, (Prod.mk.inj (Option.some.inj H)).2⟩
  · have H := ite_F H hc
    refine R_iconst (dX6_pass 4 rfl) rfl ?_
    exact R_iret rfl (by decide +kernel) (Nat.zero_le _) (Nat.zero_le _) (dX6_pass 5 rfl) ⟨congrArg (fun z => some (Sum.inl z)) (Prod.mk.inj (Option.some.inj H)).1, rfl, (Prod.mk.inj (Option.some.inj H)).2⟩
def f_X6_write (x1 : Int) (M : Mem) : Option (Int × Mem) :=
  some (0, (mset (wr M 17 960 (w32 ((w32 ((M 12 5) * 160)) + (M 12 6))) x1) 12 6 (w32 (((wr M 17 960 (w32 ((w32 ((M 12 5) * 160)) + (M 12 6))) x1) 12 6) + 1))))
set_option maxHeartbeats 4000000 in
theorem t_X6_write (l : Launch) (g : GG) (ad : Nat → Nat) (S : SW) (M : Mem) (hS : q_ag 12 21 ad S) (x1 : Int) {r : Int} {M' : Mem} (H : f_X6_write x1 M = some (r, M')) : CT l g MX6_write 2 0 0 S M [.inr (.inr (some (ad 12))), .inl x1] (q_ex S none M') := by
  unfold f_X6_write at H
  refine CT_of (ls0 := [some (.inr (.inr (some (ad 12)))), some (.inl x1)]) (by decide +kernel) (Nat.le_of_ble_eq_true rfl) rfl ?_
  refine R_aload_n (i := 0) (dX6_write 0 rfl) rfl rfl ?_
  refine R_getR cgX6 12 (cl12 hS) 1 (Nat.le_of_ble_eq_true rfl) rfl (Or.inl tb_427) (dX6_write 1 rfl) ?_
  refine R_aload_n (i := 0) (dX6_write 2 rfl) rfl rfl ?_
  refine R_getI cgX6 12 (cl12 hS) 5 (Nat.le_of_ble_eq_true rfl) rfl (Or.inl tb_431) (dX6_write 3 rfl) ?_
  refine R_sipush (dX6_write 4 rfl) rfl rfl ?_
  refine R_imul (dX6_write 5 rfl) ?_
  refine R_aload_n (i := 0) (dX6_write 6 rfl) rfl rfl ?_
  refine R_getI cgX6 12 (cl12 hS) 6 (Nat.le_of_ble_eq_true rfl) rfl (Or.inl tb_433) (dX6_write 7 rfl) ?_
  refine R_iadd (dX6_write 8 rfl) ?_
  refine R_iload_n (i := 1) (dX6_write 9 rfl) rfl rfl ?_
  refine R_cS (st' := []) [.inr (.inr (some (ad 17))), .inl (w32 ((w32 ((M 12 5) * 160)) + (M 12 6))), .inl x1] [] (t_put l g S _ 17 (cl17 hS) (Nat.le_of_ble_eq_true rfl) (w32 ((w32 ((M 12 5) * 160)) + (M 12 6))) x1) msX9_put (Or.inr ⟨_, tb_420⟩) ⟨Nat.le_of_ble_eq_true rfl, Nat.le_of_ble_eq_true rfl⟩ (Nat.zero_le _) (Nat.zero_le _) rfl rfl (Nat.le_of_ble_eq_true rfl) rfl (dX6_write 10 rfl) ?_
  refine R_aload_n (i := 0) (dX6_write 11 rfl) rfl rfl ?_
  refine R_dup rfl (dX6_write 12 rfl) ?_
  refine R_getI cgX6 12 (cl12 hS) 6 (Nat.le_of_ble_eq_true rfl) rfl (Or.inl tb_433) (dX6_write 13 rfl) ?_
  refine R_iconst (dX6_write 14 rfl) rfl ?_
  refine R_iadd (dX6_write 15 rfl) ?_
  refine R_putI cgX6 12 (cl12 hS) 6 (Nat.le_of_ble_eq_true rfl) rfl rfl rfl rfl (Or.inl tb_433) (dX6_write 16 rfl) ?_
  exact R_vret rfl (Nat.zero_le _) (Nat.zero_le _) (dX6_write 17 rfl) ⟨rfl, rfl, (Prod.mk.inj (Option.some.inj H)).2⟩
def f_X6_readBoth_L12 (rE : Int → Mem → Option (Int × Mem)) (rN : Int → Mem → Option (Int × Mem)) (rO : Int → Mem → Option (Int × Mem)) (x1 : Int) : Nat → Int → Mem → Option (Int × Mem)
  | 0, _, _ => none
  | n + 1, x2, M =>
    if x2 < 160 then
      ob (f_X6_pass 260 M) fun r54 M55 =>
      if r54 = 0 then
        some (1, M55)
      else
        ob (rN x1 M55) fun r56 M57 =>
        if r56 = 0 then
          some (0, M57)
        else
          ob (f_X6_write 260 M57) fun r58 M59 =>
          f_X6_readBoth_L12 rE rN rO x1 n (w32 (x2 + 1)) M59
    else
      some (1, M)
set_option maxHeartbeats 4000000 in
theorem t_X6_readBoth_L12 (l : Launch) (g : GG) (ad : Nat → Nat) (S : SW) (hS : q_ag 12 21 ad S) (dr : Nat) (hdr : 20 ≤ dr) {rE : Int → Mem → Option (Int × Mem)} (hE_ : ∀ (b0 : Int) (M : Mem) (r : Int) (M2 : Mem), rE b0 M = some (r, M2) → CT l g MX6_readEither dr 0 0 S M [.inr (.inr (some (ad 12))), .inl b0] (q_ex S (some (.inl r)) M2)) {rN : Int → Mem → Option (Int × Mem)} (hN_ : ∀ (b0 : Int) (M : Mem) (r : Int) (M2 : Mem), rN b0 M = some (r, M2) → CT l g MX6_readNot dr 0 0 S M [.inr (.inr (some (ad 12))), .inl b0] (q_ex S (some (.inl r)) M2)) {rO : Int → Mem → Option (Int × Mem)} (hO_ : ∀ (b0 : Int) (M : Mem) (r : Int) (M2 : Mem), rO b0 M = some (r, M2) → CT l g MX6_readOne dr 0 0 S M [.inr (.inr (some (ad 12))), .inl b0] (q_ex S (some (.inl r)) M2)) (x1 : Int) {r : Int} {M' : Mem} : ∀ (n : Nat) (x2 : Int) (M : Mem), f_X6_readBoth_L12 rE rN rO x1 n x2 M = some (r, M') → RW l g MX6_readBoth (q_rm (dr + 1) 0 0) 0 0 (q_ex S (some (.inl r)) M') 12 S M 0 0 [some (.inr (.inr (some (ad 12)))), some (.inl x1), some (.inl x2)] [] := by
  intro n
  induction n with
  | zero => intro x2 M H; exact absurd H (by simp [f_X6_readBoth_L12])
  | succ n ih =>
    intro x2 M H
    rw [f_X6_readBoth_L12] at H
    refine R_iload_n (i := 2) (dX6_readBoth 8 rfl) rfl rfl ?_
    refine R_sipush (dX6_readBoth 9 rfl) rfl rfl ?_
    refine R_icmp_ge (tgt := 52) (dX6_readBoth 10 rfl) (by decide) (fun hc => ?_) (fun hc => ?_)
    · have H := ite_F H hc
      refine R_iconst (dX6_readBoth 26 rfl) rfl ?_
      exact R_iret rfl (by decide +kernel) (Nat.zero_le _) (Nat.zero_le _) (dX6_readBoth 27 rfl) ⟨congrArg (fun z => some (Sum.inl z)) (Prod.mk.inj (Option.some.inj H)).1, rfl, (Prod.mk.inj (Option.some.inj H)).2⟩
    · have H := ite_T H hc
      refine R_aload_n (i := 0) (dX6_readBoth 11 rfl) rfl rfl ?_
      refine R_sipush (dX6_readBoth 12 rfl) rfl rfl ?_
      obtain ⟨r54, M55, hr, H⟩ := ob_E H
      refine R_cV (st' := [.inl r54]) [.inl 260] [] (t_X6_pass l g ad S _ hS   260 hr) msX6_pass (Or.inl tb_379) (Or.inl ⟨12, 6, _, _, _, (cl12 hS), rfl⟩) ⟨(by show 3 + 1 ≤ dr + 1; omega), (by show 19 + 2 + 64 * (3) ≤ 64 * (dr + 1); omega)⟩ (Nat.zero_le _) (Nat.zero_le _) rfl rfl (Nat.le_of_ble_eq_true rfl) rfl (dX6_readBoth 13 rfl) ?_
      refine R_if_eq (tgt := 52) (dX6_readBoth 14 rfl) (by decide) (fun hc => ?_) (fun hc => ?_)
      · have H := ite_T H hc
        refine R_iconst (dX6_readBoth 26 rfl) rfl ?_
        exact R_iret rfl (by decide +kernel) (Nat.zero_le _) (Nat.zero_le _) (dX6_readBoth 27 rfl) ⟨congrArg (fun z => some (Sum.inl z)) (Prod.mk.inj (Option.some.inj H)).1, rfl, (Prod.mk.inj (Option.some.inj H)).2⟩
      · have H := ite_F H hc
        refine R_aload_n (i := 0) (dX6_readBoth 15 rfl) rfl rfl ?_
        refine R_iload_n (i := 1) (dX6_readBoth 16 rfl) rfl rfl ?_
        obtain ⟨r56, M57, hr, H⟩ := ob_E H
        refine R_cV (st' := [.inl r56]) [.inl x1] [] (hN_ x1 _ _ _ hr) msX6_readNot (Or.inl tb_396) (Or.inl ⟨12, 6, _, _, _, (cl12 hS), rfl⟩) ⟨(by show dr + 1 ≤ dr + 1; omega), (by show 19 + 2 + 64 * (dr) ≤ 64 * (dr + 1); omega)⟩ (Nat.zero_le _) (Nat.zero_le _) rfl rfl (Nat.le_of_ble_eq_true rfl) rfl (dX6_readBoth 17 rfl) ?_
        refine R_if_ne (tgt := 39) (dX6_readBoth 18 rfl) (by decide) (fun hc => ?_) (fun hc => ?_)
        · have H := ite_F H hc
          refine R_aload_n (i := 0) (dX6_readBoth 21 rfl) rfl rfl ?_
          refine R_sipush (dX6_readBoth 22 rfl) rfl rfl ?_
          obtain ⟨r58, M59, hr, H⟩ := ob_E H
          refine R_cV (st' := []) [.inl 260] [] (t_X6_write l g ad S _ hS   260 hr) msX6_write (Or.inl tb_416) (Or.inl ⟨12, 6, _, _, _, (cl12 hS), rfl⟩) ⟨(by show 2 + 1 ≤ dr + 1; omega), (by show 19 + 2 + 64 * (2) ≤ 64 * (dr + 1); omega)⟩ (Nat.zero_le _) (Nat.zero_le _) rfl rfl (Nat.le_of_ble_eq_true rfl) rfl (dX6_readBoth 23 rfl) ?_
          refine R_iinc (i := 2) (ls' := [some (.inr (.inr (some (ad 12)))), some (.inl x1), some (.inl (w32 (x2 + 1)))]) (dX6_readBoth 24 rfl) rfl (Nat.le_of_ble_eq_true rfl) rfl rfl ?_
          refine R_goto (tgt := 12) (dX6_readBoth 25 rfl) (by decide) ?_
          exact ih (w32 (x2 + 1)) M59 H
        · have H := ite_T H hc
          refine R_iconst (dX6_readBoth 19 rfl) rfl ?_
          exact R_iret rfl (by decide +kernel) (Nat.zero_le _) (Nat.zero_le _) (dX6_readBoth 20 rfl) ⟨congrArg (fun z => some (Sum.inl z)) (Prod.mk.inj (Option.some.inj H)).1, rfl, (Prod.mk.inj (Option.some.inj H)).2⟩
def f_X6_readBoth (rE : Int → Mem → Option (Int × Mem)) (rN : Int → Mem → Option (Int × Mem)) (rO : Int → Mem → Option (Int × Mem)) (x1 : Int) (M : Mem) : Option (Int × Mem) :=
  ob (rN x1 M) fun r52 M53 =>
  if r52 = 0 then
    some (0, M53)
  else
    f_X6_readBoth_L12 rE rN rO
      x1 100000 0 M53
set_option maxHeartbeats 4000000 in
theorem t_X6_readBoth (l : Launch) (g : GG) (ad : Nat → Nat) (S : SW) (M : Mem) (hS : q_ag 12 21 ad S) (dr : Nat) (hdr : 20 ≤ dr) {rE : Int → Mem → Option (Int × Mem)} (hE_ : ∀ (b0 : Int) (M : Mem) (r : Int) (M2 : Mem), rE b0 M = some (r, M2) → CT l g MX6_readEither dr 0 0 S M [.inr (.inr (some (ad 12))), .inl b0] (q_ex S (some (.inl r)) M2)) {rN : Int → Mem → Option (Int × Mem)} (hN_ : ∀ (b0 : Int) (M : Mem) (r : Int) (M2 : Mem), rN b0 M = some (r, M2) → CT l g MX6_readNot dr 0 0 S M [.inr (.inr (some (ad 12))), .inl b0] (q_ex S (some (.inl r)) M2)) {rO : Int → Mem → Option (Int × Mem)} (hO_ : ∀ (b0 : Int) (M : Mem) (r : Int) (M2 : Mem), rO b0 M = some (r, M2) → CT l g MX6_readOne dr 0 0 S M [.inr (.inr (some (ad 12))), .inl b0] (q_ex S (some (.inl r)) M2)) (x1 : Int) {r : Int} {M' : Mem} (H : f_X6_readBoth rE rN rO x1 M = some (r, M')) : CT l g MX6_readBoth (dr + 1) 0 0 S M [.inr (.inr (some (ad 12))), .inl x1] (q_ex S (some (.inl r)) M') := by
  unfold f_X6_readBoth at H
  refine CT_of (ls0 := [some (.inr (.inr (some (ad 12)))), some (.inl x1), none]) (by decide +kernel) (Nat.le_of_ble_eq_true rfl) rfl ?_
  refine R_aload_n (i := 0) (dX6_readBoth 0 rfl) rfl rfl ?_
  refine R_iload_n (i := 1) (dX6_readBoth 1 rfl) rfl rfl ?_
  obtain ⟨r52, M53, hr, H⟩ := ob_E H
  refine R_cV (st' := [.inl r52]) [.inl x1] [] (hN_ x1 _ _ _ hr) msX6_readNot (Or.inl tb_396) (Or.inl ⟨12, 6, _, _, _, (cl12 hS), rfl⟩) ⟨(by show dr + 1 ≤ dr + 1; omega), (by show 19 + 2 + 64 * (dr) ≤ 64 * (dr + 1); omega)⟩ (Nat.zero_le _) (Nat.zero_le _) rfl rfl (Nat.le_of_ble_eq_true rfl) rfl (dX6_readBoth 2 rfl) ?_
  refine R_if_ne (tgt := 10) (dX6_readBoth 3 rfl) (by decide) (fun hc => ?_) (fun hc => ?_)
  · have H := ite_F H hc
    refine R_iconst (dX6_readBoth 6 rfl) rfl ?_
    refine R_istore_n (i := 2) (ls' := [some (.inr (.inr (some (ad 12)))), some (.inl x1), some (.inl 0)]) (dX6_readBoth 7 rfl) rfl (Nat.le_of_ble_eq_true rfl) (Nat.le_of_ble_eq_true rfl) rfl rfl ?_
    exact t_X6_readBoth_L12 l g ad S hS dr hdr hE_ hN_ hO_ x1  100000 0 M53 H 
  · have H := ite_T H hc
    refine R_iconst (dX6_readBoth 4 rfl) rfl ?_
    exact R_iret rfl (by decide +kernel) (Nat.zero_le _) (Nat.zero_le _) (dX6_readBoth 5 rfl) ⟨congrArg (fun z => some (Sum.inl z)) (Prod.mk.inj (Option.some.inj H)).1, rfl, (Prod.mk.inj (Option.some.inj H)).2⟩
def f_X6_readEither_L12 (rE : Int → Mem → Option (Int × Mem)) (rN : Int → Mem → Option (Int × Mem)) (rO : Int → Mem → Option (Int × Mem)) (x1 : Int) : Nat → Int → Mem → Option (Int × Mem)
  | 0, _, _ => none
  | n + 1, x2, M =>
    if x2 < 160 then
      ob (f_X6_pass 259 M) fun r62 M63 =>
      if r62 = 0 then
        some (1, M63)
      else
        ob (f_X6_readBoth rE rN rO x1 M63) fun r64 M65 =>
        if r64 = 0 then
          some (0, M65)
        else
          ob (f_X6_write 259 M65) fun r66 M67 =>
          f_X6_readEither_L12 rE rN rO x1 n (w32 (x2 + 1)) M67
    else
      some (1, M)
set_option maxHeartbeats 4000000 in
theorem t_X6_readEither_L12 (l : Launch) (g : GG) (ad : Nat → Nat) (S : SW) (hS : q_ag 12 21 ad S) (dr : Nat) (hdr : 20 ≤ dr) {rE : Int → Mem → Option (Int × Mem)} (hE_ : ∀ (b0 : Int) (M : Mem) (r : Int) (M2 : Mem), rE b0 M = some (r, M2) → CT l g MX6_readEither dr 0 0 S M [.inr (.inr (some (ad 12))), .inl b0] (q_ex S (some (.inl r)) M2)) {rN : Int → Mem → Option (Int × Mem)} (hN_ : ∀ (b0 : Int) (M : Mem) (r : Int) (M2 : Mem), rN b0 M = some (r, M2) → CT l g MX6_readNot dr 0 0 S M [.inr (.inr (some (ad 12))), .inl b0] (q_ex S (some (.inl r)) M2)) {rO : Int → Mem → Option (Int × Mem)} (hO_ : ∀ (b0 : Int) (M : Mem) (r : Int) (M2 : Mem), rO b0 M = some (r, M2) → CT l g MX6_readOne dr 0 0 S M [.inr (.inr (some (ad 12))), .inl b0] (q_ex S (some (.inl r)) M2)) (x1 : Int) {r : Int} {M' : Mem} : ∀ (n : Nat) (x2 : Int) (M : Mem), f_X6_readEither_L12 rE rN rO x1 n x2 M = some (r, M') → RW l g MX6_readEither (q_rm (dr + 2) 0 0) 0 0 (q_ex S (some (.inl r)) M') 12 S M 0 0 [some (.inr (.inr (some (ad 12)))), some (.inl x1), some (.inl x2)] [] := by
  intro n
  induction n with
  | zero => intro x2 M H; exact absurd H (by simp [f_X6_readEither_L12])
  | succ n ih =>
    intro x2 M H
    rw [f_X6_readEither_L12] at H
    refine R_iload_n (i := 2) (dX6_readEither 8 rfl) rfl rfl ?_
    refine R_sipush (dX6_readEither 9 rfl) rfl rfl ?_
    refine R_icmp_ge (tgt := 52) (dX6_readEither 10 rfl) (by decide) (fun hc => ?_) (fun hc => ?_)
    · have H := ite_F H hc
      refine R_iconst (dX6_readEither 26 rfl) rfl ?_
      exact R_iret rfl (by decide +kernel) (Nat.zero_le _) (Nat.zero_le _) (dX6_readEither 27 rfl) ⟨congrArg (fun z => some (Sum.inl z)) (Prod.mk.inj (Option.some.inj H)).1, rfl, (Prod.mk.inj (Option.some.inj H)).2⟩
    · have H := ite_T H hc
      refine R_aload_n (i := 0) (dX6_readEither 11 rfl) rfl rfl ?_
      refine R_sipush (dX6_readEither 12 rfl) rfl rfl ?_
      obtain ⟨r62, M63, hr, H⟩ := ob_E H
      refine R_cV (st' := [.inl r62]) [.inl 259] [] (t_X6_pass l g ad S _ hS   259 hr) msX6_pass (Or.inl tb_379) (Or.inl ⟨12, 6, _, _, _, (cl12 hS), rfl⟩) ⟨(by show 3 + 1 ≤ dr + 2; omega), (by show 19 + 2 + 64 * (3) ≤ 64 * (dr + 2); omega)⟩ (Nat.zero_le _) (Nat.zero_le _) rfl rfl (Nat.le_of_ble_eq_true rfl) rfl (dX6_readEither 13 rfl) ?_
      refine R_if_eq (tgt := 52) (dX6_readEither 14 rfl) (by decide) (fun hc => ?_) (fun hc => ?_)
      · have H := ite_T H hc
        refine R_iconst (dX6_readEither 26 rfl) rfl ?_
        exact R_iret rfl (by decide +kernel) (Nat.zero_le _) (Nat.zero_le _) (dX6_readEither 27 rfl) ⟨congrArg (fun z => some (Sum.inl z)) (Prod.mk.inj (Option.some.inj H)).1, rfl, (Prod.mk.inj (Option.some.inj H)).2⟩
      · have H := ite_F H hc
        refine R_aload_n (i := 0) (dX6_readEither 15 rfl) rfl rfl ?_
        refine R_iload_n (i := 1) (dX6_readEither 16 rfl) rfl rfl ?_
        obtain ⟨r64, M65, hr, H⟩ := ob_E H
        refine R_cV (st' := [.inl r64]) [.inl x1] [] (t_X6_readBoth l g ad S _ hS dr hdr hE_ hN_ hO_   x1 hr) msX6_readBoth (Or.inl tb_392) (Or.inl ⟨12, 6, _, _, _, (cl12 hS), rfl⟩) ⟨(by show dr + 1 + 1 ≤ dr + 2; omega), (by show 19 + 3 + 64 * (dr + 1) ≤ 64 * (dr + 2); omega)⟩ (Nat.zero_le _) (Nat.zero_le _) rfl rfl (Nat.le_of_ble_eq_true rfl) rfl (dX6_readEither 17 rfl) ?_
        refine R_if_ne (tgt := 39) (dX6_readEither 18 rfl) (by decide) (fun hc => ?_) (fun hc => ?_)
        · have H := ite_F H hc
          refine R_aload_n (i := 0) (dX6_readEither 21 rfl) rfl rfl ?_
          refine R_sipush (dX6_readEither 22 rfl) rfl rfl ?_
          obtain ⟨r66, M67, hr, H⟩ := ob_E H
          refine R_cV (st' := []) [.inl 259] [] (t_X6_write l g ad S _ hS   259 hr) msX6_write (Or.inl tb_416) (Or.inl ⟨12, 6, _, _, _, (cl12 hS), rfl⟩) ⟨(by show 2 + 1 ≤ dr + 2; omega), (by show 19 + 2 + 64 * (2) ≤ 64 * (dr + 2); omega)⟩ (Nat.zero_le _) (Nat.zero_le _) rfl rfl (Nat.le_of_ble_eq_true rfl) rfl (dX6_readEither 23 rfl) ?_
          refine R_iinc (i := 2) (ls' := [some (.inr (.inr (some (ad 12)))), some (.inl x1), some (.inl (w32 (x2 + 1)))]) (dX6_readEither 24 rfl) rfl (Nat.le_of_ble_eq_true rfl) rfl rfl ?_
          refine R_goto (tgt := 12) (dX6_readEither 25 rfl) (by decide) ?_
          exact ih (w32 (x2 + 1)) M67 H
        · have H := ite_T H hc
          refine R_iconst (dX6_readEither 19 rfl) rfl ?_
          exact R_iret rfl (by decide +kernel) (Nat.zero_le _) (Nat.zero_le _) (dX6_readEither 20 rfl) ⟨congrArg (fun z => some (Sum.inl z)) (Prod.mk.inj (Option.some.inj H)).1, rfl, (Prod.mk.inj (Option.some.inj H)).2⟩
def f_X6_readEither (rE : Int → Mem → Option (Int × Mem)) (rN : Int → Mem → Option (Int × Mem)) (rO : Int → Mem → Option (Int × Mem)) (x1 : Int) (M : Mem) : Option (Int × Mem) :=
  ob (f_X6_readBoth rE rN rO x1 M) fun r60 M61 =>
  if r60 = 0 then
    some (0, M61)
  else
    f_X6_readEither_L12 rE rN rO
      x1 100000 0 M61
set_option maxHeartbeats 4000000 in
theorem t_X6_readEither (l : Launch) (g : GG) (ad : Nat → Nat) (S : SW) (M : Mem) (hS : q_ag 12 21 ad S) (dr : Nat) (hdr : 20 ≤ dr) {rE : Int → Mem → Option (Int × Mem)} (hE_ : ∀ (b0 : Int) (M : Mem) (r : Int) (M2 : Mem), rE b0 M = some (r, M2) → CT l g MX6_readEither dr 0 0 S M [.inr (.inr (some (ad 12))), .inl b0] (q_ex S (some (.inl r)) M2)) {rN : Int → Mem → Option (Int × Mem)} (hN_ : ∀ (b0 : Int) (M : Mem) (r : Int) (M2 : Mem), rN b0 M = some (r, M2) → CT l g MX6_readNot dr 0 0 S M [.inr (.inr (some (ad 12))), .inl b0] (q_ex S (some (.inl r)) M2)) {rO : Int → Mem → Option (Int × Mem)} (hO_ : ∀ (b0 : Int) (M : Mem) (r : Int) (M2 : Mem), rO b0 M = some (r, M2) → CT l g MX6_readOne dr 0 0 S M [.inr (.inr (some (ad 12))), .inl b0] (q_ex S (some (.inl r)) M2)) (x1 : Int) {r : Int} {M' : Mem} (H : f_X6_readEither rE rN rO x1 M = some (r, M')) : CT l g MX6_readEither (dr + 2) 0 0 S M [.inr (.inr (some (ad 12))), .inl x1] (q_ex S (some (.inl r)) M') := by
  unfold f_X6_readEither at H
  refine CT_of (ls0 := [some (.inr (.inr (some (ad 12)))), some (.inl x1), none]) (by decide +kernel) (Nat.le_of_ble_eq_true rfl) rfl ?_
  refine R_aload_n (i := 0) (dX6_readEither 0 rfl) rfl rfl ?_
  refine R_iload_n (i := 1) (dX6_readEither 1 rfl) rfl rfl ?_
  obtain ⟨r60, M61, hr, H⟩ := ob_E H
  refine R_cV (st' := [.inl r60]) [.inl x1] [] (t_X6_readBoth l g ad S _ hS dr hdr hE_ hN_ hO_   x1 hr) msX6_readBoth (Or.inl tb_392) (Or.inl ⟨12, 6, _, _, _, (cl12 hS), rfl⟩) ⟨(by show dr + 1 + 1 ≤ dr + 2; omega), (by show 19 + 3 + 64 * (dr + 1) ≤ 64 * (dr + 2); omega)⟩ (Nat.zero_le _) (Nat.zero_le _) rfl rfl (Nat.le_of_ble_eq_true rfl) rfl (dX6_readEither 2 rfl) ?_
  refine R_if_ne (tgt := 10) (dX6_readEither 3 rfl) (by decide) (fun hc => ?_) (fun hc => ?_)
  · have H := ite_F H hc
    refine R_iconst (dX6_readEither 6 rfl) rfl ?_
    refine R_istore_n (i := 2) (ls' := [some (.inr (.inr (some (ad 12)))), some (.inl x1), some (.inl 0)]) (dX6_readEither 7 rfl) rfl (Nat.le_of_ble_eq_true rfl) (Nat.le_of_ble_eq_true rfl) rfl rfl ?_
    exact t_X6_readEither_L12 l g ad S hS dr hdr hE_ hN_ hO_ x1  100000 0 M61 H 
  · have H := ite_T H hc
    refine R_iconst (dX6_readEither 4 rfl) rfl ?_
    exact R_iret rfl (by decide +kernel) (Nat.zero_le _) (Nat.zero_le _) (dX6_readEither 5 rfl) ⟨congrArg (fun z => some (Sum.inl z)) (Prod.mk.inj (Option.some.inj H)).1, rfl, (Prod.mk.inj (Option.some.inj H)).2⟩
def f_X6_readTerm_L12 (rE : Int → Mem → Option (Int × Mem)) (rN : Int → Mem → Option (Int × Mem)) (rO : Int → Mem → Option (Int × Mem)) (x1 : Int) : Nat → Int → Mem → Option (Int × Mem)
  | 0, _, _ => none
  | n + 1, x2, M =>
    if x2 < 160 then
      ob (f_X6_pass 42 M) fun r70 M71 =>
      if r70 = 0 then
        some (1, M71)
      else
        ob (rO x1 M71) fun r72 M73 =>
        if r72 = 0 then
          some (0, M73)
        else
          ob (f_X6_write 42 M73) fun r74 M75 =>
          f_X6_readTerm_L12 rE rN rO x1 n (w32 (x2 + 1)) M75
    else
      some (1, M)
set_option maxHeartbeats 4000000 in
theorem t_X6_readTerm_L12 (l : Launch) (g : GG) (ad : Nat → Nat) (S : SW) (hS : q_ag 12 21 ad S) (dr : Nat) (hdr : 20 ≤ dr) {rE : Int → Mem → Option (Int × Mem)} (hE_ : ∀ (b0 : Int) (M : Mem) (r : Int) (M2 : Mem), rE b0 M = some (r, M2) → CT l g MX6_readEither dr 0 0 S M [.inr (.inr (some (ad 12))), .inl b0] (q_ex S (some (.inl r)) M2)) {rN : Int → Mem → Option (Int × Mem)} (hN_ : ∀ (b0 : Int) (M : Mem) (r : Int) (M2 : Mem), rN b0 M = some (r, M2) → CT l g MX6_readNot dr 0 0 S M [.inr (.inr (some (ad 12))), .inl b0] (q_ex S (some (.inl r)) M2)) {rO : Int → Mem → Option (Int × Mem)} (hO_ : ∀ (b0 : Int) (M : Mem) (r : Int) (M2 : Mem), rO b0 M = some (r, M2) → CT l g MX6_readOne dr 0 0 S M [.inr (.inr (some (ad 12))), .inl b0] (q_ex S (some (.inl r)) M2)) (x1 : Int) {r : Int} {M' : Mem} : ∀ (n : Nat) (x2 : Int) (M : Mem), f_X6_readTerm_L12 rE rN rO x1 n x2 M = some (r, M') → RW l g MX6_readTerm (q_rm (dr + 1) 0 0) 0 0 (q_ex S (some (.inl r)) M') 12 S M 0 0 [some (.inr (.inr (some (ad 12)))), some (.inl x1), some (.inl x2)] [] := by
  intro n
  induction n with
  | zero => intro x2 M H; exact absurd H (by simp [f_X6_readTerm_L12])
  | succ n ih =>
    intro x2 M H
    rw [f_X6_readTerm_L12] at H
    refine R_iload_n (i := 2) (dX6_readTerm 8 rfl) rfl rfl ?_
    refine R_sipush (dX6_readTerm 9 rfl) rfl rfl ?_
    refine R_icmp_ge (tgt := 50) (dX6_readTerm 10 rfl) (by decide) (fun hc => ?_) (fun hc => ?_)
    · have H := ite_F H hc
      refine R_iconst (dX6_readTerm 26 rfl) rfl ?_
      exact R_iret rfl (by decide +kernel) (Nat.zero_le _) (Nat.zero_le _) (dX6_readTerm 27 rfl) ⟨congrArg (fun z => some (Sum.inl z)) (Prod.mk.inj (Option.some.inj H)).1, rfl, (Prod.mk.inj (Option.some.inj H)).2⟩
    · have H := ite_T H hc
      refine R_aload_n (i := 0) (dX6_readTerm 11 rfl) rfl rfl ?_
      refine R_bipush (dX6_readTerm 12 rfl) rfl rfl ?_
      obtain ⟨r70, M71, hr, H⟩ := ob_E H
      refine R_cV (st' := [.inl r70]) [.inl 42] [] (t_X6_pass l g ad S _ hS   42 hr) msX6_pass (Or.inl tb_379) (Or.inl ⟨12, 6, _, _, _, (cl12 hS), rfl⟩) ⟨(by show 3 + 1 ≤ dr + 1; omega), (by show 19 + 2 + 64 * (3) ≤ 64 * (dr + 1); omega)⟩ (Nat.zero_le _) (Nat.zero_le _) rfl rfl (Nat.le_of_ble_eq_true rfl) rfl (dX6_readTerm 13 rfl) ?_
      refine R_if_eq (tgt := 50) (dX6_readTerm 14 rfl) (by decide) (fun hc => ?_) (fun hc => ?_)
      · have H := ite_T H hc
        refine R_iconst (dX6_readTerm 26 rfl) rfl ?_
        exact R_iret rfl (by decide +kernel) (Nat.zero_le _) (Nat.zero_le _) (dX6_readTerm 27 rfl) ⟨congrArg (fun z => some (Sum.inl z)) (Prod.mk.inj (Option.some.inj H)).1, rfl, (Prod.mk.inj (Option.some.inj H)).2⟩
      · have H := ite_F H hc
        refine R_aload_n (i := 0) (dX6_readTerm 15 rfl) rfl rfl ?_
        refine R_iload_n (i := 1) (dX6_readTerm 16 rfl) rfl rfl ?_
        obtain ⟨r72, M73, hr, H⟩ := ob_E H
        refine R_cV (st' := [.inl r72]) [.inl x1] [] (hO_ x1 _ _ _ hr) msX6_readOne (Or.inl tb_412) (Or.inl ⟨12, 6, _, _, _, (cl12 hS), rfl⟩) ⟨(by show dr + 1 ≤ dr + 1; omega), (by show 19 + 3 + 64 * (dr) ≤ 64 * (dr + 1); omega)⟩ (Nat.zero_le _) (Nat.zero_le _) rfl rfl (Nat.le_of_ble_eq_true rfl) rfl (dX6_readTerm 17 rfl) ?_
        refine R_if_ne (tgt := 38) (dX6_readTerm 18 rfl) (by decide) (fun hc => ?_) (fun hc => ?_)
        · have H := ite_F H hc
          refine R_aload_n (i := 0) (dX6_readTerm 21 rfl) rfl rfl ?_
          refine R_bipush (dX6_readTerm 22 rfl) rfl rfl ?_
          obtain ⟨r74, M75, hr, H⟩ := ob_E H
          refine R_cV (st' := []) [.inl 42] [] (t_X6_write l g ad S _ hS   42 hr) msX6_write (Or.inl tb_416) (Or.inl ⟨12, 6, _, _, _, (cl12 hS), rfl⟩) ⟨(by show 2 + 1 ≤ dr + 1; omega), (by show 19 + 2 + 64 * (2) ≤ 64 * (dr + 1); omega)⟩ (Nat.zero_le _) (Nat.zero_le _) rfl rfl (Nat.le_of_ble_eq_true rfl) rfl (dX6_readTerm 23 rfl) ?_
          refine R_iinc (i := 2) (ls' := [some (.inr (.inr (some (ad 12)))), some (.inl x1), some (.inl (w32 (x2 + 1)))]) (dX6_readTerm 24 rfl) rfl (Nat.le_of_ble_eq_true rfl) rfl rfl ?_
          refine R_goto (tgt := 12) (dX6_readTerm 25 rfl) (by decide) ?_
          exact ih (w32 (x2 + 1)) M75 H
        · have H := ite_T H hc
          refine R_iconst (dX6_readTerm 19 rfl) rfl ?_
          exact R_iret rfl (by decide +kernel) (Nat.zero_le _) (Nat.zero_le _) (dX6_readTerm 20 rfl) ⟨congrArg (fun z => some (Sum.inl z)) (Prod.mk.inj (Option.some.inj H)).1, rfl, (Prod.mk.inj (Option.some.inj H)).2⟩
def f_X6_readTerm (rE : Int → Mem → Option (Int × Mem)) (rN : Int → Mem → Option (Int × Mem)) (rO : Int → Mem → Option (Int × Mem)) (x1 : Int) (M : Mem) : Option (Int × Mem) :=
  ob (rO x1 M) fun r68 M69 =>
  if r68 = 0 then
    some (0, M69)
  else
    f_X6_readTerm_L12 rE rN rO
      x1 100000 0 M69
set_option maxHeartbeats 4000000 in
theorem t_X6_readTerm (l : Launch) (g : GG) (ad : Nat → Nat) (S : SW) (M : Mem) (hS : q_ag 12 21 ad S) (dr : Nat) (hdr : 20 ≤ dr) {rE : Int → Mem → Option (Int × Mem)} (hE_ : ∀ (b0 : Int) (M : Mem) (r : Int) (M2 : Mem), rE b0 M = some (r, M2) → CT l g MX6_readEither dr 0 0 S M [.inr (.inr (some (ad 12))), .inl b0] (q_ex S (some (.inl r)) M2)) {rN : Int → Mem → Option (Int × Mem)} (hN_ : ∀ (b0 : Int) (M : Mem) (r : Int) (M2 : Mem), rN b0 M = some (r, M2) → CT l g MX6_readNot dr 0 0 S M [.inr (.inr (some (ad 12))), .inl b0] (q_ex S (some (.inl r)) M2)) {rO : Int → Mem → Option (Int × Mem)} (hO_ : ∀ (b0 : Int) (M : Mem) (r : Int) (M2 : Mem), rO b0 M = some (r, M2) → CT l g MX6_readOne dr 0 0 S M [.inr (.inr (some (ad 12))), .inl b0] (q_ex S (some (.inl r)) M2)) (x1 : Int) {r : Int} {M' : Mem} (H : f_X6_readTerm rE rN rO x1 M = some (r, M')) : CT l g MX6_readTerm (dr + 1) 0 0 S M [.inr (.inr (some (ad 12))), .inl x1] (q_ex S (some (.inl r)) M') := by
  unfold f_X6_readTerm at H
  refine CT_of (ls0 := [some (.inr (.inr (some (ad 12)))), some (.inl x1), none]) (by decide +kernel) (Nat.le_of_ble_eq_true rfl) rfl ?_
  refine R_aload_n (i := 0) (dX6_readTerm 0 rfl) rfl rfl ?_
  refine R_iload_n (i := 1) (dX6_readTerm 1 rfl) rfl rfl ?_
  obtain ⟨r68, M69, hr, H⟩ := ob_E H
  refine R_cV (st' := [.inl r68]) [.inl x1] [] (hO_ x1 _ _ _ hr) msX6_readOne (Or.inl tb_412) (Or.inl ⟨12, 6, _, _, _, (cl12 hS), rfl⟩) ⟨(by show dr + 1 ≤ dr + 1; omega), (by show 19 + 3 + 64 * (dr) ≤ 64 * (dr + 1); omega)⟩ (Nat.zero_le _) (Nat.zero_le _) rfl rfl (Nat.le_of_ble_eq_true rfl) rfl (dX6_readTerm 2 rfl) ?_
  refine R_if_ne (tgt := 10) (dX6_readTerm 3 rfl) (by decide) (fun hc => ?_) (fun hc => ?_)
  · have H := ite_F H hc
    refine R_iconst (dX6_readTerm 6 rfl) rfl ?_
    refine R_istore_n (i := 2) (ls' := [some (.inr (.inr (some (ad 12)))), some (.inl x1), some (.inl 0)]) (dX6_readTerm 7 rfl) rfl (Nat.le_of_ble_eq_true rfl) (Nat.le_of_ble_eq_true rfl) rfl rfl ?_
    exact t_X6_readTerm_L12 l g ad S hS dr hdr hE_ hN_ hO_ x1  100000 0 M69 H 
  · have H := ite_T H hc
    refine R_iconst (dX6_readTerm 4 rfl) rfl ?_
    exact R_iret rfl (by decide +kernel) (Nat.zero_le _) (Nat.zero_le _) (dX6_readTerm 5 rfl) ⟨congrArg (fun z => some (Sum.inl z)) (Prod.mk.inj (Option.some.inj H)).1, rfl, (Prod.mk.inj (Option.some.inj H)).2⟩
def f_X6_readSum_L12 (rE : Int → Mem → Option (Int × Mem)) (rN : Int → Mem → Option (Int × Mem)) (rO : Int → Mem → Option (Int × Mem)) (x1 : Int) : Nat → Int → Mem → Option (Int × Mem)
  | 0, _, _ => none
  | n + 1, x2, M =>
    if x2 < 160 then
      if f_X6_token M = 43 then
        ob (f_X6_readTerm rE rN rO x1 (mset M 12 7 (w32 ((M 12 7) + 1)))) fun r78 M79 =>
        if r78 = 0 then
          some (0, M79)
        else
          ob (f_X6_write (f_X6_token M) M79) fun r80 M81 =>
          f_X6_readSum_L12 rE rN rO x1 n (w32 (x2 + 1)) M81
      else
        if f_X6_token M = 45 then
          ob (f_X6_readTerm rE rN rO x1 (mset M 12 7 (w32 ((M 12 7) + 1)))) fun r82 M83 =>
          if r82 = 0 then
            some (0, M83)
          else
            ob (f_X6_write (f_X6_token M) M83) fun r84 M85 =>
            f_X6_readSum_L12 rE rN rO x1 n (w32 (x2 + 1)) M85
        else
          some (1, M)
    else
      some (1, M)
set_option maxHeartbeats 4000000 in
theorem t_X6_readSum_L12 (l : Launch) (g : GG) (ad : Nat → Nat) (S : SW) (hS : q_ag 12 21 ad S) (dr : Nat) (hdr : 20 ≤ dr) {rE : Int → Mem → Option (Int × Mem)} (hE_ : ∀ (b0 : Int) (M : Mem) (r : Int) (M2 : Mem), rE b0 M = some (r, M2) → CT l g MX6_readEither dr 0 0 S M [.inr (.inr (some (ad 12))), .inl b0] (q_ex S (some (.inl r)) M2)) {rN : Int → Mem → Option (Int × Mem)} (hN_ : ∀ (b0 : Int) (M : Mem) (r : Int) (M2 : Mem), rN b0 M = some (r, M2) → CT l g MX6_readNot dr 0 0 S M [.inr (.inr (some (ad 12))), .inl b0] (q_ex S (some (.inl r)) M2)) {rO : Int → Mem → Option (Int × Mem)} (hO_ : ∀ (b0 : Int) (M : Mem) (r : Int) (M2 : Mem), rO b0 M = some (r, M2) → CT l g MX6_readOne dr 0 0 S M [.inr (.inr (some (ad 12))), .inl b0] (q_ex S (some (.inl r)) M2)) (x1 : Int) {r : Int} {M' : Mem} : ∀ (n : Nat) (x2 : Int) (M : Mem), f_X6_readSum_L12 rE rN rO x1 n x2 M = some (r, M') → RW l g MX6_readSum (q_rm (dr + 2) 0 0) 0 0 (q_ex S (some (.inl r)) M') 12 S M 0 0 [some (.inr (.inr (some (ad 12)))), some (.inl x1), some (.inl x2), none] [] := by
  intro n
  induction n with
  | zero => intro x2 M H; exact absurd H (by simp [f_X6_readSum_L12])
  | succ n ih =>
    intro x2 M H
    rw [f_X6_readSum_L12] at H
    refine R_iload_n (i := 2) (dX6_readSum 8 rfl) rfl rfl ?_
    refine R_sipush (dX6_readSum 9 rfl) rfl rfl ?_
    refine R_icmp_ge (tgt := 73) (dX6_readSum 10 rfl) (by decide) (fun hc => ?_) (fun hc => ?_)
    · have H := ite_F H hc
      refine R_iconst (dX6_readSum 39 rfl) rfl ?_
      exact R_iret rfl (by decide +kernel) (Nat.zero_le _) (Nat.zero_le _) (dX6_readSum 40 rfl) ⟨congrArg (fun z => some (Sum.inl z)) (Prod.mk.inj (Option.some.inj H)).1, rfl, (Prod.mk.inj (Option.some.inj H)).2⟩
    · have H := ite_T H hc
      refine R_aload_n (i := 0) (dX6_readSum 11 rfl) rfl rfl ?_
      refine R_cV (st' := [.inl (f_X6_token M)]) [] [] (t_X6_token l g ad S _ hS  ) msX6_token (Or.inl tb_383) (Or.inl ⟨12, 6, _, _, _, (cl12 hS), rfl⟩) ⟨(by show 2 + 1 ≤ dr + 2; omega), (by show 19 + 1 + 64 * (2) ≤ 64 * (dr + 2); omega)⟩ (Nat.zero_le _) (Nat.zero_le _) rfl rfl (Nat.le_of_ble_eq_true rfl) rfl (dX6_readSum 12 rfl) ?_
      refine R_bipush (dX6_readSum 13 rfl) rfl rfl ?_
      refine R_icmp_eq (tgt := 37) (dX6_readSum 14 rfl) (by decide) (fun hc => ?_) (fun hc => ?_)
      · have H := ite_T H hc
        refine R_aload_n (i := 0) (dX6_readSum 19 rfl) rfl rfl ?_
        refine R_cV (st' := [.inl (f_X6_token M)]) [] [] (t_X6_token l g ad S _ hS  ) msX6_token (Or.inl tb_383) (Or.inl ⟨12, 6, _, _, _, (cl12 hS), rfl⟩) ⟨(by show 2 + 1 ≤ dr + 2; omega), (by show 19 + 1 + 64 * (2) ≤ 64 * (dr + 2); omega)⟩ (Nat.zero_le _) (Nat.zero_le _) rfl rfl (Nat.le_of_ble_eq_true rfl) rfl (dX6_readSum 20 rfl) ?_
        refine R_istore_n (i := 3) (ls' := [some (.inr (.inr (some (ad 12)))), some (.inl x1), some (.inl x2), some (.inl (f_X6_token M))]) (dX6_readSum 21 rfl) rfl (Nat.le_of_ble_eq_true rfl) (Nat.le_of_ble_eq_true rfl) rfl rfl ?_
        refine R_aload_n (i := 0) (dX6_readSum 22 rfl) rfl rfl ?_
        refine R_dup rfl (dX6_readSum 23 rfl) ?_
        refine R_getI cgX6 12 (cl12 hS) 7 (Nat.le_of_ble_eq_true rfl) rfl (Or.inl tb_434) (dX6_readSum 24 rfl) ?_
        refine R_iconst (dX6_readSum 25 rfl) rfl ?_
        refine R_iadd (dX6_readSum 26 rfl) ?_
        refine R_putI cgX6 12 (cl12 hS) 7 (Nat.le_of_ble_eq_true rfl) rfl rfl rfl rfl (Or.inl tb_434) (dX6_readSum 27 rfl) ?_
        refine R_aload_n (i := 0) (dX6_readSum 28 rfl) rfl rfl ?_
        refine R_iload_n (i := 1) (dX6_readSum 29 rfl) rfl rfl ?_
        obtain ⟨r78, M79, hr, H⟩ := ob_E H
        refine R_cV (st' := [.inl r78]) [.inl x1] [] (t_X6_readTerm l g ad S _ hS dr hdr hE_ hN_ hO_   x1 hr) msX6_readTerm (Or.inl tb_408) (Or.inl ⟨12, 6, _, _, _, (cl12 hS), rfl⟩) ⟨(by show dr + 1 + 1 ≤ dr + 2; omega), (by show 19 + 3 + 64 * (dr + 1) ≤ 64 * (dr + 2); omega)⟩ (Nat.zero_le _) (Nat.zero_le _) rfl rfl (Nat.le_of_ble_eq_true rfl) rfl (dX6_readSum 30 rfl) ?_
        refine R_if_ne (tgt := 62) (dX6_readSum 31 rfl) (by decide) (fun hc => ?_) (fun hc => ?_)
        · have H := ite_F H hc
          refine R_aload_n (i := 0) (dX6_readSum 34 rfl) rfl rfl ?_
          refine R_iload_n (i := 3) (dX6_readSum 35 rfl) rfl rfl ?_
          obtain ⟨r80, M81, hr, H⟩ := ob_E H
          refine R_cV (st' := []) [.inl (f_X6_token M)] [] (t_X6_write l g ad S _ hS   (f_X6_token M) hr) msX6_write (Or.inl tb_416) (Or.inl ⟨12, 6, _, _, _, (cl12 hS), rfl⟩) ⟨(by show 2 + 1 ≤ dr + 2; omega), (by show 19 + 2 + 64 * (2) ≤ 64 * (dr + 2); omega)⟩ (Nat.zero_le _) (Nat.zero_le _) rfl rfl (Nat.le_of_ble_eq_true rfl) rfl (dX6_readSum 36 rfl) ?_
          refine R_iinc (i := 2) (ls' := [some (.inr (.inr (some (ad 12)))), some (.inl x1), some (.inl (w32 (x2 + 1))), some (.inl (f_X6_token M))]) (dX6_readSum 37 rfl) rfl (Nat.le_of_ble_eq_true rfl) rfl rfl ?_
          refine R_goto (tgt := 12) (dX6_readSum 38 rfl) (by decide) ?_
          refine R_mask [true, true, true, false] rfl ?_
          exact ih (w32 (x2 + 1)) M81 H
        · have H := ite_T H hc
          refine R_iconst (dX6_readSum 32 rfl) rfl ?_
          exact R_iret rfl (by decide +kernel) (Nat.zero_le _) (Nat.zero_le _) (dX6_readSum 33 rfl) ⟨congrArg (fun z => some (Sum.inl z)) (Prod.mk.inj (Option.some.inj H)).1, rfl, (Prod.mk.inj (Option.some.inj H)).2⟩
      · have H := ite_F H hc
        refine R_aload_n (i := 0) (dX6_readSum 15 rfl) rfl rfl ?_
        refine R_cV (st' := [.inl (f_X6_token M)]) [] [] (t_X6_token l g ad S _ hS  ) msX6_token (Or.inl tb_383) (Or.inl ⟨12, 6, _, _, _, (cl12 hS), rfl⟩) ⟨(by show 2 + 1 ≤ dr + 2; omega), (by show 19 + 1 + 64 * (2) ≤ 64 * (dr + 2); omega)⟩ (Nat.zero_le _) (Nat.zero_le _) rfl rfl (Nat.le_of_ble_eq_true rfl) rfl (dX6_readSum 16 rfl) ?_
        refine R_bipush (dX6_readSum 17 rfl) rfl rfl ?_
        refine R_icmp_ne (tgt := 73) (dX6_readSum 18 rfl) (by decide) (fun hc => ?_) (fun hc => ?_)
        · have H := ite_F H hc
          refine R_iconst (dX6_readSum 39 rfl) rfl ?_
          exact R_iret rfl (by decide +kernel) (Nat.zero_le _) (Nat.zero_le _) (dX6_readSum 40 rfl) ⟨congrArg (fun z => some (Sum.inl z)) (Prod.mk.inj (Option.some.inj H)).1, rfl, (Prod.mk.inj (Option.some.inj H)).2⟩
        · have H := ite_T H hc
          refine R_aload_n (i := 0) (dX6_readSum 19 rfl) rfl rfl ?_
          refine R_cV (st' := [.inl (f_X6_token M)]) [] [] (t_X6_token l g ad S _ hS  ) msX6_token (Or.inl tb_383) (Or.inl ⟨12, 6, _, _, _, (cl12 hS), rfl⟩) ⟨(by show 2 + 1 ≤ dr + 2; omega), (by show 19 + 1 + 64 * (2) ≤ 64 * (dr + 2); omega)⟩ (Nat.zero_le _) (Nat.zero_le _) rfl rfl (Nat.le_of_ble_eq_true rfl) rfl (dX6_readSum 20 rfl) ?_
          refine R_istore_n (i := 3) (ls' := [some (.inr (.inr (some (ad 12)))), some (.inl x1), some (.inl x2), some (.inl (f_X6_token M))]) (dX6_readSum 21 rfl) rfl (Nat.le_of_ble_eq_true rfl) (Nat.le_of_ble_eq_true rfl) rfl rfl ?_
          refine R_aload_n (i := 0) (dX6_readSum 22 rfl) rfl rfl ?_
          refine R_dup rfl (dX6_readSum 23 rfl) ?_
          refine R_getI cgX6 12 (cl12 hS) 7 (Nat.le_of_ble_eq_true rfl) rfl (Or.inl tb_434) (dX6_readSum 24 rfl) ?_
          refine R_iconst (dX6_readSum 25 rfl) rfl ?_
          refine R_iadd (dX6_readSum 26 rfl) ?_
          refine R_putI cgX6 12 (cl12 hS) 7 (Nat.le_of_ble_eq_true rfl) rfl rfl rfl rfl (Or.inl tb_434) (dX6_readSum 27 rfl) ?_
          refine R_aload_n (i := 0) (dX6_readSum 28 rfl) rfl rfl ?_
          refine R_iload_n (i := 1) (dX6_readSum 29 rfl) rfl rfl ?_
          obtain ⟨r82, M83, hr, H⟩ := ob_E H
          refine R_cV (st' := [.inl r82]) [.inl x1] [] (t_X6_readTerm l g ad S _ hS dr hdr hE_ hN_ hO_   x1 hr) msX6_readTerm (Or.inl tb_408) (Or.inl ⟨12, 6, _, _, _, (cl12 hS), rfl⟩) ⟨(by show dr + 1 + 1 ≤ dr + 2; omega), (by show 19 + 3 + 64 * (dr + 1) ≤ 64 * (dr + 2); omega)⟩ (Nat.zero_le _) (Nat.zero_le _) rfl rfl (Nat.le_of_ble_eq_true rfl) rfl (dX6_readSum 30 rfl) ?_
          refine R_if_ne (tgt := 62) (dX6_readSum 31 rfl) (by decide) (fun hc => ?_) (fun hc => ?_)
          · have H := ite_F H hc
            refine R_aload_n (i := 0) (dX6_readSum 34 rfl) rfl rfl ?_
            refine R_iload_n (i := 3) (dX6_readSum 35 rfl) rfl rfl ?_
            obtain ⟨r84, M85, hr, H⟩ := ob_E H
            refine R_cV (st' := []) [.inl (f_X6_token M)] [] (t_X6_write l g ad S _ hS   (f_X6_token M) hr) msX6_write (Or.inl tb_416) (Or.inl ⟨12, 6, _, _, _, (cl12 hS), rfl⟩) ⟨(by show 2 + 1 ≤ dr + 2; omega), (by show 19 + 2 + 64 * (2) ≤ 64 * (dr + 2); omega)⟩ (Nat.zero_le _) (Nat.zero_le _) rfl rfl (Nat.le_of_ble_eq_true rfl) rfl (dX6_readSum 36 rfl) ?_
            refine R_iinc (i := 2) (ls' := [some (.inr (.inr (some (ad 12)))), some (.inl x1), some (.inl (w32 (x2 + 1))), some (.inl (f_X6_token M))]) (dX6_readSum 37 rfl) rfl (Nat.le_of_ble_eq_true rfl) rfl rfl ?_
            refine R_goto (tgt := 12) (dX6_readSum 38 rfl) (by decide) ?_
            refine R_mask [true, true, true, false] rfl ?_
            exact ih (w32 (x2 + 1)) M85 H
          · have H := ite_T H hc
            refine R_iconst (dX6_readSum 32 rfl) rfl ?_
            exact R_iret rfl (by decide +kernel) (Nat.zero_le _) (Nat.zero_le _) (dX6_readSum 33 rfl) ⟨congrArg (fun z => some (Sum.inl z)) (Prod.mk.inj (Option.some.inj H)).1, rfl, (Prod.mk.inj (Option.some.inj H)).2⟩
def f_X6_readSum (rE : Int → Mem → Option (Int × Mem)) (rN : Int → Mem → Option (Int × Mem)) (rO : Int → Mem → Option (Int × Mem)) (x1 : Int) (M : Mem) : Option (Int × Mem) :=
  ob (f_X6_readTerm rE rN rO x1 M) fun r76 M77 =>
  if r76 = 0 then
    some (0, M77)
  else
    f_X6_readSum_L12 rE rN rO
      x1 100000 0 M77
set_option maxHeartbeats 4000000 in
theorem t_X6_readSum (l : Launch) (g : GG) (ad : Nat → Nat) (S : SW) (M : Mem) (hS : q_ag 12 21 ad S) (dr : Nat) (hdr : 20 ≤ dr) {rE : Int → Mem → Option (Int × Mem)} (hE_ : ∀ (b0 : Int) (M : Mem) (r : Int) (M2 : Mem), rE b0 M = some (r, M2) → CT l g MX6_readEither dr 0 0 S M [.inr (.inr (some (ad 12))), .inl b0] (q_ex S (some (.inl r)) M2)) {rN : Int → Mem → Option (Int × Mem)} (hN_ : ∀ (b0 : Int) (M : Mem) (r : Int) (M2 : Mem), rN b0 M = some (r, M2) → CT l g MX6_readNot dr 0 0 S M [.inr (.inr (some (ad 12))), .inl b0] (q_ex S (some (.inl r)) M2)) {rO : Int → Mem → Option (Int × Mem)} (hO_ : ∀ (b0 : Int) (M : Mem) (r : Int) (M2 : Mem), rO b0 M = some (r, M2) → CT l g MX6_readOne dr 0 0 S M [.inr (.inr (some (ad 12))), .inl b0] (q_ex S (some (.inl r)) M2)) (x1 : Int) {r : Int} {M' : Mem} (H : f_X6_readSum rE rN rO x1 M = some (r, M')) : CT l g MX6_readSum (dr + 2) 0 0 S M [.inr (.inr (some (ad 12))), .inl x1] (q_ex S (some (.inl r)) M') := by
  unfold f_X6_readSum at H
  refine CT_of (ls0 := [some (.inr (.inr (some (ad 12)))), some (.inl x1), none, none]) (by decide +kernel) (Nat.le_of_ble_eq_true rfl) rfl ?_
  refine R_aload_n (i := 0) (dX6_readSum 0 rfl) rfl rfl ?_
  refine R_iload_n (i := 1) (dX6_readSum 1 rfl) rfl rfl ?_
  obtain ⟨r76, M77, hr, H⟩ := ob_E H
  refine R_cV (st' := [.inl r76]) [.inl x1] [] (t_X6_readTerm l g ad S _ hS dr hdr hE_ hN_ hO_   x1 hr) msX6_readTerm (Or.inl tb_408) (Or.inl ⟨12, 6, _, _, _, (cl12 hS), rfl⟩) ⟨(by show dr + 1 + 1 ≤ dr + 2; omega), (by show 19 + 3 + 64 * (dr + 1) ≤ 64 * (dr + 2); omega)⟩ (Nat.zero_le _) (Nat.zero_le _) rfl rfl (Nat.le_of_ble_eq_true rfl) rfl (dX6_readSum 2 rfl) ?_
  refine R_if_ne (tgt := 10) (dX6_readSum 3 rfl) (by decide) (fun hc => ?_) (fun hc => ?_)
  · have H := ite_F H hc
    refine R_iconst (dX6_readSum 6 rfl) rfl ?_
    refine R_istore_n (i := 2) (ls' := [some (.inr (.inr (some (ad 12)))), some (.inl x1), some (.inl 0), none]) (dX6_readSum 7 rfl) rfl (Nat.le_of_ble_eq_true rfl) (Nat.le_of_ble_eq_true rfl) rfl rfl ?_
    exact t_X6_readSum_L12 l g ad S hS dr hdr hE_ hN_ hO_ x1  100000 0 M77 H 
  · have H := ite_T H hc
    refine R_iconst (dX6_readSum 4 rfl) rfl ?_
    exact R_iret rfl (by decide +kernel) (Nat.zero_le _) (Nat.zero_le _) (dX6_readSum 5 rfl) ⟨congrArg (fun z => some (Sum.inl z)) (Prod.mk.inj (Option.some.inj H)).1, rfl, (Prod.mk.inj (Option.some.inj H)).2⟩
def f_X6_readCompared (rE : Int → Mem → Option (Int × Mem)) (rN : Int → Mem → Option (Int × Mem)) (rO : Int → Mem → Option (Int × Mem)) (x1 : Int) (M : Mem) : Option (Int × Mem) :=
  ob (f_X6_readSum rE rN rO x1 M) fun r86 M87 =>
  if r86 = 0 then
    some (0, M87)
  else
    if f_X6_token M87 = 60 then
      ob (f_X6_readSum rE rN rO x1 (mset M87 12 7 (w32 ((M87 12 7) + 1)))) fun r88 M89 =>
      if r88 = 0 then
        some (0, M89)
      else
        ob (f_X6_write (f_X6_token M87) M89) fun r90 M91 =>
        some (1, M91)
    else
      if f_X6_token M87 = 61 then
        ob (f_X6_readSum rE rN rO x1 (mset M87 12 7 (w32 ((M87 12 7) + 1)))) fun r92 M93 =>
        if r92 = 0 then
          some (0, M93)
        else
          ob (f_X6_write (f_X6_token M87) M93) fun r94 M95 =>
          some (1, M95)
      else
        some (1, M87)
set_option maxHeartbeats 4000000 in
theorem t_X6_readCompared (l : Launch) (g : GG) (ad : Nat → Nat) (S : SW) (M : Mem) (hS : q_ag 12 21 ad S) (dr : Nat) (hdr : 20 ≤ dr) {rE : Int → Mem → Option (Int × Mem)} (hE_ : ∀ (b0 : Int) (M : Mem) (r : Int) (M2 : Mem), rE b0 M = some (r, M2) → CT l g MX6_readEither dr 0 0 S M [.inr (.inr (some (ad 12))), .inl b0] (q_ex S (some (.inl r)) M2)) {rN : Int → Mem → Option (Int × Mem)} (hN_ : ∀ (b0 : Int) (M : Mem) (r : Int) (M2 : Mem), rN b0 M = some (r, M2) → CT l g MX6_readNot dr 0 0 S M [.inr (.inr (some (ad 12))), .inl b0] (q_ex S (some (.inl r)) M2)) {rO : Int → Mem → Option (Int × Mem)} (hO_ : ∀ (b0 : Int) (M : Mem) (r : Int) (M2 : Mem), rO b0 M = some (r, M2) → CT l g MX6_readOne dr 0 0 S M [.inr (.inr (some (ad 12))), .inl b0] (q_ex S (some (.inl r)) M2)) (x1 : Int) {r : Int} {M' : Mem} (H : f_X6_readCompared rE rN rO x1 M = some (r, M')) : CT l g MX6_readCompared (dr + 3) 0 0 S M [.inr (.inr (some (ad 12))), .inl x1] (q_ex S (some (.inl r)) M') := by
  unfold f_X6_readCompared at H
  refine CT_of (ls0 := [some (.inr (.inr (some (ad 12)))), some (.inl x1), none]) (by decide +kernel) (Nat.le_of_ble_eq_true rfl) rfl ?_
  refine R_aload_n (i := 0) (dX6_readCompared 0 rfl) rfl rfl ?_
  refine R_iload_n (i := 1) (dX6_readCompared 1 rfl) rfl rfl ?_
  obtain ⟨r86, M87, hr, H⟩ := ob_E H
  refine R_cV (st' := [.inl r86]) [.inl x1] [] (t_X6_readSum l g ad S _ hS dr hdr hE_ hN_ hO_   x1 hr) msX6_readSum (Or.inl tb_404) (Or.inl ⟨12, 6, _, _, _, (cl12 hS), rfl⟩) ⟨(by show dr + 2 + 1 ≤ dr + 3; omega), (by show 19 + 4 + 64 * (dr + 2) ≤ 64 * (dr + 3); omega)⟩ (Nat.zero_le _) (Nat.zero_le _) rfl rfl (Nat.le_of_ble_eq_true rfl) rfl (dX6_readCompared 2 rfl) ?_
  refine R_if_ne (tgt := 10) (dX6_readCompared 3 rfl) (by decide) (fun hc => ?_) (fun hc => ?_)
  · have H := ite_F H hc
    refine R_aload_n (i := 0) (dX6_readCompared 6 rfl) rfl rfl ?_
    refine R_cV (st' := [.inl (f_X6_token M87)]) [] [] (t_X6_token l g ad S _ hS  ) msX6_token (Or.inl tb_383) (Or.inl ⟨12, 6, _, _, _, (cl12 hS), rfl⟩) ⟨(by show 2 + 1 ≤ dr + 3; omega), (by show 19 + 1 + 64 * (2) ≤ 64 * (dr + 3); omega)⟩ (Nat.zero_le _) (Nat.zero_le _) rfl rfl (Nat.le_of_ble_eq_true rfl) rfl (dX6_readCompared 7 rfl) ?_
    refine R_istore_n (i := 2) (ls' := [some (.inr (.inr (some (ad 12)))), some (.inl x1), some (.inl (f_X6_token M87))]) (dX6_readCompared 8 rfl) rfl (Nat.le_of_ble_eq_true rfl) (Nat.le_of_ble_eq_true rfl) rfl rfl ?_
    refine R_iload_n (i := 2) (dX6_readCompared 9 rfl) rfl rfl ?_
    refine R_bipush (dX6_readCompared 10 rfl) rfl rfl ?_
    refine R_icmp_eq (tgt := 29) (dX6_readCompared 11 rfl) (by decide) (fun hc => ?_) (fun hc => ?_)
    · have H := ite_T H hc
      refine R_aload_n (i := 0) (dX6_readCompared 17 rfl) rfl rfl ?_
      refine R_dup rfl (dX6_readCompared 18 rfl) ?_
      refine R_getI cgX6 12 (cl12 hS) 7 (Nat.le_of_ble_eq_true rfl) rfl (Or.inl tb_434) (dX6_readCompared 19 rfl) ?_
      refine R_iconst (dX6_readCompared 20 rfl) rfl ?_
      refine R_iadd (dX6_readCompared 21 rfl) ?_
      refine R_putI cgX6 12 (cl12 hS) 7 (Nat.le_of_ble_eq_true rfl) rfl rfl rfl rfl (Or.inl tb_434) (dX6_readCompared 22 rfl) ?_
      refine R_aload_n (i := 0) (dX6_readCompared 23 rfl) rfl rfl ?_
      refine R_iload_n (i := 1) (dX6_readCompared 24 rfl) rfl rfl ?_
      obtain ⟨r88, M89, hr, H⟩ := ob_E H
      refine R_cV (st' := [.inl r88]) [.inl x1] [] (t_X6_readSum l g ad S _ hS dr hdr hE_ hN_ hO_   x1 hr) msX6_readSum (Or.inl tb_404) (Or.inl ⟨12, 6, _, _, _, (cl12 hS), rfl⟩) ⟨(by show dr + 2 + 1 ≤ dr + 3; omega), (by show 19 + 4 + 64 * (dr + 2) ≤ 64 * (dr + 3); omega)⟩ (Nat.zero_le _) (Nat.zero_le _) rfl rfl (Nat.le_of_ble_eq_true rfl) rfl (dX6_readCompared 25 rfl) ?_
      refine R_if_ne (tgt := 49) (dX6_readCompared 26 rfl) (by decide) (fun hc => ?_) (fun hc => ?_)
      · have H := ite_F H hc
        refine R_aload_n (i := 0) (dX6_readCompared 29 rfl) rfl rfl ?_
        refine R_iload_n (i := 2) (dX6_readCompared 30 rfl) rfl rfl ?_
        obtain ⟨r90, M91, hr, H⟩ := ob_E H
        refine R_cV (st' := []) [.inl (f_X6_token M87)] [] (t_X6_write l g ad S _ hS   (f_X6_token M87) hr) msX6_write (Or.inl tb_416) (Or.inl ⟨12, 6, _, _, _, (cl12 hS), rfl⟩) ⟨(by show 2 + 1 ≤ dr + 3; omega), (by show 19 + 2 + 64 * (2) ≤ 64 * (dr + 3); omega)⟩ (Nat.zero_le _) (Nat.zero_le _) rfl rfl (Nat.le_of_ble_eq_true rfl) rfl (dX6_readCompared 31 rfl) ?_
        refine R_iconst (dX6_readCompared 32 rfl) rfl ?_
        exact R_iret rfl (by decide +kernel) (Nat.zero_le _) (Nat.zero_le _) (dX6_readCompared 33 rfl) ⟨congrArg (fun z => some (Sum.inl z)) (Prod.mk.inj (Option.some.inj H)).1, rfl, (Prod.mk.inj (Option.some.inj H)).2⟩
      · have H := ite_T H hc
        refine R_iconst (dX6_readCompared 27 rfl) rfl ?_
        exact R_iret rfl (by decide +kernel) (Nat.zero_le _) (Nat.zero_le _) (dX6_readCompared 28 rfl) ⟨congrArg (fun z => some (Sum.inl z)) (Prod.mk.inj (Option.some.inj H)).1, rfl, (Prod.mk.inj (Option.some.inj H)).2⟩
    · have H := ite_F H hc
      refine R_iload_n (i := 2) (dX6_readCompared 12 rfl) rfl rfl ?_
      refine R_bipush (dX6_readCompared 13 rfl) rfl rfl ?_
      refine R_icmp_eq (tgt := 29) (dX6_readCompared 14 rfl) (by decide) (fun hc => ?_) (fun hc => ?_)
      · have H := ite_T H hc
        refine R_aload_n (i := 0) (dX6_readCompared 17 rfl) rfl rfl ?_
        refine R_dup rfl (dX6_readCompared 18 rfl) ?_
        refine R_getI cgX6 12 (cl12 hS) 7 (Nat.le_of_ble_eq_true rfl) rfl (Or.inl tb_434) (dX6_readCompared 19 rfl) ?_
        refine R_iconst (dX6_readCompared 20 rfl) rfl ?_
        refine R_iadd (dX6_readCompared 21 rfl) ?_
        refine R_putI cgX6 12 (cl12 hS) 7 (Nat.le_of_ble_eq_true rfl) rfl rfl rfl rfl (Or.inl tb_434) (dX6_readCompared 22 rfl) ?_
        refine R_aload_n (i := 0) (dX6_readCompared 23 rfl) rfl rfl ?_
        refine R_iload_n (i := 1) (dX6_readCompared 24 rfl) rfl rfl ?_
        obtain ⟨r92, M93, hr, H⟩ := ob_E H
        refine R_cV (st' := [.inl r92]) [.inl x1] [] (t_X6_readSum l g ad S _ hS dr hdr hE_ hN_ hO_   x1 hr) msX6_readSum (Or.inl tb_404) (Or.inl ⟨12, 6, _, _, _, (cl12 hS), rfl⟩) ⟨(by show dr + 2 + 1 ≤ dr + 3; omega), (by show 19 + 4 + 64 * (dr + 2) ≤ 64 * (dr + 3); omega)⟩ (Nat.zero_le _) (Nat.zero_le _) rfl rfl (Nat.le_of_ble_eq_true rfl) rfl (dX6_readCompared 25 rfl) ?_
        refine R_if_ne (tgt := 49) (dX6_readCompared 26 rfl) (by decide) (fun hc => ?_) (fun hc => ?_)
        · have H := ite_F H hc
          refine R_aload_n (i := 0) (dX6_readCompared 29 rfl) rfl rfl ?_
          refine R_iload_n (i := 2) (dX6_readCompared 30 rfl) rfl rfl ?_
          obtain ⟨r94, M95, hr, H⟩ := ob_E H
          refine R_cV (st' := []) [.inl (f_X6_token M87)] [] (t_X6_write l g ad S _ hS   (f_X6_token M87) hr) msX6_write (Or.inl tb_416) (Or.inl ⟨12, 6, _, _, _, (cl12 hS), rfl⟩) ⟨(by show 2 + 1 ≤ dr + 3; omega), (by show 19 + 2 + 64 * (2) ≤ 64 * (dr + 3); omega)⟩ (Nat.zero_le _) (Nat.zero_le _) rfl rfl (Nat.le_of_ble_eq_true rfl) rfl (dX6_readCompared 31 rfl) ?_
          refine R_iconst (dX6_readCompared 32 rfl) rfl ?_
          exact R_iret rfl (by decide +kernel) (Nat.zero_le _) (Nat.zero_le _) (dX6_readCompared 33 rfl) ⟨congrArg (fun z => some (Sum.inl z)) (Prod.mk.inj (Option.some.inj H)).1, rfl, (Prod.mk.inj (Option.some.inj H)).2⟩
        · have H := ite_T H hc
          refine R_iconst (dX6_readCompared 27 rfl) rfl ?_
          exact R_iret rfl (by decide +kernel) (Nat.zero_le _) (Nat.zero_le _) (dX6_readCompared 28 rfl) ⟨congrArg (fun z => some (Sum.inl z)) (Prod.mk.inj (Option.some.inj H)).1, rfl, (Prod.mk.inj (Option.some.inj H)).2⟩
      · have H := ite_F H hc
        refine R_iconst (dX6_readCompared 15 rfl) rfl ?_
        exact R_iret rfl (by decide +kernel) (Nat.zero_le _) (Nat.zero_le _) (dX6_readCompared 16 rfl) ⟨congrArg (fun z => some (Sum.inl z)) (Prod.mk.inj (Option.some.inj H)).1, rfl, (Prod.mk.inj (Option.some.inj H)).2⟩
  · have H := ite_T H hc
    refine R_iconst (dX6_readCompared 4 rfl) rfl ?_
    exact R_iret rfl (by decide +kernel) (Nat.zero_le _) (Nat.zero_le _) (dX6_readCompared 5 rfl) ⟨congrArg (fun z => some (Sum.inl z)) (Prod.mk.inj (Option.some.inj H)).1, rfl, (Prod.mk.inj (Option.some.inj H)).2⟩
def f_X6_readNot (rE : Int → Mem → Option (Int × Mem)) (rN : Int → Mem → Option (Int × Mem)) (rO : Int → Mem → Option (Int × Mem)) (x1 : Int) (M : Mem) : Option (Int × Mem) :=
  if f_X6_token M = 261 then
    if x1 < 5 then
      ob (rN (w32 (x1 + 1)) (mset M 12 7 (w32 ((M 12 7) + 1)))) fun r96 M97 =>
      if r96 = 0 then
        some (0, M97)
      else
        ob (f_X6_write 261 M97) fun r98 M99 =>
        some (1, M99)
    else
      some (0, M)
  else
    ob (f_X6_readCompared rE rN rO x1 M) fun r100 M101 =>
    if r100 = 0 ∨ r100 = 1 then some (r100, M101) else none
set_option maxHeartbeats 4000000 in
theorem t_X6_readNot (l : Launch) (g : GG) (ad : Nat → Nat) (S : SW) (M : Mem) (hS : q_ag 12 21 ad S) (dr : Nat) (hdr : 20 ≤ dr) {rE : Int → Mem → Option (Int × Mem)} (hE_ : ∀ (b0 : Int) (M : Mem) (r : Int) (M2 : Mem), rE b0 M = some (r, M2) → CT l g MX6_readEither dr 0 0 S M [.inr (.inr (some (ad 12))), .inl b0] (q_ex S (some (.inl r)) M2)) {rN : Int → Mem → Option (Int × Mem)} (hN_ : ∀ (b0 : Int) (M : Mem) (r : Int) (M2 : Mem), rN b0 M = some (r, M2) → CT l g MX6_readNot dr 0 0 S M [.inr (.inr (some (ad 12))), .inl b0] (q_ex S (some (.inl r)) M2)) {rO : Int → Mem → Option (Int × Mem)} (hO_ : ∀ (b0 : Int) (M : Mem) (r : Int) (M2 : Mem), rO b0 M = some (r, M2) → CT l g MX6_readOne dr 0 0 S M [.inr (.inr (some (ad 12))), .inl b0] (q_ex S (some (.inl r)) M2)) (x1 : Int) {r : Int} {M' : Mem} (H : f_X6_readNot rE rN rO x1 M = some (r, M')) : CT l g MX6_readNot (dr + 4) 0 0 S M [.inr (.inr (some (ad 12))), .inl x1] (q_ex S (some (.inl r)) M') := by
  unfold f_X6_readNot at H
  refine CT_of (ls0 := [some (.inr (.inr (some (ad 12)))), some (.inl x1)]) (by decide +kernel) (Nat.le_of_ble_eq_true rfl) rfl ?_
  refine R_aload_n (i := 0) (dX6_readNot 0 rfl) rfl rfl ?_
  refine R_cV (st' := [.inl (f_X6_token M)]) [] [] (t_X6_token l g ad S _ hS  ) msX6_token (Or.inl tb_383) (Or.inl ⟨12, 6, _, _, _, (cl12 hS), rfl⟩) ⟨(by show 2 + 1 ≤ dr + 4; omega), (by show 19 + 1 + 64 * (2) ≤ 64 * (dr + 4); omega)⟩ (Nat.zero_le _) (Nat.zero_le _) rfl rfl (Nat.le_of_ble_eq_true rfl) rfl (dX6_readNot 1 rfl) ?_
  refine R_sipush (dX6_readNot 2 rfl) rfl rfl ?_
  refine R_icmp_eq (tgt := 16) (dX6_readNot 3 rfl) (by decide) (fun hc => ?_) (fun hc => ?_)
  · have H := ite_T H hc
    refine R_iload_n (i := 1) (dX6_readNot 8 rfl) rfl rfl ?_
    refine R_iconst (dX6_readNot 9 rfl) rfl ?_
    refine R_icmp_lt (tgt := 23) (dX6_readNot 10 rfl) (by decide) (fun hc => ?_) (fun hc => ?_)
    · have H := ite_T H hc
      refine R_aload_n (i := 0) (dX6_readNot 13 rfl) rfl rfl ?_
      refine R_dup rfl (dX6_readNot 14 rfl) ?_
      refine R_getI cgX6 12 (cl12 hS) 7 (Nat.le_of_ble_eq_true rfl) rfl (Or.inl tb_434) (dX6_readNot 15 rfl) ?_
      refine R_iconst (dX6_readNot 16 rfl) rfl ?_
      refine R_iadd (dX6_readNot 17 rfl) ?_
      refine R_putI cgX6 12 (cl12 hS) 7 (Nat.le_of_ble_eq_true rfl) rfl rfl rfl rfl (Or.inl tb_434) (dX6_readNot 18 rfl) ?_
      refine R_aload_n (i := 0) (dX6_readNot 19 rfl) rfl rfl ?_
      refine R_iload_n (i := 1) (dX6_readNot 20 rfl) rfl rfl ?_
      refine R_iconst (dX6_readNot 21 rfl) rfl ?_
      refine R_iadd (dX6_readNot 22 rfl) ?_
      obtain ⟨r96, M97, hr, H⟩ := ob_E H
      refine R_cV (st' := [.inl r96]) [.inl (w32 (x1 + 1))] [] (hN_ (w32 (x1 + 1)) _ _ _ hr) msX6_readNot (Or.inl tb_396) (Or.inl ⟨12, 6, _, _, _, (cl12 hS), rfl⟩) ⟨(by show dr + 1 ≤ dr + 4; omega), (by show 19 + 2 + 64 * (dr) ≤ 64 * (dr + 4); omega)⟩ (Nat.zero_le _) (Nat.zero_le _) rfl rfl (Nat.le_of_ble_eq_true rfl) rfl (dX6_readNot 23 rfl) ?_
      refine R_if_ne (tgt := 45) (dX6_readNot 24 rfl) (by decide) (fun hc => ?_) (fun hc => ?_)
      · have H := ite_F H hc
        refine R_aload_n (i := 0) (dX6_readNot 27 rfl) rfl rfl ?_
        refine R_sipush (dX6_readNot 28 rfl) rfl rfl ?_
        obtain ⟨r98, M99, hr, H⟩ := ob_E H
        refine R_cV (st' := []) [.inl 261] [] (t_X6_write l g ad S _ hS   261 hr) msX6_write (Or.inl tb_416) (Or.inl ⟨12, 6, _, _, _, (cl12 hS), rfl⟩) ⟨(by show 2 + 1 ≤ dr + 4; omega), (by show 19 + 2 + 64 * (2) ≤ 64 * (dr + 4); omega)⟩ (Nat.zero_le _) (Nat.zero_le _) rfl rfl (Nat.le_of_ble_eq_true rfl) rfl (dX6_readNot 29 rfl) ?_
        refine R_iconst (dX6_readNot 30 rfl) rfl ?_
        exact R_iret rfl (by decide +kernel) (Nat.zero_le _) (Nat.zero_le _) (dX6_readNot 31 rfl) ⟨congrArg (fun z => some (Sum.inl z)) (Prod.mk.inj (Option.some.inj H)).1, rfl, (Prod.mk.inj (Option.some.inj H)).2⟩
      · have H := ite_T H hc
        refine R_iconst (dX6_readNot 25 rfl) rfl ?_
        exact R_iret rfl (by decide +kernel) (Nat.zero_le _) (Nat.zero_le _) (dX6_readNot 26 rfl) ⟨congrArg (fun z => some (Sum.inl z)) (Prod.mk.inj (Option.some.inj H)).1, rfl, (Prod.mk.inj (Option.some.inj H)).2⟩
    · have H := ite_F H hc
      refine R_iconst (dX6_readNot 11 rfl) rfl ?_
      exact R_iret rfl (by decide +kernel) (Nat.zero_le _) (Nat.zero_le _) (dX6_readNot 12 rfl) ⟨congrArg (fun z => some (Sum.inl z)) (Prod.mk.inj (Option.some.inj H)).1, rfl, (Prod.mk.inj (Option.some.inj H)).2⟩
  · have H := ite_F H hc
    refine R_aload_n (i := 0) (dX6_readNot 4 rfl) rfl rfl ?_
    refine R_iload_n (i := 1) (dX6_readNot 5 rfl) rfl rfl ?_
    obtain ⟨r100, M101, hr, H⟩ := ob_E H
    refine R_cV (st' := [.inl r100]) [.inl x1] [] (t_X6_readCompared l g ad S _ hS dr hdr hE_ hN_ hO_   x1 hr) msX6_readCompared (Or.inl tb_400) (Or.inl ⟨12, 6, _, _, _, (cl12 hS), rfl⟩) ⟨(by show dr + 3 + 1 ≤ dr + 4; omega), (by show 19 + 3 + 64 * (dr + 3) ≤ 64 * (dr + 4); omega)⟩ (Nat.zero_le _) (Nat.zero_le _) rfl rfl (Nat.le_of_ble_eq_true rfl) rfl (dX6_readNot 6 rfl) ?_
    obtain ⟨hg, H⟩ := ite_G H
    exact R_iret rfl (q_nbz hg) (Nat.zero_le _) (Nat.zero_le _) (dX6_readNot 7 rfl) ⟨congrArg (fun z => some (Sum.inl z)) (Prod.mk.inj (Option.some.inj H)).1, rfl, (Prod.mk.inj (Option.some.inj H)).2⟩
def f_X6_readOne (rE : Int → Mem → Option (Int × Mem)) (rN : Int → Mem → Option (Int × Mem)) (rO : Int → Mem → Option (Int × Mem)) (x1 : Int) (M : Mem) : Option (Int × Mem) :=
  if f_X6_token M < 300 then
    if f_X6_token M = 45 then
      if x1 < 5 then
        if f_X6_token M = 40 then
          ob (rE (w32 (x1 + 1)) (mset M 12 7 (w32 ((M 12 7) + 1)))) fun r106 M107 =>
          if r106 = 0 then
            some (0, M107)
          else
            ob (f_X6_pass 41 M107) fun r108 M109 =>
            if r108 = 0 then
              some (0, M109)
            else
              some (1, M109)
        else
          ob (rO (w32 (x1 + 1)) (mset M 12 7 (w32 ((M 12 7) + 1)))) fun r102 M103 =>
          if r102 = 0 then
            some (0, M103)
          else
            ob (f_X6_write 262 M103) fun r104 M105 =>
            some (1, M105)
      else
        some (0, M)
    else
      if f_X6_token M = 40 then
        if x1 < 5 then
          if f_X6_token M = 40 then
            ob (rE (w32 (x1 + 1)) (mset M 12 7 (w32 ((M 12 7) + 1)))) fun r114 M115 =>
            if r114 = 0 then
              some (0, M115)
            else
              ob (f_X6_pass 41 M115) fun r116 M117 =>
              if r116 = 0 then
                some (0, M117)
              else
                some (1, M117)
          else
            ob (rO (w32 (x1 + 1)) (mset M 12 7 (w32 ((M 12 7) + 1)))) fun r110 M111 =>
            if r110 = 0 then
              some (0, M111)
            else
              ob (f_X6_write 262 M111) fun r112 M113 =>
              some (1, M113)
        else
          some (0, M)
      else
        some (0, M)
  else
    ob (f_X6_write (f_X6_token M) (mset M 12 7 (w32 ((M 12 7) + 1)))) fun r118 M119 =>
    some (1, M119)
set_option maxHeartbeats 4000000 in
theorem t_X6_readOne (l : Launch) (g : GG) (ad : Nat → Nat) (S : SW) (M : Mem) (hS : q_ag 12 21 ad S) (dr : Nat) (hdr : 20 ≤ dr) {rE : Int → Mem → Option (Int × Mem)} (hE_ : ∀ (b0 : Int) (M : Mem) (r : Int) (M2 : Mem), rE b0 M = some (r, M2) → CT l g MX6_readEither dr 0 0 S M [.inr (.inr (some (ad 12))), .inl b0] (q_ex S (some (.inl r)) M2)) {rN : Int → Mem → Option (Int × Mem)} (hN_ : ∀ (b0 : Int) (M : Mem) (r : Int) (M2 : Mem), rN b0 M = some (r, M2) → CT l g MX6_readNot dr 0 0 S M [.inr (.inr (some (ad 12))), .inl b0] (q_ex S (some (.inl r)) M2)) {rO : Int → Mem → Option (Int × Mem)} (hO_ : ∀ (b0 : Int) (M : Mem) (r : Int) (M2 : Mem), rO b0 M = some (r, M2) → CT l g MX6_readOne dr 0 0 S M [.inr (.inr (some (ad 12))), .inl b0] (q_ex S (some (.inl r)) M2)) (x1 : Int) {r : Int} {M' : Mem} (H : f_X6_readOne rE rN rO x1 M = some (r, M')) : CT l g MX6_readOne (dr + 1) 0 0 S M [.inr (.inr (some (ad 12))), .inl x1] (q_ex S (some (.inl r)) M') := by
  unfold f_X6_readOne at H
  refine CT_of (ls0 := [some (.inr (.inr (some (ad 12)))), some (.inl x1), none]) (by decide +kernel) (Nat.le_of_ble_eq_true rfl) rfl ?_
  refine R_aload_n (i := 0) (dX6_readOne_0 0 rfl) rfl rfl ?_
  refine R_cV (st' := [.inl (f_X6_token M)]) [] [] (t_X6_token l g ad S _ hS  ) msX6_token (Or.inl tb_383) (Or.inl ⟨12, 6, _, _, _, (cl12 hS), rfl⟩) ⟨(by show 2 + 1 ≤ dr + 1; omega), (by show 19 + 1 + 64 * (2) ≤ 64 * (dr + 1); omega)⟩ (Nat.zero_le _) (Nat.zero_le _) rfl rfl (Nat.le_of_ble_eq_true rfl) rfl (dX6_readOne_0 1 rfl) ?_
  refine R_istore_n (i := 2) (ls' := [some (.inr (.inr (some (ad 12)))), some (.inl x1), some (.inl (f_X6_token M))]) (dX6_readOne_0 2 rfl) rfl (Nat.le_of_ble_eq_true rfl) (Nat.le_of_ble_eq_true rfl) rfl rfl ?_
  refine R_iload_n (i := 2) (dX6_readOne_0 3 rfl) rfl rfl ?_
  refine R_sipush (dX6_readOne_0 4 rfl) rfl rfl ?_
  refine R_icmp_lt (tgt := 29) (dX6_readOne_0 5 rfl) (by decide) (fun hc => ?_) (fun hc => ?_)
  · have H := ite_T H hc
    refine R_iload_n (i := 2) (dX6_readOne_0 17 rfl) rfl rfl ?_
    refine R_bipush (dX6_readOne_0 18 rfl) rfl rfl ?_
    refine R_icmp_eq (tgt := 41) (dX6_readOne_0 19 rfl) (by decide) (fun hc => ?_) (fun hc => ?_)
    · have H := ite_T H hc
      refine R_iload_n (i := 1) (dX6_readOne_0 23 rfl) rfl rfl ?_
      refine R_iconst (dX6_readOne_0 24 rfl) rfl ?_
      refine R_icmp_lt (tgt := 48) (dX6_readOne_0 25 rfl) (by decide) (fun hc => ?_) (fun hc => ?_)
      · have H := ite_T H hc
        refine R_aload_n (i := 0) (dX6_readOne_0 28 rfl) rfl rfl ?_
        refine R_dup rfl (dX6_readOne_0 29 rfl) ?_
        refine R_getI cgX6 12 (cl12 hS) 7 (Nat.le_of_ble_eq_true rfl) rfl (Or.inl tb_434) (dX6_readOne_0 30 rfl) ?_
        refine R_iconst (dX6_readOne_0 31 rfl) rfl ?_
        refine R_iadd (dX6_readOne_0 32 rfl) ?_
        refine R_putI cgX6 12 (cl12 hS) 7 (Nat.le_of_ble_eq_true rfl) rfl rfl rfl rfl (Or.inl tb_434) (dX6_readOne_0 33 rfl) ?_
        refine R_iload_n (i := 2) (dX6_readOne_0 34 rfl) rfl rfl ?_
        refine R_bipush (dX6_readOne_0 35 rfl) rfl rfl ?_
        refine R_icmp_ne (tgt := 89) (dX6_readOne_0 36 rfl) (by decide) (fun hc => ?_) (fun hc => ?_)
        · have H := ite_F H hc
          refine R_aload_n (i := 0) (dX6_readOne_0 51 rfl) rfl rfl ?_
          refine R_iload_n (i := 1) (dX6_readOne_0 52 rfl) rfl rfl ?_
          refine R_iconst (dX6_readOne_0 53 rfl) rfl ?_
          refine R_iadd (dX6_readOne_0 54 rfl) ?_
          obtain ⟨r102, M103, hr, H⟩ := ob_E H
          refine R_cV (st' := [.inl r102]) [.inl (w32 (x1 + 1))] [] (hO_ (w32 (x1 + 1)) _ _ _ hr) msX6_readOne (Or.inl tb_412) (Or.inl ⟨12, 6, _, _, _, (cl12 hS), rfl⟩) ⟨(by show dr + 1 ≤ dr + 1; omega), (by show 19 + 3 + 64 * (dr) ≤ 64 * (dr + 1); omega)⟩ (Nat.zero_le _) (Nat.zero_le _) rfl rfl (Nat.le_of_ble_eq_true rfl) rfl (dX6_readOne_0 55 rfl) ?_
          refine R_if_ne (tgt := 101) (dX6_readOne_0 56 rfl) (by decide) (fun hc => ?_) (fun hc => ?_)
          · have H := ite_F H hc
            refine R_aload_n (i := 0) (dX6_readOne_0 59 rfl) rfl rfl ?_
            refine R_sipush (dX6_readOne_1 0 rfl) rfl rfl ?_
            obtain ⟨r104, M105, hr, H⟩ := ob_E H
            refine R_cV (st' := []) [.inl 262] [] (t_X6_write l g ad S _ hS   262 hr) msX6_write (Or.inl tb_416) (Or.inl ⟨12, 6, _, _, _, (cl12 hS), rfl⟩) ⟨(by show 2 + 1 ≤ dr + 1; omega), (by show 19 + 2 + 64 * (2) ≤ 64 * (dr + 1); omega)⟩ (Nat.zero_le _) (Nat.zero_le _) rfl rfl (Nat.le_of_ble_eq_true rfl) rfl (dX6_readOne_1 1 rfl) ?_
            refine R_iconst (dX6_readOne_1 2 rfl) rfl ?_
            exact R_iret rfl (by decide +kernel) (Nat.zero_le _) (Nat.zero_le _) (dX6_readOne_1 3 rfl) ⟨congrArg (fun z => some (Sum.inl z)) (Prod.mk.inj (Option.some.inj H)).1, rfl, (Prod.mk.inj (Option.some.inj H)).2⟩
          · have H := ite_T H hc
            refine R_iconst (dX6_readOne_0 57 rfl) rfl ?_
            exact R_iret rfl (by decide +kernel) (Nat.zero_le _) (Nat.zero_le _) (dX6_readOne_0 58 rfl) ⟨congrArg (fun z => some (Sum.inl z)) (Prod.mk.inj (Option.some.inj H)).1, rfl, (Prod.mk.inj (Option.some.inj H)).2⟩
        · have H := ite_T H hc
          refine R_aload_n (i := 0) (dX6_readOne_0 37 rfl) rfl rfl ?_
          refine R_iload_n (i := 1) (dX6_readOne_0 38 rfl) rfl rfl ?_
          refine R_iconst (dX6_readOne_0 39 rfl) rfl ?_
          refine R_iadd (dX6_readOne_0 40 rfl) ?_
          obtain ⟨r106, M107, hr, H⟩ := ob_E H
          refine R_cV (st' := [.inl r106]) [.inl (w32 (x1 + 1))] [] (hE_ (w32 (x1 + 1)) _ _ _ hr) msX6_readEither (Or.inl tb_388) (Or.inl ⟨12, 6, _, _, _, (cl12 hS), rfl⟩) ⟨(by show dr + 1 ≤ dr + 1; omega), (by show 19 + 3 + 64 * (dr) ≤ 64 * (dr + 1); omega)⟩ (Nat.zero_le _) (Nat.zero_le _) rfl rfl (Nat.le_of_ble_eq_true rfl) rfl (dX6_readOne_0 41 rfl) ?_
          refine R_if_eq (tgt := 87) (dX6_readOne_0 42 rfl) (by decide) (fun hc => ?_) (fun hc => ?_)
          · have H := ite_T H hc
            refine R_iconst (dX6_readOne_0 49 rfl) rfl ?_
            exact R_iret rfl (by decide +kernel) (Nat.zero_le _) (Nat.zero_le _) (dX6_readOne_0 50 rfl) ⟨congrArg (fun z => some (Sum.inl z)) (Prod.mk.inj (Option.some.inj H)).1, rfl, (Prod.mk.inj (Option.some.inj H)).2⟩
          · have H := ite_F H hc
            refine R_aload_n (i := 0) (dX6_readOne_0 43 rfl) rfl rfl ?_
            refine R_bipush (dX6_readOne_0 44 rfl) rfl rfl ?_
            obtain ⟨r108, M109, hr, H⟩ := ob_E H
            refine R_cV (st' := [.inl r108]) [.inl 41] [] (t_X6_pass l g ad S _ hS   41 hr) msX6_pass (Or.inl tb_379) (Or.inl ⟨12, 6, _, _, _, (cl12 hS), rfl⟩) ⟨(by show 3 + 1 ≤ dr + 1; omega), (by show 19 + 2 + 64 * (3) ≤ 64 * (dr + 1); omega)⟩ (Nat.zero_le _) (Nat.zero_le _) rfl rfl (Nat.le_of_ble_eq_true rfl) rfl (dX6_readOne_0 45 rfl) ?_
            refine R_if_eq (tgt := 87) (dX6_readOne_0 46 rfl) (by decide) (fun hc => ?_) (fun hc => ?_)
            · have H := ite_T H hc
              refine R_iconst (dX6_readOne_0 49 rfl) rfl ?_
              exact R_iret rfl (by decide +kernel) (Nat.zero_le _) (Nat.zero_le _) (dX6_readOne_0 50 rfl) ⟨congrArg (fun z => some (Sum.inl z)) (Prod.mk.inj (Option.some.inj H)).1, rfl, (Prod.mk.inj (Option.some.inj H)).2⟩
            · have H := ite_F H hc
              refine R_iconst (dX6_readOne_0 47 rfl) rfl ?_
              refine R_goto (tgt := 88) (dX6_readOne_0 48 rfl) (by decide) ?_
              exact R_iret rfl (by decide +kernel) (Nat.zero_le _) (Nat.zero_le _) (dX6_readOne_0 50 rfl) ⟨congrArg (fun z => some (Sum.inl z)) (Prod.mk.inj (Option.some.inj H)).1, rfl, (Prod.mk.inj (Option.some.inj H)).2⟩
      · have H := ite_F H hc
        refine R_iconst (dX6_readOne_0 26 rfl) rfl ?_
        exact R_iret rfl (by decide +kernel) (Nat.zero_le _) (Nat.zero_le _) (dX6_readOne_0 27 rfl) ⟨congrArg (fun z => some (Sum.inl z)) (Prod.mk.inj (Option.some.inj H)).1, rfl, (Prod.mk.inj (Option.some.inj H)).2⟩
    · have H := ite_F H hc
      refine R_iload_n (i := 2) (dX6_readOne_0 20 rfl) rfl rfl ?_
      refine R_bipush (dX6_readOne_0 21 rfl) rfl rfl ?_
      refine R_icmp_ne (tgt := 46) (dX6_readOne_0 22 rfl) (by decide) (fun hc => ?_) (fun hc => ?_)
      · have H := ite_F H hc
        refine R_iconst (dX6_readOne_0 26 rfl) rfl ?_
        exact R_iret rfl (by decide +kernel) (Nat.zero_le _) (Nat.zero_le _) (dX6_readOne_0 27 rfl) ⟨congrArg (fun z => some (Sum.inl z)) (Prod.mk.inj (Option.some.inj H)).1, rfl, (Prod.mk.inj (Option.some.inj H)).2⟩
      · have H := ite_T H hc
        refine R_iload_n (i := 1) (dX6_readOne_0 23 rfl) rfl rfl ?_
        refine R_iconst (dX6_readOne_0 24 rfl) rfl ?_
        refine R_icmp_lt (tgt := 48) (dX6_readOne_0 25 rfl) (by decide) (fun hc => ?_) (fun hc => ?_)
        · have H := ite_T H hc
          refine R_aload_n (i := 0) (dX6_readOne_0 28 rfl) rfl rfl ?_
          refine R_dup rfl (dX6_readOne_0 29 rfl) ?_
          refine R_getI cgX6 12 (cl12 hS) 7 (Nat.le_of_ble_eq_true rfl) rfl (Or.inl tb_434) (dX6_readOne_0 30 rfl) ?_
          refine R_iconst (dX6_readOne_0 31 rfl) rfl ?_
          refine R_iadd (dX6_readOne_0 32 rfl) ?_
          refine R_putI cgX6 12 (cl12 hS) 7 (Nat.le_of_ble_eq_true rfl) rfl rfl rfl rfl (Or.inl tb_434) (dX6_readOne_0 33 rfl) ?_
          refine R_iload_n (i := 2) (dX6_readOne_0 34 rfl) rfl rfl ?_
          refine R_bipush (dX6_readOne_0 35 rfl) rfl rfl ?_
          refine R_icmp_ne (tgt := 89) (dX6_readOne_0 36 rfl) (by decide) (fun hc => ?_) (fun hc => ?_)
          · have H := ite_F H hc
            refine R_aload_n (i := 0) (dX6_readOne_0 51 rfl) rfl rfl ?_
            refine R_iload_n (i := 1) (dX6_readOne_0 52 rfl) rfl rfl ?_
            refine R_iconst (dX6_readOne_0 53 rfl) rfl ?_
            refine R_iadd (dX6_readOne_0 54 rfl) ?_
            obtain ⟨r110, M111, hr, H⟩ := ob_E H
            refine R_cV (st' := [.inl r110]) [.inl (w32 (x1 + 1))] [] (hO_ (w32 (x1 + 1)) _ _ _ hr) msX6_readOne (Or.inl tb_412) (Or.inl ⟨12, 6, _, _, _, (cl12 hS), rfl⟩) ⟨(by show dr + 1 ≤ dr + 1; omega), (by show 19 + 3 + 64 * (dr) ≤ 64 * (dr + 1); omega)⟩ (Nat.zero_le _) (Nat.zero_le _) rfl rfl (Nat.le_of_ble_eq_true rfl) rfl (dX6_readOne_0 55 rfl) ?_
            refine R_if_ne (tgt := 101) (dX6_readOne_0 56 rfl) (by decide) (fun hc => ?_) (fun hc => ?_)
            · have H := ite_F H hc
              refine R_aload_n (i := 0) (dX6_readOne_0 59 rfl) rfl rfl ?_
              refine R_sipush (dX6_readOne_1 0 rfl) rfl rfl ?_
              obtain ⟨r112, M113, hr, H⟩ := ob_E H
              refine R_cV (st' := []) [.inl 262] [] (t_X6_write l g ad S _ hS   262 hr) msX6_write (Or.inl tb_416) (Or.inl ⟨12, 6, _, _, _, (cl12 hS), rfl⟩) ⟨(by show 2 + 1 ≤ dr + 1; omega), (by show 19 + 2 + 64 * (2) ≤ 64 * (dr + 1); omega)⟩ (Nat.zero_le _) (Nat.zero_le _) rfl rfl (Nat.le_of_ble_eq_true rfl) rfl (dX6_readOne_1 1 rfl) ?_
              refine R_iconst (dX6_readOne_1 2 rfl) rfl ?_
              exact R_iret rfl (by decide +kernel) (Nat.zero_le _) (Nat.zero_le _) (dX6_readOne_1 3 rfl) ⟨congrArg (fun z => some (Sum.inl z)) (Prod.mk.inj (Option.some.inj H)).1, rfl, (Prod.mk.inj (Option.some.inj H)).2⟩
            · have H := ite_T H hc
              refine R_iconst (dX6_readOne_0 57 rfl) rfl ?_
              exact R_iret rfl (by decide +kernel) (Nat.zero_le _) (Nat.zero_le _) (dX6_readOne_0 58 rfl) ⟨congrArg (fun z => some (Sum.inl z)) (Prod.mk.inj (Option.some.inj H)).1, rfl, (Prod.mk.inj (Option.some.inj H)).2⟩
          · have H := ite_T H hc
            refine R_aload_n (i := 0) (dX6_readOne_0 37 rfl) rfl rfl ?_
            refine R_iload_n (i := 1) (dX6_readOne_0 38 rfl) rfl rfl ?_
            refine R_iconst (dX6_readOne_0 39 rfl) rfl ?_
            refine R_iadd (dX6_readOne_0 40 rfl) ?_
            obtain ⟨r114, M115, hr, H⟩ := ob_E H
            refine R_cV (st' := [.inl r114]) [.inl (w32 (x1 + 1))] [] (hE_ (w32 (x1 + 1)) _ _ _ hr) msX6_readEither (Or.inl tb_388) (Or.inl ⟨12, 6, _, _, _, (cl12 hS), rfl⟩) ⟨(by show dr + 1 ≤ dr + 1; omega), (by show 19 + 3 + 64 * (dr) ≤ 64 * (dr + 1); omega)⟩ (Nat.zero_le _) (Nat.zero_le _) rfl rfl (Nat.le_of_ble_eq_true rfl) rfl (dX6_readOne_0 41 rfl) ?_
            refine R_if_eq (tgt := 87) (dX6_readOne_0 42 rfl) (by decide) (fun hc => ?_) (fun hc => ?_)
            · have H := ite_T H hc
              refine R_iconst (dX6_readOne_0 49 rfl) rfl ?_
              exact R_iret rfl (by decide +kernel) (Nat.zero_le _) (Nat.zero_le _) (dX6_readOne_0 50 rfl) ⟨congrArg (fun z => some (Sum.inl z)) (Prod.mk.inj (Option.some.inj H)).1, rfl, (Prod.mk.inj (Option.some.inj H)).2⟩
            · have H := ite_F H hc
              refine R_aload_n (i := 0) (dX6_readOne_0 43 rfl) rfl rfl ?_
              refine R_bipush (dX6_readOne_0 44 rfl) rfl rfl ?_
              obtain ⟨r116, M117, hr, H⟩ := ob_E H
              refine R_cV (st' := [.inl r116]) [.inl 41] [] (t_X6_pass l g ad S _ hS   41 hr) msX6_pass (Or.inl tb_379) (Or.inl ⟨12, 6, _, _, _, (cl12 hS), rfl⟩) ⟨(by show 3 + 1 ≤ dr + 1; omega), (by show 19 + 2 + 64 * (3) ≤ 64 * (dr + 1); omega)⟩ (Nat.zero_le _) (Nat.zero_le _) rfl rfl (Nat.le_of_ble_eq_true rfl) rfl (dX6_readOne_0 45 rfl) ?_
              refine R_if_eq (tgt := 87) (dX6_readOne_0 46 rfl) (by decide) (fun hc => ?_) (fun hc => ?_)
              · have H := ite_T H hc
                refine R_iconst (dX6_readOne_0 49 rfl) rfl ?_
                exact R_iret rfl (by decide +kernel) (Nat.zero_le _) (Nat.zero_le _) (dX6_readOne_0 50 rfl) ⟨congrArg (fun z => some (Sum.inl z)) (Prod.mk.inj (Option.some.inj H)).1, rfl, (Prod.mk.inj (Option.some.inj H)).2⟩
              · have H := ite_F H hc
                refine R_iconst (dX6_readOne_0 47 rfl) rfl ?_
                refine R_goto (tgt := 88) (dX6_readOne_0 48 rfl) (by decide) ?_
                exact R_iret rfl (by decide +kernel) (Nat.zero_le _) (Nat.zero_le _) (dX6_readOne_0 50 rfl) ⟨congrArg (fun z => some (Sum.inl z)) (Prod.mk.inj (Option.some.inj H)).1, rfl, (Prod.mk.inj (Option.some.inj H)).2⟩
        · have H := ite_F H hc
          refine R_iconst (dX6_readOne_0 26 rfl) rfl ?_
          exact R_iret rfl (by decide +kernel) (Nat.zero_le _) (Nat.zero_le _) (dX6_readOne_0 27 rfl) ⟨congrArg (fun z => some (Sum.inl z)) (Prod.mk.inj (Option.some.inj H)).1, rfl, (Prod.mk.inj (Option.some.inj H)).2⟩
  · have H := ite_F H hc
    refine R_aload_n (i := 0) (dX6_readOne_0 6 rfl) rfl rfl ?_
    refine R_dup rfl (dX6_readOne_0 7 rfl) ?_
    refine R_getI cgX6 12 (cl12 hS) 7 (Nat.le_of_ble_eq_true rfl) rfl (Or.inl tb_434) (dX6_readOne_0 8 rfl) ?_
    refine R_iconst (dX6_readOne_0 9 rfl) rfl ?_
    refine R_iadd (dX6_readOne_0 10 rfl) ?_
    refine R_putI cgX6 12 (cl12 hS) 7 (Nat.le_of_ble_eq_true rfl) rfl rfl rfl rfl (Or.inl tb_434) (dX6_readOne_0 11 rfl) ?_
    refine R_aload_n (i := 0) (dX6_readOne_0 12 rfl) rfl rfl ?_
    refine R_iload_n (i := 2) (dX6_readOne_0 13 rfl) rfl rfl ?_
    obtain ⟨r118, M119, hr, H⟩ := ob_E H
    refine R_cV (st' := []) [.inl (f_X6_token M)] [] (t_X6_write l g ad S _ hS   (f_X6_token M) hr) msX6_write (Or.inl tb_416) (Or.inl ⟨12, 6, _, _, _, (cl12 hS), rfl⟩) ⟨(by show 2 + 1 ≤ dr + 1; omega), (by show 19 + 2 + 64 * (2) ≤ 64 * (dr + 1); omega)⟩ (Nat.zero_le _) (Nat.zero_le _) rfl rfl (Nat.le_of_ble_eq_true rfl) rfl (dX6_readOne_0 14 rfl) ?_
    refine R_iconst (dX6_readOne_0 15 rfl) rfl ?_
    exact R_iret rfl (by decide +kernel) (Nat.zero_le _) (Nat.zero_le _) (dX6_readOne_0 16 rfl) ⟨congrArg (fun z => some (Sum.inl z)) (Prod.mk.inj (Option.some.inj H)).1, rfl, (Prod.mk.inj (Option.some.inj H)).2⟩
def fz_rd : Nat → (Int → Mem → Option (Int × Mem)) × (Int → Mem → Option (Int × Mem)) × (Int → Mem → Option (Int × Mem))
  | 0 => (fun _ _ => none, fun _ _ => none, fun _ _ => none)
  | n + 1 => (f_X6_readEither (fz_rd n).1 (fz_rd n).2.1 (fz_rd n).2.2, f_X6_readNot (fz_rd n).1 (fz_rd n).2.1 (fz_rd n).2.2, f_X6_readOne (fz_rd n).1 (fz_rd n).2.1 (fz_rd n).2.2)
theorem tz_rd (l : Launch) (g : GG) (ad : Nat → Nat) (S : SW) (hS : q_ag 12 21 ad S) : ∀ n : Nat, (∀ (b : Int) (M : Mem) (r : Int) (M2 : Mem), (fz_rd n).1 b M = some (r, M2) → CT l g MX6_readEither (20 + 4 * n) 0 0 S M [.inr (.inr (some (ad 12))), .inl b] (q_ex S (some (.inl r)) M2)) ∧ (∀ (b : Int) (M : Mem) (r : Int) (M2 : Mem), (fz_rd n).2.1 b M = some (r, M2) → CT l g MX6_readNot (20 + 4 * n) 0 0 S M [.inr (.inr (some (ad 12))), .inl b] (q_ex S (some (.inl r)) M2)) ∧ (∀ (b : Int) (M : Mem) (r : Int) (M2 : Mem), (fz_rd n).2.2 b M = some (r, M2) → CT l g MX6_readOne (20 + 4 * n) 0 0 S M [.inr (.inr (some (ad 12))), .inl b] (q_ex S (some (.inl r)) M2)) := by
  intro n
  induction n with
  | zero => exact ⟨fun b M r M2 H => (by cases H), fun b M r M2 H => (by cases H), fun b M r M2 H => (by cases H)⟩
  | succ n ih =>
    obtain ⟨h1, h2, h3⟩ := ih
    exact ⟨fun b M r M2 H => CT_mono (t_X6_readEither l g ad S M hS (20 + 4 * n) (by omega) h1 h2 h3 b H) (by omega), fun b M r M2 H => CT_mono (t_X6_readNot l g ad S M hS (20 + 4 * n) (by omega) h1 h2 h3 b H) (by omega), fun b M r M2 H => CT_mono (t_X6_readOne l g ad S M hS (20 + 4 * n) (by omega) h1 h2 h3 b H) (by omega)⟩
def f_X6_readPart (x1 : Int) (x2 : Int) (M : Mem) : Option (Int × Mem) :=
  ob (f_X6_pass x1 M) fun r120 M121 =>
  if r120 = 0 then
    some (0, M121)
  else
    ob ((fz_rd 24).1 0 M121) fun r122 M123 =>
    if r122 = 0 then
      some (0, M123)
    else
      ob (f_X6_pass 59 M123) fun r124 M125 =>
      if r124 = 0 then
        some (0, M125)
      else
        some (1, (wr M125 18 18 (w32 ((w32 ((M125 12 5) * 3)) + x2)) (M125 12 6)))
set_option maxHeartbeats 4000000 in
theorem t_X6_readPart (l : Launch) (g : GG) (ad : Nat → Nat) (S : SW) (M : Mem) (hS : q_ag 12 21 ad S) (x1 : Int) (x2 : Int) {r : Int} {M' : Mem} (H : f_X6_readPart x1 x2 M = some (r, M')) : CT l g MX6_readPart 117 0 0 S M [.inr (.inr (some (ad 12))), .inl x1, .inl x2] (q_ex S (some (.inl r)) M') := by
  unfold f_X6_readPart at H
  refine CT_of (ls0 := [some (.inr (.inr (some (ad 12)))), some (.inl x1), some (.inl x2)]) (by decide +kernel) (Nat.le_of_ble_eq_true rfl) rfl ?_
  refine R_aload_n (i := 0) (dX6_readPart 0 rfl) rfl rfl ?_
  refine R_iload_n (i := 1) (dX6_readPart 1 rfl) rfl rfl ?_
  obtain ⟨r120, M121, hr, H⟩ := ob_E H
  refine R_cV (st' := [.inl r120]) [.inl x1] [] (t_X6_pass l g ad S _ hS   x1 hr) msX6_pass (Or.inl tb_379) (Or.inl ⟨12, 6, _, _, _, (cl12 hS), rfl⟩) ⟨Nat.le_of_ble_eq_true rfl, Nat.le_of_ble_eq_true rfl⟩ (Nat.zero_le _) (Nat.zero_le _) rfl rfl (Nat.le_of_ble_eq_true rfl) rfl (dX6_readPart 2 rfl) ?_
  refine R_if_eq (tgt := 25) (dX6_readPart 3 rfl) (by decide) (fun hc => ?_) (fun hc => ?_)
  · have H := ite_T H hc
    refine R_iconst (dX6_readPart 12 rfl) rfl ?_
    exact R_iret rfl (by decide +kernel) (Nat.zero_le _) (Nat.zero_le _) (dX6_readPart 13 rfl) ⟨congrArg (fun z => some (Sum.inl z)) (Prod.mk.inj (Option.some.inj H)).1, rfl, (Prod.mk.inj (Option.some.inj H)).2⟩
  · have H := ite_F H hc
    refine R_aload_n (i := 0) (dX6_readPart 4 rfl) rfl rfl ?_
    refine R_iconst (dX6_readPart 5 rfl) rfl ?_
    obtain ⟨r122, M123, hr, H⟩ := ob_E H
    refine R_cV (st' := [.inl r122]) [.inl 0] [] ((tz_rd l g ad S hS 24).1 0 _ _ _ hr) msX6_readEither (Or.inl tb_388) (Or.inl ⟨12, 6, _, _, _, (cl12 hS), rfl⟩) ⟨Nat.le_of_ble_eq_true rfl, Nat.le_of_ble_eq_true rfl⟩ (Nat.zero_le _) (Nat.zero_le _) rfl rfl (Nat.le_of_ble_eq_true rfl) rfl (dX6_readPart 6 rfl) ?_
    refine R_if_eq (tgt := 25) (dX6_readPart 7 rfl) (by decide) (fun hc => ?_) (fun hc => ?_)
    · have H := ite_T H hc
      refine R_iconst (dX6_readPart 12 rfl) rfl ?_
      exact R_iret rfl (by decide +kernel) (Nat.zero_le _) (Nat.zero_le _) (dX6_readPart 13 rfl) ⟨congrArg (fun z => some (Sum.inl z)) (Prod.mk.inj (Option.some.inj H)).1, rfl, (Prod.mk.inj (Option.some.inj H)).2⟩
    · have H := ite_F H hc
      refine R_aload_n (i := 0) (dX6_readPart 8 rfl) rfl rfl ?_
      refine R_bipush (dX6_readPart 9 rfl) rfl rfl ?_
      obtain ⟨r124, M125, hr, H⟩ := ob_E H
      refine R_cV (st' := [.inl r124]) [.inl 59] [] (t_X6_pass l g ad S _ hS   59 hr) msX6_pass (Or.inl tb_379) (Or.inl ⟨12, 6, _, _, _, (cl12 hS), rfl⟩) ⟨Nat.le_of_ble_eq_true rfl, Nat.le_of_ble_eq_true rfl⟩ (Nat.zero_le _) (Nat.zero_le _) rfl rfl (Nat.le_of_ble_eq_true rfl) rfl (dX6_readPart 10 rfl) ?_
      refine R_if_ne (tgt := 27) (dX6_readPart 11 rfl) (by decide) (fun hc => ?_) (fun hc => ?_)
      · have H := ite_F H hc
        refine R_aload_n (i := 0) (dX6_readPart 14 rfl) rfl rfl ?_
        refine R_getR cgX6 12 (cl12 hS) 2 (Nat.le_of_ble_eq_true rfl) rfl (Or.inl tb_428) (dX6_readPart 15 rfl) ?_
        refine R_aload_n (i := 0) (dX6_readPart 16 rfl) rfl rfl ?_
        refine R_getI cgX6 12 (cl12 hS) 5 (Nat.le_of_ble_eq_true rfl) rfl (Or.inl tb_431) (dX6_readPart 17 rfl) ?_
        refine R_iconst (dX6_readPart 18 rfl) rfl ?_
        refine R_imul (dX6_readPart 19 rfl) ?_
        refine R_iload_n (i := 2) (dX6_readPart 20 rfl) rfl rfl ?_
        refine R_iadd (dX6_readPart 21 rfl) ?_
        refine R_aload_n (i := 0) (dX6_readPart 22 rfl) rfl rfl ?_
        refine R_getI cgX6 12 (cl12 hS) 6 (Nat.le_of_ble_eq_true rfl) rfl (Or.inl tb_433) (dX6_readPart 23 rfl) ?_
        refine R_cS (st' := []) [.inr (.inr (some (ad 18))), .inl (w32 ((w32 ((M125 12 5) * 3)) + x2)), .inl (M125 12 6)] [] (t_put l g S _ 18 (cl18 hS) (Nat.le_of_ble_eq_true rfl) (w32 ((w32 ((M125 12 5) * 3)) + x2)) (M125 12 6)) msX9_put (Or.inr ⟨_, tb_420⟩) ⟨Nat.le_of_ble_eq_true rfl, Nat.le_of_ble_eq_true rfl⟩ (Nat.zero_le _) (Nat.zero_le _) rfl rfl (Nat.le_of_ble_eq_true rfl) rfl (dX6_readPart 24 rfl) ?_
        refine R_iconst (dX6_readPart 25 rfl) rfl ?_
        exact R_iret rfl (by decide +kernel) (Nat.zero_le _) (Nat.zero_le _) (dX6_readPart 26 rfl) ⟨congrArg (fun z => some (Sum.inl z)) (Prod.mk.inj (Option.some.inj H)).1, rfl, (Prod.mk.inj (Option.some.inj H)).2⟩
      · have H := ite_T H hc
        refine R_iconst (dX6_readPart 12 rfl) rfl ?_
        exact R_iret rfl (by decide +kernel) (Nat.zero_le _) (Nat.zero_le _) (dX6_readPart 13 rfl) ⟨congrArg (fun z => some (Sum.inl z)) (Prod.mk.inj (Option.some.inj H)).1, rfl, (Prod.mk.inj (Option.some.inj H)).2⟩
def f_X6_read (M : Mem) : Option (Int × Mem) :=
  ob (f_X5_cut (mset (mset M 12 6 0) 12 7 0)) fun r126 M127 =>
  ob (f_X6_readPart 256 0 M127) fun r128 M129 =>
  if r128 = 0 then
    ob (f_X5_empty M129) fun r130 M131 =>
    some (rd 161 (M131 16) (M131 12 7), M131)
  else
    ob (f_X6_readPart 257 1 M129) fun r132 M133 =>
    if r132 = 0 then
      ob (f_X5_empty M133) fun r134 M135 =>
      some (rd 161 (M135 16) (M135 12 7), M135)
    else
      ob (f_X6_readPart 258 2 M133) fun r136 M137 =>
      if r136 = 0 then
        ob (f_X5_empty M137) fun r138 M139 =>
        some (rd 161 (M139 16) (M139 12 7), M139)
      else
        if f_X6_token M137 = 0 then
          ob (f_X5_empty M137) fun r142 M143 =>
          some ((-1), (mset M143 12 5 (w32 ((M143 12 5) + 1))))
        else
          ob (f_X5_empty M137) fun r140 M141 =>
          some (rd 161 (M141 16) (M141 12 7), M141)
set_option maxHeartbeats 4000000 in
theorem t_X6_read (l : Launch) (g : GG) (ad : Nat → Nat) (S : SW) (M : Mem) (hS : q_ag 12 21 ad S) {r : Int} {M' : Mem} (H : f_X6_read M = some (r, M')) : CT l g MX6_read 118 0 0 S M [.inr (.inr (some (ad 12)))] (q_ex S (some (.inl r)) M') := by
  unfold f_X6_read at H
  refine CT_of (ls0 := [some (.inr (.inr (some (ad 12)))), none]) (by decide +kernel) (Nat.le_of_ble_eq_true rfl) rfl ?_
  refine R_aload_n (i := 0) (dX6_read 0 rfl) rfl rfl ?_
  refine R_iconst (dX6_read 1 rfl) rfl ?_
  refine R_putI cgX6 12 (cl12 hS) 6 (Nat.le_of_ble_eq_true rfl) rfl rfl rfl rfl (Or.inl tb_433) (dX6_read 2 rfl) ?_
  refine R_aload_n (i := 0) (dX6_read 3 rfl) rfl rfl ?_
  refine R_iconst (dX6_read 4 rfl) rfl ?_
  refine R_putI cgX6 12 (cl12 hS) 7 (Nat.le_of_ble_eq_true rfl) rfl rfl rfl rfl (Or.inl tb_434) (dX6_read 5 rfl) ?_
  refine R_aload_n (i := 0) (dX6_read 6 rfl) rfl rfl ?_
  refine R_getR cgX6 12 (cl12 hS) 0 (Nat.le_of_ble_eq_true rfl) rfl (Or.inl tb_425) (dX6_read 7 rfl) ?_
  obtain ⟨r126, M127, hr, H⟩ := ob_E H
  refine R_cV (st' := []) [] [] (t_X5_cut l g ad S _ hS   hr) msX5_cut (Or.inl tb_266) (Or.inl ⟨13, 5, _, _, _, (cl13 hS), rfl⟩) ⟨Nat.le_of_ble_eq_true rfl, Nat.le_of_ble_eq_true rfl⟩ (Nat.zero_le _) (Nat.zero_le _) rfl rfl (Nat.le_of_ble_eq_true rfl) rfl (dX6_read 8 rfl) ?_
  refine R_aload_n (i := 0) (dX6_read 9 rfl) rfl rfl ?_
  refine R_sipush (dX6_read 10 rfl) rfl rfl ?_
  refine R_iconst (dX6_read 11 rfl) rfl ?_
  obtain ⟨r128, M129, hr, H⟩ := ob_E H
  refine R_cV (st' := [.inl r128]) [.inl 256, .inl 0] [] (t_X6_readPart l g ad S _ hS   256 0 hr) msX6_readPart (Or.inl tb_375) (Or.inl ⟨12, 6, _, _, _, (cl12 hS), rfl⟩) ⟨Nat.le_of_ble_eq_true rfl, Nat.le_of_ble_eq_true rfl⟩ (Nat.zero_le _) (Nat.zero_le _) rfl rfl (Nat.le_of_ble_eq_true rfl) rfl (dX6_read 12 rfl) ?_
  refine R_if_eq (tgt := 61) (dX6_read 13 rfl) (by decide) (fun hc => ?_) (fun hc => ?_)
  · have H := ite_T H hc
    refine R_iconst (dX6_read 29 rfl) rfl ?_
    refine R_istore_n (i := 1) (ls' := [some (.inr (.inr (some (ad 12)))), some (.inl 0)]) (dX6_read 30 rfl) rfl (Nat.le_of_ble_eq_true rfl) (Nat.le_of_ble_eq_true rfl) rfl rfl ?_
    refine R_aload_n (i := 0) (dX6_read 31 rfl) rfl rfl ?_
    refine R_getR cgX6 12 (cl12 hS) 0 (Nat.le_of_ble_eq_true rfl) rfl (Or.inl tb_425) (dX6_read 32 rfl) ?_
    obtain ⟨r130, M131, hr, H⟩ := ob_E H
    refine R_cV (st' := []) [] [] (t_X5_empty l g ad S _ hS   hr) msX5_empty (Or.inl tb_421) (Or.inl ⟨13, 5, _, _, _, (cl13 hS), rfl⟩) ⟨Nat.le_of_ble_eq_true rfl, Nat.le_of_ble_eq_true rfl⟩ (Nat.zero_le _) (Nat.zero_le _) rfl rfl (Nat.le_of_ble_eq_true rfl) rfl (dX6_read 33 rfl) ?_
    refine R_iload_n (i := 1) (dX6_read 34 rfl) rfl rfl ?_
    refine R_if_ne (tgt := 89) (dX6_read 35 rfl) (by decide) (fun hc => absurd hc (by decide)) (fun _ => ?_)
    refine R_aload_n (i := 0) (dX6_read 36 rfl) rfl rfl ?_
    refine R_getR cgX6 12 (cl12 hS) 0 (Nat.le_of_ble_eq_true rfl) rfl (Or.inl tb_425) (dX6_read 37 rfl) ?_
    refine R_getR cgX5 13 (cl13 hS) 2 (Nat.le_of_ble_eq_true rfl) rfl (Or.inr ⟨_, tb_196⟩) (dX6_read 38 rfl) ?_
    refine R_aload_n (i := 0) (dX6_read 39 rfl) rfl rfl ?_
    refine R_getI cgX6 12 (cl12 hS) 7 (Nat.le_of_ble_eq_true rfl) rfl (Or.inl tb_434) (dX6_read 40 rfl) ?_
    refine R_cS (st' := [.inl (rd 161 (M131 16) (M131 12 7))]) [.inr (.inr (some (ad 16))), .inl (M131 12 7)] [] (t_at l g S _ 16 (cl16 hS) (Nat.le_of_ble_eq_true rfl) (M131 12 7)) msX9_at (Or.inr ⟨_, tb_387⟩) ⟨Nat.le_of_ble_eq_true rfl, Nat.le_of_ble_eq_true rfl⟩ (Nat.zero_le _) (Nat.zero_le _) rfl rfl (Nat.le_of_ble_eq_true rfl) rfl (dX6_read 41 rfl) ?_
    exact R_iret rfl rfl (Nat.zero_le _) (Nat.zero_le _) (dX6_read 42 rfl) ⟨congrArg (fun z => some (Sum.inl z)) (Prod.mk.inj (Option.some.inj H)).1, rfl, (Prod.mk.inj (Option.some.inj H)).2⟩
  · have H := ite_F H hc
    refine R_aload_n (i := 0) (dX6_read 14 rfl) rfl rfl ?_
    refine R_sipush (dX6_read 15 rfl) rfl rfl ?_
    refine R_iconst (dX6_read 16 rfl) rfl ?_
    obtain ⟨r132, M133, hr, H⟩ := ob_E H
    refine R_cV (st' := [.inl r132]) [.inl 257, .inl 1] [] (t_X6_readPart l g ad S _ hS   257 1 hr) msX6_readPart (Or.inl tb_375) (Or.inl ⟨12, 6, _, _, _, (cl12 hS), rfl⟩) ⟨Nat.le_of_ble_eq_true rfl, Nat.le_of_ble_eq_true rfl⟩ (Nat.zero_le _) (Nat.zero_le _) rfl rfl (Nat.le_of_ble_eq_true rfl) rfl (dX6_read 17 rfl) ?_
    refine R_if_eq (tgt := 61) (dX6_read 18 rfl) (by decide) (fun hc => ?_) (fun hc => ?_)
    · have H := ite_T H hc
      refine R_iconst (dX6_read 29 rfl) rfl ?_
      refine R_istore_n (i := 1) (ls' := [some (.inr (.inr (some (ad 12)))), some (.inl 0)]) (dX6_read 30 rfl) rfl (Nat.le_of_ble_eq_true rfl) (Nat.le_of_ble_eq_true rfl) rfl rfl ?_
      refine R_aload_n (i := 0) (dX6_read 31 rfl) rfl rfl ?_
      refine R_getR cgX6 12 (cl12 hS) 0 (Nat.le_of_ble_eq_true rfl) rfl (Or.inl tb_425) (dX6_read 32 rfl) ?_
      obtain ⟨r134, M135, hr, H⟩ := ob_E H
      refine R_cV (st' := []) [] [] (t_X5_empty l g ad S _ hS   hr) msX5_empty (Or.inl tb_421) (Or.inl ⟨13, 5, _, _, _, (cl13 hS), rfl⟩) ⟨Nat.le_of_ble_eq_true rfl, Nat.le_of_ble_eq_true rfl⟩ (Nat.zero_le _) (Nat.zero_le _) rfl rfl (Nat.le_of_ble_eq_true rfl) rfl (dX6_read 33 rfl) ?_
      refine R_iload_n (i := 1) (dX6_read 34 rfl) rfl rfl ?_
      refine R_if_ne (tgt := 89) (dX6_read 35 rfl) (by decide) (fun hc => absurd hc (by decide)) (fun _ => ?_)
      refine R_aload_n (i := 0) (dX6_read 36 rfl) rfl rfl ?_
      refine R_getR cgX6 12 (cl12 hS) 0 (Nat.le_of_ble_eq_true rfl) rfl (Or.inl tb_425) (dX6_read 37 rfl) ?_
      refine R_getR cgX5 13 (cl13 hS) 2 (Nat.le_of_ble_eq_true rfl) rfl (Or.inr ⟨_, tb_196⟩) (dX6_read 38 rfl) ?_
      refine R_aload_n (i := 0) (dX6_read 39 rfl) rfl rfl ?_
      refine R_getI cgX6 12 (cl12 hS) 7 (Nat.le_of_ble_eq_true rfl) rfl (Or.inl tb_434) (dX6_read 40 rfl) ?_
      refine R_cS (st' := [.inl (rd 161 (M135 16) (M135 12 7))]) [.inr (.inr (some (ad 16))), .inl (M135 12 7)] [] (t_at l g S _ 16 (cl16 hS) (Nat.le_of_ble_eq_true rfl) (M135 12 7)) msX9_at (Or.inr ⟨_, tb_387⟩) ⟨Nat.le_of_ble_eq_true rfl, Nat.le_of_ble_eq_true rfl⟩ (Nat.zero_le _) (Nat.zero_le _) rfl rfl (Nat.le_of_ble_eq_true rfl) rfl (dX6_read 41 rfl) ?_
      exact R_iret rfl rfl (Nat.zero_le _) (Nat.zero_le _) (dX6_read 42 rfl) ⟨congrArg (fun z => some (Sum.inl z)) (Prod.mk.inj (Option.some.inj H)).1, rfl, (Prod.mk.inj (Option.some.inj H)).2⟩
    · have H := ite_F H hc
      refine R_aload_n (i := 0) (dX6_read 19 rfl) rfl rfl ?_
      refine R_sipush (dX6_read 20 rfl) rfl rfl ?_
      refine R_iconst (dX6_read 21 rfl) rfl ?_
      obtain ⟨r136, M137, hr, H⟩ := ob_E H
      refine R_cV (st' := [.inl r136]) [.inl 258, .inl 2] [] (t_X6_readPart l g ad S _ hS   258 2 hr) msX6_readPart (Or.inl tb_375) (Or.inl ⟨12, 6, _, _, _, (cl12 hS), rfl⟩) ⟨Nat.le_of_ble_eq_true rfl, Nat.le_of_ble_eq_true rfl⟩ (Nat.zero_le _) (Nat.zero_le _) rfl rfl (Nat.le_of_ble_eq_true rfl) rfl (dX6_read 22 rfl) ?_
      refine R_if_eq (tgt := 61) (dX6_read 23 rfl) (by decide) (fun hc => ?_) (fun hc => ?_)
      · have H := ite_T H hc
        refine R_iconst (dX6_read 29 rfl) rfl ?_
        refine R_istore_n (i := 1) (ls' := [some (.inr (.inr (some (ad 12)))), some (.inl 0)]) (dX6_read 30 rfl) rfl (Nat.le_of_ble_eq_true rfl) (Nat.le_of_ble_eq_true rfl) rfl rfl ?_
        refine R_aload_n (i := 0) (dX6_read 31 rfl) rfl rfl ?_
        refine R_getR cgX6 12 (cl12 hS) 0 (Nat.le_of_ble_eq_true rfl) rfl (Or.inl tb_425) (dX6_read 32 rfl) ?_
        obtain ⟨r138, M139, hr, H⟩ := ob_E H
        refine R_cV (st' := []) [] [] (t_X5_empty l g ad S _ hS   hr) msX5_empty (Or.inl tb_421) (Or.inl ⟨13, 5, _, _, _, (cl13 hS), rfl⟩) ⟨Nat.le_of_ble_eq_true rfl, Nat.le_of_ble_eq_true rfl⟩ (Nat.zero_le _) (Nat.zero_le _) rfl rfl (Nat.le_of_ble_eq_true rfl) rfl (dX6_read 33 rfl) ?_
        refine R_iload_n (i := 1) (dX6_read 34 rfl) rfl rfl ?_
        refine R_if_ne (tgt := 89) (dX6_read 35 rfl) (by decide) (fun hc => absurd hc (by decide)) (fun _ => ?_)
        refine R_aload_n (i := 0) (dX6_read 36 rfl) rfl rfl ?_
        refine R_getR cgX6 12 (cl12 hS) 0 (Nat.le_of_ble_eq_true rfl) rfl (Or.inl tb_425) (dX6_read 37 rfl) ?_
        refine R_getR cgX5 13 (cl13 hS) 2 (Nat.le_of_ble_eq_true rfl) rfl (Or.inr ⟨_, tb_196⟩) (dX6_read 38 rfl) ?_
        refine R_aload_n (i := 0) (dX6_read 39 rfl) rfl rfl ?_
        refine R_getI cgX6 12 (cl12 hS) 7 (Nat.le_of_ble_eq_true rfl) rfl (Or.inl tb_434) (dX6_read 40 rfl) ?_
        refine R_cS (st' := [.inl (rd 161 (M139 16) (M139 12 7))]) [.inr (.inr (some (ad 16))), .inl (M139 12 7)] [] (t_at l g S _ 16 (cl16 hS) (Nat.le_of_ble_eq_true rfl) (M139 12 7)) msX9_at (Or.inr ⟨_, tb_387⟩) ⟨Nat.le_of_ble_eq_true rfl, Nat.le_of_ble_eq_true rfl⟩ (Nat.zero_le _) (Nat.zero_le _) rfl rfl (Nat.le_of_ble_eq_true rfl) rfl (dX6_read 41 rfl) ?_
        exact R_iret rfl rfl (Nat.zero_le _) (Nat.zero_le _) (dX6_read 42 rfl) ⟨congrArg (fun z => some (Sum.inl z)) (Prod.mk.inj (Option.some.inj H)).1, rfl, (Prod.mk.inj (Option.some.inj H)).2⟩
      · have H := ite_F H hc
        refine R_aload_n (i := 0) (dX6_read 24 rfl) rfl rfl ?_
        refine R_cV (st' := [.inl (f_X6_token M137)]) [] [] (t_X6_token l g ad S _ hS  ) msX6_token (Or.inl tb_383) (Or.inl ⟨12, 6, _, _, _, (cl12 hS), rfl⟩) ⟨Nat.le_of_ble_eq_true rfl, Nat.le_of_ble_eq_true rfl⟩ (Nat.zero_le _) (Nat.zero_le _) rfl rfl (Nat.le_of_ble_eq_true rfl) rfl (dX6_read 25 rfl) ?_
        refine R_if_ne (tgt := 61) (dX6_read 26 rfl) (by decide) (fun hc => ?_) (fun hc => ?_)
        · have H := ite_F H hc
          refine R_iconst (dX6_read 29 rfl) rfl ?_
          refine R_istore_n (i := 1) (ls' := [some (.inr (.inr (some (ad 12)))), some (.inl 0)]) (dX6_read 30 rfl) rfl (Nat.le_of_ble_eq_true rfl) (Nat.le_of_ble_eq_true rfl) rfl rfl ?_
          refine R_aload_n (i := 0) (dX6_read 31 rfl) rfl rfl ?_
          refine R_getR cgX6 12 (cl12 hS) 0 (Nat.le_of_ble_eq_true rfl) rfl (Or.inl tb_425) (dX6_read 32 rfl) ?_
          obtain ⟨r140, M141, hr, H⟩ := ob_E H
          refine R_cV (st' := []) [] [] (t_X5_empty l g ad S _ hS   hr) msX5_empty (Or.inl tb_421) (Or.inl ⟨13, 5, _, _, _, (cl13 hS), rfl⟩) ⟨Nat.le_of_ble_eq_true rfl, Nat.le_of_ble_eq_true rfl⟩ (Nat.zero_le _) (Nat.zero_le _) rfl rfl (Nat.le_of_ble_eq_true rfl) rfl (dX6_read 33 rfl) ?_
          refine R_iload_n (i := 1) (dX6_read 34 rfl) rfl rfl ?_
          refine R_if_ne (tgt := 89) (dX6_read 35 rfl) (by decide) (fun hc => absurd hc (by decide)) (fun _ => ?_)
          refine R_aload_n (i := 0) (dX6_read 36 rfl) rfl rfl ?_
          refine R_getR cgX6 12 (cl12 hS) 0 (Nat.le_of_ble_eq_true rfl) rfl (Or.inl tb_425) (dX6_read 37 rfl) ?_
          refine R_getR cgX5 13 (cl13 hS) 2 (Nat.le_of_ble_eq_true rfl) rfl (Or.inr ⟨_, tb_196⟩) (dX6_read 38 rfl) ?_
          refine R_aload_n (i := 0) (dX6_read 39 rfl) rfl rfl ?_
          refine R_getI cgX6 12 (cl12 hS) 7 (Nat.le_of_ble_eq_true rfl) rfl (Or.inl tb_434) (dX6_read 40 rfl) ?_
          refine R_cS (st' := [.inl (rd 161 (M141 16) (M141 12 7))]) [.inr (.inr (some (ad 16))), .inl (M141 12 7)] [] (t_at l g S _ 16 (cl16 hS) (Nat.le_of_ble_eq_true rfl) (M141 12 7)) msX9_at (Or.inr ⟨_, tb_387⟩) ⟨Nat.le_of_ble_eq_true rfl, Nat.le_of_ble_eq_true rfl⟩ (Nat.zero_le _) (Nat.zero_le _) rfl rfl (Nat.le_of_ble_eq_true rfl) rfl (dX6_read 41 rfl) ?_
          exact R_iret rfl rfl (Nat.zero_le _) (Nat.zero_le _) (dX6_read 42 rfl) ⟨congrArg (fun z => some (Sum.inl z)) (Prod.mk.inj (Option.some.inj H)).1, rfl, (Prod.mk.inj (Option.some.inj H)).2⟩
        · have H := ite_T H hc
          refine R_iconst (dX6_read 27 rfl) rfl ?_
          refine R_goto (tgt := 62) (dX6_read 28 rfl) (by decide) ?_
          refine R_istore_n (i := 1) (ls' := [some (.inr (.inr (some (ad 12)))), some (.inl 1)]) (dX6_read 30 rfl) rfl (Nat.le_of_ble_eq_true rfl) (Nat.le_of_ble_eq_true rfl) rfl rfl ?_
          refine R_aload_n (i := 0) (dX6_read 31 rfl) rfl rfl ?_
          refine R_getR cgX6 12 (cl12 hS) 0 (Nat.le_of_ble_eq_true rfl) rfl (Or.inl tb_425) (dX6_read 32 rfl) ?_
          obtain ⟨r142, M143, hr, H⟩ := ob_E H
          refine R_cV (st' := []) [] [] (t_X5_empty l g ad S _ hS   hr) msX5_empty (Or.inl tb_421) (Or.inl ⟨13, 5, _, _, _, (cl13 hS), rfl⟩) ⟨Nat.le_of_ble_eq_true rfl, Nat.le_of_ble_eq_true rfl⟩ (Nat.zero_le _) (Nat.zero_le _) rfl rfl (Nat.le_of_ble_eq_true rfl) rfl (dX6_read 33 rfl) ?_
          refine R_iload_n (i := 1) (dX6_read 34 rfl) rfl rfl ?_
          refine R_if_ne (tgt := 89) (dX6_read 35 rfl) (by decide) (fun _ => ?_) (fun hc => absurd hc (by decide))
          refine R_aload_n (i := 0) (dX6_read 43 rfl) rfl rfl ?_
          refine R_dup rfl (dX6_read 44 rfl) ?_
          refine R_getI cgX6 12 (cl12 hS) 5 (Nat.le_of_ble_eq_true rfl) rfl (Or.inl tb_431) (dX6_read 45 rfl) ?_
          refine R_iconst (dX6_read 46 rfl) rfl ?_
          refine R_iadd (dX6_read 47 rfl) ?_
          refine R_putI cgX6 12 (cl12 hS) 5 (Nat.le_of_ble_eq_true rfl) rfl rfl rfl rfl (Or.inl tb_431) (dX6_read 48 rfl) ?_
          refine R_iconst (dX6_read 49 rfl) rfl ?_
          exact R_iret rfl rfl (Nat.zero_le _) (Nat.zero_le _) (dX6_read 50 rfl) ⟨congrArg (fun z => some (Sum.inl z)) (Prod.mk.inj (Option.some.inj H)).1, rfl, (Prod.mk.inj (Option.some.inj H)).2⟩
