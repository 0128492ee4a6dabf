def f_X10_means (x1 : Int) (x2 : Int) (M : Mem) : Option (Int × Mem) :=
  if f_X10_isSign x1 = 0 then
    some ((-5), M)
  else
    if f_X10_isSign x2 = 0 then
      some ((-5), M)
    else
      ob (f_X10_finds M) fun r417 M418 =>
      (f_X10_meansIn x1 x2 M418).bind fun r419 =>
      some (r419, M418)
set_option maxHeartbeats 4000000 in
theorem t_X10_means (l : Launch) (g : GG) (ad : Nat → Nat) (S : SW) (M : Mem) (hS : q_ag 38 63 ad S) (x1 : Int) (x2 : Int) {r : Int} {M' : Mem} (H : f_X10_means x1 x2 M = some (r, M')) : CT l g MX10_means 6 0 0 S M [.inr (.inr (some (ad 38))), .inl x1, .inl x2] (q_ex S (some (.inl r)) M') := by
  unfold f_X10_means at H
  refine CT_of (ls0 := [some (.inr (.inr (some (ad 38)))), some (.inl x1), some (.inl x2)]) (by decide +kernel) (Nat.le_of_ble_eq_true rfl) rfl ?_
  refine R_iload_n (i := 1) (dX10_means 0 rfl) rfl rfl ?_
  refine R_cS (st' := [.inl (f_X10_isSign x1)]) [.inl x1] [] (t_X10_isSign l g ad S _ hS   x1) msX10_isSign (Or.inl tb_1386) ⟨Nat.le_of_ble_eq_true rfl, Nat.le_of_ble_eq_true rfl⟩ (Nat.zero_le _) (Nat.zero_le _) rfl rfl (Nat.le_of_ble_eq_true rfl) rfl (dX10_means 1 rfl) ?_
  refine R_if_eq (tgt := 14) (dX10_means 2 rfl) (by decide) (fun hc => ?_) (fun hc => ?_)
  · have H := ite_T H hc
    refine R_bipush (dX10_means 6 rfl) rfl rfl ?_
    exact R_iret rfl rfl (Nat.zero_le _) (Nat.zero_le _) (dX10_means 7 rfl) ⟨congrArg (fun z => some (Sum.inl z)) (Prod.mk.inj (Option.some.inj H)).1, rfl, (Prod.mk.inj (Option.some.inj H)).2⟩
  · have H := ite_F H hc
    refine R_iload_n (i := 2) (dX10_means 3 rfl) rfl rfl ?_
    refine R_cS (st' := [.inl (f_X10_isSign x2)]) [.inl x2] [] (t_X10_isSign l g ad S _ hS   x2) msX10_isSign (Or.inl tb_1386) ⟨Nat.le_of_ble_eq_true rfl, Nat.le_of_ble_eq_true rfl⟩ (Nat.zero_le _) (Nat.zero_le _) rfl rfl (Nat.le_of_ble_eq_true rfl) rfl (dX10_means 4 rfl) ?_
    refine R_if_ne (tgt := 17) (dX10_means 5 rfl) (by decide) (fun hc => ?_) (fun hc => ?_)
    · have H := ite_F H hc
      refine R_aload_n (i := 0) (dX10_means 8 rfl) rfl rfl ?_
      obtain ⟨r417, M418, hr, H⟩ := ob_E H
      refine R_cV (st' := []) [] [] (t_X10_finds l g ad S _ hS   hr) msX10_finds (Or.inl tb_1362) (Or.inl ⟨38, 10, _, _, _, (cl38 hS), rfl⟩) ⟨Nat.le_of_ble_eq_true rfl, Nat.le_of_ble_eq_true rfl⟩ (Nat.zero_le _) (Nat.zero_le _) rfl rfl (Nat.le_of_ble_eq_true rfl) rfl (dX10_means 9 rfl) ?_
      refine R_aload_n (i := 0) (dX10_means 10 rfl) rfl rfl ?_
      refine R_iload_n (i := 1) (dX10_means 11 rfl) rfl rfl ?_
      refine R_iload_n (i := 2) (dX10_means 12 rfl) rfl rfl ?_
      obtain ⟨r419, hr, H⟩ := op_E H
      refine R_cV (st' := [.inl r419]) [.inl x1, .inl x2] [] (t_X10_meansIn l g ad S _ hS   x1 x2 hr) msX10_meansIn (Or.inl tb_1397) (Or.inl ⟨38, 10, _, _, _, (cl38 hS), rfl⟩) ⟨Nat.le_of_ble_eq_true rfl, Nat.le_of_ble_eq_true rfl⟩ (Nat.zero_le _) (Nat.zero_le _) rfl rfl (Nat.le_of_ble_eq_true rfl) rfl (dX10_means 13 rfl) ?_
      exact R_iret rfl rfl (Nat.zero_le _) (Nat.zero_le _) (dX10_means 14 rfl) ⟨congrArg (fun z => some (Sum.inl z)) (Prod.mk.inj (Option.some.inj H)).1, rfl, (Prod.mk.inj (Option.some.inj H)).2⟩
    · have H := ite_T H hc
      refine R_bipush (dX10_means 6 rfl) rfl rfl ?_
      exact R_iret rfl rfl (Nat.zero_le _) (Nat.zero_le _) (dX10_means 7 rfl) ⟨congrArg (fun z => some (Sum.inl z)) (Prod.mk.inj (Option.some.inj H)).1, rfl, (Prod.mk.inj (Option.some.inj H)).2⟩
def f_X10_unlikeOf_L4 (x1 : Int) (M : Mem) : Nat → Int → Int → Option Int
  | 0, _, _ => none
  | n + 1, x2, x3 =>
    if x3 < 6 then
      (f_X10_meansIn x1 x3 M).bind fun r420 =>
      if 0 < r420 then
        f_X10_unlikeOf_L4 x1 M n (w32 (x2 + 1)) (w32 (x3 + 1))
      else
        f_X10_unlikeOf_L4 x1 M n (w32 (x2 + 0)) (w32 (x3 + 1))
    else
      some x2
set_option maxHeartbeats 4000000 in
theorem t_X10_unlikeOf_L4 (l : Launch) (g : GG) (ad : Nat → Nat) (S : SW) (M : Mem) (hS : q_ag 38 63 ad S) (x1 : Int) {r : Int} : ∀ (n : Nat) (x2 : Int) (x3 : Int), f_X10_unlikeOf_L4 x1 M n x2 x3 = some r → RW l g MX10_unlikeOf (q_rm 3 0 0) 0 0 (q_ex S (some (.inl r)) M) 4 S M 0 0 [some (.inr (.inr (some (ad 38)))), some (.inl x1), some (.inl x2), some (.inl x3)] [] := by
  intro n
  induction n with
  | zero => intro x2 x3 H; exact absurd H (by simp [f_X10_unlikeOf_L4])
  | succ n ih =>
    intro x2 x3 H
    rw [f_X10_unlikeOf_L4] at H
    refine R_iload_n (i := 3) (dX10_unlikeOf 4 rfl) rfl rfl ?_
    refine R_bipush (dX10_unlikeOf 5 rfl) rfl rfl ?_
    refine R_icmp_ge (tgt := 33) (dX10_unlikeOf 6 rfl) (by decide) (fun hc => ?_) (fun hc => ?_)
    · have H := ite_F H hc
      refine R_iload_n (i := 2) (dX10_unlikeOf 20 rfl) rfl rfl ?_
      exact R_iret rfl rfl (Nat.zero_le _) (Nat.zero_le _) (dX10_unlikeOf 21 rfl) ⟨congrArg (fun z => some (Sum.inl z)) (Option.some.inj H), rfl, rfl⟩
    · have H := ite_T H hc
      refine R_iload_n (i := 2) (dX10_unlikeOf 7 rfl) rfl rfl ?_
      refine R_aload_n (i := 0) (dX10_unlikeOf 8 rfl) rfl rfl ?_
      refine R_iload_n (i := 1) (dX10_unlikeOf 9 rfl) rfl rfl ?_
      refine R_iload_n (i := 3) (dX10_unlikeOf 10 rfl) rfl rfl ?_
      obtain ⟨r420, hr, H⟩ := op_E H
      refine R_cV (st' := [.inl r420, .inl x2]) [.inl x1, .inl x3] [.inl x2] (t_X10_meansIn l g ad S _ hS   x1 x3 hr) msX10_meansIn (Or.inl tb_1397) (Or.inl ⟨38, 10, _, _, _, (cl38 hS), rfl⟩) ⟨Nat.le_of_ble_eq_true rfl, Nat.le_of_ble_eq_true rfl⟩ (Nat.zero_le _) (Nat.zero_le _) rfl rfl (Nat.le_of_ble_eq_true rfl) rfl (dX10_unlikeOf 11 rfl) ?_
      refine R_if_le (tgt := 24) (dX10_unlikeOf 12 rfl) (by decide) (fun hc => ?_) (fun hc => ?_)
      · have H := ite_F H hc
        refine R_iconst (dX10_unlikeOf 15 rfl) rfl ?_
        refine R_iadd (dX10_unlikeOf 16 rfl) ?_
        refine R_istore_n (i := 2) (ls' := [some (.inr (.inr (some (ad 38)))), some (.inl x1), some (.inl (w32 (x2 + 0))), some (.inl x3)]) (dX10_unlikeOf 17 rfl) rfl (Nat.le_of_ble_eq_true rfl) (Nat.le_of_ble_eq_true rfl) rfl rfl ?_
        refine R_iinc (i := 3) (ls' := [some (.inr (.inr (some (ad 38)))), some (.inl x1), some (.inl (w32 (x2 + 0))), some (.inl (w32 (x3 + 1)))]) (dX10_unlikeOf 18 rfl) rfl (Nat.le_of_ble_eq_true rfl) rfl rfl ?_
        refine R_goto (tgt := 4) (dX10_unlikeOf 19 rfl) (by decide) ?_
        exact ih (w32 (x2 + 0)) (w32 (x3 + 1)) H
      · have H := ite_T H hc
        refine R_iconst (dX10_unlikeOf 13 rfl) rfl ?_
        refine R_goto (tgt := 25) (dX10_unlikeOf 14 rfl) (by decide) ?_
        refine R_iadd (dX10_unlikeOf 16 rfl) ?_
        refine R_istore_n (i := 2) (ls' := [some (.inr (.inr (some (ad 38)))), some (.inl x1), some (.inl (w32 (x2 + 1))), some (.inl x3)]) (dX10_unlikeOf 17 rfl) rfl (Nat.le_of_ble_eq_true rfl) (Nat.le_of_ble_eq_true rfl) rfl rfl ?_
        refine R_iinc (i := 3) (ls' := [some (.inr (.inr (some (ad 38)))), some (.inl x1), some (.inl (w32 (x2 + 1))), some (.inl (w32 (x3 + 1)))]) (dX10_unlikeOf 18 rfl) rfl (Nat.le_of_ble_eq_true rfl) rfl rfl ?_
        refine R_goto (tgt := 4) (dX10_unlikeOf 19 rfl) (by decide) ?_
        exact ih (w32 (x2 + 1)) (w32 (x3 + 1)) H
def f_X10_unlikeOf (x1 : Int) (M : Mem) : Option Int :=
  f_X10_unlikeOf_L4
    x1 M 100000 0 0
set_option maxHeartbeats 4000000 in
theorem t_X10_unlikeOf (l : Launch) (g : GG) (ad : Nat → Nat) (S : SW) (M : Mem) (hS : q_ag 38 63 ad S) (x1 : Int) {r : Int} (H : f_X10_unlikeOf x1 M = some r) : CT l g MX10_unlikeOf 3 0 0 S M [.inr (.inr (some (ad 38))), .inl x1] (q_ex S (some (.inl r)) M) := by
  unfold f_X10_unlikeOf at H
  refine CT_of (ls0 := [some (.inr (.inr (some (ad 38)))), some (.inl x1), none, none]) (by decide +kernel) (Nat.le_of_ble_eq_true rfl) rfl ?_
  refine R_iconst (dX10_unlikeOf 0 rfl) rfl ?_
  refine R_istore_n (i := 2) (ls' := [some (.inr (.inr (some (ad 38)))), some (.inl x1), some (.inl 0), none]) (dX10_unlikeOf 1 rfl) rfl (Nat.le_of_ble_eq_true rfl) (Nat.le_of_ble_eq_true rfl) rfl rfl ?_
  refine R_iconst (dX10_unlikeOf 2 rfl) rfl ?_
  refine R_istore_n (i := 3) (ls' := [some (.inr (.inr (some (ad 38)))), some (.inl x1), some (.inl 0), some (.inl 0)]) (dX10_unlikeOf 3 rfl) rfl (Nat.le_of_ble_eq_true rfl) (Nat.le_of_ble_eq_true rfl) rfl rfl ?_
  exact t_X10_unlikeOf_L4 l g ad S M hS x1  100000 0 0 H 
def f_X10_sure (x1 : Int) (M : Mem) : Option (Int × Mem) :=
  if f_X10_isSign x1 = 0 then
    some ((-5), M)
  else
    ob (f_X10_finds M) fun r421 M422 =>
    (f_X10_unlikeOf x1 M422).bind fun r423 =>
    if r423 = 1 then
      (f_X10_partIn 0 x1 M422).bind fun r424 =>
      some (r424, M422)
    else
      some ((-1), M422)
set_option maxHeartbeats 4000000 in
theorem t_X10_sure (l : Launch) (g : GG) (ad : Nat → Nat) (S : SW) (M : Mem) (hS : q_ag 38 63 ad S) (x1 : Int) {r : Int} {M' : Mem} (H : f_X10_sure x1 M = some (r, M')) : CT l g MX10_sure 6 0 0 S M [.inr (.inr (some (ad 38))), .inl x1] (q_ex S (some (.inl r)) M') := by
  unfold f_X10_sure at H
  refine CT_of (ls0 := [some (.inr (.inr (some (ad 38)))), some (.inl x1)]) (by decide +kernel) (Nat.le_of_ble_eq_true rfl) rfl ?_
  refine R_iload_n (i := 1) (dX10_sure 0 rfl) rfl rfl ?_
  refine R_cS (st' := [.inl (f_X10_isSign x1)]) [.inl x1] [] (t_X10_isSign l g ad S _ hS   x1) msX10_isSign (Or.inl tb_1386) ⟨Nat.le_of_ble_eq_true rfl, Nat.le_of_ble_eq_true rfl⟩ (Nat.zero_le _) (Nat.zero_le _) rfl rfl (Nat.le_of_ble_eq_true rfl) rfl (dX10_sure 1 rfl) ?_
  refine R_if_ne (tgt := 10) (dX10_sure 2 rfl) (by decide) (fun hc => ?_) (fun hc => ?_)
  · have H := ite_F H hc
    refine R_aload_n (i := 0) (dX10_sure 5 rfl) rfl rfl ?_
    obtain ⟨r421, M422, hr, H⟩ := ob_E H
    refine R_cV (st' := []) [] [] (t_X10_finds l g ad S _ hS   hr) msX10_finds (Or.inl tb_1362) (Or.inl ⟨38, 10, _, _, _, (cl38 hS), rfl⟩) ⟨Nat.le_of_ble_eq_true rfl, Nat.le_of_ble_eq_true rfl⟩ (Nat.zero_le _) (Nat.zero_le _) rfl rfl (Nat.le_of_ble_eq_true rfl) rfl (dX10_sure 6 rfl) ?_
    refine R_aload_n (i := 0) (dX10_sure 7 rfl) rfl rfl ?_
    refine R_iload_n (i := 1) (dX10_sure 8 rfl) rfl rfl ?_
    obtain ⟨r423, hr, H⟩ := op_E H
    refine R_cV (st' := [.inl r423]) [.inl x1] [] (t_X10_unlikeOf l g ad S _ hS   x1 hr) msX10_unlikeOf (Or.inl tb_1405) (Or.inl ⟨38, 10, _, _, _, (cl38 hS), rfl⟩) ⟨Nat.le_of_ble_eq_true rfl, Nat.le_of_ble_eq_true rfl⟩ (Nat.zero_le _) (Nat.zero_le _) rfl rfl (Nat.le_of_ble_eq_true rfl) rfl (dX10_sure 9 rfl) ?_
    refine R_iconst (dX10_sure 10 rfl) rfl ?_
    refine R_icmp_ne (tgt := 32) (dX10_sure 11 rfl) (by decide) (fun hc => ?_) (fun hc => ?_)
    · have H := ite_F H hc
      refine R_iconst (dX10_sure 17 rfl) rfl ?_
      exact R_iret rfl rfl (Nat.zero_le _) (Nat.zero_le _) (dX10_sure 18 rfl) ⟨congrArg (fun z => some (Sum.inl z)) (Prod.mk.inj (Option.some.inj H)).1, rfl, (Prod.mk.inj (Option.some.inj H)).2⟩
    · have H := ite_T H hc
      refine R_aload_n (i := 0) (dX10_sure 12 rfl) rfl rfl ?_
      refine R_iconst (dX10_sure 13 rfl) rfl ?_
      refine R_iload_n (i := 1) (dX10_sure 14 rfl) rfl rfl ?_
      obtain ⟨r424, hr, H⟩ := op_E H
      refine R_cV (st' := [.inl r424]) [.inl 0, .inl x1] [] (t_X10_partIn l g ad S _ hS   0 x1 hr) msX10_partIn (Or.inl tb_1389) (Or.inl ⟨38, 10, _, _, _, (cl38 hS), rfl⟩) ⟨Nat.le_of_ble_eq_true rfl, Nat.le_of_ble_eq_true rfl⟩ (Nat.zero_le _) (Nat.zero_le _) rfl rfl (Nat.le_of_ble_eq_true rfl) rfl (dX10_sure 15 rfl) ?_
      refine R_goto (tgt := 33) (dX10_sure 16 rfl) (by decide) ?_
      exact R_iret rfl rfl (Nat.zero_le _) (Nat.zero_le _) (dX10_sure 18 rfl) ⟨congrArg (fun z => some (Sum.inl z)) (Prod.mk.inj (Option.some.inj H)).1, rfl, (Prod.mk.inj (Option.some.inj H)).2⟩
  · have H := ite_T H hc
    refine R_bipush (dX10_sure 3 rfl) rfl rfl ?_
    exact R_iret rfl rfl (Nat.zero_le _) (Nat.zero_le _) (dX10_sure 4 rfl) ⟨congrArg (fun z => some (Sum.inl z)) (Prod.mk.inj (Option.some.inj H)).1, rfl, (Prod.mk.inj (Option.some.inj H)).2⟩
def f_X10_doubt_L23 (K54 : Int → Mem → Option (Int × Mem)) (x1 : Int) : Nat → Int → Int → Mem → Option (Int × Mem)
  | 0, _, _, _ => none
  | n + 1, x2, x3, M =>
    if x3 < 6 then
      (f_X10_unlikeOf x3 M).bind fun r427 =>
      (f_X10_unlikeOf x2 M).bind fun r428 =>
      if r428 < r427 then
        f_X10_doubt_L23 K54 x1 n x3 (w32 (x3 + 1)) M
      else
        f_X10_doubt_L23 K54 x1 n x2 (w32 (x3 + 1)) M
    else
      K54 x2 M
set_option maxHeartbeats 4000000 in
theorem t_X10_doubt_L23 (l : Launch) (g : GG) (ad : Nat → Nat) (S : SW) (hS : q_ag 38 63 ad S) (x1 : Int) {K54 : Int → Mem → Option (Int × Mem)} {r : Int} {M' : Mem} : ∀ (n : Nat) (x2 : Int) (x3 : Int) (M : Mem), f_X10_doubt_L23 K54 x1 n x2 x3 M = some (r, M') → (∀ (z2 : Int) (M1 : Mem), K54 z2 M1 = some (r, M') → RW l g MX10_doubt (q_rm 6 0 0) 0 0 (q_ex S (some (.inl r)) M') 54 S M1 0 0 [some (.inr (.inr (some (ad 38)))), some (.inl x1), some (.inl z2), none] []) → RW l g MX10_doubt (q_rm 6 0 0) 0 0 (q_ex S (some (.inl r)) M') 23 S M 0 0 [some (.inr (.inr (some (ad 38)))), some (.inl x1), some (.inl x2), some (.inl x3)] [] := by
  intro n
  induction n with
  | zero => intro x2 x3 M H; exact absurd H (by simp [f_X10_doubt_L23])
  | succ n ih =>
    intro x2 x3 M H hK54
    rw [f_X10_doubt_L23] at H
    refine R_iload_n (i := 3) (dX10_doubt 14 rfl) rfl rfl ?_
    refine R_bipush (dX10_doubt 15 rfl) rfl rfl ?_
    refine R_icmp_ge (tgt := 54) (dX10_doubt 16 rfl) (by decide) (fun hc => ?_) (fun hc => ?_)
    · have H := ite_F H hc
      refine R_mask [true, true, true, false] rfl ?_
      exact hK54 x2 M H
    · have H := ite_T H hc
      refine R_aload_n (i := 0) (dX10_doubt 17 rfl) rfl rfl ?_
      refine R_iload_n (i := 3) (dX10_doubt 18 rfl) rfl rfl ?_
      obtain ⟨r427, hr, H⟩ := op_E H
      refine R_cV (st' := [.inl r427]) [.inl x3] [] (t_X10_unlikeOf l g ad S _ hS   x3 hr) msX10_unlikeOf (Or.inl tb_1405) (Or.inl ⟨38, 10, _, _, _, (cl38 hS), rfl⟩) ⟨Nat.le_of_ble_eq_true rfl, Nat.le_of_ble_eq_true rfl⟩ (Nat.zero_le _) (Nat.zero_le _) rfl rfl (Nat.le_of_ble_eq_true rfl) rfl (dX10_doubt 19 rfl) ?_
      refine R_aload_n (i := 0) (dX10_doubt 20 rfl) rfl rfl ?_
      refine R_iload_n (i := 2) (dX10_doubt 21 rfl) rfl rfl ?_
      obtain ⟨r428, hr, H⟩ := op_E H
      refine R_cV (st' := [.inl r428, .inl r427]) [.inl x2] [.inl r427] (t_X10_unlikeOf l g ad S _ hS   x2 hr) msX10_unlikeOf (Or.inl tb_1405) (Or.inl ⟨38, 10, _, _, _, (cl38 hS), rfl⟩) ⟨Nat.le_of_ble_eq_true rfl, Nat.le_of_ble_eq_true rfl⟩ (Nat.zero_le _) (Nat.zero_le _) rfl rfl (Nat.le_of_ble_eq_true rfl) rfl (dX10_doubt 22 rfl) ?_
      refine R_icmp_le (tgt := 46) (dX10_doubt 23 rfl) (by decide) (fun hc => ?_) (fun hc => ?_)
      · have H := ite_F H hc
        refine R_iload_n (i := 2) (dX10_doubt 26 rfl) rfl rfl ?_
        refine R_istore_n (i := 2) (ls' := [some (.inr (.inr (some (ad 38)))), some (.inl x1), some (.inl x2), some (.inl x3)]) (dX10_doubt 27 rfl) rfl (Nat.le_of_ble_eq_true rfl) (Nat.le_of_ble_eq_true rfl) rfl rfl ?_
        refine R_iinc (i := 3) (ls' := [some (.inr (.inr (some (ad 38)))), some (.inl x1), some (.inl x2), some (.inl (w32 (x3 + 1)))]) (dX10_doubt 28 rfl) rfl (Nat.le_of_ble_eq_true rfl) rfl rfl ?_
        refine R_goto (tgt := 23) (dX10_doubt 29 rfl) (by decide) ?_
        exact ih x2 (w32 (x3 + 1)) M H hK54
      · have H := ite_T H hc
        refine R_iload_n (i := 3) (dX10_doubt 24 rfl) rfl rfl ?_
        refine R_goto (tgt := 47) (dX10_doubt 25 rfl) (by decide) ?_
        refine R_istore_n (i := 2) (ls' := [some (.inr (.inr (some (ad 38)))), some (.inl x1), some (.inl x3), some (.inl x3)]) (dX10_doubt 27 rfl) rfl (Nat.le_of_ble_eq_true rfl) (Nat.le_of_ble_eq_true rfl) rfl rfl ?_
        refine R_iinc (i := 3) (ls' := [some (.inr (.inr (some (ad 38)))), some (.inl x1), some (.inl x3), some (.inl (w32 (x3 + 1)))]) (dX10_doubt 28 rfl) rfl (Nat.le_of_ble_eq_true rfl) rfl rfl ?_
        refine R_goto (tgt := 23) (dX10_doubt 29 rfl) (by decide) ?_
        exact ih x3 (w32 (x3 + 1)) M H hK54
def f_X10_doubt (x1 : Int) (M : Mem) : Option (Int × Mem) :=
  if x1 = (-1) then
    ob (f_X10_finds M) fun r425 M426 =>
    f_X10_doubt_L23
      (fun y429 M430 =>
        if x1 = (-1) then
          some (y429, M430)
        else
          (f_X10_unlikeOf x1 M430).bind fun r431 =>
          some (r431, M430)
      )
      x1 100000 0 1 M426
  else
    if f_X10_isSign x1 = 0 then
      some ((-5), M)
    else
      ob (f_X10_finds M) fun r432 M433 =>
      f_X10_doubt_L23
        (fun y434 M435 =>
          if x1 = (-1) then
            some (y434, M435)
          else
            (f_X10_unlikeOf x1 M435).bind fun r436 =>
            some (r436, M435)
        )
        x1 100000 0 1 M433
set_option maxHeartbeats 4000000 in
theorem t_X10_doubt (l : Launch) (g : GG) (ad : Nat → Nat) (S : SW) (M : Mem) (hS : q_ag 38 63 ad S) (x1 : Int) {r : Int} {M' : Mem} (H : f_X10_doubt x1 M = some (r, M')) : CT l g MX10_doubt 6 0 0 S M [.inr (.inr (some (ad 38))), .inl x1] (q_ex S (some (.inl r)) M') := by
  unfold f_X10_doubt at H
  refine CT_of (ls0 := [some (.inr (.inr (some (ad 38)))), some (.inl x1), none, none]) (by decide +kernel) (Nat.le_of_ble_eq_true rfl) rfl ?_
  refine R_iload_n (i := 1) (dX10_doubt 0 rfl) rfl rfl ?_
  refine R_iconst (dX10_doubt 1 rfl) rfl ?_
  refine R_icmp_eq (tgt := 15) (dX10_doubt 2 rfl) (by decide) (fun hc => ?_) (fun hc => ?_)
  · have H := ite_T H hc
    refine R_aload_n (i := 0) (dX10_doubt 8 rfl) rfl rfl ?_
    obtain ⟨r425, M426, hr, H⟩ := ob_E H
    refine R_cV (st' := []) [] [] (t_X10_finds l g ad S _ hS   hr) msX10_finds (Or.inl tb_1362) (Or.inl ⟨38, 10, _, _, _, (cl38 hS), rfl⟩) ⟨Nat.le_of_ble_eq_true rfl, Nat.le_of_ble_eq_true rfl⟩ (Nat.zero_le _) (Nat.zero_le _) rfl rfl (Nat.le_of_ble_eq_true rfl) rfl (dX10_doubt 9 rfl) ?_
    refine R_iconst (dX10_doubt 10 rfl) rfl ?_
    refine R_istore_n (i := 2) (ls' := [some (.inr (.inr (some (ad 38)))), some (.inl x1), some (.inl 0), none]) (dX10_doubt 11 rfl) rfl (Nat.le_of_ble_eq_true rfl) (Nat.le_of_ble_eq_true rfl) rfl rfl ?_
    refine R_iconst (dX10_doubt 12 rfl) rfl ?_
    refine R_istore_n (i := 3) (ls' := [some (.inr (.inr (some (ad 38)))), some (.inl x1), some (.inl 0), some (.inl 1)]) (dX10_doubt 13 rfl) rfl (Nat.le_of_ble_eq_true rfl) (Nat.le_of_ble_eq_true rfl) rfl rfl ?_
    refine t_X10_doubt_L23 l g ad S hS x1  100000 0 1 M426 H (fun y429 M430 H => ?_)
    refine R_iload_n (i := 1) (dX10_doubt 30 rfl) rfl rfl ?_
    refine R_iconst (dX10_doubt 31 rfl) rfl ?_
    refine R_icmp_ne (tgt := 63) (dX10_doubt 32 rfl) (by decide) (fun hc => ?_) (fun hc => ?_)
    · have H := ite_F H hc
      refine R_aload_n (i := 0) (dX10_doubt 35 rfl) rfl rfl ?_
      refine R_iload_n (i := 1) (dX10_doubt 36 rfl) rfl rfl ?_
      obtain ⟨r431, hr, H⟩ := op_E H
      refine R_cV (st' := [.inl r431]) [.inl x1] [] (t_X10_unlikeOf l g ad S _ hS   x1 hr) msX10_unlikeOf (Or.inl tb_1405) (Or.inl ⟨38, 10, _, _, _, (cl38 hS), rfl⟩) ⟨Nat.le_of_ble_eq_true rfl, Nat.le_of_ble_eq_true rfl⟩ (Nat.zero_le _) (Nat.zero_le _) rfl rfl (Nat.le_of_ble_eq_true rfl) rfl (dX10_doubt 37 rfl) ?_
      exact R_iret rfl rfl (Nat.zero_le _) (Nat.zero_le _) (dX10_doubt 38 rfl) ⟨congrArg (fun z => some (Sum.inl z)) (Prod.mk.inj (Option.some.inj H)).1, rfl, (Prod.mk.inj (Option.some.inj H)).2⟩
    · have H := ite_T H hc
      refine R_iload_n (i := 2) (dX10_doubt 33 rfl) rfl rfl ?_
      refine R_goto (tgt := 68) (dX10_doubt 34 rfl) (by decide) ?_
      exact R_iret rfl rfl (Nat.zero_le _) (Nat.zero_le _) (dX10_doubt 38 rfl) ⟨congrArg (fun z => some (Sum.inl z)) (Prod.mk.inj (Option.some.inj H)).1, rfl, (Prod.mk.inj (Option.some.inj H)).2⟩
  · have H := ite_F H hc
    refine R_iload_n (i := 1) (dX10_doubt 3 rfl) rfl rfl ?_
    refine R_cS (st' := [.inl (f_X10_isSign x1)]) [.inl x1] [] (t_X10_isSign l g ad S _ hS   x1) msX10_isSign (Or.inl tb_1386) ⟨Nat.le_of_ble_eq_true rfl, Nat.le_of_ble_eq_true rfl⟩ (Nat.zero_le _) (Nat.zero_le _) rfl rfl (Nat.le_of_ble_eq_true rfl) rfl (dX10_doubt 4 rfl) ?_
    refine R_if_ne (tgt := 15) (dX10_doubt 5 rfl) (by decide) (fun hc => ?_) (fun hc => ?_)
    · have H := ite_F H hc
      refine R_aload_n (i := 0) (dX10_doubt 8 rfl) rfl rfl ?_
      obtain ⟨r432, M433, hr, H⟩ := ob_E H
      refine R_cV (st' := []) [] [] (t_X10_finds l g ad S _ hS   hr) msX10_finds (Or.inl tb_1362) (Or.inl ⟨38, 10, _, _, _, (cl38 hS), rfl⟩) ⟨Nat.le_of_ble_eq_true rfl, Nat.le_of_ble_eq_true rfl⟩ (Nat.zero_le _) (Nat.zero_le _) rfl rfl (Nat.le_of_ble_eq_true rfl) rfl (dX10_doubt 9 rfl) ?_
      refine R_iconst (dX10_doubt 10 rfl) rfl ?_
      refine R_istore_n (i := 2) (ls' := [some (.inr (.inr (some (ad 38)))), some (.inl x1), some (.inl 0), none]) (dX10_doubt 11 rfl) rfl (Nat.le_of_ble_eq_true rfl) (Nat.le_of_ble_eq_true rfl) rfl rfl ?_
      refine R_iconst (dX10_doubt 12 rfl) rfl ?_
      refine R_istore_n (i := 3) (ls' := [some (.inr (.inr (some (ad 38)))), some (.inl x1), some (.inl 0), some (.inl 1)]) (dX10_doubt 13 rfl) rfl (Nat.le_of_ble_eq_true rfl) (Nat.le_of_ble_eq_true rfl) rfl rfl ?_
      refine t_X10_doubt_L23 l g ad S hS x1  100000 0 1 M433 H (fun y434 M435 H => ?_)
      refine R_iload_n (i := 1) (dX10_doubt 30 rfl) rfl rfl ?_
      refine R_iconst (dX10_doubt 31 rfl) rfl ?_
      refine R_icmp_ne (tgt := 63) (dX10_doubt 32 rfl) (by decide) (fun hc => ?_) (fun hc => ?_)
      · have H := ite_F H hc
        refine R_aload_n (i := 0) (dX10_doubt 35 rfl) rfl rfl ?_
        refine R_iload_n (i := 1) (dX10_doubt 36 rfl) rfl rfl ?_
        obtain ⟨r436, hr, H⟩ := op_E H
        refine R_cV (st' := [.inl r436]) [.inl x1] [] (t_X10_unlikeOf l g ad S _ hS   x1 hr) msX10_unlikeOf (Or.inl tb_1405) (Or.inl ⟨38, 10, _, _, _, (cl38 hS), rfl⟩) ⟨Nat.le_of_ble_eq_true rfl, Nat.le_of_ble_eq_true rfl⟩ (Nat.zero_le _) (Nat.zero_le _) rfl rfl (Nat.le_of_ble_eq_true rfl) rfl (dX10_doubt 37 rfl) ?_
        exact R_iret rfl rfl (Nat.zero_le _) (Nat.zero_le _) (dX10_doubt 38 rfl) ⟨congrArg (fun z => some (Sum.inl z)) (Prod.mk.inj (Option.some.inj H)).1, rfl, (Prod.mk.inj (Option.some.inj H)).2⟩
      · have H := ite_T H hc
        refine R_iload_n (i := 2) (dX10_doubt 33 rfl) rfl rfl ?_
        refine R_goto (tgt := 68) (dX10_doubt 34 rfl) (by decide) ?_
        exact R_iret rfl rfl (Nat.zero_le _) (Nat.zero_le _) (dX10_doubt 38 rfl) ⟨congrArg (fun z => some (Sum.inl z)) (Prod.mk.inj (Option.some.inj H)).1, rfl, (Prod.mk.inj (Option.some.inj H)).2⟩
    · have H := ite_T H hc
      refine R_bipush (dX10_doubt 6 rfl) rfl rfl ?_
      exact R_iret rfl rfl (Nat.zero_le _) (Nat.zero_le _) (dX10_doubt 7 rfl) ⟨congrArg (fun z => some (Sum.inl z)) (Prod.mk.inj (Option.some.inj H)).1, rfl, (Prod.mk.inj (Option.some.inj H)).2⟩
def f_X10_lowest_L16 (K41 : Int → Option Int) (x0 : Int) (x2 : Int) (x4 : Int) : Nat → Int → Int → Option Int
  | 0, _, _ => none
  | n + 1, x5, x7 =>
    if b_lcmp x7 0 = 0 then
      K41 x5
    else
      if ¬ x7 = 0 then
        f_X10_lowest_L16 K41 x0 x2 x4 n x7 (b_lrem x5 x7)
      else none
set_option maxHeartbeats 4000000 in
theorem t_X10_lowest_L16 (l : Launch) (g : GG) (ad : Nat → Nat) (S : SW) (M : Mem) (hS : q_ag 38 63 ad S) (x0 : Int) (x2 : Int) (x4 : Int) {K41 : Int → Option Int} {r : Int} : ∀ (n : Nat) (x5 : Int) (x7 : Int), f_X10_lowest_L16 K41 x0 x2 x4 n x5 x7 = some r → (∀ (z5 : Int), K41 z5 = some r → RW l g MX10_lowest (q_rm 1 0 0) 0 0 (q_ex S (some (.inr (.inl r))) M) 41 S M 0 0 [some (.inr (.inl x0)), none, some (.inr (.inl x2)), none, some (.inl x4), some (.inr (.inl z5)), none, none, none, none, none] []) → RW l g MX10_lowest (q_rm 1 0 0) 0 0 (q_ex S (some (.inr (.inl r))) M) 16 S M 0 0 [some (.inr (.inl x0)), none, some (.inr (.inl x2)), none, some (.inl x4), some (.inr (.inl x5)), none, some (.inr (.inl x7)), none, none, none] [] := by
  intro n
  induction n with
  | zero => intro x5 x7 H; exact absurd H (by simp [f_X10_lowest_L16])
  | succ n ih =>
    intro x5 x7 H hK41
    rw [f_X10_lowest_L16] at H
    refine R_lload (i := 7) (dX10_lowest 11 rfl) rfl ?_
    refine R_lconst (z := 0) (dX10_lowest 12 rfl) rfl rfl ?_
    refine R_lcmp (dX10_lowest 13 rfl) ?_
    refine R_if_eq (tgt := 41) (dX10_lowest 14 rfl) (by decide) (fun hc => ?_) (fun hc => ?_)
    · have H := ite_T H hc
      refine R_mask [true, false, true, false, true, true, false, false, false, false, false] rfl ?_
      exact hK41 x5 H
    · have H := ite_F H hc
      refine R_lload (i := 5) (dX10_lowest 15 rfl) rfl ?_
      refine R_lload (i := 7) (dX10_lowest 16 rfl) rfl ?_
      obtain ⟨hg, H⟩ := ite_G H
      refine R_lrem hg (dX10_lowest 17 rfl) ?_
      refine R_lstore (i := 9) (ls' := [some (.inr (.inl x0)), none, some (.inr (.inl x2)), none, some (.inl x4), some (.inr (.inl x5)), none, some (.inr (.inl x7)), none, some (.inr (.inl (b_lrem x5 x7))), none]) (dX10_lowest 18 rfl) (Nat.le_of_ble_eq_true rfl) (Nat.le_of_ble_eq_true rfl) rfl rfl ?_
      refine R_lload (i := 7) (dX10_lowest 19 rfl) rfl ?_
      refine R_lstore (i := 5) (ls' := [some (.inr (.inl x0)), none, some (.inr (.inl x2)), none, some (.inl x4), some (.inr (.inl x7)), none, some (.inr (.inl x7)), none, some (.inr (.inl (b_lrem x5 x7))), none]) (dX10_lowest 20 rfl) (Nat.le_of_ble_eq_true rfl) (Nat.le_of_ble_eq_true rfl) rfl rfl ?_
      refine R_lload (i := 9) (dX10_lowest 21 rfl) rfl ?_
      refine R_lstore (i := 7) (ls' := [some (.inr (.inl x0)), none, some (.inr (.inl x2)), none, some (.inl x4), some (.inr (.inl x7)), none, some (.inr (.inl (b_lrem x5 x7))), none, some (.inr (.inl (b_lrem x5 x7))), none]) (dX10_lowest 22 rfl) (Nat.le_of_ble_eq_true rfl) (Nat.le_of_ble_eq_true rfl) rfl rfl ?_
      refine R_goto (tgt := 16) (dX10_lowest 23 rfl) (by decide) ?_
      refine R_mask [true, false, true, false, true, true, false, true, false, false, false] rfl ?_
      exact ih x7 (b_lrem x5 x7) H hK41
def f_X10_lowest (x0 : Int) (x2 : Int) (x4 : Int) : Option Int :=
  if b_lcmp x0 0 = 0 then
    some x4
  else
    f_X10_lowest_L16
      (fun y437 =>
        if x4 = 0 then
          if ¬ y437 = 0 then
            some (b_ldiv x0 y437)
          else none
        else
          if ¬ y437 = 0 then
            some (b_ldiv x2 y437)
          else none
      )
      x0 x2 x4 100000 x0 x2
set_option maxHeartbeats 4000000 in
theorem t_X10_lowest (l : Launch) (g : GG) (ad : Nat → Nat) (S : SW) (M : Mem) (hS : q_ag 38 63 ad S) (x0 : Int) (x2 : Int) (x4 : Int) {r : Int} (H : f_X10_lowest x0 x2 x4 = some r) : CT l g MX10_lowest 1 0 0 S M [.inr (.inl x0), .inr (.inl x2), .inl x4] (q_ex S (some (.inr (.inl r))) M) := by
  unfold f_X10_lowest at H
  refine CT_of (ls0 := [some (.inr (.inl x0)), none, some (.inr (.inl x2)), none, some (.inl x4), none, none, none, none, none, none]) (by decide +kernel) (Nat.le_of_ble_eq_true rfl) rfl ?_
  refine R_lload_n (i := 0) (dX10_lowest 0 rfl) rfl rfl ?_
  refine R_lconst (z := 0) (dX10_lowest 1 rfl) rfl rfl ?_
  refine R_lcmp (dX10_lowest 2 rfl) ?_
  refine R_if_ne (tgt := 10) (dX10_lowest 3 rfl) (by decide) (fun hc => ?_) (fun hc => ?_)
  · have H := ite_F H hc
    refine R_lload_n (i := 0) (dX10_lowest 7 rfl) rfl rfl ?_
    refine R_lstore (i := 5) (ls' := [some (.inr (.inl x0)), none, some (.inr (.inl x2)), none, some (.inl x4), some (.inr (.inl x0)), none, none, none, none, none]) (dX10_lowest 8 rfl) (Nat.le_of_ble_eq_true rfl) (Nat.le_of_ble_eq_true rfl) rfl rfl ?_
    refine R_lload_n (i := 2) (dX10_lowest 9 rfl) rfl rfl ?_
    refine R_lstore (i := 7) (ls' := [some (.inr (.inl x0)), none, some (.inr (.inl x2)), none, some (.inl x4), some (.inr (.inl x0)), none, some (.inr (.inl x2)), none, none, none]) (dX10_lowest 10 rfl) (Nat.le_of_ble_eq_true rfl) (Nat.le_of_ble_eq_true rfl) rfl rfl ?_
    refine t_X10_lowest_L16 l g ad S M hS x0 x2 x4  100000 x0 x2 H (fun y437 H => ?_)
    refine R_iload (i := 4) (dX10_lowest 24 rfl) rfl ?_
    refine R_if_ne (tgt := 50) (dX10_lowest 25 rfl) (by decide) (fun hc => ?_) (fun hc => ?_)
    · have H := ite_F H hc
      refine R_lload_n (i := 2) (dX10_lowest 28 rfl) rfl rfl ?_
      refine R_lload (i := 5) (dX10_lowest 29 rfl) rfl ?_
      obtain ⟨hg, H⟩ := ite_G H
      refine R_ldiv hg (dX10_lowest 30 rfl) ?_
      exact R_lret rfl (Nat.zero_le _) (Nat.zero_le _) (dX10_lowest 31 rfl) ⟨congrArg (fun z => some (Sum.inr (Sum.inl z))) (Option.some.inj H), rfl, rfl⟩
    · have H := ite_T H hc
      refine R_lload_n (i := 0) (dX10_lowest 26 rfl) rfl rfl ?_
      refine R_goto (tgt := 51) (dX10_lowest 27 rfl) (by decide) ?_
      refine R_lload (i := 5) (dX10_lowest 29 rfl) rfl ?_
      obtain ⟨hg, H⟩ := ite_G H
      refine R_ldiv hg (dX10_lowest 30 rfl) ?_
      exact R_lret rfl (Nat.zero_le _) (Nat.zero_le _) (dX10_lowest 31 rfl) ⟨congrArg (fun z => some (Sum.inr (Sum.inl z))) (Option.some.inj H), rfl, rfl⟩
  · have H := ite_T H hc
    refine R_iload (i := 4) (dX10_lowest 4 rfl) rfl ?_
    refine R_i2l (dX10_lowest 5 rfl) ?_
    exact R_lret rfl (Nat.zero_le _) (Nat.zero_le _) (dX10_lowest 6 rfl) ⟨congrArg (fun z => some (Sum.inr (Sum.inl z))) (Option.some.inj H), rfl, rfl⟩
def f_X10_ofAll (x1 : Int) (x2 : Int) (M : Mem) : Option Int :=
  if M 38 40 = 0 then
    some (-4611686018427387904)
  else
    (f_X10_lowest x1 (M 38 40) x2).bind fun r438 =>
    some r438
set_option maxHeartbeats 4000000 in
theorem t_X10_ofAll (l : Launch) (g : GG) (ad : Nat → Nat) (S : SW) (M : Mem) (hS : q_ag 38 63 ad S) (x1 : Int) (x2 : Int) {r : Int} (H : f_X10_ofAll x1 x2 M = some r) : CT l g MX10_ofAll 2 0 0 S M [.inr (.inr (some (ad 38))), .inl x1, .inl x2] (q_ex S (some (.inr (.inl r))) M) := by
  unfold f_X10_ofAll at H
  refine CT_of (ls0 := [some (.inr (.inr (some (ad 38)))), some (.inl x1), some (.inl x2)]) (by decide +kernel) (Nat.le_of_ble_eq_true rfl) rfl ?_
  refine R_aload_n (i := 0) (dX10_ofAll 0 rfl) rfl rfl ?_
  refine R_getI cgX10 38 (cl38 hS) 40 (Nat.le_of_ble_eq_true rfl) rfl (Or.inl tb_1167) (dX10_ofAll 1 rfl) ?_
  refine R_if_ne (tgt := 13) (dX10_ofAll 2 rfl) (by decide) (fun hc => ?_) (fun hc => ?_)
  · have H := ite_F H hc
    refine R_iload_n (i := 1) (dX10_ofAll 5 rfl) rfl rfl ?_
    refine R_i2l (dX10_ofAll 6 rfl) ?_
    refine R_aload_n (i := 0) (dX10_ofAll 7 rfl) rfl rfl ?_
    refine R_getI cgX10 38 (cl38 hS) 40 (Nat.le_of_ble_eq_true rfl) rfl (Or.inl tb_1167) (dX10_ofAll 8 rfl) ?_
    refine R_i2l (dX10_ofAll 9 rfl) ?_
    refine R_iload_n (i := 2) (dX10_ofAll 10 rfl) rfl rfl ?_
    obtain ⟨r438, hr, H⟩ := op_E H
    refine R_cS (st' := [.inr (.inl r438)]) [.inr (.inl x1), .inr (.inl (M 38 40)), .inl x2] [] (t_X10_lowest l g ad S _ hS   x1 (M 38 40) x2 hr) msX10_lowest (Or.inl tb_1422) ⟨Nat.le_of_ble_eq_true rfl, Nat.le_of_ble_eq_true rfl⟩ (Nat.zero_le _) (Nat.zero_le _) rfl rfl (Nat.le_of_ble_eq_true rfl) rfl (dX10_ofAll 11 rfl) ?_
    exact R_lret rfl (Nat.zero_le _) (Nat.zero_le _) (dX10_ofAll 12 rfl) ⟨congrArg (fun z => some (Sum.inr (Sum.inl z))) (Option.some.inj H), rfl, rfl⟩
  · have H := ite_T H hc
    refine R_ldc2 (z := (-4611686018427387904)) tb_1417 ⟨by decide, by decide⟩ (dX10_ofAll 3 rfl) ?_
    refine R_goto (tgt := 24) (dX10_ofAll 4 rfl) (by decide) ?_
    exact R_lret rfl (Nat.zero_le _) (Nat.zero_le _) (dX10_ofAll 12 rfl) ⟨congrArg (fun z => some (Sum.inr (Sum.inl z))) (Option.some.inj H), rfl, rfl⟩
def f_X10_odds (x1 : Int) (x2 : Int) (x3 : Int) (M : Mem) : Option (Int × Mem) :=
  if f_X10_isSign x1 = 0 then
    some ((-4611686018427387904), M)
  else
    if f_X10_isSign x2 = 0 then
      some ((-4611686018427387904), M)
    else
      if f_X10_in x3 0 1 = 0 then
        some ((-4611686018427387904), M)
      else
        ob (f_X10_finds M) fun r439 M440 =>
        (f_X10_meansIn x1 x2 M440).bind fun r441 =>
        (f_X10_ofAll r441 x3 M440).bind fun r442 =>
        some (r442, M440)
set_option maxHeartbeats 4000000 in
theorem t_X10_odds (l : Launch) (g : GG) (ad : Nat → Nat) (S : SW) (M : Mem) (hS : q_ag 38 63 ad S) (x1 : Int) (x2 : Int) (x3 : Int) {r : Int} {M' : Mem} (H : f_X10_odds x1 x2 x3 M = some (r, M')) : CT l g MX10_odds 6 0 0 S M [.inr (.inr (some (ad 38))), .inl x1, .inl x2, .inl x3] (q_ex S (some (.inr (.inl r))) M') := by
  unfold f_X10_odds at H
  refine CT_of (ls0 := [some (.inr (.inr (some (ad 38)))), some (.inl x1), some (.inl x2), some (.inl x3)]) (by decide +kernel) (Nat.le_of_ble_eq_true rfl) rfl ?_
  refine R_iload_n (i := 1) (dX10_odds 0 rfl) rfl rfl ?_
  refine R_cS (st' := [.inl (f_X10_isSign x1)]) [.inl x1] [] (t_X10_isSign l g ad S _ hS   x1) msX10_isSign (Or.inl tb_1386) ⟨Nat.le_of_ble_eq_true rfl, Nat.le_of_ble_eq_true rfl⟩ (Nat.zero_le _) (Nat.zero_le _) rfl rfl (Nat.le_of_ble_eq_true rfl) rfl (dX10_odds 1 rfl) ?_
  refine R_if_eq (tgt := 23) (dX10_odds 2 rfl) (by decide) (fun hc => ?_) (fun hc => ?_)
  · have H := ite_T H hc
    refine R_ldc2 (z := (-4611686018427387904)) tb_1417 ⟨by decide, by decide⟩ (dX10_odds 11 rfl) ?_
    exact R_lret rfl (Nat.zero_le _) (Nat.zero_le _) (dX10_odds 12 rfl) ⟨congrArg (fun z => some (Sum.inr (Sum.inl z))) (Prod.mk.inj (Option.some.inj H)).1, rfl, (Prod.mk.inj (Option.some.inj H)).2⟩
  · have H := ite_F H hc
    refine R_iload_n (i := 2) (dX10_odds 3 rfl) rfl rfl ?_
    refine R_cS (st' := [.inl (f_X10_isSign x2)]) [.inl x2] [] (t_X10_isSign l g ad S _ hS   x2) msX10_isSign (Or.inl tb_1386) ⟨Nat.le_of_ble_eq_true rfl, Nat.le_of_ble_eq_true rfl⟩ (Nat.zero_le _) (Nat.zero_le _) rfl rfl (Nat.le_of_ble_eq_true rfl) rfl (dX10_odds 4 rfl) ?_
    refine R_if_eq (tgt := 23) (dX10_odds 5 rfl) (by decide) (fun hc => ?_) (fun hc => ?_)
    · have H := ite_T H hc
      refine R_ldc2 (z := (-4611686018427387904)) tb_1417 ⟨by decide, by decide⟩ (dX10_odds 11 rfl) ?_
      exact R_lret rfl (Nat.zero_le _) (Nat.zero_le _) (dX10_odds 12 rfl) ⟨congrArg (fun z => some (Sum.inr (Sum.inl z))) (Prod.mk.inj (Option.some.inj H)).1, rfl, (Prod.mk.inj (Option.some.inj H)).2⟩
    · have H := ite_F H hc
      refine R_iload_n (i := 3) (dX10_odds 6 rfl) rfl rfl ?_
      refine R_iconst (dX10_odds 7 rfl) rfl ?_
      refine R_iconst (dX10_odds 8 rfl) rfl ?_
      refine R_cS (st' := [.inl (f_X10_in x3 0 1)]) [.inl x3, .inl 0, .inl 1] [] (t_X10_in l g S _   x3 0 1) msX10_in (Or.inl tb_1083) ⟨Nat.le_of_ble_eq_true rfl, Nat.le_of_ble_eq_true rfl⟩ (Nat.zero_le _) (Nat.zero_le _) rfl rfl (Nat.le_of_ble_eq_true rfl) rfl (dX10_odds 9 rfl) ?_
      refine R_if_ne (tgt := 27) (dX10_odds 10 rfl) (by decide) (fun hc => ?_) (fun hc => ?_)
      · have H := ite_F H hc
        refine R_aload_n (i := 0) (dX10_odds 13 rfl) rfl rfl ?_
        obtain ⟨r439, M440, hr, H⟩ := ob_E H
        refine R_cV (st' := []) [] [] (t_X10_finds l g ad S _ hS   hr) msX10_finds (Or.inl tb_1362) (Or.inl ⟨38, 10, _, _, _, (cl38 hS), rfl⟩) ⟨Nat.le_of_ble_eq_true rfl, Nat.le_of_ble_eq_true rfl⟩ (Nat.zero_le _) (Nat.zero_le _) rfl rfl (Nat.le_of_ble_eq_true rfl) rfl (dX10_odds 14 rfl) ?_
        refine R_aload_n (i := 0) (dX10_odds 15 rfl) rfl rfl ?_
        refine R_aload_n (i := 0) (dX10_odds 16 rfl) rfl rfl ?_
        refine R_iload_n (i := 1) (dX10_odds 17 rfl) rfl rfl ?_
        refine R_iload_n (i := 2) (dX10_odds 18 rfl) rfl rfl ?_
        obtain ⟨r441, hr, H⟩ := op_E H
        refine R_cV (st' := [.inl r441, .inr (.inr (some (ad 38)))]) [.inl x1, .inl x2] [.inr (.inr (some (ad 38)))] (t_X10_meansIn l g ad S _ hS   x1 x2 hr) msX10_meansIn (Or.inl tb_1397) (Or.inl ⟨38, 10, _, _, _, (cl38 hS), rfl⟩) ⟨Nat.le_of_ble_eq_true rfl, Nat.le_of_ble_eq_true rfl⟩ (Nat.zero_le _) (Nat.zero_le _) rfl rfl (Nat.le_of_ble_eq_true rfl) rfl (dX10_odds 19 rfl) ?_
        refine R_iload_n (i := 3) (dX10_odds 20 rfl) rfl rfl ?_
        obtain ⟨r442, hr, H⟩ := op_E H
        refine R_cV (st' := [.inr (.inl r442)]) [.inl r441, .inl x3] [] (t_X10_ofAll l g ad S _ hS   r441 x3 hr) msX10_ofAll (Or.inl tb_1418) (Or.inl ⟨38, 10, _, _, _, (cl38 hS), rfl⟩) ⟨Nat.le_of_ble_eq_true rfl, Nat.le_of_ble_eq_true rfl⟩ (Nat.zero_le _) (Nat.zero_le _) rfl rfl (Nat.le_of_ble_eq_true rfl) rfl (dX10_odds 21 rfl) ?_
        exact R_lret rfl (Nat.zero_le _) (Nat.zero_le _) (dX10_odds 22 rfl) ⟨congrArg (fun z => some (Sum.inr (Sum.inl z))) (Prod.mk.inj (Option.some.inj H)).1, rfl, (Prod.mk.inj (Option.some.inj H)).2⟩
      · have H := ite_T H hc
        refine R_ldc2 (z := (-4611686018427387904)) tb_1417 ⟨by decide, by decide⟩ (dX10_odds 11 rfl) ?_
        exact R_lret rfl (Nat.zero_le _) (Nat.zero_le _) (dX10_odds 12 rfl) ⟨congrArg (fun z => some (Sum.inr (Sum.inl z))) (Prod.mk.inj (Option.some.inj H)).1, rfl, (Prod.mk.inj (Option.some.inj H)).2⟩
def f_X10_has_L41 (K85 : Int → Mem → Option (Int × Mem)) (x1 : Int) (x2 : Int) (x3 : Int) : Nat → Int → Int → Mem → Option (Int × Mem)
  | 0, _, _, _ => none
  | n + 1, x4, x5, M =>
    if x5 < M 38 40 then
      if 0 ≤ x5 ∧ x5 < 720 then
        (f_X10_hasIn x1 (M 58 (x5).toNat) M).bind fun r445 =>
        if b_and x2 (b_xor r445 (-1)) = 0 then
          f_X10_has_L41 K85 x1 x2 x3 n (w32 (x4 + 1)) (w32 (x5 + 1)) M
        else
          f_X10_has_L41 K85 x1 x2 x3 n (w32 (x4 + 0)) (w32 (x5 + 1)) M
      else none
    else
      K85 x4 M
set_option maxHeartbeats 4000000 in
theorem t_X10_has_L41 (l : Launch) (g : GG) (ad : Nat → Nat) (S : SW) (hS : q_ag 38 63 ad S) (x1 : Int) (x2 : Int) (x3 : Int) {K85 : Int → Mem → Option (Int × Mem)} {r : Int} {M' : Mem} : ∀ (n : Nat) (x4 : Int) (x5 : Int) (M : Mem), f_X10_has_L41 K85 x1 x2 x3 n x4 x5 M = some (r, M') → (∀ (z4 : Int) (M1 : Mem), K85 z4 M1 = some (r, M') → RW l g MX10_has (q_rm 6 0 0) 0 0 (q_ex S (some (.inr (.inl r))) M') 85 S M1 0 0 [some (.inr (.inr (some (ad 38)))), none, none, some (.inl x3), some (.inl z4), none] []) → RW l g MX10_has (q_rm 6 0 0) 0 0 (q_ex S (some (.inr (.inl r))) M') 41 S M 0 0 [some (.inr (.inr (some (ad 38)))), some (.inl x1), some (.inl x2), some (.inl x3), some (.inl x4), some (.inl x5)] [] := by
  intro n
  induction n with
  | zero => intro x4 x5 M H; exact absurd H (by simp [f_X10_has_L41])
  | succ n ih =>
    intro x4 x5 M H hK85
    rw [f_X10_has_L41] at H
    refine R_iload (i := 5) (dX10_has 22 rfl) rfl ?_
    refine R_aload_n (i := 0) (dX10_has 23 rfl) rfl rfl ?_
    refine R_getI cgX10 38 (cl38 hS) 40 (Nat.le_of_ble_eq_true rfl) rfl (Or.inl tb_1167) (dX10_has 24 rfl) ?_
    refine R_icmp_ge (tgt := 85) (dX10_has 25 rfl) (by decide) (fun hc => ?_) (fun hc => ?_)
    · have H := ite_F H hc
      refine R_mask [true, false, false, true, true, false] rfl ?_
      exact hK85 x4 M H
    · have H := ite_T H hc
      refine R_iload (i := 4) (dX10_has 26 rfl) rfl ?_
      refine R_iload_n (i := 2) (dX10_has 27 rfl) rfl rfl ?_
      refine R_aload_n (i := 0) (dX10_has 28 rfl) rfl rfl ?_
      refine R_iload_n (i := 1) (dX10_has 29 rfl) rfl rfl ?_
      refine R_aload_n (i := 0) (dX10_has 30 rfl) rfl rfl ?_
      refine R_getR cgX10 38 (cl38 hS) 39 (Nat.le_of_ble_eq_true rfl) rfl (Or.inl tb_1166) (dX10_has 31 rfl) ?_
      refine R_iload (i := 5) (dX10_has 32 rfl) rfl ?_
      obtain ⟨hg, H⟩ := ite_G H
      refine R_iald 58 (cl58 hS) hg (dX10_has 33 rfl) ?_
      obtain ⟨r445, hr, H⟩ := op_E H
      refine R_cV (st' := [.inl r445, .inl x2, .inl x4]) [.inl x1, .inl (M 58 (x5).toNat)] [.inl x2, .inl x4] (t_X10_hasIn l g ad S _ hS   x1 (M 58 (x5).toNat) hr) msX10_hasIn (Or.inl tb_1374) (Or.inl ⟨38, 10, _, _, _, (cl38 hS), rfl⟩) ⟨Nat.le_of_ble_eq_true rfl, Nat.le_of_ble_eq_true rfl⟩ (Nat.zero_le _) (Nat.zero_le _) rfl rfl (Nat.le_of_ble_eq_true rfl) rfl (dX10_has 34 rfl) ?_
      refine R_iconst (dX10_has 35 rfl) rfl ?_
      refine R_ixor (dX10_has 36 rfl) ?_
      refine R_iand (dX10_has 37 rfl) ?_
      refine R_if_ne (tgt := 75) (dX10_has 38 rfl) (by decide) (fun hc => ?_) (fun hc => ?_)
      · have H := ite_F H hc
        refine R_iconst (dX10_has 41 rfl) rfl ?_
        refine R_iadd (dX10_has 42 rfl) ?_
        refine R_istore (i := 4) (ls' := [some (.inr (.inr (some (ad 38)))), some (.inl x1), some (.inl x2), some (.inl x3), some (.inl (w32 (x4 + 0))), some (.inl x5)]) (dX10_has 43 rfl) (Nat.le_of_ble_eq_true rfl) (Nat.le_of_ble_eq_true rfl) rfl rfl ?_
        refine R_iinc (i := 5) (ls' := [some (.inr (.inr (some (ad 38)))), some (.inl x1), some (.inl x2), some (.inl x3), some (.inl (w32 (x4 + 0))), some (.inl (w32 (x5 + 1)))]) (dX10_has 44 rfl) rfl (Nat.le_of_ble_eq_true rfl) rfl rfl ?_
        refine R_goto (tgt := 41) (dX10_has 45 rfl) (by decide) ?_
        exact ih (w32 (x4 + 0)) (w32 (x5 + 1)) M H hK85
      · have H := ite_T H hc
        refine R_iconst (dX10_has 39 rfl) rfl ?_
        refine R_goto (tgt := 76) (dX10_has 40 rfl) (by decide) ?_
        refine R_iadd (dX10_has 42 rfl) ?_
        refine R_istore (i := 4) (ls' := [some (.inr (.inr (some (ad 38)))), some (.inl x1), some (.inl x2), some (.inl x3), some (.inl (w32 (x4 + 1))), some (.inl x5)]) (dX10_has 43 rfl) (Nat.le_of_ble_eq_true rfl) (Nat.le_of_ble_eq_true rfl) rfl rfl ?_
        refine R_iinc (i := 5) (ls' := [some (.inr (.inr (some (ad 38)))), some (.inl x1), some (.inl x2), some (.inl x3), some (.inl (w32 (x4 + 1))), some (.inl (w32 (x5 + 1)))]) (dX10_has 44 rfl) rfl (Nat.le_of_ble_eq_true rfl) rfl rfl ?_
        refine R_goto (tgt := 41) (dX10_has 45 rfl) (by decide) ?_
        exact ih (w32 (x4 + 1)) (w32 (x5 + 1)) M H hK85
def f_X10_has (x1 : Int) (x2 : Int) (x3 : Int) (M : Mem) : Option (Int × Mem) :=
  if f_X10_isLine x1 M = 0 then
    some ((-4611686018427387904), M)
  else
    if f_X10_in x2 0 63 = 0 then
      some ((-4611686018427387904), M)
    else
      if f_X10_in x3 0 1 = 0 then
        some ((-4611686018427387904), M)
      else
        ob (f_X10_finds M) fun r443 M444 =>
        f_X10_has_L41
          (fun y446 M447 =>
            (f_X10_ofAll y446 x3 M447).bind fun r448 =>
            some (r448, M447)
          )
          x1 x2 x3 100000 0 0 M444
set_option maxHeartbeats 4000000 in
theorem t_X10_has (l : Launch) (g : GG) (ad : Nat → Nat) (S : SW) (M : Mem) (hS : q_ag 38 63 ad S) (x1 : Int) (x2 : Int) (x3 : Int) {r : Int} {M' : Mem} (H : f_X10_has x1 x2 x3 M = some (r, M')) : CT l g MX10_has 6 0 0 S M [.inr (.inr (some (ad 38))), .inl x1, .inl x2, .inl x3] (q_ex S (some (.inr (.inl r))) M') := by
  unfold f_X10_has at H
  refine CT_of (ls0 := [some (.inr (.inr (some (ad 38)))), some (.inl x1), some (.inl x2), some (.inl x3), none, none]) (by decide +kernel) (Nat.le_of_ble_eq_true rfl) rfl ?_
  refine R_aload_n (i := 0) (dX10_has 0 rfl) rfl rfl ?_
  refine R_iload_n (i := 1) (dX10_has 1 rfl) rfl rfl ?_
  refine R_cV (st' := [.inl (f_X10_isLine x1 M)]) [.inl x1] [] (t_X10_isLine l g ad S _ hS   x1) msX10_isLine (Or.inl tb_1280) (Or.inl ⟨38, 10, _, _, _, (cl38 hS), rfl⟩) ⟨Nat.le_of_ble_eq_true rfl, Nat.le_of_ble_eq_true rfl⟩ (Nat.zero_le _) (Nat.zero_le _) rfl rfl (Nat.le_of_ble_eq_true rfl) rfl (dX10_has 2 rfl) ?_
  refine R_if_eq (tgt := 27) (dX10_has 3 rfl) (by decide) (fun hc => ?_) (fun hc => ?_)
  · have H := ite_T H hc
    refine R_ldc2 (z := (-4611686018427387904)) tb_1417 ⟨by decide, by decide⟩ (dX10_has 14 rfl) ?_
    exact R_lret rfl (Nat.zero_le _) (Nat.zero_le _) (dX10_has 15 rfl) ⟨congrArg (fun z => some (Sum.inr (Sum.inl z))) (Prod.mk.inj (Option.some.inj H)).1, rfl, (Prod.mk.inj (Option.some.inj H)).2⟩
  · have H := ite_F H hc
    refine R_iload_n (i := 2) (dX10_has 4 rfl) rfl rfl ?_
    refine R_iconst (dX10_has 5 rfl) rfl ?_
    refine R_bipush (dX10_has 6 rfl) rfl rfl ?_
    refine R_cS (st' := [.inl (f_X10_in x2 0 63)]) [.inl x2, .inl 0, .inl 63] [] (t_X10_in l g S _   x2 0 63) msX10_in (Or.inl tb_1083) ⟨Nat.le_of_ble_eq_true rfl, Nat.le_of_ble_eq_true rfl⟩ (Nat.zero_le _) (Nat.zero_le _) rfl rfl (Nat.le_of_ble_eq_true rfl) rfl (dX10_has 7 rfl) ?_
    refine R_if_eq (tgt := 27) (dX10_has 8 rfl) (by decide) (fun hc => ?_) (fun hc => ?_)
    · have H := ite_T H hc
      refine R_ldc2 (z := (-4611686018427387904)) tb_1417 ⟨by decide, by decide⟩ (dX10_has 14 rfl) ?_
      exact R_lret rfl (Nat.zero_le _) (Nat.zero_le _) (dX10_has 15 rfl) ⟨congrArg (fun z => some (Sum.inr (Sum.inl z))) (Prod.mk.inj (Option.some.inj H)).1, rfl, (Prod.mk.inj (Option.some.inj H)).2⟩
    · have H := ite_F H hc
      refine R_iload_n (i := 3) (dX10_has 9 rfl) rfl rfl ?_
      refine R_iconst (dX10_has 10 rfl) rfl ?_
      refine R_iconst (dX10_has 11 rfl) rfl ?_
      refine R_cS (st' := [.inl (f_X10_in x3 0 1)]) [.inl x3, .inl 0, .inl 1] [] (t_X10_in l g S _   x3 0 1) msX10_in (Or.inl tb_1083) ⟨Nat.le_of_ble_eq_true rfl, Nat.le_of_ble_eq_true rfl⟩ (Nat.zero_le _) (Nat.zero_le _) rfl rfl (Nat.le_of_ble_eq_true rfl) rfl (dX10_has 12 rfl) ?_
      refine R_if_ne (tgt := 31) (dX10_has 13 rfl) (by decide) (fun hc => ?_) (fun hc => ?_)
      · have H := ite_F H hc
        refine R_aload_n (i := 0) (dX10_has 16 rfl) rfl rfl ?_
        obtain ⟨r443, M444, hr, H⟩ := ob_E H
        refine R_cV (st' := []) [] [] (t_X10_finds l g ad S _ hS   hr) msX10_finds (Or.inl tb_1362) (Or.inl ⟨38, 10, _, _, _, (cl38 hS), rfl⟩) ⟨Nat.le_of_ble_eq_true rfl, Nat.le_of_ble_eq_true rfl⟩ (Nat.zero_le _) (Nat.zero_le _) rfl rfl (Nat.le_of_ble_eq_true rfl) rfl (dX10_has 17 rfl) ?_
        refine R_iconst (dX10_has 18 rfl) rfl ?_
        refine R_istore (i := 4) (ls' := [some (.inr (.inr (some (ad 38)))), some (.inl x1), some (.inl x2), some (.inl x3), some (.inl 0), none]) (dX10_has 19 rfl) (Nat.le_of_ble_eq_true rfl) (Nat.le_of_ble_eq_true rfl) rfl rfl ?_
        refine R_iconst (dX10_has 20 rfl) rfl ?_
        refine R_istore (i := 5) (ls' := [some (.inr (.inr (some (ad 38)))), some (.inl x1), some (.inl x2), some (.inl x3), some (.inl 0), some (.inl 0)]) (dX10_has 21 rfl) (Nat.le_of_ble_eq_true rfl) (Nat.le_of_ble_eq_true rfl) rfl rfl ?_
        refine t_X10_has_L41 l g ad S hS x1 x2 x3  100000 0 0 M444 H (fun y446 M447 H => ?_)
        refine R_aload_n (i := 0) (dX10_has 46 rfl) rfl rfl ?_
        refine R_iload (i := 4) (dX10_has 47 rfl) rfl ?_
        refine R_iload_n (i := 3) (dX10_has 48 rfl) rfl rfl ?_
        obtain ⟨r448, hr, H⟩ := op_E H
        refine R_cV (st' := [.inr (.inl r448)]) [.inl y446, .inl x3] [] (t_X10_ofAll l g ad S _ hS   y446 x3 hr) msX10_ofAll (Or.inl tb_1418) (Or.inl ⟨38, 10, _, _, _, (cl38 hS), rfl⟩) ⟨Nat.le_of_ble_eq_true rfl, Nat.le_of_ble_eq_true rfl⟩ (Nat.zero_le _) (Nat.zero_le _) rfl rfl (Nat.le_of_ble_eq_true rfl) rfl (dX10_has 49 rfl) ?_
        exact R_lret rfl (Nat.zero_le _) (Nat.zero_le _) (dX10_has 50 rfl) ⟨congrArg (fun z => some (Sum.inr (Sum.inl z))) (Prod.mk.inj (Option.some.inj H)).1, rfl, (Prod.mk.inj (Option.some.inj H)).2⟩
      · have H := ite_T H hc
        refine R_ldc2 (z := (-4611686018427387904)) tb_1417 ⟨by decide, by decide⟩ (dX10_has 14 rfl) ?_
        exact R_lret rfl (Nat.zero_le _) (Nat.zero_le _) (dX10_has 15 rfl) ⟨congrArg (fun z => some (Sum.inr (Sum.inl z))) (Prod.mk.inj (Option.some.inj H)).1, rfl, (Prod.mk.inj (Option.some.inj H)).2⟩
def f_X10_partsOfLine_L36 (K83 : Int → Int → Mem → Option (Int × Mem)) (x1 : Int) (x2 : Int) : Nat → Int → Int → Int → Mem → Option (Int × Mem)
  | 0, _, _, _, _ => none
  | n + 1, x3, x4, x5, M =>
    if x5 < M 38 40 then
      if 0 ≤ x5 ∧ x5 < 720 then
        (f_X10_hasIn x1 (M 58 (x5).toNat) M).bind fun r451 =>
        if 0 ≤ x5 ∧ x5 < 720 then
          (f_X10_hasIn x1 (M 58 (x5).toNat) M).bind fun r452 =>
          f_X10_partsOfLine_L36 K83 x1 x2 n (b_and x3 r451) (b_or x4 r452) (w32 (x5 + 1)) M
        else none
      else none
    else
      K83 x3 x4 M
set_option maxHeartbeats 4000000 in
theorem t_X10_partsOfLine_L36 (l : Launch) (g : GG) (ad : Nat → Nat) (S : SW) (hS : q_ag 38 63 ad S) (x1 : Int) (x2 : Int) {K83 : Int → Int → Mem → Option (Int × Mem)} {r : Int} {M' : Mem} : ∀ (n : Nat) (x3 : Int) (x4 : Int) (x5 : Int) (M : Mem), f_X10_partsOfLine_L36 K83 x1 x2 n x3 x4 x5 M = some (r, M') → (∀ (z3 : Int) (z4 : Int) (M1 : Mem), K83 z3 z4 M1 = some (r, M') → RW l g MX10_partsOfLine (q_rm 6 0 0) 0 0 (q_ex S (some (.inl r)) M') 83 S M1 0 0 [some (.inr (.inr (some (ad 38)))), none, some (.inl x2), some (.inl z3), some (.inl z4), none] []) → RW l g MX10_partsOfLine (q_rm 6 0 0) 0 0 (q_ex S (some (.inl r)) M') 36 S M 0 0 [some (.inr (.inr (some (ad 38)))), some (.inl x1), some (.inl x2), some (.inl x3), some (.inl x4), some (.inl x5)] [] := by
  intro n
  induction n with
  | zero => intro x3 x4 x5 M H; exact absurd H (by simp [f_X10_partsOfLine_L36])
  | succ n ih =>
    intro x3 x4 x5 M H hK83
    rw [f_X10_partsOfLine_L36] at H
    refine R_iload (i := 5) (dX10_partsOfLine 21 rfl) rfl ?_
    refine R_aload_n (i := 0) (dX10_partsOfLine 22 rfl) rfl rfl ?_
    refine R_getI cgX10 38 (cl38 hS) 40 (Nat.le_of_ble_eq_true rfl) rfl (Or.inl tb_1167) (dX10_partsOfLine 23 rfl) ?_
    refine R_icmp_ge (tgt := 83) (dX10_partsOfLine 24 rfl) (by decide) (fun hc => ?_) (fun hc => ?_)
    · have H := ite_F H hc
      refine R_mask [true, false, true, true, true, false] rfl ?_
      exact hK83 x3 x4 M H
    · have H := ite_T H hc
      refine R_iload_n (i := 3) (dX10_partsOfLine 25 rfl) rfl rfl ?_
      refine R_aload_n (i := 0) (dX10_partsOfLine 26 rfl) rfl rfl ?_
      refine R_iload_n (i := 1) (dX10_partsOfLine 27 rfl) rfl rfl ?_
      refine R_aload_n (i := 0) (dX10_partsOfLine 28 rfl) rfl rfl ?_
      refine R_getR cgX10 38 (cl38 hS) 39 (Nat.le_of_ble_eq_true rfl) rfl (Or.inl tb_1166) (dX10_partsOfLine 29 rfl) ?_
      refine R_iload (i := 5) (dX10_partsOfLine 30 rfl) rfl ?_
      obtain ⟨hg, H⟩ := ite_G H
      refine R_iald 58 (cl58 hS) hg (dX10_partsOfLine 31 rfl) ?_
      obtain ⟨r451, hr, H⟩ := op_E H
      refine R_cV (st' := [.inl r451, .inl x3]) [.inl x1, .inl (M 58 (x5).toNat)] [.inl x3] (t_X10_hasIn l g ad S _ hS   x1 (M 58 (x5).toNat) hr) msX10_hasIn (Or.inl tb_1374) (Or.inl ⟨38, 10, _, _, _, (cl38 hS), rfl⟩) ⟨Nat.le_of_ble_eq_true rfl, Nat.le_of_ble_eq_true rfl⟩ (Nat.zero_le _) (Nat.zero_le _) rfl rfl (Nat.le_of_ble_eq_true rfl) rfl (dX10_partsOfLine 32 rfl) ?_
      refine R_iand (dX10_partsOfLine 33 rfl) ?_
      refine R_istore_n (i := 3) (ls' := [some (.inr (.inr (some (ad 38)))), some (.inl x1), some (.inl x2), some (.inl (b_and x3 r451)), some (.inl x4), some (.inl x5)]) (dX10_partsOfLine 34 rfl) rfl (Nat.le_of_ble_eq_true rfl) (Nat.le_of_ble_eq_true rfl) rfl rfl ?_
      refine R_iload (i := 4) (dX10_partsOfLine 35 rfl) rfl ?_
      refine R_aload_n (i := 0) (dX10_partsOfLine 36 rfl) rfl rfl ?_
      refine R_iload_n (i := 1) (dX10_partsOfLine 37 rfl) rfl rfl ?_
      refine R_aload_n (i := 0) (dX10_partsOfLine 38 rfl) rfl rfl ?_
      refine R_getR cgX10 38 (cl38 hS) 39 (Nat.le_of_ble_eq_true rfl) rfl (Or.inl tb_1166) (dX10_partsOfLine 39 rfl) ?_
      refine R_iload (i := 5) (dX10_partsOfLine 40 rfl) rfl ?_
      obtain ⟨hg, H⟩ := ite_G H
      refine R_iald 58 (cl58 hS) hg (dX10_partsOfLine 41 rfl) ?_
      obtain ⟨r452, hr, H⟩ := op_E H
      refine R_cV (st' := [.inl r452, .inl x4]) [.inl x1, .inl (M 58 (x5).toNat)] [.inl x4] (t_X10_hasIn l g ad S _ hS   x1 (M 58 (x5).toNat) hr) msX10_hasIn (Or.inl tb_1374) (Or.inl ⟨38, 10, _, _, _, (cl38 hS), rfl⟩) ⟨Nat.le_of_ble_eq_true rfl, Nat.le_of_ble_eq_true rfl⟩ (Nat.zero_le _) (Nat.zero_le _) rfl rfl (Nat.le_of_ble_eq_true rfl) rfl (dX10_partsOfLine 42 rfl) ?_
      refine R_ior (dX10_partsOfLine 43 rfl) ?_
      refine R_istore (i := 4) (ls' := [some (.inr (.inr (some (ad 38)))), some (.inl x1), some (.inl x2), some (.inl (b_and x3 r451)), some (.inl (b_or x4 r452)), some (.inl x5)]) (dX10_partsOfLine 44 rfl) (Nat.le_of_ble_eq_true rfl) (Nat.le_of_ble_eq_true rfl) rfl rfl ?_
      refine R_iinc (i := 5) (ls' := [some (.inr (.inr (some (ad 38)))), some (.inl x1), some (.inl x2), some (.inl (b_and x3 r451)), some (.inl (b_or x4 r452)), some (.inl (w32 (x5 + 1)))]) (dX10_partsOfLine 45 rfl) rfl (Nat.le_of_ble_eq_true rfl) rfl rfl ?_
      refine R_goto (tgt := 36) (dX10_partsOfLine 46 rfl) (by decide) ?_
      exact ih (b_and x3 r451) (b_or x4 r452) (w32 (x5 + 1)) M H hK83
def f_X10_partsOfLine (x1 : Int) (x2 : Int) (M : Mem) : Option (Int × Mem) :=
  if f_X10_isLine x1 M = 0 then
    some ((-5), M)
  else
    if f_X10_in x2 0 1 = 0 then
      some ((-7), M)
    else
      ob (f_X10_finds M) fun r449 M450 =>
      f_X10_partsOfLine_L36
        (fun y453 y454 M455 =>
          if M455 38 40 = 0 then
            some ((-1), M455)
          else
            if x2 = 0 then
              some (y453, M455)
            else
              some (y454, M455)
        )
        x1 x2 100000 63 0 0 M450
set_option maxHeartbeats 4000000 in
theorem t_X10_partsOfLine (l : Launch) (g : GG) (ad : Nat → Nat) (S : SW) (M : Mem) (hS : q_ag 38 63 ad S) (x1 : Int) (x2 : Int) {r : Int} {M' : Mem} (H : f_X10_partsOfLine x1 x2 M = some (r, M')) : CT l g MX10_partsOfLine 6 0 0 S M [.inr (.inr (some (ad 38))), .inl x1, .inl x2] (q_ex S (some (.inl r)) M') := by
  unfold f_X10_partsOfLine at H
  refine CT_of (ls0 := [some (.inr (.inr (some (ad 38)))), some (.inl x1), some (.inl x2), none, none, none]) (by decide +kernel) (Nat.le_of_ble_eq_true rfl) rfl ?_
  refine R_aload_n (i := 0) (dX10_partsOfLine 0 rfl) rfl rfl ?_
  refine R_iload_n (i := 1) (dX10_partsOfLine 1 rfl) rfl rfl ?_
  refine R_cV (st' := [.inl (f_X10_isLine x1 M)]) [.inl x1] [] (t_X10_isLine l g ad S _ hS   x1) msX10_isLine (Or.inl tb_1280) (Or.inl ⟨38, 10, _, _, _, (cl38 hS), rfl⟩) ⟨Nat.le_of_ble_eq_true rfl, Nat.le_of_ble_eq_true rfl⟩ (Nat.zero_le _) (Nat.zero_le _) rfl rfl (Nat.le_of_ble_eq_true rfl) rfl (dX10_partsOfLine 2 rfl) ?_
  refine R_if_ne (tgt := 11) (dX10_partsOfLine 3 rfl) (by decide) (fun hc => ?_) (fun hc => ?_)
  · have H := ite_F H hc
    refine R_iload_n (i := 2) (dX10_partsOfLine 6 rfl) rfl rfl ?_
    refine R_iconst (dX10_partsOfLine 7 rfl) rfl ?_
    refine R_iconst (dX10_partsOfLine 8 rfl) rfl ?_
    refine R_cS (st' := [.inl (f_X10_in x2 0 1)]) [.inl x2, .inl 0, .inl 1] [] (t_X10_in l g S _   x2 0 1) msX10_in (Or.inl tb_1083) ⟨Nat.le_of_ble_eq_true rfl, Nat.le_of_ble_eq_true rfl⟩ (Nat.zero_le _) (Nat.zero_le _) rfl rfl (Nat.le_of_ble_eq_true rfl) rfl (dX10_partsOfLine 9 rfl) ?_
    refine R_if_ne (tgt := 23) (dX10_partsOfLine 10 rfl) (by decide) (fun hc => ?_) (fun hc => ?_)
    · have H := ite_F H hc
      refine R_aload_n (i := 0) (dX10_partsOfLine 13 rfl) rfl rfl ?_
      obtain ⟨r449, M450, hr, H⟩ := ob_E H
      refine R_cV (st' := []) [] [] (t_X10_finds l g ad S _ hS   hr) msX10_finds (Or.inl tb_1362) (Or.inl ⟨38, 10, _, _, _, (cl38 hS), rfl⟩) ⟨Nat.le_of_ble_eq_true rfl, Nat.le_of_ble_eq_true rfl⟩ (Nat.zero_le _) (Nat.zero_le _) rfl rfl (Nat.le_of_ble_eq_true rfl) rfl (dX10_partsOfLine 14 rfl) ?_
      refine R_bipush (dX10_partsOfLine 15 rfl) rfl rfl ?_
      refine R_istore_n (i := 3) (ls' := [some (.inr (.inr (some (ad 38)))), some (.inl x1), some (.inl x2), some (.inl 63), none, none]) (dX10_partsOfLine 16 rfl) rfl (Nat.le_of_ble_eq_true rfl) (Nat.le_of_ble_eq_true rfl) rfl rfl ?_
      refine R_iconst (dX10_partsOfLine 17 rfl) rfl ?_
      refine R_istore (i := 4) (ls' := [some (.inr (.inr (some (ad 38)))), some (.inl x1), some (.inl x2), some (.inl 63), some (.inl 0), none]) (dX10_partsOfLine 18 rfl) (Nat.le_of_ble_eq_true rfl) (Nat.le_of_ble_eq_true rfl) rfl rfl ?_
      refine R_iconst (dX10_partsOfLine 19 rfl) rfl ?_
      refine R_istore (i := 5) (ls' := [some (.inr (.inr (some (ad 38)))), some (.inl x1), some (.inl x2), some (.inl 63), some (.inl 0), some (.inl 0)]) (dX10_partsOfLine 20 rfl) (Nat.le_of_ble_eq_true rfl) (Nat.le_of_ble_eq_true rfl) rfl rfl ?_
      refine t_X10_partsOfLine_L36 l g ad S hS x1 x2  100000 63 0 0 M450 H (fun y453 y454 M455 H => ?_)
      refine R_aload_n (i := 0) (dX10_partsOfLine 47 rfl) rfl rfl ?_
      refine R_getI cgX10 38 (cl38 hS) 40 (Nat.le_of_ble_eq_true rfl) rfl (Or.inl tb_1167) (dX10_partsOfLine 48 rfl) ?_
      refine R_if_ne (tgt := 94) (dX10_partsOfLine 49 rfl) (by decide) (fun hc => ?_) (fun hc => ?_)
      · have H := ite_F H hc
        refine R_iload_n (i := 2) (dX10_partsOfLine 52 rfl) rfl rfl ?_
        refine R_if_ne (tgt := 102) (dX10_partsOfLine 53 rfl) (by decide) (fun hc => ?_) (fun hc => ?_)
        · have H := ite_F H hc
          refine R_iload (i := 4) (dX10_partsOfLine 56 rfl) rfl ?_
          exact R_iret rfl rfl (Nat.zero_le _) (Nat.zero_le _) (dX10_partsOfLine 57 rfl) ⟨congrArg (fun z => some (Sum.inl z)) (Prod.mk.inj (Option.some.inj H)).1, rfl, (Prod.mk.inj (Option.some.inj H)).2⟩
        · have H := ite_T H hc
          refine R_iload_n (i := 3) (dX10_partsOfLine 54 rfl) rfl rfl ?_
          refine R_goto (tgt := 104) (dX10_partsOfLine 55 rfl) (by decide) ?_
          exact R_iret rfl rfl (Nat.zero_le _) (Nat.zero_le _) (dX10_partsOfLine 57 rfl) ⟨congrArg (fun z => some (Sum.inl z)) (Prod.mk.inj (Option.some.inj H)).1, rfl, (Prod.mk.inj (Option.some.inj H)).2⟩
      · have H := ite_T H hc
        refine R_iconst (dX10_partsOfLine 50 rfl) rfl ?_
        refine R_goto (tgt := 104) (dX10_partsOfLine 51 rfl) (by decide) ?_
        exact R_iret rfl rfl (Nat.zero_le _) (Nat.zero_le _) (dX10_partsOfLine 57 rfl) ⟨congrArg (fun z => some (Sum.inl z)) (Prod.mk.inj (Option.some.inj H)).1, rfl, (Prod.mk.inj (Option.some.inj H)).2⟩
    · have H := ite_T H hc
      refine R_bipush (dX10_partsOfLine 11 rfl) rfl rfl ?_
      exact R_iret rfl rfl (Nat.zero_le _) (Nat.zero_le _) (dX10_partsOfLine 12 rfl) ⟨congrArg (fun z => some (Sum.inl z)) (Prod.mk.inj (Option.some.inj H)).1, rfl, (Prod.mk.inj (Option.some.inj H)).2⟩
  · have H := ite_T H hc
    refine R_bipush (dX10_partsOfLine 4 rfl) rfl rfl ?_
    exact R_iret rfl rfl (Nat.zero_le _) (Nat.zero_le _) (dX10_partsOfLine 5 rfl) ⟨congrArg (fun z => some (Sum.inl z)) (Prod.mk.inj (Option.some.inj H)).1, rfl, (Prod.mk.inj (Option.some.inj H)).2⟩
def f_X10_shunnedIn_L5 (x1 : Int) (x2 : Int) (M : Mem) : Nat → Int → Int → Option Int
  | 0, _, _ => none
  | n + 1, x3, x4 =>
    if x4 < M 38 40 then
      if 0 ≤ x4 ∧ x4 < 720 then
        (f_X10_hasIn x2 (M 58 (x4).toNat) M).bind fun r456 =>
        if 0 ≤ x1 ∧ x1 < 4 then
          if b_and r456 (M 41 (x1).toNat) = 0 then
            f_X10_shunnedIn_L5 x1 x2 M n (w32 (x3 + 0)) (w32 (x4 + 1))
          else
            f_X10_shunnedIn_L5 x1 x2 M n (w32 (x3 + 1)) (w32 (x4 + 1))
        else none
      else none
    else
      some x3
set_option maxHeartbeats 4000000 in
theorem t_X10_shunnedIn_L5 (l : Launch) (g : GG) (ad : Nat → Nat) (S : SW) (M : Mem) (hS : q_ag 38 63 ad S) (x1 : Int) (x2 : Int) {r : Int} : ∀ (n : Nat) (x3 : Int) (x4 : Int), f_X10_shunnedIn_L5 x1 x2 M n x3 x4 = some r → RW l g MX10_shunnedIn (q_rm 2 0 0) 0 0 (q_ex S (some (.inl r)) M) 5 S M 0 0 [some (.inr (.inr (some (ad 38)))), some (.inl x1), some (.inl x2), some (.inl x3), some (.inl x4)] [] := by
  intro n
  induction n with
  | zero => intro x3 x4 H; exact absurd H (by simp [f_X10_shunnedIn_L5])
  | succ n ih =>
    intro x3 x4 H
    rw [f_X10_shunnedIn_L5] at H
    refine R_iload (i := 4) (dX10_shunnedIn 4 rfl) rfl ?_
    refine R_aload_n (i := 0) (dX10_shunnedIn 5 rfl) rfl rfl ?_
    refine R_getI cgX10 38 (cl38 hS) 40 (Nat.le_of_ble_eq_true rfl) rfl (Or.inl tb_1167) (dX10_shunnedIn 6 rfl) ?_
    refine R_icmp_ge (tgt := 50) (dX10_shunnedIn 7 rfl) (by decide) (fun hc => ?_) (fun hc => ?_)
    · have H := ite_F H hc
      refine R_iload_n (i := 3) (dX10_shunnedIn 29 rfl) rfl rfl ?_
      exact R_iret rfl rfl (Nat.zero_le _) (Nat.zero_le _) (dX10_shunnedIn 30 rfl) ⟨congrArg (fun z => some (Sum.inl z)) (Option.some.inj H), rfl, rfl⟩
    · have H := ite_T H hc
      refine R_iload_n (i := 3) (dX10_shunnedIn 8 rfl) rfl rfl ?_
      refine R_aload_n (i := 0) (dX10_shunnedIn 9 rfl) rfl rfl ?_
      refine R_iload_n (i := 2) (dX10_shunnedIn 10 rfl) rfl rfl ?_
      refine R_aload_n (i := 0) (dX10_shunnedIn 11 rfl) rfl rfl ?_
      refine R_getR cgX10 38 (cl38 hS) 39 (Nat.le_of_ble_eq_true rfl) rfl (Or.inl tb_1166) (dX10_shunnedIn 12 rfl) ?_
      refine R_iload (i := 4) (dX10_shunnedIn 13 rfl) rfl ?_
      obtain ⟨hg, H⟩ := ite_G H
      refine R_iald 58 (cl58 hS) hg (dX10_shunnedIn 14 rfl) ?_
      obtain ⟨r456, hr, H⟩ := op_E H
      refine R_cV (st' := [.inl r456, .inl x3]) [.inl x2, .inl (M 58 (x4).toNat)] [.inl x3] (t_X10_hasIn l g ad S _ hS   x2 (M 58 (x4).toNat) hr) msX10_hasIn (Or.inl tb_1374) (Or.inl ⟨38, 10, _, _, _, (cl38 hS), rfl⟩) ⟨Nat.le_of_ble_eq_true rfl, Nat.le_of_ble_eq_true rfl⟩ (Nat.zero_le _) (Nat.zero_le _) rfl rfl (Nat.le_of_ble_eq_true rfl) rfl (dX10_shunnedIn 15 rfl) ?_
      refine R_aload_n (i := 0) (dX10_shunnedIn 16 rfl) rfl rfl ?_
      refine R_getR cgX10 38 (cl38 hS) 4 (Nat.le_of_ble_eq_true rfl) rfl (Or.inl tb_1131) (dX10_shunnedIn 17 rfl) ?_
      refine R_iload_n (i := 1) (dX10_shunnedIn 18 rfl) rfl rfl ?_
      obtain ⟨hg, H⟩ := ite_G H
      refine R_iald 41 (cl41 hS) hg (dX10_shunnedIn 19 rfl) ?_
      refine R_iand (dX10_shunnedIn 20 rfl) ?_
      refine R_if_eq (tgt := 41) (dX10_shunnedIn 21 rfl) (by decide) (fun hc => ?_) (fun hc => ?_)
      · have H := ite_T H hc
        refine R_iconst (dX10_shunnedIn 24 rfl) rfl ?_
        refine R_iadd (dX10_shunnedIn 25 rfl) ?_
        refine R_istore_n (i := 3) (ls' := [some (.inr (.inr (some (ad 38)))), some (.inl x1), some (.inl x2), some (.inl (w32 (x3 + 0))), some (.inl x4)]) (dX10_shunnedIn 26 rfl) rfl (Nat.le_of_ble_eq_true rfl) (Nat.le_of_ble_eq_true rfl) rfl rfl ?_
        refine R_iinc (i := 4) (ls' := [some (.inr (.inr (some (ad 38)))), some (.inl x1), some (.inl x2), some (.inl (w32 (x3 + 0))), some (.inl (w32 (x4 + 1)))]) (dX10_shunnedIn 27 rfl) rfl (Nat.le_of_ble_eq_true rfl) rfl rfl ?_
        refine R_goto (tgt := 5) (dX10_shunnedIn 28 rfl) (by decide) ?_
        exact ih (w32 (x3 + 0)) (w32 (x4 + 1)) H
      · have H := ite_F H hc
        refine R_iconst (dX10_shunnedIn 22 rfl) rfl ?_
        refine R_goto (tgt := 42) (dX10_shunnedIn 23 rfl) (by decide) ?_
        refine R_iadd (dX10_shunnedIn 25 rfl) ?_
        refine R_istore_n (i := 3) (ls' := [some (.inr (.inr (some (ad 38)))), some (.inl x1), some (.inl x2), some (.inl (w32 (x3 + 1))), some (.inl x4)]) (dX10_shunnedIn 26 rfl) rfl (Nat.le_of_ble_eq_true rfl) (Nat.le_of_ble_eq_true rfl) rfl rfl ?_
        refine R_iinc (i := 4) (ls' := [some (.inr (.inr (some (ad 38)))), some (.inl x1), some (.inl x2), some (.inl (w32 (x3 + 1))), some (.inl (w32 (x4 + 1)))]) (dX10_shunnedIn 27 rfl) rfl (Nat.le_of_ble_eq_true rfl) rfl rfl ?_
        refine R_goto (tgt := 5) (dX10_shunnedIn 28 rfl) (by decide) ?_
        exact ih (w32 (x3 + 1)) (w32 (x4 + 1)) H
def f_X10_shunnedIn (x1 : Int) (x2 : Int) (M : Mem) : Option Int :=
  f_X10_shunnedIn_L5
    x1 x2 M 100000 0 0
set_option maxHeartbeats 4000000 in
theorem t_X10_shunnedIn (l : Launch) (g : GG) (ad : Nat → Nat) (S : SW) (M : Mem) (hS : q_ag 38 63 ad S) (x1 : Int) (x2 : Int) {r : Int} (H : f_X10_shunnedIn x1 x2 M = some r) : CT l g MX10_shunnedIn 2 0 0 S M [.inr (.inr (some (ad 38))), .inl x1, .inl x2] (q_ex S (some (.inl r)) M) := by
  unfold f_X10_shunnedIn at H
  refine CT_of (ls0 := [some (.inr (.inr (some (ad 38)))), some (.inl x1), some (.inl x2), none, none]) (by decide +kernel) (Nat.le_of_ble_eq_true rfl) rfl ?_
  refine R_iconst (dX10_shunnedIn 0 rfl) rfl ?_
  refine R_istore_n (i := 3) (ls' := [some (.inr (.inr (some (ad 38)))), some (.inl x1), some (.inl x2), some (.inl 0), none]) (dX10_shunnedIn 1 rfl) rfl (Nat.le_of_ble_eq_true rfl) (Nat.le_of_ble_eq_true rfl) rfl rfl ?_
  refine R_iconst (dX10_shunnedIn 2 rfl) rfl ?_
  refine R_istore (i := 4) (ls' := [some (.inr (.inr (some (ad 38)))), some (.inl x1), some (.inl x2), some (.inl 0), some (.inl 0)]) (dX10_shunnedIn 3 rfl) (Nat.le_of_ble_eq_true rfl) (Nat.le_of_ble_eq_true rfl) rfl rfl ?_
  exact t_X10_shunnedIn_L5 l g ad S M hS x1 x2  100000 0 0 H 
def f_X10_safeFor_L4 (x1 : Int) (M : Mem) : Nat → Int → Int → Option Int
  | 0, _, _ => none
  | n + 1, x2, x3 =>
    if x3 < M 38 0 then
      if 0 < M 38 40 then
        (f_X10_shunnedIn x1 x3 M).bind fun r457 =>
        if r457 = 0 then
          f_X10_safeFor_L4 x1 M n (b_or x2 (b_shl 1 x3)) (w32 (x3 + 1))
        else
          f_X10_safeFor_L4 x1 M n (b_or x2 0) (w32 (x3 + 1))
      else
        f_X10_safeFor_L4 x1 M n (b_or x2 0) (w32 (x3 + 1))
    else
      some x2
set_option maxHeartbeats 4000000 in
theorem t_X10_safeFor_L4 (l : Launch) (g : GG) (ad : Nat → Nat) (S : SW) (M : Mem) (hS : q_ag 38 63 ad S) (x1 : Int) {r : Int} : ∀ (n : Nat) (x2 : Int) (x3 : Int), f_X10_safeFor_L4 x1 M n x2 x3 = some r → RW l g MX10_safeFor (q_rm 3 0 0) 0 0 (q_ex S (some (.inl r)) M) 4 S M 0 0 [some (.inr (.inr (some (ad 38)))), some (.inl x1), some (.inl x2), some (.inl x3)] [] := by
  intro n
  induction n with
  | zero => intro x2 x3 H; exact absurd H (by simp [f_X10_safeFor_L4])
  | succ n ih =>
    intro x2 x3 H
    rw [f_X10_safeFor_L4] at H
    refine R_iload_n (i := 3) (dX10_safeFor 4 rfl) rfl rfl ?_
    refine R_aload_n (i := 0) (dX10_safeFor 5 rfl) rfl rfl ?_
    refine R_getI cgX10 38 (cl38 hS) 0 (Nat.le_of_ble_eq_true rfl) rfl (Or.inl tb_1127) (dX10_safeFor 6 rfl) ?_
    refine R_icmp_ge (tgt := 44) (dX10_safeFor 7 rfl) (by decide) (fun hc => ?_) (fun hc => ?_)
    · have H := ite_F H hc
      refine R_iload_n (i := 2) (dX10_safeFor 26 rfl) rfl rfl ?_
      exact R_iret rfl rfl (Nat.zero_le _) (Nat.zero_le _) (dX10_safeFor 27 rfl) ⟨congrArg (fun z => some (Sum.inl z)) (Option.some.inj H), rfl, rfl⟩
    · have H := ite_T H hc
      refine R_iload_n (i := 2) (dX10_safeFor 8 rfl) rfl rfl ?_
      refine R_aload_n (i := 0) (dX10_safeFor 9 rfl) rfl rfl ?_
      refine R_getI cgX10 38 (cl38 hS) 40 (Nat.le_of_ble_eq_true rfl) rfl (Or.inl tb_1167) (dX10_safeFor 10 rfl) ?_
      refine R_if_le (tgt := 35) (dX10_safeFor 11 rfl) (by decide) (fun hc => ?_) (fun hc => ?_)
      · have H := ite_F H hc
        refine R_iconst (dX10_safeFor 21 rfl) rfl ?_
        refine R_ior (dX10_safeFor 22 rfl) ?_
        refine R_istore_n (i := 2) (ls' := [some (.inr (.inr (some (ad 38)))), some (.inl x1), some (.inl (b_or x2 0)), some (.inl x3)]) (dX10_safeFor 23 rfl) rfl (Nat.le_of_ble_eq_true rfl) (Nat.le_of_ble_eq_true rfl) rfl rfl ?_
        refine R_iinc (i := 3) (ls' := [some (.inr (.inr (some (ad 38)))), some (.inl x1), some (.inl (b_or x2 0)), some (.inl (w32 (x3 + 1)))]) (dX10_safeFor 24 rfl) rfl (Nat.le_of_ble_eq_true rfl) rfl rfl ?_
        refine R_goto (tgt := 4) (dX10_safeFor 25 rfl) (by decide) ?_
        exact ih (b_or x2 0) (w32 (x3 + 1)) H
      · have H := ite_T H hc
        refine R_aload_n (i := 0) (dX10_safeFor 12 rfl) rfl rfl ?_
        refine R_iload_n (i := 1) (dX10_safeFor 13 rfl) rfl rfl ?_
        refine R_iload_n (i := 3) (dX10_safeFor 14 rfl) rfl rfl ?_
        obtain ⟨r457, hr, H⟩ := op_E H
        refine R_cV (st' := [.inl r457, .inl x2]) [.inl x1, .inl x3] [.inl x2] (t_X10_shunnedIn l g ad S _ hS   x1 x3 hr) msX10_shunnedIn (Or.inl tb_1441) (Or.inl ⟨38, 10, _, _, _, (cl38 hS), rfl⟩) ⟨Nat.le_of_ble_eq_true rfl, Nat.le_of_ble_eq_true rfl⟩ (Nat.zero_le _) (Nat.zero_le _) rfl rfl (Nat.le_of_ble_eq_true rfl) rfl (dX10_safeFor 15 rfl) ?_
        refine R_if_ne (tgt := 35) (dX10_safeFor 16 rfl) (by decide) (fun hc => ?_) (fun hc => ?_)
        · have H := ite_F H hc
          refine R_iconst (dX10_safeFor 21 rfl) rfl ?_
          refine R_ior (dX10_safeFor 22 rfl) ?_
          refine R_istore_n (i := 2) (ls' := [some (.inr (.inr (some (ad 38)))), some (.inl x1), some (.inl (b_or x2 0)), some (.inl x3)]) (dX10_safeFor 23 rfl) rfl (Nat.le_of_ble_eq_true rfl) (Nat.le_of_ble_eq_true rfl) rfl rfl ?_
          refine R_iinc (i := 3) (ls' := [some (.inr (.inr (some (ad 38)))), some (.inl x1), some (.inl (b_or x2 0)), some (.inl (w32 (x3 + 1)))]) (dX10_safeFor 24 rfl) rfl (Nat.le_of_ble_eq_true rfl) rfl rfl ?_
          refine R_goto (tgt := 4) (dX10_safeFor 25 rfl) (by decide) ?_
          exact ih (b_or x2 0) (w32 (x3 + 1)) H
        · have H := ite_T H hc
          refine R_iconst (dX10_safeFor 17 rfl) rfl ?_
          refine R_iload_n (i := 3) (dX10_safeFor 18 rfl) rfl rfl ?_
          refine R_ishl (dX10_safeFor 19 rfl) ?_
          refine R_goto (tgt := 36) (dX10_safeFor 20 rfl) (by decide) ?_
          refine R_ior (dX10_safeFor 22 rfl) ?_
          refine R_istore_n (i := 2) (ls' := [some (.inr (.inr (some (ad 38)))), some (.inl x1), some (.inl (b_or x2 (b_shl 1 x3))), some (.inl x3)]) (dX10_safeFor 23 rfl) rfl (Nat.le_of_ble_eq_true rfl) (Nat.le_of_ble_eq_true rfl) rfl rfl ?_
          refine R_iinc (i := 3) (ls' := [some (.inr (.inr (some (ad 38)))), some (.inl x1), some (.inl (b_or x2 (b_shl 1 x3))), some (.inl (w32 (x3 + 1)))]) (dX10_safeFor 24 rfl) rfl (Nat.le_of_ble_eq_true rfl) rfl rfl ?_
          refine R_goto (tgt := 4) (dX10_safeFor 25 rfl) (by decide) ?_
          exact ih (b_or x2 (b_shl 1 x3)) (w32 (x3 + 1)) H
def f_X10_safeFor (x1 : Int) (M : Mem) : Option Int :=
  f_X10_safeFor_L4
    x1 M 100000 0 0
set_option maxHeartbeats 4000000 in
theorem t_X10_safeFor (l : Launch) (g : GG) (ad : Nat → Nat) (S : SW) (M : Mem) (hS : q_ag 38 63 ad S) (x1 : Int) {r : Int} (H : f_X10_safeFor x1 M = some r) : CT l g MX10_safeFor 3 0 0 S M [.inr (.inr (some (ad 38))), .inl x1] (q_ex S (some (.inl r)) M) := by
  unfold f_X10_safeFor at H
  refine CT_of (ls0 := [some (.inr (.inr (some (ad 38)))), some (.inl x1), none, none]) (by decide +kernel) (Nat.le_of_ble_eq_true rfl) rfl ?_
  refine R_iconst (dX10_safeFor 0 rfl) rfl ?_
  refine R_istore_n (i := 2) (ls' := [some (.inr (.inr (some (ad 38)))), some (.inl x1), some (.inl 0), none]) (dX10_safeFor 1 rfl) rfl (Nat.le_of_ble_eq_true rfl) (Nat.le_of_ble_eq_true rfl) rfl rfl ?_
  refine R_iconst (dX10_safeFor 2 rfl) rfl ?_
  refine R_istore_n (i := 3) (ls' := [some (.inr (.inr (some (ad 38)))), some (.inl x1), some (.inl 0), some (.inl 0)]) (dX10_safeFor 3 rfl) rfl (Nat.le_of_ble_eq_true rfl) (Nat.le_of_ble_eq_true rfl) rfl rfl ?_
  exact t_X10_safeFor_L4 l g ad S M hS x1  100000 0 0 H 
def f_X10_safe (x1 : Int) (M : Mem) : Option (Int × Mem) :=
  if f_X10_isGuest x1 M = 0 then
    some ((-5), M)
  else
    ob (f_X10_finds M) fun r458 M459 =>
    (f_X10_safeFor x1 M459).bind fun r460 =>
    some (r460, M459)
set_option maxHeartbeats 4000000 in
theorem t_X10_safe (l : Launch) (g : GG) (ad : Nat → Nat) (S : SW) (M : Mem) (hS : q_ag 38 63 ad S) (x1 : Int) {r : Int} {M' : Mem} (H : f_X10_safe x1 M = some (r, M')) : CT l g MX10_safe 6 0 0 S M [.inr (.inr (some (ad 38))), .inl x1] (q_ex S (some (.inl r)) M') := by
  unfold f_X10_safe at H
  refine CT_of (ls0 := [some (.inr (.inr (some (ad 38)))), some (.inl x1)]) (by decide +kernel) (Nat.le_of_ble_eq_true rfl) rfl ?_
  refine R_aload_n (i := 0) (dX10_safe 0 rfl) rfl rfl ?_
  refine R_iload_n (i := 1) (dX10_safe 1 rfl) rfl rfl ?_
  refine R_cV (st' := [.inl (f_X10_isGuest x1 M)]) [.inl x1] [] (t_X10_isGuest l g ad S _ hS   x1) msX10_isGuest (Or.inl tb_1296) (Or.inl ⟨38, 10, _, _, _, (cl38 hS), rfl⟩) ⟨Nat.le_of_ble_eq_true rfl, Nat.le_of_ble_eq_true rfl⟩ (Nat.zero_le _) (Nat.zero_le _) rfl rfl (Nat.le_of_ble_eq_true rfl) rfl (dX10_safe 2 rfl) ?_
  refine R_if_ne (tgt := 11) (dX10_safe 3 rfl) (by decide) (fun hc => ?_) (fun hc => ?_)
  · have H := ite_F H hc
    refine R_aload_n (i := 0) (dX10_safe 6 rfl) rfl rfl ?_
    obtain ⟨r458, M459, hr, H⟩ := ob_E H
    refine R_cV (st' := []) [] [] (t_X10_finds l g ad S _ hS   hr) msX10_finds (Or.inl tb_1362) (Or.inl ⟨38, 10, _, _, _, (cl38 hS), rfl⟩) ⟨Nat.le_of_ble_eq_true rfl, Nat.le_of_ble_eq_true rfl⟩ (Nat.zero_le _) (Nat.zero_le _) rfl rfl (Nat.le_of_ble_eq_true rfl) rfl (dX10_safe 7 rfl) ?_
    refine R_aload_n (i := 0) (dX10_safe 8 rfl) rfl rfl ?_
    refine R_iload_n (i := 1) (dX10_safe 9 rfl) rfl rfl ?_
    obtain ⟨r460, hr, H⟩ := op_E H
    refine R_cV (st' := [.inl r460]) [.inl x1] [] (t_X10_safeFor l g ad S _ hS   x1 hr) msX10_safeFor (Or.inl tb_1437) (Or.inl ⟨38, 10, _, _, _, (cl38 hS), rfl⟩) ⟨Nat.le_of_ble_eq_true rfl, Nat.le_of_ble_eq_true rfl⟩ (Nat.zero_le _) (Nat.zero_le _) rfl rfl (Nat.le_of_ble_eq_true rfl) rfl (dX10_safe 10 rfl) ?_
    exact R_iret rfl rfl (Nat.zero_le _) (Nat.zero_le _) (dX10_safe 11 rfl) ⟨congrArg (fun z => some (Sum.inl z)) (Prod.mk.inj (Option.some.inj H)).1, rfl, (Prod.mk.inj (Option.some.inj H)).2⟩
  · have H := ite_T H hc
    refine R_bipush (dX10_safe 4 rfl) rfl rfl ?_
    exact R_iret rfl rfl (Nat.zero_le _) (Nat.zero_le _) (dX10_safe 5 rfl) ⟨congrArg (fun z => some (Sum.inl z)) (Prod.mk.inj (Option.some.inj H)).1, rfl, (Prod.mk.inj (Option.some.inj H)).2⟩
def f_X10_risk (x1 : Int) (x2 : Int) (x3 : Int) (M : Mem) : Option (Int × Mem) :=
  if f_X10_isGuest x1 M = 0 then
    some ((-4611686018427387904), M)
  else
    if f_X10_isLine x2 M = 0 then
      some ((-4611686018427387904), M)
    else
      if f_X10_in x3 0 1 = 0 then
        some ((-4611686018427387904), M)
      else
        ob (f_X10_finds M) fun r461 M462 =>
        (f_X10_shunnedIn x1 x2 M462).bind fun r463 =>
        (f_X10_ofAll r463 x3 M462).bind fun r464 =>
        some (r464, M462)
set_option maxHeartbeats 4000000 in
theorem t_X10_risk (l : Launch) (g : GG) (ad : Nat → Nat) (S : SW) (M : Mem) (hS : q_ag 38 63 ad S) (x1 : Int) (x2 : Int) (x3 : Int) {r : Int} {M' : Mem} (H : f_X10_risk x1 x2 x3 M = some (r, M')) : CT l g MX10_risk 6 0 0 S M [.inr (.inr (some (ad 38))), .inl x1, .inl x2, .inl x3] (q_ex S (some (.inr (.inl r))) M') := by
  unfold f_X10_risk at H
  refine CT_of (ls0 := [some (.inr (.inr (some (ad 38)))), some (.inl x1), some (.inl x2), some (.inl x3)]) (by decide +kernel) (Nat.le_of_ble_eq_true rfl) rfl ?_
  refine R_aload_n (i := 0) (dX10_risk 0 rfl) rfl rfl ?_
  refine R_iload_n (i := 1) (dX10_risk 1 rfl) rfl rfl ?_
  refine R_cV (st' := [.inl (f_X10_isGuest x1 M)]) [.inl x1] [] (t_X10_isGuest l g ad S _ hS   x1) msX10_isGuest (Or.inl tb_1296) (Or.inl ⟨38, 10, _, _, _, (cl38 hS), rfl⟩) ⟨Nat.le_of_ble_eq_true rfl, Nat.le_of_ble_eq_true rfl⟩ (Nat.zero_le _) (Nat.zero_le _) rfl rfl (Nat.le_of_ble_eq_true rfl) rfl (dX10_risk 2 rfl) ?_
  refine R_if_eq (tgt := 25) (dX10_risk 3 rfl) (by decide) (fun hc => ?_) (fun hc => ?_)
  · have H := ite_T H hc
    refine R_ldc2 (z := (-4611686018427387904)) tb_1417 ⟨by decide, by decide⟩ (dX10_risk 13 rfl) ?_
    exact R_lret rfl (Nat.zero_le _) (Nat.zero_le _) (dX10_risk 14 rfl) ⟨congrArg (fun z => some (Sum.inr (Sum.inl z))) (Prod.mk.inj (Option.some.inj H)).1, rfl, (Prod.mk.inj (Option.some.inj H)).2⟩
  · have H := ite_F H hc
    refine R_aload_n (i := 0) (dX10_risk 4 rfl) rfl rfl ?_
    refine R_iload_n (i := 2) (dX10_risk 5 rfl) rfl rfl ?_
    refine R_cV (st' := [.inl (f_X10_isLine x2 M)]) [.inl x2] [] (t_X10_isLine l g ad S _ hS   x2) msX10_isLine (Or.inl tb_1280) (Or.inl ⟨38, 10, _, _, _, (cl38 hS), rfl⟩) ⟨Nat.le_of_ble_eq_true rfl, Nat.le_of_ble_eq_true rfl⟩ (Nat.zero_le _) (Nat.zero_le _) rfl rfl (Nat.le_of_ble_eq_true rfl) rfl (dX10_risk 6 rfl) ?_
    refine R_if_eq (tgt := 25) (dX10_risk 7 rfl) (by decide) (fun hc => ?_) (fun hc => ?_)
    · have H := ite_T H hc
      refine R_ldc2 (z := (-4611686018427387904)) tb_1417 ⟨by decide, by decide⟩ (dX10_risk 13 rfl) ?_
      exact R_lret rfl (Nat.zero_le _) (Nat.zero_le _) (dX10_risk 14 rfl) ⟨congrArg (fun z => some (Sum.inr (Sum.inl z))) (Prod.mk.inj (Option.some.inj H)).1, rfl, (Prod.mk.inj (Option.some.inj H)).2⟩
    · have H := ite_F H hc
      refine R_iload_n (i := 3) (dX10_risk 8 rfl) rfl rfl ?_
      refine R_iconst (dX10_risk 9 rfl) rfl ?_
      refine R_iconst (dX10_risk 10 rfl) rfl ?_
      refine R_cS (st' := [.inl (f_X10_in x3 0 1)]) [.inl x3, .inl 0, .inl 1] [] (t_X10_in l g S _   x3 0 1) msX10_in (Or.inl tb_1083) ⟨Nat.le_of_ble_eq_true rfl, Nat.le_of_ble_eq_true rfl⟩ (Nat.zero_le _) (Nat.zero_le _) rfl rfl (Nat.le_of_ble_eq_true rfl) rfl (dX10_risk 11 rfl) ?_
      refine R_if_ne (tgt := 29) (dX10_risk 12 rfl) (by decide) (fun hc => ?_) (fun hc => ?_)
      · have H := ite_F H hc
        refine R_aload_n (i := 0) (dX10_risk 15 rfl) rfl rfl ?_
        obtain ⟨r461, M462, hr, H⟩ := ob_E H
        refine R_cV (st' := []) [] [] (t_X10_finds l g ad S _ hS   hr) msX10_finds (Or.inl tb_1362) (Or.inl ⟨38, 10, _, _, _, (cl38 hS), rfl⟩) ⟨Nat.le_of_ble_eq_true rfl, Nat.le_of_ble_eq_true rfl⟩ (Nat.zero_le _) (Nat.zero_le _) rfl rfl (Nat.le_of_ble_eq_true rfl) rfl (dX10_risk 16 rfl) ?_
        refine R_aload_n (i := 0) (dX10_risk 17 rfl) rfl rfl ?_
        refine R_aload_n (i := 0) (dX10_risk 18 rfl) rfl rfl ?_
        refine R_iload_n (i := 1) (dX10_risk 19 rfl) rfl rfl ?_
        refine R_iload_n (i := 2) (dX10_risk 20 rfl) rfl rfl ?_
        obtain ⟨r463, hr, H⟩ := op_E H
        refine R_cV (st' := [.inl r463, .inr (.inr (some (ad 38)))]) [.inl x1, .inl x2] [.inr (.inr (some (ad 38)))] (t_X10_shunnedIn l g ad S _ hS   x1 x2 hr) msX10_shunnedIn (Or.inl tb_1441) (Or.inl ⟨38, 10, _, _, _, (cl38 hS), rfl⟩) ⟨Nat.le_of_ble_eq_true rfl, Nat.le_of_ble_eq_true rfl⟩ (Nat.zero_le _) (Nat.zero_le _) rfl rfl (Nat.le_of_ble_eq_true rfl) rfl (dX10_risk 21 rfl) ?_
        refine R_iload_n (i := 3) (dX10_risk 22 rfl) rfl rfl ?_
        obtain ⟨r464, hr, H⟩ := op_E H
        refine R_cV (st' := [.inr (.inl r464)]) [.inl r463, .inl x3] [] (t_X10_ofAll l g ad S _ hS   r463 x3 hr) msX10_ofAll (Or.inl tb_1418) (Or.inl ⟨38, 10, _, _, _, (cl38 hS), rfl⟩) ⟨Nat.le_of_ble_eq_true rfl, Nat.le_of_ble_eq_true rfl⟩ (Nat.zero_le _) (Nat.zero_le _) rfl rfl (Nat.le_of_ble_eq_true rfl) rfl (dX10_risk 23 rfl) ?_
        exact R_lret rfl (Nat.zero_le _) (Nat.zero_le _) (dX10_risk 24 rfl) ⟨congrArg (fun z => some (Sum.inr (Sum.inl z))) (Prod.mk.inj (Option.some.inj H)).1, rfl, (Prod.mk.inj (Option.some.inj H)).2⟩
      · have H := ite_T H hc
        refine R_ldc2 (z := (-4611686018427387904)) tb_1417 ⟨by decide, by decide⟩ (dX10_risk 13 rfl) ?_
        exact R_lret rfl (Nat.zero_le _) (Nat.zero_le _) (dX10_risk 14 rfl) ⟨congrArg (fun z => some (Sum.inr (Sum.inl z))) (Prod.mk.inj (Option.some.inj H)).1, rfl, (Prod.mk.inj (Option.some.inj H)).2⟩
def f_X10_liking_L5 (x1 : Int) (x2 : Int) : Nat → Int → Int → Mem → Option (Int × Mem)
  | 0, _, _, _ => none
  | n + 1, x3, x4, M =>
    if x4 < M 38 40 then
      if 0 ≤ x4 ∧ x4 < 720 then
        (f_X10_hasIn x1 (M 58 (x4).toNat) M).bind fun r465 =>
        ob (f_X10_asksOf 1 x1 r465 x2 (M 38 40) M) fun r466 M467 =>
        f_X10_liking_L5 x1 x2 n (w32 (x3 + r466)) (w32 (x4 + 1)) M467
      else none
    else
      some (x3, M)
set_option maxHeartbeats 4000000 in
theorem t_X10_liking_L5 (l : Launch) (g : GG) (ad : Nat → Nat) (S : SW) (hS : q_ag 38 63 ad S) (x1 : Int) (x2 : Int) {r : Int} {M' : Mem} : ∀ (n : Nat) (x3 : Int) (x4 : Int) (M : Mem), f_X10_liking_L5 x1 x2 n x3 x4 M = some (r, M') → RW l g MX10_liking (q_rm 4 0 0) 0 0 (q_ex S (some (.inl r)) M') 5 S M 0 0 [some (.inr (.inr (some (ad 38)))), some (.inl x1), some (.inl x2), some (.inl x3), some (.inl x4)] [] := by
  intro n
  induction n with
  | zero => intro x3 x4 M H; exact absurd H (by simp [f_X10_liking_L5])
  | succ n ih =>
    intro x3 x4 M H
    rw [f_X10_liking_L5] at H
    refine R_iload (i := 4) (dX10_liking 4 rfl) rfl ?_
    refine R_aload_n (i := 0) (dX10_liking 5 rfl) rfl rfl ?_
    refine R_getI cgX10 38 (cl38 hS) 40 (Nat.le_of_ble_eq_true rfl) rfl (Or.inl tb_1167) (dX10_liking 6 rfl) ?_
    refine R_icmp_ge (tgt := 46) (dX10_liking 7 rfl) (by decide) (fun hc => ?_) (fun hc => ?_)
    · have H := ite_F H hc
      refine R_iload_n (i := 3) (dX10_liking 27 rfl) rfl rfl ?_
      exact R_iret rfl rfl (Nat.zero_le _) (Nat.zero_le _) (dX10_liking 28 rfl) ⟨congrArg (fun z => some (Sum.inl z)) (Prod.mk.inj (Option.some.inj H)).1, rfl, (Prod.mk.inj (Option.some.inj H)).2⟩
    · have H := ite_T H hc
      refine R_iload_n (i := 3) (dX10_liking 8 rfl) rfl rfl ?_
      refine R_aload_n (i := 0) (dX10_liking 9 rfl) rfl rfl ?_
      refine R_iconst (dX10_liking 10 rfl) rfl ?_
      refine R_iload_n (i := 1) (dX10_liking 11 rfl) rfl rfl ?_
      refine R_aload_n (i := 0) (dX10_liking 12 rfl) rfl rfl ?_
      refine R_iload_n (i := 1) (dX10_liking 13 rfl) rfl rfl ?_
      refine R_aload_n (i := 0) (dX10_liking 14 rfl) rfl rfl ?_
      refine R_getR cgX10 38 (cl38 hS) 39 (Nat.le_of_ble_eq_true rfl) rfl (Or.inl tb_1166) (dX10_liking 15 rfl) ?_
      refine R_iload (i := 4) (dX10_liking 16 rfl) rfl ?_
      obtain ⟨hg, H⟩ := ite_G H
      refine R_iald 58 (cl58 hS) hg (dX10_liking 17 rfl) ?_
      obtain ⟨r465, hr, H⟩ := op_E H
      refine R_cV (st' := [.inl r465, .inl x1, .inl 1, .inr (.inr (some (ad 38))), .inl x3]) [.inl x1, .inl (M 58 (x4).toNat)] [.inl x1, .inl 1, .inr (.inr (some (ad 38))), .inl x3] (t_X10_hasIn l g ad S _ hS   x1 (M 58 (x4).toNat) hr) msX10_hasIn (Or.inl tb_1374) (Or.inl ⟨38, 10, _, _, _, (cl38 hS), rfl⟩) ⟨Nat.le_of_ble_eq_true rfl, Nat.le_of_ble_eq_true rfl⟩ (Nat.zero_le _) (Nat.zero_le _) rfl rfl (Nat.le_of_ble_eq_true rfl) rfl (dX10_liking 18 rfl) ?_
      refine R_iload_n (i := 2) (dX10_liking 19 rfl) rfl rfl ?_
      refine R_aload_n (i := 0) (dX10_liking 20 rfl) rfl rfl ?_
      refine R_getI cgX10 38 (cl38 hS) 40 (Nat.le_of_ble_eq_true rfl) rfl (Or.inl tb_1167) (dX10_liking 21 rfl) ?_
      obtain ⟨r466, M467, hr, H⟩ := ob_E H
      refine R_cV (st' := [.inl r466, .inl x3]) [.inl 1, .inl x1, .inl r465, .inl x2, .inl (M 38 40)] [.inl x3] (t_X10_asksOf l g ad S _ hS   1 x1 r465 x2 (M 38 40) hr) msX10_asksOf (Or.inl tb_1324) (Or.inl ⟨38, 10, _, _, _, (cl38 hS), rfl⟩) ⟨Nat.le_of_ble_eq_true rfl, Nat.le_of_ble_eq_true rfl⟩ (Nat.zero_le _) (Nat.zero_le _) rfl rfl (Nat.le_of_ble_eq_true rfl) rfl (dX10_liking 22 rfl) ?_
      refine R_iadd (dX10_liking 23 rfl) ?_
      refine R_istore_n (i := 3) (ls' := [some (.inr (.inr (some (ad 38)))), some (.inl x1), some (.inl x2), some (.inl (w32 (x3 + r466))), some (.inl x4)]) (dX10_liking 24 rfl) rfl (Nat.le_of_ble_eq_true rfl) (Nat.le_of_ble_eq_true rfl) rfl rfl ?_
      refine R_iinc (i := 4) (ls' := [some (.inr (.inr (some (ad 38)))), some (.inl x1), some (.inl x2), some (.inl (w32 (x3 + r466))), some (.inl (w32 (x4 + 1)))]) (dX10_liking 25 rfl) rfl (Nat.le_of_ble_eq_true rfl) rfl rfl ?_
      refine R_goto (tgt := 5) (dX10_liking 26 rfl) (by decide) ?_
      exact ih (w32 (x3 + r466)) (w32 (x4 + 1)) M467 H
def f_X10_liking (x1 : Int) (x2 : Int) (M : Mem) : Option (Int × Mem) :=
  f_X10_liking_L5
    x1 x2 100000 0 0 M
set_option maxHeartbeats 4000000 in
theorem t_X10_liking (l : Launch) (g : GG) (ad : Nat → Nat) (S : SW) (M : Mem) (hS : q_ag 38 63 ad S) (x1 : Int) (x2 : Int) {r : Int} {M' : Mem} (H : f_X10_liking x1 x2 M = some (r, M')) : CT l g MX10_liking 4 0 0 S M [.inr (.inr (some (ad 38))), .inl x1, .inl x2] (q_ex S (some (.inl r)) M') := by
  unfold f_X10_liking at H
  refine CT_of (ls0 := [some (.inr (.inr (some (ad 38)))), some (.inl x1), some (.inl x2), none, none]) (by decide +kernel) (Nat.le_of_ble_eq_true rfl) rfl ?_
  refine R_iconst (dX10_liking 0 rfl) rfl ?_
  refine R_istore_n (i := 3) (ls' := [some (.inr (.inr (some (ad 38)))), some (.inl x1), some (.inl x2), some (.inl 0), none]) (dX10_liking 1 rfl) rfl (Nat.le_of_ble_eq_true rfl) (Nat.le_of_ble_eq_true rfl) rfl rfl ?_
  refine R_iconst (dX10_liking 2 rfl) rfl ?_
  refine R_istore (i := 4) (ls' := [some (.inr (.inr (some (ad 38)))), some (.inl x1), some (.inl x2), some (.inl 0), some (.inl 0)]) (dX10_liking 3 rfl) (Nat.le_of_ble_eq_true rfl) (Nat.le_of_ble_eq_true rfl) rfl rfl ?_
  exact t_X10_liking_L5 l g ad S hS x1 x2  100000 0 0 M H 
def f_X10_likes_L22 (K66 : Mem → Option (Int × Mem)) (x1 : Int) (x2 : Int) : Nat → Int → Mem → Option (Int × Mem)
  | 0, _, _ => none
  | n + 1, x3, M =>
    if x3 < M 38 0 then
      if b_and (b_shr x2 x3) 1 = 1 then
        ob (f_X10_liking x3 x1 M) fun r471 M472 =>
        if 0 ≤ w32 ((w32 (10 * x1)) + x3) ∧ w32 ((w32 (10 * x1)) + x3) < 40 then
          f_X10_likes_L22 K66 x1 x2 n (w32 (x3 + 1)) (mset M472 59 (w32 ((w32 (10 * x1)) + x3)).toNat r471)
        else none
      else
        if 0 ≤ w32 ((w32 (10 * x1)) + x3) ∧ w32 ((w32 (10 * x1)) + x3) < 40 then
          f_X10_likes_L22 K66 x1 x2 n (w32 (x3 + 1)) (mset M 59 (w32 ((w32 (10 * x1)) + x3)).toNat (-1))
        else none
    else
      K66 M
set_option maxHeartbeats 4000000 in
theorem t_X10_likes_L22 (l : Launch) (g : GG) (ad : Nat → Nat) (S : SW) (hS : q_ag 38 63 ad S) (x1 : Int) (x2 : Int) {K66 : Mem → Option (Int × Mem)} {r : Int} {M' : Mem} : ∀ (n : Nat) (x3 : Int) (M : Mem), f_X10_likes_L22 K66 x1 x2 n x3 M = some (r, M') → (∀ (M1 : Mem), K66 M1 = some (r, M') → RW l g MX10_likes (q_rm 6 0 0) 0 0 (q_ex S none M') 66 S M1 0 0 [some (.inr (.inr (some (ad 38)))), some (.inl x1), none, none] []) → RW l g MX10_likes (q_rm 6 0 0) 0 0 (q_ex S none M') 22 S M 0 0 [some (.inr (.inr (some (ad 38)))), some (.inl x1), some (.inl x2), some (.inl x3)] [] := by
  intro n
  induction n with
  | zero => intro x3 M H; exact absurd H (by simp [f_X10_likes_L22])
  | succ n ih =>
    intro x3 M H hK66
    rw [f_X10_likes_L22] at H
    refine R_iload_n (i := 3) (dX10_likes 14 rfl) rfl rfl ?_
    refine R_aload_n (i := 0) (dX10_likes 15 rfl) rfl rfl ?_
    refine R_getI cgX10 38 (cl38 hS) 0 (Nat.le_of_ble_eq_true rfl) rfl (Or.inl tb_1127) (dX10_likes 16 rfl) ?_
    refine R_icmp_ge (tgt := 66) (dX10_likes 17 rfl) (by decide) (fun hc => ?_) (fun hc => ?_)
    · have H := ite_F H hc
      refine R_mask [true, true, false, false] rfl ?_
      exact hK66 M H
    · have H := ite_T H hc
      refine R_aload_n (i := 0) (dX10_likes 18 rfl) rfl rfl ?_
      refine R_getR cgX10 38 (cl38 hS) 41 (Nat.le_of_ble_eq_true rfl) rfl (Or.inl tb_1168) (dX10_likes 19 rfl) ?_
      refine R_bipush (dX10_likes 20 rfl) rfl rfl ?_
      refine R_iload_n (i := 1) (dX10_likes 21 rfl) rfl rfl ?_
      refine R_imul (dX10_likes 22 rfl) ?_
      refine R_iload_n (i := 3) (dX10_likes 23 rfl) rfl rfl ?_
      refine R_iadd (dX10_likes 24 rfl) ?_
      refine R_iload_n (i := 2) (dX10_likes 25 rfl) rfl rfl ?_
      refine R_iload_n (i := 3) (dX10_likes 26 rfl) rfl rfl ?_
      refine R_ishr (dX10_likes 27 rfl) ?_
      refine R_iconst (dX10_likes 28 rfl) rfl ?_
      refine R_iand (dX10_likes 29 rfl) ?_
      refine R_iconst (dX10_likes 30 rfl) rfl ?_
      refine R_icmp_ne (tgt := 58) (dX10_likes 31 rfl) (by decide) (fun hc => ?_) (fun hc => ?_)
      · have H := ite_F H hc
        refine R_iconst (dX10_likes 37 rfl) rfl ?_
        obtain ⟨hg, H⟩ := ite_G H
        refine R_iast 59 (cl59 hS) hg (dX10_likes 38 rfl) ?_
        refine R_iinc (i := 3) (ls' := [some (.inr (.inr (some (ad 38)))), some (.inl x1), some (.inl x2), some (.inl (w32 (x3 + 1)))]) (dX10_likes 39 rfl) rfl (Nat.le_of_ble_eq_true rfl) rfl rfl ?_
        refine R_goto (tgt := 22) (dX10_likes 40 rfl) (by decide) ?_
        exact ih (w32 (x3 + 1)) (mset M 59 (w32 ((w32 (10 * x1)) + x3)).toNat (-1)) H hK66
      · have H := ite_T H hc
        refine R_aload_n (i := 0) (dX10_likes 32 rfl) rfl rfl ?_
        refine R_iload_n (i := 3) (dX10_likes 33 rfl) rfl rfl ?_
        refine R_iload_n (i := 1) (dX10_likes 34 rfl) rfl rfl ?_
        obtain ⟨r471, M472, hr, H⟩ := ob_E H
        refine R_cV (st' := [.inl r471, .inl (w32 ((w32 (10 * x1)) + x3)), .inr (.inr (some (ad 59)))]) [.inl x3, .inl x1] [.inl (w32 ((w32 (10 * x1)) + x3)), .inr (.inr (some (ad 59)))] (t_X10_liking l g ad S _ hS   x3 x1 hr) msX10_liking (Or.inl tb_1461) (Or.inl ⟨38, 10, _, _, _, (cl38 hS), rfl⟩) ⟨Nat.le_of_ble_eq_true rfl, Nat.le_of_ble_eq_true rfl⟩ (Nat.zero_le _) (Nat.zero_le _) rfl rfl (Nat.le_of_ble_eq_true rfl) rfl (dX10_likes 35 rfl) ?_
        refine R_goto (tgt := 59) (dX10_likes 36 rfl) (by decide) ?_
        obtain ⟨hg, H⟩ := ite_G H
        refine R_iast 59 (cl59 hS) hg (dX10_likes 38 rfl) ?_
        refine R_iinc (i := 3) (ls' := [some (.inr (.inr (some (ad 38)))), some (.inl x1), some (.inl x2), some (.inl (w32 (x3 + 1)))]) (dX10_likes 39 rfl) rfl (Nat.le_of_ble_eq_true rfl) rfl rfl ?_
        refine R_goto (tgt := 22) (dX10_likes 40 rfl) (by decide) ?_
        exact ih (w32 (x3 + 1)) (mset M472 59 (w32 ((w32 (10 * x1)) + x3)).toNat r471) H hK66
def f_X10_likes_L6 : Nat → Int → Mem → Option (Int × Mem)
  | 0, _, _ => none
  | n + 1, x1, M =>
    if x1 < M 38 3 then
      (f_X10_safeFor x1 M).bind fun r470 =>
      f_X10_likes_L22
        (fun M473 =>
          f_X10_likes_L6 n (w32 (x1 + 1)) M473
        )
        x1 r470 100000 0 M
    else
      some (0, M)
set_option maxHeartbeats 4000000 in
theorem t_X10_likes_L6 (l : Launch) (g : GG) (ad : Nat → Nat) (S : SW) (hS : q_ag 38 63 ad S) {r : Int} {M' : Mem} : ∀ (n : Nat) (x1 : Int) (M : Mem), f_X10_likes_L6 n x1 M = some (r, M') → RW l g MX10_likes (q_rm 6 0 0) 0 0 (q_ex S none M') 6 S M 0 0 [some (.inr (.inr (some (ad 38)))), some (.inl x1), none, none] [] := by
  intro n
  induction n with
  | zero => intro x1 M H; exact absurd H (by simp [f_X10_likes_L6])
  | succ n ih =>
    intro x1 M H
    rw [f_X10_likes_L6] at H
    refine R_iload_n (i := 1) (dX10_likes 4 rfl) rfl rfl ?_
    refine R_aload_n (i := 0) (dX10_likes 5 rfl) rfl rfl ?_
    refine R_getI cgX10 38 (cl38 hS) 3 (Nat.le_of_ble_eq_true rfl) rfl (Or.inl tb_1130) (dX10_likes 6 rfl) ?_
    refine R_icmp_ge (tgt := 72) (dX10_likes 7 rfl) (by decide) (fun hc => ?_) (fun hc => ?_)
    · have H := ite_F H hc
      exact R_vret rfl (Nat.zero_le _) (Nat.zero_le _) (dX10_likes 43 rfl) ⟨rfl, rfl, (Prod.mk.inj (Option.some.inj H)).2⟩
    · have H := ite_T H hc
      refine R_aload_n (i := 0) (dX10_likes 8 rfl) rfl rfl ?_
      refine R_iload_n (i := 1) (dX10_likes 9 rfl) rfl rfl ?_
      obtain ⟨r470, hr, H⟩ := op_E H
      refine R_cV (st' := [.inl r470]) [.inl x1] [] (t_X10_safeFor l g ad S _ hS   x1 hr) msX10_safeFor (Or.inl tb_1437) (Or.inl ⟨38, 10, _, _, _, (cl38 hS), rfl⟩) ⟨Nat.le_of_ble_eq_true rfl, Nat.le_of_ble_eq_true rfl⟩ (Nat.zero_le _) (Nat.zero_le _) rfl rfl (Nat.le_of_ble_eq_true rfl) rfl (dX10_likes 10 rfl) ?_
      refine R_istore_n (i := 2) (ls' := [some (.inr (.inr (some (ad 38)))), some (.inl x1), some (.inl r470), none]) (dX10_likes 11 rfl) rfl (Nat.le_of_ble_eq_true rfl) (Nat.le_of_ble_eq_true rfl) rfl rfl ?_
      refine R_iconst (dX10_likes 12 rfl) rfl ?_
      refine R_istore_n (i := 3) (ls' := [some (.inr (.inr (some (ad 38)))), some (.inl x1), some (.inl r470), some (.inl 0)]) (dX10_likes 13 rfl) rfl (Nat.le_of_ble_eq_true rfl) (Nat.le_of_ble_eq_true rfl) rfl rfl ?_
      refine t_X10_likes_L22 l g ad S hS x1 r470  100000 0 M H (fun M473 H => ?_)
      refine R_iinc (i := 1) (ls' := [some (.inr (.inr (some (ad 38)))), some (.inl (w32 (x1 + 1))), none, none]) (dX10_likes 41 rfl) rfl (Nat.le_of_ble_eq_true rfl) rfl rfl ?_
      refine R_goto (tgt := 6) (dX10_likes 42 rfl) (by decide) ?_
      exact ih (w32 (x1 + 1)) M473 H
def f_X10_likes (M : Mem) : Option (Int × Mem) :=
  ob (f_X10_finds M) fun r468 M469 =>
  f_X10_likes_L6
    100000 0 M469
set_option maxHeartbeats 4000000 in
theorem t_X10_likes (l : Launch) (g : GG) (ad : Nat → Nat) (S : SW) (M : Mem) (hS : q_ag 38 63 ad S) {r : Int} {M' : Mem} (H : f_X10_likes M = some (r, M')) : CT l g MX10_likes 6 0 0 S M [.inr (.inr (some (ad 38)))] (q_ex S none M') := by
  unfold f_X10_likes at H
  refine CT_of (ls0 := [some (.inr (.inr (some (ad 38)))), none, none, none]) (by decide +kernel) (Nat.le_of_ble_eq_true rfl) rfl ?_
  refine R_aload_n (i := 0) (dX10_likes 0 rfl) rfl rfl ?_
  obtain ⟨r468, M469, hr, H⟩ := ob_E H
  refine R_cV (st' := []) [] [] (t_X10_finds l g ad S _ hS   hr) msX10_finds (Or.inl tb_1362) (Or.inl ⟨38, 10, _, _, _, (cl38 hS), rfl⟩) ⟨Nat.le_of_ble_eq_true rfl, Nat.le_of_ble_eq_true rfl⟩ (Nat.zero_le _) (Nat.zero_le _) rfl rfl (Nat.le_of_ble_eq_true rfl) rfl (dX10_likes 1 rfl) ?_
  refine R_iconst (dX10_likes 2 rfl) rfl ?_
  refine R_istore_n (i := 1) (ls' := [some (.inr (.inr (some (ad 38)))), some (.inl 0), none, none]) (dX10_likes 3 rfl) rfl (Nat.le_of_ble_eq_true rfl) (Nat.le_of_ble_eq_true rfl) rfl rfl ?_
  exact t_X10_likes_L6 l g ad S hS  100000 0 M469 H 
def f_X10_orders_L83 (rO : Int → Int → Int → Mem → Option (Int × Mem)) (x1 : Int) (x2 : Int) (x3 : Int) : Nat → Int → Mem → Option (Int × Mem)
  | 0, _, _ => none
  | n + 1, x4, M =>
    if x4 < M 38 0 then
      if 0 ≤ w32 ((w32 (10 * x1)) + x4) ∧ w32 ((w32 (10 * x1)) + x4) < 40 then
        if M 59 (w32 ((w32 (10 * x1)) + x4)).toNat < 0 then
          f_X10_orders_L83 rO x1 x2 x3 n (w32 (x4 + 1)) M
        else
          if 0 ≤ x4 ∧ x4 < 10 then
            if M 38 5 < w32 (x3 + (M 40 (x4).toNat)) then
              f_X10_orders_L83 rO x1 x2 x3 n (w32 (x4 + 1)) M
            else
              if 0 ≤ x1 ∧ x1 < 4 then
                if 0 ≤ w32 ((w32 (10 * x1)) + x4) ∧ w32 ((w32 (10 * x1)) + x4) < 40 then
                  if 0 ≤ x4 ∧ x4 < 10 then
                    ob (rO (w32 (x1 + 1)) (w32 (x2 + ((mset M 60 (x1).toNat x4) 59 (w32 ((w32 (10 * x1)) + x4)).toNat))) (w32 (x3 + ((mset M 60 (x1).toNat x4) 40 (x4).toNat))) (mset M 60 (x1).toNat x4)) fun r476 M477 =>
                    f_X10_orders_L83 rO x1 x2 x3 n (w32 (x4 + 1)) M477
                  else none
                else none
              else none
          else none
      else none
    else
      some (0, M)
set_option maxHeartbeats 4000000 in
theorem t_X10_orders_L83 (l : Launch) (g : GG) (ad : Nat → Nat) (S : SW) (hS : q_ag 38 63 ad S) (dr : Nat) (hdr : 20 ≤ dr) {rO : Int → Int → Int → Mem → Option (Int × Mem)} (hO_ : ∀ (b0 : Int) (b1 : Int) (b2 : Int) (M : Mem) (r : Int) (M2 : Mem), rO b0 b1 b2 M = some (r, M2) → CT l g MX10_orders dr 0 0 S M [.inr (.inr (some (ad 38))), .inl b0, .inl b1, .inl b2] (q_ex S none M2)) (x1 : Int) (x2 : Int) (x3 : Int) {r : Int} {M' : Mem} : ∀ (n : Nat) (x4 : Int) (M : Mem), f_X10_orders_L83 rO x1 x2 x3 n x4 M = some (r, M') → RW l g MX10_orders (q_rm (dr + 1) 0 0) 0 0 (q_ex S none M') 83 S M 0 0 [some (.inr (.inr (some (ad 38)))), some (.inl x1), some (.inl x2), some (.inl x3), some (.inl x4)] [] := by
  intro n
  induction n with
  | zero => intro x4 M H; exact absurd H (by simp [f_X10_orders_L83])
  | succ n ih =>
    intro x4 M H
    rw [f_X10_orders_L83] at H
    refine R_iload (i := 4) (dX10_orders_0 48 rfl) rfl ?_
    refine R_aload_n (i := 0) (dX10_orders_0 49 rfl) rfl rfl ?_
    refine R_getI cgX10 38 (cl38 hS) 0 (Nat.le_of_ble_eq_true rfl) rfl (Or.inl tb_1127) (dX10_orders_0 50 rfl) ?_
    refine R_icmp_ge (tgt := 167) (dX10_orders_0 51 rfl) (by decide) (fun hc => ?_) (fun hc => ?_)
    · have H := ite_F H hc
      exact R_vret rfl (Nat.zero_le _) (Nat.zero_le _) (dX10_orders_1 38 rfl) ⟨rfl, rfl, (Prod.mk.inj (Option.some.inj H)).2⟩
    · have H := ite_T H hc
      refine R_aload_n (i := 0) (dX10_orders_0 52 rfl) rfl rfl ?_
      refine R_getR cgX10 38 (cl38 hS) 41 (Nat.le_of_ble_eq_true rfl) rfl (Or.inl tb_1168) (dX10_orders_0 53 rfl) ?_
      refine R_bipush (dX10_orders_0 54 rfl) rfl rfl ?_
      refine R_iload_n (i := 1) (dX10_orders_0 55 rfl) rfl rfl ?_
      refine R_imul (dX10_orders_0 56 rfl) ?_
      refine R_iload (i := 4) (dX10_orders_0 57 rfl) rfl ?_
      refine R_iadd (dX10_orders_0 58 rfl) ?_
      obtain ⟨hg, H⟩ := ite_G H
      refine R_iald 59 (cl59 hS) hg (dX10_orders_0 59 rfl) ?_
      refine R_if_lt (tgt := 161) (dX10_orders_1 0 rfl) (by decide) (fun hc => ?_) (fun hc => ?_)
      · have H := ite_T H hc
        refine R_iinc (i := 4) (ls' := [some (.inr (.inr (some (ad 38)))), some (.inl x1), some (.inl x2), some (.inl x3), some (.inl (w32 (x4 + 1)))]) (dX10_orders_1 36 rfl) rfl (Nat.le_of_ble_eq_true rfl) rfl rfl ?_
        refine R_goto (tgt := 83) (dX10_orders_1 37 rfl) (by decide) ?_
        exact ih (w32 (x4 + 1)) M H
      · have H := ite_F H hc
        refine R_iload_n (i := 3) (dX10_orders_1 1 rfl) rfl rfl ?_
        refine R_aload_n (i := 0) (dX10_orders_1 2 rfl) rfl rfl ?_
        refine R_getR cgX10 38 (cl38 hS) 2 (Nat.le_of_ble_eq_true rfl) rfl (Or.inl tb_1129) (dX10_orders_1 3 rfl) ?_
        refine R_iload (i := 4) (dX10_orders_1 4 rfl) rfl ?_
        obtain ⟨hg, H⟩ := ite_G H
        refine R_iald 40 (cl40 hS) hg (dX10_orders_1 5 rfl) ?_
        refine R_iadd (dX10_orders_1 6 rfl) ?_
        refine R_aload_n (i := 0) (dX10_orders_1 7 rfl) rfl rfl ?_
        refine R_getI cgX10 38 (cl38 hS) 5 (Nat.le_of_ble_eq_true rfl) rfl (Or.inl tb_1132) (dX10_orders_1 8 rfl) ?_
        refine R_icmp_gt (tgt := 161) (dX10_orders_1 9 rfl) (by decide) (fun hc => ?_) (fun hc => ?_)
        · have H := ite_T H hc
          refine R_iinc (i := 4) (ls' := [some (.inr (.inr (some (ad 38)))), some (.inl x1), some (.inl x2), some (.inl x3), some (.inl (w32 (x4 + 1)))]) (dX10_orders_1 36 rfl) rfl (Nat.le_of_ble_eq_true rfl) rfl rfl ?_
          refine R_goto (tgt := 83) (dX10_orders_1 37 rfl) (by decide) ?_
          exact ih (w32 (x4 + 1)) M H
        · have H := ite_F H hc
          refine R_aload_n (i := 0) (dX10_orders_1 10 rfl) rfl rfl ?_
          refine R_getR cgX10 38 (cl38 hS) 42 (Nat.le_of_ble_eq_true rfl) rfl (Or.inl tb_1169) (dX10_orders_1 11 rfl) ?_
          refine R_iload_n (i := 1) (dX10_orders_1 12 rfl) rfl rfl ?_
          refine R_iload (i := 4) (dX10_orders_1 13 rfl) rfl ?_
          obtain ⟨hg, H⟩ := ite_G H
          refine R_iast 60 (cl60 hS) hg (dX10_orders_1 14 rfl) ?_
          refine R_aload_n (i := 0) (dX10_orders_1 15 rfl) rfl rfl ?_
          refine R_iload_n (i := 1) (dX10_orders_1 16 rfl) rfl rfl ?_
          refine R_iconst (dX10_orders_1 17 rfl) rfl ?_
          refine R_iadd (dX10_orders_1 18 rfl) ?_
          refine R_iload_n (i := 2) (dX10_orders_1 19 rfl) rfl rfl ?_
          refine R_aload_n (i := 0) (dX10_orders_1 20 rfl) rfl rfl ?_
          refine R_getR cgX10 38 (cl38 hS) 41 (Nat.le_of_ble_eq_true rfl) rfl (Or.inl tb_1168) (dX10_orders_1 21 rfl) ?_
          refine R_bipush (dX10_orders_1 22 rfl) rfl rfl ?_
          refine R_iload_n (i := 1) (dX10_orders_1 23 rfl) rfl rfl ?_
          refine R_imul (dX10_orders_1 24 rfl) ?_
          refine R_iload (i := 4) (dX10_orders_1 25 rfl) rfl ?_
          refine R_iadd (dX10_orders_1 26 rfl) ?_
          obtain ⟨hg, H⟩ := ite_G H
          refine R_iald 59 (cl59 hS) hg (dX10_orders_1 27 rfl) ?_
          refine R_iadd (dX10_orders_1 28 rfl) ?_
          refine R_iload_n (i := 3) (dX10_orders_1 29 rfl) rfl rfl ?_
          refine R_aload_n (i := 0) (dX10_orders_1 30 rfl) rfl rfl ?_
          refine R_getR cgX10 38 (cl38 hS) 2 (Nat.le_of_ble_eq_true rfl) rfl (Or.inl tb_1129) (dX10_orders_1 31 rfl) ?_
          refine R_iload (i := 4) (dX10_orders_1 32 rfl) rfl ?_
          obtain ⟨hg, H⟩ := ite_G H
          refine R_iald 40 (cl40 hS) hg (dX10_orders_1 33 rfl) ?_
          refine R_iadd (dX10_orders_1 34 rfl) ?_
          obtain ⟨r476, M477, hr, H⟩ := ob_E H
          refine R_cV (st' := []) [.inl (w32 (x1 + 1)), .inl (w32 (x2 + ((mset M 60 (x1).toNat x4) 59 (w32 ((w32 (10 * x1)) + x4)).toNat))), .inl (w32 (x3 + ((mset M 60 (x1).toNat x4) 40 (x4).toNat)))] [] (hO_ (w32 (x1 + 1)) (w32 (x2 + ((mset M 60 (x1).toNat x4) 59 (w32 ((w32 (10 * x1)) + x4)).toNat))) (w32 (x3 + ((mset M 60 (x1).toNat x4) 40 (x4).toNat))) _ _ _ hr) msX10_orders (Or.inl tb_1465) (Or.inl ⟨38, 10, _, _, _, (cl38 hS), rfl⟩) ⟨(by show dr + 1 ≤ dr + 1; omega), (by show 19 + 5 + 64 * (dr) ≤ 64 * (dr + 1); omega)⟩ (Nat.zero_le _) (Nat.zero_le _) rfl rfl (Nat.le_of_ble_eq_true rfl) rfl (dX10_orders_1 35 rfl) ?_
          refine R_iinc (i := 4) (ls' := [some (.inr (.inr (some (ad 38)))), some (.inl x1), some (.inl x2), some (.inl x3), some (.inl (w32 (x4 + 1)))]) (dX10_orders_1 36 rfl) rfl (Nat.le_of_ble_eq_true rfl) rfl rfl ?_
          refine R_goto (tgt := 83) (dX10_orders_1 37 rfl) (by decide) ?_
          exact ih (w32 (x4 + 1)) M477 H
def f_X10_orders_L37 (rO : Int → Int → Int → Mem → Option (Int × Mem)) : Nat → Int → Mem → Option (Int × Mem)
  | 0, _, _ => none
  | n + 1, x4, M =>
    if x4 < 4 then
      if 0 ≤ x4 ∧ x4 < 4 then
        if 0 ≤ x4 ∧ x4 < 4 then
          f_X10_orders_L37 rO n (w32 (x4 + 1)) (mset M 61 (x4).toNat (M 60 (x4).toNat))
        else none
      else none
    else
      some (0, M)
set_option maxHeartbeats 4000000 in
theorem t_X10_orders_L37 (l : Launch) (g : GG) (ad : Nat → Nat) (S : SW) (hS : q_ag 38 63 ad S) (dr : Nat) (hdr : 20 ≤ dr) {rO : Int → Int → Int → Mem → Option (Int × Mem)} (hO_ : ∀ (b0 : Int) (b1 : Int) (b2 : Int) (M : Mem) (r : Int) (M2 : Mem), rO b0 b1 b2 M = some (r, M2) → CT l g MX10_orders dr 0 0 S M [.inr (.inr (some (ad 38))), .inl b0, .inl b1, .inl b2] (q_ex S none M2)) {r : Int} {M' : Mem} : ∀ (n : Nat) (x4 : Int) (M : Mem), f_X10_orders_L37 rO n x4 M = some (r, M') → RW l g MX10_orders (q_rm (dr + 1) 0 0) 0 0 (q_ex S none M') 37 S M 0 0 [some (.inr (.inr (some (ad 38)))), none, none, none, some (.inl x4)] [] := by
  intro n
  induction n with
  | zero => intro x4 M H; exact absurd H (by simp [f_X10_orders_L37])
  | succ n ih =>
    intro x4 M H
    rw [f_X10_orders_L37] at H
    refine R_iload (i := 4) (dX10_orders_0 20 rfl) rfl ?_
    refine R_iconst (dX10_orders_0 21 rfl) rfl ?_
    refine R_icmp_ge (tgt := 63) (dX10_orders_0 22 rfl) (by decide) (fun hc => ?_) (fun hc => ?_)
    · have H := ite_F H hc
      exact R_vret rfl (Nat.zero_le _) (Nat.zero_le _) (dX10_orders_0 33 rfl) ⟨rfl, rfl, (Prod.mk.inj (Option.some.inj H)).2⟩
    · have H := ite_T H hc
      refine R_aload_n (i := 0) (dX10_orders_0 23 rfl) rfl rfl ?_
      refine R_getR cgX10 38 (cl38 hS) 43 (Nat.le_of_ble_eq_true rfl) rfl (Or.inl tb_1170) (dX10_orders_0 24 rfl) ?_
      refine R_iload (i := 4) (dX10_orders_0 25 rfl) rfl ?_
      refine R_aload_n (i := 0) (dX10_orders_0 26 rfl) rfl rfl ?_
      refine R_getR cgX10 38 (cl38 hS) 42 (Nat.le_of_ble_eq_true rfl) rfl (Or.inl tb_1169) (dX10_orders_0 27 rfl) ?_
      refine R_iload (i := 4) (dX10_orders_0 28 rfl) rfl ?_
      obtain ⟨hg, H⟩ := ite_G H
      refine R_iald 60 (cl60 hS) hg (dX10_orders_0 29 rfl) ?_
      obtain ⟨hg, H⟩ := ite_G H
      refine R_iast 61 (cl61 hS) hg (dX10_orders_0 30 rfl) ?_
      refine R_iinc (i := 4) (ls' := [some (.inr (.inr (some (ad 38)))), none, none, none, some (.inl (w32 (x4 + 1)))]) (dX10_orders_0 31 rfl) rfl (Nat.le_of_ble_eq_true rfl) rfl rfl ?_
      refine R_goto (tgt := 37) (dX10_orders_0 32 rfl) (by decide) ?_
      exact ih (w32 (x4 + 1)) (mset M 61 (x4).toNat (M 60 (x4).toNat)) H
def f_X10_orders (rO : Int → Int → Int → Mem → Option (Int × Mem)) (x1 : Int) (x2 : Int) (x3 : Int) (M : Mem) : Option (Int × Mem) :=
  if x1 = M 38 3 then
    if M 38 44 = (-1) then
      f_X10_orders_L37 rO
        100000 0 (mset (mset M 38 44 x2) 38 45 x3)
    else
      if M 38 44 < x2 then
        f_X10_orders_L37 rO
          100000 0 (mset (mset M 38 44 x2) 38 45 x3)
      else
        some (0, M)
  else
    if 0 ≤ x1 ∧ x1 < 4 then
      ob (rO (w32 (x1 + 1)) x2 x3 (mset M 60 (x1).toNat (-1))) fun r474 M475 =>
      f_X10_orders_L83 rO
        x1 x2 x3 100000 0 M475
    else none
set_option maxHeartbeats 4000000 in
theorem t_X10_orders (l : Launch) (g : GG) (ad : Nat → Nat) (S : SW) (M : Mem) (hS : q_ag 38 63 ad S) (dr : Nat) (hdr : 20 ≤ dr) {rO : Int → Int → Int → Mem → Option (Int × Mem)} (hO_ : ∀ (b0 : Int) (b1 : Int) (b2 : Int) (M : Mem) (r : Int) (M2 : Mem), rO b0 b1 b2 M = some (r, M2) → CT l g MX10_orders dr 0 0 S M [.inr (.inr (some (ad 38))), .inl b0, .inl b1, .inl b2] (q_ex S none M2)) (x1 : Int) (x2 : Int) (x3 : Int) {r : Int} {M' : Mem} (H : f_X10_orders rO x1 x2 x3 M = some (r, M')) : CT l g MX10_orders (dr + 1) 0 0 S M [.inr (.inr (some (ad 38))), .inl x1, .inl x2, .inl x3] (q_ex S none M') := by
  unfold f_X10_orders at H
  refine CT_of (ls0 := [some (.inr (.inr (some (ad 38)))), some (.inl x1), some (.inl x2), some (.inl x3), none]) (by decide +kernel) (Nat.le_of_ble_eq_true rfl) rfl ?_
  refine R_iload_n (i := 1) (dX10_orders_0 0 rfl) rfl rfl ?_
  refine R_aload_n (i := 0) (dX10_orders_0 1 rfl) rfl rfl ?_
  refine R_getI cgX10 38 (cl38 hS) 3 (Nat.le_of_ble_eq_true rfl) rfl (Or.inl tb_1130) (dX10_orders_0 2 rfl) ?_
  refine R_icmp_ne (tgt := 64) (dX10_orders_0 3 rfl) (by decide) (fun hc => ?_) (fun hc => ?_)
  · have H := ite_F H hc
    refine R_aload_n (i := 0) (dX10_orders_0 34 rfl) rfl rfl ?_
    refine R_getR cgX10 38 (cl38 hS) 42 (Nat.le_of_ble_eq_true rfl) rfl (Or.inl tb_1169) (dX10_orders_0 35 rfl) ?_
    refine R_iload_n (i := 1) (dX10_orders_0 36 rfl) rfl rfl ?_
    refine R_iconst (dX10_orders_0 37 rfl) rfl ?_
    obtain ⟨hg, H⟩ := ite_G H
    refine R_iast 60 (cl60 hS) hg (dX10_orders_0 38 rfl) ?_
    refine R_aload_n (i := 0) (dX10_orders_0 39 rfl) rfl rfl ?_
    refine R_iload_n (i := 1) (dX10_orders_0 40 rfl) rfl rfl ?_
    refine R_iconst (dX10_orders_0 41 rfl) rfl ?_
    refine R_iadd (dX10_orders_0 42 rfl) ?_
    refine R_iload_n (i := 2) (dX10_orders_0 43 rfl) rfl rfl ?_
    refine R_iload_n (i := 3) (dX10_orders_0 44 rfl) rfl rfl ?_
    obtain ⟨r474, M475, hr, H⟩ := ob_E H
    refine R_cV (st' := []) [.inl (w32 (x1 + 1)), .inl x2, .inl x3] [] (hO_ (w32 (x1 + 1)) x2 x3 _ _ _ hr) msX10_orders (Or.inl tb_1465) (Or.inl ⟨38, 10, _, _, _, (cl38 hS), rfl⟩) ⟨(by show dr + 1 ≤ dr + 1; omega), (by show 19 + 5 + 64 * (dr) ≤ 64 * (dr + 1); omega)⟩ (Nat.zero_le _) (Nat.zero_le _) rfl rfl (Nat.le_of_ble_eq_true rfl) rfl (dX10_orders_0 45 rfl) ?_
    refine R_iconst (dX10_orders_0 46 rfl) rfl ?_
    refine R_istore (i := 4) (ls' := [some (.inr (.inr (some (ad 38)))), some (.inl x1), some (.inl x2), some (.inl x3), some (.inl 0)]) (dX10_orders_0 47 rfl) (Nat.le_of_ble_eq_true rfl) (Nat.le_of_ble_eq_true rfl) rfl rfl ?_
    exact t_X10_orders_L83 l g ad S hS dr hdr hO_ x1 x2 x3  100000 0 M475 H 
  · have H := ite_T H hc
    refine R_aload_n (i := 0) (dX10_orders_0 4 rfl) rfl rfl ?_
    refine R_getI cgX10 38 (cl38 hS) 44 (Nat.le_of_ble_eq_true rfl) rfl (Or.inl tb_1171) (dX10_orders_0 5 rfl) ?_
    refine R_iconst (dX10_orders_0 6 rfl) rfl ?_
    refine R_icmp_eq (tgt := 24) (dX10_orders_0 7 rfl) (by decide) (fun hc => ?_) (fun hc => ?_)
    · have H := ite_T H hc
      refine R_aload_n (i := 0) (dX10_orders_0 12 rfl) rfl rfl ?_
      refine R_iload_n (i := 2) (dX10_orders_0 13 rfl) rfl rfl ?_
      refine R_putI cgX10 38 (cl38 hS) 44 (Nat.le_of_ble_eq_true rfl) rfl rfl rfl rfl (Or.inl tb_1171) (dX10_orders_0 14 rfl) ?_
      refine R_aload_n (i := 0) (dX10_orders_0 15 rfl) rfl rfl ?_
      refine R_iload_n (i := 3) (dX10_orders_0 16 rfl) rfl rfl ?_
      refine R_putI cgX10 38 (cl38 hS) 45 (Nat.le_of_ble_eq_true rfl) rfl rfl rfl rfl (Or.inl tb_1172) (dX10_orders_0 17 rfl) ?_
      refine R_iconst (dX10_orders_0 18 rfl) rfl ?_
      refine R_istore (i := 4) (ls' := [some (.inr (.inr (some (ad 38)))), some (.inl x1), some (.inl x2), some (.inl x3), some (.inl 0)]) (dX10_orders_0 19 rfl) (Nat.le_of_ble_eq_true rfl) (Nat.le_of_ble_eq_true rfl) rfl rfl ?_
      refine R_mask [true, false, false, false, true] rfl ?_
      exact t_X10_orders_L37 l g ad S hS dr hdr hO_  100000 0 (mset (mset M 38 44 x2) 38 45 x3) H 
    · have H := ite_F H hc
      refine R_iload_n (i := 2) (dX10_orders_0 8 rfl) rfl rfl ?_
      refine R_aload_n (i := 0) (dX10_orders_0 9 rfl) rfl rfl ?_
      refine R_getI cgX10 38 (cl38 hS) 44 (Nat.le_of_ble_eq_true rfl) rfl (Or.inl tb_1171) (dX10_orders_0 10 rfl) ?_
      refine R_icmp_le (tgt := 63) (dX10_orders_0 11 rfl) (by decide) (fun hc => ?_) (fun hc => ?_)
      · have H := ite_F H hc
        exact R_vret rfl (Nat.zero_le _) (Nat.zero_le _) (dX10_orders_0 33 rfl) ⟨rfl, rfl, (Prod.mk.inj (Option.some.inj H)).2⟩
      · have H := ite_T H hc
        refine R_aload_n (i := 0) (dX10_orders_0 12 rfl) rfl rfl ?_
        refine R_iload_n (i := 2) (dX10_orders_0 13 rfl) rfl rfl ?_
        refine R_putI cgX10 38 (cl38 hS) 44 (Nat.le_of_ble_eq_true rfl) rfl rfl rfl rfl (Or.inl tb_1171) (dX10_orders_0 14 rfl) ?_
        refine R_aload_n (i := 0) (dX10_orders_0 15 rfl) rfl rfl ?_
        refine R_iload_n (i := 3) (dX10_orders_0 16 rfl) rfl rfl ?_
        refine R_putI cgX10 38 (cl38 hS) 45 (Nat.le_of_ble_eq_true rfl) rfl rfl rfl rfl (Or.inl tb_1172) (dX10_orders_0 17 rfl) ?_
        refine R_iconst (dX10_orders_0 18 rfl) rfl ?_
        refine R_istore (i := 4) (ls' := [some (.inr (.inr (some (ad 38)))), some (.inl x1), some (.inl x2), some (.inl x3), some (.inl 0)]) (dX10_orders_0 19 rfl) (Nat.le_of_ble_eq_true rfl) (Nat.le_of_ble_eq_true rfl) rfl rfl ?_
        refine R_mask [true, false, false, false, true] rfl ?_
        exact t_X10_orders_L37 l g ad S hS dr hdr hO_  100000 0 (mset (mset M 38 44 x2) 38 45 x3) H 
def fz_X10_orders : Nat → Int → Int → Int → Mem → Option (Int × Mem)
  | 0 => fun _ _ _ _ => none
  | n + 1 => f_X10_orders (fz_X10_orders n)
theorem tz_X10_orders (l : Launch) (g : GG) (ad : Nat → Nat) (S : SW) (hS : q_ag 38 63 ad S) : ∀ (n : Nat) (b0 b1 b2 : Int) (M : Mem) (r : Int) (M2 : Mem), fz_X10_orders n b0 b1 b2 M = some (r, M2) → CT l g MX10_orders (20 + 1 * n) 0 0 S M [.inr (.inr (some (ad 38))), .inl b0, .inl b1, .inl b2] (q_ex S none M2) := by
  intro n
  induction n with
  | zero => intro b0 b1 b2 M r M2 H; cases H
  | succ n ih =>
    intro b0 b1 b2 M r M2 H
    exact CT_mono (t_X10_orders l g ad S M hS (20 + 1 * n) (by omega) ih b0 b1 b2 H) (by omega)
def f_X10_tonight (M : Mem) : Option (Int × Mem) :=
  ob (f_X10_likes M) fun r478 M479 =>
  ob (fz_X10_orders 6 0 0 0 (mset M479 38 44 (-1))) fun r480 M481 =>
  some (0, M481)
set_option maxHeartbeats 4000000 in
theorem t_X10_tonight (l : Launch) (g : GG) (ad : Nat → Nat) (S : SW) (M : Mem) (hS : q_ag 38 63 ad S) {r : Int} {M' : Mem} (H : f_X10_tonight M = some (r, M')) : CT l g MX10_tonight 27 0 0 S M [.inr (.inr (some (ad 38)))] (q_ex S none M') := by
  unfold f_X10_tonight at H
  refine CT_of (ls0 := [some (.inr (.inr (some (ad 38))))]) (by decide +kernel) (Nat.le_of_ble_eq_true rfl) rfl ?_
  refine R_aload_n (i := 0) (dX10_tonight 0 rfl) rfl rfl ?_
  obtain ⟨r478, M479, hr, H⟩ := ob_E H
  refine R_cV (st' := []) [] [] (t_X10_likes l g ad S _ hS   hr) msX10_likes (Or.inl tb_1457) (Or.inl ⟨38, 10, _, _, _, (cl38 hS), rfl⟩) ⟨Nat.le_of_ble_eq_true rfl, Nat.le_of_ble_eq_true rfl⟩ (Nat.zero_le _) (Nat.zero_le _) rfl rfl (Nat.le_of_ble_eq_true rfl) rfl (dX10_tonight 1 rfl) ?_
  refine R_aload_n (i := 0) (dX10_tonight 2 rfl) rfl rfl ?_
  refine R_iconst (dX10_tonight 3 rfl) rfl ?_
  refine R_putI cgX10 38 (cl38 hS) 44 (Nat.le_of_ble_eq_true rfl) rfl rfl rfl rfl (Or.inl tb_1171) (dX10_tonight 4 rfl) ?_
  refine R_aload_n (i := 0) (dX10_tonight 5 rfl) rfl rfl ?_
  refine R_iconst (dX10_tonight 6 rfl) rfl ?_
  refine R_iconst (dX10_tonight 7 rfl) rfl ?_
  refine R_iconst (dX10_tonight 8 rfl) rfl ?_
  obtain ⟨r480, M481, hr, H⟩ := ob_E H
  refine R_cV (st' := []) [.inl 0, .inl 0, .inl 0] [] (tz_X10_orders l g ad S hS 6 0 0 0 _ _ _ hr) msX10_orders (Or.inl tb_1465) (Or.inl ⟨38, 10, _, _, _, (cl38 hS), rfl⟩) ⟨Nat.le_of_ble_eq_true rfl, Nat.le_of_ble_eq_true rfl⟩ (Nat.zero_le _) (Nat.zero_le _) rfl rfl (Nat.le_of_ble_eq_true rfl) rfl (dX10_tonight 9 rfl) ?_
  exact R_vret rfl (Nat.zero_le _) (Nat.zero_le _) (dX10_tonight 10 rfl) ⟨rfl, rfl, (Prod.mk.inj (Option.some.inj H)).2⟩
def f_X10_order (x1 : Int) (M : Mem) : Option (Int × Mem) :=
  if f_X10_isGuest x1 M = 0 then
    some ((-5), M)
  else
    ob (f_X10_tonight M) fun r482 M483 =>
    if 0 ≤ x1 ∧ x1 < 4 then
      some (M483 61 (x1).toNat, M483)
    else none
set_option maxHeartbeats 4000000 in
theorem t_X10_order (l : Launch) (g : GG) (ad : Nat → Nat) (S : SW) (M : Mem) (hS : q_ag 38 63 ad S) (x1 : Int) {r : Int} {M' : Mem} (H : f_X10_order x1 M = some (r, M')) : CT l g MX10_order 28 0 0 S M [.inr (.inr (some (ad 38))), .inl x1] (q_ex S (some (.inl r)) M') := by
  unfold f_X10_order at H
  refine CT_of (ls0 := [some (.inr (.inr (some (ad 38)))), some (.inl x1)]) (by decide +kernel) (Nat.le_of_ble_eq_true rfl) rfl ?_
  refine R_aload_n (i := 0) (dX10_order 0 rfl) rfl rfl ?_
  refine R_iload_n (i := 1) (dX10_order 1 rfl) rfl rfl ?_
  refine R_cV (st' := [.inl (f_X10_isGuest x1 M)]) [.inl x1] [] (t_X10_isGuest l g ad S _ hS   x1) msX10_isGuest (Or.inl tb_1296) (Or.inl ⟨38, 10, _, _, _, (cl38 hS), rfl⟩) ⟨Nat.le_of_ble_eq_true rfl, Nat.le_of_ble_eq_true rfl⟩ (Nat.zero_le _) (Nat.zero_le _) rfl rfl (Nat.le_of_ble_eq_true rfl) rfl (dX10_order 2 rfl) ?_
  refine R_if_ne (tgt := 11) (dX10_order 3 rfl) (by decide) (fun hc => ?_) (fun hc => ?_)
  · have H := ite_F H hc
    refine R_aload_n (i := 0) (dX10_order 6 rfl) rfl rfl ?_
    obtain ⟨r482, M483, hr, H⟩ := ob_E H
    refine R_cV (st' := []) [] [] (t_X10_tonight l g ad S _ hS   hr) msX10_tonight (Or.inl tb_1453) (Or.inl ⟨38, 10, _, _, _, (cl38 hS), rfl⟩) ⟨Nat.le_of_ble_eq_true rfl, Nat.le_of_ble_eq_true rfl⟩ (Nat.zero_le _) (Nat.zero_le _) rfl rfl (Nat.le_of_ble_eq_true rfl) rfl (dX10_order 7 rfl) ?_
    refine R_aload_n (i := 0) (dX10_order 8 rfl) rfl rfl ?_
    refine R_getR cgX10 38 (cl38 hS) 43 (Nat.le_of_ble_eq_true rfl) rfl (Or.inl tb_1170) (dX10_order 9 rfl) ?_
    refine R_iload_n (i := 1) (dX10_order 10 rfl) rfl rfl ?_
    obtain ⟨hg, H⟩ := ite_G H
    refine R_iald 61 (cl61 hS) hg (dX10_order 11 rfl) ?_
    exact R_iret rfl rfl (Nat.zero_le _) (Nat.zero_le _) (dX10_order 12 rfl) ⟨congrArg (fun z => some (Sum.inl z)) (Prod.mk.inj (Option.some.inj H)).1, rfl, (Prod.mk.inj (Option.some.inj H)).2⟩
  · have H := ite_T H hc
    refine R_bipush (dX10_order 4 rfl) rfl rfl ?_
    exact R_iret rfl rfl (Nat.zero_le _) (Nat.zero_le _) (dX10_order 5 rfl) ⟨congrArg (fun z => some (Sum.inl z)) (Prod.mk.inj (Option.some.inj H)).1, rfl, (Prod.mk.inj (Option.some.inj H)).2⟩
def f_X10_ordered (x1 : Int) (M : Mem) : Option (Int × Mem) :=
  if f_X10_in x1 0 1 = 0 then
    some ((-2), M)
  else
    ob (f_X10_tonight M) fun r484 M485 =>
    if x1 = 0 then
      some (M485 38 44, M485)
    else
      some (M485 38 45, M485)
set_option maxHeartbeats 4000000 in
theorem t_X10_ordered (l : Launch) (g : GG) (ad : Nat → Nat) (S : SW) (M : Mem) (hS : q_ag 38 63 ad S) (x1 : Int) {r : Int} {M' : Mem} (H : f_X10_ordered x1 M = some (r, M')) : CT l g MX10_ordered 28 0 0 S M [.inr (.inr (some (ad 38))), .inl x1] (q_ex S (some (.inl r)) M') := by
  unfold f_X10_ordered at H
  refine CT_of (ls0 := [some (.inr (.inr (some (ad 38)))), some (.inl x1)]) (by decide +kernel) (Nat.le_of_ble_eq_true rfl) rfl ?_
  refine R_iload_n (i := 1) (dX10_ordered 0 rfl) rfl rfl ?_
  refine R_iconst (dX10_ordered 1 rfl) rfl ?_
  refine R_iconst (dX10_ordered 2 rfl) rfl ?_
  refine R_cS (st' := [.inl (f_X10_in x1 0 1)]) [.inl x1, .inl 0, .inl 1] [] (t_X10_in l g S _   x1 0 1) msX10_in (Or.inl tb_1083) ⟨Nat.le_of_ble_eq_true rfl, Nat.le_of_ble_eq_true rfl⟩ (Nat.zero_le _) (Nat.zero_le _) rfl rfl (Nat.le_of_ble_eq_true rfl) rfl (dX10_ordered 3 rfl) ?_
  refine R_if_ne (tgt := 12) (dX10_ordered 4 rfl) (by decide) (fun hc => ?_) (fun hc => ?_)
  · have H := ite_F H hc
    refine R_aload_n (i := 0) (dX10_ordered 7 rfl) rfl rfl ?_
    obtain ⟨r484, M485, hr, H⟩ := ob_E H
    refine R_cV (st' := []) [] [] (t_X10_tonight l g ad S _ hS   hr) msX10_tonight (Or.inl tb_1453) (Or.inl ⟨38, 10, _, _, _, (cl38 hS), rfl⟩) ⟨Nat.le_of_ble_eq_true rfl, Nat.le_of_ble_eq_true rfl⟩ (Nat.zero_le _) (Nat.zero_le _) rfl rfl (Nat.le_of_ble_eq_true rfl) rfl (dX10_ordered 8 rfl) ?_
    refine R_iload_n (i := 1) (dX10_ordered 9 rfl) rfl rfl ?_
    refine R_if_ne (tgt := 27) (dX10_ordered 10 rfl) (by decide) (fun hc => ?_) (fun hc => ?_)
    · have H := ite_F H hc
      refine R_aload_n (i := 0) (dX10_ordered 14 rfl) rfl rfl ?_
      refine R_getI cgX10 38 (cl38 hS) 45 (Nat.le_of_ble_eq_true rfl) rfl (Or.inl tb_1172) (dX10_ordered 15 rfl) ?_
      exact R_iret rfl rfl (Nat.zero_le _) (Nat.zero_le _) (dX10_ordered 16 rfl) ⟨congrArg (fun z => some (Sum.inl z)) (Prod.mk.inj (Option.some.inj H)).1, rfl, (Prod.mk.inj (Option.some.inj H)).2⟩
    · have H := ite_T H hc
      refine R_aload_n (i := 0) (dX10_ordered 11 rfl) rfl rfl ?_
      refine R_getI cgX10 38 (cl38 hS) 44 (Nat.le_of_ble_eq_true rfl) rfl (Or.inl tb_1171) (dX10_ordered 12 rfl) ?_
      refine R_goto (tgt := 31) (dX10_ordered 13 rfl) (by decide) ?_
      exact R_iret rfl rfl (Nat.zero_le _) (Nat.zero_le _) (dX10_ordered 16 rfl) ⟨congrArg (fun z => some (Sum.inl z)) (Prod.mk.inj (Option.some.inj H)).1, rfl, (Prod.mk.inj (Option.some.inj H)).2⟩
  · have H := ite_T H hc
    refine R_bipush (dX10_ordered 5 rfl) rfl rfl ?_
    exact R_iret rfl rfl (Nat.zero_le _) (Nat.zero_le _) (dX10_ordered 6 rfl) ⟨congrArg (fun z => some (Sum.inl z)) (Prod.mk.inj (Option.some.inj H)).1, rfl, (Prod.mk.inj (Option.some.inj H)).2⟩
def f_X10_middle_L41 (K100 : Int → Mem → Option (Int × Mem)) (x1 : Int) (x2 : Int) (x3 : Int) : Nat → Int → Int → Mem → Option (Int × Mem)
  | 0, _, _, _ => none
  | n + 1, x4, x5, M =>
    if x5 < M 38 0 then
      if b_and (b_shr x1 x5) 1 = 1 then
        if 0 ≤ w32 ((w32 (10 * x3)) + x5) ∧ w32 ((w32 (10 * x3)) + x5) < 40 then
          if x4 < M 59 (w32 ((w32 (10 * x3)) + x5)).toNat then
            f_X10_middle_L41 K100 x1 x2 x3 n (M 59 (w32 ((w32 (10 * x3)) + x5)).toNat) (w32 (x5 + 1)) M
          else
            f_X10_middle_L41 K100 x1 x2 x3 n x4 (w32 (x5 + 1)) M
        else none
      else
        if x4 < 0 then
          f_X10_middle_L41 K100 x1 x2 x3 n 0 (w32 (x5 + 1)) M
        else
          f_X10_middle_L41 K100 x1 x2 x3 n x4 (w32 (x5 + 1)) M
    else
      K100 x4 M
set_option maxHeartbeats 4000000 in
theorem t_X10_middle_L41 (l : Launch) (g : GG) (ad : Nat → Nat) (S : SW) (hS : q_ag 38 63 ad S) (x1 : Int) (x2 : Int) (x3 : Int) {K100 : Int → Mem → Option (Int × Mem)} {r : Int} {M' : Mem} : ∀ (n : Nat) (x4 : Int) (x5 : Int) (M : Mem), f_X10_middle_L41 K100 x1 x2 x3 n x4 x5 M = some (r, M') → (∀ (z4 : Int) (M1 : Mem), K100 z4 M1 = some (r, M') → RW l g MX10_middle (q_rm 7 0 0) 0 0 (q_ex S (some (.inl r)) M') 100 S M1 0 0 [some (.inr (.inr (some (ad 38)))), some (.inl x1), some (.inl x2), some (.inl x3), some (.inl z4), none, none] []) → RW l g MX10_middle (q_rm 7 0 0) 0 0 (q_ex S (some (.inl r)) M') 41 S M 0 0 [some (.inr (.inr (some (ad 38)))), some (.inl x1), some (.inl x2), some (.inl x3), some (.inl x4), some (.inl x5), none] [] := by
  intro n
  induction n with
  | zero => intro x4 x5 M H; exact absurd H (by simp [f_X10_middle_L41])
  | succ n ih =>
    intro x4 x5 M H hK100
    rw [f_X10_middle_L41] at H
    refine R_iload (i := 5) (dX10_middle_0 26 rfl) rfl ?_
    refine R_aload_n (i := 0) (dX10_middle_0 27 rfl) rfl rfl ?_
    refine R_getI cgX10 38 (cl38 hS) 0 (Nat.le_of_ble_eq_true rfl) rfl (Or.inl tb_1127) (dX10_middle_0 28 rfl) ?_
    refine R_icmp_ge (tgt := 100) (dX10_middle_0 29 rfl) (by decide) (fun hc => ?_) (fun hc => ?_)
    · have H := ite_F H hc
      refine R_mask [true, true, true, true, true, false, false] rfl ?_
      exact hK100 x4 M H
    · have H := ite_T H hc
      refine R_iload_n (i := 1) (dX10_middle_0 30 rfl) rfl rfl ?_
      refine R_iload (i := 5) (dX10_middle_0 31 rfl) rfl ?_
      refine R_ishr (dX10_middle_0 32 rfl) ?_
      refine R_iconst (dX10_middle_0 33 rfl) rfl ?_
      refine R_iand (dX10_middle_0 34 rfl) ?_
      refine R_iconst (dX10_middle_0 35 rfl) rfl ?_
      refine R_icmp_ne (tgt := 75) (dX10_middle_0 36 rfl) (by decide) (fun hc => ?_) (fun hc => ?_)
      · have H := ite_F H hc
        refine R_iconst (dX10_middle_0 46 rfl) rfl ?_
        refine R_istore (i := 6) (ls' := [some (.inr (.inr (some (ad 38)))), some (.inl x1), some (.inl x2), some (.inl x3), some (.inl x4), some (.inl x5), some (.inl 0)]) (dX10_middle_0 47 rfl) (Nat.le_of_ble_eq_true rfl) (Nat.le_of_ble_eq_true rfl) rfl rfl ?_
        refine R_iload (i := 6) (dX10_middle_0 48 rfl) rfl ?_
        refine R_iload (i := 4) (dX10_middle_0 49 rfl) rfl ?_
        refine R_icmp_le (tgt := 90) (dX10_middle_0 50 rfl) (by decide) (fun hc => ?_) (fun hc => ?_)
        · have H := ite_F H hc
          refine R_iload (i := 4) (dX10_middle_0 53 rfl) rfl ?_
          refine R_istore (i := 4) (ls' := [some (.inr (.inr (some (ad 38)))), some (.inl x1), some (.inl x2), some (.inl x3), some (.inl x4), some (.inl x5), some (.inl 0)]) (dX10_middle_0 54 rfl) (Nat.le_of_ble_eq_true rfl) (Nat.le_of_ble_eq_true rfl) rfl rfl ?_
          refine R_iinc (i := 5) (ls' := [some (.inr (.inr (some (ad 38)))), some (.inl x1), some (.inl x2), some (.inl x3), some (.inl x4), some (.inl (w32 (x5 + 1))), some (.inl 0)]) (dX10_middle_0 55 rfl) rfl (Nat.le_of_ble_eq_true rfl) rfl rfl ?_
          refine R_goto (tgt := 41) (dX10_middle_0 56 rfl) (by decide) ?_
          refine R_mask [true, true, true, true, true, true, false] rfl ?_
          exact ih x4 (w32 (x5 + 1)) M H hK100
        · have H := ite_T H hc
          refine R_iload (i := 6) (dX10_middle_0 51 rfl) rfl ?_
          refine R_goto (tgt := 92) (dX10_middle_0 52 rfl) (by decide) ?_
          refine R_istore (i := 4) (ls' := [some (.inr (.inr (some (ad 38)))), some (.inl x1), some (.inl x2), some (.inl x3), some (.inl 0), some (.inl x5), some (.inl 0)]) (dX10_middle_0 54 rfl) (Nat.le_of_ble_eq_true rfl) (Nat.le_of_ble_eq_true rfl) rfl rfl ?_
          refine R_iinc (i := 5) (ls' := [some (.inr (.inr (some (ad 38)))), some (.inl x1), some (.inl x2), some (.inl x3), some (.inl 0), some (.inl (w32 (x5 + 1))), some (.inl 0)]) (dX10_middle_0 55 rfl) rfl (Nat.le_of_ble_eq_true rfl) rfl rfl ?_
          refine R_goto (tgt := 41) (dX10_middle_0 56 rfl) (by decide) ?_
          refine R_mask [true, true, true, true, true, true, false] rfl ?_
          exact ih 0 (w32 (x5 + 1)) M H hK100
      · have H := ite_T H hc
        refine R_aload_n (i := 0) (dX10_middle_0 37 rfl) rfl rfl ?_
        refine R_getR cgX10 38 (cl38 hS) 41 (Nat.le_of_ble_eq_true rfl) rfl (Or.inl tb_1168) (dX10_middle_0 38 rfl) ?_
        refine R_bipush (dX10_middle_0 39 rfl) rfl rfl ?_
        refine R_iload_n (i := 3) (dX10_middle_0 40 rfl) rfl rfl ?_
        refine R_imul (dX10_middle_0 41 rfl) ?_
        refine R_iload (i := 5) (dX10_middle_0 42 rfl) rfl ?_
        refine R_iadd (dX10_middle_0 43 rfl) ?_
        obtain ⟨hg, H⟩ := ite_G H
        refine R_iald 59 (cl59 hS) hg (dX10_middle_0 44 rfl) ?_
        refine R_goto (tgt := 76) (dX10_middle_0 45 rfl) (by decide) ?_
        refine R_istore (i := 6) (ls' := [some (.inr (.inr (some (ad 38)))), some (.inl x1), some (.inl x2), some (.inl x3), some (.inl x4), some (.inl x5), some (.inl (M 59 (w32 ((w32 (10 * x3)) + x5)).toNat))]) (dX10_middle_0 47 rfl) (Nat.le_of_ble_eq_true rfl) (Nat.le_of_ble_eq_true rfl) rfl rfl ?_
        refine R_iload (i := 6) (dX10_middle_0 48 rfl) rfl ?_
        refine R_iload (i := 4) (dX10_middle_0 49 rfl) rfl ?_
        refine R_icmp_le (tgt := 90) (dX10_middle_0 50 rfl) (by decide) (fun hc => ?_) (fun hc => ?_)
        · have H := ite_F H hc
          refine R_iload (i := 4) (dX10_middle_0 53 rfl) rfl ?_
          refine R_istore (i := 4) (ls' := [some (.inr (.inr (some (ad 38)))), some (.inl x1), some (.inl x2), some (.inl x3), some (.inl x4), some (.inl x5), some (.inl (M 59 (w32 ((w32 (10 * x3)) + x5)).toNat))]) (dX10_middle_0 54 rfl) (Nat.le_of_ble_eq_true rfl) (Nat.le_of_ble_eq_true rfl) rfl rfl ?_
          refine R_iinc (i := 5) (ls' := [some (.inr (.inr (some (ad 38)))), some (.inl x1), some (.inl x2), some (.inl x3), some (.inl x4), some (.inl (w32 (x5 + 1))), some (.inl (M 59 (w32 ((w32 (10 * x3)) + x5)).toNat))]) (dX10_middle_0 55 rfl) rfl (Nat.le_of_ble_eq_true rfl) rfl rfl ?_
          refine R_goto (tgt := 41) (dX10_middle_0 56 rfl) (by decide) ?_
          refine R_mask [true, true, true, true, true, true, false] rfl ?_
          exact ih x4 (w32 (x5 + 1)) M H hK100
        · have H := ite_T H hc
          refine R_iload (i := 6) (dX10_middle_0 51 rfl) rfl ?_
          refine R_goto (tgt := 92) (dX10_middle_0 52 rfl) (by decide) ?_
          refine R_istore (i := 4) (ls' := [some (.inr (.inr (some (ad 38)))), some (.inl x1), some (.inl x2), some (.inl x3), some (.inl (M 59 (w32 ((w32 (10 * x3)) + x5)).toNat)), some (.inl x5), some (.inl (M 59 (w32 ((w32 (10 * x3)) + x5)).toNat))]) (dX10_middle_0 54 rfl) (Nat.le_of_ble_eq_true rfl) (Nat.le_of_ble_eq_true rfl) rfl rfl ?_
          refine R_iinc (i := 5) (ls' := [some (.inr (.inr (some (ad 38)))), some (.inl x1), some (.inl x2), some (.inl x3), some (.inl (M 59 (w32 ((w32 (10 * x3)) + x5)).toNat)), some (.inl (w32 (x5 + 1))), some (.inl (M 59 (w32 ((w32 (10 * x3)) + x5)).toNat))]) (dX10_middle_0 55 rfl) rfl (Nat.le_of_ble_eq_true rfl) rfl rfl ?_
          refine R_goto (tgt := 41) (dX10_middle_0 56 rfl) (by decide) ?_
          refine R_mask [true, true, true, true, true, true, false] rfl ?_
          exact ih (M 59 (w32 ((w32 (10 * x3)) + x5)).toNat) (w32 (x5 + 1)) M H hK100
def f_X10_middle_L27 (x1 : Int) : Nat → Int → Int → Mem → Option (Int × Mem)
  | 0, _, _, _ => none
  | n + 1, x2, x3, M =>
    if x3 < M 38 3 then
      f_X10_middle_L41
        (fun y488 M489 =>
          f_X10_middle_L27 x1 n (w32 (x2 + y488)) (w32 (x3 + 1)) M489
        )
        x1 x2 x3 100000 0 0 M
    else
      some (x2, M)
set_option maxHeartbeats 4000000 in
theorem t_X10_middle_L27 (l : Launch) (g : GG) (ad : Nat → Nat) (S : SW) (hS : q_ag 38 63 ad S) (x1 : Int) {r : Int} {M' : Mem} : ∀ (n : Nat) (x2 : Int) (x3 : Int) (M : Mem), f_X10_middle_L27 x1 n x2 x3 M = some (r, M') → RW l g MX10_middle (q_rm 7 0 0) 0 0 (q_ex S (some (.inl r)) M') 27 S M 0 0 [some (.inr (.inr (some (ad 38)))), some (.inl x1), some (.inl x2), some (.inl x3), none, none, none] [] := by
  intro n
  induction n with
  | zero => intro x2 x3 M H; exact absurd H (by simp [f_X10_middle_L27])
  | succ n ih =>
    intro x2 x3 M H
    rw [f_X10_middle_L27] at H
    refine R_iload_n (i := 3) (dX10_middle_0 18 rfl) rfl rfl ?_
    refine R_aload_n (i := 0) (dX10_middle_0 19 rfl) rfl rfl ?_
    refine R_getI cgX10 38 (cl38 hS) 3 (Nat.le_of_ble_eq_true rfl) rfl (Or.inl tb_1130) (dX10_middle_0 20 rfl) ?_
    refine R_icmp_ge (tgt := 111) (dX10_middle_0 21 rfl) (by decide) (fun hc => ?_) (fun hc => ?_)
    · have H := ite_F H hc
      refine R_iload_n (i := 2) (dX10_middle_1 3 rfl) rfl rfl ?_
      exact R_iret rfl rfl (Nat.zero_le _) (Nat.zero_le _) (dX10_middle_1 4 rfl) ⟨congrArg (fun z => some (Sum.inl z)) (Prod.mk.inj (Option.some.inj H)).1, rfl, (Prod.mk.inj (Option.some.inj H)).2⟩
    · have H := ite_T H hc
      refine R_iconst (dX10_middle_0 22 rfl) rfl ?_
      refine R_istore (i := 4) (ls' := [some (.inr (.inr (some (ad 38)))), some (.inl x1), some (.inl x2), some (.inl x3), some (.inl 0), none, none]) (dX10_middle_0 23 rfl) (Nat.le_of_ble_eq_true rfl) (Nat.le_of_ble_eq_true rfl) rfl rfl ?_
      refine R_iconst (dX10_middle_0 24 rfl) rfl ?_
      refine R_istore (i := 5) (ls' := [some (.inr (.inr (some (ad 38)))), some (.inl x1), some (.inl x2), some (.inl x3), some (.inl 0), some (.inl 0), none]) (dX10_middle_0 25 rfl) (Nat.le_of_ble_eq_true rfl) (Nat.le_of_ble_eq_true rfl) rfl rfl ?_
      refine t_X10_middle_L41 l g ad S hS x1 x2 x3  100000 0 0 M H (fun y488 M489 H => ?_)
      refine R_iload_n (i := 2) (dX10_middle_0 57 rfl) rfl rfl ?_
      refine R_iload (i := 4) (dX10_middle_0 58 rfl) rfl ?_
      refine R_iadd (dX10_middle_0 59 rfl) ?_
      refine R_istore_n (i := 2) (ls' := [some (.inr (.inr (some (ad 38)))), some (.inl x1), some (.inl (w32 (x2 + y488))), some (.inl x3), some (.inl y488), none, none]) (dX10_middle_1 0 rfl) rfl (Nat.le_of_ble_eq_true rfl) (Nat.le_of_ble_eq_true rfl) rfl rfl ?_
      refine R_iinc (i := 3) (ls' := [some (.inr (.inr (some (ad 38)))), some (.inl x1), some (.inl (w32 (x2 + y488))), some (.inl (w32 (x3 + 1))), some (.inl y488), none, none]) (dX10_middle_1 1 rfl) rfl (Nat.le_of_ble_eq_true rfl) rfl rfl ?_
      refine R_goto (tgt := 27) (dX10_middle_1 2 rfl) (by decide) ?_
      refine R_mask [true, true, true, true, false, false, false] rfl ?_
      exact ih (w32 (x2 + y488)) (w32 (x3 + 1)) M489 H
def f_X10_middle (x1 : Int) (M : Mem) : Option (Int × Mem) :=
  if f_X10_in x1 0 (w32 ((b_shl 1 (M 38 0)) - 1)) = 0 then
    some ((-2), M)
  else
    ob (f_X10_likes M) fun r486 M487 =>
    f_X10_middle_L27
      x1 100000 0 0 M487
set_option maxHeartbeats 4000000 in
theorem t_X10_middle (l : Launch) (g : GG) (ad : Nat → Nat) (S : SW) (M : Mem) (hS : q_ag 38 63 ad S) (x1 : Int) {r : Int} {M' : Mem} (H : f_X10_middle x1 M = some (r, M')) : CT l g MX10_middle 7 0 0 S M [.inr (.inr (some (ad 38))), .inl x1] (q_ex S (some (.inl r)) M') := by
  unfold f_X10_middle at H
  refine CT_of (ls0 := [some (.inr (.inr (some (ad 38)))), some (.inl x1), none, none, none, none, none]) (by decide +kernel) (Nat.le_of_ble_eq_true rfl) rfl ?_
  refine R_iload_n (i := 1) (dX10_middle_0 0 rfl) rfl rfl ?_
  refine R_iconst (dX10_middle_0 1 rfl) rfl ?_
  refine R_iconst (dX10_middle_0 2 rfl) rfl ?_
  refine R_aload_n (i := 0) (dX10_middle_0 3 rfl) rfl rfl ?_
  refine R_getI cgX10 38 (cl38 hS) 0 (Nat.le_of_ble_eq_true rfl) rfl (Or.inl tb_1127) (dX10_middle_0 4 rfl) ?_
  refine R_ishl (dX10_middle_0 5 rfl) ?_
  refine R_iconst (dX10_middle_0 6 rfl) rfl ?_
  refine R_isub (dX10_middle_0 7 rfl) ?_
  refine R_cS (st' := [.inl (f_X10_in x1 0 (w32 ((b_shl 1 (M 38 0)) - 1)))]) [.inl x1, .inl 0, .inl (w32 ((b_shl 1 (M 38 0)) - 1))] [] (t_X10_in l g S _   x1 0 (w32 ((b_shl 1 (M 38 0)) - 1))) msX10_in (Or.inl tb_1083) ⟨Nat.le_of_ble_eq_true rfl, Nat.le_of_ble_eq_true rfl⟩ (Nat.zero_le _) (Nat.zero_le _) rfl rfl (Nat.le_of_ble_eq_true rfl) rfl (dX10_middle_0 8 rfl) ?_
  refine R_if_ne (tgt := 19) (dX10_middle_0 9 rfl) (by decide) (fun hc => ?_) (fun hc => ?_)
  · have H := ite_F H hc
    refine R_aload_n (i := 0) (dX10_middle_0 12 rfl) rfl rfl ?_
    obtain ⟨r486, M487, hr, H⟩ := ob_E H
    refine R_cV (st' := []) [] [] (t_X10_likes l g ad S _ hS   hr) msX10_likes (Or.inl tb_1457) (Or.inl ⟨38, 10, _, _, _, (cl38 hS), rfl⟩) ⟨Nat.le_of_ble_eq_true rfl, Nat.le_of_ble_eq_true rfl⟩ (Nat.zero_le _) (Nat.zero_le _) rfl rfl (Nat.le_of_ble_eq_true rfl) rfl (dX10_middle_0 13 rfl) ?_
    refine R_iconst (dX10_middle_0 14 rfl) rfl ?_
    refine R_istore_n (i := 2) (ls' := [some (.inr (.inr (some (ad 38)))), some (.inl x1), some (.inl 0), none, none, none, none]) (dX10_middle_0 15 rfl) rfl (Nat.le_of_ble_eq_true rfl) (Nat.le_of_ble_eq_true rfl) rfl rfl ?_
    refine R_iconst (dX10_middle_0 16 rfl) rfl ?_
    refine R_istore_n (i := 3) (ls' := [some (.inr (.inr (some (ad 38)))), some (.inl x1), some (.inl 0), some (.inl 0), none, none, none]) (dX10_middle_0 17 rfl) rfl (Nat.le_of_ble_eq_true rfl) (Nat.le_of_ble_eq_true rfl) rfl rfl ?_
    exact t_X10_middle_L27 l g ad S hS x1  100000 0 0 M487 H 
  · have H := ite_T H hc
    refine R_bipush (dX10_middle_0 10 rfl) rfl rfl ?_
    exact R_iret rfl rfl (Nat.zero_le _) (Nat.zero_le _) (dX10_middle_0 11 rfl) ⟨congrArg (fun z => some (Sum.inl z)) (Prod.mk.inj (Option.some.inj H)).1, rfl, (Prod.mk.inj (Option.some.inj H)).2⟩
def f_X10_counts_L2 (K22 : Mem → Option (Int × Mem)) (x1 : Int) (x2 : Int) : Nat → Int → Mem → Option (Int × Mem)
  | 0, _, _ => none
  | n + 1, x3, M =>
    if x3 < 4096 then
      if 0 ≤ x3 ∧ x3 < 4096 then
        f_X10_counts_L2 K22 x1 x2 n (w32 (x3 + 1)) (mset M 62 (x3).toNat 0)
      else none
    else
      K22 M
set_option maxHeartbeats 4000000 in
theorem t_X10_counts_L2 (l : Launch) (g : GG) (ad : Nat → Nat) (S : SW) (hS : q_ag 38 63 ad S) (x1 : Int) (x2 : Int) {K22 : Mem → Option (Int × Mem)} {r : Int} {M' : Mem} : ∀ (n : Nat) (x3 : Int) (M : Mem), f_X10_counts_L2 K22 x1 x2 n x3 M = some (r, M') → (∀ (M1 : Mem), K22 M1 = some (r, M') → RW l g MX10_counts (q_rm 2 0 0) 0 0 (q_ex S none M') 22 S M1 0 0 [some (.inr (.inr (some (ad 38)))), some (.inl x1), some (.inl x2), none] []) → RW l g MX10_counts (q_rm 2 0 0) 0 0 (q_ex S none M') 2 S M 0 0 [some (.inr (.inr (some (ad 38)))), some (.inl x1), some (.inl x2), some (.inl x3)] [] := by
  intro n
  induction n with
  | zero => intro x3 M H; exact absurd H (by simp [f_X10_counts_L2])
  | succ n ih =>
    intro x3 M H hK22
    rw [f_X10_counts_L2] at H
    refine R_iload_n (i := 3) (dX10_counts 2 rfl) rfl rfl ?_
    refine R_sipush (dX10_counts 3 rfl) rfl rfl ?_
    refine R_icmp_ge (tgt := 22) (dX10_counts 4 rfl) (by decide) (fun hc => ?_) (fun hc => ?_)
    · have H := ite_F H hc
      refine R_mask [true, true, true, false] rfl ?_
      exact hK22 M H
    · have H := ite_T H hc
      refine R_aload_n (i := 0) (dX10_counts 5 rfl) rfl rfl ?_
      refine R_getR cgX10 38 (cl38 hS) 46 (Nat.le_of_ble_eq_true rfl) rfl (Or.inl tb_1173) (dX10_counts 6 rfl) ?_
      refine R_iload_n (i := 3) (dX10_counts 7 rfl) rfl rfl ?_
      refine R_iconst (dX10_counts 8 rfl) rfl ?_
      obtain ⟨hg, H⟩ := ite_G H
      refine R_iast 62 (cl62 hS) hg (dX10_counts 9 rfl) ?_
      refine R_iinc (i := 3) (ls' := [some (.inr (.inr (some (ad 38)))), some (.inl x1), some (.inl x2), some (.inl (w32 (x3 + 1)))]) (dX10_counts 10 rfl) rfl (Nat.le_of_ble_eq_true rfl) rfl rfl ?_
      refine R_goto (tgt := 2) (dX10_counts 11 rfl) (by decide) ?_
      exact ih (w32 (x3 + 1)) (mset M 62 (x3).toNat 0) H hK22
def f_X10_counts_L24 (x1 : Int) (x2 : Int) : Nat → Int → Mem → Option (Int × Mem)
  | 0, _, _ => none
  | n + 1, x3, M =>
    if x3 < M 38 40 then
      if 0 ≤ x3 ∧ x3 < 720 then
        (f_X10_hasIn x1 (M 58 (x3).toNat) M).bind fun r491 =>
        if 0 ≤ x3 ∧ x3 < 720 then
          (f_X10_hasIn x2 (M 58 (x3).toNat) M).bind fun r492 =>
          if 0 ≤ w32 ((w32 (64 * r491)) + r492) ∧ w32 ((w32 (64 * r491)) + r492) < 4096 then
            if 0 ≤ w32 ((w32 (64 * r491)) + r492) ∧ w32 ((w32 (64 * r491)) + r492) < 4096 then
              f_X10_counts_L24 x1 x2 n (w32 (x3 + 1)) (mset M 62 (w32 ((w32 (64 * r491)) + r492)).toNat (w32 ((M 62 (w32 ((w32 (64 * r491)) + r492)).toNat) + 1)))
            else none
          else none
        else none
      else none
    else
      some (0, M)
set_option maxHeartbeats 4000000 in
theorem t_X10_counts_L24 (l : Launch) (g : GG) (ad : Nat → Nat) (S : SW) (hS : q_ag 38 63 ad S) (x1 : Int) (x2 : Int) {r : Int} {M' : Mem} : ∀ (n : Nat) (x3 : Int) (M : Mem), f_X10_counts_L24 x1 x2 n x3 M = some (r, M') → RW l g MX10_counts (q_rm 2 0 0) 0 0 (q_ex S none M') 24 S M 0 0 [some (.inr (.inr (some (ad 38)))), some (.inl x1), some (.inl x2), some (.inl x3)] [] := by
  intro n
  induction n with
  | zero => intro x3 M H; exact absurd H (by simp [f_X10_counts_L24])
  | succ n ih =>
    intro x3 M H
    rw [f_X10_counts_L24] at H
    refine R_iload_n (i := 3) (dX10_counts 14 rfl) rfl rfl ?_
    refine R_aload_n (i := 0) (dX10_counts 15 rfl) rfl rfl ?_
    refine R_getI cgX10 38 (cl38 hS) 40 (Nat.le_of_ble_eq_true rfl) rfl (Or.inl tb_1167) (dX10_counts 16 rfl) ?_
    refine R_icmp_ge (tgt := 73) (dX10_counts 17 rfl) (by decide) (fun hc => ?_) (fun hc => ?_)
    · have H := ite_F H hc
      exact R_vret rfl (Nat.zero_le _) (Nat.zero_le _) (dX10_counts 44 rfl) ⟨rfl, rfl, (Prod.mk.inj (Option.some.inj H)).2⟩
    · have H := ite_T H hc
      refine R_aload_n (i := 0) (dX10_counts 18 rfl) rfl rfl ?_
      refine R_getR cgX10 38 (cl38 hS) 46 (Nat.le_of_ble_eq_true rfl) rfl (Or.inl tb_1173) (dX10_counts 19 rfl) ?_
      refine R_bipush (dX10_counts 20 rfl) rfl rfl ?_
      refine R_aload_n (i := 0) (dX10_counts 21 rfl) rfl rfl ?_
      refine R_iload_n (i := 1) (dX10_counts 22 rfl) rfl rfl ?_
      refine R_aload_n (i := 0) (dX10_counts 23 rfl) rfl rfl ?_
      refine R_getR cgX10 38 (cl38 hS) 39 (Nat.le_of_ble_eq_true rfl) rfl (Or.inl tb_1166) (dX10_counts 24 rfl) ?_
      refine R_iload_n (i := 3) (dX10_counts 25 rfl) rfl rfl ?_
      obtain ⟨hg, H⟩ := ite_G H
      refine R_iald 58 (cl58 hS) hg (dX10_counts 26 rfl) ?_
      obtain ⟨r491, hr, H⟩ := op_E H
      refine R_cV (st' := [.inl r491, .inl 64, .inr (.inr (some (ad 62)))]) [.inl x1, .inl (M 58 (x3).toNat)] [.inl 64, .inr (.inr (some (ad 62)))] (t_X10_hasIn l g ad S _ hS   x1 (M 58 (x3).toNat) hr) msX10_hasIn (Or.inl tb_1374) (Or.inl ⟨38, 10, _, _, _, (cl38 hS), rfl⟩) ⟨Nat.le_of_ble_eq_true rfl, Nat.le_of_ble_eq_true rfl⟩ (Nat.zero_le _) (Nat.zero_le _) rfl rfl (Nat.le_of_ble_eq_true rfl) rfl (dX10_counts 27 rfl) ?_
      refine R_imul (dX10_counts 28 rfl) ?_
      refine R_aload_n (i := 0) (dX10_counts 29 rfl) rfl rfl ?_
      refine R_iload_n (i := 2) (dX10_counts 30 rfl) rfl rfl ?_
      refine R_aload_n (i := 0) (dX10_counts 31 rfl) rfl rfl ?_
      refine R_getR cgX10 38 (cl38 hS) 39 (Nat.le_of_ble_eq_true rfl) rfl (Or.inl tb_1166) (dX10_counts 32 rfl) ?_
      refine R_iload_n (i := 3) (dX10_counts 33 rfl) rfl rfl ?_
      obtain ⟨hg, H⟩ := ite_G H
      refine R_iald 58 (cl58 hS) hg (dX10_counts 34 rfl) ?_
      obtain ⟨r492, hr, H⟩ := op_E H
      refine R_cV (st' := [.inl r492, .inl (w32 (64 * r491)), .inr (.inr (some (ad 62)))]) [.inl x2, .inl (M 58 (x3).toNat)] [.inl (w32 (64 * r491)), .inr (.inr (some (ad 62)))] (t_X10_hasIn l g ad S _ hS   x2 (M 58 (x3).toNat) hr) msX10_hasIn (Or.inl tb_1374) (Or.inl ⟨38, 10, _, _, _, (cl38 hS), rfl⟩) ⟨Nat.le_of_ble_eq_true rfl, Nat.le_of_ble_eq_true rfl⟩ (Nat.zero_le _) (Nat.zero_le _) rfl rfl (Nat.le_of_ble_eq_true rfl) rfl (dX10_counts 35 rfl) ?_
      refine R_iadd (dX10_counts 36 rfl) ?_
      refine R_dup2 rfl rfl (dX10_counts 37 rfl) ?_
      obtain ⟨hg, H⟩ := ite_G H
      refine R_iald 62 (cl62 hS) hg (dX10_counts 38 rfl) ?_
      refine R_iconst (dX10_counts 39 rfl) rfl ?_
      refine R_iadd (dX10_counts 40 rfl) ?_
      obtain ⟨hg, H⟩ := ite_G H
      refine R_iast 62 (cl62 hS) hg (dX10_counts 41 rfl) ?_
      refine R_iinc (i := 3) (ls' := [some (.inr (.inr (some (ad 38)))), some (.inl x1), some (.inl x2), some (.inl (w32 (x3 + 1)))]) (dX10_counts 42 rfl) rfl (Nat.le_of_ble_eq_true rfl) rfl rfl ?_
      refine R_goto (tgt := 24) (dX10_counts 43 rfl) (by decide) ?_
      exact ih (w32 (x3 + 1)) (mset M 62 (w32 ((w32 (64 * r491)) + r492)).toNat (w32 ((M 62 (w32 ((w32 (64 * r491)) + r492)).toNat) + 1))) H
def f_X10_counts (x1 : Int) (x2 : Int) (M : Mem) : Option (Int × Mem) :=
  f_X10_counts_L2
    (fun M490 =>
      f_X10_counts_L24
        x1 x2 100000 0 M490
    )
    x1 x2 100000 0 M
set_option maxHeartbeats 4000000 in
theorem t_X10_counts (l : Launch) (g : GG) (ad : Nat → Nat) (S : SW) (M : Mem) (hS : q_ag 38 63 ad S) (x1 : Int) (x2 : Int) {r : Int} {M' : Mem} (H : f_X10_counts x1 x2 M = some (r, M')) : CT l g MX10_counts 2 0 0 S M [.inr (.inr (some (ad 38))), .inl x1, .inl x2] (q_ex S none M') := by
  unfold f_X10_counts at H
  refine CT_of (ls0 := [some (.inr (.inr (some (ad 38)))), some (.inl x1), some (.inl x2), none]) (by decide +kernel) (Nat.le_of_ble_eq_true rfl) rfl ?_
  refine R_iconst (dX10_counts 0 rfl) rfl ?_
  refine R_istore_n (i := 3) (ls' := [some (.inr (.inr (some (ad 38)))), some (.inl x1), some (.inl x2), some (.inl 0)]) (dX10_counts 1 rfl) rfl (Nat.le_of_ble_eq_true rfl) (Nat.le_of_ble_eq_true rfl) rfl rfl ?_
  refine t_X10_counts_L2 l g ad S hS x1 x2  100000 0 M H (fun M490 H => ?_)
  refine R_iconst (dX10_counts 12 rfl) rfl ?_
  refine R_istore_n (i := 3) (ls' := [some (.inr (.inr (some (ad 38)))), some (.inl x1), some (.inl x2), some (.inl 0)]) (dX10_counts 13 rfl) rfl (Nat.le_of_ble_eq_true rfl) (Nat.le_of_ble_eq_true rfl) rfl rfl ?_
  exact t_X10_counts_L24 l g ad S hS x1 x2  100000 0 M490 H 
def f_X10_teaching_L10 (x1 : Int) : Nat → Int → Int → Mem → Option (Int × Mem)
  | 0, _, _, _ => none
  | n + 1, x2, x3, M =>
    if x3 < 64 then
      if 0 ≤ w32 (65 * x3) ∧ w32 (65 * x3) < 4096 then
        if 0 < M 62 (w32 (65 * x3)).toNat then
          ob (f_X10_asksOf 2 x1 x3 0 (M 62 (w32 (65 * x3)).toNat) M) fun r495 M496 =>
          f_X10_teaching_L10 x1 n (w32 (x2 + (w32 ((M 62 (w32 (65 * x3)).toNat) * r495)))) (w32 (x3 + 1)) M496
        else
          f_X10_teaching_L10 x1 n (w32 (x2 + 0)) (w32 (x3 + 1)) M
      else none
    else
      some (x2, M)
set_option maxHeartbeats 4000000 in
theorem t_X10_teaching_L10 (l : Launch) (g : GG) (ad : Nat → Nat) (S : SW) (hS : q_ag 38 63 ad S) (x1 : Int) {r : Int} {M' : Mem} : ∀ (n : Nat) (x2 : Int) (x3 : Int) (M : Mem), f_X10_teaching_L10 x1 n x2 x3 M = some (r, M') → RW l g MX10_teaching (q_rm 4 0 0) 0 0 (q_ex S (some (.inl r)) M') 10 S M 0 0 [some (.inr (.inr (some (ad 38)))), some (.inl x1), some (.inl x2), some (.inl x3), none] [] := by
  intro n
  induction n with
  | zero => intro x2 x3 M H; exact absurd H (by simp [f_X10_teaching_L10])
  | succ n ih =>
    intro x2 x3 M H
    rw [f_X10_teaching_L10] at H
    refine R_iload_n (i := 3) (dX10_teaching 8 rfl) rfl rfl ?_
    refine R_bipush (dX10_teaching 9 rfl) rfl rfl ?_
    refine R_icmp_ge (tgt := 58) (dX10_teaching 10 rfl) (by decide) (fun hc => ?_) (fun hc => ?_)
    · have H := ite_F H hc
      refine R_iload_n (i := 2) (dX10_teaching 36 rfl) rfl rfl ?_
      exact R_iret rfl rfl (Nat.zero_le _) (Nat.zero_le _) (dX10_teaching 37 rfl) ⟨congrArg (fun z => some (Sum.inl z)) (Prod.mk.inj (Option.some.inj H)).1, rfl, (Prod.mk.inj (Option.some.inj H)).2⟩
    · have H := ite_T H hc
      refine R_aload_n (i := 0) (dX10_teaching 11 rfl) rfl rfl ?_
      refine R_getR cgX10 38 (cl38 hS) 46 (Nat.le_of_ble_eq_true rfl) rfl (Or.inl tb_1173) (dX10_teaching 12 rfl) ?_
      refine R_bipush (dX10_teaching 13 rfl) rfl rfl ?_
      refine R_iload_n (i := 3) (dX10_teaching 14 rfl) rfl rfl ?_
      refine R_imul (dX10_teaching 15 rfl) ?_
      obtain ⟨hg, H⟩ := ite_G H
      refine R_iald 62 (cl62 hS) hg (dX10_teaching 16 rfl) ?_
      refine R_istore (i := 4) (ls' := [some (.inr (.inr (some (ad 38)))), some (.inl x1), some (.inl x2), some (.inl x3), some (.inl (M 62 (w32 (65 * x3)).toNat))]) (dX10_teaching 17 rfl) (Nat.le_of_ble_eq_true rfl) (Nat.le_of_ble_eq_true rfl) rfl rfl ?_
      refine R_iload_n (i := 2) (dX10_teaching 18 rfl) rfl rfl ?_
      refine R_iload (i := 4) (dX10_teaching 19 rfl) rfl ?_
      refine R_if_le (tgt := 49) (dX10_teaching 20 rfl) (by decide) (fun hc => ?_) (fun hc => ?_)
      · have H := ite_F H hc
        refine R_iconst (dX10_teaching 31 rfl) rfl ?_
        refine R_iadd (dX10_teaching 32 rfl) ?_
        refine R_istore_n (i := 2) (ls' := [some (.inr (.inr (some (ad 38)))), some (.inl x1), some (.inl (w32 (x2 + 0))), some (.inl x3), some (.inl (M 62 (w32 (65 * x3)).toNat))]) (dX10_teaching 33 rfl) rfl (Nat.le_of_ble_eq_true rfl) (Nat.le_of_ble_eq_true rfl) rfl rfl ?_
        refine R_iinc (i := 3) (ls' := [some (.inr (.inr (some (ad 38)))), some (.inl x1), some (.inl (w32 (x2 + 0))), some (.inl (w32 (x3 + 1))), some (.inl (M 62 (w32 (65 * x3)).toNat))]) (dX10_teaching 34 rfl) rfl (Nat.le_of_ble_eq_true rfl) rfl rfl ?_
        refine R_goto (tgt := 10) (dX10_teaching 35 rfl) (by decide) ?_
        refine R_mask [true, true, true, true, false] rfl ?_
        exact ih (w32 (x2 + 0)) (w32 (x3 + 1)) M H
      · have H := ite_T H hc
        refine R_iload (i := 4) (dX10_teaching 21 rfl) rfl ?_
        refine R_aload_n (i := 0) (dX10_teaching 22 rfl) rfl rfl ?_
        refine R_iconst (dX10_teaching 23 rfl) rfl ?_
        refine R_iload_n (i := 1) (dX10_teaching 24 rfl) rfl rfl ?_
        refine R_iload_n (i := 3) (dX10_teaching 25 rfl) rfl rfl ?_
        refine R_iconst (dX10_teaching 26 rfl) rfl ?_
        refine R_iload (i := 4) (dX10_teaching 27 rfl) rfl ?_
        obtain ⟨r495, M496, hr, H⟩ := ob_E H
        refine R_cV (st' := [.inl r495, .inl (M 62 (w32 (65 * x3)).toNat), .inl x2]) [.inl 2, .inl x1, .inl x3, .inl 0, .inl (M 62 (w32 (65 * x3)).toNat)] [.inl (M 62 (w32 (65 * x3)).toNat), .inl x2] (t_X10_asksOf l g ad S _ hS   2 x1 x3 0 (M 62 (w32 (65 * x3)).toNat) hr) msX10_asksOf (Or.inl tb_1324) (Or.inl ⟨38, 10, _, _, _, (cl38 hS), rfl⟩) ⟨Nat.le_of_ble_eq_true rfl, Nat.le_of_ble_eq_true rfl⟩ (Nat.zero_le _) (Nat.zero_le _) rfl rfl (Nat.le_of_ble_eq_true rfl) rfl (dX10_teaching 28 rfl) ?_
        refine R_imul (dX10_teaching 29 rfl) ?_
        refine R_goto (tgt := 50) (dX10_teaching 30 rfl) (by decide) ?_
        refine R_iadd (dX10_teaching 32 rfl) ?_
        refine R_istore_n (i := 2) (ls' := [some (.inr (.inr (some (ad 38)))), some (.inl x1), some (.inl (w32 (x2 + (w32 ((M 62 (w32 (65 * x3)).toNat) * r495))))), some (.inl x3), some (.inl (M 62 (w32 (65 * x3)).toNat))]) (dX10_teaching 33 rfl) rfl (Nat.le_of_ble_eq_true rfl) (Nat.le_of_ble_eq_true rfl) rfl rfl ?_
        refine R_iinc (i := 3) (ls' := [some (.inr (.inr (some (ad 38)))), some (.inl x1), some (.inl (w32 (x2 + (w32 ((M 62 (w32 (65 * x3)).toNat) * r495))))), some (.inl (w32 (x3 + 1))), some (.inl (M 62 (w32 (65 * x3)).toNat))]) (dX10_teaching 34 rfl) rfl (Nat.le_of_ble_eq_true rfl) rfl rfl ?_
        refine R_goto (tgt := 10) (dX10_teaching 35 rfl) (by decide) ?_
        refine R_mask [true, true, true, true, false] rfl ?_
        exact ih (w32 (x2 + (w32 ((M 62 (w32 (65 * x3)).toNat) * r495)))) (w32 (x3 + 1)) M496 H
def f_X10_teaching (x1 : Int) (M : Mem) : Option (Int × Mem) :=
  ob (f_X10_counts x1 x1 M) fun r493 M494 =>
  f_X10_teaching_L10
    x1 100000 0 0 M494
set_option maxHeartbeats 4000000 in
theorem t_X10_teaching (l : Launch) (g : GG) (ad : Nat → Nat) (S : SW) (M : Mem) (hS : q_ag 38 63 ad S) (x1 : Int) {r : Int} {M' : Mem} (H : f_X10_teaching x1 M = some (r, M')) : CT l g MX10_teaching 4 0 0 S M [.inr (.inr (some (ad 38))), .inl x1] (q_ex S (some (.inl r)) M') := by
  unfold f_X10_teaching at H
  refine CT_of (ls0 := [some (.inr (.inr (some (ad 38)))), some (.inl x1), none, none, none]) (by decide +kernel) (Nat.le_of_ble_eq_true rfl) rfl ?_
  refine R_aload_n (i := 0) (dX10_teaching 0 rfl) rfl rfl ?_
  refine R_iload_n (i := 1) (dX10_teaching 1 rfl) rfl rfl ?_
  refine R_iload_n (i := 1) (dX10_teaching 2 rfl) rfl rfl ?_
  obtain ⟨r493, M494, hr, H⟩ := ob_E H
  refine R_cV (st' := []) [.inl x1, .inl x1] [] (t_X10_counts l g ad S _ hS   x1 x1 hr) msX10_counts (Or.inl tb_1485) (Or.inl ⟨38, 10, _, _, _, (cl38 hS), rfl⟩) ⟨Nat.le_of_ble_eq_true rfl, Nat.le_of_ble_eq_true rfl⟩ (Nat.zero_le _) (Nat.zero_le _) rfl rfl (Nat.le_of_ble_eq_true rfl) rfl (dX10_teaching 3 rfl) ?_
  refine R_iconst (dX10_teaching 4 rfl) rfl ?_
  refine R_istore_n (i := 2) (ls' := [some (.inr (.inr (some (ad 38)))), some (.inl x1), some (.inl 0), none, none]) (dX10_teaching 5 rfl) rfl (Nat.le_of_ble_eq_true rfl) (Nat.le_of_ble_eq_true rfl) rfl rfl ?_
  refine R_iconst (dX10_teaching 6 rfl) rfl ?_
  refine R_istore_n (i := 3) (ls' := [some (.inr (.inr (some (ad 38)))), some (.inl x1), some (.inl 0), some (.inl 0), none]) (dX10_teaching 7 rfl) rfl (Nat.le_of_ble_eq_true rfl) (Nat.le_of_ble_eq_true rfl) rfl rfl ?_
  exact t_X10_teaching_L10 l g ad S hS x1  100000 0 0 M494 H 
def f_X10_taste_L23 (K77 : Int → Int → Mem → Option (Int × Mem)) (x1 : Int) : Nat → Int → Int → Int → Mem → Option (Int × Mem)
  | 0, _, _, _, _ => none
  | n + 1, x2, x3, x4, M =>
    if x4 < M 38 0 then
      ob (f_X10_teaching x4 M) fun r499 M500 =>
      if x2 = (-1) then
        if x3 < r499 then
          f_X10_taste_L23 K77 x1 n x4 r499 (w32 (x4 + 1)) M500
        else
          f_X10_taste_L23 K77 x1 n x4 x3 (w32 (x4 + 1)) M500
      else
        if x3 < r499 then
          if x3 < r499 then
            f_X10_taste_L23 K77 x1 n x4 r499 (w32 (x4 + 1)) M500
          else
            f_X10_taste_L23 K77 x1 n x4 x3 (w32 (x4 + 1)) M500
        else
          if x3 < r499 then
            f_X10_taste_L23 K77 x1 n x2 r499 (w32 (x4 + 1)) M500
          else
            f_X10_taste_L23 K77 x1 n x2 x3 (w32 (x4 + 1)) M500
    else
      K77 x2 x3 M
set_option maxHeartbeats 4000000 in
theorem t_X10_taste_L23 (l : Launch) (g : GG) (ad : Nat → Nat) (S : SW) (hS : q_ag 38 63 ad S) (x1 : Int) {K77 : Int → Int → Mem → Option (Int × Mem)} {r : Int} {M' : Mem} : ∀ (n : Nat) (x2 : Int) (x3 : Int) (x4 : Int) (M : Mem), f_X10_taste_L23 K77 x1 n x2 x3 x4 M = some (r, M') → (∀ (z2 : Int) (z3 : Int) (M1 : Mem), K77 z2 z3 M1 = some (r, M') → RW l g MX10_taste (q_rm 6 0 0) 0 0 (q_ex S (some (.inl r)) M') 77 S M1 0 0 [none, some (.inl x1), some (.inl z2), some (.inl z3), none, none] []) → RW l g MX10_taste (q_rm 6 0 0) 0 0 (q_ex S (some (.inl r)) M') 23 S M 0 0 [some (.inr (.inr (some (ad 38)))), some (.inl x1), some (.inl x2), some (.inl x3), some (.inl x4), none] [] := by
  intro n
  induction n with
  | zero => intro x2 x3 x4 M H; exact absurd H (by simp [f_X10_taste_L23])
  | succ n ih =>
    intro x2 x3 x4 M H hK77
    rw [f_X10_taste_L23] at H
    refine R_iload (i := 4) (dX10_taste 15 rfl) rfl ?_
    refine R_aload_n (i := 0) (dX10_taste 16 rfl) rfl rfl ?_
    refine R_getI cgX10 38 (cl38 hS) 0 (Nat.le_of_ble_eq_true rfl) rfl (Or.inl tb_1127) (dX10_taste 17 rfl) ?_
    refine R_icmp_ge (tgt := 77) (dX10_taste 18 rfl) (by decide) (fun hc => ?_) (fun hc => ?_)
    · have H := ite_F H hc
      refine R_mask [false, true, true, true, false, false] rfl ?_
      exact hK77 x2 x3 M H
    · have H := ite_T H hc
      refine R_aload_n (i := 0) (dX10_taste 19 rfl) rfl rfl ?_
      refine R_iload (i := 4) (dX10_taste 20 rfl) rfl ?_
      obtain ⟨r499, M500, hr, H⟩ := ob_E H
      refine R_cV (st' := [.inl r499]) [.inl x4] [] (t_X10_teaching l g ad S _ hS   x4 hr) msX10_teaching (Or.inl tb_1481) (Or.inl ⟨38, 10, _, _, _, (cl38 hS), rfl⟩) ⟨Nat.le_of_ble_eq_true rfl, Nat.le_of_ble_eq_true rfl⟩ (Nat.zero_le _) (Nat.zero_le _) rfl rfl (Nat.le_of_ble_eq_true rfl) rfl (dX10_taste 21 rfl) ?_
      refine R_istore (i := 5) (ls' := [some (.inr (.inr (some (ad 38)))), some (.inl x1), some (.inl x2), some (.inl x3), some (.inl x4), some (.inl r499)]) (dX10_taste 22 rfl) (Nat.le_of_ble_eq_true rfl) (Nat.le_of_ble_eq_true rfl) rfl rfl ?_
      refine R_iload_n (i := 2) (dX10_taste 23 rfl) rfl rfl ?_
      refine R_iconst (dX10_taste 24 rfl) rfl ?_
      refine R_icmp_eq (tgt := 51) (dX10_taste 25 rfl) (by decide) (fun hc => ?_) (fun hc => ?_)
      · have H := ite_T H hc
        refine R_iload (i := 4) (dX10_taste 29 rfl) rfl ?_
        refine R_goto (tgt := 57) (dX10_taste 30 rfl) (by decide) ?_
        refine R_istore_n (i := 2) (ls' := [some (.inr (.inr (some (ad 38)))), some (.inl x1), some (.inl x4), some (.inl x3), some (.inl x4), some (.inl r499)]) (dX10_taste 32 rfl) rfl (Nat.le_of_ble_eq_true rfl) (Nat.le_of_ble_eq_true rfl) rfl rfl ?_
        refine R_iload (i := 5) (dX10_taste 33 rfl) rfl ?_
        refine R_iload_n (i := 3) (dX10_taste 34 rfl) rfl rfl ?_
        refine R_icmp_le (tgt := 69) (dX10_taste 35 rfl) (by decide) (fun hc => ?_) (fun hc => ?_)
        · have H := ite_F H hc
          refine R_iload_n (i := 3) (dX10_taste 38 rfl) rfl rfl ?_
          refine R_istore_n (i := 3) (ls' := [some (.inr (.inr (some (ad 38)))), some (.inl x1), some (.inl x4), some (.inl x3), some (.inl x4), some (.inl r499)]) (dX10_taste 39 rfl) rfl (Nat.le_of_ble_eq_true rfl) (Nat.le_of_ble_eq_true rfl) rfl rfl ?_
          refine R_iinc (i := 4) (ls' := [some (.inr (.inr (some (ad 38)))), some (.inl x1), some (.inl x4), some (.inl x3), some (.inl (w32 (x4 + 1))), some (.inl r499)]) (dX10_taste 40 rfl) rfl (Nat.le_of_ble_eq_true rfl) rfl rfl ?_
          refine R_goto (tgt := 23) (dX10_taste 41 rfl) (by decide) ?_
          refine R_mask [true, true, true, true, true, false] rfl ?_
          exact ih x4 x3 (w32 (x4 + 1)) M500 H hK77
        · have H := ite_T H hc
          refine R_iload (i := 5) (dX10_taste 36 rfl) rfl ?_
          refine R_goto (tgt := 70) (dX10_taste 37 rfl) (by decide) ?_
          refine R_istore_n (i := 3) (ls' := [some (.inr (.inr (some (ad 38)))), some (.inl x1), some (.inl x4), some (.inl r499), some (.inl x4), some (.inl r499)]) (dX10_taste 39 rfl) rfl (Nat.le_of_ble_eq_true rfl) (Nat.le_of_ble_eq_true rfl) rfl rfl ?_
          refine R_iinc (i := 4) (ls' := [some (.inr (.inr (some (ad 38)))), some (.inl x1), some (.inl x4), some (.inl r499), some (.inl (w32 (x4 + 1))), some (.inl r499)]) (dX10_taste 40 rfl) rfl (Nat.le_of_ble_eq_true rfl) rfl rfl ?_
          refine R_goto (tgt := 23) (dX10_taste 41 rfl) (by decide) ?_
          refine R_mask [true, true, true, true, true, false] rfl ?_
          exact ih x4 r499 (w32 (x4 + 1)) M500 H hK77
      · have H := ite_F H hc
        refine R_iload (i := 5) (dX10_taste 26 rfl) rfl ?_
        refine R_iload_n (i := 3) (dX10_taste 27 rfl) rfl rfl ?_
        refine R_icmp_le (tgt := 56) (dX10_taste 28 rfl) (by decide) (fun hc => ?_) (fun hc => ?_)
        · have H := ite_F H hc
          refine R_iload_n (i := 2) (dX10_taste 31 rfl) rfl rfl ?_
          refine R_istore_n (i := 2) (ls' := [some (.inr (.inr (some (ad 38)))), some (.inl x1), some (.inl x2), some (.inl x3), some (.inl x4), some (.inl r499)]) (dX10_taste 32 rfl) rfl (Nat.le_of_ble_eq_true rfl) (Nat.le_of_ble_eq_true rfl) rfl rfl ?_
          refine R_iload (i := 5) (dX10_taste 33 rfl) rfl ?_
          refine R_iload_n (i := 3) (dX10_taste 34 rfl) rfl rfl ?_
          refine R_icmp_le (tgt := 69) (dX10_taste 35 rfl) (by decide) (fun hc => ?_) (fun hc => ?_)
          · have H := ite_F H hc
            refine R_iload_n (i := 3) (dX10_taste 38 rfl) rfl rfl ?_
            refine R_istore_n (i := 3) (ls' := [some (.inr (.inr (some (ad 38)))), some (.inl x1), some (.inl x2), some (.inl x3), some (.inl x4), some (.inl r499)]) (dX10_taste 39 rfl) rfl (Nat.le_of_ble_eq_true rfl) (Nat.le_of_ble_eq_true rfl) rfl rfl ?_
            refine R_iinc (i := 4) (ls' := [some (.inr (.inr (some (ad 38)))), some (.inl x1), some (.inl x2), some (.inl x3), some (.inl (w32 (x4 + 1))), some (.inl r499)]) (dX10_taste 40 rfl) rfl (Nat.le_of_ble_eq_true rfl) rfl rfl ?_
            refine R_goto (tgt := 23) (dX10_taste 41 rfl) (by decide) ?_
            refine R_mask [true, true, true, true, true, false] rfl ?_
            exact ih x2 x3 (w32 (x4 + 1)) M500 H hK77
          · have H := ite_T H hc
            refine R_iload (i := 5) (dX10_taste 36 rfl) rfl ?_
            refine R_goto (tgt := 70) (dX10_taste 37 rfl) (by decide) ?_
            refine R_istore_n (i := 3) (ls' := [some (.inr (.inr (some (ad 38)))), some (.inl x1), some (.inl x2), some (.inl r499), some (.inl x4), some (.inl r499)]) (dX10_taste 39 rfl) rfl (Nat.le_of_ble_eq_true rfl) (Nat.le_of_ble_eq_true rfl) rfl rfl ?_
            refine R_iinc (i := 4) (ls' := [some (.inr (.inr (some (ad 38)))), some (.inl x1), some (.inl x2), some (.inl r499), some (.inl (w32 (x4 + 1))), some (.inl r499)]) (dX10_taste 40 rfl) rfl (Nat.le_of_ble_eq_true rfl) rfl rfl ?_
            refine R_goto (tgt := 23) (dX10_taste 41 rfl) (by decide) ?_
            refine R_mask [true, true, true, true, true, false] rfl ?_
            exact ih x2 r499 (w32 (x4 + 1)) M500 H hK77
        · have H := ite_T H hc
          refine R_iload (i := 4) (dX10_taste 29 rfl) rfl ?_
          refine R_goto (tgt := 57) (dX10_taste 30 rfl) (by decide) ?_
          refine R_istore_n (i := 2) (ls' := [some (.inr (.inr (some (ad 38)))), some (.inl x1), some (.inl x4), some (.inl x3), some (.inl x4), some (.inl r499)]) (dX10_taste 32 rfl) rfl (Nat.le_of_ble_eq_true rfl) (Nat.le_of_ble_eq_true rfl) rfl rfl ?_
          refine R_iload (i := 5) (dX10_taste 33 rfl) rfl ?_
          refine R_iload_n (i := 3) (dX10_taste 34 rfl) rfl rfl ?_
          refine R_icmp_le (tgt := 69) (dX10_taste 35 rfl) (by decide) (fun hc => ?_) (fun hc => ?_)
          · have H := ite_F H hc
            refine R_iload_n (i := 3) (dX10_taste 38 rfl) rfl rfl ?_
            refine R_istore_n (i := 3) (ls' := [some (.inr (.inr (some (ad 38)))), some (.inl x1), some (.inl x4), some (.inl x3), some (.inl x4), some (.inl r499)]) (dX10_taste 39 rfl) rfl (Nat.le_of_ble_eq_true rfl) (Nat.le_of_ble_eq_true rfl) rfl rfl ?_
            refine R_iinc (i := 4) (ls' := [some (.inr (.inr (some (ad 38)))), some (.inl x1), some (.inl x4), some (.inl x3), some (.inl (w32 (x4 + 1))), some (.inl r499)]) (dX10_taste 40 rfl) rfl (Nat.le_of_ble_eq_true rfl) rfl rfl ?_
            refine R_goto (tgt := 23) (dX10_taste 41 rfl) (by decide) ?_
            refine R_mask [true, true, true, true, true, false] rfl ?_
            exact ih x4 x3 (w32 (x4 + 1)) M500 H hK77
          · have H := ite_T H hc
            refine R_iload (i := 5) (dX10_taste 36 rfl) rfl ?_
            refine R_goto (tgt := 70) (dX10_taste 37 rfl) (by decide) ?_
            refine R_istore_n (i := 3) (ls' := [some (.inr (.inr (some (ad 38)))), some (.inl x1), some (.inl x4), some (.inl r499), some (.inl x4), some (.inl r499)]) (dX10_taste 39 rfl) rfl (Nat.le_of_ble_eq_true rfl) (Nat.le_of_ble_eq_true rfl) rfl rfl ?_
            refine R_iinc (i := 4) (ls' := [some (.inr (.inr (some (ad 38)))), some (.inl x1), some (.inl x4), some (.inl r499), some (.inl (w32 (x4 + 1))), some (.inl r499)]) (dX10_taste 40 rfl) rfl (Nat.le_of_ble_eq_true rfl) rfl rfl ?_
            refine R_goto (tgt := 23) (dX10_taste 41 rfl) (by decide) ?_
            refine R_mask [true, true, true, true, true, false] rfl ?_
            exact ih x4 r499 (w32 (x4 + 1)) M500 H hK77
def f_X10_taste (x1 : Int) (M : Mem) : Option (Int × Mem) :=
  if f_X10_in x1 0 1 = 0 then
    some ((-2), M)
  else
    ob (f_X10_finds M) fun r497 M498 =>
    f_X10_taste_L23
      (fun y501 y502 M503 =>
        if x1 = 0 then
          some (y501, M503)
        else
          some (y502, M503)
      )
      x1 100000 (-1) 0 0 M498
set_option maxHeartbeats 4000000 in
theorem t_X10_taste (l : Launch) (g : GG) (ad : Nat → Nat) (S : SW) (M : Mem) (hS : q_ag 38 63 ad S) (x1 : Int) {r : Int} {M' : Mem} (H : f_X10_taste x1 M = some (r, M')) : CT l g MX10_taste 6 0 0 S M [.inr (.inr (some (ad 38))), .inl x1] (q_ex S (some (.inl r)) M') := by
  unfold f_X10_taste at H
  refine CT_of (ls0 := [some (.inr (.inr (some (ad 38)))), some (.inl x1), none, none, none, none]) (by decide +kernel) (Nat.le_of_ble_eq_true rfl) rfl ?_
  refine R_iload_n (i := 1) (dX10_taste 0 rfl) rfl rfl ?_
  refine R_iconst (dX10_taste 1 rfl) rfl ?_
  refine R_iconst (dX10_taste 2 rfl) rfl ?_
  refine R_cS (st' := [.inl (f_X10_in x1 0 1)]) [.inl x1, .inl 0, .inl 1] [] (t_X10_in l g S _   x1 0 1) msX10_in (Or.inl tb_1083) ⟨Nat.le_of_ble_eq_true rfl, Nat.le_of_ble_eq_true rfl⟩ (Nat.zero_le _) (Nat.zero_le _) rfl rfl (Nat.le_of_ble_eq_true rfl) rfl (dX10_taste 3 rfl) ?_
  refine R_if_ne (tgt := 12) (dX10_taste 4 rfl) (by decide) (fun hc => ?_) (fun hc => ?_)
  · have H := ite_F H hc
    refine R_aload_n (i := 0) (dX10_taste 7 rfl) rfl rfl ?_
    obtain ⟨r497, M498, hr, H⟩ := ob_E H
    refine R_cV (st' := []) [] [] (t_X10_finds l g ad S _ hS   hr) msX10_finds (Or.inl tb_1362) (Or.inl ⟨38, 10, _, _, _, (cl38 hS), rfl⟩) ⟨Nat.le_of_ble_eq_true rfl, Nat.le_of_ble_eq_true rfl⟩ (Nat.zero_le _) (Nat.zero_le _) rfl rfl (Nat.le_of_ble_eq_true rfl) rfl (dX10_taste 8 rfl) ?_
    refine R_iconst (dX10_taste 9 rfl) rfl ?_
    refine R_istore_n (i := 2) (ls' := [some (.inr (.inr (some (ad 38)))), some (.inl x1), some (.inl (-1)), none, none, none]) (dX10_taste 10 rfl) rfl (Nat.le_of_ble_eq_true rfl) (Nat.le_of_ble_eq_true rfl) rfl rfl ?_
    refine R_iconst (dX10_taste 11 rfl) rfl ?_
    refine R_istore_n (i := 3) (ls' := [some (.inr (.inr (some (ad 38)))), some (.inl x1), some (.inl (-1)), some (.inl 0), none, none]) (dX10_taste 12 rfl) rfl (Nat.le_of_ble_eq_true rfl) (Nat.le_of_ble_eq_true rfl) rfl rfl ?_
    refine R_iconst (dX10_taste 13 rfl) rfl ?_
    refine R_istore (i := 4) (ls' := [some (.inr (.inr (some (ad 38)))), some (.inl x1), some (.inl (-1)), some (.inl 0), some (.inl 0), none]) (dX10_taste 14 rfl) (Nat.le_of_ble_eq_true rfl) (Nat.le_of_ble_eq_true rfl) rfl rfl ?_
    refine t_X10_taste_L23 l g ad S hS x1  100000 (-1) 0 0 M498 H (fun y501 y502 M503 H => ?_)
    refine R_iload_n (i := 1) (dX10_taste 42 rfl) rfl rfl ?_
    refine R_if_ne (tgt := 85) (dX10_taste 43 rfl) (by decide) (fun hc => ?_) (fun hc => ?_)
    · have H := ite_F H hc
      refine R_iload_n (i := 3) (dX10_taste 46 rfl) rfl rfl ?_
      exact R_iret rfl rfl (Nat.zero_le _) (Nat.zero_le _) (dX10_taste 47 rfl) ⟨congrArg (fun z => some (Sum.inl z)) (Prod.mk.inj (Option.some.inj H)).1, rfl, (Prod.mk.inj (Option.some.inj H)).2⟩
    · have H := ite_T H hc
      refine R_iload_n (i := 2) (dX10_taste 44 rfl) rfl rfl ?_
      refine R_goto (tgt := 86) (dX10_taste 45 rfl) (by decide) ?_
      exact R_iret rfl rfl (Nat.zero_le _) (Nat.zero_le _) (dX10_taste 47 rfl) ⟨congrArg (fun z => some (Sum.inl z)) (Prod.mk.inj (Option.some.inj H)).1, rfl, (Prod.mk.inj (Option.some.inj H)).2⟩
  · have H := ite_T H hc
    refine R_bipush (dX10_taste 5 rfl) rfl rfl ?_
    exact R_iret rfl rfl (Nat.zero_le _) (Nat.zero_le _) (dX10_taste 6 rfl) ⟨congrArg (fun z => some (Sum.inl z)) (Prod.mk.inj (Option.some.inj H)).1, rfl, (Prod.mk.inj (Option.some.inj H)).2⟩
def f_X10_two_L61 (K95 : Int → Mem → Option (Int × Mem)) (x1 : Int) (x2 : Int) (x3 : Int) (x4 : Int) (x5 : Int) : Nat → Int → Int → Mem → Option (Int × Mem)
  | 0, _, _, _ => none
  | n + 1, x6, x7, M =>
    if x7 < 4096 then
      if 0 ≤ x7 ∧ x7 < 4096 then
        if 0 ≤ x7 ∧ x7 < 4096 then
          f_X10_two_L61 K95 x1 x2 x3 x4 x5 n (w32 (x6 + (w32 ((M 62 (x7).toNat) * (M 62 (x7).toNat))))) (w32 (x7 + 1)) M
        else none
      else none
    else
      K95 x6 M
set_option maxHeartbeats 4000000 in
theorem t_X10_two_L61 (l : Launch) (g : GG) (ad : Nat → Nat) (S : SW) (hS : q_ag 38 63 ad S) (x1 : Int) (x2 : Int) (x3 : Int) (x4 : Int) (x5 : Int) {K95 : Int → Mem → Option (Int × Mem)} {r : Int} {M' : Mem} : ∀ (n : Nat) (x6 : Int) (x7 : Int) (M : Mem), f_X10_two_L61 K95 x1 x2 x3 x4 x5 n x6 x7 M = some (r, M') → (∀ (z6 : Int) (M1 : Mem), K95 z6 M1 = some (r, M') → RW l g MX10_two (q_rm 6 0 0) 0 0 (q_ex S (some (.inl r)) M') 95 S M1 0 0 [some (.inr (.inr (some (ad 38)))), some (.inl x1), some (.inl x2), some (.inl x3), some (.inl x4), some (.inl x5), some (.inl z6), none] []) → RW l g MX10_two (q_rm 6 0 0) 0 0 (q_ex S (some (.inl r)) M') 61 S M 0 0 [some (.inr (.inr (some (ad 38)))), some (.inl x1), some (.inl x2), some (.inl x3), some (.inl x4), some (.inl x5), some (.inl x6), some (.inl x7)] [] := by
  intro n
  induction n with
  | zero => intro x6 x7 M H; exact absurd H (by simp [f_X10_two_L61])
  | succ n ih =>
    intro x6 x7 M H hK95
    rw [f_X10_two_L61] at H
    refine R_iload (i := 7) (dX10_two_0 35 rfl) rfl ?_
    refine R_sipush (dX10_two_0 36 rfl) rfl rfl ?_
    refine R_icmp_ge (tgt := 95) (dX10_two_0 37 rfl) (by decide) (fun hc => ?_) (fun hc => ?_)
    · have H := ite_F H hc
      refine R_mask [true, true, true, true, true, true, true, false] rfl ?_
      exact hK95 x6 M H
    · have H := ite_T H hc
      refine R_iload (i := 6) (dX10_two_0 38 rfl) rfl ?_
      refine R_aload_n (i := 0) (dX10_two_0 39 rfl) rfl rfl ?_
      refine R_getR cgX10 38 (cl38 hS) 46 (Nat.le_of_ble_eq_true rfl) rfl (Or.inl tb_1173) (dX10_two_0 40 rfl) ?_
      refine R_iload (i := 7) (dX10_two_0 41 rfl) rfl ?_
      obtain ⟨hg, H⟩ := ite_G H
      refine R_iald 62 (cl62 hS) hg (dX10_two_0 42 rfl) ?_
      refine R_aload_n (i := 0) (dX10_two_0 43 rfl) rfl rfl ?_
      refine R_getR cgX10 38 (cl38 hS) 46 (Nat.le_of_ble_eq_true rfl) rfl (Or.inl tb_1173) (dX10_two_0 44 rfl) ?_
      refine R_iload (i := 7) (dX10_two_0 45 rfl) rfl ?_
      obtain ⟨hg, H⟩ := ite_G H
      refine R_iald 62 (cl62 hS) hg (dX10_two_0 46 rfl) ?_
      refine R_imul (dX10_two_0 47 rfl) ?_
      refine R_iadd (dX10_two_0 48 rfl) ?_
      refine R_istore (i := 6) (ls' := [some (.inr (.inr (some (ad 38)))), some (.inl x1), some (.inl x2), some (.inl x3), some (.inl x4), some (.inl x5), some (.inl (w32 (x6 + (w32 ((M 62 (x7).toNat) * (M 62 (x7).toNat)))))), some (.inl x7)]) (dX10_two_0 49 rfl) (Nat.le_of_ble_eq_true rfl) (Nat.le_of_ble_eq_true rfl) rfl rfl ?_
      refine R_iinc (i := 7) (ls' := [some (.inr (.inr (some (ad 38)))), some (.inl x1), some (.inl x2), some (.inl x3), some (.inl x4), some (.inl x5), some (.inl (w32 (x6 + (w32 ((M 62 (x7).toNat) * (M 62 (x7).toNat)))))), some (.inl (w32 (x7 + 1)))]) (dX10_two_0 50 rfl) rfl (Nat.le_of_ble_eq_true rfl) rfl rfl ?_
      refine R_goto (tgt := 61) (dX10_two_0 51 rfl) (by decide) ?_
      exact ih (w32 (x6 + (w32 ((M 62 (x7).toNat) * (M 62 (x7).toNat))))) (w32 (x7 + 1)) M H hK95
def f_X10_two_L38 (K149 : Int → Int → Mem → Option (Int × Mem)) (x1 : Int) (x4 : Int) : Nat → Int → Int → Int → Mem → Option (Int × Mem)
  | 0, _, _, _, _ => none
  | n + 1, x2, x3, x5, M =>
    if x5 < M 38 0 then
      ob (f_X10_counts x4 x5 M) fun r506 M507 =>
      f_X10_two_L61
        (fun y508 M509 =>
          if x2 = (-1) then
            f_X10_two_L38 K149 x1 x4 n (w32 ((w32 (10 * x4)) + x5)) y508 (w32 (x5 + 1)) M509
          else
            if y508 < x3 then
              f_X10_two_L38 K149 x1 x4 n (w32 ((w32 (10 * x4)) + x5)) y508 (w32 (x5 + 1)) M509
            else
              f_X10_two_L38 K149 x1 x4 n x2 x3 (w32 (x5 + 1)) M509
        )
        x1 x2 x3 x4 x5 100000 0 0 M507
    else
      K149 x2 x3 M
set_option maxHeartbeats 4000000 in
theorem t_X10_two_L38 (l : Launch) (g : GG) (ad : Nat → Nat) (S : SW) (hS : q_ag 38 63 ad S) (x1 : Int) (x4 : Int) {K149 : Int → Int → Mem → Option (Int × Mem)} {r : Int} {M' : Mem} : ∀ (n : Nat) (x2 : Int) (x3 : Int) (x5 : Int) (M : Mem), f_X10_two_L38 K149 x1 x4 n x2 x3 x5 M = some (r, M') → (∀ (z2 : Int) (z3 : Int) (M1 : Mem), K149 z2 z3 M1 = some (r, M') → RW l g MX10_two (q_rm 6 0 0) 0 0 (q_ex S (some (.inl r)) M') 149 S M1 0 0 [some (.inr (.inr (some (ad 38)))), some (.inl x1), some (.inl z2), some (.inl z3), some (.inl x4), none, none, none] []) → RW l g MX10_two (q_rm 6 0 0) 0 0 (q_ex S (some (.inl r)) M') 38 S M 0 0 [some (.inr (.inr (some (ad 38)))), some (.inl x1), some (.inl x2), some (.inl x3), some (.inl x4), some (.inl x5), none, none] [] := by
  intro n
  induction n with
  | zero => intro x2 x3 x5 M H; exact absurd H (by simp [f_X10_two_L38])
  | succ n ih =>
    intro x2 x3 x5 M H hK149
    rw [f_X10_two_L38] at H
    refine R_iload (i := 5) (dX10_two_0 23 rfl) rfl ?_
    refine R_aload_n (i := 0) (dX10_two_0 24 rfl) rfl rfl ?_
    refine R_getI cgX10 38 (cl38 hS) 0 (Nat.le_of_ble_eq_true rfl) rfl (Or.inl tb_1127) (dX10_two_0 25 rfl) ?_
    refine R_icmp_ge (tgt := 149) (dX10_two_0 26 rfl) (by decide) (fun hc => ?_) (fun hc => ?_)
    · have H := ite_F H hc
      refine R_mask [true, true, true, true, true, false, false, false] rfl ?_
      exact hK149 x2 x3 M H
    · have H := ite_T H hc
      refine R_aload_n (i := 0) (dX10_two_0 27 rfl) rfl rfl ?_
      refine R_iload (i := 4) (dX10_two_0 28 rfl) rfl ?_
      refine R_iload (i := 5) (dX10_two_0 29 rfl) rfl ?_
      obtain ⟨r506, M507, hr, H⟩ := ob_E H
      refine R_cV (st' := []) [.inl x4, .inl x5] [] (t_X10_counts l g ad S _ hS   x4 x5 hr) msX10_counts (Or.inl tb_1485) (Or.inl ⟨38, 10, _, _, _, (cl38 hS), rfl⟩) ⟨Nat.le_of_ble_eq_true rfl, Nat.le_of_ble_eq_true rfl⟩ (Nat.zero_le _) (Nat.zero_le _) rfl rfl (Nat.le_of_ble_eq_true rfl) rfl (dX10_two_0 30 rfl) ?_
      refine R_iconst (dX10_two_0 31 rfl) rfl ?_
      refine R_istore (i := 6) (ls' := [some (.inr (.inr (some (ad 38)))), some (.inl x1), some (.inl x2), some (.inl x3), some (.inl x4), some (.inl x5), some (.inl 0), none]) (dX10_two_0 32 rfl) (Nat.le_of_ble_eq_true rfl) (Nat.le_of_ble_eq_true rfl) rfl rfl ?_
      refine R_iconst (dX10_two_0 33 rfl) rfl ?_
      refine R_istore (i := 7) (ls' := [some (.inr (.inr (some (ad 38)))), some (.inl x1), some (.inl x2), some (.inl x3), some (.inl x4), some (.inl x5), some (.inl 0), some (.inl 0)]) (dX10_two_0 34 rfl) (Nat.le_of_ble_eq_true rfl) (Nat.le_of_ble_eq_true rfl) rfl rfl ?_
      refine t_X10_two_L61 l g ad S hS x1 x2 x3 x4 x5  100000 0 0 M507 H (fun y508 M509 H => ?_)
      refine R_iload_n (i := 2) (dX10_two_0 52 rfl) rfl rfl ?_
      refine R_iconst (dX10_two_0 53 rfl) rfl ?_
      refine R_icmp_eq (tgt := 106) (dX10_two_0 54 rfl) (by decide) (fun hc => ?_) (fun hc => ?_)
      · have H := ite_T H hc
        refine R_iconst (dX10_two_0 58 rfl) rfl ?_
        refine R_goto (tgt := 111) (dX10_two_0 59 rfl) (by decide) ?_
        refine R_istore (i := 7) (ls' := [some (.inr (.inr (some (ad 38)))), some (.inl x1), some (.inl x2), some (.inl x3), some (.inl x4), some (.inl x5), some (.inl y508), some (.inl 1)]) (dX10_two_1 1 rfl) (Nat.le_of_ble_eq_true rfl) (Nat.le_of_ble_eq_true rfl) rfl rfl ?_
        refine R_iload (i := 7) (dX10_two_1 2 rfl) rfl ?_
        refine R_if_eq (tgt := 129) (dX10_two_1 3 rfl) (by decide) (fun hc => absurd hc (by decide)) (fun _ => ?_)
        refine R_bipush (dX10_two_1 4 rfl) rfl rfl ?_
        refine R_iload (i := 4) (dX10_two_1 5 rfl) rfl ?_
        refine R_imul (dX10_two_1 6 rfl) ?_
        refine R_iload (i := 5) (dX10_two_1 7 rfl) rfl ?_
        refine R_iadd (dX10_two_1 8 rfl) ?_
        refine R_goto (tgt := 130) (dX10_two_1 9 rfl) (by decide) ?_
        refine R_istore_n (i := 2) (ls' := [some (.inr (.inr (some (ad 38)))), some (.inl x1), some (.inl (w32 ((w32 (10 * x4)) + x5))), some (.inl x3), some (.inl x4), some (.inl x5), some (.inl y508), some (.inl 1)]) (dX10_two_1 11 rfl) rfl (Nat.le_of_ble_eq_true rfl) (Nat.le_of_ble_eq_true rfl) rfl rfl ?_
        refine R_iload (i := 7) (dX10_two_1 12 rfl) rfl ?_
        refine R_if_eq (tgt := 141) (dX10_two_1 13 rfl) (by decide) (fun hc => absurd hc (by decide)) (fun _ => ?_)
        refine R_iload (i := 6) (dX10_two_1 14 rfl) rfl ?_
        refine R_goto (tgt := 142) (dX10_two_1 15 rfl) (by decide) ?_
        refine R_istore_n (i := 3) (ls' := [some (.inr (.inr (some (ad 38)))), some (.inl x1), some (.inl (w32 ((w32 (10 * x4)) + x5))), some (.inl y508), some (.inl x4), some (.inl x5), some (.inl y508), some (.inl 1)]) (dX10_two_1 17 rfl) rfl (Nat.le_of_ble_eq_true rfl) (Nat.le_of_ble_eq_true rfl) rfl rfl ?_
        refine R_iinc (i := 5) (ls' := [some (.inr (.inr (some (ad 38)))), some (.inl x1), some (.inl (w32 ((w32 (10 * x4)) + x5))), some (.inl y508), some (.inl x4), some (.inl (w32 (x5 + 1))), some (.inl y508), some (.inl 1)]) (dX10_two_1 18 rfl) rfl (Nat.le_of_ble_eq_true rfl) rfl rfl ?_
        refine R_goto (tgt := 38) (dX10_two_1 19 rfl) (by decide) ?_
        refine R_mask [true, true, true, true, true, true, false, false] rfl ?_
        exact ih (w32 ((w32 (10 * x4)) + x5)) y508 (w32 (x5 + 1)) M509 H hK149
      · have H := ite_F H hc
        refine R_iload (i := 6) (dX10_two_0 55 rfl) rfl ?_
        refine R_iload_n (i := 3) (dX10_two_0 56 rfl) rfl rfl ?_
        refine R_icmp_ge (tgt := 110) (dX10_two_0 57 rfl) (by decide) (fun hc => ?_) (fun hc => ?_)
        · have H := ite_F H hc
          refine R_iconst (dX10_two_1 0 rfl) rfl ?_
          refine R_istore (i := 7) (ls' := [some (.inr (.inr (some (ad 38)))), some (.inl x1), some (.inl x2), some (.inl x3), some (.inl x4), some (.inl x5), some (.inl y508), some (.inl 0)]) (dX10_two_1 1 rfl) (Nat.le_of_ble_eq_true rfl) (Nat.le_of_ble_eq_true rfl) rfl rfl ?_
          refine R_iload (i := 7) (dX10_two_1 2 rfl) rfl ?_
          refine R_if_eq (tgt := 129) (dX10_two_1 3 rfl) (by decide) (fun _ => ?_) (fun hc => absurd hc (by decide))
          refine R_iload_n (i := 2) (dX10_two_1 10 rfl) rfl rfl ?_
          refine R_istore_n (i := 2) (ls' := [some (.inr (.inr (some (ad 38)))), some (.inl x1), some (.inl x2), some (.inl x3), some (.inl x4), some (.inl x5), some (.inl y508), some (.inl 0)]) (dX10_two_1 11 rfl) rfl (Nat.le_of_ble_eq_true rfl) (Nat.le_of_ble_eq_true rfl) rfl rfl ?_
          refine R_iload (i := 7) (dX10_two_1 12 rfl) rfl ?_
          refine R_if_eq (tgt := 141) (dX10_two_1 13 rfl) (by decide) (fun _ => ?_) (fun hc => absurd hc (by decide))
          refine R_iload_n (i := 3) (dX10_two_1 16 rfl) rfl rfl ?_
          refine R_istore_n (i := 3) (ls' := [some (.inr (.inr (some (ad 38)))), some (.inl x1), some (.inl x2), some (.inl x3), some (.inl x4), some (.inl x5), some (.inl y508), some (.inl 0)]) (dX10_two_1 17 rfl) rfl (Nat.le_of_ble_eq_true rfl) (Nat.le_of_ble_eq_true rfl) rfl rfl ?_
          refine R_iinc (i := 5) (ls' := [some (.inr (.inr (some (ad 38)))), some (.inl x1), some (.inl x2), some (.inl x3), some (.inl x4), some (.inl (w32 (x5 + 1))), some (.inl y508), some (.inl 0)]) (dX10_two_1 18 rfl) rfl (Nat.le_of_ble_eq_true rfl) rfl rfl ?_
          refine R_goto (tgt := 38) (dX10_two_1 19 rfl) (by decide) ?_
          refine R_mask [true, true, true, true, true, true, false, false] rfl ?_
          exact ih x2 x3 (w32 (x5 + 1)) M509 H hK149
        · have H := ite_T H hc
          refine R_iconst (dX10_two_0 58 rfl) rfl ?_
          refine R_goto (tgt := 111) (dX10_two_0 59 rfl) (by decide) ?_
          refine R_istore (i := 7) (ls' := [some (.inr (.inr (some (ad 38)))), some (.inl x1), some (.inl x2), some (.inl x3), some (.inl x4), some (.inl x5), some (.inl y508), some (.inl 1)]) (dX10_two_1 1 rfl) (Nat.le_of_ble_eq_true rfl) (Nat.le_of_ble_eq_true rfl) rfl rfl ?_
          refine R_iload (i := 7) (dX10_two_1 2 rfl) rfl ?_
          refine R_if_eq (tgt := 129) (dX10_two_1 3 rfl) (by decide) (fun hc => absurd hc (by decide)) (fun _ => ?_)
          refine R_bipush (dX10_two_1 4 rfl) rfl rfl ?_
          refine R_iload (i := 4) (dX10_two_1 5 rfl) rfl ?_
          refine R_imul (dX10_two_1 6 rfl) ?_
          refine R_iload (i := 5) (dX10_two_1 7 rfl) rfl ?_
          refine R_iadd (dX10_two_1 8 rfl) ?_
          refine R_goto (tgt := 130) (dX10_two_1 9 rfl) (by decide) ?_
          refine R_istore_n (i := 2) (ls' := [some (.inr (.inr (some (ad 38)))), some (.inl x1), some (.inl (w32 ((w32 (10 * x4)) + x5))), some (.inl x3), some (.inl x4), some (.inl x5), some (.inl y508), some (.inl 1)]) (dX10_two_1 11 rfl) rfl (Nat.le_of_ble_eq_true rfl) (Nat.le_of_ble_eq_true rfl) rfl rfl ?_
          refine R_iload (i := 7) (dX10_two_1 12 rfl) rfl ?_
          refine R_if_eq (tgt := 141) (dX10_two_1 13 rfl) (by decide) (fun hc => absurd hc (by decide)) (fun _ => ?_)
          refine R_iload (i := 6) (dX10_two_1 14 rfl) rfl ?_
          refine R_goto (tgt := 142) (dX10_two_1 15 rfl) (by decide) ?_
          refine R_istore_n (i := 3) (ls' := [some (.inr (.inr (some (ad 38)))), some (.inl x1), some (.inl (w32 ((w32 (10 * x4)) + x5))), some (.inl y508), some (.inl x4), some (.inl x5), some (.inl y508), some (.inl 1)]) (dX10_two_1 17 rfl) rfl (Nat.le_of_ble_eq_true rfl) (Nat.le_of_ble_eq_true rfl) rfl rfl ?_
          refine R_iinc (i := 5) (ls' := [some (.inr (.inr (some (ad 38)))), some (.inl x1), some (.inl (w32 ((w32 (10 * x4)) + x5))), some (.inl y508), some (.inl x4), some (.inl (w32 (x5 + 1))), some (.inl y508), some (.inl 1)]) (dX10_two_1 18 rfl) rfl (Nat.le_of_ble_eq_true rfl) rfl rfl ?_
          refine R_goto (tgt := 38) (dX10_two_1 19 rfl) (by decide) ?_
          refine R_mask [true, true, true, true, true, true, false, false] rfl ?_
          exact ih (w32 ((w32 (10 * x4)) + x5)) y508 (w32 (x5 + 1)) M509 H hK149
def f_X10_two_L23 (K155 : Int → Int → Mem → Option (Int × Mem)) (x1 : Int) : Nat → Int → Int → Int → Mem → Option (Int × Mem)
  | 0, _, _, _, _ => none
  | n + 1, x2, x3, x4, M =>
    if x4 < M 38 0 then
      f_X10_two_L38
        (fun y510 y511 M512 =>
          f_X10_two_L23 K155 x1 n y510 y511 (w32 (x4 + 1)) M512
        )
        x1 x4 100000 x2 x3 (w32 (x4 + 1)) M
    else
      K155 x2 x3 M
set_option maxHeartbeats 4000000 in
theorem t_X10_two_L23 (l : Launch) (g : GG) (ad : Nat → Nat) (S : SW) (hS : q_ag 38 63 ad S) (x1 : Int) {K155 : Int → Int → Mem → Option (Int × Mem)} {r : Int} {M' : Mem} : ∀ (n : Nat) (x2 : Int) (x3 : Int) (x4 : Int) (M : Mem), f_X10_two_L23 K155 x1 n x2 x3 x4 M = some (r, M') → (∀ (z2 : Int) (z3 : Int) (M1 : Mem), K155 z2 z3 M1 = some (r, M') → RW l g MX10_two (q_rm 6 0 0) 0 0 (q_ex S (some (.inl r)) M') 155 S M1 0 0 [none, some (.inl x1), some (.inl z2), some (.inl z3), none, none, none, none] []) → RW l g MX10_two (q_rm 6 0 0) 0 0 (q_ex S (some (.inl r)) M') 23 S M 0 0 [some (.inr (.inr (some (ad 38)))), some (.inl x1), some (.inl x2), some (.inl x3), some (.inl x4), none, none, none] [] := by
  intro n
  induction n with
  | zero => intro x2 x3 x4 M H; exact absurd H (by simp [f_X10_two_L23])
  | succ n ih =>
    intro x2 x3 x4 M H hK155
    rw [f_X10_two_L23] at H
    refine R_iload (i := 4) (dX10_two_0 15 rfl) rfl ?_
    refine R_aload_n (i := 0) (dX10_two_0 16 rfl) rfl rfl ?_
    refine R_getI cgX10 38 (cl38 hS) 0 (Nat.le_of_ble_eq_true rfl) rfl (Or.inl tb_1127) (dX10_two_0 17 rfl) ?_
    refine R_icmp_ge (tgt := 155) (dX10_two_0 18 rfl) (by decide) (fun hc => ?_) (fun hc => ?_)
    · have H := ite_F H hc
      refine R_mask [false, true, true, true, false, false, false, false] rfl ?_
      exact hK155 x2 x3 M H
    · have H := ite_T H hc
      refine R_iload (i := 4) (dX10_two_0 19 rfl) rfl ?_
      refine R_iconst (dX10_two_0 20 rfl) rfl ?_
      refine R_iadd (dX10_two_0 21 rfl) ?_
      refine R_istore (i := 5) (ls' := [some (.inr (.inr (some (ad 38)))), some (.inl x1), some (.inl x2), some (.inl x3), some (.inl x4), some (.inl (w32 (x4 + 1))), none, none]) (dX10_two_0 22 rfl) (Nat.le_of_ble_eq_true rfl) (Nat.le_of_ble_eq_true rfl) rfl rfl ?_
      refine t_X10_two_L38 l g ad S hS x1 x4  100000 x2 x3 (w32 (x4 + 1)) M H (fun y510 y511 M512 H => ?_)
      refine R_iinc (i := 4) (ls' := [some (.inr (.inr (some (ad 38)))), some (.inl x1), some (.inl y510), some (.inl y511), some (.inl (w32 (x4 + 1))), none, none, none]) (dX10_two_1 20 rfl) rfl (Nat.le_of_ble_eq_true rfl) rfl rfl ?_
      refine R_goto (tgt := 23) (dX10_two_1 21 rfl) (by decide) ?_
      exact ih y510 y511 (w32 (x4 + 1)) M512 H hK155
def f_X10_two (x1 : Int) (M : Mem) : Option (Int × Mem) :=
  if f_X10_in x1 0 1 = 0 then
    some ((-2), M)
  else
    ob (f_X10_finds M) fun r504 M505 =>
    f_X10_two_L23
      (fun y513 y514 M515 =>
        if x1 = 0 then
          some (y513, M515)
        else
          some (y514, M515)
      )
      x1 100000 (-1) 0 0 M505
set_option maxHeartbeats 4000000 in
theorem t_X10_two (l : Launch) (g : GG) (ad : Nat → Nat) (S : SW) (M : Mem) (hS : q_ag 38 63 ad S) (x1 : Int) {r : Int} {M' : Mem} (H : f_X10_two x1 M = some (r, M')) : CT l g MX10_two 6 0 0 S M [.inr (.inr (some (ad 38))), .inl x1] (q_ex S (some (.inl r)) M') := by
  unfold f_X10_two at H
  refine CT_of (ls0 := [some (.inr (.inr (some (ad 38)))), some (.inl x1), none, none, none, none, none, none]) (by decide +kernel) (Nat.le_of_ble_eq_true rfl) rfl ?_
  refine R_iload_n (i := 1) (dX10_two_0 0 rfl) rfl rfl ?_
  refine R_iconst (dX10_two_0 1 rfl) rfl ?_
  refine R_iconst (dX10_two_0 2 rfl) rfl ?_
  refine R_cS (st' := [.inl (f_X10_in x1 0 1)]) [.inl x1, .inl 0, .inl 1] [] (t_X10_in l g S _   x1 0 1) msX10_in (Or.inl tb_1083) ⟨Nat.le_of_ble_eq_true rfl, Nat.le_of_ble_eq_true rfl⟩ (Nat.zero_le _) (Nat.zero_le _) rfl rfl (Nat.le_of_ble_eq_true rfl) rfl (dX10_two_0 3 rfl) ?_
  refine R_if_ne (tgt := 12) (dX10_two_0 4 rfl) (by decide) (fun hc => ?_) (fun hc => ?_)
  · have H := ite_F H hc
    refine R_aload_n (i := 0) (dX10_two_0 7 rfl) rfl rfl ?_
    obtain ⟨r504, M505, hr, H⟩ := ob_E H
    refine R_cV (st' := []) [] [] (t_X10_finds l g ad S _ hS   hr) msX10_finds (Or.inl tb_1362) (Or.inl ⟨38, 10, _, _, _, (cl38 hS), rfl⟩) ⟨Nat.le_of_ble_eq_true rfl, Nat.le_of_ble_eq_true rfl⟩ (Nat.zero_le _) (Nat.zero_le _) rfl rfl (Nat.le_of_ble_eq_true rfl) rfl (dX10_two_0 8 rfl) ?_
    refine R_iconst (dX10_two_0 9 rfl) rfl ?_
    refine R_istore_n (i := 2) (ls' := [some (.inr (.inr (some (ad 38)))), some (.inl x1), some (.inl (-1)), none, none, none, none, none]) (dX10_two_0 10 rfl) rfl (Nat.le_of_ble_eq_true rfl) (Nat.le_of_ble_eq_true rfl) rfl rfl ?_
    refine R_iconst (dX10_two_0 11 rfl) rfl ?_
    refine R_istore_n (i := 3) (ls' := [some (.inr (.inr (some (ad 38)))), some (.inl x1), some (.inl (-1)), some (.inl 0), none, none, none, none]) (dX10_two_0 12 rfl) rfl (Nat.le_of_ble_eq_true rfl) (Nat.le_of_ble_eq_true rfl) rfl rfl ?_
    refine R_iconst (dX10_two_0 13 rfl) rfl ?_
    refine R_istore (i := 4) (ls' := [some (.inr (.inr (some (ad 38)))), some (.inl x1), some (.inl (-1)), some (.inl 0), some (.inl 0), none, none, none]) (dX10_two_0 14 rfl) (Nat.le_of_ble_eq_true rfl) (Nat.le_of_ble_eq_true rfl) rfl rfl ?_
    refine t_X10_two_L23 l g ad S hS x1  100000 (-1) 0 0 M505 H (fun y513 y514 M515 H => ?_)
    refine R_iload_n (i := 1) (dX10_two_1 22 rfl) rfl rfl ?_
    refine R_if_ne (tgt := 163) (dX10_two_1 23 rfl) (by decide) (fun hc => ?_) (fun hc => ?_)
    · have H := ite_F H hc
      refine R_iload_n (i := 3) (dX10_two_1 26 rfl) rfl rfl ?_
      exact R_iret rfl rfl (Nat.zero_le _) (Nat.zero_le _) (dX10_two_1 27 rfl) ⟨congrArg (fun z => some (Sum.inl z)) (Prod.mk.inj (Option.some.inj H)).1, rfl, (Prod.mk.inj (Option.some.inj H)).2⟩
    · have H := ite_T H hc
      refine R_iload_n (i := 2) (dX10_two_1 24 rfl) rfl rfl ?_
      refine R_goto (tgt := 164) (dX10_two_1 25 rfl) (by decide) ?_
      exact R_iret rfl rfl (Nat.zero_le _) (Nat.zero_le _) (dX10_two_1 27 rfl) ⟨congrArg (fun z => some (Sum.inl z)) (Prod.mk.inj (Option.some.inj H)).1, rfl, (Prod.mk.inj (Option.some.inj H)).2⟩
  · have H := ite_T H hc
    refine R_bipush (dX10_two_0 5 rfl) rfl rfl ?_
    exact R_iret rfl rfl (Nat.zero_le _) (Nat.zero_le _) (dX10_two_0 6 rfl) ⟨congrArg (fun z => some (Sum.inl z)) (Prod.mk.inj (Option.some.inj H)).1, rfl, (Prod.mk.inj (Option.some.inj H)).2⟩
def f_X10_ask_L48 (K86 : Int → Mem → Option (Int × Mem)) (x1 : Int) (x2 : Int) (x3 : Int) (x4 : Int) (x5 : Int) : Nat → Int → Int → Mem → Option (Int × Mem)
  | 0, _, _, _ => none
  | n + 1, x6, x7, M =>
    if x7 < M 38 40 then
      if 0 ≤ x7 ∧ x7 < 720 then
        (f_X10_hasIn x4 (M 58 (x7).toNat) M).bind fun r518 =>
        f_X10_ask_L48 K86 x1 x2 x3 x4 x5 n (w32 (x6 + (b_and (b_shr r518 x5) 1))) (w32 (x7 + 1)) M
      else none
    else
      K86 x6 M
set_option maxHeartbeats 4000000 in
theorem t_X10_ask_L48 (l : Launch) (g : GG) (ad : Nat → Nat) (S : SW) (hS : q_ag 38 63 ad S) (x1 : Int) (x2 : Int) (x3 : Int) (x4 : Int) (x5 : Int) {K86 : Int → Mem → Option (Int × Mem)} {r : Int} {M' : Mem} : ∀ (n : Nat) (x6 : Int) (x7 : Int) (M : Mem), f_X10_ask_L48 K86 x1 x2 x3 x4 x5 n x6 x7 M = some (r, M') → (∀ (z6 : Int) (M1 : Mem), K86 z6 M1 = some (r, M') → RW l g MX10_ask (q_rm 6 0 0) 0 0 (q_ex S (some (.inl r)) M') 86 S M1 0 0 [some (.inr (.inr (some (ad 38)))), some (.inl x1), some (.inl x2), some (.inl x3), some (.inl x4), some (.inl x5), some (.inl z6), none] []) → RW l g MX10_ask (q_rm 6 0 0) 0 0 (q_ex S (some (.inl r)) M') 48 S M 0 0 [some (.inr (.inr (some (ad 38)))), some (.inl x1), some (.inl x2), some (.inl x3), some (.inl x4), some (.inl x5), some (.inl x6), some (.inl x7)] [] := by
  intro n
  induction n with
  | zero => intro x6 x7 M H; exact absurd H (by simp [f_X10_ask_L48])
  | succ n ih =>
    intro x6 x7 M H hK86
    rw [f_X10_ask_L48] at H
    refine R_iload (i := 7) (dX10_ask_0 28 rfl) rfl ?_
    refine R_aload_n (i := 0) (dX10_ask_0 29 rfl) rfl rfl ?_
    refine R_getI cgX10 38 (cl38 hS) 40 (Nat.le_of_ble_eq_true rfl) rfl (Or.inl tb_1167) (dX10_ask_0 30 rfl) ?_
    refine R_icmp_ge (tgt := 86) (dX10_ask_0 31 rfl) (by decide) (fun hc => ?_) (fun hc => ?_)
    · have H := ite_F H hc
      refine R_mask [true, true, true, true, true, true, true, false] rfl ?_
      exact hK86 x6 M H
    · have H := ite_T H hc
      refine R_iload (i := 6) (dX10_ask_0 32 rfl) rfl ?_
      refine R_aload_n (i := 0) (dX10_ask_0 33 rfl) rfl rfl ?_
      refine R_iload (i := 4) (dX10_ask_0 34 rfl) rfl ?_
      refine R_aload_n (i := 0) (dX10_ask_0 35 rfl) rfl rfl ?_
      refine R_getR cgX10 38 (cl38 hS) 39 (Nat.le_of_ble_eq_true rfl) rfl (Or.inl tb_1166) (dX10_ask_0 36 rfl) ?_
      refine R_iload (i := 7) (dX10_ask_0 37 rfl) rfl ?_
      obtain ⟨hg, H⟩ := ite_G H
      refine R_iald 58 (cl58 hS) hg (dX10_ask_0 38 rfl) ?_
      obtain ⟨r518, hr, H⟩ := op_E H
      refine R_cV (st' := [.inl r518, .inl x6]) [.inl x4, .inl (M 58 (x7).toNat)] [.inl x6] (t_X10_hasIn l g ad S _ hS   x4 (M 58 (x7).toNat) hr) msX10_hasIn (Or.inl tb_1374) (Or.inl ⟨38, 10, _, _, _, (cl38 hS), rfl⟩) ⟨Nat.le_of_ble_eq_true rfl, Nat.le_of_ble_eq_true rfl⟩ (Nat.zero_le _) (Nat.zero_le _) rfl rfl (Nat.le_of_ble_eq_true rfl) rfl (dX10_ask_0 39 rfl) ?_
      refine R_iload (i := 5) (dX10_ask_0 40 rfl) rfl ?_
      refine R_ishr (dX10_ask_0 41 rfl) ?_
      refine R_iconst (dX10_ask_0 42 rfl) rfl ?_
      refine R_iand (dX10_ask_0 43 rfl) ?_
      refine R_iadd (dX10_ask_0 44 rfl) ?_
      refine R_istore (i := 6) (ls' := [some (.inr (.inr (some (ad 38)))), some (.inl x1), some (.inl x2), some (.inl x3), some (.inl x4), some (.inl x5), some (.inl (w32 (x6 + (b_and (b_shr r518 x5) 1)))), some (.inl x7)]) (dX10_ask_0 45 rfl) (Nat.le_of_ble_eq_true rfl) (Nat.le_of_ble_eq_true rfl) rfl rfl ?_
      refine R_iinc (i := 7) (ls' := [some (.inr (.inr (some (ad 38)))), some (.inl x1), some (.inl x2), some (.inl x3), some (.inl x4), some (.inl x5), some (.inl (w32 (x6 + (b_and (b_shr r518 x5) 1)))), some (.inl (w32 (x7 + 1)))]) (dX10_ask_0 46 rfl) rfl (Nat.le_of_ble_eq_true rfl) rfl rfl ?_
      refine R_goto (tgt := 48) (dX10_ask_0 47 rfl) (by decide) ?_
      exact ih (w32 (x6 + (b_and (b_shr r518 x5) 1))) (w32 (x7 + 1)) M H hK86
def f_X10_ask_L35 (K155 : Int → Int → Mem → Option (Int × Mem)) (x1 : Int) (x4 : Int) : Nat → Int → Int → Int → Mem → Option (Int × Mem)
  | 0, _, _, _, _ => none
  | n + 1, x2, x3, x5, M =>
    if x5 < 6 then
      f_X10_ask_L48
        (fun y519 M520 =>
          if y519 < w32 ((M520 38 40) - y519) then
            if x2 = (-1) then
              if x3 < y519 then
                f_X10_ask_L35 K155 x1 x4 n (w32 ((w32 (10 * x4)) + x5)) y519 (w32 (x5 + 1)) M520
              else
                f_X10_ask_L35 K155 x1 x4 n (w32 ((w32 (10 * x4)) + x5)) x3 (w32 (x5 + 1)) M520
            else
              if x3 < y519 then
                if x3 < y519 then
                  f_X10_ask_L35 K155 x1 x4 n (w32 ((w32 (10 * x4)) + x5)) y519 (w32 (x5 + 1)) M520
                else
                  f_X10_ask_L35 K155 x1 x4 n (w32 ((w32 (10 * x4)) + x5)) x3 (w32 (x5 + 1)) M520
              else
                if x3 < y519 then
                  f_X10_ask_L35 K155 x1 x4 n x2 y519 (w32 (x5 + 1)) M520
                else
                  f_X10_ask_L35 K155 x1 x4 n x2 x3 (w32 (x5 + 1)) M520
          else
            if x2 = (-1) then
              if x3 < w32 ((M520 38 40) - y519) then
                f_X10_ask_L35 K155 x1 x4 n (w32 ((w32 (10 * x4)) + x5)) (w32 ((M520 38 40) - y519)) (w32 (x5 + 1)) M520
              else
                f_X10_ask_L35 K155 x1 x4 n (w32 ((w32 (10 * x4)) + x5)) x3 (w32 (x5 + 1)) M520
            else
              if x3 < w32 ((M520 38 40) - y519) then
                if x3 < w32 ((M520 38 40) - y519) then
                  f_X10_ask_L35 K155 x1 x4 n (w32 ((w32 (10 * x4)) + x5)) (w32 ((M520 38 40) - y519)) (w32 (x5 + 1)) M520
                else
                  f_X10_ask_L35 K155 x1 x4 n (w32 ((w32 (10 * x4)) + x5)) x3 (w32 (x5 + 1)) M520
              else
                if x3 < w32 ((M520 38 40) - y519) then
                  f_X10_ask_L35 K155 x1 x4 n x2 (w32 ((M520 38 40) - y519)) (w32 (x5 + 1)) M520
                else
                  f_X10_ask_L35 K155 x1 x4 n x2 x3 (w32 (x5 + 1)) M520
        )
        x1 x2 x3 x4 x5 100000 0 0 M
    else
      K155 x2 x3 M
set_option maxHeartbeats 4000000 in
theorem t_X10_ask_L35 (l : Launch) (g : GG) (ad : Nat → Nat) (S : SW) (hS : q_ag 38 63 ad S) (x1 : Int) (x4 : Int) {K155 : Int → Int → Mem → Option (Int × Mem)} {r : Int} {M' : Mem} : ∀ (n : Nat) (x2 : Int) (x3 : Int) (x5 : Int) (M : Mem), f_X10_ask_L35 K155 x1 x4 n x2 x3 x5 M = some (r, M') → (∀ (z2 : Int) (z3 : Int) (M1 : Mem), K155 z2 z3 M1 = some (r, M') → RW l g MX10_ask (q_rm 6 0 0) 0 0 (q_ex S (some (.inl r)) M') 155 S M1 0 0 [some (.inr (.inr (some (ad 38)))), some (.inl x1), some (.inl z2), some (.inl z3), some (.inl x4), none, none, none] []) → RW l g MX10_ask (q_rm 6 0 0) 0 0 (q_ex S (some (.inl r)) M') 35 S M 0 0 [some (.inr (.inr (some (ad 38)))), some (.inl x1), some (.inl x2), some (.inl x3), some (.inl x4), some (.inl x5), none, none] [] := by
  intro n
  induction n with
  | zero => intro x2 x3 x5 M H; exact absurd H (by simp [f_X10_ask_L35])
  | succ n ih =>
    intro x2 x3 x5 M H hK155
    rw [f_X10_ask_L35] at H
    refine R_iload (i := 5) (dX10_ask_0 21 rfl) rfl ?_
    refine R_bipush (dX10_ask_0 22 rfl) rfl rfl ?_
    refine R_icmp_ge (tgt := 155) (dX10_ask_0 23 rfl) (by decide) (fun hc => ?_) (fun hc => ?_)
    · have H := ite_F H hc
      refine R_mask [true, true, true, true, true, false, false, false] rfl ?_
      exact hK155 x2 x3 M H
    · have H := ite_T H hc
      refine R_iconst (dX10_ask_0 24 rfl) rfl ?_
      refine R_istore (i := 6) (ls' := [some (.inr (.inr (some (ad 38)))), some (.inl x1), some (.inl x2), some (.inl x3), some (.inl x4), some (.inl x5), some (.inl 0), none]) (dX10_ask_0 25 rfl) (Nat.le_of_ble_eq_true rfl) (Nat.le_of_ble_eq_true rfl) rfl rfl ?_
      refine R_iconst (dX10_ask_0 26 rfl) rfl ?_
      refine R_istore (i := 7) (ls' := [some (.inr (.inr (some (ad 38)))), some (.inl x1), some (.inl x2), some (.inl x3), some (.inl x4), some (.inl x5), some (.inl 0), some (.inl 0)]) (dX10_ask_0 27 rfl) (Nat.le_of_ble_eq_true rfl) (Nat.le_of_ble_eq_true rfl) rfl rfl ?_
      refine t_X10_ask_L48 l g ad S hS x1 x2 x3 x4 x5  100000 0 0 M H (fun y519 M520 H => ?_)
      refine R_iload (i := 6) (dX10_ask_0 48 rfl) rfl ?_
      refine R_aload_n (i := 0) (dX10_ask_0 49 rfl) rfl rfl ?_
      refine R_getI cgX10 38 (cl38 hS) 40 (Nat.le_of_ble_eq_true rfl) rfl (Or.inl tb_1167) (dX10_ask_0 50 rfl) ?_
      refine R_iload (i := 6) (dX10_ask_0 51 rfl) rfl ?_
      refine R_isub (dX10_ask_0 52 rfl) ?_
      refine R_icmp_ge (tgt := 103) (dX10_ask_0 53 rfl) (by decide) (fun hc => ?_) (fun hc => ?_)
      · have H := ite_F H hc
        refine R_aload_n (i := 0) (dX10_ask_0 56 rfl) rfl rfl ?_
        refine R_getI cgX10 38 (cl38 hS) 40 (Nat.le_of_ble_eq_true rfl) rfl (Or.inl tb_1167) (dX10_ask_0 57 rfl) ?_
        refine R_iload (i := 6) (dX10_ask_0 58 rfl) rfl ?_
        refine R_isub (dX10_ask_0 59 rfl) ?_
        refine R_istore (i := 7) (ls' := [some (.inr (.inr (some (ad 38)))), some (.inl x1), some (.inl x2), some (.inl x3), some (.inl x4), some (.inl x5), some (.inl y519), some (.inl (w32 ((M520 38 40) - y519)))]) (dX10_ask_1 0 rfl) (Nat.le_of_ble_eq_true rfl) (Nat.le_of_ble_eq_true rfl) rfl rfl ?_
        refine R_iload_n (i := 2) (dX10_ask_1 1 rfl) rfl rfl ?_
        refine R_iconst (dX10_ask_1 2 rfl) rfl ?_
        refine R_icmp_eq (tgt := 123) (dX10_ask_1 3 rfl) (by decide) (fun hc => ?_) (fun hc => ?_)
        · have H := ite_T H hc
          refine R_bipush (dX10_ask_1 7 rfl) rfl rfl ?_
          refine R_iload (i := 4) (dX10_ask_1 8 rfl) rfl ?_
          refine R_imul (dX10_ask_1 9 rfl) ?_
          refine R_iload (i := 5) (dX10_ask_1 10 rfl) rfl ?_
          refine R_iadd (dX10_ask_1 11 rfl) ?_
          refine R_goto (tgt := 135) (dX10_ask_1 12 rfl) (by decide) ?_
          refine R_istore_n (i := 2) (ls' := [some (.inr (.inr (some (ad 38)))), some (.inl x1), some (.inl (w32 ((w32 (10 * x4)) + x5))), some (.inl x3), some (.inl x4), some (.inl x5), some (.inl y519), some (.inl (w32 ((M520 38 40) - y519)))]) (dX10_ask_1 14 rfl) rfl (Nat.le_of_ble_eq_true rfl) (Nat.le_of_ble_eq_true rfl) rfl rfl ?_
          refine R_iload (i := 7) (dX10_ask_1 15 rfl) rfl ?_
          refine R_iload_n (i := 3) (dX10_ask_1 16 rfl) rfl rfl ?_
          refine R_icmp_le (tgt := 147) (dX10_ask_1 17 rfl) (by decide) (fun hc => ?_) (fun hc => ?_)
          · have H := ite_F H hc
            refine R_iload_n (i := 3) (dX10_ask_1 20 rfl) rfl rfl ?_
            refine R_istore_n (i := 3) (ls' := [some (.inr (.inr (some (ad 38)))), some (.inl x1), some (.inl (w32 ((w32 (10 * x4)) + x5))), some (.inl x3), some (.inl x4), some (.inl x5), some (.inl y519), some (.inl (w32 ((M520 38 40) - y519)))]) (dX10_ask_1 21 rfl) rfl (Nat.le_of_ble_eq_true rfl) (Nat.le_of_ble_eq_true rfl) rfl rfl ?_
            refine R_iinc (i := 5) (ls' := [some (.inr (.inr (some (ad 38)))), some (.inl x1), some (.inl (w32 ((w32 (10 * x4)) + x5))), some (.inl x3), some (.inl x4), some (.inl (w32 (x5 + 1))), some (.inl y519), some (.inl (w32 ((M520 38 40) - y519)))]) (dX10_ask_1 22 rfl) rfl (Nat.le_of_ble_eq_true rfl) rfl rfl ?_
            refine R_goto (tgt := 35) (dX10_ask_1 23 rfl) (by decide) ?_
            refine R_mask [true, true, true, true, true, true, false, false] rfl ?_
            exact ih (w32 ((w32 (10 * x4)) + x5)) x3 (w32 (x5 + 1)) M520 H hK155
          · have H := ite_T H hc
            refine R_iload (i := 7) (dX10_ask_1 18 rfl) rfl ?_
            refine R_goto (tgt := 148) (dX10_ask_1 19 rfl) (by decide) ?_
            refine R_istore_n (i := 3) (ls' := [some (.inr (.inr (some (ad 38)))), some (.inl x1), some (.inl (w32 ((w32 (10 * x4)) + x5))), some (.inl (w32 ((M520 38 40) - y519))), some (.inl x4), some (.inl x5), some (.inl y519), some (.inl (w32 ((M520 38 40) - y519)))]) (dX10_ask_1 21 rfl) rfl (Nat.le_of_ble_eq_true rfl) (Nat.le_of_ble_eq_true rfl) rfl rfl ?_
            refine R_iinc (i := 5) (ls' := [some (.inr (.inr (some (ad 38)))), some (.inl x1), some (.inl (w32 ((w32 (10 * x4)) + x5))), some (.inl (w32 ((M520 38 40) - y519))), some (.inl x4), some (.inl (w32 (x5 + 1))), some (.inl y519), some (.inl (w32 ((M520 38 40) - y519)))]) (dX10_ask_1 22 rfl) rfl (Nat.le_of_ble_eq_true rfl) rfl rfl ?_
            refine R_goto (tgt := 35) (dX10_ask_1 23 rfl) (by decide) ?_
            refine R_mask [true, true, true, true, true, true, false, false] rfl ?_
            exact ih (w32 ((w32 (10 * x4)) + x5)) (w32 ((M520 38 40) - y519)) (w32 (x5 + 1)) M520 H hK155
        · have H := ite_F H hc
          refine R_iload (i := 7) (dX10_ask_1 4 rfl) rfl ?_
          refine R_iload_n (i := 3) (dX10_ask_1 5 rfl) rfl rfl ?_
          refine R_icmp_le (tgt := 134) (dX10_ask_1 6 rfl) (by decide) (fun hc => ?_) (fun hc => ?_)
          · have H := ite_F H hc
            refine R_iload_n (i := 2) (dX10_ask_1 13 rfl) rfl rfl ?_
            refine R_istore_n (i := 2) (ls' := [some (.inr (.inr (some (ad 38)))), some (.inl x1), some (.inl x2), some (.inl x3), some (.inl x4), some (.inl x5), some (.inl y519), some (.inl (w32 ((M520 38 40) - y519)))]) (dX10_ask_1 14 rfl) rfl (Nat.le_of_ble_eq_true rfl) (Nat.le_of_ble_eq_true rfl) rfl rfl ?_
            refine R_iload (i := 7) (dX10_ask_1 15 rfl) rfl ?_
            refine R_iload_n (i := 3) (dX10_ask_1 16 rfl) rfl rfl ?_
            refine R_icmp_le (tgt := 147) (dX10_ask_1 17 rfl) (by decide) (fun hc => ?_) (fun hc => ?_)
            · have H := ite_F H hc
              refine R_iload_n (i := 3) (dX10_ask_1 20 rfl) rfl rfl ?_
              refine R_istore_n (i := 3) (ls' := [some (.inr (.inr (some (ad 38)))), some (.inl x1), some (.inl x2), some (.inl x3), some (.inl x4), some (.inl x5), some (.inl y519), some (.inl (w32 ((M520 38 40) - y519)))]) (dX10_ask_1 21 rfl) rfl (Nat.le_of_ble_eq_true rfl) (Nat.le_of_ble_eq_true rfl) rfl rfl ?_
              refine R_iinc (i := 5) (ls' := [some (.inr (.inr (some (ad 38)))), some (.inl x1), some (.inl x2), some (.inl x3), some (.inl x4), some (.inl (w32 (x5 + 1))), some (.inl y519), some (.inl (w32 ((M520 38 40) - y519)))]) (dX10_ask_1 22 rfl) rfl (Nat.le_of_ble_eq_true rfl) rfl rfl ?_
              refine R_goto (tgt := 35) (dX10_ask_1 23 rfl) (by decide) ?_
              refine R_mask [true, true, true, true, true, true, false, false] rfl ?_
              exact ih x2 x3 (w32 (x5 + 1)) M520 H hK155
            · have H := ite_T H hc
              refine R_iload (i := 7) (dX10_ask_1 18 rfl) rfl ?_
              refine R_goto (tgt := 148) (dX10_ask_1 19 rfl) (by decide) ?_
              refine R_istore_n (i := 3) (ls' := [some (.inr (.inr (some (ad 38)))), some (.inl x1), some (.inl x2), some (.inl (w32 ((M520 38 40) - y519))), some (.inl x4), some (.inl x5), some (.inl y519), some (.inl (w32 ((M520 38 40) - y519)))]) (dX10_ask_1 21 rfl) rfl (Nat.le_of_ble_eq_true rfl) (Nat.le_of_ble_eq_true rfl) rfl rfl ?_
              refine R_iinc (i := 5) (ls' := [some (.inr (.inr (some (ad 38)))), some (.inl x1), some (.inl x2), some (.inl (w32 ((M520 38 40) - y519))), some (.inl x4), some (.inl (w32 (x5 + 1))), some (.inl y519), some (.inl (w32 ((M520 38 40) - y519)))]) (dX10_ask_1 22 rfl) rfl (Nat.le_of_ble_eq_true rfl) rfl rfl ?_
              refine R_goto (tgt := 35) (dX10_ask_1 23 rfl) (by decide) ?_
              refine R_mask [true, true, true, true, true, true, false, false] rfl ?_
              exact ih x2 (w32 ((M520 38 40) - y519)) (w32 (x5 + 1)) M520 H hK155
          · have H := ite_T H hc
            refine R_bipush (dX10_ask_1 7 rfl) rfl rfl ?_
            refine R_iload (i := 4) (dX10_ask_1 8 rfl) rfl ?_
            refine R_imul (dX10_ask_1 9 rfl) ?_
            refine R_iload (i := 5) (dX10_ask_1 10 rfl) rfl ?_
            refine R_iadd (dX10_ask_1 11 rfl) ?_
            refine R_goto (tgt := 135) (dX10_ask_1 12 rfl) (by decide) ?_
            refine R_istore_n (i := 2) (ls' := [some (.inr (.inr (some (ad 38)))), some (.inl x1), some (.inl (w32 ((w32 (10 * x4)) + x5))), some (.inl x3), some (.inl x4), some (.inl x5), some (.inl y519), some (.inl (w32 ((M520 38 40) - y519)))]) (dX10_ask_1 14 rfl) rfl (Nat.le_of_ble_eq_true rfl) (Nat.le_of_ble_eq_true rfl) rfl rfl ?_
            refine R_iload (i := 7) (dX10_ask_1 15 rfl) rfl ?_
            refine R_iload_n (i := 3) (dX10_ask_1 16 rfl) rfl rfl ?_
            refine R_icmp_le (tgt := 147) (dX10_ask_1 17 rfl) (by decide) (fun hc => ?_) (fun hc => ?_)
            · have H := ite_F H hc
              refine R_iload_n (i := 3) (dX10_ask_1 20 rfl) rfl rfl ?_
              refine R_istore_n (i := 3) (ls' := [some (.inr (.inr (some (ad 38)))), some (.inl x1), some (.inl (w32 ((w32 (10 * x4)) + x5))), some (.inl x3), some (.inl x4), some (.inl x5), some (.inl y519), some (.inl (w32 ((M520 38 40) - y519)))]) (dX10_ask_1 21 rfl) rfl (Nat.le_of_ble_eq_true rfl) (Nat.le_of_ble_eq_true rfl) rfl rfl ?_
              refine R_iinc (i := 5) (ls' := [some (.inr (.inr (some (ad 38)))), some (.inl x1), some (.inl (w32 ((w32 (10 * x4)) + x5))), some (.inl x3), some (.inl x4), some (.inl (w32 (x5 + 1))), some (.inl y519), some (.inl (w32 ((M520 38 40) - y519)))]) (dX10_ask_1 22 rfl) rfl (Nat.le_of_ble_eq_true rfl) rfl rfl ?_
              refine R_goto (tgt := 35) (dX10_ask_1 23 rfl) (by decide) ?_
              refine R_mask [true, true, true, true, true, true, false, false] rfl ?_
              exact ih (w32 ((w32 (10 * x4)) + x5)) x3 (w32 (x5 + 1)) M520 H hK155
            · have H := ite_T H hc
              refine R_iload (i := 7) (dX10_ask_1 18 rfl) rfl ?_
              refine R_goto (tgt := 148) (dX10_ask_1 19 rfl) (by decide) ?_
              refine R_istore_n (i := 3) (ls' := [some (.inr (.inr (some (ad 38)))), some (.inl x1), some (.inl (w32 ((w32 (10 * x4)) + x5))), some (.inl (w32 ((M520 38 40) - y519))), some (.inl x4), some (.inl x5), some (.inl y519), some (.inl (w32 ((M520 38 40) - y519)))]) (dX10_ask_1 21 rfl) rfl (Nat.le_of_ble_eq_true rfl) (Nat.le_of_ble_eq_true rfl) rfl rfl ?_
              refine R_iinc (i := 5) (ls' := [some (.inr (.inr (some (ad 38)))), some (.inl x1), some (.inl (w32 ((w32 (10 * x4)) + x5))), some (.inl (w32 ((M520 38 40) - y519))), some (.inl x4), some (.inl (w32 (x5 + 1))), some (.inl y519), some (.inl (w32 ((M520 38 40) - y519)))]) (dX10_ask_1 22 rfl) rfl (Nat.le_of_ble_eq_true rfl) rfl rfl ?_
              refine R_goto (tgt := 35) (dX10_ask_1 23 rfl) (by decide) ?_
              refine R_mask [true, true, true, true, true, true, false, false] rfl ?_
              exact ih (w32 ((w32 (10 * x4)) + x5)) (w32 ((M520 38 40) - y519)) (w32 (x5 + 1)) M520 H hK155
      · have H := ite_T H hc
        refine R_iload (i := 6) (dX10_ask_0 54 rfl) rfl ?_
        refine R_goto (tgt := 110) (dX10_ask_0 55 rfl) (by decide) ?_
        refine R_istore (i := 7) (ls' := [some (.inr (.inr (some (ad 38)))), some (.inl x1), some (.inl x2), some (.inl x3), some (.inl x4), some (.inl x5), some (.inl y519), some (.inl y519)]) (dX10_ask_1 0 rfl) (Nat.le_of_ble_eq_true rfl) (Nat.le_of_ble_eq_true rfl) rfl rfl ?_
        refine R_iload_n (i := 2) (dX10_ask_1 1 rfl) rfl rfl ?_
        refine R_iconst (dX10_ask_1 2 rfl) rfl ?_
        refine R_icmp_eq (tgt := 123) (dX10_ask_1 3 rfl) (by decide) (fun hc => ?_) (fun hc => ?_)
        · have H := ite_T H hc
          refine R_bipush (dX10_ask_1 7 rfl) rfl rfl ?_
          refine R_iload (i := 4) (dX10_ask_1 8 rfl) rfl ?_
          refine R_imul (dX10_ask_1 9 rfl) ?_
          refine R_iload (i := 5) (dX10_ask_1 10 rfl) rfl ?_
          refine R_iadd (dX10_ask_1 11 rfl) ?_
          refine R_goto (tgt := 135) (dX10_ask_1 12 rfl) (by decide) ?_
          refine R_istore_n (i := 2) (ls' := [some (.inr (.inr (some (ad 38)))), some (.inl x1), some (.inl (w32 ((w32 (10 * x4)) + x5))), some (.inl x3), some (.inl x4), some (.inl x5), some (.inl y519), some (.inl y519)]) (dX10_ask_1 14 rfl) rfl (Nat.le_of_ble_eq_true rfl) (Nat.le_of_ble_eq_true rfl) rfl rfl ?_
          refine R_iload (i := 7) (dX10_ask_1 15 rfl) rfl ?_
          refine R_iload_n (i := 3) (dX10_ask_1 16 rfl) rfl rfl ?_
          refine R_icmp_le (tgt := 147) (dX10_ask_1 17 rfl) (by decide) (fun hc => ?_) (fun hc => ?_)
          · have H := ite_F H hc
            refine R_iload_n (i := 3) (dX10_ask_1 20 rfl) rfl rfl ?_
            refine R_istore_n (i := 3) (ls' := [some (.inr (.inr (some (ad 38)))), some (.inl x1), some (.inl (w32 ((w32 (10 * x4)) + x5))), some (.inl x3), some (.inl x4), some (.inl x5), some (.inl y519), some (.inl y519)]) (dX10_ask_1 21 rfl) rfl (Nat.le_of_ble_eq_true rfl) (Nat.le_of_ble_eq_true rfl) rfl rfl ?_
            refine R_iinc (i := 5) (ls' := [some (.inr (.inr (some (ad 38)))), some (.inl x1), some (.inl (w32 ((w32 (10 * x4)) + x5))), some (.inl x3), some (.inl x4), some (.inl (w32 (x5 + 1))), some (.inl y519), some (.inl y519)]) (dX10_ask_1 22 rfl) rfl (Nat.le_of_ble_eq_true rfl) rfl rfl ?_
            refine R_goto (tgt := 35) (dX10_ask_1 23 rfl) (by decide) ?_
            refine R_mask [true, true, true, true, true, true, false, false] rfl ?_
            exact ih (w32 ((w32 (10 * x4)) + x5)) x3 (w32 (x5 + 1)) M520 H hK155
          · have H := ite_T H hc
            refine R_iload (i := 7) (dX10_ask_1 18 rfl) rfl ?_
            refine R_goto (tgt := 148) (dX10_ask_1 19 rfl) (by decide) ?_
            refine R_istore_n (i := 3) (ls' := [some (.inr (.inr (some (ad 38)))), some (.inl x1), some (.inl (w32 ((w32 (10 * x4)) + x5))), some (.inl y519), some (.inl x4), some (.inl x5), some (.inl y519), some (.inl y519)]) (dX10_ask_1 21 rfl) rfl (Nat.le_of_ble_eq_true rfl) (Nat.le_of_ble_eq_true rfl) rfl rfl ?_
            refine R_iinc (i := 5) (ls' := [some (.inr (.inr (some (ad 38)))), some (.inl x1), some (.inl (w32 ((w32 (10 * x4)) + x5))), some (.inl y519), some (.inl x4), some (.inl (w32 (x5 + 1))), some (.inl y519), some (.inl y519)]) (dX10_ask_1 22 rfl) rfl (Nat.le_of_ble_eq_true rfl) rfl rfl ?_
            refine R_goto (tgt := 35) (dX10_ask_1 23 rfl) (by decide) ?_
            refine R_mask [true, true, true, true, true, true, false, false] rfl ?_
            exact ih (w32 ((w32 (10 * x4)) + x5)) y519 (w32 (x5 + 1)) M520 H hK155
        · have H := ite_F H hc
          refine R_iload (i := 7) (dX10_ask_1 4 rfl) rfl ?_
          refine R_iload_n (i := 3) (dX10_ask_1 5 rfl) rfl rfl ?_
          refine R_icmp_le (tgt := 134) (dX10_ask_1 6 rfl) (by decide) (fun hc => ?_) (fun hc => ?_)
          · have H := ite_F H hc
            refine R_iload_n (i := 2) (dX10_ask_1 13 rfl) rfl rfl ?_
            refine R_istore_n (i := 2) (ls' := [some (.inr (.inr (some (ad 38)))), some (.inl x1), some (.inl x2), some (.inl x3), some (.inl x4), some (.inl x5), some (.inl y519), some (.inl y519)]) (dX10_ask_1 14 rfl) rfl (Nat.le_of_ble_eq_true rfl) (Nat.le_of_ble_eq_true rfl) rfl rfl ?_
            refine R_iload (i := 7) (dX10_ask_1 15 rfl) rfl ?_
            refine R_iload_n (i := 3) (dX10_ask_1 16 rfl) rfl rfl ?_
            refine R_icmp_le (tgt := 147) (dX10_ask_1 17 rfl) (by decide) (fun hc => ?_) (fun hc => ?_)
            · have H := ite_F H hc
              refine R_iload_n (i := 3) (dX10_ask_1 20 rfl) rfl rfl ?_
              refine R_istore_n (i := 3) (ls' := [some (.inr (.inr (some (ad 38)))), some (.inl x1), some (.inl x2), some (.inl x3), some (.inl x4), some (.inl x5), some (.inl y519), some (.inl y519)]) (dX10_ask_1 21 rfl) rfl (Nat.le_of_ble_eq_true rfl) (Nat.le_of_ble_eq_true rfl) rfl rfl ?_
              refine R_iinc (i := 5) (ls' := [some (.inr (.inr (some (ad 38)))), some (.inl x1), some (.inl x2), some (.inl x3), some (.inl x4), some (.inl (w32 (x5 + 1))), some (.inl y519), some (.inl y519)]) (dX10_ask_1 22 rfl) rfl (Nat.le_of_ble_eq_true rfl) rfl rfl ?_
              refine R_goto (tgt := 35) (dX10_ask_1 23 rfl) (by decide) ?_
              refine R_mask [true, true, true, true, true, true, false, false] rfl ?_
              exact ih x2 x3 (w32 (x5 + 1)) M520 H hK155
            · have H := ite_T H hc
              refine R_iload (i := 7) (dX10_ask_1 18 rfl) rfl ?_
              refine R_goto (tgt := 148) (dX10_ask_1 19 rfl) (by decide) ?_
              refine R_istore_n (i := 3) (ls' := [some (.inr (.inr (some (ad 38)))), some (.inl x1), some (.inl x2), some (.inl y519), some (.inl x4), some (.inl x5), some (.inl y519), some (.inl y519)]) (dX10_ask_1 21 rfl) rfl (Nat.le_of_ble_eq_true rfl) (Nat.le_of_ble_eq_true rfl) rfl rfl ?_
              refine R_iinc (i := 5) (ls' := [some (.inr (.inr (some (ad 38)))), some (.inl x1), some (.inl x2), some (.inl y519), some (.inl x4), some (.inl (w32 (x5 + 1))), some (.inl y519), some (.inl y519)]) (dX10_ask_1 22 rfl) rfl (Nat.le_of_ble_eq_true rfl) rfl rfl ?_
              refine R_goto (tgt := 35) (dX10_ask_1 23 rfl) (by decide) ?_
              refine R_mask [true, true, true, true, true, true, false, false] rfl ?_
              exact ih x2 y519 (w32 (x5 + 1)) M520 H hK155
          · have H := ite_T H hc
            refine R_bipush (dX10_ask_1 7 rfl) rfl rfl ?_
            refine R_iload (i := 4) (dX10_ask_1 8 rfl) rfl ?_
            refine R_imul (dX10_ask_1 9 rfl) ?_
            refine R_iload (i := 5) (dX10_ask_1 10 rfl) rfl ?_
            refine R_iadd (dX10_ask_1 11 rfl) ?_
            refine R_goto (tgt := 135) (dX10_ask_1 12 rfl) (by decide) ?_
            refine R_istore_n (i := 2) (ls' := [some (.inr (.inr (some (ad 38)))), some (.inl x1), some (.inl (w32 ((w32 (10 * x4)) + x5))), some (.inl x3), some (.inl x4), some (.inl x5), some (.inl y519), some (.inl y519)]) (dX10_ask_1 14 rfl) rfl (Nat.le_of_ble_eq_true rfl) (Nat.le_of_ble_eq_true rfl) rfl rfl ?_
            refine R_iload (i := 7) (dX10_ask_1 15 rfl) rfl ?_
            refine R_iload_n (i := 3) (dX10_ask_1 16 rfl) rfl rfl ?_
            refine R_icmp_le (tgt := 147) (dX10_ask_1 17 rfl) (by decide) (fun hc => ?_) (fun hc => ?_)
            · have H := ite_F H hc
              refine R_iload_n (i := 3) (dX10_ask_1 20 rfl) rfl rfl ?_
              refine R_istore_n (i := 3) (ls' := [some (.inr (.inr (some (ad 38)))), some (.inl x1), some (.inl (w32 ((w32 (10 * x4)) + x5))), some (.inl x3), some (.inl x4), some (.inl x5), some (.inl y519), some (.inl y519)]) (dX10_ask_1 21 rfl) rfl (Nat.le_of_ble_eq_true rfl) (Nat.le_of_ble_eq_true rfl) rfl rfl ?_
              refine R_iinc (i := 5) (ls' := [some (.inr (.inr (some (ad 38)))), some (.inl x1), some (.inl (w32 ((w32 (10 * x4)) + x5))), some (.inl x3), some (.inl x4), some (.inl (w32 (x5 + 1))), some (.inl y519), some (.inl y519)]) (dX10_ask_1 22 rfl) rfl (Nat.le_of_ble_eq_true rfl) rfl rfl ?_
              refine R_goto (tgt := 35) (dX10_ask_1 23 rfl) (by decide) ?_
              refine R_mask [true, true, true, true, true, true, false, false] rfl ?_
              exact ih (w32 ((w32 (10 * x4)) + x5)) x3 (w32 (x5 + 1)) M520 H hK155
            · have H := ite_T H hc
              refine R_iload (i := 7) (dX10_ask_1 18 rfl) rfl ?_
              refine R_goto (tgt := 148) (dX10_ask_1 19 rfl) (by decide) ?_
              refine R_istore_n (i := 3) (ls' := [some (.inr (.inr (some (ad 38)))), some (.inl x1), some (.inl (w32 ((w32 (10 * x4)) + x5))), some (.inl y519), some (.inl x4), some (.inl x5), some (.inl y519), some (.inl y519)]) (dX10_ask_1 21 rfl) rfl (Nat.le_of_ble_eq_true rfl) (Nat.le_of_ble_eq_true rfl) rfl rfl ?_
              refine R_iinc (i := 5) (ls' := [some (.inr (.inr (some (ad 38)))), some (.inl x1), some (.inl (w32 ((w32 (10 * x4)) + x5))), some (.inl y519), some (.inl x4), some (.inl (w32 (x5 + 1))), some (.inl y519), some (.inl y519)]) (dX10_ask_1 22 rfl) rfl (Nat.le_of_ble_eq_true rfl) rfl rfl ?_
              refine R_goto (tgt := 35) (dX10_ask_1 23 rfl) (by decide) ?_
              refine R_mask [true, true, true, true, true, true, false, false] rfl ?_
              exact ih (w32 ((w32 (10 * x4)) + x5)) y519 (w32 (x5 + 1)) M520 H hK155
def f_X10_ask_L23 (K161 : Int → Int → Mem → Option (Int × Mem)) (x1 : Int) : Nat → Int → Int → Int → Mem → Option (Int × Mem)
  | 0, _, _, _, _ => none
  | n + 1, x2, x3, x4, M =>
    if x4 < M 38 0 then
      f_X10_ask_L35
        (fun y521 y522 M523 =>
          f_X10_ask_L23 K161 x1 n y521 y522 (w32 (x4 + 1)) M523
        )
        x1 x4 100000 x2 x3 0 M
    else
      K161 x2 x3 M
set_option maxHeartbeats 4000000 in
theorem t_X10_ask_L23 (l : Launch) (g : GG) (ad : Nat → Nat) (S : SW) (hS : q_ag 38 63 ad S) (x1 : Int) {K161 : Int → Int → Mem → Option (Int × Mem)} {r : Int} {M' : Mem} : ∀ (n : Nat) (x2 : Int) (x3 : Int) (x4 : Int) (M : Mem), f_X10_ask_L23 K161 x1 n x2 x3 x4 M = some (r, M') → (∀ (z2 : Int) (z3 : Int) (M1 : Mem), K161 z2 z3 M1 = some (r, M') → RW l g MX10_ask (q_rm 6 0 0) 0 0 (q_ex S (some (.inl r)) M') 161 S M1 0 0 [none, some (.inl x1), some (.inl z2), some (.inl z3), none, none, none, none] []) → RW l g MX10_ask (q_rm 6 0 0) 0 0 (q_ex S (some (.inl r)) M') 23 S M 0 0 [some (.inr (.inr (some (ad 38)))), some (.inl x1), some (.inl x2), some (.inl x3), some (.inl x4), none, none, none] [] := by
  intro n
  induction n with
  | zero => intro x2 x3 x4 M H; exact absurd H (by simp [f_X10_ask_L23])
  | succ n ih =>
    intro x2 x3 x4 M H hK161
    rw [f_X10_ask_L23] at H
    refine R_iload (i := 4) (dX10_ask_0 15 rfl) rfl ?_
    refine R_aload_n (i := 0) (dX10_ask_0 16 rfl) rfl rfl ?_
    refine R_getI cgX10 38 (cl38 hS) 0 (Nat.le_of_ble_eq_true rfl) rfl (Or.inl tb_1127) (dX10_ask_0 17 rfl) ?_
    refine R_icmp_ge (tgt := 161) (dX10_ask_0 18 rfl) (by decide) (fun hc => ?_) (fun hc => ?_)
    · have H := ite_F H hc
      refine R_mask [false, true, true, true, false, false, false, false] rfl ?_
      exact hK161 x2 x3 M H
    · have H := ite_T H hc
      refine R_iconst (dX10_ask_0 19 rfl) rfl ?_
      refine R_istore (i := 5) (ls' := [some (.inr (.inr (some (ad 38)))), some (.inl x1), some (.inl x2), some (.inl x3), some (.inl x4), some (.inl 0), none, none]) (dX10_ask_0 20 rfl) (Nat.le_of_ble_eq_true rfl) (Nat.le_of_ble_eq_true rfl) rfl rfl ?_
      refine t_X10_ask_L35 l g ad S hS x1 x4  100000 x2 x3 0 M H (fun y521 y522 M523 H => ?_)
      refine R_iinc (i := 4) (ls' := [some (.inr (.inr (some (ad 38)))), some (.inl x1), some (.inl y521), some (.inl y522), some (.inl (w32 (x4 + 1))), none, none, none]) (dX10_ask_1 24 rfl) rfl (Nat.le_of_ble_eq_true rfl) rfl rfl ?_
      refine R_goto (tgt := 23) (dX10_ask_1 25 rfl) (by decide) ?_
      exact ih y521 y522 (w32 (x4 + 1)) M523 H hK161
def f_X10_ask (x1 : Int) (M : Mem) : Option (Int × Mem) :=
  if f_X10_in x1 0 1 = 0 then
    some ((-2), M)
  else
    ob (f_X10_finds M) fun r516 M517 =>
    f_X10_ask_L23
      (fun y524 y525 M526 =>
        if x1 = 0 then
          some (y524, M526)
        else
          some (y525, M526)
      )
      x1 100000 (-1) 0 0 M517
set_option maxHeartbeats 4000000 in
theorem t_X10_ask (l : Launch) (g : GG) (ad : Nat → Nat) (S : SW) (M : Mem) (hS : q_ag 38 63 ad S) (x1 : Int) {r : Int} {M' : Mem} (H : f_X10_ask x1 M = some (r, M')) : CT l g MX10_ask 6 0 0 S M [.inr (.inr (some (ad 38))), .inl x1] (q_ex S (some (.inl r)) M') := by
  unfold f_X10_ask at H
  refine CT_of (ls0 := [some (.inr (.inr (some (ad 38)))), some (.inl x1), none, none, none, none, none, none]) (by decide +kernel) (Nat.le_of_ble_eq_true rfl) rfl ?_
  refine R_iload_n (i := 1) (dX10_ask_0 0 rfl) rfl rfl ?_
  refine R_iconst (dX10_ask_0 1 rfl) rfl ?_
  refine R_iconst (dX10_ask_0 2 rfl) rfl ?_
  refine R_cS (st' := [.inl (f_X10_in x1 0 1)]) [.inl x1, .inl 0, .inl 1] [] (t_X10_in l g S _   x1 0 1) msX10_in (Or.inl tb_1083) ⟨Nat.le_of_ble_eq_true rfl, Nat.le_of_ble_eq_true rfl⟩ (Nat.zero_le _) (Nat.zero_le _) rfl rfl (Nat.le_of_ble_eq_true rfl) rfl (dX10_ask_0 3 rfl) ?_
  refine R_if_ne (tgt := 12) (dX10_ask_0 4 rfl) (by decide) (fun hc => ?_) (fun hc => ?_)
  · have H := ite_F H hc
    refine R_aload_n (i := 0) (dX10_ask_0 7 rfl) rfl rfl ?_
    obtain ⟨r516, M517, hr, H⟩ := ob_E H
    refine R_cV (st' := []) [] [] (t_X10_finds l g ad S _ hS   hr) msX10_finds (Or.inl tb_1362) (Or.inl ⟨38, 10, _, _, _, (cl38 hS), rfl⟩) ⟨Nat.le_of_ble_eq_true rfl, Nat.le_of_ble_eq_true rfl⟩ (Nat.zero_le _) (Nat.zero_le _) rfl rfl (Nat.le_of_ble_eq_true rfl) rfl (dX10_ask_0 8 rfl) ?_
    refine R_iconst (dX10_ask_0 9 rfl) rfl ?_
    refine R_istore_n (i := 2) (ls' := [some (.inr (.inr (some (ad 38)))), some (.inl x1), some (.inl (-1)), none, none, none, none, none]) (dX10_ask_0 10 rfl) rfl (Nat.le_of_ble_eq_true rfl) (Nat.le_of_ble_eq_true rfl) rfl rfl ?_
    refine R_iconst (dX10_ask_0 11 rfl) rfl ?_
    refine R_istore_n (i := 3) (ls' := [some (.inr (.inr (some (ad 38)))), some (.inl x1), some (.inl (-1)), some (.inl 0), none, none, none, none]) (dX10_ask_0 12 rfl) rfl (Nat.le_of_ble_eq_true rfl) (Nat.le_of_ble_eq_true rfl) rfl rfl ?_
    refine R_iconst (dX10_ask_0 13 rfl) rfl ?_
    refine R_istore (i := 4) (ls' := [some (.inr (.inr (some (ad 38)))), some (.inl x1), some (.inl (-1)), some (.inl 0), some (.inl 0), none, none, none]) (dX10_ask_0 14 rfl) (Nat.le_of_ble_eq_true rfl) (Nat.le_of_ble_eq_true rfl) rfl rfl ?_
    refine t_X10_ask_L23 l g ad S hS x1  100000 (-1) 0 0 M517 H (fun y524 y525 M526 H => ?_)
    refine R_iload_n (i := 1) (dX10_ask_1 26 rfl) rfl rfl ?_
    refine R_if_ne (tgt := 169) (dX10_ask_1 27 rfl) (by decide) (fun hc => ?_) (fun hc => ?_)
    · have H := ite_F H hc
      refine R_iload_n (i := 3) (dX10_ask_1 30 rfl) rfl rfl ?_
      exact R_iret rfl rfl (Nat.zero_le _) (Nat.zero_le _) (dX10_ask_1 31 rfl) ⟨congrArg (fun z => some (Sum.inl z)) (Prod.mk.inj (Option.some.inj H)).1, rfl, (Prod.mk.inj (Option.some.inj H)).2⟩
    · have H := ite_T H hc
      refine R_iload_n (i := 2) (dX10_ask_1 28 rfl) rfl rfl ?_
      refine R_goto (tgt := 170) (dX10_ask_1 29 rfl) (by decide) ?_
      exact R_iret rfl rfl (Nat.zero_le _) (Nat.zero_le _) (dX10_ask_1 31 rfl) ⟨congrArg (fun z => some (Sum.inl z)) (Prod.mk.inj (Option.some.inj H)).1, rfl, (Prod.mk.inj (Option.some.inj H)).2⟩
  · have H := ite_T H hc
    refine R_bipush (dX10_ask_0 5 rfl) rfl rfl ?_
    exact R_iret rfl rfl (Nat.zero_le _) (Nat.zero_le _) (dX10_ask_0 6 rfl) ⟨congrArg (fun z => some (Sum.inl z)) (Prod.mk.inj (Option.some.inj H)).1, rfl, (Prod.mk.inj (Option.some.inj H)).2⟩
