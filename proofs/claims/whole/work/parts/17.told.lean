def f_X10_would (x1 : Int) (x2 : Int) (x3 : Int) (x4 : Int) (M : Mem) : Option (Int × Mem) :=
  if M 38 6 = 12 then
    some ((-3), M)
  else
    if f_X10_isFact x1 x2 x3 x4 M = 0 then
      some ((-2), M)
    else
      ob (f_X10_lays x1 x2 x3 x4 M) fun r527 M528 =>
      ob (f_X10_finds (mset M528 38 6 (w32 ((M528 38 6) + 1)))) fun r529 M530 =>
      some ((mset M530 38 6 (w32 ((M530 38 6) - 1))) 38 40, (mset M530 38 6 (w32 ((M530 38 6) - 1))))
set_option maxHeartbeats 4000000 in
theorem t_X10_would (l : Launch) (g : GG) (ad : Nat → Nat) (S : SW) (M : Mem) (hS : q_ag 38 63 ad S) (x1 : Int) (x2 : Int) (x3 : Int) (x4 : Int) {r : Int} {M' : Mem} (H : f_X10_would x1 x2 x3 x4 M = some (r, M')) : CT l g MX10_would 6 0 0 S M [.inr (.inr (some (ad 38))), .inl x1, .inl x2, .inl x3, .inl x4] (q_ex S (some (.inl r)) M') := by
  unfold f_X10_would at H
  refine CT_of (ls0 := [some (.inr (.inr (some (ad 38)))), some (.inl x1), some (.inl x2), some (.inl x3), some (.inl x4)]) (by decide +kernel) (Nat.le_of_ble_eq_true rfl) rfl ?_
  refine R_aload_n (i := 0) (dX10_would 0 rfl) rfl rfl ?_
  refine R_getI cgX10 38 (cl38 hS) 6 (Nat.le_of_ble_eq_true rfl) rfl (Or.inl tb_1133) (dX10_would 1 rfl) ?_
  refine R_bipush (dX10_would 2 rfl) rfl rfl ?_
  refine R_icmp_ne (tgt := 12) (dX10_would 3 rfl) (by decide) (fun hc => ?_) (fun hc => ?_)
  · have H := ite_F H hc
    refine R_aload_n (i := 0) (dX10_would 6 rfl) rfl rfl ?_
    refine R_iload_n (i := 1) (dX10_would 7 rfl) rfl rfl ?_
    refine R_iload_n (i := 2) (dX10_would 8 rfl) rfl rfl ?_
    refine R_iload_n (i := 3) (dX10_would 9 rfl) rfl rfl ?_
    refine R_iload (i := 4) (dX10_would 10 rfl) rfl ?_
    refine R_cV (st' := [.inl (f_X10_isFact x1 x2 x3 x4 M)]) [.inl x1, .inl x2, .inl x3, .inl x4] [] (t_X10_isFact l g ad S _ hS   x1 x2 x3 x4) msX10_isFact (Or.inl tb_1342) (Or.inl ⟨38, 10, _, _, _, (cl38 hS), rfl⟩) ⟨Nat.le_of_ble_eq_true rfl, Nat.le_of_ble_eq_true rfl⟩ (Nat.zero_le _) (Nat.zero_le _) rfl rfl (Nat.le_of_ble_eq_true rfl) rfl (dX10_would 11 rfl) ?_
    refine R_if_ne (tgt := 27) (dX10_would 12 rfl) (by decide) (fun hc => ?_) (fun hc => ?_)
    · have H := ite_F H hc
      refine R_aload_n (i := 0) (dX10_would 15 rfl) rfl rfl ?_
      refine R_iload_n (i := 1) (dX10_would 16 rfl) rfl rfl ?_
      refine R_iload_n (i := 2) (dX10_would 17 rfl) rfl rfl ?_
      refine R_iload_n (i := 3) (dX10_would 18 rfl) rfl rfl ?_
      refine R_iload (i := 4) (dX10_would 19 rfl) rfl ?_
      obtain ⟨r527, M528, hr, H⟩ := ob_E H
      refine R_cV (st' := []) [.inl x1, .inl x2, .inl x3, .inl x4] [] (t_X10_lays l g ad S _ hS   x1 x2 x3 x4 hr) msX10_lays (Or.inl tb_1346) (Or.inl ⟨38, 10, _, _, _, (cl38 hS), rfl⟩) ⟨Nat.le_of_ble_eq_true rfl, Nat.le_of_ble_eq_true rfl⟩ (Nat.zero_le _) (Nat.zero_le _) rfl rfl (Nat.le_of_ble_eq_true rfl) rfl (dX10_would 20 rfl) ?_
      refine R_aload_n (i := 0) (dX10_would 21 rfl) rfl rfl ?_
      refine R_dup rfl (dX10_would 22 rfl) ?_
      refine R_getI cgX10 38 (cl38 hS) 6 (Nat.le_of_ble_eq_true rfl) rfl (Or.inl tb_1133) (dX10_would 23 rfl) ?_
      refine R_iconst (dX10_would 24 rfl) rfl ?_
      refine R_iadd (dX10_would 25 rfl) ?_
      refine R_putI cgX10 38 (cl38 hS) 6 (Nat.le_of_ble_eq_true rfl) rfl rfl rfl rfl (Or.inl tb_1133) (dX10_would 26 rfl) ?_
      refine R_aload_n (i := 0) (dX10_would 27 rfl) rfl rfl ?_
      obtain ⟨r529, M530, hr, H⟩ := ob_E H
      refine R_cV (st' := []) [] [] (t_X10_finds l g ad S _ hS   hr) msX10_finds (Or.inl tb_1362) (Or.inl ⟨38, 10, _, _, _, (cl38 hS), rfl⟩) ⟨Nat.le_of_ble_eq_true rfl, Nat.le_of_ble_eq_true rfl⟩ (Nat.zero_le _) (Nat.zero_le _) rfl rfl (Nat.le_of_ble_eq_true rfl) rfl (dX10_would 28 rfl) ?_
      refine R_aload_n (i := 0) (dX10_would 29 rfl) rfl rfl ?_
      refine R_dup rfl (dX10_would 30 rfl) ?_
      refine R_getI cgX10 38 (cl38 hS) 6 (Nat.le_of_ble_eq_true rfl) rfl (Or.inl tb_1133) (dX10_would 31 rfl) ?_
      refine R_iconst (dX10_would 32 rfl) rfl ?_
      refine R_isub (dX10_would 33 rfl) ?_
      refine R_putI cgX10 38 (cl38 hS) 6 (Nat.le_of_ble_eq_true rfl) rfl rfl rfl rfl (Or.inl tb_1133) (dX10_would 34 rfl) ?_
      refine R_aload_n (i := 0) (dX10_would 35 rfl) rfl rfl ?_
      refine R_getI cgX10 38 (cl38 hS) 40 (Nat.le_of_ble_eq_true rfl) rfl (Or.inl tb_1167) (dX10_would 36 rfl) ?_
      exact R_iret rfl rfl (Nat.zero_le _) (Nat.zero_le _) (dX10_would 37 rfl) ⟨congrArg (fun z => some (Sum.inl z)) (Prod.mk.inj (Option.some.inj H)).1, rfl, (Prod.mk.inj (Option.some.inj H)).2⟩
    · have H := ite_T H hc
      refine R_bipush (dX10_would 13 rfl) rfl rfl ?_
      exact R_iret rfl rfl (Nat.zero_le _) (Nat.zero_le _) (dX10_would 14 rfl) ⟨congrArg (fun z => some (Sum.inl z)) (Prod.mk.inj (Option.some.inj H)).1, rfl, (Prod.mk.inj (Option.some.inj H)).2⟩
  · have H := ite_T H hc
    refine R_bipush (dX10_would 4 rfl) rfl rfl ?_
    exact R_iret rfl rfl (Nat.zero_le _) (Nat.zero_le _) (dX10_would 5 rfl) ⟨congrArg (fun z => some (Sum.inl z)) (Prod.mk.inj (Option.some.inj H)).1, rfl, (Prod.mk.inj (Option.some.inj H)).2⟩
def f_X10_fitWithout_L4 (x1 : Int) (M : Mem) : Nat → Int → Int → Option Int
  | 0, _, _ => none
  | n + 1, x2, x3 =>
    if x3 < 720 then
      if 0 ≤ x3 ∧ x3 < 720 then
        if M 56 (x3).toNat < 0 then
          f_X10_fitWithout_L4 x1 M n (w32 (x2 + 0)) (w32 (x3 + 1))
        else
          if 0 ≤ x3 ∧ x3 < 720 then
            if b_and (M 56 (x3).toNat) (b_xor (b_shl 1 x1) (-1)) = 0 then
              f_X10_fitWithout_L4 x1 M n (w32 (x2 + 1)) (w32 (x3 + 1))
            else
              f_X10_fitWithout_L4 x1 M n (w32 (x2 + 0)) (w32 (x3 + 1))
          else none
      else none
    else
      some x2
set_option maxHeartbeats 4000000 in
theorem t_X10_fitWithout_L4 (l : Launch) (g : GG) (ad : Nat → Nat) (S : SW) (M : Mem) (hS : q_ag 38 63 ad S) (x1 : Int) {r : Int} : ∀ (n : Nat) (x2 : Int) (x3 : Int), f_X10_fitWithout_L4 x1 M n x2 x3 = some r → RW l g MX10_fitWithout (q_rm 1 0 0) 0 0 (q_ex S (some (.inl r)) M) 4 S M 0 0 [some (.inr (.inr (some (ad 38)))), some (.inl x1), some (.inl x2), some (.inl x3)] [] := by
  intro n
  induction n with
  | zero => intro x2 x3 H; exact absurd H (by simp [f_X10_fitWithout_L4])
  | succ n ih =>
    intro x2 x3 H
    rw [f_X10_fitWithout_L4] at H
    refine R_iload_n (i := 3) (dX10_fitWithout 4 rfl) rfl rfl ?_
    refine R_sipush (dX10_fitWithout 5 rfl) rfl rfl ?_
    refine R_icmp_ge (tgt := 49) (dX10_fitWithout 6 rfl) (by decide) (fun hc => ?_) (fun hc => ?_)
    · have H := ite_F H hc
      refine R_iload_n (i := 2) (dX10_fitWithout 31 rfl) rfl rfl ?_
      exact R_iret rfl rfl (Nat.zero_le _) (Nat.zero_le _) (dX10_fitWithout 32 rfl) ⟨congrArg (fun z => some (Sum.inl z)) (Option.some.inj H), rfl, rfl⟩
    · have H := ite_T H hc
      refine R_iload_n (i := 2) (dX10_fitWithout 7 rfl) rfl rfl ?_
      refine R_aload_n (i := 0) (dX10_fitWithout 8 rfl) rfl rfl ?_
      refine R_getR cgX10 38 (cl38 hS) 37 (Nat.le_of_ble_eq_true rfl) rfl (Or.inl tb_1164) (dX10_fitWithout 9 rfl) ?_
      refine R_iload_n (i := 3) (dX10_fitWithout 10 rfl) rfl rfl ?_
      obtain ⟨hg, H⟩ := ite_G H
      refine R_iald 56 (cl56 hS) hg (dX10_fitWithout 11 rfl) ?_
      refine R_if_lt (tgt := 40) (dX10_fitWithout 12 rfl) (by decide) (fun hc => ?_) (fun hc => ?_)
      · have H := ite_T H hc
        refine R_iconst (dX10_fitWithout 26 rfl) rfl ?_
        refine R_iadd (dX10_fitWithout 27 rfl) ?_
        refine R_istore_n (i := 2) (ls' := [some (.inr (.inr (some (ad 38)))), some (.inl x1), some (.inl (w32 (x2 + 0))), some (.inl x3)]) (dX10_fitWithout 28 rfl) rfl (Nat.le_of_ble_eq_true rfl) (Nat.le_of_ble_eq_true rfl) rfl rfl ?_
        refine R_iinc (i := 3) (ls' := [some (.inr (.inr (some (ad 38)))), some (.inl x1), some (.inl (w32 (x2 + 0))), some (.inl (w32 (x3 + 1)))]) (dX10_fitWithout 29 rfl) rfl (Nat.le_of_ble_eq_true rfl) rfl rfl ?_
        refine R_goto (tgt := 4) (dX10_fitWithout 30 rfl) (by decide) ?_
        exact ih (w32 (x2 + 0)) (w32 (x3 + 1)) H
      · have H := ite_F H hc
        refine R_aload_n (i := 0) (dX10_fitWithout 13 rfl) rfl rfl ?_
        refine R_getR cgX10 38 (cl38 hS) 37 (Nat.le_of_ble_eq_true rfl) rfl (Or.inl tb_1164) (dX10_fitWithout 14 rfl) ?_
        refine R_iload_n (i := 3) (dX10_fitWithout 15 rfl) rfl rfl ?_
        obtain ⟨hg, H⟩ := ite_G H
        refine R_iald 56 (cl56 hS) hg (dX10_fitWithout 16 rfl) ?_
        refine R_iconst (dX10_fitWithout 17 rfl) rfl ?_
        refine R_iload_n (i := 1) (dX10_fitWithout 18 rfl) rfl rfl ?_
        refine R_ishl (dX10_fitWithout 19 rfl) ?_
        refine R_iconst (dX10_fitWithout 20 rfl) rfl ?_
        refine R_ixor (dX10_fitWithout 21 rfl) ?_
        refine R_iand (dX10_fitWithout 22 rfl) ?_
        refine R_if_ne (tgt := 40) (dX10_fitWithout 23 rfl) (by decide) (fun hc => ?_) (fun hc => ?_)
        · have H := ite_F H hc
          refine R_iconst (dX10_fitWithout 26 rfl) rfl ?_
          refine R_iadd (dX10_fitWithout 27 rfl) ?_
          refine R_istore_n (i := 2) (ls' := [some (.inr (.inr (some (ad 38)))), some (.inl x1), some (.inl (w32 (x2 + 0))), some (.inl x3)]) (dX10_fitWithout 28 rfl) rfl (Nat.le_of_ble_eq_true rfl) (Nat.le_of_ble_eq_true rfl) rfl rfl ?_
          refine R_iinc (i := 3) (ls' := [some (.inr (.inr (some (ad 38)))), some (.inl x1), some (.inl (w32 (x2 + 0))), some (.inl (w32 (x3 + 1)))]) (dX10_fitWithout 29 rfl) rfl (Nat.le_of_ble_eq_true rfl) rfl rfl ?_
          refine R_goto (tgt := 4) (dX10_fitWithout 30 rfl) (by decide) ?_
          exact ih (w32 (x2 + 0)) (w32 (x3 + 1)) H
        · have H := ite_T H hc
          refine R_iconst (dX10_fitWithout 24 rfl) rfl ?_
          refine R_goto (tgt := 41) (dX10_fitWithout 25 rfl) (by decide) ?_
          refine R_iadd (dX10_fitWithout 27 rfl) ?_
          refine R_istore_n (i := 2) (ls' := [some (.inr (.inr (some (ad 38)))), some (.inl x1), some (.inl (w32 (x2 + 1))), some (.inl x3)]) (dX10_fitWithout 28 rfl) rfl (Nat.le_of_ble_eq_true rfl) (Nat.le_of_ble_eq_true rfl) rfl rfl ?_
          refine R_iinc (i := 3) (ls' := [some (.inr (.inr (some (ad 38)))), some (.inl x1), some (.inl (w32 (x2 + 1))), some (.inl (w32 (x3 + 1)))]) (dX10_fitWithout 29 rfl) rfl (Nat.le_of_ble_eq_true rfl) rfl rfl ?_
          refine R_goto (tgt := 4) (dX10_fitWithout 30 rfl) (by decide) ?_
          exact ih (w32 (x2 + 1)) (w32 (x3 + 1)) H
def f_X10_fitWithout (x1 : Int) (M : Mem) : Option Int :=
  f_X10_fitWithout_L4
    x1 M 100000 0 0
set_option maxHeartbeats 4000000 in
theorem t_X10_fitWithout (l : Launch) (g : GG) (ad : Nat → Nat) (S : SW) (M : Mem) (hS : q_ag 38 63 ad S) (x1 : Int) {r : Int} (H : f_X10_fitWithout x1 M = some r) : CT l g MX10_fitWithout 1 0 0 S M [.inr (.inr (some (ad 38))), .inl x1] (q_ex S (some (.inl r)) M) := by
  unfold f_X10_fitWithout at H
  refine CT_of (ls0 := [some (.inr (.inr (some (ad 38)))), some (.inl x1), none, none]) (by decide +kernel) (Nat.le_of_ble_eq_true rfl) rfl ?_
  refine R_iconst (dX10_fitWithout 0 rfl) rfl ?_
  refine R_istore_n (i := 2) (ls' := [some (.inr (.inr (some (ad 38)))), some (.inl x1), some (.inl 0), none]) (dX10_fitWithout 1 rfl) rfl (Nat.le_of_ble_eq_true rfl) (Nat.le_of_ble_eq_true rfl) rfl rfl ?_
  refine R_iconst (dX10_fitWithout 2 rfl) rfl ?_
  refine R_istore_n (i := 3) (ls' := [some (.inr (.inr (some (ad 38)))), some (.inl x1), some (.inl 0), some (.inl 0)]) (dX10_fitWithout 3 rfl) rfl (Nat.le_of_ble_eq_true rfl) (Nat.le_of_ble_eq_true rfl) rfl rfl ?_
  exact t_X10_fitWithout_L4 l g ad S M hS x1  100000 0 0 H 
def f_X10_clash_L8 : Nat → Int → Int → Mem → Option (Int × Mem)
  | 0, _, _, _ => none
  | n + 1, x1, x2, M =>
    if x2 < M 38 6 then
      if M 38 40 = 0 then
        (f_X10_fitWithout x2 M).bind fun r533 =>
        if 0 < r533 then
          f_X10_clash_L8 n (b_or x1 (b_shl 1 x2)) (w32 (x2 + 1)) M
        else
          f_X10_clash_L8 n (b_or x1 0) (w32 (x2 + 1)) M
      else
        some (x1, M)
    else
      some (x1, M)
set_option maxHeartbeats 4000000 in
theorem t_X10_clash_L8 (l : Launch) (g : GG) (ad : Nat → Nat) (S : SW) (hS : q_ag 38 63 ad S) {r : Int} {M' : Mem} : ∀ (n : Nat) (x1 : Int) (x2 : Int) (M : Mem), f_X10_clash_L8 n x1 x2 M = some (r, M') → RW l g MX10_clash (q_rm 6 0 0) 0 0 (q_ex S (some (.inl r)) M') 8 S M 0 0 [some (.inr (.inr (some (ad 38)))), some (.inl x1), some (.inl x2)] [] := by
  intro n
  induction n with
  | zero => intro x1 x2 M H; exact absurd H (by simp [f_X10_clash_L8])
  | succ n ih =>
    intro x1 x2 M H
    rw [f_X10_clash_L8] at H
    refine R_iload_n (i := 2) (dX10_clash 6 rfl) rfl rfl ?_
    refine R_aload_n (i := 0) (dX10_clash 7 rfl) rfl rfl ?_
    refine R_getI cgX10 38 (cl38 hS) 6 (Nat.le_of_ble_eq_true rfl) rfl (Or.inl tb_1133) (dX10_clash 8 rfl) ?_
    refine R_icmp_ge (tgt := 47) (dX10_clash 9 rfl) (by decide) (fun hc => ?_) (fun hc => ?_)
    · have H := ite_F H hc
      refine R_iload_n (i := 1) (dX10_clash 27 rfl) rfl rfl ?_
      exact R_iret rfl rfl (Nat.zero_le _) (Nat.zero_le _) (dX10_clash 28 rfl) ⟨congrArg (fun z => some (Sum.inl z)) (Prod.mk.inj (Option.some.inj H)).1, rfl, (Prod.mk.inj (Option.some.inj H)).2⟩
    · have H := ite_T H hc
      refine R_aload_n (i := 0) (dX10_clash 10 rfl) rfl rfl ?_
      refine R_getI cgX10 38 (cl38 hS) 40 (Nat.le_of_ble_eq_true rfl) rfl (Or.inl tb_1167) (dX10_clash 11 rfl) ?_
      refine R_if_ne (tgt := 47) (dX10_clash 12 rfl) (by decide) (fun hc => ?_) (fun hc => ?_)
      · have H := ite_F H hc
        refine R_iload_n (i := 1) (dX10_clash 27 rfl) rfl rfl ?_
        exact R_iret rfl rfl (Nat.zero_le _) (Nat.zero_le _) (dX10_clash 28 rfl) ⟨congrArg (fun z => some (Sum.inl z)) (Prod.mk.inj (Option.some.inj H)).1, rfl, (Prod.mk.inj (Option.some.inj H)).2⟩
      · have H := ite_T H hc
        refine R_iload_n (i := 1) (dX10_clash 13 rfl) rfl rfl ?_
        refine R_aload_n (i := 0) (dX10_clash 14 rfl) rfl rfl ?_
        refine R_iload_n (i := 2) (dX10_clash 15 rfl) rfl rfl ?_
        obtain ⟨r533, hr, H⟩ := op_E H
        refine R_cV (st' := [.inl r533, .inl x1]) [.inl x2] [.inl x1] (t_X10_fitWithout l g ad S _ hS   x2 hr) msX10_fitWithout (Or.inl tb_1505) (Or.inl ⟨38, 10, _, _, _, (cl38 hS), rfl⟩) ⟨Nat.le_of_ble_eq_true rfl, Nat.le_of_ble_eq_true rfl⟩ (Nat.zero_le _) (Nat.zero_le _) rfl rfl (Nat.le_of_ble_eq_true rfl) rfl (dX10_clash 16 rfl) ?_
        refine R_if_le (tgt := 38) (dX10_clash 17 rfl) (by decide) (fun hc => ?_) (fun hc => ?_)
        · have H := ite_F H hc
          refine R_iconst (dX10_clash 22 rfl) rfl ?_
          refine R_ior (dX10_clash 23 rfl) ?_
          refine R_istore_n (i := 1) (ls' := [some (.inr (.inr (some (ad 38)))), some (.inl (b_or x1 0)), some (.inl x2)]) (dX10_clash 24 rfl) rfl (Nat.le_of_ble_eq_true rfl) (Nat.le_of_ble_eq_true rfl) rfl rfl ?_
          refine R_iinc (i := 2) (ls' := [some (.inr (.inr (some (ad 38)))), some (.inl (b_or x1 0)), some (.inl (w32 (x2 + 1)))]) (dX10_clash 25 rfl) rfl (Nat.le_of_ble_eq_true rfl) rfl rfl ?_
          refine R_goto (tgt := 8) (dX10_clash 26 rfl) (by decide) ?_
          exact ih (b_or x1 0) (w32 (x2 + 1)) M H
        · have H := ite_T H hc
          refine R_iconst (dX10_clash 18 rfl) rfl ?_
          refine R_iload_n (i := 2) (dX10_clash 19 rfl) rfl rfl ?_
          refine R_ishl (dX10_clash 20 rfl) ?_
          refine R_goto (tgt := 39) (dX10_clash 21 rfl) (by decide) ?_
          refine R_ior (dX10_clash 23 rfl) ?_
          refine R_istore_n (i := 1) (ls' := [some (.inr (.inr (some (ad 38)))), some (.inl (b_or x1 (b_shl 1 x2))), some (.inl x2)]) (dX10_clash 24 rfl) rfl (Nat.le_of_ble_eq_true rfl) (Nat.le_of_ble_eq_true rfl) rfl rfl ?_
          refine R_iinc (i := 2) (ls' := [some (.inr (.inr (some (ad 38)))), some (.inl (b_or x1 (b_shl 1 x2))), some (.inl (w32 (x2 + 1)))]) (dX10_clash 25 rfl) rfl (Nat.le_of_ble_eq_true rfl) rfl rfl ?_
          refine R_goto (tgt := 8) (dX10_clash 26 rfl) (by decide) ?_
          exact ih (b_or x1 (b_shl 1 x2)) (w32 (x2 + 1)) M H
def f_X10_clash (M : Mem) : Option (Int × Mem) :=
  ob (f_X10_finds M) fun r531 M532 =>
  f_X10_clash_L8
    100000 0 0 M532
set_option maxHeartbeats 4000000 in
theorem t_X10_clash (l : Launch) (g : GG) (ad : Nat → Nat) (S : SW) (M : Mem) (hS : q_ag 38 63 ad S) {r : Int} {M' : Mem} (H : f_X10_clash M = some (r, M')) : CT l g MX10_clash 6 0 0 S M [.inr (.inr (some (ad 38)))] (q_ex S (some (.inl r)) M') := by
  unfold f_X10_clash at H
  refine CT_of (ls0 := [some (.inr (.inr (some (ad 38)))), none, none]) (by decide +kernel) (Nat.le_of_ble_eq_true rfl) rfl ?_
  refine R_aload_n (i := 0) (dX10_clash 0 rfl) rfl rfl ?_
  obtain ⟨r531, M532, hr, H⟩ := ob_E H
  refine R_cV (st' := []) [] [] (t_X10_finds l g ad S _ hS   hr) msX10_finds (Or.inl tb_1362) (Or.inl ⟨38, 10, _, _, _, (cl38 hS), rfl⟩) ⟨Nat.le_of_ble_eq_true rfl, Nat.le_of_ble_eq_true rfl⟩ (Nat.zero_le _) (Nat.zero_le _) rfl rfl (Nat.le_of_ble_eq_true rfl) rfl (dX10_clash 1 rfl) ?_
  refine R_iconst (dX10_clash 2 rfl) rfl ?_
  refine R_istore_n (i := 1) (ls' := [some (.inr (.inr (some (ad 38)))), some (.inl 0), none]) (dX10_clash 3 rfl) rfl (Nat.le_of_ble_eq_true rfl) (Nat.le_of_ble_eq_true rfl) rfl rfl ?_
  refine R_iconst (dX10_clash 4 rfl) rfl ?_
  refine R_istore_n (i := 2) (ls' := [some (.inr (.inr (some (ad 38)))), some (.inl 0), some (.inl 0)]) (dX10_clash 5 rfl) rfl (Nat.le_of_ble_eq_true rfl) (Nat.le_of_ble_eq_true rfl) rfl rfl ?_
  exact t_X10_clash_L8 l g ad S hS  100000 0 0 M532 H 
def f_X10_idle_L8 : Nat → Int → Int → Mem → Option (Int × Mem)
  | 0, _, _, _ => none
  | n + 1, x1, x2, M =>
    if x2 < M 38 6 then
      (f_X10_fitWithout x2 M).bind fun r536 =>
      if r536 = M 38 40 then
        f_X10_idle_L8 n (b_or x1 (b_shl 1 x2)) (w32 (x2 + 1)) M
      else
        f_X10_idle_L8 n (b_or x1 0) (w32 (x2 + 1)) M
    else
      some (x1, M)
set_option maxHeartbeats 4000000 in
theorem t_X10_idle_L8 (l : Launch) (g : GG) (ad : Nat → Nat) (S : SW) (hS : q_ag 38 63 ad S) {r : Int} {M' : Mem} : ∀ (n : Nat) (x1 : Int) (x2 : Int) (M : Mem), f_X10_idle_L8 n x1 x2 M = some (r, M') → RW l g MX10_idle (q_rm 6 0 0) 0 0 (q_ex S (some (.inl r)) M') 8 S M 0 0 [some (.inr (.inr (some (ad 38)))), some (.inl x1), some (.inl x2)] [] := by
  intro n
  induction n with
  | zero => intro x1 x2 M H; exact absurd H (by simp [f_X10_idle_L8])
  | succ n ih =>
    intro x1 x2 M H
    rw [f_X10_idle_L8] at H
    refine R_iload_n (i := 2) (dX10_idle 6 rfl) rfl rfl ?_
    refine R_aload_n (i := 0) (dX10_idle 7 rfl) rfl rfl ?_
    refine R_getI cgX10 38 (cl38 hS) 6 (Nat.le_of_ble_eq_true rfl) rfl (Or.inl tb_1133) (dX10_idle 8 rfl) ?_
    refine R_icmp_ge (tgt := 44) (dX10_idle 9 rfl) (by decide) (fun hc => ?_) (fun hc => ?_)
    · have H := ite_F H hc
      refine R_iload_n (i := 1) (dX10_idle 26 rfl) rfl rfl ?_
      exact R_iret rfl rfl (Nat.zero_le _) (Nat.zero_le _) (dX10_idle 27 rfl) ⟨congrArg (fun z => some (Sum.inl z)) (Prod.mk.inj (Option.some.inj H)).1, rfl, (Prod.mk.inj (Option.some.inj H)).2⟩
    · have H := ite_T H hc
      refine R_iload_n (i := 1) (dX10_idle 10 rfl) rfl rfl ?_
      refine R_aload_n (i := 0) (dX10_idle 11 rfl) rfl rfl ?_
      refine R_iload_n (i := 2) (dX10_idle 12 rfl) rfl rfl ?_
      obtain ⟨r536, hr, H⟩ := op_E H
      refine R_cV (st' := [.inl r536, .inl x1]) [.inl x2] [.inl x1] (t_X10_fitWithout l g ad S _ hS   x2 hr) msX10_fitWithout (Or.inl tb_1505) (Or.inl ⟨38, 10, _, _, _, (cl38 hS), rfl⟩) ⟨Nat.le_of_ble_eq_true rfl, Nat.le_of_ble_eq_true rfl⟩ (Nat.zero_le _) (Nat.zero_le _) rfl rfl (Nat.le_of_ble_eq_true rfl) rfl (dX10_idle 13 rfl) ?_
      refine R_aload_n (i := 0) (dX10_idle 14 rfl) rfl rfl ?_
      refine R_getI cgX10 38 (cl38 hS) 40 (Nat.le_of_ble_eq_true rfl) rfl (Or.inl tb_1167) (dX10_idle 15 rfl) ?_
      refine R_icmp_ne (tgt := 35) (dX10_idle 16 rfl) (by decide) (fun hc => ?_) (fun hc => ?_)
      · have H := ite_F H hc
        refine R_iconst (dX10_idle 21 rfl) rfl ?_
        refine R_ior (dX10_idle 22 rfl) ?_
        refine R_istore_n (i := 1) (ls' := [some (.inr (.inr (some (ad 38)))), some (.inl (b_or x1 0)), some (.inl x2)]) (dX10_idle 23 rfl) rfl (Nat.le_of_ble_eq_true rfl) (Nat.le_of_ble_eq_true rfl) rfl rfl ?_
        refine R_iinc (i := 2) (ls' := [some (.inr (.inr (some (ad 38)))), some (.inl (b_or x1 0)), some (.inl (w32 (x2 + 1)))]) (dX10_idle 24 rfl) rfl (Nat.le_of_ble_eq_true rfl) rfl rfl ?_
        refine R_goto (tgt := 8) (dX10_idle 25 rfl) (by decide) ?_
        exact ih (b_or x1 0) (w32 (x2 + 1)) M H
      · have H := ite_T H hc
        refine R_iconst (dX10_idle 17 rfl) rfl ?_
        refine R_iload_n (i := 2) (dX10_idle 18 rfl) rfl rfl ?_
        refine R_ishl (dX10_idle 19 rfl) ?_
        refine R_goto (tgt := 36) (dX10_idle 20 rfl) (by decide) ?_
        refine R_ior (dX10_idle 22 rfl) ?_
        refine R_istore_n (i := 1) (ls' := [some (.inr (.inr (some (ad 38)))), some (.inl (b_or x1 (b_shl 1 x2))), some (.inl x2)]) (dX10_idle 23 rfl) rfl (Nat.le_of_ble_eq_true rfl) (Nat.le_of_ble_eq_true rfl) rfl rfl ?_
        refine R_iinc (i := 2) (ls' := [some (.inr (.inr (some (ad 38)))), some (.inl (b_or x1 (b_shl 1 x2))), some (.inl (w32 (x2 + 1)))]) (dX10_idle 24 rfl) rfl (Nat.le_of_ble_eq_true rfl) rfl rfl ?_
        refine R_goto (tgt := 8) (dX10_idle 25 rfl) (by decide) ?_
        exact ih (b_or x1 (b_shl 1 x2)) (w32 (x2 + 1)) M H
def f_X10_idle (M : Mem) : Option (Int × Mem) :=
  ob (f_X10_finds M) fun r534 M535 =>
  f_X10_idle_L8
    100000 0 0 M535
set_option maxHeartbeats 4000000 in
theorem t_X10_idle (l : Launch) (g : GG) (ad : Nat → Nat) (S : SW) (M : Mem) (hS : q_ag 38 63 ad S) {r : Int} {M' : Mem} (H : f_X10_idle M = some (r, M')) : CT l g MX10_idle 6 0 0 S M [.inr (.inr (some (ad 38)))] (q_ex S (some (.inl r)) M') := by
  unfold f_X10_idle at H
  refine CT_of (ls0 := [some (.inr (.inr (some (ad 38)))), none, none]) (by decide +kernel) (Nat.le_of_ble_eq_true rfl) rfl ?_
  refine R_aload_n (i := 0) (dX10_idle 0 rfl) rfl rfl ?_
  obtain ⟨r534, M535, hr, H⟩ := ob_E H
  refine R_cV (st' := []) [] [] (t_X10_finds l g ad S _ hS   hr) msX10_finds (Or.inl tb_1362) (Or.inl ⟨38, 10, _, _, _, (cl38 hS), rfl⟩) ⟨Nat.le_of_ble_eq_true rfl, Nat.le_of_ble_eq_true rfl⟩ (Nat.zero_le _) (Nat.zero_le _) rfl rfl (Nat.le_of_ble_eq_true rfl) rfl (dX10_idle 1 rfl) ?_
  refine R_iconst (dX10_idle 2 rfl) rfl ?_
  refine R_istore_n (i := 1) (ls' := [some (.inr (.inr (some (ad 38)))), some (.inl 0), none]) (dX10_idle 3 rfl) rfl (Nat.le_of_ble_eq_true rfl) (Nat.le_of_ble_eq_true rfl) rfl rfl ?_
  refine R_iconst (dX10_idle 4 rfl) rfl ?_
  refine R_istore_n (i := 2) (ls' := [some (.inr (.inr (some (ad 38)))), some (.inl 0), some (.inl 0)]) (dX10_idle 5 rfl) rfl (Nat.le_of_ble_eq_true rfl) (Nat.le_of_ble_eq_true rfl) rfl rfl ?_
  exact t_X10_idle_L8 l g ad S hS  100000 0 0 M535 H 
def f_X10_bill_L64 (K106 : Int → Option Int) (x1 : Int) (x2 : Int) (x3 : Int) (x4 : Int) (x5 : Int) (x6 : Int) (x7 : Int) (M : Mem) : Nat → Int → Int → Option Int
  | 0, _, _ => none
  | n + 1, x8, x9 =>
    if x9 < M 38 0 then
      if b_and (b_shr x7 x9) 1 = 1 then
        if 0 ≤ x9 ∧ x9 < 10 then
          f_X10_bill_L64 K106 x1 x2 x3 x4 x5 x6 x7 M n (w32 (x8 + (M 40 (x9).toNat))) (w32 (x9 + 1))
        else none
      else
        f_X10_bill_L64 K106 x1 x2 x3 x4 x5 x6 x7 M n (w32 (x8 + 0)) (w32 (x9 + 1))
    else
      K106 x8
set_option maxHeartbeats 4000000 in
theorem t_X10_bill_L64 (l : Launch) (g : GG) (ad : Nat → Nat) (S : SW) (M : Mem) (hS : q_ag 38 63 ad S) (x1 : Int) (x2 : Int) (x3 : Int) (x4 : Int) (x5 : Int) (x6 : Int) (x7 : Int) {K106 : Int → Option Int} {r : Int} : ∀ (n : Nat) (x8 : Int) (x9 : Int), f_X10_bill_L64 K106 x1 x2 x3 x4 x5 x6 x7 M n x8 x9 = some r → (∀ (z8 : Int), K106 z8 = some r → RW l g MX10_bill (q_rm 2 0 0) 0 0 (q_ex S (some (.inl r)) M) 106 S M 0 0 [some (.inr (.inr (some (ad 38)))), some (.inl x1), some (.inl x2), some (.inl x3), some (.inl x4), some (.inl x5), some (.inl x6), some (.inl x7), some (.inl z8), none] []) → RW l g MX10_bill (q_rm 2 0 0) 0 0 (q_ex S (some (.inl r)) M) 64 S M 0 0 [some (.inr (.inr (some (ad 38)))), some (.inl x1), some (.inl x2), some (.inl x3), some (.inl x4), some (.inl x5), some (.inl x6), some (.inl x7), some (.inl x8), some (.inl x9)] [] := by
  intro n
  induction n with
  | zero => intro x8 x9 H; exact absurd H (by simp [f_X10_bill_L64])
  | succ n ih =>
    intro x8 x9 H hK106
    rw [f_X10_bill_L64] at H
    refine R_iload (i := 9) (dX10_bill_0 35 rfl) rfl ?_
    refine R_aload_n (i := 0) (dX10_bill_0 36 rfl) rfl rfl ?_
    refine R_getI cgX10 38 (cl38 hS) 0 (Nat.le_of_ble_eq_true rfl) rfl (Or.inl tb_1127) (dX10_bill_0 37 rfl) ?_
    refine R_icmp_ge (tgt := 106) (dX10_bill_0 38 rfl) (by decide) (fun hc => ?_) (fun hc => ?_)
    · have H := ite_F H hc
      refine R_mask [true, true, true, true, true, true, true, true, true, false] rfl ?_
      exact hK106 x8 H
    · have H := ite_T H hc
      refine R_iload (i := 8) (dX10_bill_0 39 rfl) rfl ?_
      refine R_iload (i := 7) (dX10_bill_0 40 rfl) rfl ?_
      refine R_iload (i := 9) (dX10_bill_0 41 rfl) rfl ?_
      refine R_ishr (dX10_bill_0 42 rfl) ?_
      refine R_iconst (dX10_bill_0 43 rfl) rfl ?_
      refine R_iand (dX10_bill_0 44 rfl) ?_
      refine R_iconst (dX10_bill_0 45 rfl) rfl ?_
      refine R_icmp_ne (tgt := 96) (dX10_bill_0 46 rfl) (by decide) (fun hc => ?_) (fun hc => ?_)
      · have H := ite_F H hc
        refine R_iconst (dX10_bill_0 52 rfl) rfl ?_
        refine R_iadd (dX10_bill_0 53 rfl) ?_
        refine R_istore (i := 8) (ls' := [some (.inr (.inr (some (ad 38)))), some (.inl x1), some (.inl x2), some (.inl x3), some (.inl x4), some (.inl x5), some (.inl x6), some (.inl x7), some (.inl (w32 (x8 + 0))), some (.inl x9)]) (dX10_bill_0 54 rfl) (Nat.le_of_ble_eq_true rfl) (Nat.le_of_ble_eq_true rfl) rfl rfl ?_
        refine R_iinc (i := 9) (ls' := [some (.inr (.inr (some (ad 38)))), some (.inl x1), some (.inl x2), some (.inl x3), some (.inl x4), some (.inl x5), some (.inl x6), some (.inl x7), some (.inl (w32 (x8 + 0))), some (.inl (w32 (x9 + 1)))]) (dX10_bill_0 55 rfl) rfl (Nat.le_of_ble_eq_true rfl) rfl rfl ?_
        refine R_goto (tgt := 64) (dX10_bill_0 56 rfl) (by decide) ?_
        exact ih (w32 (x8 + 0)) (w32 (x9 + 1)) H hK106
      · have H := ite_T H hc
        refine R_aload_n (i := 0) (dX10_bill_0 47 rfl) rfl rfl ?_
        refine R_getR cgX10 38 (cl38 hS) 2 (Nat.le_of_ble_eq_true rfl) rfl (Or.inl tb_1129) (dX10_bill_0 48 rfl) ?_
        refine R_iload (i := 9) (dX10_bill_0 49 rfl) rfl ?_
        obtain ⟨hg, H⟩ := ite_G H
        refine R_iald 40 (cl40 hS) hg (dX10_bill_0 50 rfl) ?_
        refine R_goto (tgt := 97) (dX10_bill_0 51 rfl) (by decide) ?_
        refine R_iadd (dX10_bill_0 53 rfl) ?_
        refine R_istore (i := 8) (ls' := [some (.inr (.inr (some (ad 38)))), some (.inl x1), some (.inl x2), some (.inl x3), some (.inl x4), some (.inl x5), some (.inl x6), some (.inl x7), some (.inl (w32 (x8 + (M 40 (x9).toNat)))), some (.inl x9)]) (dX10_bill_0 54 rfl) (Nat.le_of_ble_eq_true rfl) (Nat.le_of_ble_eq_true rfl) rfl rfl ?_
        refine R_iinc (i := 9) (ls' := [some (.inr (.inr (some (ad 38)))), some (.inl x1), some (.inl x2), some (.inl x3), some (.inl x4), some (.inl x5), some (.inl x6), some (.inl x7), some (.inl (w32 (x8 + (M 40 (x9).toNat)))), some (.inl (w32 (x9 + 1)))]) (dX10_bill_0 55 rfl) rfl (Nat.le_of_ble_eq_true rfl) rfl rfl ?_
        refine R_goto (tgt := 64) (dX10_bill_0 56 rfl) (by decide) ?_
        exact ih (w32 (x8 + (M 40 (x9).toNat))) (w32 (x9 + 1)) H hK106
def f_X10_bill_L47 (K144 : Int → Int → Int → Option Int) (x1 : Int) (x2 : Int) (x3 : Int) (M : Mem) : Nat → Int → Int → Int → Int → Option Int
  | 0, _, _, _, _ => none
  | n + 1, x4, x5, x6, x7 =>
    if x7 < b_shl 1 (M 38 0) then
      f_X10_bill_L64
        (fun y537 =>
          (f_X10_ones x7).bind fun r538 =>
          if r538 = x1 then
            if y537 = x2 then
              f_X10_bill_L47 K144 x1 x2 x3 M n (w32 (x4 + 1)) (b_and x5 x7) (b_or x6 x7) (w32 (x7 + 1))
            else
              f_X10_bill_L47 K144 x1 x2 x3 M n x4 x5 x6 (w32 (x7 + 1))
          else
            f_X10_bill_L47 K144 x1 x2 x3 M n x4 x5 x6 (w32 (x7 + 1))
        )
        x1 x2 x3 x4 x5 x6 x7 M 100000 0 0
    else
      K144 x4 x5 x6
set_option maxHeartbeats 4000000 in
theorem t_X10_bill_L47 (l : Launch) (g : GG) (ad : Nat → Nat) (S : SW) (M : Mem) (hS : q_ag 38 63 ad S) (x1 : Int) (x2 : Int) (x3 : Int) {K144 : Int → Int → Int → Option Int} {r : Int} : ∀ (n : Nat) (x4 : Int) (x5 : Int) (x6 : Int) (x7 : Int), f_X10_bill_L47 K144 x1 x2 x3 M n x4 x5 x6 x7 = some r → (∀ (z4 : Int) (z5 : Int) (z6 : Int), K144 z4 z5 z6 = some r → RW l g MX10_bill (q_rm 2 0 0) 0 0 (q_ex S (some (.inl r)) M) 144 S M 0 0 [none, none, none, some (.inl x3), some (.inl z4), some (.inl z5), some (.inl z6), none, none, none] []) → RW l g MX10_bill (q_rm 2 0 0) 0 0 (q_ex S (some (.inl r)) M) 47 S M 0 0 [some (.inr (.inr (some (ad 38)))), some (.inl x1), some (.inl x2), some (.inl x3), some (.inl x4), some (.inl x5), some (.inl x6), some (.inl x7), none, none] [] := by
  intro n
  induction n with
  | zero => intro x4 x5 x6 x7 H; exact absurd H (by simp [f_X10_bill_L47])
  | succ n ih =>
    intro x4 x5 x6 x7 H hK144
    rw [f_X10_bill_L47] at H
    refine R_iload (i := 7) (dX10_bill_0 25 rfl) rfl ?_
    refine R_iconst (dX10_bill_0 26 rfl) rfl ?_
    refine R_aload_n (i := 0) (dX10_bill_0 27 rfl) rfl rfl ?_
    refine R_getI cgX10 38 (cl38 hS) 0 (Nat.le_of_ble_eq_true rfl) rfl (Or.inl tb_1127) (dX10_bill_0 28 rfl) ?_
    refine R_ishl (dX10_bill_0 29 rfl) ?_
    refine R_icmp_ge (tgt := 144) (dX10_bill_0 30 rfl) (by decide) (fun hc => ?_) (fun hc => ?_)
    · have H := ite_F H hc
      refine R_mask [false, false, false, true, true, true, true, false, false, false] rfl ?_
      exact hK144 x4 x5 x6 H
    · have H := ite_T H hc
      refine R_iconst (dX10_bill_0 31 rfl) rfl ?_
      refine R_istore (i := 8) (ls' := [some (.inr (.inr (some (ad 38)))), some (.inl x1), some (.inl x2), some (.inl x3), some (.inl x4), some (.inl x5), some (.inl x6), some (.inl x7), some (.inl 0), none]) (dX10_bill_0 32 rfl) (Nat.le_of_ble_eq_true rfl) (Nat.le_of_ble_eq_true rfl) rfl rfl ?_
      refine R_iconst (dX10_bill_0 33 rfl) rfl ?_
      refine R_istore (i := 9) (ls' := [some (.inr (.inr (some (ad 38)))), some (.inl x1), some (.inl x2), some (.inl x3), some (.inl x4), some (.inl x5), some (.inl x6), some (.inl x7), some (.inl 0), some (.inl 0)]) (dX10_bill_0 34 rfl) (Nat.le_of_ble_eq_true rfl) (Nat.le_of_ble_eq_true rfl) rfl rfl ?_
      refine t_X10_bill_L64 l g ad S M hS x1 x2 x3 x4 x5 x6 x7  100000 0 0 H (fun y537 H => ?_)
      refine R_iload (i := 7) (dX10_bill_0 57 rfl) rfl ?_
      obtain ⟨r538, hr, H⟩ := op_E H
      refine R_cS (st' := [.inl r538]) [.inl x7] [] (t_X10_ones l g S _   x7 hr) msX10_ones (Or.inl tb_1273) ⟨Nat.le_of_ble_eq_true rfl, Nat.le_of_ble_eq_true rfl⟩ (Nat.zero_le _) (Nat.zero_le _) rfl rfl (Nat.le_of_ble_eq_true rfl) rfl (dX10_bill_0 58 rfl) ?_
      refine R_iload_n (i := 1) (dX10_bill_0 59 rfl) rfl rfl ?_
      refine R_icmp_ne (tgt := 138) (dX10_bill_1 0 rfl) (by decide) (fun hc => ?_) (fun hc => ?_)
      · have H := ite_F H hc
        refine R_iinc (i := 7) (ls' := [some (.inr (.inr (some (ad 38)))), some (.inl x1), some (.inl x2), some (.inl x3), some (.inl x4), some (.inl x5), some (.inl x6), some (.inl (w32 (x7 + 1))), some (.inl y537), none]) (dX10_bill_1 13 rfl) rfl (Nat.le_of_ble_eq_true rfl) rfl rfl ?_
        refine R_goto (tgt := 47) (dX10_bill_1 14 rfl) (by decide) ?_
        refine R_mask [true, true, true, true, true, true, true, true, false, false] rfl ?_
        exact ih x4 x5 x6 (w32 (x7 + 1)) H hK144
      · have H := ite_T H hc
        refine R_iload (i := 8) (dX10_bill_1 1 rfl) rfl ?_
        refine R_iload_n (i := 2) (dX10_bill_1 2 rfl) rfl rfl ?_
        refine R_icmp_ne (tgt := 138) (dX10_bill_1 3 rfl) (by decide) (fun hc => ?_) (fun hc => ?_)
        · have H := ite_F H hc
          refine R_iinc (i := 7) (ls' := [some (.inr (.inr (some (ad 38)))), some (.inl x1), some (.inl x2), some (.inl x3), some (.inl x4), some (.inl x5), some (.inl x6), some (.inl (w32 (x7 + 1))), some (.inl y537), none]) (dX10_bill_1 13 rfl) rfl (Nat.le_of_ble_eq_true rfl) rfl rfl ?_
          refine R_goto (tgt := 47) (dX10_bill_1 14 rfl) (by decide) ?_
          refine R_mask [true, true, true, true, true, true, true, true, false, false] rfl ?_
          exact ih x4 x5 x6 (w32 (x7 + 1)) H hK144
        · have H := ite_T H hc
          refine R_iinc (i := 4) (ls' := [some (.inr (.inr (some (ad 38)))), some (.inl x1), some (.inl x2), some (.inl x3), some (.inl (w32 (x4 + 1))), some (.inl x5), some (.inl x6), some (.inl x7), some (.inl y537), none]) (dX10_bill_1 4 rfl) rfl (Nat.le_of_ble_eq_true rfl) rfl rfl ?_
          refine R_iload (i := 5) (dX10_bill_1 5 rfl) rfl ?_
          refine R_iload (i := 7) (dX10_bill_1 6 rfl) rfl ?_
          refine R_iand (dX10_bill_1 7 rfl) ?_
          refine R_istore (i := 5) (ls' := [some (.inr (.inr (some (ad 38)))), some (.inl x1), some (.inl x2), some (.inl x3), some (.inl (w32 (x4 + 1))), some (.inl (b_and x5 x7)), some (.inl x6), some (.inl x7), some (.inl y537), none]) (dX10_bill_1 8 rfl) (Nat.le_of_ble_eq_true rfl) (Nat.le_of_ble_eq_true rfl) rfl rfl ?_
          refine R_iload (i := 6) (dX10_bill_1 9 rfl) rfl ?_
          refine R_iload (i := 7) (dX10_bill_1 10 rfl) rfl ?_
          refine R_ior (dX10_bill_1 11 rfl) ?_
          refine R_istore (i := 6) (ls' := [some (.inr (.inr (some (ad 38)))), some (.inl x1), some (.inl x2), some (.inl x3), some (.inl (w32 (x4 + 1))), some (.inl (b_and x5 x7)), some (.inl (b_or x6 x7)), some (.inl x7), some (.inl y537), none]) (dX10_bill_1 12 rfl) (Nat.le_of_ble_eq_true rfl) (Nat.le_of_ble_eq_true rfl) rfl rfl ?_
          refine R_iinc (i := 7) (ls' := [some (.inr (.inr (some (ad 38)))), some (.inl x1), some (.inl x2), some (.inl x3), some (.inl (w32 (x4 + 1))), some (.inl (b_and x5 x7)), some (.inl (b_or x6 x7)), some (.inl (w32 (x7 + 1))), some (.inl y537), none]) (dX10_bill_1 13 rfl) rfl (Nat.le_of_ble_eq_true rfl) rfl rfl ?_
          refine R_goto (tgt := 47) (dX10_bill_1 14 rfl) (by decide) ?_
          refine R_mask [true, true, true, true, true, true, true, true, false, false] rfl ?_
          exact ih (w32 (x4 + 1)) (b_and x5 x7) (b_or x6 x7) (w32 (x7 + 1)) H hK144
def f_X10_bill (x1 : Int) (x2 : Int) (x3 : Int) (M : Mem) : Option Int :=
  if f_X10_in x1 0 10 = 0 then
    some (-2)
  else
    if f_X10_in x2 0 999 = 0 then
      some (-2)
    else
      if f_X10_in x3 0 2 = 0 then
        some (-2)
      else
        f_X10_bill_L47
          (fun y539 y540 y541 =>
            if x3 = 0 then
              some y539
            else
              if x3 = 2 then
                some y541
              else
                if y539 = 0 then
                  some 0
                else
                  some y540
          )
          x1 x2 x3 M 100000 0 1023 0 0
set_option maxHeartbeats 4000000 in
theorem t_X10_bill (l : Launch) (g : GG) (ad : Nat → Nat) (S : SW) (M : Mem) (hS : q_ag 38 63 ad S) (x1 : Int) (x2 : Int) (x3 : Int) {r : Int} (H : f_X10_bill x1 x2 x3 M = some r) : CT l g MX10_bill 2 0 0 S M [.inr (.inr (some (ad 38))), .inl x1, .inl x2, .inl x3] (q_ex S (some (.inl r)) M) := by
  unfold f_X10_bill at H
  refine CT_of (ls0 := [some (.inr (.inr (some (ad 38)))), some (.inl x1), some (.inl x2), some (.inl x3), none, none, none, none, none, none]) (by decide +kernel) (Nat.le_of_ble_eq_true rfl) rfl ?_
  refine R_iload_n (i := 1) (dX10_bill_0 0 rfl) rfl rfl ?_
  refine R_iconst (dX10_bill_0 1 rfl) rfl ?_
  refine R_bipush (dX10_bill_0 2 rfl) rfl rfl ?_
  refine R_cS (st' := [.inl (f_X10_in x1 0 10)]) [.inl x1, .inl 0, .inl 10] [] (t_X10_in l g S _   x1 0 10) msX10_in (Or.inl tb_1083) ⟨Nat.le_of_ble_eq_true rfl, Nat.le_of_ble_eq_true rfl⟩ (Nat.zero_le _) (Nat.zero_le _) rfl rfl (Nat.le_of_ble_eq_true rfl) rfl (dX10_bill_0 3 rfl) ?_
  refine R_if_eq (tgt := 30) (dX10_bill_0 4 rfl) (by decide) (fun hc => ?_) (fun hc => ?_)
  · have H := ite_T H hc
    refine R_bipush (dX10_bill_0 15 rfl) rfl rfl ?_
    exact R_iret rfl rfl (Nat.zero_le _) (Nat.zero_le _) (dX10_bill_0 16 rfl) ⟨congrArg (fun z => some (Sum.inl z)) (Option.some.inj H), rfl, rfl⟩
  · have H := ite_F H hc
    refine R_iload_n (i := 2) (dX10_bill_0 5 rfl) rfl rfl ?_
    refine R_iconst (dX10_bill_0 6 rfl) rfl ?_
    refine R_sipush (dX10_bill_0 7 rfl) rfl rfl ?_
    refine R_cS (st' := [.inl (f_X10_in x2 0 999)]) [.inl x2, .inl 0, .inl 999] [] (t_X10_in l g S _   x2 0 999) msX10_in (Or.inl tb_1083) ⟨Nat.le_of_ble_eq_true rfl, Nat.le_of_ble_eq_true rfl⟩ (Nat.zero_le _) (Nat.zero_le _) rfl rfl (Nat.le_of_ble_eq_true rfl) rfl (dX10_bill_0 8 rfl) ?_
    refine R_if_eq (tgt := 30) (dX10_bill_0 9 rfl) (by decide) (fun hc => ?_) (fun hc => ?_)
    · have H := ite_T H hc
      refine R_bipush (dX10_bill_0 15 rfl) rfl rfl ?_
      exact R_iret rfl rfl (Nat.zero_le _) (Nat.zero_le _) (dX10_bill_0 16 rfl) ⟨congrArg (fun z => some (Sum.inl z)) (Option.some.inj H), rfl, rfl⟩
    · have H := ite_F H hc
      refine R_iload_n (i := 3) (dX10_bill_0 10 rfl) rfl rfl ?_
      refine R_iconst (dX10_bill_0 11 rfl) rfl ?_
      refine R_iconst (dX10_bill_0 12 rfl) rfl ?_
      refine R_cS (st' := [.inl (f_X10_in x3 0 2)]) [.inl x3, .inl 0, .inl 2] [] (t_X10_in l g S _   x3 0 2) msX10_in (Or.inl tb_1083) ⟨Nat.le_of_ble_eq_true rfl, Nat.le_of_ble_eq_true rfl⟩ (Nat.zero_le _) (Nat.zero_le _) rfl rfl (Nat.le_of_ble_eq_true rfl) rfl (dX10_bill_0 13 rfl) ?_
      refine R_if_ne (tgt := 33) (dX10_bill_0 14 rfl) (by decide) (fun hc => ?_) (fun hc => ?_)
      · have H := ite_F H hc
        refine R_iconst (dX10_bill_0 17 rfl) rfl ?_
        refine R_istore (i := 4) (ls' := [some (.inr (.inr (some (ad 38)))), some (.inl x1), some (.inl x2), some (.inl x3), some (.inl 0), none, none, none, none, none]) (dX10_bill_0 18 rfl) (Nat.le_of_ble_eq_true rfl) (Nat.le_of_ble_eq_true rfl) rfl rfl ?_
        refine R_sipush (dX10_bill_0 19 rfl) rfl rfl ?_
        refine R_istore (i := 5) (ls' := [some (.inr (.inr (some (ad 38)))), some (.inl x1), some (.inl x2), some (.inl x3), some (.inl 0), some (.inl 1023), none, none, none, none]) (dX10_bill_0 20 rfl) (Nat.le_of_ble_eq_true rfl) (Nat.le_of_ble_eq_true rfl) rfl rfl ?_
        refine R_iconst (dX10_bill_0 21 rfl) rfl ?_
        refine R_istore (i := 6) (ls' := [some (.inr (.inr (some (ad 38)))), some (.inl x1), some (.inl x2), some (.inl x3), some (.inl 0), some (.inl 1023), some (.inl 0), none, none, none]) (dX10_bill_0 22 rfl) (Nat.le_of_ble_eq_true rfl) (Nat.le_of_ble_eq_true rfl) rfl rfl ?_
        refine R_iconst (dX10_bill_0 23 rfl) rfl ?_
        refine R_istore (i := 7) (ls' := [some (.inr (.inr (some (ad 38)))), some (.inl x1), some (.inl x2), some (.inl x3), some (.inl 0), some (.inl 1023), some (.inl 0), some (.inl 0), none, none]) (dX10_bill_0 24 rfl) (Nat.le_of_ble_eq_true rfl) (Nat.le_of_ble_eq_true rfl) rfl rfl ?_
        refine t_X10_bill_L47 l g ad S M hS x1 x2 x3  100000 0 1023 0 0 H (fun y539 y540 y541 H => ?_)
        refine R_iload_n (i := 3) (dX10_bill_1 15 rfl) rfl rfl ?_
        refine R_if_ne (tgt := 153) (dX10_bill_1 16 rfl) (by decide) (fun hc => ?_) (fun hc => ?_)
        · have H := ite_F H hc
          refine R_iload_n (i := 3) (dX10_bill_1 19 rfl) rfl rfl ?_
          refine R_iconst (dX10_bill_1 20 rfl) rfl ?_
          refine R_icmp_ne (tgt := 163) (dX10_bill_1 21 rfl) (by decide) (fun hc => ?_) (fun hc => ?_)
          · have H := ite_F H hc
            refine R_iload (i := 4) (dX10_bill_1 24 rfl) rfl ?_
            refine R_if_ne (tgt := 172) (dX10_bill_1 25 rfl) (by decide) (fun hc => ?_) (fun hc => ?_)
            · have H := ite_F H hc
              refine R_iload (i := 5) (dX10_bill_1 28 rfl) rfl ?_
              exact R_iret rfl rfl (Nat.zero_le _) (Nat.zero_le _) (dX10_bill_1 29 rfl) ⟨congrArg (fun z => some (Sum.inl z)) (Option.some.inj H), rfl, rfl⟩
            · have H := ite_T H hc
              refine R_iconst (dX10_bill_1 26 rfl) rfl ?_
              refine R_goto (tgt := 174) (dX10_bill_1 27 rfl) (by decide) ?_
              exact R_iret rfl rfl (Nat.zero_le _) (Nat.zero_le _) (dX10_bill_1 29 rfl) ⟨congrArg (fun z => some (Sum.inl z)) (Option.some.inj H), rfl, rfl⟩
          · have H := ite_T H hc
            refine R_iload (i := 6) (dX10_bill_1 22 rfl) rfl ?_
            refine R_goto (tgt := 174) (dX10_bill_1 23 rfl) (by decide) ?_
            exact R_iret rfl rfl (Nat.zero_le _) (Nat.zero_le _) (dX10_bill_1 29 rfl) ⟨congrArg (fun z => some (Sum.inl z)) (Option.some.inj H), rfl, rfl⟩
        · have H := ite_T H hc
          refine R_iload (i := 4) (dX10_bill_1 17 rfl) rfl ?_
          refine R_goto (tgt := 174) (dX10_bill_1 18 rfl) (by decide) ?_
          exact R_iret rfl rfl (Nat.zero_le _) (Nat.zero_le _) (dX10_bill_1 29 rfl) ⟨congrArg (fun z => some (Sum.inl z)) (Option.some.inj H), rfl, rfl⟩
      · have H := ite_T H hc
        refine R_bipush (dX10_bill_0 15 rfl) rfl rfl ?_
        exact R_iret rfl rfl (Nat.zero_le _) (Nat.zero_le _) (dX10_bill_0 16 rfl) ⟨congrArg (fun z => some (Sum.inl z)) (Option.some.inj H), rfl, rfl⟩
def f_X10_match_L63 (K117 : Int → Mem → Option (Int × Mem)) (x1 : Int) (x2 : Int) (x3 : Int) : Nat → Int → Int → Mem → Option (Int × Mem)
  | 0, _, _, _ => none
  | n + 1, x4, x5, M =>
    if x5 < M 38 0 then
      if x4 = 0 then
        f_X10_match_L63 K117 x1 x2 x3 n 0 (w32 (x5 + 1)) M
      else
        if 0 ≤ w32 ((w32 (40 * x1)) + x5) ∧ w32 ((w32 (40 * x1)) + x5) < 160 then
          if 0 ≤ x3 ∧ x3 < 720 then
            (f_X10_hasIn x5 (M 58 (x3).toNat) M).bind fun r544 =>
            if M 50 (w32 ((w32 (40 * x1)) + x5)).toNat = r544 then
              f_X10_match_L63 K117 x1 x2 x3 n 1 (w32 (x5 + 1)) M
            else
              f_X10_match_L63 K117 x1 x2 x3 n 0 (w32 (x5 + 1)) M
          else none
        else none
    else
      K117 x4 M
set_option maxHeartbeats 4000000 in
theorem t_X10_match_L63 (l : Launch) (g : GG) (ad : Nat → Nat) (S : SW) (hS : q_ag 38 63 ad S) (x1 : Int) (x2 : Int) (x3 : Int) {K117 : Int → Mem → Option (Int × Mem)} {r : Int} {M' : Mem} : ∀ (n : Nat) (x4 : Int) (x5 : Int) (M : Mem), f_X10_match_L63 K117 x1 x2 x3 n x4 x5 M = some (r, M') → (∀ (z4 : Int) (M1 : Mem), K117 z4 M1 = some (r, M') → RW l g MX10_match (q_rm 6 0 0) 0 0 (q_ex S (some (.inl r)) M') 117 S M1 0 0 [some (.inr (.inr (some (ad 38)))), some (.inl x1), some (.inl x2), some (.inl x3), some (.inl z4), none] []) → RW l g MX10_match (q_rm 6 0 0) 0 0 (q_ex S (some (.inl r)) M') 63 S M 0 0 [some (.inr (.inr (some (ad 38)))), some (.inl x1), some (.inl x2), some (.inl x3), some (.inl x4), some (.inl x5)] [] := by
  intro n
  induction n with
  | zero => intro x4 x5 M H; exact absurd H (by simp [f_X10_match_L63])
  | succ n ih =>
    intro x4 x5 M H hK117
    rw [f_X10_match_L63] at H
    refine R_iload (i := 5) (dX10_match_0 38 rfl) rfl ?_
    refine R_aload_n (i := 0) (dX10_match_0 39 rfl) rfl rfl ?_
    refine R_getI cgX10 38 (cl38 hS) 0 (Nat.le_of_ble_eq_true rfl) rfl (Or.inl tb_1127) (dX10_match_0 40 rfl) ?_
    refine R_icmp_ge (tgt := 117) (dX10_match_0 41 rfl) (by decide) (fun hc => ?_) (fun hc => ?_)
    · have H := ite_F H hc
      refine R_mask [true, true, true, true, true, false] rfl ?_
      exact hK117 x4 M H
    · have H := ite_T H hc
      refine R_iload (i := 4) (dX10_match_0 42 rfl) rfl ?_
      refine R_if_eq (tgt := 108) (dX10_match_0 43 rfl) (by decide) (fun hc => ?_) (fun hc => ?_)
      · have H := ite_T H hc
        refine R_iconst (dX10_match_1 2 rfl) rfl ?_
        refine R_istore (i := 4) (ls' := [some (.inr (.inr (some (ad 38)))), some (.inl x1), some (.inl x2), some (.inl x3), some (.inl 0), some (.inl x5)]) (dX10_match_1 3 rfl) (Nat.le_of_ble_eq_true rfl) (Nat.le_of_ble_eq_true rfl) rfl rfl ?_
        refine R_iinc (i := 5) (ls' := [some (.inr (.inr (some (ad 38)))), some (.inl x1), some (.inl x2), some (.inl x3), some (.inl 0), some (.inl (w32 (x5 + 1)))]) (dX10_match_1 4 rfl) rfl (Nat.le_of_ble_eq_true rfl) rfl rfl ?_
        refine R_goto (tgt := 63) (dX10_match_1 5 rfl) (by decide) ?_
        exact ih 0 (w32 (x5 + 1)) M H hK117
      · have H := ite_F H hc
        refine R_aload_n (i := 0) (dX10_match_0 44 rfl) rfl rfl ?_
        refine R_getR cgX10 38 (cl38 hS) 24 (Nat.le_of_ble_eq_true rfl) rfl (Or.inl tb_1151) (dX10_match_0 45 rfl) ?_
        refine R_bipush (dX10_match_0 46 rfl) rfl rfl ?_
        refine R_iload_n (i := 1) (dX10_match_0 47 rfl) rfl rfl ?_
        refine R_imul (dX10_match_0 48 rfl) ?_
        refine R_iload (i := 5) (dX10_match_0 49 rfl) rfl ?_
        refine R_iadd (dX10_match_0 50 rfl) ?_
        obtain ⟨hg, H⟩ := ite_G H
        refine R_iald 50 (cl50 hS) hg (dX10_match_0 51 rfl) ?_
        refine R_aload_n (i := 0) (dX10_match_0 52 rfl) rfl rfl ?_
        refine R_iload (i := 5) (dX10_match_0 53 rfl) rfl ?_
        refine R_aload_n (i := 0) (dX10_match_0 54 rfl) rfl rfl ?_
        refine R_getR cgX10 38 (cl38 hS) 39 (Nat.le_of_ble_eq_true rfl) rfl (Or.inl tb_1166) (dX10_match_0 55 rfl) ?_
        refine R_iload_n (i := 3) (dX10_match_0 56 rfl) rfl rfl ?_
        obtain ⟨hg, H⟩ := ite_G H
        refine R_iald 58 (cl58 hS) hg (dX10_match_0 57 rfl) ?_
        obtain ⟨r544, hr, H⟩ := op_E H
        refine R_cV (st' := [.inl r544, .inl (M 50 (w32 ((w32 (40 * x1)) + x5)).toNat)]) [.inl x5, .inl (M 58 (x3).toNat)] [.inl (M 50 (w32 ((w32 (40 * x1)) + x5)).toNat)] (t_X10_hasIn l g ad S _ hS   x5 (M 58 (x3).toNat) hr) msX10_hasIn (Or.inl tb_1374) (Or.inl ⟨38, 10, _, _, _, (cl38 hS), rfl⟩) ⟨Nat.le_of_ble_eq_true rfl, Nat.le_of_ble_eq_true rfl⟩ (Nat.zero_le _) (Nat.zero_le _) rfl rfl (Nat.le_of_ble_eq_true rfl) rfl (dX10_match_0 58 rfl) ?_
        refine R_icmp_ne (tgt := 108) (dX10_match_0 59 rfl) (by decide) (fun hc => ?_) (fun hc => ?_)
        · have H := ite_F H hc
          refine R_iconst (dX10_match_1 2 rfl) rfl ?_
          refine R_istore (i := 4) (ls' := [some (.inr (.inr (some (ad 38)))), some (.inl x1), some (.inl x2), some (.inl x3), some (.inl 0), some (.inl x5)]) (dX10_match_1 3 rfl) (Nat.le_of_ble_eq_true rfl) (Nat.le_of_ble_eq_true rfl) rfl rfl ?_
          refine R_iinc (i := 5) (ls' := [some (.inr (.inr (some (ad 38)))), some (.inl x1), some (.inl x2), some (.inl x3), some (.inl 0), some (.inl (w32 (x5 + 1)))]) (dX10_match_1 4 rfl) rfl (Nat.le_of_ble_eq_true rfl) rfl rfl ?_
          refine R_goto (tgt := 63) (dX10_match_1 5 rfl) (by decide) ?_
          exact ih 0 (w32 (x5 + 1)) M H hK117
        · have H := ite_T H hc
          refine R_iconst (dX10_match_1 0 rfl) rfl ?_
          refine R_goto (tgt := 109) (dX10_match_1 1 rfl) (by decide) ?_
          refine R_istore (i := 4) (ls' := [some (.inr (.inr (some (ad 38)))), some (.inl x1), some (.inl x2), some (.inl x3), some (.inl 1), some (.inl x5)]) (dX10_match_1 3 rfl) (Nat.le_of_ble_eq_true rfl) (Nat.le_of_ble_eq_true rfl) rfl rfl ?_
          refine R_iinc (i := 5) (ls' := [some (.inr (.inr (some (ad 38)))), some (.inl x1), some (.inl x2), some (.inl x3), some (.inl 1), some (.inl (w32 (x5 + 1)))]) (dX10_match_1 4 rfl) rfl (Nat.le_of_ble_eq_true rfl) rfl rfl ?_
          refine R_goto (tgt := 63) (dX10_match_1 5 rfl) (by decide) ?_
          exact ih 1 (w32 (x5 + 1)) M H hK117
def f_X10_match_L49 (x1 : Int) : Nat → Int → Int → Mem → Option (Int × Mem)
  | 0, _, _, _ => none
  | n + 1, x2, x3, M =>
    if x3 < M 38 40 then
      f_X10_match_L63
        (fun y545 M546 =>
          if y545 = 0 then
            f_X10_match_L49 x1 n (w32 (x2 + 0)) (w32 (x3 + 1)) M546
          else
            f_X10_match_L49 x1 n (w32 (x2 + 1)) (w32 (x3 + 1)) M546
        )
        x1 x2 x3 100000 1 0 M
    else
      some (x2, M)
set_option maxHeartbeats 4000000 in
theorem t_X10_match_L49 (l : Launch) (g : GG) (ad : Nat → Nat) (S : SW) (hS : q_ag 38 63 ad S) (x1 : Int) {r : Int} {M' : Mem} : ∀ (n : Nat) (x2 : Int) (x3 : Int) (M : Mem), f_X10_match_L49 x1 n x2 x3 M = some (r, M') → RW l g MX10_match (q_rm 6 0 0) 0 0 (q_ex S (some (.inl r)) M') 49 S M 0 0 [some (.inr (.inr (some (ad 38)))), some (.inl x1), some (.inl x2), some (.inl x3), none, none] [] := by
  intro n
  induction n with
  | zero => intro x2 x3 M H; exact absurd H (by simp [f_X10_match_L49])
  | succ n ih =>
    intro x2 x3 M H
    rw [f_X10_match_L49] at H
    refine R_iload_n (i := 3) (dX10_match_0 30 rfl) rfl rfl ?_
    refine R_aload_n (i := 0) (dX10_match_0 31 rfl) rfl rfl ?_
    refine R_getI cgX10 38 (cl38 hS) 40 (Nat.le_of_ble_eq_true rfl) rfl (Or.inl tb_1167) (dX10_match_0 32 rfl) ?_
    refine R_icmp_ge (tgt := 136) (dX10_match_0 33 rfl) (by decide) (fun hc => ?_) (fun hc => ?_)
    · have H := ite_F H hc
      refine R_iload_n (i := 2) (dX10_match_1 16 rfl) rfl rfl ?_
      exact R_iret rfl rfl (Nat.zero_le _) (Nat.zero_le _) (dX10_match_1 17 rfl) ⟨congrArg (fun z => some (Sum.inl z)) (Prod.mk.inj (Option.some.inj H)).1, rfl, (Prod.mk.inj (Option.some.inj H)).2⟩
    · have H := ite_T H hc
      refine R_iconst (dX10_match_0 34 rfl) rfl ?_
      refine R_istore (i := 4) (ls' := [some (.inr (.inr (some (ad 38)))), some (.inl x1), some (.inl x2), some (.inl x3), some (.inl 1), none]) (dX10_match_0 35 rfl) (Nat.le_of_ble_eq_true rfl) (Nat.le_of_ble_eq_true rfl) rfl rfl ?_
      refine R_iconst (dX10_match_0 36 rfl) rfl ?_
      refine R_istore (i := 5) (ls' := [some (.inr (.inr (some (ad 38)))), some (.inl x1), some (.inl x2), some (.inl x3), some (.inl 1), some (.inl 0)]) (dX10_match_0 37 rfl) (Nat.le_of_ble_eq_true rfl) (Nat.le_of_ble_eq_true rfl) rfl rfl ?_
      refine t_X10_match_L63 l g ad S hS x1 x2 x3  100000 1 0 M H (fun y545 M546 H => ?_)
      refine R_iload_n (i := 2) (dX10_match_1 6 rfl) rfl rfl ?_
      refine R_iload (i := 4) (dX10_match_1 7 rfl) rfl ?_
      refine R_if_eq (tgt := 127) (dX10_match_1 8 rfl) (by decide) (fun hc => ?_) (fun hc => ?_)
      · have H := ite_T H hc
        refine R_iconst (dX10_match_1 11 rfl) rfl ?_
        refine R_iadd (dX10_match_1 12 rfl) ?_
        refine R_istore_n (i := 2) (ls' := [some (.inr (.inr (some (ad 38)))), some (.inl x1), some (.inl (w32 (x2 + 0))), some (.inl x3), some (.inl y545), none]) (dX10_match_1 13 rfl) rfl (Nat.le_of_ble_eq_true rfl) (Nat.le_of_ble_eq_true rfl) rfl rfl ?_
        refine R_iinc (i := 3) (ls' := [some (.inr (.inr (some (ad 38)))), some (.inl x1), some (.inl (w32 (x2 + 0))), some (.inl (w32 (x3 + 1))), some (.inl y545), none]) (dX10_match_1 14 rfl) rfl (Nat.le_of_ble_eq_true rfl) rfl rfl ?_
        refine R_goto (tgt := 49) (dX10_match_1 15 rfl) (by decide) ?_
        refine R_mask [true, true, true, true, false, false] rfl ?_
        exact ih (w32 (x2 + 0)) (w32 (x3 + 1)) M546 H
      · have H := ite_F H hc
        refine R_iconst (dX10_match_1 9 rfl) rfl ?_
        refine R_goto (tgt := 128) (dX10_match_1 10 rfl) (by decide) ?_
        refine R_iadd (dX10_match_1 12 rfl) ?_
        refine R_istore_n (i := 2) (ls' := [some (.inr (.inr (some (ad 38)))), some (.inl x1), some (.inl (w32 (x2 + 1))), some (.inl x3), some (.inl y545), none]) (dX10_match_1 13 rfl) rfl (Nat.le_of_ble_eq_true rfl) (Nat.le_of_ble_eq_true rfl) rfl rfl ?_
        refine R_iinc (i := 3) (ls' := [some (.inr (.inr (some (ad 38)))), some (.inl x1), some (.inl (w32 (x2 + 1))), some (.inl (w32 (x3 + 1))), some (.inl y545), none]) (dX10_match_1 14 rfl) rfl (Nat.le_of_ble_eq_true rfl) rfl rfl ?_
        refine R_goto (tgt := 49) (dX10_match_1 15 rfl) (by decide) ?_
        refine R_mask [true, true, true, true, false, false] rfl ?_
        exact ih (w32 (x2 + 1)) (w32 (x3 + 1)) M546 H
def f_X10_match (x1 : Int) (M : Mem) : Option (Int × Mem) :=
  if f_X10_in x1 0 3 = 0 then
    some ((-2), M)
  else
    if 0 ≤ x1 ∧ x1 < 4 then
      if M 48 (x1).toNat = (-1) then
        some ((-11), M)
      else
        if 0 ≤ x1 ∧ x1 < 4 then
          if M 49 (x1).toNat = M 38 0 then
            ob (f_X10_finds M) fun r542 M543 =>
            f_X10_match_L49
              x1 100000 0 0 M543
          else
            some ((-2), M)
        else none
    else none
set_option maxHeartbeats 4000000 in
theorem t_X10_match (l : Launch) (g : GG) (ad : Nat → Nat) (S : SW) (M : Mem) (hS : q_ag 38 63 ad S) (x1 : Int) {r : Int} {M' : Mem} (H : f_X10_match x1 M = some (r, M')) : CT l g MX10_match 6 0 0 S M [.inr (.inr (some (ad 38))), .inl x1] (q_ex S (some (.inl r)) M') := by
  unfold f_X10_match at H
  refine CT_of (ls0 := [some (.inr (.inr (some (ad 38)))), some (.inl x1), none, none, none, none]) (by decide +kernel) (Nat.le_of_ble_eq_true rfl) rfl ?_
  refine R_iload_n (i := 1) (dX10_match_0 0 rfl) rfl rfl ?_
  refine R_iconst (dX10_match_0 1 rfl) rfl ?_
  refine R_iconst (dX10_match_0 2 rfl) rfl ?_
  refine R_cS (st' := [.inl (f_X10_in x1 0 3)]) [.inl x1, .inl 0, .inl 3] [] (t_X10_in l g S _   x1 0 3) msX10_in (Or.inl tb_1083) ⟨Nat.le_of_ble_eq_true rfl, Nat.le_of_ble_eq_true rfl⟩ (Nat.zero_le _) (Nat.zero_le _) rfl rfl (Nat.le_of_ble_eq_true rfl) rfl (dX10_match_0 3 rfl) ?_
  refine R_if_ne (tgt := 12) (dX10_match_0 4 rfl) (by decide) (fun hc => ?_) (fun hc => ?_)
  · have H := ite_F H hc
    refine R_aload_n (i := 0) (dX10_match_0 7 rfl) rfl rfl ?_
    refine R_getR cgX10 38 (cl38 hS) 22 (Nat.le_of_ble_eq_true rfl) rfl (Or.inl tb_1149) (dX10_match_0 8 rfl) ?_
    refine R_iload_n (i := 1) (dX10_match_0 9 rfl) rfl rfl ?_
    obtain ⟨hg, H⟩ := ite_G H
    refine R_iald 48 (cl48 hS) hg (dX10_match_0 10 rfl) ?_
    refine R_iconst (dX10_match_0 11 rfl) rfl ?_
    refine R_icmp_ne (tgt := 25) (dX10_match_0 12 rfl) (by decide) (fun hc => ?_) (fun hc => ?_)
    · have H := ite_F H hc
      refine R_aload_n (i := 0) (dX10_match_0 15 rfl) rfl rfl ?_
      refine R_getR cgX10 38 (cl38 hS) 23 (Nat.le_of_ble_eq_true rfl) rfl (Or.inl tb_1150) (dX10_match_0 16 rfl) ?_
      refine R_iload_n (i := 1) (dX10_match_0 17 rfl) rfl rfl ?_
      obtain ⟨hg, H⟩ := ite_G H
      refine R_iald 49 (cl49 hS) hg (dX10_match_0 18 rfl) ?_
      refine R_aload_n (i := 0) (dX10_match_0 19 rfl) rfl rfl ?_
      refine R_getI cgX10 38 (cl38 hS) 0 (Nat.le_of_ble_eq_true rfl) rfl (Or.inl tb_1127) (dX10_match_0 20 rfl) ?_
      refine R_icmp_eq (tgt := 41) (dX10_match_0 21 rfl) (by decide) (fun hc => ?_) (fun hc => ?_)
      · have H := ite_T H hc
        refine R_aload_n (i := 0) (dX10_match_0 24 rfl) rfl rfl ?_
        obtain ⟨r542, M543, hr, H⟩ := ob_E H
        refine R_cV (st' := []) [] [] (t_X10_finds l g ad S _ hS   hr) msX10_finds (Or.inl tb_1362) (Or.inl ⟨38, 10, _, _, _, (cl38 hS), rfl⟩) ⟨Nat.le_of_ble_eq_true rfl, Nat.le_of_ble_eq_true rfl⟩ (Nat.zero_le _) (Nat.zero_le _) rfl rfl (Nat.le_of_ble_eq_true rfl) rfl (dX10_match_0 25 rfl) ?_
        refine R_iconst (dX10_match_0 26 rfl) rfl ?_
        refine R_istore_n (i := 2) (ls' := [some (.inr (.inr (some (ad 38)))), some (.inl x1), some (.inl 0), none, none, none]) (dX10_match_0 27 rfl) rfl (Nat.le_of_ble_eq_true rfl) (Nat.le_of_ble_eq_true rfl) rfl rfl ?_
        refine R_iconst (dX10_match_0 28 rfl) rfl ?_
        refine R_istore_n (i := 3) (ls' := [some (.inr (.inr (some (ad 38)))), some (.inl x1), some (.inl 0), some (.inl 0), none, none]) (dX10_match_0 29 rfl) rfl (Nat.le_of_ble_eq_true rfl) (Nat.le_of_ble_eq_true rfl) rfl rfl ?_
        exact t_X10_match_L49 l g ad S hS x1  100000 0 0 M543 H 
      · have H := ite_F H hc
        refine R_bipush (dX10_match_0 22 rfl) rfl rfl ?_
        exact R_iret rfl rfl (Nat.zero_le _) (Nat.zero_le _) (dX10_match_0 23 rfl) ⟨congrArg (fun z => some (Sum.inl z)) (Prod.mk.inj (Option.some.inj H)).1, rfl, (Prod.mk.inj (Option.some.inj H)).2⟩
    · have H := ite_T H hc
      refine R_bipush (dX10_match_0 13 rfl) rfl rfl ?_
      exact R_iret rfl rfl (Nat.zero_le _) (Nat.zero_le _) (dX10_match_0 14 rfl) ⟨congrArg (fun z => some (Sum.inl z)) (Prod.mk.inj (Option.some.inj H)).1, rfl, (Prod.mk.inj (Option.some.inj H)).2⟩
  · have H := ite_T H hc
    refine R_bipush (dX10_match_0 5 rfl) rfl rfl ?_
    exact R_iret rfl rfl (Nat.zero_le _) (Nat.zero_le _) (dX10_match_0 6 rfl) ⟨congrArg (fun z => some (Sum.inl z)) (Prod.mk.inj (Option.some.inj H)).1, rfl, (Prod.mk.inj (Option.some.inj H)).2⟩
def f_X10_film_L45 (x1 : Int) : Nat → Int → Mem → Option (Int × Mem)
  | 0, _, _ => none
  | n + 1, x2, M =>
    if x2 < 40 then
      if x2 < M 38 0 then
        (f_X10_hasIn x2 (M 58 0) M).bind fun r549 =>
        if 0 ≤ w32 ((w32 (40 * x1)) + x2) ∧ w32 ((w32 (40 * x1)) + x2) < 160 then
          f_X10_film_L45 x1 n (w32 (x2 + 1)) (mset M 50 (w32 ((w32 (40 * x1)) + x2)).toNat r549)
        else none
      else
        if 0 ≤ w32 ((w32 (40 * x1)) + x2) ∧ w32 ((w32 (40 * x1)) + x2) < 160 then
          f_X10_film_L45 x1 n (w32 (x2 + 1)) (mset M 50 (w32 ((w32 (40 * x1)) + x2)).toNat 0)
        else none
    else
      some (M 38 0, M)
set_option maxHeartbeats 4000000 in
theorem t_X10_film_L45 (l : Launch) (g : GG) (ad : Nat → Nat) (S : SW) (hS : q_ag 38 63 ad S) (x1 : Int) {r : Int} {M' : Mem} : ∀ (n : Nat) (x2 : Int) (M : Mem), f_X10_film_L45 x1 n x2 M = some (r, M') → RW l g MX10_film (q_rm 6 0 0) 0 0 (q_ex S (some (.inl r)) M') 45 S M 0 0 [some (.inr (.inr (some (ad 38)))), some (.inl x1), some (.inl x2)] [] := by
  intro n
  induction n with
  | zero => intro x2 M H; exact absurd H (by simp [f_X10_film_L45])
  | succ n ih =>
    intro x2 M H
    rw [f_X10_film_L45] at H
    refine R_iload_n (i := 2) (dX10_film 27 rfl) rfl rfl ?_
    refine R_bipush (dX10_film 28 rfl) rfl rfl ?_
    refine R_icmp_ge (tgt := 91) (dX10_film 29 rfl) (by decide) (fun hc => ?_) (fun hc => ?_)
    · have H := ite_F H hc
      refine R_aload_n (i := 0) (dX10_film 53 rfl) rfl rfl ?_
      refine R_getI cgX10 38 (cl38 hS) 0 (Nat.le_of_ble_eq_true rfl) rfl (Or.inl tb_1127) (dX10_film 54 rfl) ?_
      exact R_iret rfl rfl (Nat.zero_le _) (Nat.zero_le _) (dX10_film 55 rfl) ⟨congrArg (fun z => some (Sum.inl z)) (Prod.mk.inj (Option.some.inj H)).1, rfl, (Prod.mk.inj (Option.some.inj H)).2⟩
    · have H := ite_T H hc
      refine R_aload_n (i := 0) (dX10_film 30 rfl) rfl rfl ?_
      refine R_getR cgX10 38 (cl38 hS) 24 (Nat.le_of_ble_eq_true rfl) rfl (Or.inl tb_1151) (dX10_film 31 rfl) ?_
      refine R_bipush (dX10_film 32 rfl) rfl rfl ?_
      refine R_iload_n (i := 1) (dX10_film 33 rfl) rfl rfl ?_
      refine R_imul (dX10_film 34 rfl) ?_
      refine R_iload_n (i := 2) (dX10_film 35 rfl) rfl rfl ?_
      refine R_iadd (dX10_film 36 rfl) ?_
      refine R_iload_n (i := 2) (dX10_film 37 rfl) rfl rfl ?_
      refine R_aload_n (i := 0) (dX10_film 38 rfl) rfl rfl ?_
      refine R_getI cgX10 38 (cl38 hS) 0 (Nat.le_of_ble_eq_true rfl) rfl (Or.inl tb_1127) (dX10_film 39 rfl) ?_
      refine R_icmp_ge (tgt := 83) (dX10_film 40 rfl) (by decide) (fun hc => ?_) (fun hc => ?_)
      · have H := ite_F H hc
        refine R_iconst (dX10_film 49 rfl) rfl ?_
        obtain ⟨hg, H⟩ := ite_G H
        refine R_iast 50 (cl50 hS) hg (dX10_film 50 rfl) ?_
        refine R_iinc (i := 2) (ls' := [some (.inr (.inr (some (ad 38)))), some (.inl x1), some (.inl (w32 (x2 + 1)))]) (dX10_film 51 rfl) rfl (Nat.le_of_ble_eq_true rfl) rfl rfl ?_
        refine R_goto (tgt := 45) (dX10_film 52 rfl) (by decide) ?_
        exact ih (w32 (x2 + 1)) (mset M 50 (w32 ((w32 (40 * x1)) + x2)).toNat 0) H
      · have H := ite_T H hc
        refine R_aload_n (i := 0) (dX10_film 41 rfl) rfl rfl ?_
        refine R_iload_n (i := 2) (dX10_film 42 rfl) rfl rfl ?_
        refine R_aload_n (i := 0) (dX10_film 43 rfl) rfl rfl ?_
        refine R_getR cgX10 38 (cl38 hS) 39 (Nat.le_of_ble_eq_true rfl) rfl (Or.inl tb_1166) (dX10_film 44 rfl) ?_
        refine R_iconst (dX10_film 45 rfl) rfl ?_
        refine R_iald 58 (cl58 hS) ⟨by decide, by decide⟩ (dX10_film 46 rfl) ?_
        obtain ⟨r549, hr, H⟩ := op_E H
        refine R_cV (st' := [.inl r549, .inl (w32 ((w32 (40 * x1)) + x2)), .inr (.inr (some (ad 50)))]) [.inl x2, .inl (M 58 0)] [.inl (w32 ((w32 (40 * x1)) + x2)), .inr (.inr (some (ad 50)))] (t_X10_hasIn l g ad S _ hS   x2 (M 58 0) hr) msX10_hasIn (Or.inl tb_1374) (Or.inl ⟨38, 10, _, _, _, (cl38 hS), rfl⟩) ⟨Nat.le_of_ble_eq_true rfl, Nat.le_of_ble_eq_true rfl⟩ (Nat.zero_le _) (Nat.zero_le _) rfl rfl (Nat.le_of_ble_eq_true rfl) rfl (dX10_film 47 rfl) ?_
        refine R_goto (tgt := 84) (dX10_film 48 rfl) (by decide) ?_
        obtain ⟨hg, H⟩ := ite_G H
        refine R_iast 50 (cl50 hS) hg (dX10_film 50 rfl) ?_
        refine R_iinc (i := 2) (ls' := [some (.inr (.inr (some (ad 38)))), some (.inl x1), some (.inl (w32 (x2 + 1)))]) (dX10_film 51 rfl) rfl (Nat.le_of_ble_eq_true rfl) rfl rfl ?_
        refine R_goto (tgt := 45) (dX10_film 52 rfl) (by decide) ?_
        exact ih (w32 (x2 + 1)) (mset M 50 (w32 ((w32 (40 * x1)) + x2)).toNat r549) H
def f_X10_film (x1 : Int) (M : Mem) : Option (Int × Mem) :=
  if f_X10_in x1 0 3 = 0 then
    some ((-2), M)
  else
    ob (f_X10_finds M) fun r547 M548 =>
    if M548 38 40 = 0 then
      some ((-3), M548)
    else
      if 0 ≤ x1 ∧ x1 < 4 then
        if 0 ≤ x1 ∧ x1 < 4 then
          f_X10_film_L45
            x1 100000 0 (mset (mset M548 48 (x1).toNat 2) 49 (x1).toNat ((mset M548 48 (x1).toNat 2) 38 0))
        else none
      else none
set_option maxHeartbeats 4000000 in
theorem t_X10_film (l : Launch) (g : GG) (ad : Nat → Nat) (S : SW) (M : Mem) (hS : q_ag 38 63 ad S) (x1 : Int) {r : Int} {M' : Mem} (H : f_X10_film x1 M = some (r, M')) : CT l g MX10_film 6 0 0 S M [.inr (.inr (some (ad 38))), .inl x1] (q_ex S (some (.inl r)) M') := by
  unfold f_X10_film at H
  refine CT_of (ls0 := [some (.inr (.inr (some (ad 38)))), some (.inl x1), none]) (by decide +kernel) (Nat.le_of_ble_eq_true rfl) rfl ?_
  refine R_iload_n (i := 1) (dX10_film 0 rfl) rfl rfl ?_
  refine R_iconst (dX10_film 1 rfl) rfl ?_
  refine R_iconst (dX10_film 2 rfl) rfl ?_
  refine R_cS (st' := [.inl (f_X10_in x1 0 3)]) [.inl x1, .inl 0, .inl 3] [] (t_X10_in l g S _   x1 0 3) msX10_in (Or.inl tb_1083) ⟨Nat.le_of_ble_eq_true rfl, Nat.le_of_ble_eq_true rfl⟩ (Nat.zero_le _) (Nat.zero_le _) rfl rfl (Nat.le_of_ble_eq_true rfl) rfl (dX10_film 3 rfl) ?_
  refine R_if_ne (tgt := 12) (dX10_film 4 rfl) (by decide) (fun hc => ?_) (fun hc => ?_)
  · have H := ite_F H hc
    refine R_aload_n (i := 0) (dX10_film 7 rfl) rfl rfl ?_
    obtain ⟨r547, M548, hr, H⟩ := ob_E H
    refine R_cV (st' := []) [] [] (t_X10_finds l g ad S _ hS   hr) msX10_finds (Or.inl tb_1362) (Or.inl ⟨38, 10, _, _, _, (cl38 hS), rfl⟩) ⟨Nat.le_of_ble_eq_true rfl, Nat.le_of_ble_eq_true rfl⟩ (Nat.zero_le _) (Nat.zero_le _) rfl rfl (Nat.le_of_ble_eq_true rfl) rfl (dX10_film 8 rfl) ?_
    refine R_aload_n (i := 0) (dX10_film 9 rfl) rfl rfl ?_
    refine R_getI cgX10 38 (cl38 hS) 40 (Nat.le_of_ble_eq_true rfl) rfl (Or.inl tb_1167) (dX10_film 10 rfl) ?_
    refine R_if_ne (tgt := 26) (dX10_film 11 rfl) (by decide) (fun hc => ?_) (fun hc => ?_)
    · have H := ite_F H hc
      refine R_aload_n (i := 0) (dX10_film 14 rfl) rfl rfl ?_
      refine R_getR cgX10 38 (cl38 hS) 22 (Nat.le_of_ble_eq_true rfl) rfl (Or.inl tb_1149) (dX10_film 15 rfl) ?_
      refine R_iload_n (i := 1) (dX10_film 16 rfl) rfl rfl ?_
      refine R_iconst (dX10_film 17 rfl) rfl ?_
      obtain ⟨hg, H⟩ := ite_G H
      refine R_iast 48 (cl48 hS) hg (dX10_film 18 rfl) ?_
      refine R_aload_n (i := 0) (dX10_film 19 rfl) rfl rfl ?_
      refine R_getR cgX10 38 (cl38 hS) 23 (Nat.le_of_ble_eq_true rfl) rfl (Or.inl tb_1150) (dX10_film 20 rfl) ?_
      refine R_iload_n (i := 1) (dX10_film 21 rfl) rfl rfl ?_
      refine R_aload_n (i := 0) (dX10_film 22 rfl) rfl rfl ?_
      refine R_getI cgX10 38 (cl38 hS) 0 (Nat.le_of_ble_eq_true rfl) rfl (Or.inl tb_1127) (dX10_film 23 rfl) ?_
      obtain ⟨hg, H⟩ := ite_G H
      refine R_iast 49 (cl49 hS) hg (dX10_film 24 rfl) ?_
      refine R_iconst (dX10_film 25 rfl) rfl ?_
      refine R_istore_n (i := 2) (ls' := [some (.inr (.inr (some (ad 38)))), some (.inl x1), some (.inl 0)]) (dX10_film 26 rfl) rfl (Nat.le_of_ble_eq_true rfl) (Nat.le_of_ble_eq_true rfl) rfl rfl ?_
      exact t_X10_film_L45 l g ad S hS x1  100000 0 (mset (mset M548 48 (x1).toNat 2) 49 (x1).toNat ((mset M548 48 (x1).toNat 2) 38 0)) H 
    · have H := ite_T H hc
      refine R_bipush (dX10_film 12 rfl) rfl rfl ?_
      exact R_iret rfl rfl (Nat.zero_le _) (Nat.zero_le _) (dX10_film 13 rfl) ⟨congrArg (fun z => some (Sum.inl z)) (Prod.mk.inj (Option.some.inj H)).1, rfl, (Prod.mk.inj (Option.some.inj H)).2⟩
  · have H := ite_T H hc
    refine R_bipush (dX10_film 5 rfl) rfl rfl ?_
    exact R_iret rfl rfl (Nat.zero_le _) (Nat.zero_le _) (dX10_film 6 rfl) ⟨congrArg (fun z => some (Sum.inl z)) (Prod.mk.inj (Option.some.inj H)).1, rfl, (Prod.mk.inj (Option.some.inj H)).2⟩
def f_X10_laws_L9 (x1 : Int) : Nat → Int → Int → Mem → Option (Int × Mem)
  | 0, _, _, _ => none
  | n + 1, x2, x3, M =>
    if x3 < M 38 13 then
      ob (f_X10_finds (mset M 38 14 x3)) fun r550 M551 =>
      if 0 < M551 38 40 then
        f_X10_laws_L9 x1 n (b_or x2 (b_shl 1 x3)) (w32 (x3 + 1)) M551
      else
        f_X10_laws_L9 x1 n (b_or x2 0) (w32 (x3 + 1)) M551
    else
      some (x2, (mset M 38 14 x1))
set_option maxHeartbeats 4000000 in
theorem t_X10_laws_L9 (l : Launch) (g : GG) (ad : Nat → Nat) (S : SW) (hS : q_ag 38 63 ad S) (x1 : Int) {r : Int} {M' : Mem} : ∀ (n : Nat) (x2 : Int) (x3 : Int) (M : Mem), f_X10_laws_L9 x1 n x2 x3 M = some (r, M') → RW l g MX10_laws (q_rm 6 0 0) 0 0 (q_ex S (some (.inl r)) M') 9 S M 0 0 [some (.inr (.inr (some (ad 38)))), some (.inl x1), some (.inl x2), some (.inl x3)] [] := by
  intro n
  induction n with
  | zero => intro x2 x3 M H; exact absurd H (by simp [f_X10_laws_L9])
  | succ n ih =>
    intro x2 x3 M H
    rw [f_X10_laws_L9] at H
    refine R_iload_n (i := 3) (dX10_laws 7 rfl) rfl rfl ?_
    refine R_aload_n (i := 0) (dX10_laws 8 rfl) rfl rfl ?_
    refine R_getI cgX10 38 (cl38 hS) 13 (Nat.le_of_ble_eq_true rfl) rfl (Or.inl tb_1140) (dX10_laws 9 rfl) ?_
    refine R_icmp_ge (tgt := 49) (dX10_laws 10 rfl) (by decide) (fun hc => ?_) (fun hc => ?_)
    · have H := ite_F H hc
      refine R_aload_n (i := 0) (dX10_laws 29 rfl) rfl rfl ?_
      refine R_iload_n (i := 1) (dX10_laws 30 rfl) rfl rfl ?_
      refine R_putI cgX10 38 (cl38 hS) 14 (Nat.le_of_ble_eq_true rfl) rfl rfl rfl rfl (Or.inl tb_1141) (dX10_laws 31 rfl) ?_
      refine R_iload_n (i := 2) (dX10_laws 32 rfl) rfl rfl ?_
      exact R_iret rfl rfl (Nat.zero_le _) (Nat.zero_le _) (dX10_laws 33 rfl) ⟨congrArg (fun z => some (Sum.inl z)) (Prod.mk.inj (Option.some.inj H)).1, rfl, (Prod.mk.inj (Option.some.inj H)).2⟩
    · have H := ite_T H hc
      refine R_aload_n (i := 0) (dX10_laws 11 rfl) rfl rfl ?_
      refine R_iload_n (i := 3) (dX10_laws 12 rfl) rfl rfl ?_
      refine R_putI cgX10 38 (cl38 hS) 14 (Nat.le_of_ble_eq_true rfl) rfl rfl rfl rfl (Or.inl tb_1141) (dX10_laws 13 rfl) ?_
      refine R_aload_n (i := 0) (dX10_laws 14 rfl) rfl rfl ?_
      obtain ⟨r550, M551, hr, H⟩ := ob_E H
      refine R_cV (st' := []) [] [] (t_X10_finds l g ad S _ hS   hr) msX10_finds (Or.inl tb_1362) (Or.inl ⟨38, 10, _, _, _, (cl38 hS), rfl⟩) ⟨Nat.le_of_ble_eq_true rfl, Nat.le_of_ble_eq_true rfl⟩ (Nat.zero_le _) (Nat.zero_le _) rfl rfl (Nat.le_of_ble_eq_true rfl) rfl (dX10_laws 15 rfl) ?_
      refine R_iload_n (i := 2) (dX10_laws 16 rfl) rfl rfl ?_
      refine R_aload_n (i := 0) (dX10_laws 17 rfl) rfl rfl ?_
      refine R_getI cgX10 38 (cl38 hS) 40 (Nat.le_of_ble_eq_true rfl) rfl (Or.inl tb_1167) (dX10_laws 18 rfl) ?_
      refine R_if_le (tgt := 40) (dX10_laws 19 rfl) (by decide) (fun hc => ?_) (fun hc => ?_)
      · have H := ite_F H hc
        refine R_iconst (dX10_laws 24 rfl) rfl ?_
        refine R_ior (dX10_laws 25 rfl) ?_
        refine R_istore_n (i := 2) (ls' := [some (.inr (.inr (some (ad 38)))), some (.inl x1), some (.inl (b_or x2 0)), some (.inl x3)]) (dX10_laws 26 rfl) rfl (Nat.le_of_ble_eq_true rfl) (Nat.le_of_ble_eq_true rfl) rfl rfl ?_
        refine R_iinc (i := 3) (ls' := [some (.inr (.inr (some (ad 38)))), some (.inl x1), some (.inl (b_or x2 0)), some (.inl (w32 (x3 + 1)))]) (dX10_laws 27 rfl) rfl (Nat.le_of_ble_eq_true rfl) rfl rfl ?_
        refine R_goto (tgt := 9) (dX10_laws 28 rfl) (by decide) ?_
        exact ih (b_or x2 0) (w32 (x3 + 1)) M551 H
      · have H := ite_T H hc
        refine R_iconst (dX10_laws 20 rfl) rfl ?_
        refine R_iload_n (i := 3) (dX10_laws 21 rfl) rfl rfl ?_
        refine R_ishl (dX10_laws 22 rfl) ?_
        refine R_goto (tgt := 41) (dX10_laws 23 rfl) (by decide) ?_
        refine R_ior (dX10_laws 25 rfl) ?_
        refine R_istore_n (i := 2) (ls' := [some (.inr (.inr (some (ad 38)))), some (.inl x1), some (.inl (b_or x2 (b_shl 1 x3))), some (.inl x3)]) (dX10_laws 26 rfl) rfl (Nat.le_of_ble_eq_true rfl) (Nat.le_of_ble_eq_true rfl) rfl rfl ?_
        refine R_iinc (i := 3) (ls' := [some (.inr (.inr (some (ad 38)))), some (.inl x1), some (.inl (b_or x2 (b_shl 1 x3))), some (.inl (w32 (x3 + 1)))]) (dX10_laws 27 rfl) rfl (Nat.le_of_ble_eq_true rfl) rfl rfl ?_
        refine R_goto (tgt := 9) (dX10_laws 28 rfl) (by decide) ?_
        exact ih (b_or x2 (b_shl 1 x3)) (w32 (x3 + 1)) M551 H
def f_X10_laws (M : Mem) : Option (Int × Mem) :=
  f_X10_laws_L9
    (M 38 14) 100000 0 0 M
set_option maxHeartbeats 4000000 in
theorem t_X10_laws (l : Launch) (g : GG) (ad : Nat → Nat) (S : SW) (M : Mem) (hS : q_ag 38 63 ad S) {r : Int} {M' : Mem} (H : f_X10_laws M = some (r, M')) : CT l g MX10_laws 6 0 0 S M [.inr (.inr (some (ad 38)))] (q_ex S (some (.inl r)) M') := by
  unfold f_X10_laws at H
  refine CT_of (ls0 := [some (.inr (.inr (some (ad 38)))), none, none, none]) (by decide +kernel) (Nat.le_of_ble_eq_true rfl) rfl ?_
  refine R_aload_n (i := 0) (dX10_laws 0 rfl) rfl rfl ?_
  refine R_getI cgX10 38 (cl38 hS) 14 (Nat.le_of_ble_eq_true rfl) rfl (Or.inl tb_1141) (dX10_laws 1 rfl) ?_
  refine R_istore_n (i := 1) (ls' := [some (.inr (.inr (some (ad 38)))), some (.inl (M 38 14)), none, none]) (dX10_laws 2 rfl) rfl (Nat.le_of_ble_eq_true rfl) (Nat.le_of_ble_eq_true rfl) rfl rfl ?_
  refine R_iconst (dX10_laws 3 rfl) rfl ?_
  refine R_istore_n (i := 2) (ls' := [some (.inr (.inr (some (ad 38)))), some (.inl (M 38 14)), some (.inl 0), none]) (dX10_laws 4 rfl) rfl (Nat.le_of_ble_eq_true rfl) (Nat.le_of_ble_eq_true rfl) rfl rfl ?_
  refine R_iconst (dX10_laws 5 rfl) rfl ?_
  refine R_istore_n (i := 3) (ls' := [some (.inr (.inr (some (ad 38)))), some (.inl (M 38 14)), some (.inl 0), some (.inl 0)]) (dX10_laws 6 rfl) rfl (Nat.le_of_ble_eq_true rfl) (Nat.le_of_ble_eq_true rfl) rfl rfl ?_
  exact t_X10_laws_L9 l g ad S hS (M 38 14)  100000 0 0 M H 
def f_X10_drawnOf (x1 : Int) (M : Mem) : Option Int :=
  if ¬ M 38 40 = 0 then
    some (w32 (b_lrem (b_lrem (w64 ((w64 (x1 + 1)) * 48271)) 2147483647) (M 38 40)))
  else none
set_option maxHeartbeats 4000000 in
theorem t_X10_drawnOf (l : Launch) (g : GG) (ad : Nat → Nat) (S : SW) (M : Mem) (hS : q_ag 38 63 ad S) (x1 : Int) {r : Int} (H : f_X10_drawnOf x1 M = some r) : CT l g MX10_drawnOf 1 0 0 S M [.inr (.inr (some (ad 38))), .inl x1] (q_ex S (some (.inl r)) M) := by
  unfold f_X10_drawnOf at H
  refine CT_of (ls0 := [some (.inr (.inr (some (ad 38)))), some (.inl x1), none, none]) (by decide +kernel) (Nat.le_of_ble_eq_true rfl) rfl ?_
  refine R_iload_n (i := 1) (dX10_drawnOf 0 rfl) rfl rfl ?_
  refine R_i2l (dX10_drawnOf 1 rfl) ?_
  refine R_lconst (z := 1) (dX10_drawnOf 2 rfl) rfl rfl ?_
  refine R_ladd (dX10_drawnOf 3 rfl) ?_
  refine R_ldc2 (z := 48271) tb_1538 ⟨by decide, by decide⟩ (dX10_drawnOf 4 rfl) ?_
  refine R_lmul (dX10_drawnOf 5 rfl) ?_
  refine R_ldc2 (z := 2147483647) tb_1539 ⟨by decide, by decide⟩ (dX10_drawnOf 6 rfl) ?_
  refine R_lrem (by decide) (dX10_drawnOf 7 rfl) ?_
  refine R_lstore_n (i := 2) (ls' := [some (.inr (.inr (some (ad 38)))), some (.inl x1), some (.inr (.inl (b_lrem (w64 ((w64 (x1 + 1)) * 48271)) 2147483647))), none]) (dX10_drawnOf 8 rfl) rfl (Nat.le_of_ble_eq_true rfl) (Nat.le_of_ble_eq_true rfl) rfl rfl ?_
  refine R_lload_n (i := 2) (dX10_drawnOf 9 rfl) rfl rfl ?_
  refine R_aload_n (i := 0) (dX10_drawnOf 10 rfl) rfl rfl ?_
  refine R_getI cgX10 38 (cl38 hS) 40 (Nat.le_of_ble_eq_true rfl) rfl (Or.inl tb_1167) (dX10_drawnOf 11 rfl) ?_
  refine R_i2l (dX10_drawnOf 12 rfl) ?_
  obtain ⟨hg, H⟩ := ite_G H
  refine R_lrem hg (dX10_drawnOf 13 rfl) ?_
  refine R_l2i (dX10_drawnOf 14 rfl) ?_
  exact R_iret rfl rfl (Nat.zero_le _) (Nat.zero_le _) (dX10_drawnOf 15 rfl) ⟨congrArg (fun z => some (Sum.inl z)) (Option.some.inj H), rfl, rfl⟩
def f_X10_drawn (x1 : Int) (x2 : Int) (M : Mem) : Option (Int × Mem) :=
  if f_X10_in x1 0 99999 = 0 then
    some ((-2), M)
  else
    if f_X10_isSign x2 = 0 then
      some ((-2), M)
    else
      ob (f_X10_finds M) fun r552 M553 =>
      if M553 38 40 = 0 then
        some ((-1), M553)
      else
        (f_X10_drawnOf x1 M553).bind fun r554 =>
        (f_X10_partIn r554 x2 M553).bind fun r555 =>
        some (r555, M553)
set_option maxHeartbeats 4000000 in
theorem t_X10_drawn (l : Launch) (g : GG) (ad : Nat → Nat) (S : SW) (M : Mem) (hS : q_ag 38 63 ad S) (x1 : Int) (x2 : Int) {r : Int} {M' : Mem} (H : f_X10_drawn x1 x2 M = some (r, M')) : CT l g MX10_drawn 6 0 0 S M [.inr (.inr (some (ad 38))), .inl x1, .inl x2] (q_ex S (some (.inl r)) M') := by
  unfold f_X10_drawn at H
  refine CT_of (ls0 := [some (.inr (.inr (some (ad 38)))), some (.inl x1), some (.inl x2)]) (by decide +kernel) (Nat.le_of_ble_eq_true rfl) rfl ?_
  refine R_iload_n (i := 1) (dX10_drawn 0 rfl) rfl rfl ?_
  refine R_iconst (dX10_drawn 1 rfl) rfl ?_
  refine R_ldcw (z := 99999) tb_1533 rfl (dX10_drawn 2 rfl) ?_
  refine R_cS (st' := [.inl (f_X10_in x1 0 99999)]) [.inl x1, .inl 0, .inl 99999] [] (t_X10_in l g S _   x1 0 99999) msX10_in (Or.inl tb_1083) ⟨Nat.le_of_ble_eq_true rfl, Nat.le_of_ble_eq_true rfl⟩ (Nat.zero_le _) (Nat.zero_le _) rfl rfl (Nat.le_of_ble_eq_true rfl) rfl (dX10_drawn 3 rfl) ?_
  refine R_if_eq (tgt := 18) (dX10_drawn 4 rfl) (by decide) (fun hc => ?_) (fun hc => ?_)
  · have H := ite_T H hc
    refine R_bipush (dX10_drawn 8 rfl) rfl rfl ?_
    exact R_iret rfl rfl (Nat.zero_le _) (Nat.zero_le _) (dX10_drawn 9 rfl) ⟨congrArg (fun z => some (Sum.inl z)) (Prod.mk.inj (Option.some.inj H)).1, rfl, (Prod.mk.inj (Option.some.inj H)).2⟩
  · have H := ite_F H hc
    refine R_iload_n (i := 2) (dX10_drawn 5 rfl) rfl rfl ?_
    refine R_cS (st' := [.inl (f_X10_isSign x2)]) [.inl x2] [] (t_X10_isSign l g ad S _ hS   x2) msX10_isSign (Or.inl tb_1386) ⟨Nat.le_of_ble_eq_true rfl, Nat.le_of_ble_eq_true rfl⟩ (Nat.zero_le _) (Nat.zero_le _) rfl rfl (Nat.le_of_ble_eq_true rfl) rfl (dX10_drawn 6 rfl) ?_
    refine R_if_ne (tgt := 21) (dX10_drawn 7 rfl) (by decide) (fun hc => ?_) (fun hc => ?_)
    · have H := ite_F H hc
      refine R_aload_n (i := 0) (dX10_drawn 10 rfl) rfl rfl ?_
      obtain ⟨r552, M553, hr, H⟩ := ob_E H
      refine R_cV (st' := []) [] [] (t_X10_finds l g ad S _ hS   hr) msX10_finds (Or.inl tb_1362) (Or.inl ⟨38, 10, _, _, _, (cl38 hS), rfl⟩) ⟨Nat.le_of_ble_eq_true rfl, Nat.le_of_ble_eq_true rfl⟩ (Nat.zero_le _) (Nat.zero_le _) rfl rfl (Nat.le_of_ble_eq_true rfl) rfl (dX10_drawn 11 rfl) ?_
      refine R_aload_n (i := 0) (dX10_drawn 12 rfl) rfl rfl ?_
      refine R_getI cgX10 38 (cl38 hS) 40 (Nat.le_of_ble_eq_true rfl) rfl (Or.inl tb_1167) (dX10_drawn 13 rfl) ?_
      refine R_if_ne (tgt := 36) (dX10_drawn 14 rfl) (by decide) (fun hc => ?_) (fun hc => ?_)
      · have H := ite_F H hc
        refine R_aload_n (i := 0) (dX10_drawn 17 rfl) rfl rfl ?_
        refine R_aload_n (i := 0) (dX10_drawn 18 rfl) rfl rfl ?_
        refine R_iload_n (i := 1) (dX10_drawn 19 rfl) rfl rfl ?_
        obtain ⟨r554, hr, H⟩ := op_E H
        refine R_cV (st' := [.inl r554, .inr (.inr (some (ad 38)))]) [.inl x1] [.inr (.inr (some (ad 38)))] (t_X10_drawnOf l g ad S _ hS   x1 hr) msX10_drawnOf (Or.inl tb_1534) (Or.inl ⟨38, 10, _, _, _, (cl38 hS), rfl⟩) ⟨Nat.le_of_ble_eq_true rfl, Nat.le_of_ble_eq_true rfl⟩ (Nat.zero_le _) (Nat.zero_le _) rfl rfl (Nat.le_of_ble_eq_true rfl) rfl (dX10_drawn 20 rfl) ?_
        refine R_iload_n (i := 2) (dX10_drawn 21 rfl) rfl rfl ?_
        obtain ⟨r555, hr, H⟩ := op_E H
        refine R_cV (st' := [.inl r555]) [.inl r554, .inl x2] [] (t_X10_partIn l g ad S _ hS   r554 x2 hr) msX10_partIn (Or.inl tb_1389) (Or.inl ⟨38, 10, _, _, _, (cl38 hS), rfl⟩) ⟨Nat.le_of_ble_eq_true rfl, Nat.le_of_ble_eq_true rfl⟩ (Nat.zero_le _) (Nat.zero_le _) rfl rfl (Nat.le_of_ble_eq_true rfl) rfl (dX10_drawn 22 rfl) ?_
        exact R_iret rfl rfl (Nat.zero_le _) (Nat.zero_le _) (dX10_drawn 23 rfl) ⟨congrArg (fun z => some (Sum.inl z)) (Prod.mk.inj (Option.some.inj H)).1, rfl, (Prod.mk.inj (Option.some.inj H)).2⟩
      · have H := ite_T H hc
        refine R_iconst (dX10_drawn 15 rfl) rfl ?_
        refine R_goto (tgt := 46) (dX10_drawn 16 rfl) (by decide) ?_
        exact R_iret rfl rfl (Nat.zero_le _) (Nat.zero_le _) (dX10_drawn 23 rfl) ⟨congrArg (fun z => some (Sum.inl z)) (Prod.mk.inj (Option.some.inj H)).1, rfl, (Prod.mk.inj (Option.some.inj H)).2⟩
    · have H := ite_T H hc
      refine R_bipush (dX10_drawn 8 rfl) rfl rfl ?_
      exact R_iret rfl rfl (Nat.zero_le _) (Nat.zero_le _) (dX10_drawn 9 rfl) ⟨congrArg (fun z => some (Sum.inl z)) (Prod.mk.inj (Option.some.inj H)).1, rfl, (Prod.mk.inj (Option.some.inj H)).2⟩
def f_X10_chance_L62 (K120 : Int → Mem → Option (Int × Mem)) (x1 : Int) (x2 : Int) (x3 : Int) (x4 : Int) (x5 : Int) : Nat → Int → Int → Mem → Option (Int × Mem)
  | 0, _, _, _ => none
  | n + 1, x6, x8, M =>
    if x8 < x4 then
      if 0 < M 38 40 then
        (f_X10_drawnOf (w32 (x3 + x8)) M).bind fun r558 =>
        if 0 ≤ r558 ∧ r558 < 720 then
          (f_X10_hasIn x2 (M 58 (r558).toNat) M).bind fun r559 =>
          if 0 ≤ x1 ∧ x1 < 4 then
            if b_and r559 (M 41 (x1).toNat) = 0 then
              f_X10_chance_L62 K120 x1 x2 x3 x4 x5 n (w64 (x6 + 0)) (w32 (x8 + 1)) M
            else
              f_X10_chance_L62 K120 x1 x2 x3 x4 x5 n (w64 (x6 + 1)) (w32 (x8 + 1)) M
          else none
        else none
      else
        K120 x6 M
    else
      K120 x6 M
set_option maxHeartbeats 4000000 in
theorem t_X10_chance_L62 (l : Launch) (g : GG) (ad : Nat → Nat) (S : SW) (hS : q_ag 38 63 ad S) (x1 : Int) (x2 : Int) (x3 : Int) (x4 : Int) (x5 : Int) {K120 : Int → Mem → Option (Int × Mem)} {r : Int} {M' : Mem} : ∀ (n : Nat) (x6 : Int) (x8 : Int) (M : Mem), f_X10_chance_L62 K120 x1 x2 x3 x4 x5 n x6 x8 M = some (r, M') → (∀ (z6 : Int) (M1 : Mem), K120 z6 M1 = some (r, M') → RW l g MX10_chance (q_rm 6 0 0) 0 0 (q_ex S (some (.inr (.inl r))) M') 120 S M1 0 0 [some (.inr (.inr (some (ad 38)))), none, none, none, some (.inl x4), some (.inl x5), some (.inr (.inl z6)), none, none] []) → RW l g MX10_chance (q_rm 6 0 0) 0 0 (q_ex S (some (.inr (.inl r))) M') 62 S M 0 0 [some (.inr (.inr (some (ad 38)))), some (.inl x1), some (.inl x2), some (.inl x3), some (.inl x4), some (.inl x5), some (.inr (.inl x6)), none, some (.inl x8)] [] := by
  intro n
  induction n with
  | zero => intro x6 x8 M H; exact absurd H (by simp [f_X10_chance_L62])
  | succ n ih =>
    intro x6 x8 M H hK120
    rw [f_X10_chance_L62] at H
    refine R_iload (i := 8) (dX10_chance_0 31 rfl) rfl ?_
    refine R_iload (i := 4) (dX10_chance_0 32 rfl) rfl ?_
    refine R_icmp_ge (tgt := 120) (dX10_chance_0 33 rfl) (by decide) (fun hc => ?_) (fun hc => ?_)
    · have H := ite_F H hc
      refine R_mask [true, false, false, false, true, true, true, false, false] rfl ?_
      exact hK120 x6 M H
    · have H := ite_T H hc
      refine R_aload_n (i := 0) (dX10_chance_0 34 rfl) rfl rfl ?_
      refine R_getI cgX10 38 (cl38 hS) 40 (Nat.le_of_ble_eq_true rfl) rfl (Or.inl tb_1167) (dX10_chance_0 35 rfl) ?_
      refine R_if_le (tgt := 120) (dX10_chance_0 36 rfl) (by decide) (fun hc => ?_) (fun hc => ?_)
      · have H := ite_F H hc
        refine R_mask [true, false, false, false, true, true, true, false, false] rfl ?_
        exact hK120 x6 M H
      · have H := ite_T H hc
        refine R_lload (i := 6) (dX10_chance_0 37 rfl) rfl ?_
        refine R_aload_n (i := 0) (dX10_chance_0 38 rfl) rfl rfl ?_
        refine R_iload_n (i := 2) (dX10_chance_0 39 rfl) rfl rfl ?_
        refine R_aload_n (i := 0) (dX10_chance_0 40 rfl) rfl rfl ?_
        refine R_getR cgX10 38 (cl38 hS) 39 (Nat.le_of_ble_eq_true rfl) rfl (Or.inl tb_1166) (dX10_chance_0 41 rfl) ?_
        refine R_aload_n (i := 0) (dX10_chance_0 42 rfl) rfl rfl ?_
        refine R_iload_n (i := 3) (dX10_chance_0 43 rfl) rfl rfl ?_
        refine R_iload (i := 8) (dX10_chance_0 44 rfl) rfl ?_
        refine R_iadd (dX10_chance_0 45 rfl) ?_
        obtain ⟨r558, hr, H⟩ := op_E H
        refine R_cV (st' := [.inl r558, .inr (.inr (some (ad 58))), .inl x2, .inr (.inr (some (ad 38))), .inr (.inl x6)]) [.inl (w32 (x3 + x8))] [.inr (.inr (some (ad 58))), .inl x2, .inr (.inr (some (ad 38))), .inr (.inl x6)] (t_X10_drawnOf l g ad S _ hS   (w32 (x3 + x8)) hr) msX10_drawnOf (Or.inl tb_1534) (Or.inl ⟨38, 10, _, _, _, (cl38 hS), rfl⟩) ⟨Nat.le_of_ble_eq_true rfl, Nat.le_of_ble_eq_true rfl⟩ (Nat.zero_le _) (Nat.zero_le _) rfl rfl (Nat.le_of_ble_eq_true rfl) rfl (dX10_chance_0 46 rfl) ?_
        obtain ⟨hg, H⟩ := ite_G H
        refine R_iald 58 (cl58 hS) hg (dX10_chance_0 47 rfl) ?_
        obtain ⟨r559, hr, H⟩ := op_E H
        refine R_cV (st' := [.inl r559, .inr (.inl x6)]) [.inl x2, .inl (M 58 (r558).toNat)] [.inr (.inl x6)] (t_X10_hasIn l g ad S _ hS   x2 (M 58 (r558).toNat) hr) msX10_hasIn (Or.inl tb_1374) (Or.inl ⟨38, 10, _, _, _, (cl38 hS), rfl⟩) ⟨Nat.le_of_ble_eq_true rfl, Nat.le_of_ble_eq_true rfl⟩ (Nat.zero_le _) (Nat.zero_le _) rfl rfl (Nat.le_of_ble_eq_true rfl) rfl (dX10_chance_0 48 rfl) ?_
        refine R_aload_n (i := 0) (dX10_chance_0 49 rfl) rfl rfl ?_
        refine R_getR cgX10 38 (cl38 hS) 4 (Nat.le_of_ble_eq_true rfl) rfl (Or.inl tb_1131) (dX10_chance_0 50 rfl) ?_
        refine R_iload_n (i := 1) (dX10_chance_0 51 rfl) rfl rfl ?_
        obtain ⟨hg, H⟩ := ite_G H
        refine R_iald 41 (cl41 hS) hg (dX10_chance_0 52 rfl) ?_
        refine R_iand (dX10_chance_0 53 rfl) ?_
        refine R_if_eq (tgt := 110) (dX10_chance_0 54 rfl) (by decide) (fun hc => ?_) (fun hc => ?_)
        · have H := ite_T H hc
          refine R_lconst (z := 0) (dX10_chance_0 57 rfl) rfl rfl ?_
          refine R_ladd (dX10_chance_0 58 rfl) ?_
          refine R_lstore (i := 6) (ls' := [some (.inr (.inr (some (ad 38)))), some (.inl x1), some (.inl x2), some (.inl x3), some (.inl x4), some (.inl x5), some (.inr (.inl (w64 (x6 + 0)))), none, some (.inl x8)]) (dX10_chance_0 59 rfl) (Nat.le_of_ble_eq_true rfl) (Nat.le_of_ble_eq_true rfl) rfl rfl ?_
          refine R_iinc (i := 8) (ls' := [some (.inr (.inr (some (ad 38)))), some (.inl x1), some (.inl x2), some (.inl x3), some (.inl x4), some (.inl x5), some (.inr (.inl (w64 (x6 + 0)))), none, some (.inl (w32 (x8 + 1)))]) (dX10_chance_1 0 rfl) rfl (Nat.le_of_ble_eq_true rfl) rfl rfl ?_
          refine R_goto (tgt := 62) (dX10_chance_1 1 rfl) (by decide) ?_
          exact ih (w64 (x6 + 0)) (w32 (x8 + 1)) M H hK120
        · have H := ite_F H hc
          refine R_lconst (z := 1) (dX10_chance_0 55 rfl) rfl rfl ?_
          refine R_goto (tgt := 111) (dX10_chance_0 56 rfl) (by decide) ?_
          refine R_ladd (dX10_chance_0 58 rfl) ?_
          refine R_lstore (i := 6) (ls' := [some (.inr (.inr (some (ad 38)))), some (.inl x1), some (.inl x2), some (.inl x3), some (.inl x4), some (.inl x5), some (.inr (.inl (w64 (x6 + 1)))), none, some (.inl x8)]) (dX10_chance_0 59 rfl) (Nat.le_of_ble_eq_true rfl) (Nat.le_of_ble_eq_true rfl) rfl rfl ?_
          refine R_iinc (i := 8) (ls' := [some (.inr (.inr (some (ad 38)))), some (.inl x1), some (.inl x2), some (.inl x3), some (.inl x4), some (.inl x5), some (.inr (.inl (w64 (x6 + 1)))), none, some (.inl (w32 (x8 + 1)))]) (dX10_chance_1 0 rfl) rfl (Nat.le_of_ble_eq_true rfl) rfl rfl ?_
          refine R_goto (tgt := 62) (dX10_chance_1 1 rfl) (by decide) ?_
          exact ih (w64 (x6 + 1)) (w32 (x8 + 1)) M H hK120
def f_X10_chance (x1 : Int) (x2 : Int) (x3 : Int) (x4 : Int) (x5 : Int) (M : Mem) : Option (Int × Mem) :=
  if f_X10_isGuest x1 M = 0 then
    some ((-4611686018427387904), M)
  else
    if f_X10_isLine x2 M = 0 then
      some ((-4611686018427387904), M)
    else
      if f_X10_in x3 0 99999 = 0 then
        some ((-4611686018427387904), M)
      else
        if f_X10_in x4 1 30 = 0 then
          some ((-4611686018427387904), M)
        else
          if f_X10_in x5 0 1 = 0 then
            some ((-4611686018427387904), M)
          else
            ob (f_X10_finds M) fun r556 M557 =>
            f_X10_chance_L62
              (fun y560 M561 =>
                if M561 38 40 = 0 then
                  some ((-4611686018427387904), M561)
                else
                  (f_X10_lowest y560 x4 x5).bind fun r562 =>
                  some (r562, M561)
              )
              x1 x2 x3 x4 x5 100000 0 0 M557
set_option maxHeartbeats 4000000 in
theorem t_X10_chance (l : Launch) (g : GG) (ad : Nat → Nat) (S : SW) (M : Mem) (hS : q_ag 38 63 ad S) (x1 : Int) (x2 : Int) (x3 : Int) (x4 : Int) (x5 : Int) {r : Int} {M' : Mem} (H : f_X10_chance x1 x2 x3 x4 x5 M = some (r, M')) : CT l g MX10_chance 6 0 0 S M [.inr (.inr (some (ad 38))), .inl x1, .inl x2, .inl x3, .inl x4, .inl x5] (q_ex S (some (.inr (.inl r))) M') := by
  unfold f_X10_chance at H
  refine CT_of (ls0 := [some (.inr (.inr (some (ad 38)))), some (.inl x1), some (.inl x2), some (.inl x3), some (.inl x4), some (.inl x5), none, none, none]) (by decide +kernel) (Nat.le_of_ble_eq_true rfl) rfl ?_
  refine R_aload_n (i := 0) (dX10_chance_0 0 rfl) rfl rfl ?_
  refine R_iload_n (i := 1) (dX10_chance_0 1 rfl) rfl rfl ?_
  refine R_cV (st' := [.inl (f_X10_isGuest x1 M)]) [.inl x1] [] (t_X10_isGuest l g ad S _ hS   x1) msX10_isGuest (Or.inl tb_1296) (Or.inl ⟨38, 10, _, _, _, (cl38 hS), rfl⟩) ⟨Nat.le_of_ble_eq_true rfl, Nat.le_of_ble_eq_true rfl⟩ (Nat.zero_le _) (Nat.zero_le _) rfl rfl (Nat.le_of_ble_eq_true rfl) rfl (dX10_chance_0 2 rfl) ?_
  refine R_if_eq (tgt := 48) (dX10_chance_0 3 rfl) (by decide) (fun hc => ?_) (fun hc => ?_)
  · have H := ite_T H hc
    refine R_ldc2 (z := (-4611686018427387904)) tb_1417 ⟨by decide, by decide⟩ (dX10_chance_0 23 rfl) ?_
    exact R_lret rfl (Nat.zero_le _) (Nat.zero_le _) (dX10_chance_0 24 rfl) ⟨congrArg (fun z => some (Sum.inr (Sum.inl z))) (Prod.mk.inj (Option.some.inj H)).1, rfl, (Prod.mk.inj (Option.some.inj H)).2⟩
  · have H := ite_F H hc
    refine R_aload_n (i := 0) (dX10_chance_0 4 rfl) rfl rfl ?_
    refine R_iload_n (i := 2) (dX10_chance_0 5 rfl) rfl rfl ?_
    refine R_cV (st' := [.inl (f_X10_isLine x2 M)]) [.inl x2] [] (t_X10_isLine l g ad S _ hS   x2) msX10_isLine (Or.inl tb_1280) (Or.inl ⟨38, 10, _, _, _, (cl38 hS), rfl⟩) ⟨Nat.le_of_ble_eq_true rfl, Nat.le_of_ble_eq_true rfl⟩ (Nat.zero_le _) (Nat.zero_le _) rfl rfl (Nat.le_of_ble_eq_true rfl) rfl (dX10_chance_0 6 rfl) ?_
    refine R_if_eq (tgt := 48) (dX10_chance_0 7 rfl) (by decide) (fun hc => ?_) (fun hc => ?_)
    · have H := ite_T H hc
      refine R_ldc2 (z := (-4611686018427387904)) tb_1417 ⟨by decide, by decide⟩ (dX10_chance_0 23 rfl) ?_
      exact R_lret rfl (Nat.zero_le _) (Nat.zero_le _) (dX10_chance_0 24 rfl) ⟨congrArg (fun z => some (Sum.inr (Sum.inl z))) (Prod.mk.inj (Option.some.inj H)).1, rfl, (Prod.mk.inj (Option.some.inj H)).2⟩
    · have H := ite_F H hc
      refine R_iload_n (i := 3) (dX10_chance_0 8 rfl) rfl rfl ?_
      refine R_iconst (dX10_chance_0 9 rfl) rfl ?_
      refine R_ldcw (z := 99999) tb_1533 rfl (dX10_chance_0 10 rfl) ?_
      refine R_cS (st' := [.inl (f_X10_in x3 0 99999)]) [.inl x3, .inl 0, .inl 99999] [] (t_X10_in l g S _   x3 0 99999) msX10_in (Or.inl tb_1083) ⟨Nat.le_of_ble_eq_true rfl, Nat.le_of_ble_eq_true rfl⟩ (Nat.zero_le _) (Nat.zero_le _) rfl rfl (Nat.le_of_ble_eq_true rfl) rfl (dX10_chance_0 11 rfl) ?_
      refine R_if_eq (tgt := 48) (dX10_chance_0 12 rfl) (by decide) (fun hc => ?_) (fun hc => ?_)
      · have H := ite_T H hc
        refine R_ldc2 (z := (-4611686018427387904)) tb_1417 ⟨by decide, by decide⟩ (dX10_chance_0 23 rfl) ?_
        exact R_lret rfl (Nat.zero_le _) (Nat.zero_le _) (dX10_chance_0 24 rfl) ⟨congrArg (fun z => some (Sum.inr (Sum.inl z))) (Prod.mk.inj (Option.some.inj H)).1, rfl, (Prod.mk.inj (Option.some.inj H)).2⟩
      · have H := ite_F H hc
        refine R_iload (i := 4) (dX10_chance_0 13 rfl) rfl ?_
        refine R_iconst (dX10_chance_0 14 rfl) rfl ?_
        refine R_bipush (dX10_chance_0 15 rfl) rfl rfl ?_
        refine R_cS (st' := [.inl (f_X10_in x4 1 30)]) [.inl x4, .inl 1, .inl 30] [] (t_X10_in l g S _   x4 1 30) msX10_in (Or.inl tb_1083) ⟨Nat.le_of_ble_eq_true rfl, Nat.le_of_ble_eq_true rfl⟩ (Nat.zero_le _) (Nat.zero_le _) rfl rfl (Nat.le_of_ble_eq_true rfl) rfl (dX10_chance_0 16 rfl) ?_
        refine R_if_eq (tgt := 48) (dX10_chance_0 17 rfl) (by decide) (fun hc => ?_) (fun hc => ?_)
        · have H := ite_T H hc
          refine R_ldc2 (z := (-4611686018427387904)) tb_1417 ⟨by decide, by decide⟩ (dX10_chance_0 23 rfl) ?_
          exact R_lret rfl (Nat.zero_le _) (Nat.zero_le _) (dX10_chance_0 24 rfl) ⟨congrArg (fun z => some (Sum.inr (Sum.inl z))) (Prod.mk.inj (Option.some.inj H)).1, rfl, (Prod.mk.inj (Option.some.inj H)).2⟩
        · have H := ite_F H hc
          refine R_iload (i := 5) (dX10_chance_0 18 rfl) rfl ?_
          refine R_iconst (dX10_chance_0 19 rfl) rfl ?_
          refine R_iconst (dX10_chance_0 20 rfl) rfl ?_
          refine R_cS (st' := [.inl (f_X10_in x5 0 1)]) [.inl x5, .inl 0, .inl 1] [] (t_X10_in l g S _   x5 0 1) msX10_in (Or.inl tb_1083) ⟨Nat.le_of_ble_eq_true rfl, Nat.le_of_ble_eq_true rfl⟩ (Nat.zero_le _) (Nat.zero_le _) rfl rfl (Nat.le_of_ble_eq_true rfl) rfl (dX10_chance_0 21 rfl) ?_
          refine R_if_ne (tgt := 52) (dX10_chance_0 22 rfl) (by decide) (fun hc => ?_) (fun hc => ?_)
          · have H := ite_F H hc
            refine R_aload_n (i := 0) (dX10_chance_0 25 rfl) rfl rfl ?_
            obtain ⟨r556, M557, hr, H⟩ := ob_E H
            refine R_cV (st' := []) [] [] (t_X10_finds l g ad S _ hS   hr) msX10_finds (Or.inl tb_1362) (Or.inl ⟨38, 10, _, _, _, (cl38 hS), rfl⟩) ⟨Nat.le_of_ble_eq_true rfl, Nat.le_of_ble_eq_true rfl⟩ (Nat.zero_le _) (Nat.zero_le _) rfl rfl (Nat.le_of_ble_eq_true rfl) rfl (dX10_chance_0 26 rfl) ?_
            refine R_lconst (z := 0) (dX10_chance_0 27 rfl) rfl rfl ?_
            refine R_lstore (i := 6) (ls' := [some (.inr (.inr (some (ad 38)))), some (.inl x1), some (.inl x2), some (.inl x3), some (.inl x4), some (.inl x5), some (.inr (.inl 0)), none, none]) (dX10_chance_0 28 rfl) (Nat.le_of_ble_eq_true rfl) (Nat.le_of_ble_eq_true rfl) rfl rfl ?_
            refine R_iconst (dX10_chance_0 29 rfl) rfl ?_
            refine R_istore (i := 8) (ls' := [some (.inr (.inr (some (ad 38)))), some (.inl x1), some (.inl x2), some (.inl x3), some (.inl x4), some (.inl x5), some (.inr (.inl 0)), none, some (.inl 0)]) (dX10_chance_0 30 rfl) (Nat.le_of_ble_eq_true rfl) (Nat.le_of_ble_eq_true rfl) rfl rfl ?_
            refine t_X10_chance_L62 l g ad S hS x1 x2 x3 x4 x5  100000 0 0 M557 H (fun y560 M561 H => ?_)
            refine R_aload_n (i := 0) (dX10_chance_1 2 rfl) rfl rfl ?_
            refine R_getI cgX10 38 (cl38 hS) 40 (Nat.le_of_ble_eq_true rfl) rfl (Or.inl tb_1167) (dX10_chance_1 3 rfl) ?_
            refine R_if_ne (tgt := 133) (dX10_chance_1 4 rfl) (by decide) (fun hc => ?_) (fun hc => ?_)
            · have H := ite_F H hc
              refine R_lload (i := 6) (dX10_chance_1 7 rfl) rfl ?_
              refine R_iload (i := 4) (dX10_chance_1 8 rfl) rfl ?_
              refine R_i2l (dX10_chance_1 9 rfl) ?_
              refine R_iload (i := 5) (dX10_chance_1 10 rfl) rfl ?_
              obtain ⟨r562, hr, H⟩ := op_E H
              refine R_cS (st' := [.inr (.inl r562)]) [.inr (.inl y560), .inr (.inl x4), .inl x5] [] (t_X10_lowest l g ad S _ hS   y560 x4 x5 hr) msX10_lowest (Or.inl tb_1422) ⟨Nat.le_of_ble_eq_true rfl, Nat.le_of_ble_eq_true rfl⟩ (Nat.zero_le _) (Nat.zero_le _) rfl rfl (Nat.le_of_ble_eq_true rfl) rfl (dX10_chance_1 11 rfl) ?_
              exact R_lret rfl (Nat.zero_le _) (Nat.zero_le _) (dX10_chance_1 12 rfl) ⟨congrArg (fun z => some (Sum.inr (Sum.inl z))) (Prod.mk.inj (Option.some.inj H)).1, rfl, (Prod.mk.inj (Option.some.inj H)).2⟩
            · have H := ite_T H hc
              refine R_ldc2 (z := (-4611686018427387904)) tb_1417 ⟨by decide, by decide⟩ (dX10_chance_1 5 rfl) ?_
              refine R_goto (tgt := 143) (dX10_chance_1 6 rfl) (by decide) ?_
              exact R_lret rfl (Nat.zero_le _) (Nat.zero_le _) (dX10_chance_1 12 rfl) ⟨congrArg (fun z => some (Sum.inr (Sum.inl z))) (Prod.mk.inj (Option.some.inj H)).1, rfl, (Prod.mk.inj (Option.some.inj H)).2⟩
          · have H := ite_T H hc
            refine R_ldc2 (z := (-4611686018427387904)) tb_1417 ⟨by decide, by decide⟩ (dX10_chance_0 23 rfl) ?_
            exact R_lret rfl (Nat.zero_le _) (Nat.zero_le _) (dX10_chance_0 24 rfl) ⟨congrArg (fun z => some (Sum.inr (Sum.inl z))) (Prod.mk.inj (Option.some.inj H)).1, rfl, (Prod.mk.inj (Option.some.inj H)).2⟩
def f_X10_image_L47 : Nat → Int → Mem → Option (Int × Mem)
  | 0, _, _ => none
  | n + 1, x1, M =>
    if x1 < 10 then
      if 0 ≤ x1 ∧ x1 < 10 then
        if 0 ≤ x1 ∧ x1 < 10 then
          f_X10_image_L47 n (w32 (x1 + 1)) (mset M 47 (x1).toNat (M 40 (x1).toNat))
        else none
      else none
    else
      some (M 38 0, M)
set_option maxHeartbeats 4000000 in
theorem t_X10_image_L47 (l : Launch) (g : GG) (ad : Nat → Nat) (S : SW) (hS : q_ag 38 63 ad S) {r : Int} {M' : Mem} : ∀ (n : Nat) (x1 : Int) (M : Mem), f_X10_image_L47 n x1 M = some (r, M') → RW l g MX10_image (q_rm 1 0 0) 0 0 (q_ex S (some (.inl r)) M') 47 S M 0 0 [some (.inr (.inr (some (ad 38)))), some (.inl x1)] [] := by
  intro n
  induction n with
  | zero => intro x1 M H; exact absurd H (by simp [f_X10_image_L47])
  | succ n ih =>
    intro x1 M H
    rw [f_X10_image_L47] at H
    refine R_iload_n (i := 1) (dX10_image 25 rfl) rfl rfl ?_
    refine R_bipush (dX10_image 26 rfl) rfl rfl ?_
    refine R_icmp_ge (tgt := 71) (dX10_image 27 rfl) (by decide) (fun hc => ?_) (fun hc => ?_)
    · have H := ite_F H hc
      refine R_aload_n (i := 0) (dX10_image 38 rfl) rfl rfl ?_
      refine R_getI cgX10 38 (cl38 hS) 0 (Nat.le_of_ble_eq_true rfl) rfl (Or.inl tb_1127) (dX10_image 39 rfl) ?_
      exact R_iret rfl rfl (Nat.zero_le _) (Nat.zero_le _) (dX10_image 40 rfl) ⟨congrArg (fun z => some (Sum.inl z)) (Prod.mk.inj (Option.some.inj H)).1, rfl, (Prod.mk.inj (Option.some.inj H)).2⟩
    · have H := ite_T H hc
      refine R_aload_n (i := 0) (dX10_image 28 rfl) rfl rfl ?_
      refine R_getR cgX10 38 (cl38 hS) 21 (Nat.le_of_ble_eq_true rfl) rfl (Or.inl tb_1148) (dX10_image 29 rfl) ?_
      refine R_iload_n (i := 1) (dX10_image 30 rfl) rfl rfl ?_
      refine R_aload_n (i := 0) (dX10_image 31 rfl) rfl rfl ?_
      refine R_getR cgX10 38 (cl38 hS) 2 (Nat.le_of_ble_eq_true rfl) rfl (Or.inl tb_1129) (dX10_image 32 rfl) ?_
      refine R_iload_n (i := 1) (dX10_image 33 rfl) rfl rfl ?_
      obtain ⟨hg, H⟩ := ite_G H
      refine R_iald 40 (cl40 hS) hg (dX10_image 34 rfl) ?_
      obtain ⟨hg, H⟩ := ite_G H
      refine R_iast 47 (cl47 hS) hg (dX10_image 35 rfl) ?_
      refine R_iinc (i := 1) (ls' := [some (.inr (.inr (some (ad 38)))), some (.inl (w32 (x1 + 1)))]) (dX10_image 36 rfl) rfl (Nat.le_of_ble_eq_true rfl) rfl rfl ?_
      refine R_goto (tgt := 47) (dX10_image 37 rfl) (by decide) ?_
      exact ih (w32 (x1 + 1)) (mset M 47 (x1).toNat (M 40 (x1).toNat)) H
def f_X10_image (M : Mem) : Option (Int × Mem) :=
  f_X10_image_L47
    100000 0 (mset (mset (mset (mset (mset (mset M 38 15 1) 38 16 ((mset M 38 15 1) 38 0)) 38 17 ((mset (mset M 38 15 1) 38 16 ((mset M 38 15 1) 38 0)) 38 3)) 38 18 ((mset (mset (mset M 38 15 1) 38 16 ((mset M 38 15 1) 38 0)) 38 17 ((mset (mset M 38 15 1) 38 16 ((mset M 38 15 1) 38 0)) 38 3)) 38 6)) 38 19 ((mset (mset (mset (mset M 38 15 1) 38 16 ((mset M 38 15 1) 38 0)) 38 17 ((mset (mset M 38 15 1) 38 16 ((mset M 38 15 1) 38 0)) 38 3)) 38 18 ((mset (mset (mset M 38 15 1) 38 16 ((mset M 38 15 1) 38 0)) 38 17 ((mset (mset M 38 15 1) 38 16 ((mset M 38 15 1) 38 0)) 38 3)) 38 6)) 38 5)) 38 20 ((mset (mset (mset (mset (mset M 38 15 1) 38 16 ((mset M 38 15 1) 38 0)) 38 17 ((mset (mset M 38 15 1) 38 16 ((mset M 38 15 1) 38 0)) 38 3)) 38 18 ((mset (mset (mset M 38 15 1) 38 16 ((mset M 38 15 1) 38 0)) 38 17 ((mset (mset M 38 15 1) 38 16 ((mset M 38 15 1) 38 0)) 38 3)) 38 6)) 38 19 ((mset (mset (mset (mset M 38 15 1) 38 16 ((mset M 38 15 1) 38 0)) 38 17 ((mset (mset M 38 15 1) 38 16 ((mset M 38 15 1) 38 0)) 38 3)) 38 18 ((mset (mset (mset M 38 15 1) 38 16 ((mset M 38 15 1) 38 0)) 38 17 ((mset (mset M 38 15 1) 38 16 ((mset M 38 15 1) 38 0)) 38 3)) 38 6)) 38 5)) 38 14))
set_option maxHeartbeats 4000000 in
theorem t_X10_image (l : Launch) (g : GG) (ad : Nat → Nat) (S : SW) (M : Mem) (hS : q_ag 38 63 ad S) {r : Int} {M' : Mem} (H : f_X10_image M = some (r, M')) : CT l g MX10_image 1 0 0 S M [.inr (.inr (some (ad 38)))] (q_ex S (some (.inl r)) M') := by
  unfold f_X10_image at H
  refine CT_of (ls0 := [some (.inr (.inr (some (ad 38)))), none]) (by decide +kernel) (Nat.le_of_ble_eq_true rfl) rfl ?_
  refine R_aload_n (i := 0) (dX10_image 0 rfl) rfl rfl ?_
  refine R_iconst (dX10_image 1 rfl) rfl ?_
  refine R_putI cgX10 38 (cl38 hS) 15 (Nat.le_of_ble_eq_true rfl) rfl (by decide +kernel) (by decide +kernel) rfl (Or.inl tb_1142) (dX10_image 2 rfl) ?_
  refine R_aload_n (i := 0) (dX10_image 3 rfl) rfl rfl ?_
  refine R_aload_n (i := 0) (dX10_image 4 rfl) rfl rfl ?_
  refine R_getI cgX10 38 (cl38 hS) 0 (Nat.le_of_ble_eq_true rfl) rfl (Or.inl tb_1127) (dX10_image 5 rfl) ?_
  refine R_putI cgX10 38 (cl38 hS) 16 (Nat.le_of_ble_eq_true rfl) rfl rfl rfl rfl (Or.inl tb_1143) (dX10_image 6 rfl) ?_
  refine R_aload_n (i := 0) (dX10_image 7 rfl) rfl rfl ?_
  refine R_aload_n (i := 0) (dX10_image 8 rfl) rfl rfl ?_
  refine R_getI cgX10 38 (cl38 hS) 3 (Nat.le_of_ble_eq_true rfl) rfl (Or.inl tb_1130) (dX10_image 9 rfl) ?_
  refine R_putI cgX10 38 (cl38 hS) 17 (Nat.le_of_ble_eq_true rfl) rfl rfl rfl rfl (Or.inl tb_1144) (dX10_image 10 rfl) ?_
  refine R_aload_n (i := 0) (dX10_image 11 rfl) rfl rfl ?_
  refine R_aload_n (i := 0) (dX10_image 12 rfl) rfl rfl ?_
  refine R_getI cgX10 38 (cl38 hS) 6 (Nat.le_of_ble_eq_true rfl) rfl (Or.inl tb_1133) (dX10_image 13 rfl) ?_
  refine R_putI cgX10 38 (cl38 hS) 18 (Nat.le_of_ble_eq_true rfl) rfl rfl rfl rfl (Or.inl tb_1145) (dX10_image 14 rfl) ?_
  refine R_aload_n (i := 0) (dX10_image 15 rfl) rfl rfl ?_
  refine R_aload_n (i := 0) (dX10_image 16 rfl) rfl rfl ?_
  refine R_getI cgX10 38 (cl38 hS) 5 (Nat.le_of_ble_eq_true rfl) rfl (Or.inl tb_1132) (dX10_image 17 rfl) ?_
  refine R_putI cgX10 38 (cl38 hS) 19 (Nat.le_of_ble_eq_true rfl) rfl rfl rfl rfl (Or.inl tb_1146) (dX10_image 18 rfl) ?_
  refine R_aload_n (i := 0) (dX10_image 19 rfl) rfl rfl ?_
  refine R_aload_n (i := 0) (dX10_image 20 rfl) rfl rfl ?_
  refine R_getI cgX10 38 (cl38 hS) 14 (Nat.le_of_ble_eq_true rfl) rfl (Or.inl tb_1141) (dX10_image 21 rfl) ?_
  refine R_putI cgX10 38 (cl38 hS) 20 (Nat.le_of_ble_eq_true rfl) rfl rfl rfl rfl (Or.inl tb_1147) (dX10_image 22 rfl) ?_
  refine R_iconst (dX10_image 23 rfl) rfl ?_
  refine R_istore_n (i := 1) (ls' := [some (.inr (.inr (some (ad 38)))), some (.inl 0)]) (dX10_image 24 rfl) rfl (Nat.le_of_ble_eq_true rfl) (Nat.le_of_ble_eq_true rfl) rfl rfl ?_
  exact t_X10_image_L47 l g ad S hS  100000 0 (mset (mset (mset (mset (mset (mset M 38 15 1) 38 16 ((mset M 38 15 1) 38 0)) 38 17 ((mset (mset M 38 15 1) 38 16 ((mset M 38 15 1) 38 0)) 38 3)) 38 18 ((mset (mset (mset M 38 15 1) 38 16 ((mset M 38 15 1) 38 0)) 38 17 ((mset (mset M 38 15 1) 38 16 ((mset M 38 15 1) 38 0)) 38 3)) 38 6)) 38 19 ((mset (mset (mset (mset M 38 15 1) 38 16 ((mset M 38 15 1) 38 0)) 38 17 ((mset (mset M 38 15 1) 38 16 ((mset M 38 15 1) 38 0)) 38 3)) 38 18 ((mset (mset (mset M 38 15 1) 38 16 ((mset M 38 15 1) 38 0)) 38 17 ((mset (mset M 38 15 1) 38 16 ((mset M 38 15 1) 38 0)) 38 3)) 38 6)) 38 5)) 38 20 ((mset (mset (mset (mset (mset M 38 15 1) 38 16 ((mset M 38 15 1) 38 0)) 38 17 ((mset (mset M 38 15 1) 38 16 ((mset M 38 15 1) 38 0)) 38 3)) 38 18 ((mset (mset (mset M 38 15 1) 38 16 ((mset M 38 15 1) 38 0)) 38 17 ((mset (mset M 38 15 1) 38 16 ((mset M 38 15 1) 38 0)) 38 3)) 38 6)) 38 19 ((mset (mset (mset (mset M 38 15 1) 38 16 ((mset M 38 15 1) 38 0)) 38 17 ((mset (mset M 38 15 1) 38 16 ((mset M 38 15 1) 38 0)) 38 3)) 38 18 ((mset (mset (mset M 38 15 1) 38 16 ((mset M 38 15 1) 38 0)) 38 17 ((mset (mset M 38 15 1) 38 16 ((mset M 38 15 1) 38 0)) 38 3)) 38 6)) 38 5)) 38 14)) H 
def f_X10_back_L52 : Nat → Int → Mem → Option (Int × Mem)
  | 0, _, _ => none
  | n + 1, x1, M =>
    if x1 < 10 then
      if 0 ≤ x1 ∧ x1 < 10 then
        if 0 ≤ x1 ∧ x1 < 10 then
          f_X10_back_L52 n (w32 (x1 + 1)) (mset M 40 (x1).toNat (M 47 (x1).toNat))
        else none
      else none
    else
      some (M 38 0, M)
set_option maxHeartbeats 4000000 in
theorem t_X10_back_L52 (l : Launch) (g : GG) (ad : Nat → Nat) (S : SW) (hS : q_ag 38 63 ad S) {r : Int} {M' : Mem} : ∀ (n : Nat) (x1 : Int) (M : Mem), f_X10_back_L52 n x1 M = some (r, M') → RW l g MX10_back (q_rm 1 0 0) 0 0 (q_ex S (some (.inl r)) M') 52 S M 0 0 [some (.inr (.inr (some (ad 38)))), some (.inl x1)] [] := by
  intro n
  induction n with
  | zero => intro x1 M H; exact absurd H (by simp [f_X10_back_L52])
  | succ n ih =>
    intro x1 M H
    rw [f_X10_back_L52] at H
    refine R_iload_n (i := 1) (dX10_back 27 rfl) rfl rfl ?_
    refine R_bipush (dX10_back 28 rfl) rfl rfl ?_
    refine R_icmp_ge (tgt := 76) (dX10_back 29 rfl) (by decide) (fun hc => ?_) (fun hc => ?_)
    · have H := ite_F H hc
      refine R_aload_n (i := 0) (dX10_back 40 rfl) rfl rfl ?_
      refine R_getI cgX10 38 (cl38 hS) 0 (Nat.le_of_ble_eq_true rfl) rfl (Or.inl tb_1127) (dX10_back 41 rfl) ?_
      exact R_iret rfl rfl (Nat.zero_le _) (Nat.zero_le _) (dX10_back 42 rfl) ⟨congrArg (fun z => some (Sum.inl z)) (Prod.mk.inj (Option.some.inj H)).1, rfl, (Prod.mk.inj (Option.some.inj H)).2⟩
    · have H := ite_T H hc
      refine R_aload_n (i := 0) (dX10_back 30 rfl) rfl rfl ?_
      refine R_getR cgX10 38 (cl38 hS) 2 (Nat.le_of_ble_eq_true rfl) rfl (Or.inl tb_1129) (dX10_back 31 rfl) ?_
      refine R_iload_n (i := 1) (dX10_back 32 rfl) rfl rfl ?_
      refine R_aload_n (i := 0) (dX10_back 33 rfl) rfl rfl ?_
      refine R_getR cgX10 38 (cl38 hS) 21 (Nat.le_of_ble_eq_true rfl) rfl (Or.inl tb_1148) (dX10_back 34 rfl) ?_
      refine R_iload_n (i := 1) (dX10_back 35 rfl) rfl rfl ?_
      obtain ⟨hg, H⟩ := ite_G H
      refine R_iald 47 (cl47 hS) hg (dX10_back 36 rfl) ?_
      obtain ⟨hg, H⟩ := ite_G H
      refine R_iast 40 (cl40 hS) hg (dX10_back 37 rfl) ?_
      refine R_iinc (i := 1) (ls' := [some (.inr (.inr (some (ad 38)))), some (.inl (w32 (x1 + 1)))]) (dX10_back 38 rfl) rfl (Nat.le_of_ble_eq_true rfl) rfl rfl ?_
      refine R_goto (tgt := 52) (dX10_back 39 rfl) (by decide) ?_
      exact ih (w32 (x1 + 1)) (mset M 40 (x1).toNat (M 47 (x1).toNat)) H
def f_X10_back (M : Mem) : Option (Int × Mem) :=
  if M 38 15 = 0 then
    some ((-3), M)
  else
    f_X10_back_L52
      100000 0 (mset (mset (mset (mset (mset M 38 0 (M 38 16)) 38 3 ((mset M 38 0 (M 38 16)) 38 17)) 38 6 ((mset (mset M 38 0 (M 38 16)) 38 3 ((mset M 38 0 (M 38 16)) 38 17)) 38 18)) 38 5 ((mset (mset (mset M 38 0 (M 38 16)) 38 3 ((mset M 38 0 (M 38 16)) 38 17)) 38 6 ((mset (mset M 38 0 (M 38 16)) 38 3 ((mset M 38 0 (M 38 16)) 38 17)) 38 18)) 38 19)) 38 14 ((mset (mset (mset (mset M 38 0 (M 38 16)) 38 3 ((mset M 38 0 (M 38 16)) 38 17)) 38 6 ((mset (mset M 38 0 (M 38 16)) 38 3 ((mset M 38 0 (M 38 16)) 38 17)) 38 18)) 38 5 ((mset (mset (mset M 38 0 (M 38 16)) 38 3 ((mset M 38 0 (M 38 16)) 38 17)) 38 6 ((mset (mset M 38 0 (M 38 16)) 38 3 ((mset M 38 0 (M 38 16)) 38 17)) 38 18)) 38 19)) 38 20))
set_option maxHeartbeats 4000000 in
theorem t_X10_back (l : Launch) (g : GG) (ad : Nat → Nat) (S : SW) (M : Mem) (hS : q_ag 38 63 ad S) {r : Int} {M' : Mem} (H : f_X10_back M = some (r, M')) : CT l g MX10_back 1 0 0 S M [.inr (.inr (some (ad 38)))] (q_ex S (some (.inl r)) M') := by
  unfold f_X10_back at H
  refine CT_of (ls0 := [some (.inr (.inr (some (ad 38)))), none]) (by decide +kernel) (Nat.le_of_ble_eq_true rfl) rfl ?_
  refine R_aload_n (i := 0) (dX10_back 0 rfl) rfl rfl ?_
  refine R_getI cgX10 38 (cl38 hS) 15 (Nat.le_of_ble_eq_true rfl) rfl (Or.inl tb_1142) (dX10_back 1 rfl) ?_
  refine R_if_ne (tgt := 10) (dX10_back 2 rfl) (by decide) (fun hc => ?_) (fun hc => ?_)
  · have H := ite_F H hc
    refine R_aload_n (i := 0) (dX10_back 5 rfl) rfl rfl ?_
    refine R_aload_n (i := 0) (dX10_back 6 rfl) rfl rfl ?_
    refine R_getI cgX10 38 (cl38 hS) 16 (Nat.le_of_ble_eq_true rfl) rfl (Or.inl tb_1143) (dX10_back 7 rfl) ?_
    refine R_putI cgX10 38 (cl38 hS) 0 (Nat.le_of_ble_eq_true rfl) rfl rfl rfl rfl (Or.inl tb_1127) (dX10_back 8 rfl) ?_
    refine R_aload_n (i := 0) (dX10_back 9 rfl) rfl rfl ?_
    refine R_aload_n (i := 0) (dX10_back 10 rfl) rfl rfl ?_
    refine R_getI cgX10 38 (cl38 hS) 17 (Nat.le_of_ble_eq_true rfl) rfl (Or.inl tb_1144) (dX10_back 11 rfl) ?_
    refine R_putI cgX10 38 (cl38 hS) 3 (Nat.le_of_ble_eq_true rfl) rfl rfl rfl rfl (Or.inl tb_1130) (dX10_back 12 rfl) ?_
    refine R_aload_n (i := 0) (dX10_back 13 rfl) rfl rfl ?_
    refine R_aload_n (i := 0) (dX10_back 14 rfl) rfl rfl ?_
    refine R_getI cgX10 38 (cl38 hS) 18 (Nat.le_of_ble_eq_true rfl) rfl (Or.inl tb_1145) (dX10_back 15 rfl) ?_
    refine R_putI cgX10 38 (cl38 hS) 6 (Nat.le_of_ble_eq_true rfl) rfl rfl rfl rfl (Or.inl tb_1133) (dX10_back 16 rfl) ?_
    refine R_aload_n (i := 0) (dX10_back 17 rfl) rfl rfl ?_
    refine R_aload_n (i := 0) (dX10_back 18 rfl) rfl rfl ?_
    refine R_getI cgX10 38 (cl38 hS) 19 (Nat.le_of_ble_eq_true rfl) rfl (Or.inl tb_1146) (dX10_back 19 rfl) ?_
    refine R_putI cgX10 38 (cl38 hS) 5 (Nat.le_of_ble_eq_true rfl) rfl rfl rfl rfl (Or.inl tb_1132) (dX10_back 20 rfl) ?_
    refine R_aload_n (i := 0) (dX10_back 21 rfl) rfl rfl ?_
    refine R_aload_n (i := 0) (dX10_back 22 rfl) rfl rfl ?_
    refine R_getI cgX10 38 (cl38 hS) 20 (Nat.le_of_ble_eq_true rfl) rfl (Or.inl tb_1147) (dX10_back 23 rfl) ?_
    refine R_putI cgX10 38 (cl38 hS) 14 (Nat.le_of_ble_eq_true rfl) rfl rfl rfl rfl (Or.inl tb_1141) (dX10_back 24 rfl) ?_
    refine R_iconst (dX10_back 25 rfl) rfl ?_
    refine R_istore_n (i := 1) (ls' := [some (.inr (.inr (some (ad 38)))), some (.inl 0)]) (dX10_back 26 rfl) rfl (Nat.le_of_ble_eq_true rfl) (Nat.le_of_ble_eq_true rfl) rfl rfl ?_
    exact t_X10_back_L52 l g ad S hS  100000 0 (mset (mset (mset (mset (mset M 38 0 (M 38 16)) 38 3 ((mset M 38 0 (M 38 16)) 38 17)) 38 6 ((mset (mset M 38 0 (M 38 16)) 38 3 ((mset M 38 0 (M 38 16)) 38 17)) 38 18)) 38 5 ((mset (mset (mset M 38 0 (M 38 16)) 38 3 ((mset M 38 0 (M 38 16)) 38 17)) 38 6 ((mset (mset M 38 0 (M 38 16)) 38 3 ((mset M 38 0 (M 38 16)) 38 17)) 38 18)) 38 19)) 38 14 ((mset (mset (mset (mset M 38 0 (M 38 16)) 38 3 ((mset M 38 0 (M 38 16)) 38 17)) 38 6 ((mset (mset M 38 0 (M 38 16)) 38 3 ((mset M 38 0 (M 38 16)) 38 17)) 38 18)) 38 5 ((mset (mset (mset M 38 0 (M 38 16)) 38 3 ((mset M 38 0 (M 38 16)) 38 17)) 38 6 ((mset (mset M 38 0 (M 38 16)) 38 3 ((mset M 38 0 (M 38 16)) 38 17)) 38 18)) 38 19)) 38 20)) H 
  · have H := ite_T H hc
    refine R_bipush (dX10_back 3 rfl) rfl rfl ?_
    exact R_iret rfl rfl (Nat.zero_le _) (Nat.zero_le _) (dX10_back 4 rfl) ⟨congrArg (fun z => some (Sum.inl z)) (Prod.mk.inj (Option.some.inj H)).1, rfl, (Prod.mk.inj (Option.some.inj H)).2⟩
def f_X10_sheet_L70 (x1 : Int) : Nat → Int → Mem → Option (Int × Mem)
  | 0, _, _ => none
  | n + 1, x4, M =>
    if x4 < 40 then
      if 0 ≤ w32 ((w32 (40 * x1)) + x4) ∧ w32 ((w32 (40 * x1)) + x4) < 160 then
        f_X10_sheet_L70 x1 n (w32 (x4 + 1)) (mset M 50 (w32 ((w32 (40 * x1)) + x4)).toNat 0)
      else none
    else
      some (1, M)
set_option maxHeartbeats 4000000 in
theorem t_X10_sheet_L70 (l : Launch) (g : GG) (ad : Nat → Nat) (S : SW) (hS : q_ag 38 63 ad S) (x1 : Int) {r : Int} {M' : Mem} : ∀ (n : Nat) (x4 : Int) (M : Mem), f_X10_sheet_L70 x1 n x4 M = some (r, M') → RW l g MX10_sheet (q_rm 2 0 0) 0 0 (q_ex S (some (.inl r)) M') 70 S M 0 0 [some (.inr (.inr (some (ad 38)))), some (.inl x1), none, none, some (.inl x4)] [] := by
  intro n
  induction n with
  | zero => intro x4 M H; exact absurd H (by simp [f_X10_sheet_L70])
  | succ n ih =>
    intro x4 M H
    rw [f_X10_sheet_L70] at H
    refine R_iload (i := 4) (dX10_sheet 42 rfl) rfl ?_
    refine R_bipush (dX10_sheet 43 rfl) rfl rfl ?_
    refine R_icmp_ge (tgt := 96) (dX10_sheet 44 rfl) (by decide) (fun hc => ?_) (fun hc => ?_)
    · have H := ite_F H hc
      refine R_iconst (dX10_sheet 56 rfl) rfl ?_
      exact R_iret rfl rfl (Nat.zero_le _) (Nat.zero_le _) (dX10_sheet 57 rfl) ⟨congrArg (fun z => some (Sum.inl z)) (Prod.mk.inj (Option.some.inj H)).1, rfl, (Prod.mk.inj (Option.some.inj H)).2⟩
    · have H := ite_T H hc
      refine R_aload_n (i := 0) (dX10_sheet 45 rfl) rfl rfl ?_
      refine R_getR cgX10 38 (cl38 hS) 24 (Nat.le_of_ble_eq_true rfl) rfl (Or.inl tb_1151) (dX10_sheet 46 rfl) ?_
      refine R_bipush (dX10_sheet 47 rfl) rfl rfl ?_
      refine R_iload_n (i := 1) (dX10_sheet 48 rfl) rfl rfl ?_
      refine R_imul (dX10_sheet 49 rfl) ?_
      refine R_iload (i := 4) (dX10_sheet 50 rfl) rfl ?_
      refine R_iadd (dX10_sheet 51 rfl) ?_
      refine R_iconst (dX10_sheet 52 rfl) rfl ?_
      obtain ⟨hg, H⟩ := ite_G H
      refine R_iast 50 (cl50 hS) hg (dX10_sheet 53 rfl) ?_
      refine R_iinc (i := 4) (ls' := [some (.inr (.inr (some (ad 38)))), some (.inl x1), none, none, some (.inl (w32 (x4 + 1)))]) (dX10_sheet 54 rfl) rfl (Nat.le_of_ble_eq_true rfl) rfl rfl ?_
      refine R_goto (tgt := 70) (dX10_sheet 55 rfl) (by decide) ?_
      exact ih (w32 (x4 + 1)) (mset M 50 (w32 ((w32 (40 * x1)) + x4)).toNat 0) H
def f_X10_sheet (x1 : Int) (x2 : Int) (x3 : Int) (M : Mem) : Option (Int × Mem) :=
  if f_X10_in x1 0 3 = 0 then
    some ((-2), M)
  else
    if f_X10_in x2 (-1) 2 = 0 then
      some ((-2), M)
    else
      if x2 = (-1) then
        if x2 = (-1) then
          if 0 ≤ x1 ∧ x1 < 4 then
            if x2 = (-1) then
              if 0 ≤ x1 ∧ x1 < 4 then
                f_X10_sheet_L70
                  x1 100000 0 (mset (mset M 48 (x1).toNat x2) 49 (x1).toNat 0)
              else none
            else
              if 0 ≤ x1 ∧ x1 < 4 then
                f_X10_sheet_L70
                  x1 100000 0 (mset (mset M 48 (x1).toNat x2) 49 (x1).toNat x3)
              else none
          else none
        else
          if x3 < 0 then
            some ((-14), M)
          else
            if 0 ≤ x1 ∧ x1 < 4 then
              if x2 = (-1) then
                if 0 ≤ x1 ∧ x1 < 4 then
                  f_X10_sheet_L70
                    x1 100000 0 (mset (mset M 48 (x1).toNat x2) 49 (x1).toNat 0)
                else none
              else
                if 0 ≤ x1 ∧ x1 < 4 then
                  f_X10_sheet_L70
                    x1 100000 0 (mset (mset M 48 (x1).toNat x2) 49 (x1).toNat x3)
                else none
            else none
      else
        if 40 < x3 then
          some ((-2), M)
        else
          if x2 = (-1) then
            if 0 ≤ x1 ∧ x1 < 4 then
              if x2 = (-1) then
                if 0 ≤ x1 ∧ x1 < 4 then
                  f_X10_sheet_L70
                    x1 100000 0 (mset (mset M 48 (x1).toNat x2) 49 (x1).toNat 0)
                else none
              else
                if 0 ≤ x1 ∧ x1 < 4 then
                  f_X10_sheet_L70
                    x1 100000 0 (mset (mset M 48 (x1).toNat x2) 49 (x1).toNat x3)
                else none
            else none
          else
            if x3 < 0 then
              some ((-14), M)
            else
              if 0 ≤ x1 ∧ x1 < 4 then
                if x2 = (-1) then
                  if 0 ≤ x1 ∧ x1 < 4 then
                    f_X10_sheet_L70
                      x1 100000 0 (mset (mset M 48 (x1).toNat x2) 49 (x1).toNat 0)
                  else none
                else
                  if 0 ≤ x1 ∧ x1 < 4 then
                    f_X10_sheet_L70
                      x1 100000 0 (mset (mset M 48 (x1).toNat x2) 49 (x1).toNat x3)
                  else none
              else none
set_option maxHeartbeats 4000000 in
theorem t_X10_sheet (l : Launch) (g : GG) (ad : Nat → Nat) (S : SW) (M : Mem) (hS : q_ag 38 63 ad S) (x1 : Int) (x2 : Int) (x3 : Int) {r : Int} {M' : Mem} (H : f_X10_sheet x1 x2 x3 M = some (r, M')) : CT l g MX10_sheet 2 0 0 S M [.inr (.inr (some (ad 38))), .inl x1, .inl x2, .inl x3] (q_ex S (some (.inl r)) M') := by
  unfold f_X10_sheet at H
  refine CT_of (ls0 := [some (.inr (.inr (some (ad 38)))), some (.inl x1), some (.inl x2), some (.inl x3), none]) (by decide +kernel) (Nat.le_of_ble_eq_true rfl) rfl ?_
  refine R_iload_n (i := 1) (dX10_sheet 0 rfl) rfl rfl ?_
  refine R_iconst (dX10_sheet 1 rfl) rfl ?_
  refine R_iconst (dX10_sheet 2 rfl) rfl ?_
  refine R_cS (st' := [.inl (f_X10_in x1 0 3)]) [.inl x1, .inl 0, .inl 3] [] (t_X10_in l g S _   x1 0 3) msX10_in (Or.inl tb_1083) ⟨Nat.le_of_ble_eq_true rfl, Nat.le_of_ble_eq_true rfl⟩ (Nat.zero_le _) (Nat.zero_le _) rfl rfl (Nat.le_of_ble_eq_true rfl) rfl (dX10_sheet 3 rfl) ?_
  refine R_if_eq (tgt := 29) (dX10_sheet 4 rfl) (by decide) (fun hc => ?_) (fun hc => ?_)
  · have H := ite_T H hc
    refine R_bipush (dX10_sheet 16 rfl) rfl rfl ?_
    exact R_iret rfl rfl (Nat.zero_le _) (Nat.zero_le _) (dX10_sheet 17 rfl) ⟨congrArg (fun z => some (Sum.inl z)) (Prod.mk.inj (Option.some.inj H)).1, rfl, (Prod.mk.inj (Option.some.inj H)).2⟩
  · have H := ite_F H hc
    refine R_iload_n (i := 2) (dX10_sheet 5 rfl) rfl rfl ?_
    refine R_iconst (dX10_sheet 6 rfl) rfl ?_
    refine R_iconst (dX10_sheet 7 rfl) rfl ?_
    refine R_cS (st' := [.inl (f_X10_in x2 (-1) 2)]) [.inl x2, .inl (-1), .inl 2] [] (t_X10_in l g S _   x2 (-1) 2) msX10_in (Or.inl tb_1083) ⟨Nat.le_of_ble_eq_true rfl, Nat.le_of_ble_eq_true rfl⟩ (Nat.zero_le _) (Nat.zero_le _) rfl rfl (Nat.le_of_ble_eq_true rfl) rfl (dX10_sheet 8 rfl) ?_
    refine R_if_eq (tgt := 29) (dX10_sheet 9 rfl) (by decide) (fun hc => ?_) (fun hc => ?_)
    · have H := ite_T H hc
      refine R_bipush (dX10_sheet 16 rfl) rfl rfl ?_
      exact R_iret rfl rfl (Nat.zero_le _) (Nat.zero_le _) (dX10_sheet 17 rfl) ⟨congrArg (fun z => some (Sum.inl z)) (Prod.mk.inj (Option.some.inj H)).1, rfl, (Prod.mk.inj (Option.some.inj H)).2⟩
    · have H := ite_F H hc
      refine R_iload_n (i := 2) (dX10_sheet 10 rfl) rfl rfl ?_
      refine R_iconst (dX10_sheet 11 rfl) rfl ?_
      refine R_icmp_eq (tgt := 32) (dX10_sheet 12 rfl) (by decide) (fun hc => ?_) (fun hc => ?_)
      · have H := ite_T H hc
        refine R_iload_n (i := 2) (dX10_sheet 18 rfl) rfl rfl ?_
        refine R_iconst (dX10_sheet 19 rfl) rfl ?_
        refine R_icmp_eq (tgt := 44) (dX10_sheet 20 rfl) (by decide) (fun hc => ?_) (fun hc => ?_)
        · have H := ite_T H hc
          refine R_aload_n (i := 0) (dX10_sheet 25 rfl) rfl rfl ?_
          refine R_getR cgX10 38 (cl38 hS) 22 (Nat.le_of_ble_eq_true rfl) rfl (Or.inl tb_1149) (dX10_sheet 26 rfl) ?_
          refine R_iload_n (i := 1) (dX10_sheet 27 rfl) rfl rfl ?_
          refine R_iload_n (i := 2) (dX10_sheet 28 rfl) rfl rfl ?_
          obtain ⟨hg, H⟩ := ite_G H
          refine R_iast 48 (cl48 hS) hg (dX10_sheet 29 rfl) ?_
          refine R_aload_n (i := 0) (dX10_sheet 30 rfl) rfl rfl ?_
          refine R_getR cgX10 38 (cl38 hS) 23 (Nat.le_of_ble_eq_true rfl) rfl (Or.inl tb_1150) (dX10_sheet 31 rfl) ?_
          refine R_iload_n (i := 1) (dX10_sheet 32 rfl) rfl rfl ?_
          refine R_iload_n (i := 2) (dX10_sheet 33 rfl) rfl rfl ?_
          refine R_iconst (dX10_sheet 34 rfl) rfl ?_
          refine R_icmp_ne (tgt := 65) (dX10_sheet 35 rfl) (by decide) (fun hc => ?_) (fun hc => ?_)
          · have H := ite_F H hc
            refine R_iload_n (i := 3) (dX10_sheet 38 rfl) rfl rfl ?_
            obtain ⟨hg, H⟩ := ite_G H
            refine R_iast 49 (cl49 hS) hg (dX10_sheet 39 rfl) ?_
            refine R_iconst (dX10_sheet 40 rfl) rfl ?_
            refine R_istore (i := 4) (ls' := [some (.inr (.inr (some (ad 38)))), some (.inl x1), some (.inl x2), some (.inl x3), some (.inl 0)]) (dX10_sheet 41 rfl) (Nat.le_of_ble_eq_true rfl) (Nat.le_of_ble_eq_true rfl) rfl rfl ?_
            refine R_mask [true, true, false, false, true] rfl ?_
            exact t_X10_sheet_L70 l g ad S hS x1  100000 0 (mset (mset M 48 (x1).toNat x2) 49 (x1).toNat x3) H 
          · have H := ite_T H hc
            refine R_iconst (dX10_sheet 36 rfl) rfl ?_
            refine R_goto (tgt := 66) (dX10_sheet 37 rfl) (by decide) ?_
            obtain ⟨hg, H⟩ := ite_G H
            refine R_iast 49 (cl49 hS) hg (dX10_sheet 39 rfl) ?_
            refine R_iconst (dX10_sheet 40 rfl) rfl ?_
            refine R_istore (i := 4) (ls' := [some (.inr (.inr (some (ad 38)))), some (.inl x1), some (.inl x2), some (.inl x3), some (.inl 0)]) (dX10_sheet 41 rfl) (Nat.le_of_ble_eq_true rfl) (Nat.le_of_ble_eq_true rfl) rfl rfl ?_
            refine R_mask [true, true, false, false, true] rfl ?_
            exact t_X10_sheet_L70 l g ad S hS x1  100000 0 (mset (mset M 48 (x1).toNat x2) 49 (x1).toNat 0) H 
        · have H := ite_F H hc
          refine R_iload_n (i := 3) (dX10_sheet 21 rfl) rfl rfl ?_
          refine R_if_ge (tgt := 44) (dX10_sheet 22 rfl) (by decide) (fun hc => ?_) (fun hc => ?_)
          · have H := ite_F H hc
            refine R_aload_n (i := 0) (dX10_sheet 25 rfl) rfl rfl ?_
            refine R_getR cgX10 38 (cl38 hS) 22 (Nat.le_of_ble_eq_true rfl) rfl (Or.inl tb_1149) (dX10_sheet 26 rfl) ?_
            refine R_iload_n (i := 1) (dX10_sheet 27 rfl) rfl rfl ?_
            refine R_iload_n (i := 2) (dX10_sheet 28 rfl) rfl rfl ?_
            obtain ⟨hg, H⟩ := ite_G H
            refine R_iast 48 (cl48 hS) hg (dX10_sheet 29 rfl) ?_
            refine R_aload_n (i := 0) (dX10_sheet 30 rfl) rfl rfl ?_
            refine R_getR cgX10 38 (cl38 hS) 23 (Nat.le_of_ble_eq_true rfl) rfl (Or.inl tb_1150) (dX10_sheet 31 rfl) ?_
            refine R_iload_n (i := 1) (dX10_sheet 32 rfl) rfl rfl ?_
            refine R_iload_n (i := 2) (dX10_sheet 33 rfl) rfl rfl ?_
            refine R_iconst (dX10_sheet 34 rfl) rfl ?_
            refine R_icmp_ne (tgt := 65) (dX10_sheet 35 rfl) (by decide) (fun hc => ?_) (fun hc => ?_)
            · have H := ite_F H hc
              refine R_iload_n (i := 3) (dX10_sheet 38 rfl) rfl rfl ?_
              obtain ⟨hg, H⟩ := ite_G H
              refine R_iast 49 (cl49 hS) hg (dX10_sheet 39 rfl) ?_
              refine R_iconst (dX10_sheet 40 rfl) rfl ?_
              refine R_istore (i := 4) (ls' := [some (.inr (.inr (some (ad 38)))), some (.inl x1), some (.inl x2), some (.inl x3), some (.inl 0)]) (dX10_sheet 41 rfl) (Nat.le_of_ble_eq_true rfl) (Nat.le_of_ble_eq_true rfl) rfl rfl ?_
              refine R_mask [true, true, false, false, true] rfl ?_
              exact t_X10_sheet_L70 l g ad S hS x1  100000 0 (mset (mset M 48 (x1).toNat x2) 49 (x1).toNat x3) H 
            · have H := ite_T H hc
              refine R_iconst (dX10_sheet 36 rfl) rfl ?_
              refine R_goto (tgt := 66) (dX10_sheet 37 rfl) (by decide) ?_
              obtain ⟨hg, H⟩ := ite_G H
              refine R_iast 49 (cl49 hS) hg (dX10_sheet 39 rfl) ?_
              refine R_iconst (dX10_sheet 40 rfl) rfl ?_
              refine R_istore (i := 4) (ls' := [some (.inr (.inr (some (ad 38)))), some (.inl x1), some (.inl x2), some (.inl x3), some (.inl 0)]) (dX10_sheet 41 rfl) (Nat.le_of_ble_eq_true rfl) (Nat.le_of_ble_eq_true rfl) rfl rfl ?_
              refine R_mask [true, true, false, false, true] rfl ?_
              exact t_X10_sheet_L70 l g ad S hS x1  100000 0 (mset (mset M 48 (x1).toNat x2) 49 (x1).toNat 0) H 
          · have H := ite_T H hc
            refine R_bipush (dX10_sheet 23 rfl) rfl rfl ?_
            exact R_iret rfl rfl (Nat.zero_le _) (Nat.zero_le _) (dX10_sheet 24 rfl) ⟨congrArg (fun z => some (Sum.inl z)) (Prod.mk.inj (Option.some.inj H)).1, rfl, (Prod.mk.inj (Option.some.inj H)).2⟩
      · have H := ite_F H hc
        refine R_iload_n (i := 3) (dX10_sheet 13 rfl) rfl rfl ?_
        refine R_bipush (dX10_sheet 14 rfl) rfl rfl ?_
        refine R_icmp_le (tgt := 32) (dX10_sheet 15 rfl) (by decide) (fun hc => ?_) (fun hc => ?_)
        · have H := ite_F H hc
          refine R_iload_n (i := 2) (dX10_sheet 18 rfl) rfl rfl ?_
          refine R_iconst (dX10_sheet 19 rfl) rfl ?_
          refine R_icmp_eq (tgt := 44) (dX10_sheet 20 rfl) (by decide) (fun hc => ?_) (fun hc => ?_)
          · have H := ite_T H hc
            refine R_aload_n (i := 0) (dX10_sheet 25 rfl) rfl rfl ?_
            refine R_getR cgX10 38 (cl38 hS) 22 (Nat.le_of_ble_eq_true rfl) rfl (Or.inl tb_1149) (dX10_sheet 26 rfl) ?_
            refine R_iload_n (i := 1) (dX10_sheet 27 rfl) rfl rfl ?_
            refine R_iload_n (i := 2) (dX10_sheet 28 rfl) rfl rfl ?_
            obtain ⟨hg, H⟩ := ite_G H
            refine R_iast 48 (cl48 hS) hg (dX10_sheet 29 rfl) ?_
            refine R_aload_n (i := 0) (dX10_sheet 30 rfl) rfl rfl ?_
            refine R_getR cgX10 38 (cl38 hS) 23 (Nat.le_of_ble_eq_true rfl) rfl (Or.inl tb_1150) (dX10_sheet 31 rfl) ?_
            refine R_iload_n (i := 1) (dX10_sheet 32 rfl) rfl rfl ?_
            refine R_iload_n (i := 2) (dX10_sheet 33 rfl) rfl rfl ?_
            refine R_iconst (dX10_sheet 34 rfl) rfl ?_
            refine R_icmp_ne (tgt := 65) (dX10_sheet 35 rfl) (by decide) (fun hc => ?_) (fun hc => ?_)
            · have H := ite_F H hc
              refine R_iload_n (i := 3) (dX10_sheet 38 rfl) rfl rfl ?_
              obtain ⟨hg, H⟩ := ite_G H
              refine R_iast 49 (cl49 hS) hg (dX10_sheet 39 rfl) ?_
              refine R_iconst (dX10_sheet 40 rfl) rfl ?_
              refine R_istore (i := 4) (ls' := [some (.inr (.inr (some (ad 38)))), some (.inl x1), some (.inl x2), some (.inl x3), some (.inl 0)]) (dX10_sheet 41 rfl) (Nat.le_of_ble_eq_true rfl) (Nat.le_of_ble_eq_true rfl) rfl rfl ?_
              refine R_mask [true, true, false, false, true] rfl ?_
              exact t_X10_sheet_L70 l g ad S hS x1  100000 0 (mset (mset M 48 (x1).toNat x2) 49 (x1).toNat x3) H 
            · have H := ite_T H hc
              refine R_iconst (dX10_sheet 36 rfl) rfl ?_
              refine R_goto (tgt := 66) (dX10_sheet 37 rfl) (by decide) ?_
              obtain ⟨hg, H⟩ := ite_G H
              refine R_iast 49 (cl49 hS) hg (dX10_sheet 39 rfl) ?_
              refine R_iconst (dX10_sheet 40 rfl) rfl ?_
              refine R_istore (i := 4) (ls' := [some (.inr (.inr (some (ad 38)))), some (.inl x1), some (.inl x2), some (.inl x3), some (.inl 0)]) (dX10_sheet 41 rfl) (Nat.le_of_ble_eq_true rfl) (Nat.le_of_ble_eq_true rfl) rfl rfl ?_
              refine R_mask [true, true, false, false, true] rfl ?_
              exact t_X10_sheet_L70 l g ad S hS x1  100000 0 (mset (mset M 48 (x1).toNat x2) 49 (x1).toNat 0) H 
          · have H := ite_F H hc
            refine R_iload_n (i := 3) (dX10_sheet 21 rfl) rfl rfl ?_
            refine R_if_ge (tgt := 44) (dX10_sheet 22 rfl) (by decide) (fun hc => ?_) (fun hc => ?_)
            · have H := ite_F H hc
              refine R_aload_n (i := 0) (dX10_sheet 25 rfl) rfl rfl ?_
              refine R_getR cgX10 38 (cl38 hS) 22 (Nat.le_of_ble_eq_true rfl) rfl (Or.inl tb_1149) (dX10_sheet 26 rfl) ?_
              refine R_iload_n (i := 1) (dX10_sheet 27 rfl) rfl rfl ?_
              refine R_iload_n (i := 2) (dX10_sheet 28 rfl) rfl rfl ?_
              obtain ⟨hg, H⟩ := ite_G H
              refine R_iast 48 (cl48 hS) hg (dX10_sheet 29 rfl) ?_
              refine R_aload_n (i := 0) (dX10_sheet 30 rfl) rfl rfl ?_
              refine R_getR cgX10 38 (cl38 hS) 23 (Nat.le_of_ble_eq_true rfl) rfl (Or.inl tb_1150) (dX10_sheet 31 rfl) ?_
              refine R_iload_n (i := 1) (dX10_sheet 32 rfl) rfl rfl ?_
              refine R_iload_n (i := 2) (dX10_sheet 33 rfl) rfl rfl ?_
              refine R_iconst (dX10_sheet 34 rfl) rfl ?_
              refine R_icmp_ne (tgt := 65) (dX10_sheet 35 rfl) (by decide) (fun hc => ?_) (fun hc => ?_)
              · have H := ite_F H hc
                refine R_iload_n (i := 3) (dX10_sheet 38 rfl) rfl rfl ?_
                obtain ⟨hg, H⟩ := ite_G H
                refine R_iast 49 (cl49 hS) hg (dX10_sheet 39 rfl) ?_
                refine R_iconst (dX10_sheet 40 rfl) rfl ?_
                refine R_istore (i := 4) (ls' := [some (.inr (.inr (some (ad 38)))), some (.inl x1), some (.inl x2), some (.inl x3), some (.inl 0)]) (dX10_sheet 41 rfl) (Nat.le_of_ble_eq_true rfl) (Nat.le_of_ble_eq_true rfl) rfl rfl ?_
                refine R_mask [true, true, false, false, true] rfl ?_
                exact t_X10_sheet_L70 l g ad S hS x1  100000 0 (mset (mset M 48 (x1).toNat x2) 49 (x1).toNat x3) H 
              · have H := ite_T H hc
                refine R_iconst (dX10_sheet 36 rfl) rfl ?_
                refine R_goto (tgt := 66) (dX10_sheet 37 rfl) (by decide) ?_
                obtain ⟨hg, H⟩ := ite_G H
                refine R_iast 49 (cl49 hS) hg (dX10_sheet 39 rfl) ?_
                refine R_iconst (dX10_sheet 40 rfl) rfl ?_
                refine R_istore (i := 4) (ls' := [some (.inr (.inr (some (ad 38)))), some (.inl x1), some (.inl x2), some (.inl x3), some (.inl 0)]) (dX10_sheet 41 rfl) (Nat.le_of_ble_eq_true rfl) (Nat.le_of_ble_eq_true rfl) rfl rfl ?_
                refine R_mask [true, true, false, false, true] rfl ?_
                exact t_X10_sheet_L70 l g ad S hS x1  100000 0 (mset (mset M 48 (x1).toNat x2) 49 (x1).toNat 0) H 
            · have H := ite_T H hc
              refine R_bipush (dX10_sheet 23 rfl) rfl rfl ?_
              exact R_iret rfl rfl (Nat.zero_le _) (Nat.zero_le _) (dX10_sheet 24 rfl) ⟨congrArg (fun z => some (Sum.inl z)) (Prod.mk.inj (Option.some.inj H)).1, rfl, (Prod.mk.inj (Option.some.inj H)).2⟩
        · have H := ite_T H hc
          refine R_bipush (dX10_sheet 16 rfl) rfl rfl ?_
          exact R_iret rfl rfl (Nat.zero_le _) (Nat.zero_le _) (dX10_sheet 17 rfl) ⟨congrArg (fun z => some (Sum.inl z)) (Prod.mk.inj (Option.some.inj H)).1, rfl, (Prod.mk.inj (Option.some.inj H)).2⟩
def f_X10_cell (x1 : Int) (x2 : Int) (x3 : Int) (M : Mem) : Option (Int × Mem) :=
  if f_X10_in x1 0 3 = 0 then
    some ((-2), M)
  else
    if 0 ≤ x1 ∧ x1 < 4 then
      if M 48 (x1).toNat = (-1) then
        some ((-11), M)
      else
        if 0 ≤ x1 ∧ x1 < 4 then
          if f_X10_in x2 0 (w32 ((M 49 (x1).toNat) - 1)) = 0 then
            some ((-12), M)
          else
            if 0 ≤ x1 ∧ x1 < 4 then
              if M 48 (x1).toNat = 0 then
                if 0 ≤ w32 ((w32 (40 * x1)) + x2) ∧ w32 ((w32 (40 * x1)) + x2) < 160 then
                  some (1, (mset M 50 (w32 ((w32 (40 * x1)) + x2)).toNat (b_i2b x3)))
                else none
              else
                if 0 ≤ x1 ∧ x1 < 4 then
                  if M 48 (x1).toNat = 1 then
                    if 0 ≤ w32 ((w32 (40 * x1)) + x2) ∧ w32 ((w32 (40 * x1)) + x2) < 160 then
                      some (1, (mset M 50 (w32 ((w32 (40 * x1)) + x2)).toNat (b_i2s x3)))
                    else none
                  else
                    if 0 ≤ w32 ((w32 (40 * x1)) + x2) ∧ w32 ((w32 (40 * x1)) + x2) < 160 then
                      some (1, (mset M 50 (w32 ((w32 (40 * x1)) + x2)).toNat x3))
                    else none
                else none
            else none
        else none
    else none
set_option maxHeartbeats 4000000 in
theorem t_X10_cell (l : Launch) (g : GG) (ad : Nat → Nat) (S : SW) (M : Mem) (hS : q_ag 38 63 ad S) (x1 : Int) (x2 : Int) (x3 : Int) {r : Int} {M' : Mem} (H : f_X10_cell x1 x2 x3 M = some (r, M')) : CT l g MX10_cell 2 0 0 S M [.inr (.inr (some (ad 38))), .inl x1, .inl x2, .inl x3] (q_ex S (some (.inl r)) M') := by
  unfold f_X10_cell at H
  refine CT_of (ls0 := [some (.inr (.inr (some (ad 38)))), some (.inl x1), some (.inl x2), some (.inl x3)]) (by decide +kernel) (Nat.le_of_ble_eq_true rfl) rfl ?_
  refine R_iload_n (i := 1) (dX10_cell 0 rfl) rfl rfl ?_
  refine R_iconst (dX10_cell 1 rfl) rfl ?_
  refine R_iconst (dX10_cell 2 rfl) rfl ?_
  refine R_cS (st' := [.inl (f_X10_in x1 0 3)]) [.inl x1, .inl 0, .inl 3] [] (t_X10_in l g S _   x1 0 3) msX10_in (Or.inl tb_1083) ⟨Nat.le_of_ble_eq_true rfl, Nat.le_of_ble_eq_true rfl⟩ (Nat.zero_le _) (Nat.zero_le _) rfl rfl (Nat.le_of_ble_eq_true rfl) rfl (dX10_cell 3 rfl) ?_
  refine R_if_ne (tgt := 12) (dX10_cell 4 rfl) (by decide) (fun hc => ?_) (fun hc => ?_)
  · have H := ite_F H hc
    refine R_aload_n (i := 0) (dX10_cell 7 rfl) rfl rfl ?_
    refine R_getR cgX10 38 (cl38 hS) 22 (Nat.le_of_ble_eq_true rfl) rfl (Or.inl tb_1149) (dX10_cell 8 rfl) ?_
    refine R_iload_n (i := 1) (dX10_cell 9 rfl) rfl rfl ?_
    obtain ⟨hg, H⟩ := ite_G H
    refine R_iald 48 (cl48 hS) hg (dX10_cell 10 rfl) ?_
    refine R_iconst (dX10_cell 11 rfl) rfl ?_
    refine R_icmp_ne (tgt := 25) (dX10_cell 12 rfl) (by decide) (fun hc => ?_) (fun hc => ?_)
    · have H := ite_F H hc
      refine R_iload_n (i := 2) (dX10_cell 15 rfl) rfl rfl ?_
      refine R_iconst (dX10_cell 16 rfl) rfl ?_
      refine R_aload_n (i := 0) (dX10_cell 17 rfl) rfl rfl ?_
      refine R_getR cgX10 38 (cl38 hS) 23 (Nat.le_of_ble_eq_true rfl) rfl (Or.inl tb_1150) (dX10_cell 18 rfl) ?_
      refine R_iload_n (i := 1) (dX10_cell 19 rfl) rfl rfl ?_
      obtain ⟨hg, H⟩ := ite_G H
      refine R_iald 49 (cl49 hS) hg (dX10_cell 20 rfl) ?_
      refine R_iconst (dX10_cell 21 rfl) rfl ?_
      refine R_isub (dX10_cell 22 rfl) ?_
      refine R_cS (st' := [.inl (f_X10_in x2 0 (w32 ((M 49 (x1).toNat) - 1)))]) [.inl x2, .inl 0, .inl (w32 ((M 49 (x1).toNat) - 1))] [] (t_X10_in l g S _   x2 0 (w32 ((M 49 (x1).toNat) - 1))) msX10_in (Or.inl tb_1083) ⟨Nat.le_of_ble_eq_true rfl, Nat.le_of_ble_eq_true rfl⟩ (Nat.zero_le _) (Nat.zero_le _) rfl rfl (Nat.le_of_ble_eq_true rfl) rfl (dX10_cell 23 rfl) ?_
      refine R_if_ne (tgt := 44) (dX10_cell 24 rfl) (by decide) (fun hc => ?_) (fun hc => ?_)
      · have H := ite_F H hc
        refine R_aload_n (i := 0) (dX10_cell 27 rfl) rfl rfl ?_
        refine R_getR cgX10 38 (cl38 hS) 24 (Nat.le_of_ble_eq_true rfl) rfl (Or.inl tb_1151) (dX10_cell 28 rfl) ?_
        refine R_bipush (dX10_cell 29 rfl) rfl rfl ?_
        refine R_iload_n (i := 1) (dX10_cell 30 rfl) rfl rfl ?_
        refine R_imul (dX10_cell 31 rfl) ?_
        refine R_iload_n (i := 2) (dX10_cell 32 rfl) rfl rfl ?_
        refine R_iadd (dX10_cell 33 rfl) ?_
        refine R_aload_n (i := 0) (dX10_cell 34 rfl) rfl rfl ?_
        refine R_getR cgX10 38 (cl38 hS) 22 (Nat.le_of_ble_eq_true rfl) rfl (Or.inl tb_1149) (dX10_cell 35 rfl) ?_
        refine R_iload_n (i := 1) (dX10_cell 36 rfl) rfl rfl ?_
        obtain ⟨hg, H⟩ := ite_G H
        refine R_iald 48 (cl48 hS) hg (dX10_cell 37 rfl) ?_
        refine R_if_ne (tgt := 68) (dX10_cell 38 rfl) (by decide) (fun hc => ?_) (fun hc => ?_)
        · have H := ite_F H hc
          refine R_aload_n (i := 0) (dX10_cell 42 rfl) rfl rfl ?_
          refine R_getR cgX10 38 (cl38 hS) 22 (Nat.le_of_ble_eq_true rfl) rfl (Or.inl tb_1149) (dX10_cell 43 rfl) ?_
          refine R_iload_n (i := 1) (dX10_cell 44 rfl) rfl rfl ?_
          obtain ⟨hg, H⟩ := ite_G H
          refine R_iald 48 (cl48 hS) hg (dX10_cell 45 rfl) ?_
          refine R_iconst (dX10_cell 46 rfl) rfl ?_
          refine R_icmp_ne (tgt := 83) (dX10_cell 47 rfl) (by decide) (fun hc => ?_) (fun hc => ?_)
          · have H := ite_F H hc
            refine R_iload_n (i := 3) (dX10_cell 51 rfl) rfl rfl ?_
            obtain ⟨hg, H⟩ := ite_G H
            refine R_iast 50 (cl50 hS) hg (dX10_cell 52 rfl) ?_
            refine R_iconst (dX10_cell 53 rfl) rfl ?_
            exact R_iret rfl rfl (Nat.zero_le _) (Nat.zero_le _) (dX10_cell 54 rfl) ⟨congrArg (fun z => some (Sum.inl z)) (Prod.mk.inj (Option.some.inj H)).1, rfl, (Prod.mk.inj (Option.some.inj H)).2⟩
          · have H := ite_T H hc
            refine R_iload_n (i := 3) (dX10_cell 48 rfl) rfl rfl ?_
            refine R_i2s (dX10_cell 49 rfl) ?_
            refine R_goto (tgt := 84) (dX10_cell 50 rfl) (by decide) ?_
            obtain ⟨hg, H⟩ := ite_G H
            refine R_iast 50 (cl50 hS) hg (dX10_cell 52 rfl) ?_
            refine R_iconst (dX10_cell 53 rfl) rfl ?_
            exact R_iret rfl rfl (Nat.zero_le _) (Nat.zero_le _) (dX10_cell 54 rfl) ⟨congrArg (fun z => some (Sum.inl z)) (Prod.mk.inj (Option.some.inj H)).1, rfl, (Prod.mk.inj (Option.some.inj H)).2⟩
        · have H := ite_T H hc
          refine R_iload_n (i := 3) (dX10_cell 39 rfl) rfl rfl ?_
          refine R_i2b (dX10_cell 40 rfl) ?_
          refine R_goto (tgt := 84) (dX10_cell 41 rfl) (by decide) ?_
          obtain ⟨hg, H⟩ := ite_G H
          refine R_iast 50 (cl50 hS) hg (dX10_cell 52 rfl) ?_
          refine R_iconst (dX10_cell 53 rfl) rfl ?_
          exact R_iret rfl rfl (Nat.zero_le _) (Nat.zero_le _) (dX10_cell 54 rfl) ⟨congrArg (fun z => some (Sum.inl z)) (Prod.mk.inj (Option.some.inj H)).1, rfl, (Prod.mk.inj (Option.some.inj H)).2⟩
      · have H := ite_T H hc
        refine R_bipush (dX10_cell 25 rfl) rfl rfl ?_
        exact R_iret rfl rfl (Nat.zero_le _) (Nat.zero_le _) (dX10_cell 26 rfl) ⟨congrArg (fun z => some (Sum.inl z)) (Prod.mk.inj (Option.some.inj H)).1, rfl, (Prod.mk.inj (Option.some.inj H)).2⟩
    · have H := ite_T H hc
      refine R_bipush (dX10_cell 13 rfl) rfl rfl ?_
      exact R_iret rfl rfl (Nat.zero_le _) (Nat.zero_le _) (dX10_cell 14 rfl) ⟨congrArg (fun z => some (Sum.inl z)) (Prod.mk.inj (Option.some.inj H)).1, rfl, (Prod.mk.inj (Option.some.inj H)).2⟩
  · have H := ite_T H hc
    refine R_bipush (dX10_cell 5 rfl) rfl rfl ?_
    exact R_iret rfl rfl (Nat.zero_le _) (Nat.zero_le _) (dX10_cell 6 rfl) ⟨congrArg (fun z => some (Sum.inl z)) (Prod.mk.inj (Option.some.inj H)).1, rfl, (Prod.mk.inj (Option.some.inj H)).2⟩
def f_X10_copy_L147 (x5 : Int) (x6 : Int) (x7 : Int) : Nat → Int → Mem → Option (Int × Mem)
  | 0, _, _ => none
  | n + 1, x8, M =>
    if x8 < x5 then
      if x6 < x7 then
        if 0 ≤ w32 (x6 + (w32 ((w32 (x5 - 1)) - x8))) ∧ w32 (x6 + (w32 ((w32 (x5 - 1)) - x8))) < 160 then
          if 0 ≤ w32 (x7 + (w32 ((w32 (x5 - 1)) - x8))) ∧ w32 (x7 + (w32 ((w32 (x5 - 1)) - x8))) < 160 then
            f_X10_copy_L147 x5 x6 x7 n (w32 (x8 + 1)) (mset M 50 (w32 (x7 + (w32 ((w32 (x5 - 1)) - x8)))).toNat (M 50 (w32 (x6 + (w32 ((w32 (x5 - 1)) - x8)))).toNat))
          else none
        else none
      else
        if 0 ≤ w32 (x6 + x8) ∧ w32 (x6 + x8) < 160 then
          if 0 ≤ w32 (x7 + x8) ∧ w32 (x7 + x8) < 160 then
            f_X10_copy_L147 x5 x6 x7 n (w32 (x8 + 1)) (mset M 50 (w32 (x7 + x8)).toNat (M 50 (w32 (x6 + x8)).toNat))
          else none
        else none
    else
      some (x5, M)
set_option maxHeartbeats 4000000 in
theorem t_X10_copy_L147 (l : Launch) (g : GG) (ad : Nat → Nat) (S : SW) (hS : q_ag 38 63 ad S) (x5 : Int) (x6 : Int) (x7 : Int) {r : Int} {M' : Mem} : ∀ (n : Nat) (x8 : Int) (M : Mem), f_X10_copy_L147 x5 x6 x7 n x8 M = some (r, M') → RW l g MX10_copy (q_rm 2 0 0) 0 0 (q_ex S (some (.inl r)) M') 147 S M 0 0 [some (.inr (.inr (some (ad 38)))), none, none, none, none, some (.inl x5), some (.inl x6), some (.inl x7), some (.inl x8), none] [] := by
  intro n
  induction n with
  | zero => intro x8 M H; exact absurd H (by simp [f_X10_copy_L147])
  | succ n ih =>
    intro x8 M H
    rw [f_X10_copy_L147] at H
    refine R_iload (i := 8) (dX10_copy_1 27 rfl) rfl ?_
    refine R_iload (i := 5) (dX10_copy_1 28 rfl) rfl ?_
    refine R_icmp_ge (tgt := 201) (dX10_copy_1 29 rfl) (by decide) (fun hc => ?_) (fun hc => ?_)
    · have H := ite_F H hc
      refine R_iload (i := 5) (dX10_copy_1 55 rfl) rfl ?_
      exact R_iret rfl rfl (Nat.zero_le _) (Nat.zero_le _) (dX10_copy_1 56 rfl) ⟨congrArg (fun z => some (Sum.inl z)) (Prod.mk.inj (Option.some.inj H)).1, rfl, (Prod.mk.inj (Option.some.inj H)).2⟩
    · have H := ite_T H hc
      refine R_iload (i := 6) (dX10_copy_1 30 rfl) rfl ?_
      refine R_iload (i := 7) (dX10_copy_1 31 rfl) rfl ?_
      refine R_icmp_ge (tgt := 171) (dX10_copy_1 32 rfl) (by decide) (fun hc => ?_) (fun hc => ?_)
      · have H := ite_F H hc
        refine R_iload (i := 8) (dX10_copy_1 39 rfl) rfl ?_
        refine R_istore (i := 9) (ls' := [some (.inr (.inr (some (ad 38)))), none, none, none, none, some (.inl x5), some (.inl x6), some (.inl x7), some (.inl x8), some (.inl x8)]) (dX10_copy_1 40 rfl) (Nat.le_of_ble_eq_true rfl) (Nat.le_of_ble_eq_true rfl) rfl rfl ?_
        refine R_aload_n (i := 0) (dX10_copy_1 41 rfl) rfl rfl ?_
        refine R_getR cgX10 38 (cl38 hS) 24 (Nat.le_of_ble_eq_true rfl) rfl (Or.inl tb_1151) (dX10_copy_1 42 rfl) ?_
        refine R_iload (i := 7) (dX10_copy_1 43 rfl) rfl ?_
        refine R_iload (i := 9) (dX10_copy_1 44 rfl) rfl ?_
        refine R_iadd (dX10_copy_1 45 rfl) ?_
        refine R_aload_n (i := 0) (dX10_copy_1 46 rfl) rfl rfl ?_
        refine R_getR cgX10 38 (cl38 hS) 24 (Nat.le_of_ble_eq_true rfl) rfl (Or.inl tb_1151) (dX10_copy_1 47 rfl) ?_
        refine R_iload (i := 6) (dX10_copy_1 48 rfl) rfl ?_
        refine R_iload (i := 9) (dX10_copy_1 49 rfl) rfl ?_
        refine R_iadd (dX10_copy_1 50 rfl) ?_
        obtain ⟨hg, H⟩ := ite_G H
        refine R_iald 50 (cl50 hS) hg (dX10_copy_1 51 rfl) ?_
        obtain ⟨hg, H⟩ := ite_G H
        refine R_iast 50 (cl50 hS) hg (dX10_copy_1 52 rfl) ?_
        refine R_iinc (i := 8) (ls' := [some (.inr (.inr (some (ad 38)))), none, none, none, none, some (.inl x5), some (.inl x6), some (.inl x7), some (.inl (w32 (x8 + 1))), some (.inl x8)]) (dX10_copy_1 53 rfl) rfl (Nat.le_of_ble_eq_true rfl) rfl rfl ?_
        refine R_goto (tgt := 147) (dX10_copy_1 54 rfl) (by decide) ?_
        refine R_mask [true, false, false, false, false, true, true, true, true, false] rfl ?_
        exact ih (w32 (x8 + 1)) (mset M 50 (w32 (x7 + x8)).toNat (M 50 (w32 (x6 + x8)).toNat)) H
      · have H := ite_T H hc
        refine R_iload (i := 5) (dX10_copy_1 33 rfl) rfl ?_
        refine R_iconst (dX10_copy_1 34 rfl) rfl ?_
        refine R_isub (dX10_copy_1 35 rfl) ?_
        refine R_iload (i := 8) (dX10_copy_1 36 rfl) rfl ?_
        refine R_isub (dX10_copy_1 37 rfl) ?_
        refine R_goto (tgt := 173) (dX10_copy_1 38 rfl) (by decide) ?_
        refine R_istore (i := 9) (ls' := [some (.inr (.inr (some (ad 38)))), none, none, none, none, some (.inl x5), some (.inl x6), some (.inl x7), some (.inl x8), some (.inl (w32 ((w32 (x5 - 1)) - x8)))]) (dX10_copy_1 40 rfl) (Nat.le_of_ble_eq_true rfl) (Nat.le_of_ble_eq_true rfl) rfl rfl ?_
        refine R_aload_n (i := 0) (dX10_copy_1 41 rfl) rfl rfl ?_
        refine R_getR cgX10 38 (cl38 hS) 24 (Nat.le_of_ble_eq_true rfl) rfl (Or.inl tb_1151) (dX10_copy_1 42 rfl) ?_
        refine R_iload (i := 7) (dX10_copy_1 43 rfl) rfl ?_
        refine R_iload (i := 9) (dX10_copy_1 44 rfl) rfl ?_
        refine R_iadd (dX10_copy_1 45 rfl) ?_
        refine R_aload_n (i := 0) (dX10_copy_1 46 rfl) rfl rfl ?_
        refine R_getR cgX10 38 (cl38 hS) 24 (Nat.le_of_ble_eq_true rfl) rfl (Or.inl tb_1151) (dX10_copy_1 47 rfl) ?_
        refine R_iload (i := 6) (dX10_copy_1 48 rfl) rfl ?_
        refine R_iload (i := 9) (dX10_copy_1 49 rfl) rfl ?_
        refine R_iadd (dX10_copy_1 50 rfl) ?_
        obtain ⟨hg, H⟩ := ite_G H
        refine R_iald 50 (cl50 hS) hg (dX10_copy_1 51 rfl) ?_
        obtain ⟨hg, H⟩ := ite_G H
        refine R_iast 50 (cl50 hS) hg (dX10_copy_1 52 rfl) ?_
        refine R_iinc (i := 8) (ls' := [some (.inr (.inr (some (ad 38)))), none, none, none, none, some (.inl x5), some (.inl x6), some (.inl x7), some (.inl (w32 (x8 + 1))), some (.inl (w32 ((w32 (x5 - 1)) - x8)))]) (dX10_copy_1 53 rfl) rfl (Nat.le_of_ble_eq_true rfl) rfl rfl ?_
        refine R_goto (tgt := 147) (dX10_copy_1 54 rfl) (by decide) ?_
        refine R_mask [true, false, false, false, false, true, true, true, true, false] rfl ?_
        exact ih (w32 (x8 + 1)) (mset M 50 (w32 (x7 + (w32 ((w32 (x5 - 1)) - x8)))).toNat (M 50 (w32 (x6 + (w32 ((w32 (x5 - 1)) - x8)))).toNat)) H
def f_X10_copy (x1 : Int) (x2 : Int) (x3 : Int) (x4 : Int) (x5 : Int) (M : Mem) : Option (Int × Mem) :=
  if f_X10_in x1 0 3 = 0 then
    some ((-2), M)
  else
    if f_X10_in x3 0 3 = 0 then
      some ((-2), M)
    else
      if 0 ≤ x1 ∧ x1 < 4 then
        if M 48 (x1).toNat = (-1) then
          some ((-11), M)
        else
          if 0 ≤ x3 ∧ x3 < 4 then
            if M 48 (x3).toNat = (-1) then
              some ((-11), M)
            else
              if 0 ≤ x1 ∧ x1 < 4 then
                if 0 ≤ x3 ∧ x3 < 4 then
                  if M 48 (x1).toNat = M 48 (x3).toNat then
                    if x5 < 0 then
                      some ((-12), M)
                    else
                      if x2 < 0 then
                        some ((-12), M)
                      else
                        if x4 < 0 then
                          some ((-12), M)
                        else
                          if 0 ≤ x1 ∧ x1 < 4 then
                            if M 49 (x1).toNat < x2 then
                              some ((-12), M)
                            else
                              if 0 ≤ x3 ∧ x3 < 4 then
                                if M 49 (x3).toNat < x4 then
                                  some ((-12), M)
                                else
                                  if 0 ≤ x1 ∧ x1 < 4 then
                                    if w32 ((M 49 (x1).toNat) - x2) < x5 then
                                      some ((-12), M)
                                    else
                                      if 0 ≤ x3 ∧ x3 < 4 then
                                        if w32 ((M 49 (x3).toNat) - x4) < x5 then
                                          some ((-12), M)
                                        else
                                          f_X10_copy_L147
                                            x5 (w32 ((w32 (40 * x1)) + x2)) (w32 ((w32 (40 * x3)) + x4)) 100000 0 M
                                      else none
                                  else none
                              else none
                          else none
                  else
                    some ((-13), M)
                else none
              else none
          else none
      else none
set_option maxHeartbeats 4000000 in
theorem t_X10_copy (l : Launch) (g : GG) (ad : Nat → Nat) (S : SW) (M : Mem) (hS : q_ag 38 63 ad S) (x1 : Int) (x2 : Int) (x3 : Int) (x4 : Int) (x5 : Int) {r : Int} {M' : Mem} (H : f_X10_copy x1 x2 x3 x4 x5 M = some (r, M')) : CT l g MX10_copy 2 0 0 S M [.inr (.inr (some (ad 38))), .inl x1, .inl x2, .inl x3, .inl x4, .inl x5] (q_ex S (some (.inl r)) M') := by
  unfold f_X10_copy at H
  refine CT_of (ls0 := [some (.inr (.inr (some (ad 38)))), some (.inl x1), some (.inl x2), some (.inl x3), some (.inl x4), some (.inl x5), none, none, none, none]) (by decide +kernel) (Nat.le_of_ble_eq_true rfl) rfl ?_
  refine R_iload_n (i := 1) (dX10_copy_0 0 rfl) rfl rfl ?_
  refine R_iconst (dX10_copy_0 1 rfl) rfl ?_
  refine R_iconst (dX10_copy_0 2 rfl) rfl ?_
  refine R_cS (st' := [.inl (f_X10_in x1 0 3)]) [.inl x1, .inl 0, .inl 3] [] (t_X10_in l g S _   x1 0 3) msX10_in (Or.inl tb_1083) ⟨Nat.le_of_ble_eq_true rfl, Nat.le_of_ble_eq_true rfl⟩ (Nat.zero_le _) (Nat.zero_le _) rfl rfl (Nat.le_of_ble_eq_true rfl) rfl (dX10_copy_0 3 rfl) ?_
  refine R_if_eq (tgt := 18) (dX10_copy_0 4 rfl) (by decide) (fun hc => ?_) (fun hc => ?_)
  · have H := ite_T H hc
    refine R_bipush (dX10_copy_0 10 rfl) rfl rfl ?_
    exact R_iret rfl rfl (Nat.zero_le _) (Nat.zero_le _) (dX10_copy_0 11 rfl) ⟨congrArg (fun z => some (Sum.inl z)) (Prod.mk.inj (Option.some.inj H)).1, rfl, (Prod.mk.inj (Option.some.inj H)).2⟩
  · have H := ite_F H hc
    refine R_iload_n (i := 3) (dX10_copy_0 5 rfl) rfl rfl ?_
    refine R_iconst (dX10_copy_0 6 rfl) rfl ?_
    refine R_iconst (dX10_copy_0 7 rfl) rfl ?_
    refine R_cS (st' := [.inl (f_X10_in x3 0 3)]) [.inl x3, .inl 0, .inl 3] [] (t_X10_in l g S _   x3 0 3) msX10_in (Or.inl tb_1083) ⟨Nat.le_of_ble_eq_true rfl, Nat.le_of_ble_eq_true rfl⟩ (Nat.zero_le _) (Nat.zero_le _) rfl rfl (Nat.le_of_ble_eq_true rfl) rfl (dX10_copy_0 8 rfl) ?_
    refine R_if_ne (tgt := 21) (dX10_copy_0 9 rfl) (by decide) (fun hc => ?_) (fun hc => ?_)
    · have H := ite_F H hc
      refine R_aload_n (i := 0) (dX10_copy_0 12 rfl) rfl rfl ?_
      refine R_getR cgX10 38 (cl38 hS) 22 (Nat.le_of_ble_eq_true rfl) rfl (Or.inl tb_1149) (dX10_copy_0 13 rfl) ?_
      refine R_iload_n (i := 1) (dX10_copy_0 14 rfl) rfl rfl ?_
      obtain ⟨hg, H⟩ := ite_G H
      refine R_iald 48 (cl48 hS) hg (dX10_copy_0 15 rfl) ?_
      refine R_iconst (dX10_copy_0 16 rfl) rfl ?_
      refine R_icmp_eq (tgt := 41) (dX10_copy_0 17 rfl) (by decide) (fun hc => ?_) (fun hc => ?_)
      · have H := ite_T H hc
        refine R_bipush (dX10_copy_0 24 rfl) rfl rfl ?_
        exact R_iret rfl rfl (Nat.zero_le _) (Nat.zero_le _) (dX10_copy_0 25 rfl) ⟨congrArg (fun z => some (Sum.inl z)) (Prod.mk.inj (Option.some.inj H)).1, rfl, (Prod.mk.inj (Option.some.inj H)).2⟩
      · have H := ite_F H hc
        refine R_aload_n (i := 0) (dX10_copy_0 18 rfl) rfl rfl ?_
        refine R_getR cgX10 38 (cl38 hS) 22 (Nat.le_of_ble_eq_true rfl) rfl (Or.inl tb_1149) (dX10_copy_0 19 rfl) ?_
        refine R_iload_n (i := 3) (dX10_copy_0 20 rfl) rfl rfl ?_
        obtain ⟨hg, H⟩ := ite_G H
        refine R_iald 48 (cl48 hS) hg (dX10_copy_0 21 rfl) ?_
        refine R_iconst (dX10_copy_0 22 rfl) rfl ?_
        refine R_icmp_ne (tgt := 44) (dX10_copy_0 23 rfl) (by decide) (fun hc => ?_) (fun hc => ?_)
        · have H := ite_F H hc
          refine R_aload_n (i := 0) (dX10_copy_0 26 rfl) rfl rfl ?_
          refine R_getR cgX10 38 (cl38 hS) 22 (Nat.le_of_ble_eq_true rfl) rfl (Or.inl tb_1149) (dX10_copy_0 27 rfl) ?_
          refine R_iload_n (i := 1) (dX10_copy_0 28 rfl) rfl rfl ?_
          obtain ⟨hg, H⟩ := ite_G H
          refine R_iald 48 (cl48 hS) hg (dX10_copy_0 29 rfl) ?_
          refine R_aload_n (i := 0) (dX10_copy_0 30 rfl) rfl rfl ?_
          refine R_getR cgX10 38 (cl38 hS) 22 (Nat.le_of_ble_eq_true rfl) rfl (Or.inl tb_1149) (dX10_copy_0 31 rfl) ?_
          refine R_iload_n (i := 3) (dX10_copy_0 32 rfl) rfl rfl ?_
          obtain ⟨hg, H⟩ := ite_G H
          refine R_iald 48 (cl48 hS) hg (dX10_copy_0 33 rfl) ?_
          refine R_icmp_eq (tgt := 62) (dX10_copy_0 34 rfl) (by decide) (fun hc => ?_) (fun hc => ?_)
          · have H := ite_T H hc
            refine R_iload (i := 5) (dX10_copy_0 37 rfl) rfl ?_
            refine R_if_lt (tgt := 124) (dX10_copy_0 38 rfl) (by decide) (fun hc => ?_) (fun hc => ?_)
            · have H := ite_T H hc
              refine R_bipush (dX10_copy_1 11 rfl) rfl rfl ?_
              exact R_iret rfl rfl (Nat.zero_le _) (Nat.zero_le _) (dX10_copy_1 12 rfl) ⟨congrArg (fun z => some (Sum.inl z)) (Prod.mk.inj (Option.some.inj H)).1, rfl, (Prod.mk.inj (Option.some.inj H)).2⟩
            · have H := ite_F H hc
              refine R_iload_n (i := 2) (dX10_copy_0 39 rfl) rfl rfl ?_
              refine R_if_lt (tgt := 124) (dX10_copy_0 40 rfl) (by decide) (fun hc => ?_) (fun hc => ?_)
              · have H := ite_T H hc
                refine R_bipush (dX10_copy_1 11 rfl) rfl rfl ?_
                exact R_iret rfl rfl (Nat.zero_le _) (Nat.zero_le _) (dX10_copy_1 12 rfl) ⟨congrArg (fun z => some (Sum.inl z)) (Prod.mk.inj (Option.some.inj H)).1, rfl, (Prod.mk.inj (Option.some.inj H)).2⟩
              · have H := ite_F H hc
                refine R_iload (i := 4) (dX10_copy_0 41 rfl) rfl ?_
                refine R_if_lt (tgt := 124) (dX10_copy_0 42 rfl) (by decide) (fun hc => ?_) (fun hc => ?_)
                · have H := ite_T H hc
                  refine R_bipush (dX10_copy_1 11 rfl) rfl rfl ?_
                  exact R_iret rfl rfl (Nat.zero_le _) (Nat.zero_le _) (dX10_copy_1 12 rfl) ⟨congrArg (fun z => some (Sum.inl z)) (Prod.mk.inj (Option.some.inj H)).1, rfl, (Prod.mk.inj (Option.some.inj H)).2⟩
                · have H := ite_F H hc
                  refine R_iload_n (i := 2) (dX10_copy_0 43 rfl) rfl rfl ?_
                  refine R_aload_n (i := 0) (dX10_copy_0 44 rfl) rfl rfl ?_
                  refine R_getR cgX10 38 (cl38 hS) 23 (Nat.le_of_ble_eq_true rfl) rfl (Or.inl tb_1150) (dX10_copy_0 45 rfl) ?_
                  refine R_iload_n (i := 1) (dX10_copy_0 46 rfl) rfl rfl ?_
                  obtain ⟨hg, H⟩ := ite_G H
                  refine R_iald 49 (cl49 hS) hg (dX10_copy_0 47 rfl) ?_
                  refine R_icmp_gt (tgt := 124) (dX10_copy_0 48 rfl) (by decide) (fun hc => ?_) (fun hc => ?_)
                  · have H := ite_T H hc
                    refine R_bipush (dX10_copy_1 11 rfl) rfl rfl ?_
                    exact R_iret rfl rfl (Nat.zero_le _) (Nat.zero_le _) (dX10_copy_1 12 rfl) ⟨congrArg (fun z => some (Sum.inl z)) (Prod.mk.inj (Option.some.inj H)).1, rfl, (Prod.mk.inj (Option.some.inj H)).2⟩
                  · have H := ite_F H hc
                    refine R_iload (i := 4) (dX10_copy_0 49 rfl) rfl ?_
                    refine R_aload_n (i := 0) (dX10_copy_0 50 rfl) rfl rfl ?_
                    refine R_getR cgX10 38 (cl38 hS) 23 (Nat.le_of_ble_eq_true rfl) rfl (Or.inl tb_1150) (dX10_copy_0 51 rfl) ?_
                    refine R_iload_n (i := 3) (dX10_copy_0 52 rfl) rfl rfl ?_
                    obtain ⟨hg, H⟩ := ite_G H
                    refine R_iald 49 (cl49 hS) hg (dX10_copy_0 53 rfl) ?_
                    refine R_icmp_gt (tgt := 124) (dX10_copy_0 54 rfl) (by decide) (fun hc => ?_) (fun hc => ?_)
                    · have H := ite_T H hc
                      refine R_bipush (dX10_copy_1 11 rfl) rfl rfl ?_
                      exact R_iret rfl rfl (Nat.zero_le _) (Nat.zero_le _) (dX10_copy_1 12 rfl) ⟨congrArg (fun z => some (Sum.inl z)) (Prod.mk.inj (Option.some.inj H)).1, rfl, (Prod.mk.inj (Option.some.inj H)).2⟩
                    · have H := ite_F H hc
                      refine R_iload (i := 5) (dX10_copy_0 55 rfl) rfl ?_
                      refine R_aload_n (i := 0) (dX10_copy_0 56 rfl) rfl rfl ?_
                      refine R_getR cgX10 38 (cl38 hS) 23 (Nat.le_of_ble_eq_true rfl) rfl (Or.inl tb_1150) (dX10_copy_0 57 rfl) ?_
                      refine R_iload_n (i := 1) (dX10_copy_0 58 rfl) rfl rfl ?_
                      obtain ⟨hg, H⟩ := ite_G H
                      refine R_iald 49 (cl49 hS) hg (dX10_copy_0 59 rfl) ?_
                      refine R_iload_n (i := 2) (dX10_copy_1 0 rfl) rfl rfl ?_
                      refine R_isub (dX10_copy_1 1 rfl) ?_
                      refine R_icmp_gt (tgt := 124) (dX10_copy_1 2 rfl) (by decide) (fun hc => ?_) (fun hc => ?_)
                      · have H := ite_T H hc
                        refine R_bipush (dX10_copy_1 11 rfl) rfl rfl ?_
                        exact R_iret rfl rfl (Nat.zero_le _) (Nat.zero_le _) (dX10_copy_1 12 rfl) ⟨congrArg (fun z => some (Sum.inl z)) (Prod.mk.inj (Option.some.inj H)).1, rfl, (Prod.mk.inj (Option.some.inj H)).2⟩
                      · have H := ite_F H hc
                        refine R_iload (i := 5) (dX10_copy_1 3 rfl) rfl ?_
                        refine R_aload_n (i := 0) (dX10_copy_1 4 rfl) rfl rfl ?_
                        refine R_getR cgX10 38 (cl38 hS) 23 (Nat.le_of_ble_eq_true rfl) rfl (Or.inl tb_1150) (dX10_copy_1 5 rfl) ?_
                        refine R_iload_n (i := 3) (dX10_copy_1 6 rfl) rfl rfl ?_
                        obtain ⟨hg, H⟩ := ite_G H
                        refine R_iald 49 (cl49 hS) hg (dX10_copy_1 7 rfl) ?_
                        refine R_iload (i := 4) (dX10_copy_1 8 rfl) rfl ?_
                        refine R_isub (dX10_copy_1 9 rfl) ?_
                        refine R_icmp_le (tgt := 127) (dX10_copy_1 10 rfl) (by decide) (fun hc => ?_) (fun hc => ?_)
                        · have H := ite_F H hc
                          refine R_bipush (dX10_copy_1 13 rfl) rfl rfl ?_
                          refine R_iload_n (i := 1) (dX10_copy_1 14 rfl) rfl rfl ?_
                          refine R_imul (dX10_copy_1 15 rfl) ?_
                          refine R_iload_n (i := 2) (dX10_copy_1 16 rfl) rfl rfl ?_
                          refine R_iadd (dX10_copy_1 17 rfl) ?_
                          refine R_istore (i := 6) (ls' := [some (.inr (.inr (some (ad 38)))), some (.inl x1), some (.inl x2), some (.inl x3), some (.inl x4), some (.inl x5), some (.inl (w32 ((w32 (40 * x1)) + x2))), none, none, none]) (dX10_copy_1 18 rfl) (Nat.le_of_ble_eq_true rfl) (Nat.le_of_ble_eq_true rfl) rfl rfl ?_
                          refine R_bipush (dX10_copy_1 19 rfl) rfl rfl ?_
                          refine R_iload_n (i := 3) (dX10_copy_1 20 rfl) rfl rfl ?_
                          refine R_imul (dX10_copy_1 21 rfl) ?_
                          refine R_iload (i := 4) (dX10_copy_1 22 rfl) rfl ?_
                          refine R_iadd (dX10_copy_1 23 rfl) ?_
                          refine R_istore (i := 7) (ls' := [some (.inr (.inr (some (ad 38)))), some (.inl x1), some (.inl x2), some (.inl x3), some (.inl x4), some (.inl x5), some (.inl (w32 ((w32 (40 * x1)) + x2))), some (.inl (w32 ((w32 (40 * x3)) + x4))), none, none]) (dX10_copy_1 24 rfl) (Nat.le_of_ble_eq_true rfl) (Nat.le_of_ble_eq_true rfl) rfl rfl ?_
                          refine R_iconst (dX10_copy_1 25 rfl) rfl ?_
                          refine R_istore (i := 8) (ls' := [some (.inr (.inr (some (ad 38)))), some (.inl x1), some (.inl x2), some (.inl x3), some (.inl x4), some (.inl x5), some (.inl (w32 ((w32 (40 * x1)) + x2))), some (.inl (w32 ((w32 (40 * x3)) + x4))), some (.inl 0), none]) (dX10_copy_1 26 rfl) (Nat.le_of_ble_eq_true rfl) (Nat.le_of_ble_eq_true rfl) rfl rfl ?_
                          refine R_mask [true, false, false, false, false, true, true, true, true, false] rfl ?_
                          exact t_X10_copy_L147 l g ad S hS x5 (w32 ((w32 (40 * x1)) + x2)) (w32 ((w32 (40 * x3)) + x4))  100000 0 M H 
                        · have H := ite_T H hc
                          refine R_bipush (dX10_copy_1 11 rfl) rfl rfl ?_
                          exact R_iret rfl rfl (Nat.zero_le _) (Nat.zero_le _) (dX10_copy_1 12 rfl) ⟨congrArg (fun z => some (Sum.inl z)) (Prod.mk.inj (Option.some.inj H)).1, rfl, (Prod.mk.inj (Option.some.inj H)).2⟩
          · have H := ite_F H hc
            refine R_bipush (dX10_copy_0 35 rfl) rfl rfl ?_
            exact R_iret rfl rfl (Nat.zero_le _) (Nat.zero_le _) (dX10_copy_0 36 rfl) ⟨congrArg (fun z => some (Sum.inl z)) (Prod.mk.inj (Option.some.inj H)).1, rfl, (Prod.mk.inj (Option.some.inj H)).2⟩
        · have H := ite_T H hc
          refine R_bipush (dX10_copy_0 24 rfl) rfl rfl ?_
          exact R_iret rfl rfl (Nat.zero_le _) (Nat.zero_le _) (dX10_copy_0 25 rfl) ⟨congrArg (fun z => some (Sum.inl z)) (Prod.mk.inj (Option.some.inj H)).1, rfl, (Prod.mk.inj (Option.some.inj H)).2⟩
    · have H := ite_T H hc
      refine R_bipush (dX10_copy_0 10 rfl) rfl rfl ?_
      exact R_iret rfl rfl (Nat.zero_le _) (Nat.zero_le _) (dX10_copy_0 11 rfl) ⟨congrArg (fun z => some (Sum.inl z)) (Prod.mk.inj (Option.some.inj H)).1, rfl, (Prod.mk.inj (Option.some.inj H)).2⟩
def f_X10_linesBy_L64 (x1 : Int) (x3 : Int) (x4 : Int) : Nat → Int → Int → Mem → Option (Int × Mem)
  | 0, _, _, _ => none
  | n + 1, x5, x6, M =>
    if x6 < x4 then
      if x3 < 0 then
        some ((-12), M)
      else
        if w32 (x3 + (w32 (2 * x6))) < x3 then
          some ((-12), M)
        else
          if 0 ≤ x1 ∧ x1 < 4 then
            if w32 ((M 49 (x1).toNat) - 2) < w32 (x3 + (w32 (2 * x6))) then
              some ((-12), M)
            else
              if 0 ≤ w32 ((w32 (40 * x1)) + (w32 (x3 + (w32 (2 * x6))))) ∧ w32 ((w32 (40 * x1)) + (w32 (x3 + (w32 (2 * x6))))) < 160 then
                if 0 ≤ w32 ((w32 ((w32 (40 * x1)) + (w32 (x3 + (w32 (2 * x6)))))) + 1) ∧ w32 ((w32 ((w32 (40 * x1)) + (w32 (x3 + (w32 (2 * x6)))))) + 1) < 160 then
                  ob (f_X10_line (M 50 (w32 ((w32 (40 * x1)) + (w32 (x3 + (w32 (2 * x6)))))).toNat) (M 50 (w32 ((w32 ((w32 (40 * x1)) + (w32 (x3 + (w32 (2 * x6)))))) + 1)).toNat) M) fun r563 M564 =>
                  if r563 < 0 then
                    f_X10_linesBy_L64 x1 x3 x4 n (w32 (x5 + 0)) (w32 (x6 + 1)) M564
                  else
                    f_X10_linesBy_L64 x1 x3 x4 n (w32 (x5 + 1)) (w32 (x6 + 1)) M564
                else none
              else none
          else none
    else
      some (x5, M)
set_option maxHeartbeats 4000000 in
theorem t_X10_linesBy_L64 (l : Launch) (g : GG) (ad : Nat → Nat) (S : SW) (hS : q_ag 38 63 ad S) (x1 : Int) (x3 : Int) (x4 : Int) {r : Int} {M' : Mem} : ∀ (n : Nat) (x5 : Int) (x6 : Int) (M : Mem), f_X10_linesBy_L64 x1 x3 x4 n x5 x6 M = some (r, M') → RW l g MX10_linesBy (q_rm 3 0 0) 0 0 (q_ex S (some (.inl r)) M') 64 S M 0 0 [some (.inr (.inr (some (ad 38)))), some (.inl x1), none, some (.inl x3), some (.inl x4), some (.inl x5), some (.inl x6), none, none] [] := by
  intro n
  induction n with
  | zero => intro x5 x6 M H; exact absurd H (by simp [f_X10_linesBy_L64])
  | succ n ih =>
    intro x5 x6 M H
    rw [f_X10_linesBy_L64] at H
    refine R_iload (i := 6) (dX10_linesBy_0 37 rfl) rfl ?_
    refine R_iload (i := 4) (dX10_linesBy_0 38 rfl) rfl ?_
    refine R_icmp_ge (tgt := 153) (dX10_linesBy_0 39 rfl) (by decide) (fun hc => ?_) (fun hc => ?_)
    · have H := ite_F H hc
      refine R_iload (i := 5) (dX10_linesBy_1 28 rfl) rfl ?_
      exact R_iret rfl rfl (Nat.zero_le _) (Nat.zero_le _) (dX10_linesBy_1 29 rfl) ⟨congrArg (fun z => some (Sum.inl z)) (Prod.mk.inj (Option.some.inj H)).1, rfl, (Prod.mk.inj (Option.some.inj H)).2⟩
    · have H := ite_T H hc
      refine R_iload_n (i := 3) (dX10_linesBy_0 40 rfl) rfl rfl ?_
      refine R_iconst (dX10_linesBy_0 41 rfl) rfl ?_
      refine R_iload (i := 6) (dX10_linesBy_0 42 rfl) rfl ?_
      refine R_imul (dX10_linesBy_0 43 rfl) ?_
      refine R_iadd (dX10_linesBy_0 44 rfl) ?_
      refine R_istore (i := 7) (ls' := [some (.inr (.inr (some (ad 38)))), some (.inl x1), none, some (.inl x3), some (.inl x4), some (.inl x5), some (.inl x6), some (.inl (w32 (x3 + (w32 (2 * x6))))), none]) (dX10_linesBy_0 45 rfl) (Nat.le_of_ble_eq_true rfl) (Nat.le_of_ble_eq_true rfl) rfl rfl ?_
      refine R_iload_n (i := 3) (dX10_linesBy_0 46 rfl) rfl rfl ?_
      refine R_if_lt (tgt := 102) (dX10_linesBy_0 47 rfl) (by decide) (fun hc => ?_) (fun hc => ?_)
      · have H := ite_T H hc
        refine R_bipush (dX10_linesBy_0 59 rfl) rfl rfl ?_
        exact R_iret rfl rfl (Nat.zero_le _) (Nat.zero_le _) (dX10_linesBy_1 0 rfl) ⟨congrArg (fun z => some (Sum.inl z)) (Prod.mk.inj (Option.some.inj H)).1, rfl, (Prod.mk.inj (Option.some.inj H)).2⟩
      · have H := ite_F H hc
        refine R_iload (i := 7) (dX10_linesBy_0 48 rfl) rfl ?_
        refine R_iload_n (i := 3) (dX10_linesBy_0 49 rfl) rfl rfl ?_
        refine R_icmp_lt (tgt := 102) (dX10_linesBy_0 50 rfl) (by decide) (fun hc => ?_) (fun hc => ?_)
        · have H := ite_T H hc
          refine R_bipush (dX10_linesBy_0 59 rfl) rfl rfl ?_
          exact R_iret rfl rfl (Nat.zero_le _) (Nat.zero_le _) (dX10_linesBy_1 0 rfl) ⟨congrArg (fun z => some (Sum.inl z)) (Prod.mk.inj (Option.some.inj H)).1, rfl, (Prod.mk.inj (Option.some.inj H)).2⟩
        · have H := ite_F H hc
          refine R_iload (i := 7) (dX10_linesBy_0 51 rfl) rfl ?_
          refine R_aload_n (i := 0) (dX10_linesBy_0 52 rfl) rfl rfl ?_
          refine R_getR cgX10 38 (cl38 hS) 23 (Nat.le_of_ble_eq_true rfl) rfl (Or.inl tb_1150) (dX10_linesBy_0 53 rfl) ?_
          refine R_iload_n (i := 1) (dX10_linesBy_0 54 rfl) rfl rfl ?_
          obtain ⟨hg, H⟩ := ite_G H
          refine R_iald 49 (cl49 hS) hg (dX10_linesBy_0 55 rfl) ?_
          refine R_iconst (dX10_linesBy_0 56 rfl) rfl ?_
          refine R_isub (dX10_linesBy_0 57 rfl) ?_
          refine R_icmp_le (tgt := 105) (dX10_linesBy_0 58 rfl) (by decide) (fun hc => ?_) (fun hc => ?_)
          · have H := ite_F H hc
            refine R_bipush (dX10_linesBy_1 1 rfl) rfl rfl ?_
            refine R_iload_n (i := 1) (dX10_linesBy_1 2 rfl) rfl rfl ?_
            refine R_imul (dX10_linesBy_1 3 rfl) ?_
            refine R_iload (i := 7) (dX10_linesBy_1 4 rfl) rfl ?_
            refine R_iadd (dX10_linesBy_1 5 rfl) ?_
            refine R_istore (i := 8) (ls' := [some (.inr (.inr (some (ad 38)))), some (.inl x1), none, some (.inl x3), some (.inl x4), some (.inl x5), some (.inl x6), some (.inl (w32 (x3 + (w32 (2 * x6))))), some (.inl (w32 ((w32 (40 * x1)) + (w32 (x3 + (w32 (2 * x6)))))))]) (dX10_linesBy_1 6 rfl) (Nat.le_of_ble_eq_true rfl) (Nat.le_of_ble_eq_true rfl) rfl rfl ?_
            refine R_iload (i := 5) (dX10_linesBy_1 7 rfl) rfl ?_
            refine R_aload_n (i := 0) (dX10_linesBy_1 8 rfl) rfl rfl ?_
            refine R_aload_n (i := 0) (dX10_linesBy_1 9 rfl) rfl rfl ?_
            refine R_getR cgX10 38 (cl38 hS) 24 (Nat.le_of_ble_eq_true rfl) rfl (Or.inl tb_1151) (dX10_linesBy_1 10 rfl) ?_
            refine R_iload (i := 8) (dX10_linesBy_1 11 rfl) rfl ?_
            obtain ⟨hg, H⟩ := ite_G H
            refine R_iald 50 (cl50 hS) hg (dX10_linesBy_1 12 rfl) ?_
            refine R_aload_n (i := 0) (dX10_linesBy_1 13 rfl) rfl rfl ?_
            refine R_getR cgX10 38 (cl38 hS) 24 (Nat.le_of_ble_eq_true rfl) rfl (Or.inl tb_1151) (dX10_linesBy_1 14 rfl) ?_
            refine R_iload (i := 8) (dX10_linesBy_1 15 rfl) rfl ?_
            refine R_iconst (dX10_linesBy_1 16 rfl) rfl ?_
            refine R_iadd (dX10_linesBy_1 17 rfl) ?_
            obtain ⟨hg, H⟩ := ite_G H
            refine R_iald 50 (cl50 hS) hg (dX10_linesBy_1 18 rfl) ?_
            obtain ⟨r563, M564, hr, H⟩ := ob_E H
            refine R_cV (st' := [.inl r563, .inl x5]) [.inl (M 50 (w32 ((w32 (40 * x1)) + (w32 (x3 + (w32 (2 * x6)))))).toNat), .inl (M 50 (w32 ((w32 ((w32 (40 * x1)) + (w32 (x3 + (w32 (2 * x6)))))) + 1)).toNat)] [.inl x5] (t_X10_line l g ad S _ hS   (M 50 (w32 ((w32 (40 * x1)) + (w32 (x3 + (w32 (2 * x6)))))).toNat) (M 50 (w32 ((w32 ((w32 (40 * x1)) + (w32 (x3 + (w32 (2 * x6)))))) + 1)).toNat) hr) msX10_line (Or.inl tb_1568) (Or.inl ⟨38, 10, _, _, _, (cl38 hS), rfl⟩) ⟨Nat.le_of_ble_eq_true rfl, Nat.le_of_ble_eq_true rfl⟩ (Nat.zero_le _) (Nat.zero_le _) rfl rfl (Nat.le_of_ble_eq_true rfl) rfl (dX10_linesBy_1 19 rfl) ?_
            refine R_if_lt (tgt := 143) (dX10_linesBy_1 20 rfl) (by decide) (fun hc => ?_) (fun hc => ?_)
            · have H := ite_T H hc
              refine R_iconst (dX10_linesBy_1 23 rfl) rfl ?_
              refine R_iadd (dX10_linesBy_1 24 rfl) ?_
              refine R_istore (i := 5) (ls' := [some (.inr (.inr (some (ad 38)))), some (.inl x1), none, some (.inl x3), some (.inl x4), some (.inl (w32 (x5 + 0))), some (.inl x6), some (.inl (w32 (x3 + (w32 (2 * x6))))), some (.inl (w32 ((w32 (40 * x1)) + (w32 (x3 + (w32 (2 * x6)))))))]) (dX10_linesBy_1 25 rfl) (Nat.le_of_ble_eq_true rfl) (Nat.le_of_ble_eq_true rfl) rfl rfl ?_
              refine R_iinc (i := 6) (ls' := [some (.inr (.inr (some (ad 38)))), some (.inl x1), none, some (.inl x3), some (.inl x4), some (.inl (w32 (x5 + 0))), some (.inl (w32 (x6 + 1))), some (.inl (w32 (x3 + (w32 (2 * x6))))), some (.inl (w32 ((w32 (40 * x1)) + (w32 (x3 + (w32 (2 * x6)))))))]) (dX10_linesBy_1 26 rfl) rfl (Nat.le_of_ble_eq_true rfl) rfl rfl ?_
              refine R_goto (tgt := 64) (dX10_linesBy_1 27 rfl) (by decide) ?_
              refine R_mask [true, true, false, true, true, true, true, false, false] rfl ?_
              exact ih (w32 (x5 + 0)) (w32 (x6 + 1)) M564 H
            · have H := ite_F H hc
              refine R_iconst (dX10_linesBy_1 21 rfl) rfl ?_
              refine R_goto (tgt := 144) (dX10_linesBy_1 22 rfl) (by decide) ?_
              refine R_iadd (dX10_linesBy_1 24 rfl) ?_
              refine R_istore (i := 5) (ls' := [some (.inr (.inr (some (ad 38)))), some (.inl x1), none, some (.inl x3), some (.inl x4), some (.inl (w32 (x5 + 1))), some (.inl x6), some (.inl (w32 (x3 + (w32 (2 * x6))))), some (.inl (w32 ((w32 (40 * x1)) + (w32 (x3 + (w32 (2 * x6)))))))]) (dX10_linesBy_1 25 rfl) (Nat.le_of_ble_eq_true rfl) (Nat.le_of_ble_eq_true rfl) rfl rfl ?_
              refine R_iinc (i := 6) (ls' := [some (.inr (.inr (some (ad 38)))), some (.inl x1), none, some (.inl x3), some (.inl x4), some (.inl (w32 (x5 + 1))), some (.inl (w32 (x6 + 1))), some (.inl (w32 (x3 + (w32 (2 * x6))))), some (.inl (w32 ((w32 (40 * x1)) + (w32 (x3 + (w32 (2 * x6)))))))]) (dX10_linesBy_1 26 rfl) rfl (Nat.le_of_ble_eq_true rfl) rfl rfl ?_
              refine R_goto (tgt := 64) (dX10_linesBy_1 27 rfl) (by decide) ?_
              refine R_mask [true, true, false, true, true, true, true, false, false] rfl ?_
              exact ih (w32 (x5 + 1)) (w32 (x6 + 1)) M564 H
          · have H := ite_T H hc
            refine R_bipush (dX10_linesBy_0 59 rfl) rfl rfl ?_
            exact R_iret rfl rfl (Nat.zero_le _) (Nat.zero_le _) (dX10_linesBy_1 0 rfl) ⟨congrArg (fun z => some (Sum.inl z)) (Prod.mk.inj (Option.some.inj H)).1, rfl, (Prod.mk.inj (Option.some.inj H)).2⟩
def f_X10_linesBy (x1 : Int) (x2 : Int) (x3 : Int) (x4 : Int) (M : Mem) : Option (Int × Mem) :=
  if f_X10_in x1 0 3 = 0 then
    some ((-2), M)
  else
    if f_X10_in x2 0 2 = 0 then
      some ((-2), M)
    else
      if f_X10_in x4 0 10 = 0 then
        some ((-2), M)
      else
        if 0 ≤ x1 ∧ x1 < 4 then
          if M 48 (x1).toNat = (-1) then
            some ((-11), M)
          else
            if 0 ≤ x1 ∧ x1 < 4 then
              if M 48 (x1).toNat = x2 then
                f_X10_linesBy_L64
                  x1 x3 x4 100000 0 0 M
              else
                some ((-13), M)
            else none
        else none
set_option maxHeartbeats 4000000 in
theorem t_X10_linesBy (l : Launch) (g : GG) (ad : Nat → Nat) (S : SW) (M : Mem) (hS : q_ag 38 63 ad S) (x1 : Int) (x2 : Int) (x3 : Int) (x4 : Int) {r : Int} {M' : Mem} (H : f_X10_linesBy x1 x2 x3 x4 M = some (r, M')) : CT l g MX10_linesBy 3 0 0 S M [.inr (.inr (some (ad 38))), .inl x1, .inl x2, .inl x3, .inl x4] (q_ex S (some (.inl r)) M') := by
  unfold f_X10_linesBy at H
  refine CT_of (ls0 := [some (.inr (.inr (some (ad 38)))), some (.inl x1), some (.inl x2), some (.inl x3), some (.inl x4), none, none, none, none]) (by decide +kernel) (Nat.le_of_ble_eq_true rfl) rfl ?_
  refine R_iload_n (i := 1) (dX10_linesBy_0 0 rfl) rfl rfl ?_
  refine R_iconst (dX10_linesBy_0 1 rfl) rfl ?_
  refine R_iconst (dX10_linesBy_0 2 rfl) rfl ?_
  refine R_cS (st' := [.inl (f_X10_in x1 0 3)]) [.inl x1, .inl 0, .inl 3] [] (t_X10_in l g S _   x1 0 3) msX10_in (Or.inl tb_1083) ⟨Nat.le_of_ble_eq_true rfl, Nat.le_of_ble_eq_true rfl⟩ (Nat.zero_le _) (Nat.zero_le _) rfl rfl (Nat.le_of_ble_eq_true rfl) rfl (dX10_linesBy_0 3 rfl) ?_
  refine R_if_eq (tgt := 29) (dX10_linesBy_0 4 rfl) (by decide) (fun hc => ?_) (fun hc => ?_)
  · have H := ite_T H hc
    refine R_bipush (dX10_linesBy_0 15 rfl) rfl rfl ?_
    exact R_iret rfl rfl (Nat.zero_le _) (Nat.zero_le _) (dX10_linesBy_0 16 rfl) ⟨congrArg (fun z => some (Sum.inl z)) (Prod.mk.inj (Option.some.inj H)).1, rfl, (Prod.mk.inj (Option.some.inj H)).2⟩
  · have H := ite_F H hc
    refine R_iload_n (i := 2) (dX10_linesBy_0 5 rfl) rfl rfl ?_
    refine R_iconst (dX10_linesBy_0 6 rfl) rfl ?_
    refine R_iconst (dX10_linesBy_0 7 rfl) rfl ?_
    refine R_cS (st' := [.inl (f_X10_in x2 0 2)]) [.inl x2, .inl 0, .inl 2] [] (t_X10_in l g S _   x2 0 2) msX10_in (Or.inl tb_1083) ⟨Nat.le_of_ble_eq_true rfl, Nat.le_of_ble_eq_true rfl⟩ (Nat.zero_le _) (Nat.zero_le _) rfl rfl (Nat.le_of_ble_eq_true rfl) rfl (dX10_linesBy_0 8 rfl) ?_
    refine R_if_eq (tgt := 29) (dX10_linesBy_0 9 rfl) (by decide) (fun hc => ?_) (fun hc => ?_)
    · have H := ite_T H hc
      refine R_bipush (dX10_linesBy_0 15 rfl) rfl rfl ?_
      exact R_iret rfl rfl (Nat.zero_le _) (Nat.zero_le _) (dX10_linesBy_0 16 rfl) ⟨congrArg (fun z => some (Sum.inl z)) (Prod.mk.inj (Option.some.inj H)).1, rfl, (Prod.mk.inj (Option.some.inj H)).2⟩
    · have H := ite_F H hc
      refine R_iload (i := 4) (dX10_linesBy_0 10 rfl) rfl ?_
      refine R_iconst (dX10_linesBy_0 11 rfl) rfl ?_
      refine R_bipush (dX10_linesBy_0 12 rfl) rfl rfl ?_
      refine R_cS (st' := [.inl (f_X10_in x4 0 10)]) [.inl x4, .inl 0, .inl 10] [] (t_X10_in l g S _   x4 0 10) msX10_in (Or.inl tb_1083) ⟨Nat.le_of_ble_eq_true rfl, Nat.le_of_ble_eq_true rfl⟩ (Nat.zero_le _) (Nat.zero_le _) rfl rfl (Nat.le_of_ble_eq_true rfl) rfl (dX10_linesBy_0 13 rfl) ?_
      refine R_if_ne (tgt := 32) (dX10_linesBy_0 14 rfl) (by decide) (fun hc => ?_) (fun hc => ?_)
      · have H := ite_F H hc
        refine R_aload_n (i := 0) (dX10_linesBy_0 17 rfl) rfl rfl ?_
        refine R_getR cgX10 38 (cl38 hS) 22 (Nat.le_of_ble_eq_true rfl) rfl (Or.inl tb_1149) (dX10_linesBy_0 18 rfl) ?_
        refine R_iload_n (i := 1) (dX10_linesBy_0 19 rfl) rfl rfl ?_
        obtain ⟨hg, H⟩ := ite_G H
        refine R_iald 48 (cl48 hS) hg (dX10_linesBy_0 20 rfl) ?_
        refine R_iconst (dX10_linesBy_0 21 rfl) rfl ?_
        refine R_icmp_ne (tgt := 45) (dX10_linesBy_0 22 rfl) (by decide) (fun hc => ?_) (fun hc => ?_)
        · have H := ite_F H hc
          refine R_aload_n (i := 0) (dX10_linesBy_0 25 rfl) rfl rfl ?_
          refine R_getR cgX10 38 (cl38 hS) 22 (Nat.le_of_ble_eq_true rfl) rfl (Or.inl tb_1149) (dX10_linesBy_0 26 rfl) ?_
          refine R_iload_n (i := 1) (dX10_linesBy_0 27 rfl) rfl rfl ?_
          obtain ⟨hg, H⟩ := ite_G H
          refine R_iald 48 (cl48 hS) hg (dX10_linesBy_0 28 rfl) ?_
          refine R_iload_n (i := 2) (dX10_linesBy_0 29 rfl) rfl rfl ?_
          refine R_icmp_eq (tgt := 58) (dX10_linesBy_0 30 rfl) (by decide) (fun hc => ?_) (fun hc => ?_)
          · have H := ite_T H hc
            refine R_iconst (dX10_linesBy_0 33 rfl) rfl ?_
            refine R_istore (i := 5) (ls' := [some (.inr (.inr (some (ad 38)))), some (.inl x1), some (.inl x2), some (.inl x3), some (.inl x4), some (.inl 0), none, none, none]) (dX10_linesBy_0 34 rfl) (Nat.le_of_ble_eq_true rfl) (Nat.le_of_ble_eq_true rfl) rfl rfl ?_
            refine R_iconst (dX10_linesBy_0 35 rfl) rfl ?_
            refine R_istore (i := 6) (ls' := [some (.inr (.inr (some (ad 38)))), some (.inl x1), some (.inl x2), some (.inl x3), some (.inl x4), some (.inl 0), some (.inl 0), none, none]) (dX10_linesBy_0 36 rfl) (Nat.le_of_ble_eq_true rfl) (Nat.le_of_ble_eq_true rfl) rfl rfl ?_
            refine R_mask [true, true, false, true, true, true, true, false, false] rfl ?_
            exact t_X10_linesBy_L64 l g ad S hS x1 x3 x4  100000 0 0 M H 
          · have H := ite_F H hc
            refine R_bipush (dX10_linesBy_0 31 rfl) rfl rfl ?_
            exact R_iret rfl rfl (Nat.zero_le _) (Nat.zero_le _) (dX10_linesBy_0 32 rfl) ⟨congrArg (fun z => some (Sum.inl z)) (Prod.mk.inj (Option.some.inj H)).1, rfl, (Prod.mk.inj (Option.some.inj H)).2⟩
        · have H := ite_T H hc
          refine R_bipush (dX10_linesBy_0 23 rfl) rfl rfl ?_
          exact R_iret rfl rfl (Nat.zero_le _) (Nat.zero_le _) (dX10_linesBy_0 24 rfl) ⟨congrArg (fun z => some (Sum.inl z)) (Prod.mk.inj (Option.some.inj H)).1, rfl, (Prod.mk.inj (Option.some.inj H)).2⟩
      · have H := ite_T H hc
        refine R_bipush (dX10_linesBy_0 15 rfl) rfl rfl ?_
        exact R_iret rfl rfl (Nat.zero_le _) (Nat.zero_le _) (dX10_linesBy_0 16 rfl) ⟨congrArg (fun z => some (Sum.inl z)) (Prod.mk.inj (Option.some.inj H)).1, rfl, (Prod.mk.inj (Option.some.inj H)).2⟩
def f_X10_isUnder (x0 : Int) (x1 : Int) : Int :=
  if x1 = 0 then
    1
  else
    if x0 = x1 then
      1
    else
      if x1 = 1 then
        if x0 = 4 then
          1
        else
          if x1 = 2 then
            if x0 = 3 then
              1
            else
              if x0 = 5 then
                1
              else
                0
          else
            0
      else
        if x1 = 2 then
          if x0 = 3 then
            1
          else
            if x0 = 5 then
              1
            else
              0
        else
          0
set_option maxHeartbeats 4000000 in
theorem t_X10_isUnder (l : Launch) (g : GG) (ad : Nat → Nat) (S : SW) (M : Mem) (hS : q_ag 38 63 ad S) (x0 : Int) (x1 : Int) : CT l g MX10_isUnder 1 0 0 S M [.inl x0, .inl x1] (q_ex S (some (.inl (f_X10_isUnder x0 x1))) M) := by
  obtain ⟨r, H⟩ : ∃ r, f_X10_isUnder x0 x1 = r := ⟨_, rfl⟩
  rw [H]
  unfold f_X10_isUnder at H
  refine CT_of (ls0 := [some (.inl x0), some (.inl x1)]) (by decide +kernel) (Nat.le_of_ble_eq_true rfl) rfl ?_
  refine R_iload_n (i := 1) (dX10_isUnder 0 rfl) rfl rfl ?_
  refine R_if_eq (tgt := 34) (dX10_isUnder 1 rfl) (by decide) (fun hc => ?_) (fun hc => ?_)
  · have H := ite_T H hc
    refine R_iconst (dX10_isUnder 20 rfl) rfl ?_
    refine R_goto (tgt := 39) (dX10_isUnder 21 rfl) (by decide) ?_
    exact R_iret rfl (by decide +kernel) (Nat.zero_le _) (Nat.zero_le _) (dX10_isUnder 23 rfl) ⟨congrArg (fun z => some (Sum.inl z)) H, rfl, rfl⟩
  · have H := ite_F H hc
    refine R_iload_n (i := 0) (dX10_isUnder 2 rfl) rfl rfl ?_
    refine R_iload_n (i := 1) (dX10_isUnder 3 rfl) rfl rfl ?_
    refine R_icmp_eq (tgt := 34) (dX10_isUnder 4 rfl) (by decide) (fun hc => ?_) (fun hc => ?_)
    · have H := ite_T H hc
      refine R_iconst (dX10_isUnder 20 rfl) rfl ?_
      refine R_goto (tgt := 39) (dX10_isUnder 21 rfl) (by decide) ?_
      exact R_iret rfl (by decide +kernel) (Nat.zero_le _) (Nat.zero_le _) (dX10_isUnder 23 rfl) ⟨congrArg (fun z => some (Sum.inl z)) H, rfl, rfl⟩
    · have H := ite_F H hc
      refine R_iload_n (i := 1) (dX10_isUnder 5 rfl) rfl rfl ?_
      refine R_iconst (dX10_isUnder 6 rfl) rfl ?_
      refine R_icmp_ne (tgt := 19) (dX10_isUnder 7 rfl) (by decide) (fun hc => ?_) (fun hc => ?_)
      · have H := ite_F H hc
        refine R_iload_n (i := 1) (dX10_isUnder 11 rfl) rfl rfl ?_
        refine R_iconst (dX10_isUnder 12 rfl) rfl ?_
        refine R_icmp_ne (tgt := 38) (dX10_isUnder 13 rfl) (by decide) (fun hc => ?_) (fun hc => ?_)
        · have H := ite_F H hc
          refine R_iconst (dX10_isUnder 22 rfl) rfl ?_
          exact R_iret rfl (by decide +kernel) (Nat.zero_le _) (Nat.zero_le _) (dX10_isUnder 23 rfl) ⟨congrArg (fun z => some (Sum.inl z)) H, rfl, rfl⟩
        · have H := ite_T H hc
          refine R_iload_n (i := 0) (dX10_isUnder 14 rfl) rfl rfl ?_
          refine R_iconst (dX10_isUnder 15 rfl) rfl ?_
          refine R_icmp_eq (tgt := 34) (dX10_isUnder 16 rfl) (by decide) (fun hc => ?_) (fun hc => ?_)
          · have H := ite_T H hc
            refine R_iconst (dX10_isUnder 20 rfl) rfl ?_
            refine R_goto (tgt := 39) (dX10_isUnder 21 rfl) (by decide) ?_
            exact R_iret rfl (by decide +kernel) (Nat.zero_le _) (Nat.zero_le _) (dX10_isUnder 23 rfl) ⟨congrArg (fun z => some (Sum.inl z)) H, rfl, rfl⟩
          · have H := ite_F H hc
            refine R_iload_n (i := 0) (dX10_isUnder 17 rfl) rfl rfl ?_
            refine R_iconst (dX10_isUnder 18 rfl) rfl ?_
            refine R_icmp_ne (tgt := 38) (dX10_isUnder 19 rfl) (by decide) (fun hc => ?_) (fun hc => ?_)
            · have H := ite_F H hc
              refine R_iconst (dX10_isUnder 22 rfl) rfl ?_
              exact R_iret rfl (by decide +kernel) (Nat.zero_le _) (Nat.zero_le _) (dX10_isUnder 23 rfl) ⟨congrArg (fun z => some (Sum.inl z)) H, rfl, rfl⟩
            · have H := ite_T H hc
              refine R_iconst (dX10_isUnder 20 rfl) rfl ?_
              refine R_goto (tgt := 39) (dX10_isUnder 21 rfl) (by decide) ?_
              exact R_iret rfl (by decide +kernel) (Nat.zero_le _) (Nat.zero_le _) (dX10_isUnder 23 rfl) ⟨congrArg (fun z => some (Sum.inl z)) H, rfl, rfl⟩
      · have H := ite_T H hc
        refine R_iload_n (i := 0) (dX10_isUnder 8 rfl) rfl rfl ?_
        refine R_iconst (dX10_isUnder 9 rfl) rfl ?_
        refine R_icmp_eq (tgt := 34) (dX10_isUnder 10 rfl) (by decide) (fun hc => ?_) (fun hc => ?_)
        · have H := ite_T H hc
          refine R_iconst (dX10_isUnder 20 rfl) rfl ?_
          refine R_goto (tgt := 39) (dX10_isUnder 21 rfl) (by decide) ?_
          exact R_iret rfl (by decide +kernel) (Nat.zero_le _) (Nat.zero_le _) (dX10_isUnder 23 rfl) ⟨congrArg (fun z => some (Sum.inl z)) H, rfl, rfl⟩
        · have H := ite_F H hc
          refine R_iload_n (i := 1) (dX10_isUnder 11 rfl) rfl rfl ?_
          refine R_iconst (dX10_isUnder 12 rfl) rfl ?_
          refine R_icmp_ne (tgt := 38) (dX10_isUnder 13 rfl) (by decide) (fun hc => ?_) (fun hc => ?_)
          · have H := ite_F H hc
            refine R_iconst (dX10_isUnder 22 rfl) rfl ?_
            exact R_iret rfl (by decide +kernel) (Nat.zero_le _) (Nat.zero_le _) (dX10_isUnder 23 rfl) ⟨congrArg (fun z => some (Sum.inl z)) H, rfl, rfl⟩
          · have H := ite_T H hc
            refine R_iload_n (i := 0) (dX10_isUnder 14 rfl) rfl rfl ?_
            refine R_iconst (dX10_isUnder 15 rfl) rfl ?_
            refine R_icmp_eq (tgt := 34) (dX10_isUnder 16 rfl) (by decide) (fun hc => ?_) (fun hc => ?_)
            · have H := ite_T H hc
              refine R_iconst (dX10_isUnder 20 rfl) rfl ?_
              refine R_goto (tgt := 39) (dX10_isUnder 21 rfl) (by decide) ?_
              exact R_iret rfl (by decide +kernel) (Nat.zero_le _) (Nat.zero_le _) (dX10_isUnder 23 rfl) ⟨congrArg (fun z => some (Sum.inl z)) H, rfl, rfl⟩
            · have H := ite_F H hc
              refine R_iload_n (i := 0) (dX10_isUnder 17 rfl) rfl rfl ?_
              refine R_iconst (dX10_isUnder 18 rfl) rfl ?_
              refine R_icmp_ne (tgt := 38) (dX10_isUnder 19 rfl) (by decide) (fun hc => ?_) (fun hc => ?_)
              · have H := ite_F H hc
                refine R_iconst (dX10_isUnder 22 rfl) rfl ?_
                exact R_iret rfl (by decide +kernel) (Nat.zero_le _) (Nat.zero_le _) (dX10_isUnder 23 rfl) ⟨congrArg (fun z => some (Sum.inl z)) H, rfl, rfl⟩
              · have H := ite_T H hc
                refine R_iconst (dX10_isUnder 20 rfl) rfl ?_
                refine R_goto (tgt := 39) (dX10_isUnder 21 rfl) (by decide) ?_
                exact R_iret rfl (by decide +kernel) (Nat.zero_le _) (Nat.zero_le _) (dX10_isUnder 23 rfl) ⟨congrArg (fun z => some (Sum.inl z)) H, rfl, rfl⟩
theorem z_X10_isUnder (x0 : Int) (x1 : Int) : f_X10_isUnder x0 x1 = 0 ∨ f_X10_isUnder x0 x1 = 1 := by
  unfold f_X10_isUnder
  (repeat' split) <;> first | exact Or.inl rfl | exact Or.inr rfl
def f_X10_taken (x1 : Int) (x2 : Int) (M : Mem) : Option Int :=
  if f_X10_in x2 0 6 = 0 then
    some (-2)
  else
    if f_X10_in x1 0 21 = 0 then
      some (-12)
    else
      if x1 < 10 then
        if x1 < M 38 0 then
          if x2 = 6 then
            if 0 ≤ x1 ∧ x1 < 10 then
              some (M 39 (x1).toNat)
            else none
          else
            some (-13)
        else
          some (-11)
      else
        if w32 (x1 - 10) < M 38 6 then
          if x2 < 6 then
            if 0 ≤ w32 (4 * (w32 (x1 - 10))) ∧ w32 (4 * (w32 (x1 - 10))) < 52 then
              if f_X10_isUnder (M 42 (w32 (4 * (w32 (x1 - 10)))).toNat) x2 = 0 then
                some (-13)
              else
                some (w32 (x1 - 10))
            else none
          else
            some (-13)
        else
          some (-11)
set_option maxHeartbeats 4000000 in
theorem t_X10_taken (l : Launch) (g : GG) (ad : Nat → Nat) (S : SW) (M : Mem) (hS : q_ag 38 63 ad S) (x1 : Int) (x2 : Int) {r : Int} (H : f_X10_taken x1 x2 M = some r) : CT l g MX10_taken 2 0 0 S M [.inr (.inr (some (ad 38))), .inl x1, .inl x2] (q_ex S (some (.inl r)) M) := by
  unfold f_X10_taken at H
  refine CT_of (ls0 := [some (.inr (.inr (some (ad 38)))), some (.inl x1), some (.inl x2)]) (by decide +kernel) (Nat.le_of_ble_eq_true rfl) rfl ?_
  refine R_iload_n (i := 2) (dX10_taken_0 0 rfl) rfl rfl ?_
  refine R_iconst (dX10_taken_0 1 rfl) rfl ?_
  refine R_bipush (dX10_taken_0 2 rfl) rfl rfl ?_
  refine R_cS (st' := [.inl (f_X10_in x2 0 6)]) [.inl x2, .inl 0, .inl 6] [] (t_X10_in l g S _   x2 0 6) msX10_in (Or.inl tb_1083) ⟨Nat.le_of_ble_eq_true rfl, Nat.le_of_ble_eq_true rfl⟩ (Nat.zero_le _) (Nat.zero_le _) rfl rfl (Nat.le_of_ble_eq_true rfl) rfl (dX10_taken_0 3 rfl) ?_
  refine R_if_ne (tgt := 13) (dX10_taken_0 4 rfl) (by decide) (fun hc => ?_) (fun hc => ?_)
  · have H := ite_F H hc
    refine R_iload_n (i := 1) (dX10_taken_0 7 rfl) rfl rfl ?_
    refine R_iconst (dX10_taken_0 8 rfl) rfl ?_
    refine R_bipush (dX10_taken_0 9 rfl) rfl rfl ?_
    refine R_cS (st' := [.inl (f_X10_in x1 0 21)]) [.inl x1, .inl 0, .inl 21] [] (t_X10_in l g S _   x1 0 21) msX10_in (Or.inl tb_1083) ⟨Nat.le_of_ble_eq_true rfl, Nat.le_of_ble_eq_true rfl⟩ (Nat.zero_le _) (Nat.zero_le _) rfl rfl (Nat.le_of_ble_eq_true rfl) rfl (dX10_taken_0 10 rfl) ?_
    refine R_if_ne (tgt := 26) (dX10_taken_0 11 rfl) (by decide) (fun hc => ?_) (fun hc => ?_)
    · have H := ite_F H hc
      refine R_iload_n (i := 1) (dX10_taken_0 14 rfl) rfl rfl ?_
      refine R_bipush (dX10_taken_0 15 rfl) rfl rfl ?_
      refine R_icmp_ge (tgt := 63) (dX10_taken_0 16 rfl) (by decide) (fun hc => ?_) (fun hc => ?_)
      · have H := ite_F H hc
        refine R_iload_n (i := 1) (dX10_taken_0 33 rfl) rfl rfl ?_
        refine R_bipush (dX10_taken_0 34 rfl) rfl rfl ?_
        refine R_isub (dX10_taken_0 35 rfl) ?_
        refine R_aload_n (i := 0) (dX10_taken_0 36 rfl) rfl rfl ?_
        refine R_getI cgX10 38 (cl38 hS) 6 (Nat.le_of_ble_eq_true rfl) rfl (Or.inl tb_1133) (dX10_taken_0 37 rfl) ?_
        refine R_icmp_lt (tgt := 79) (dX10_taken_0 38 rfl) (by decide) (fun hc => ?_) (fun hc => ?_)
        · have H := ite_T H hc
          refine R_iload_n (i := 2) (dX10_taken_0 41 rfl) rfl rfl ?_
          refine R_bipush (dX10_taken_0 42 rfl) rfl rfl ?_
          refine R_icmp_ge (tgt := 110) (dX10_taken_0 43 rfl) (by decide) (fun hc => ?_) (fun hc => ?_)
          · have H := ite_F H hc
            refine R_bipush (dX10_taken_0 59 rfl) rfl rfl ?_
            exact R_iret rfl rfl (Nat.zero_le _) (Nat.zero_le _) (dX10_taken_1 0 rfl) ⟨congrArg (fun z => some (Sum.inl z)) (Option.some.inj H), rfl, rfl⟩
          · have H := ite_T H hc
            refine R_aload_n (i := 0) (dX10_taken_0 44 rfl) rfl rfl ?_
            refine R_getR cgX10 38 (cl38 hS) 7 (Nat.le_of_ble_eq_true rfl) rfl (Or.inl tb_1134) (dX10_taken_0 45 rfl) ?_
            refine R_iconst (dX10_taken_0 46 rfl) rfl ?_
            refine R_iload_n (i := 1) (dX10_taken_0 47 rfl) rfl rfl ?_
            refine R_bipush (dX10_taken_0 48 rfl) rfl rfl ?_
            refine R_isub (dX10_taken_0 49 rfl) ?_
            refine R_imul (dX10_taken_0 50 rfl) ?_
            obtain ⟨hg, H⟩ := ite_G H
            refine R_iald 42 (cl42 hS) hg (dX10_taken_0 51 rfl) ?_
            refine R_iload_n (i := 2) (dX10_taken_0 52 rfl) rfl rfl ?_
            refine R_cS (st' := [.inl (f_X10_isUnder (M 42 (w32 (4 * (w32 (x1 - 10)))).toNat) x2)]) [.inl (M 42 (w32 (4 * (w32 (x1 - 10)))).toNat), .inl x2] [] (t_X10_isUnder l g ad S _ hS   (M 42 (w32 (4 * (w32 (x1 - 10)))).toNat) x2) msX10_isUnder (Or.inl tb_1573) ⟨Nat.le_of_ble_eq_true rfl, Nat.le_of_ble_eq_true rfl⟩ (Nat.zero_le _) (Nat.zero_le _) rfl rfl (Nat.le_of_ble_eq_true rfl) rfl (dX10_taken_0 53 rfl) ?_
            refine R_if_eq (tgt := 110) (dX10_taken_0 54 rfl) (by decide) (fun hc => ?_) (fun hc => ?_)
            · have H := ite_T H hc
              refine R_bipush (dX10_taken_0 59 rfl) rfl rfl ?_
              exact R_iret rfl rfl (Nat.zero_le _) (Nat.zero_le _) (dX10_taken_1 0 rfl) ⟨congrArg (fun z => some (Sum.inl z)) (Option.some.inj H), rfl, rfl⟩
            · have H := ite_F H hc
              refine R_iload_n (i := 1) (dX10_taken_0 55 rfl) rfl rfl ?_
              refine R_bipush (dX10_taken_0 56 rfl) rfl rfl ?_
              refine R_isub (dX10_taken_0 57 rfl) ?_
              refine R_goto (tgt := 112) (dX10_taken_0 58 rfl) (by decide) ?_
              exact R_iret rfl rfl (Nat.zero_le _) (Nat.zero_le _) (dX10_taken_1 0 rfl) ⟨congrArg (fun z => some (Sum.inl z)) (Option.some.inj H), rfl, rfl⟩
        · have H := ite_F H hc
          refine R_bipush (dX10_taken_0 39 rfl) rfl rfl ?_
          refine R_goto (tgt := 112) (dX10_taken_0 40 rfl) (by decide) ?_
          exact R_iret rfl rfl (Nat.zero_le _) (Nat.zero_le _) (dX10_taken_1 0 rfl) ⟨congrArg (fun z => some (Sum.inl z)) (Option.some.inj H), rfl, rfl⟩
      · have H := ite_T H hc
        refine R_iload_n (i := 1) (dX10_taken_0 17 rfl) rfl rfl ?_
        refine R_aload_n (i := 0) (dX10_taken_0 18 rfl) rfl rfl ?_
        refine R_getI cgX10 38 (cl38 hS) 0 (Nat.le_of_ble_eq_true rfl) rfl (Or.inl tb_1127) (dX10_taken_0 19 rfl) ?_
        refine R_icmp_lt (tgt := 45) (dX10_taken_0 20 rfl) (by decide) (fun hc => ?_) (fun hc => ?_)
        · have H := ite_T H hc
          refine R_iload_n (i := 2) (dX10_taken_0 23 rfl) rfl rfl ?_
          refine R_bipush (dX10_taken_0 24 rfl) rfl rfl ?_
          refine R_icmp_ne (tgt := 60) (dX10_taken_0 25 rfl) (by decide) (fun hc => ?_) (fun hc => ?_)
          · have H := ite_F H hc
            refine R_bipush (dX10_taken_0 31 rfl) rfl rfl ?_
            exact R_iret rfl rfl (Nat.zero_le _) (Nat.zero_le _) (dX10_taken_0 32 rfl) ⟨congrArg (fun z => some (Sum.inl z)) (Option.some.inj H), rfl, rfl⟩
          · have H := ite_T H hc
            refine R_aload_n (i := 0) (dX10_taken_0 26 rfl) rfl rfl ?_
            refine R_getR cgX10 38 (cl38 hS) 1 (Nat.le_of_ble_eq_true rfl) rfl (Or.inl tb_1128) (dX10_taken_0 27 rfl) ?_
            refine R_iload_n (i := 1) (dX10_taken_0 28 rfl) rfl rfl ?_
            obtain ⟨hg, H⟩ := ite_G H
            refine R_iald 39 (cl39 hS) hg (dX10_taken_0 29 rfl) ?_
            refine R_goto (tgt := 62) (dX10_taken_0 30 rfl) (by decide) ?_
            exact R_iret rfl rfl (Nat.zero_le _) (Nat.zero_le _) (dX10_taken_0 32 rfl) ⟨congrArg (fun z => some (Sum.inl z)) (Option.some.inj H), rfl, rfl⟩
        · have H := ite_F H hc
          refine R_bipush (dX10_taken_0 21 rfl) rfl rfl ?_
          refine R_goto (tgt := 62) (dX10_taken_0 22 rfl) (by decide) ?_
          exact R_iret rfl rfl (Nat.zero_le _) (Nat.zero_le _) (dX10_taken_0 32 rfl) ⟨congrArg (fun z => some (Sum.inl z)) (Option.some.inj H), rfl, rfl⟩
    · have H := ite_T H hc
      refine R_bipush (dX10_taken_0 12 rfl) rfl rfl ?_
      exact R_iret rfl rfl (Nat.zero_le _) (Nat.zero_le _) (dX10_taken_0 13 rfl) ⟨congrArg (fun z => some (Sum.inl z)) (Option.some.inj H), rfl, rfl⟩
  · have H := ite_T H hc
    refine R_bipush (dX10_taken_0 5 rfl) rfl rfl ?_
    exact R_iret rfl rfl (Nat.zero_le _) (Nat.zero_le _) (dX10_taken_0 6 rfl) ⟨congrArg (fun z => some (Sum.inl z)) (Option.some.inj H), rfl, rfl⟩
