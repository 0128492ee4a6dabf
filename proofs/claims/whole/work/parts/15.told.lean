def f_X10_between (x1 : Int) (M : Mem) : Option (Int × Mem) :=
  if f_X10_rank x1 = 4 then
    ob (f_X10_unwinds 5 M) fun r338 M339 =>
    if f_X10_rank x1 = 4 then
      if 0 < M339 38 32 then
        if 0 ≤ w32 ((M339 38 32) - 1) ∧ w32 ((M339 38 32) - 1) < 200 then
          if f_X10_rank (M339 53 (w32 ((M339 38 32) - 1)).toNat) = 4 then
            some (0, M339)
          else
            ob (f_X10_holds x1 M339) fun r344 M345 =>
            some (1, M345)
        else none
      else
        ob (f_X10_holds x1 M339) fun r342 M343 =>
        some (1, M343)
    else
      ob (f_X10_holds x1 M339) fun r340 M341 =>
      some (1, M341)
  else
    ob (f_X10_unwinds (f_X10_rank x1) M) fun r330 M331 =>
    if f_X10_rank x1 = 4 then
      if 0 < M331 38 32 then
        if 0 ≤ w32 ((M331 38 32) - 1) ∧ w32 ((M331 38 32) - 1) < 200 then
          if f_X10_rank (M331 53 (w32 ((M331 38 32) - 1)).toNat) = 4 then
            some (0, M331)
          else
            ob (f_X10_holds x1 M331) fun r336 M337 =>
            some (1, M337)
        else none
      else
        ob (f_X10_holds x1 M331) fun r334 M335 =>
        some (1, M335)
    else
      ob (f_X10_holds x1 M331) fun r332 M333 =>
      some (1, M333)
set_option maxHeartbeats 4000000 in
theorem t_X10_between (l : Launch) (g : GG) (ad : Nat → Nat) (S : SW) (M : Mem) (hS : q_ag 38 63 ad S) (x1 : Int) {r : Int} {M' : Mem} (H : f_X10_between x1 M = some (r, M')) : CT l g MX10_between 3 0 0 S M [.inr (.inr (some (ad 38))), .inl x1] (q_ex S (some (.inl r)) M') := by
  unfold f_X10_between at H
  refine CT_of (ls0 := [some (.inr (.inr (some (ad 38)))), some (.inl x1)]) (by decide +kernel) (Nat.le_of_ble_eq_true rfl) rfl ?_
  refine R_aload_n (i := 0) (dX10_between 0 rfl) rfl rfl ?_
  refine R_iload_n (i := 1) (dX10_between 1 rfl) rfl rfl ?_
  refine R_cS (st' := [.inl (f_X10_rank x1), .inr (.inr (some (ad 38)))]) [.inl x1] [.inr (.inr (some (ad 38)))] (t_X10_rank l g ad S _ hS   x1) msX10_rank (Or.inl tb_1103) ⟨Nat.le_of_ble_eq_true rfl, Nat.le_of_ble_eq_true rfl⟩ (Nat.zero_le _) (Nat.zero_le _) rfl rfl (Nat.le_of_ble_eq_true rfl) rfl (dX10_between 2 rfl) ?_
  refine R_iconst (dX10_between 3 rfl) rfl ?_
  refine R_icmp_ne (tgt := 13) (dX10_between 4 rfl) (by decide) (fun hc => ?_) (fun hc => ?_)
  · have H := ite_F H hc
    refine R_iload_n (i := 1) (dX10_between 7 rfl) rfl rfl ?_
    refine R_cS (st' := [.inl (f_X10_rank x1), .inr (.inr (some (ad 38)))]) [.inl x1] [.inr (.inr (some (ad 38)))] (t_X10_rank l g ad S _ hS   x1) msX10_rank (Or.inl tb_1103) ⟨Nat.le_of_ble_eq_true rfl, Nat.le_of_ble_eq_true rfl⟩ (Nat.zero_le _) (Nat.zero_le _) rfl rfl (Nat.le_of_ble_eq_true rfl) rfl (dX10_between 8 rfl) ?_
    obtain ⟨r330, M331, hr, H⟩ := ob_E H
    refine R_cV (st' := []) [.inl (f_X10_rank x1)] [] (t_X10_unwinds l g ad S _ hS   (f_X10_rank x1) hr) msX10_unwinds (Or.inl tb_1099) (Or.inl ⟨38, 10, _, _, _, (cl38 hS), rfl⟩) ⟨Nat.le_of_ble_eq_true rfl, Nat.le_of_ble_eq_true rfl⟩ (Nat.zero_le _) (Nat.zero_le _) rfl rfl (Nat.le_of_ble_eq_true rfl) rfl (dX10_between 9 rfl) ?_
    refine R_iload_n (i := 1) (dX10_between 10 rfl) rfl rfl ?_
    refine R_cS (st' := [.inl (f_X10_rank x1)]) [.inl x1] [] (t_X10_rank l g ad S _ hS   x1) msX10_rank (Or.inl tb_1103) ⟨Nat.le_of_ble_eq_true rfl, Nat.le_of_ble_eq_true rfl⟩ (Nat.zero_le _) (Nat.zero_le _) rfl rfl (Nat.le_of_ble_eq_true rfl) rfl (dX10_between 11 rfl) ?_
    refine R_iconst (dX10_between 12 rfl) rfl ?_
    refine R_icmp_ne (tgt := 55) (dX10_between 13 rfl) (by decide) (fun hc => ?_) (fun hc => ?_)
    · have H := ite_F H hc
      refine R_aload_n (i := 0) (dX10_between 29 rfl) rfl rfl ?_
      refine R_iload_n (i := 1) (dX10_between 30 rfl) rfl rfl ?_
      obtain ⟨r332, M333, hr, H⟩ := ob_E H
      refine R_cV (st' := []) [.inl x1] [] (t_X10_holds l g ad S _ hS   x1 hr) msX10_holds (Or.inl tb_1110) (Or.inl ⟨38, 10, _, _, _, (cl38 hS), rfl⟩) ⟨Nat.le_of_ble_eq_true rfl, Nat.le_of_ble_eq_true rfl⟩ (Nat.zero_le _) (Nat.zero_le _) rfl rfl (Nat.le_of_ble_eq_true rfl) rfl (dX10_between 31 rfl) ?_
      refine R_iconst (dX10_between 32 rfl) rfl ?_
      exact R_iret rfl (by decide +kernel) (Nat.zero_le _) (Nat.zero_le _) (dX10_between 33 rfl) ⟨congrArg (fun z => some (Sum.inl z)) (Prod.mk.inj (Option.some.inj H)).1, rfl, (Prod.mk.inj (Option.some.inj H)).2⟩
    · have H := ite_T H hc
      refine R_aload_n (i := 0) (dX10_between 14 rfl) rfl rfl ?_
      refine R_getI cgX10 38 (cl38 hS) 32 (Nat.le_of_ble_eq_true rfl) rfl (Or.inl tb_1159) (dX10_between 15 rfl) ?_
      refine R_if_le (tgt := 55) (dX10_between 16 rfl) (by decide) (fun hc => ?_) (fun hc => ?_)
      · have H := ite_F H hc
        refine R_aload_n (i := 0) (dX10_between 29 rfl) rfl rfl ?_
        refine R_iload_n (i := 1) (dX10_between 30 rfl) rfl rfl ?_
        obtain ⟨r334, M335, hr, H⟩ := ob_E H
        refine R_cV (st' := []) [.inl x1] [] (t_X10_holds l g ad S _ hS   x1 hr) msX10_holds (Or.inl tb_1110) (Or.inl ⟨38, 10, _, _, _, (cl38 hS), rfl⟩) ⟨Nat.le_of_ble_eq_true rfl, Nat.le_of_ble_eq_true rfl⟩ (Nat.zero_le _) (Nat.zero_le _) rfl rfl (Nat.le_of_ble_eq_true rfl) rfl (dX10_between 31 rfl) ?_
        refine R_iconst (dX10_between 32 rfl) rfl ?_
        exact R_iret rfl (by decide +kernel) (Nat.zero_le _) (Nat.zero_le _) (dX10_between 33 rfl) ⟨congrArg (fun z => some (Sum.inl z)) (Prod.mk.inj (Option.some.inj H)).1, rfl, (Prod.mk.inj (Option.some.inj H)).2⟩
      · have H := ite_T H hc
        refine R_aload_n (i := 0) (dX10_between 17 rfl) rfl rfl ?_
        refine R_getR cgX10 38 (cl38 hS) 31 (Nat.le_of_ble_eq_true rfl) rfl (Or.inl tb_1158) (dX10_between 18 rfl) ?_
        refine R_aload_n (i := 0) (dX10_between 19 rfl) rfl rfl ?_
        refine R_getI cgX10 38 (cl38 hS) 32 (Nat.le_of_ble_eq_true rfl) rfl (Or.inl tb_1159) (dX10_between 20 rfl) ?_
        refine R_iconst (dX10_between 21 rfl) rfl ?_
        refine R_isub (dX10_between 22 rfl) ?_
        obtain ⟨hg, H⟩ := ite_G H
        refine R_iald 53 (cl53 hS) hg (dX10_between 23 rfl) ?_
        refine R_cS (st' := [.inl (f_X10_rank (M331 53 (w32 ((M331 38 32) - 1)).toNat))]) [.inl (M331 53 (w32 ((M331 38 32) - 1)).toNat)] [] (t_X10_rank l g ad S _ hS   (M331 53 (w32 ((M331 38 32) - 1)).toNat)) msX10_rank (Or.inl tb_1103) ⟨Nat.le_of_ble_eq_true rfl, Nat.le_of_ble_eq_true rfl⟩ (Nat.zero_le _) (Nat.zero_le _) rfl rfl (Nat.le_of_ble_eq_true rfl) rfl (dX10_between 24 rfl) ?_
        refine R_iconst (dX10_between 25 rfl) rfl ?_
        refine R_icmp_ne (tgt := 55) (dX10_between 26 rfl) (by decide) (fun hc => ?_) (fun hc => ?_)
        · have H := ite_F H hc
          refine R_aload_n (i := 0) (dX10_between 29 rfl) rfl rfl ?_
          refine R_iload_n (i := 1) (dX10_between 30 rfl) rfl rfl ?_
          obtain ⟨r336, M337, hr, H⟩ := ob_E H
          refine R_cV (st' := []) [.inl x1] [] (t_X10_holds l g ad S _ hS   x1 hr) msX10_holds (Or.inl tb_1110) (Or.inl ⟨38, 10, _, _, _, (cl38 hS), rfl⟩) ⟨Nat.le_of_ble_eq_true rfl, Nat.le_of_ble_eq_true rfl⟩ (Nat.zero_le _) (Nat.zero_le _) rfl rfl (Nat.le_of_ble_eq_true rfl) rfl (dX10_between 31 rfl) ?_
          refine R_iconst (dX10_between 32 rfl) rfl ?_
          exact R_iret rfl (by decide +kernel) (Nat.zero_le _) (Nat.zero_le _) (dX10_between 33 rfl) ⟨congrArg (fun z => some (Sum.inl z)) (Prod.mk.inj (Option.some.inj H)).1, rfl, (Prod.mk.inj (Option.some.inj H)).2⟩
        · have H := ite_T H hc
          refine R_iconst (dX10_between 27 rfl) rfl ?_
          exact R_iret rfl (by decide +kernel) (Nat.zero_le _) (Nat.zero_le _) (dX10_between 28 rfl) ⟨congrArg (fun z => some (Sum.inl z)) (Prod.mk.inj (Option.some.inj H)).1, rfl, (Prod.mk.inj (Option.some.inj H)).2⟩
  · have H := ite_T H hc
    refine R_iconst (dX10_between 5 rfl) rfl ?_
    refine R_goto (tgt := 17) (dX10_between 6 rfl) (by decide) ?_
    obtain ⟨r338, M339, hr, H⟩ := ob_E H
    refine R_cV (st' := []) [.inl 5] [] (t_X10_unwinds l g ad S _ hS   5 hr) msX10_unwinds (Or.inl tb_1099) (Or.inl ⟨38, 10, _, _, _, (cl38 hS), rfl⟩) ⟨Nat.le_of_ble_eq_true rfl, Nat.le_of_ble_eq_true rfl⟩ (Nat.zero_le _) (Nat.zero_le _) rfl rfl (Nat.le_of_ble_eq_true rfl) rfl (dX10_between 9 rfl) ?_
    refine R_iload_n (i := 1) (dX10_between 10 rfl) rfl rfl ?_
    refine R_cS (st' := [.inl (f_X10_rank x1)]) [.inl x1] [] (t_X10_rank l g ad S _ hS   x1) msX10_rank (Or.inl tb_1103) ⟨Nat.le_of_ble_eq_true rfl, Nat.le_of_ble_eq_true rfl⟩ (Nat.zero_le _) (Nat.zero_le _) rfl rfl (Nat.le_of_ble_eq_true rfl) rfl (dX10_between 11 rfl) ?_
    refine R_iconst (dX10_between 12 rfl) rfl ?_
    refine R_icmp_ne (tgt := 55) (dX10_between 13 rfl) (by decide) (fun hc => ?_) (fun hc => ?_)
    · have H := ite_F H hc
      refine R_aload_n (i := 0) (dX10_between 29 rfl) rfl rfl ?_
      refine R_iload_n (i := 1) (dX10_between 30 rfl) rfl rfl ?_
      obtain ⟨r340, M341, hr, H⟩ := ob_E H
      refine R_cV (st' := []) [.inl x1] [] (t_X10_holds l g ad S _ hS   x1 hr) msX10_holds (Or.inl tb_1110) (Or.inl ⟨38, 10, _, _, _, (cl38 hS), rfl⟩) ⟨Nat.le_of_ble_eq_true rfl, Nat.le_of_ble_eq_true rfl⟩ (Nat.zero_le _) (Nat.zero_le _) rfl rfl (Nat.le_of_ble_eq_true rfl) rfl (dX10_between 31 rfl) ?_
      refine R_iconst (dX10_between 32 rfl) rfl ?_
      exact R_iret rfl (by decide +kernel) (Nat.zero_le _) (Nat.zero_le _) (dX10_between 33 rfl) ⟨congrArg (fun z => some (Sum.inl z)) (Prod.mk.inj (Option.some.inj H)).1, rfl, (Prod.mk.inj (Option.some.inj H)).2⟩
    · have H := ite_T H hc
      refine R_aload_n (i := 0) (dX10_between 14 rfl) rfl rfl ?_
      refine R_getI cgX10 38 (cl38 hS) 32 (Nat.le_of_ble_eq_true rfl) rfl (Or.inl tb_1159) (dX10_between 15 rfl) ?_
      refine R_if_le (tgt := 55) (dX10_between 16 rfl) (by decide) (fun hc => ?_) (fun hc => ?_)
      · have H := ite_F H hc
        refine R_aload_n (i := 0) (dX10_between 29 rfl) rfl rfl ?_
        refine R_iload_n (i := 1) (dX10_between 30 rfl) rfl rfl ?_
        obtain ⟨r342, M343, hr, H⟩ := ob_E H
        refine R_cV (st' := []) [.inl x1] [] (t_X10_holds l g ad S _ hS   x1 hr) msX10_holds (Or.inl tb_1110) (Or.inl ⟨38, 10, _, _, _, (cl38 hS), rfl⟩) ⟨Nat.le_of_ble_eq_true rfl, Nat.le_of_ble_eq_true rfl⟩ (Nat.zero_le _) (Nat.zero_le _) rfl rfl (Nat.le_of_ble_eq_true rfl) rfl (dX10_between 31 rfl) ?_
        refine R_iconst (dX10_between 32 rfl) rfl ?_
        exact R_iret rfl (by decide +kernel) (Nat.zero_le _) (Nat.zero_le _) (dX10_between 33 rfl) ⟨congrArg (fun z => some (Sum.inl z)) (Prod.mk.inj (Option.some.inj H)).1, rfl, (Prod.mk.inj (Option.some.inj H)).2⟩
      · have H := ite_T H hc
        refine R_aload_n (i := 0) (dX10_between 17 rfl) rfl rfl ?_
        refine R_getR cgX10 38 (cl38 hS) 31 (Nat.le_of_ble_eq_true rfl) rfl (Or.inl tb_1158) (dX10_between 18 rfl) ?_
        refine R_aload_n (i := 0) (dX10_between 19 rfl) rfl rfl ?_
        refine R_getI cgX10 38 (cl38 hS) 32 (Nat.le_of_ble_eq_true rfl) rfl (Or.inl tb_1159) (dX10_between 20 rfl) ?_
        refine R_iconst (dX10_between 21 rfl) rfl ?_
        refine R_isub (dX10_between 22 rfl) ?_
        obtain ⟨hg, H⟩ := ite_G H
        refine R_iald 53 (cl53 hS) hg (dX10_between 23 rfl) ?_
        refine R_cS (st' := [.inl (f_X10_rank (M339 53 (w32 ((M339 38 32) - 1)).toNat))]) [.inl (M339 53 (w32 ((M339 38 32) - 1)).toNat)] [] (t_X10_rank l g ad S _ hS   (M339 53 (w32 ((M339 38 32) - 1)).toNat)) msX10_rank (Or.inl tb_1103) ⟨Nat.le_of_ble_eq_true rfl, Nat.le_of_ble_eq_true rfl⟩ (Nat.zero_le _) (Nat.zero_le _) rfl rfl (Nat.le_of_ble_eq_true rfl) rfl (dX10_between 24 rfl) ?_
        refine R_iconst (dX10_between 25 rfl) rfl ?_
        refine R_icmp_ne (tgt := 55) (dX10_between 26 rfl) (by decide) (fun hc => ?_) (fun hc => ?_)
        · have H := ite_F H hc
          refine R_aload_n (i := 0) (dX10_between 29 rfl) rfl rfl ?_
          refine R_iload_n (i := 1) (dX10_between 30 rfl) rfl rfl ?_
          obtain ⟨r344, M345, hr, H⟩ := ob_E H
          refine R_cV (st' := []) [.inl x1] [] (t_X10_holds l g ad S _ hS   x1 hr) msX10_holds (Or.inl tb_1110) (Or.inl ⟨38, 10, _, _, _, (cl38 hS), rfl⟩) ⟨Nat.le_of_ble_eq_true rfl, Nat.le_of_ble_eq_true rfl⟩ (Nat.zero_le _) (Nat.zero_le _) rfl rfl (Nat.le_of_ble_eq_true rfl) rfl (dX10_between 31 rfl) ?_
          refine R_iconst (dX10_between 32 rfl) rfl ?_
          exact R_iret rfl (by decide +kernel) (Nat.zero_le _) (Nat.zero_le _) (dX10_between 33 rfl) ⟨congrArg (fun z => some (Sum.inl z)) (Prod.mk.inj (Option.some.inj H)).1, rfl, (Prod.mk.inj (Option.some.inj H)).2⟩
        · have H := ite_T H hc
          refine R_iconst (dX10_between 27 rfl) rfl ?_
          exact R_iret rfl (by decide +kernel) (Nat.zero_le _) (Nat.zero_le _) (dX10_between 28 rfl) ⟨congrArg (fun z => some (Sum.inl z)) (Prod.mk.inj (Option.some.inj H)).1, rfl, (Prod.mk.inj (Option.some.inj H)).2⟩
def f_X10_signOf (M : Mem) : Int :=
  if M 38 28 = 4 then
    11
  else
    if M 38 28 = 5 then
      12
    else
      if M 38 28 = 60 then
        14
      else
        if M 38 28 = 61 then
          15
        else
          if M 38 28 = 43 then
            16
          else
            if M 38 28 = 45 then
              17
            else
              if M 38 28 = 42 then
                18
              else
                (-1)
set_option maxHeartbeats 4000000 in
theorem t_X10_signOf (l : Launch) (g : GG) (ad : Nat → Nat) (S : SW) (M : Mem) (hS : q_ag 38 63 ad S) : CT l g MX10_signOf 1 0 0 S M [.inr (.inr (some (ad 38)))] (q_ex S (some (.inl (f_X10_signOf M))) M) := by
  obtain ⟨r, H⟩ : ∃ r, f_X10_signOf M = r := ⟨_, rfl⟩
  rw [H]
  unfold f_X10_signOf at H
  refine CT_of (ls0 := [some (.inr (.inr (some (ad 38))))]) (by decide +kernel) (Nat.le_of_ble_eq_true rfl) rfl ?_
  refine R_aload_n (i := 0) (dX10_signOf 0 rfl) rfl rfl ?_
  refine R_getI cgX10 38 (cl38 hS) 28 (Nat.le_of_ble_eq_true rfl) rfl (Or.inl tb_1155) (dX10_signOf 1 rfl) ?_
  refine R_iconst (dX10_signOf 2 rfl) rfl ?_
  refine R_icmp_ne (tgt := 13) (dX10_signOf 3 rfl) (by decide) (fun hc => ?_) (fun hc => ?_)
  · have H := ite_F H hc
    refine R_aload_n (i := 0) (dX10_signOf 6 rfl) rfl rfl ?_
    refine R_getI cgX10 38 (cl38 hS) 28 (Nat.le_of_ble_eq_true rfl) rfl (Or.inl tb_1155) (dX10_signOf 7 rfl) ?_
    refine R_iconst (dX10_signOf 8 rfl) rfl ?_
    refine R_icmp_ne (tgt := 26) (dX10_signOf 9 rfl) (by decide) (fun hc => ?_) (fun hc => ?_)
    · have H := ite_F H hc
      refine R_aload_n (i := 0) (dX10_signOf 12 rfl) rfl rfl ?_
      refine R_getI cgX10 38 (cl38 hS) 28 (Nat.le_of_ble_eq_true rfl) rfl (Or.inl tb_1155) (dX10_signOf 13 rfl) ?_
      refine R_bipush (dX10_signOf 14 rfl) rfl rfl ?_
      refine R_icmp_ne (tgt := 40) (dX10_signOf 15 rfl) (by decide) (fun hc => ?_) (fun hc => ?_)
      · have H := ite_F H hc
        refine R_aload_n (i := 0) (dX10_signOf 18 rfl) rfl rfl ?_
        refine R_getI cgX10 38 (cl38 hS) 28 (Nat.le_of_ble_eq_true rfl) rfl (Or.inl tb_1155) (dX10_signOf 19 rfl) ?_
        refine R_bipush (dX10_signOf 20 rfl) rfl rfl ?_
        refine R_icmp_ne (tgt := 54) (dX10_signOf 21 rfl) (by decide) (fun hc => ?_) (fun hc => ?_)
        · have H := ite_F H hc
          refine R_aload_n (i := 0) (dX10_signOf 24 rfl) rfl rfl ?_
          refine R_getI cgX10 38 (cl38 hS) 28 (Nat.le_of_ble_eq_true rfl) rfl (Or.inl tb_1155) (dX10_signOf 25 rfl) ?_
          refine R_bipush (dX10_signOf 26 rfl) rfl rfl ?_
          refine R_icmp_ne (tgt := 68) (dX10_signOf 27 rfl) (by decide) (fun hc => ?_) (fun hc => ?_)
          · have H := ite_F H hc
            refine R_aload_n (i := 0) (dX10_signOf 30 rfl) rfl rfl ?_
            refine R_getI cgX10 38 (cl38 hS) 28 (Nat.le_of_ble_eq_true rfl) rfl (Or.inl tb_1155) (dX10_signOf 31 rfl) ?_
            refine R_bipush (dX10_signOf 32 rfl) rfl rfl ?_
            refine R_icmp_ne (tgt := 82) (dX10_signOf 33 rfl) (by decide) (fun hc => ?_) (fun hc => ?_)
            · have H := ite_F H hc
              refine R_aload_n (i := 0) (dX10_signOf 36 rfl) rfl rfl ?_
              refine R_getI cgX10 38 (cl38 hS) 28 (Nat.le_of_ble_eq_true rfl) rfl (Or.inl tb_1155) (dX10_signOf 37 rfl) ?_
              refine R_bipush (dX10_signOf 38 rfl) rfl rfl ?_
              refine R_icmp_ne (tgt := 96) (dX10_signOf 39 rfl) (by decide) (fun hc => ?_) (fun hc => ?_)
              · have H := ite_F H hc
                refine R_iconst (dX10_signOf 42 rfl) rfl ?_
                exact R_iret rfl rfl (Nat.zero_le _) (Nat.zero_le _) (dX10_signOf 43 rfl) ⟨congrArg (fun z => some (Sum.inl z)) H, rfl, rfl⟩
              · have H := ite_T H hc
                refine R_bipush (dX10_signOf 40 rfl) rfl rfl ?_
                refine R_goto (tgt := 97) (dX10_signOf 41 rfl) (by decide) ?_
                exact R_iret rfl rfl (Nat.zero_le _) (Nat.zero_le _) (dX10_signOf 43 rfl) ⟨congrArg (fun z => some (Sum.inl z)) H, rfl, rfl⟩
            · have H := ite_T H hc
              refine R_bipush (dX10_signOf 34 rfl) rfl rfl ?_
              refine R_goto (tgt := 97) (dX10_signOf 35 rfl) (by decide) ?_
              exact R_iret rfl rfl (Nat.zero_le _) (Nat.zero_le _) (dX10_signOf 43 rfl) ⟨congrArg (fun z => some (Sum.inl z)) H, rfl, rfl⟩
          · have H := ite_T H hc
            refine R_bipush (dX10_signOf 28 rfl) rfl rfl ?_
            refine R_goto (tgt := 97) (dX10_signOf 29 rfl) (by decide) ?_
            exact R_iret rfl rfl (Nat.zero_le _) (Nat.zero_le _) (dX10_signOf 43 rfl) ⟨congrArg (fun z => some (Sum.inl z)) H, rfl, rfl⟩
        · have H := ite_T H hc
          refine R_bipush (dX10_signOf 22 rfl) rfl rfl ?_
          refine R_goto (tgt := 97) (dX10_signOf 23 rfl) (by decide) ?_
          exact R_iret rfl rfl (Nat.zero_le _) (Nat.zero_le _) (dX10_signOf 43 rfl) ⟨congrArg (fun z => some (Sum.inl z)) H, rfl, rfl⟩
      · have H := ite_T H hc
        refine R_bipush (dX10_signOf 16 rfl) rfl rfl ?_
        refine R_goto (tgt := 97) (dX10_signOf 17 rfl) (by decide) ?_
        exact R_iret rfl rfl (Nat.zero_le _) (Nat.zero_le _) (dX10_signOf 43 rfl) ⟨congrArg (fun z => some (Sum.inl z)) H, rfl, rfl⟩
    · have H := ite_T H hc
      refine R_bipush (dX10_signOf 10 rfl) rfl rfl ?_
      refine R_goto (tgt := 97) (dX10_signOf 11 rfl) (by decide) ?_
      exact R_iret rfl rfl (Nat.zero_le _) (Nat.zero_le _) (dX10_signOf 43 rfl) ⟨congrArg (fun z => some (Sum.inl z)) H, rfl, rfl⟩
  · have H := ite_T H hc
    refine R_bipush (dX10_signOf 4 rfl) rfl rfl ?_
    refine R_goto (tgt := 97) (dX10_signOf 5 rfl) (by decide) ?_
    exact R_iret rfl rfl (Nat.zero_le _) (Nat.zero_le _) (dX10_signOf 43 rfl) ⟨congrArg (fun z => some (Sum.inl z)) H, rfl, rfl⟩
def f_X10_eRead_L14 (K159 : Mem → Option (Int × Mem)) : Nat → Int → Int → Mem → Option (Int × Mem)
  | 0, _, _, _ => none
  | n + 1, x1, x2, M =>
    ob (f_X10_next M) fun r346 M347 =>
    if x1 = 0 then
      if M347 38 28 = 59 then
        K159 M347
      else
        if M347 38 28 = 41 then
          ob (f_X10_unwinds 1 M347) fun r350 M351 =>
          if M351 38 32 = 0 then
            some (0, M351)
          else
            ob (f_X10_unwinds 7 (mset (mset M351 38 32 (w32 ((M351 38 32) - 1))) 38 33 (w32 (((mset M351 38 32 (w32 ((M351 38 32) - 1))) 38 33) - 1)))) fun r352 M353 =>
            f_X10_eRead_L14 K159 n x1 x2 M353
        else
          if f_X10_signOf M347 = (-1) then
            some (0, M347)
          else
            ob (f_X10_between (f_X10_signOf M347) M347) fun r348 M349 =>
            if r348 = 0 then
              some (0, M349)
            else
              if 12 < f_X10_signOf M347 then
                f_X10_eRead_L14 K159 n 1 0 M349
              else
                f_X10_eRead_L14 K159 n 1 1 M349
    else
      if M347 38 28 = 1 then
        if M347 38 28 = 1 then
          ob (f_X10_puts (w32 (100000 + (M347 38 29))) M347) fun r358 M359 =>
          ob (f_X10_unwinds 7 M359) fun r360 M361 =>
          f_X10_eRead_L14 K159 n 0 x2 M361
        else
          ob (f_X10_puts (M347 38 29) M347) fun r354 M355 =>
          ob (f_X10_unwinds 7 M355) fun r356 M357 =>
          f_X10_eRead_L14 K159 n 0 x2 M357
      else
        if M347 38 28 = 2 then
          if M347 38 28 = 1 then
            ob (f_X10_puts (w32 (100000 + (M347 38 29))) M347) fun r376 M377 =>
            ob (f_X10_unwinds 7 M377) fun r378 M379 =>
            f_X10_eRead_L14 K159 n 0 x2 M379
          else
            ob (f_X10_puts (M347 38 29) M347) fun r372 M373 =>
            ob (f_X10_unwinds 7 M373) fun r374 M375 =>
            f_X10_eRead_L14 K159 n 0 x2 M375
        else
          if M347 38 28 = 6 then
            if x2 = 0 then
              if M347 38 28 = 45 then
                ob (f_X10_opensOne 19 M347) fun r368 M369 =>
                if r368 = 0 then
                  some (0, M369)
                else
                  f_X10_eRead_L14 K159 n x1 0 M369
              else
                if M347 38 28 = 40 then
                  ob (f_X10_opensOne 0 M347) fun r366 M367 =>
                  if r366 = 0 then
                    some (0, M367)
                  else
                    f_X10_eRead_L14 K159 n x1 1 M367
                else
                  some (0, M347)
            else
              ob (f_X10_opensOne 13 M347) fun r370 M371 =>
              if r370 = 0 then
                some (0, M371)
              else
                f_X10_eRead_L14 K159 n x1 x2 M371
          else
            if M347 38 28 = 45 then
              ob (f_X10_opensOne 19 M347) fun r364 M365 =>
              if r364 = 0 then
                some (0, M365)
              else
                f_X10_eRead_L14 K159 n x1 0 M365
            else
              if M347 38 28 = 40 then
                ob (f_X10_opensOne 0 M347) fun r362 M363 =>
                if r362 = 0 then
                  some (0, M363)
                else
                  f_X10_eRead_L14 K159 n x1 1 M363
              else
                some (0, M347)
set_option maxHeartbeats 4000000 in
theorem t_X10_eRead_L14 (l : Launch) (g : GG) (ad : Nat → Nat) (S : SW) (hS : q_ag 38 63 ad S) {K159 : Mem → Option (Int × Mem)} {r : Int} {M' : Mem} : ∀ (n : Nat) (x1 : Int) (x2 : Int) (M : Mem), f_X10_eRead_L14 K159 n x1 x2 M = some (r, M') → (∀ (M1 : Mem), K159 M1 = some (r, M') → RW l g MX10_eRead (q_rm 4 0 0) 0 0 (q_ex S (some (.inl r)) M') 159 S M1 0 0 [some (.inr (.inr (some (ad 38)))), none, none, none] []) → RW l g MX10_eRead (q_rm 4 0 0) 0 0 (q_ex S (some (.inl r)) M') 14 S M 0 0 [some (.inr (.inr (some (ad 38)))), some (.inl x1), some (.inl x2), none] [] := by
  intro n
  induction n with
  | zero => intro x1 x2 M H; exact absurd H (by simp [f_X10_eRead_L14])
  | succ n ih =>
    intro x1 x2 M H hK159
    rw [f_X10_eRead_L14] at H
    refine R_aload_n (i := 0) (dX10_eRead_0 10 rfl) rfl rfl ?_
    obtain ⟨r346, M347, hr, H⟩ := ob_E H
    refine R_cV (st' := []) [] [] (t_X10_next l g ad S _ hS   hr) msX10_next (Or.inl tb_1079) (Or.inl ⟨38, 10, _, _, _, (cl38 hS), rfl⟩) ⟨Nat.le_of_ble_eq_true rfl, Nat.le_of_ble_eq_true rfl⟩ (Nat.zero_le _) (Nat.zero_le _) rfl rfl (Nat.le_of_ble_eq_true rfl) rfl (dX10_eRead_0 11 rfl) ?_
    refine R_iload_n (i := 1) (dX10_eRead_0 12 rfl) rfl rfl ?_
    refine R_if_eq (tgt := 150) (dX10_eRead_0 13 rfl) (by decide) (fun hc => ?_) (fun hc => ?_)
    · have H := ite_T H hc
      refine R_aload_n (i := 0) (dX10_eRead_1 21 rfl) rfl rfl ?_
      refine R_getI cgX10 38 (cl38 hS) 28 (Nat.le_of_ble_eq_true rfl) rfl (Or.inl tb_1155) (dX10_eRead_1 22 rfl) ?_
      refine R_bipush (dX10_eRead_1 23 rfl) rfl rfl ?_
      refine R_icmp_ne (tgt := 177) (dX10_eRead_1 24 rfl) (by decide) (fun hc => ?_) (fun hc => ?_)
      · have H := ite_F H hc
        refine R_aload_n (i := 0) (dX10_eRead_1 35 rfl) rfl rfl ?_
        refine R_getI cgX10 38 (cl38 hS) 28 (Nat.le_of_ble_eq_true rfl) rfl (Or.inl tb_1155) (dX10_eRead_1 36 rfl) ?_
        refine R_bipush (dX10_eRead_1 37 rfl) rfl rfl ?_
        refine R_icmp_ne (tgt := 229) (dX10_eRead_1 38 rfl) (by decide) (fun hc => ?_) (fun hc => ?_)
        · have H := ite_F H hc
          refine R_aload_n (i := 0) (dX10_eRead_2 3 rfl) rfl rfl ?_
          refine R_cV (st' := [.inl (f_X10_signOf M347)]) [] [] (t_X10_signOf l g ad S _ hS  ) msX10_signOf (Or.inl tb_1114) (Or.inl ⟨38, 10, _, _, _, (cl38 hS), rfl⟩) ⟨Nat.le_of_ble_eq_true rfl, Nat.le_of_ble_eq_true rfl⟩ (Nat.zero_le _) (Nat.zero_le _) rfl rfl (Nat.le_of_ble_eq_true rfl) rfl (dX10_eRead_2 4 rfl) ?_
          refine R_istore_n (i := 3) (ls' := [some (.inr (.inr (some (ad 38)))), some (.inl x1), some (.inl x2), some (.inl (f_X10_signOf M347))]) (dX10_eRead_2 5 rfl) rfl (Nat.le_of_ble_eq_true rfl) (Nat.le_of_ble_eq_true rfl) rfl rfl ?_
          refine R_iload_n (i := 3) (dX10_eRead_2 6 rfl) rfl rfl ?_
          refine R_iconst (dX10_eRead_2 7 rfl) rfl ?_
          refine R_icmp_eq (tgt := 247) (dX10_eRead_2 8 rfl) (by decide) (fun hc => ?_) (fun hc => ?_)
          · have H := ite_T H hc
            refine R_iconst (dX10_eRead_2 13 rfl) rfl ?_
            exact R_iret rfl (by decide +kernel) (Nat.zero_le _) (Nat.zero_le _) (dX10_eRead_2 14 rfl) ⟨congrArg (fun z => some (Sum.inl z)) (Prod.mk.inj (Option.some.inj H)).1, rfl, (Prod.mk.inj (Option.some.inj H)).2⟩
          · have H := ite_F H hc
            refine R_aload_n (i := 0) (dX10_eRead_2 9 rfl) rfl rfl ?_
            refine R_iload_n (i := 3) (dX10_eRead_2 10 rfl) rfl rfl ?_
            obtain ⟨r348, M349, hr, H⟩ := ob_E H
            refine R_cV (st' := [.inl r348]) [.inl (f_X10_signOf M347)] [] (t_X10_between l g ad S _ hS   (f_X10_signOf M347) hr) msX10_between (Or.inl tb_1118) (Or.inl ⟨38, 10, _, _, _, (cl38 hS), rfl⟩) ⟨Nat.le_of_ble_eq_true rfl, Nat.le_of_ble_eq_true rfl⟩ (Nat.zero_le _) (Nat.zero_le _) rfl rfl (Nat.le_of_ble_eq_true rfl) rfl (dX10_eRead_2 11 rfl) ?_
            refine R_if_ne (tgt := 249) (dX10_eRead_2 12 rfl) (by decide) (fun hc => ?_) (fun hc => ?_)
            · have H := ite_F H hc
              refine R_iconst (dX10_eRead_2 15 rfl) rfl ?_
              refine R_istore_n (i := 1) (ls' := [some (.inr (.inr (some (ad 38)))), some (.inl 1), some (.inl x2), some (.inl (f_X10_signOf M347))]) (dX10_eRead_2 16 rfl) rfl (Nat.le_of_ble_eq_true rfl) (Nat.le_of_ble_eq_true rfl) rfl rfl ?_
              refine R_iload_n (i := 3) (dX10_eRead_2 17 rfl) rfl rfl ?_
              refine R_bipush (dX10_eRead_2 18 rfl) rfl rfl ?_
              refine R_icmp_gt (tgt := 261) (dX10_eRead_2 19 rfl) (by decide) (fun hc => ?_) (fun hc => ?_)
              · have H := ite_T H hc
                refine R_iconst (dX10_eRead_2 22 rfl) rfl ?_
                refine R_istore_n (i := 2) (ls' := [some (.inr (.inr (some (ad 38)))), some (.inl 1), some (.inl 0), some (.inl (f_X10_signOf M347))]) (dX10_eRead_2 23 rfl) rfl (Nat.le_of_ble_eq_true rfl) (Nat.le_of_ble_eq_true rfl) rfl rfl ?_
                refine R_goto (tgt := 14) (dX10_eRead_2 24 rfl) (by decide) ?_
                refine R_mask [true, true, true, false] rfl ?_
                exact ih 1 0 M349 H hK159
              · have H := ite_F H hc
                refine R_iconst (dX10_eRead_2 20 rfl) rfl ?_
                refine R_goto (tgt := 262) (dX10_eRead_2 21 rfl) (by decide) ?_
                refine R_istore_n (i := 2) (ls' := [some (.inr (.inr (some (ad 38)))), some (.inl 1), some (.inl 1), some (.inl (f_X10_signOf M347))]) (dX10_eRead_2 23 rfl) rfl (Nat.le_of_ble_eq_true rfl) (Nat.le_of_ble_eq_true rfl) rfl rfl ?_
                refine R_goto (tgt := 14) (dX10_eRead_2 24 rfl) (by decide) ?_
                refine R_mask [true, true, true, false] rfl ?_
                exact ih 1 1 M349 H hK159
            · have H := ite_T H hc
              refine R_iconst (dX10_eRead_2 13 rfl) rfl ?_
              exact R_iret rfl (by decide +kernel) (Nat.zero_le _) (Nat.zero_le _) (dX10_eRead_2 14 rfl) ⟨congrArg (fun z => some (Sum.inl z)) (Prod.mk.inj (Option.some.inj H)).1, rfl, (Prod.mk.inj (Option.some.inj H)).2⟩
        · have H := ite_T H hc
          refine R_aload_n (i := 0) (dX10_eRead_1 39 rfl) rfl rfl ?_
          refine R_iconst (dX10_eRead_1 40 rfl) rfl ?_
          obtain ⟨r350, M351, hr, H⟩ := ob_E H
          refine R_cV (st' := []) [.inl 1] [] (t_X10_unwinds l g ad S _ hS   1 hr) msX10_unwinds (Or.inl tb_1099) (Or.inl ⟨38, 10, _, _, _, (cl38 hS), rfl⟩) ⟨Nat.le_of_ble_eq_true rfl, Nat.le_of_ble_eq_true rfl⟩ (Nat.zero_le _) (Nat.zero_le _) rfl rfl (Nat.le_of_ble_eq_true rfl) rfl (dX10_eRead_1 41 rfl) ?_
          refine R_aload_n (i := 0) (dX10_eRead_1 42 rfl) rfl rfl ?_
          refine R_getI cgX10 38 (cl38 hS) 32 (Nat.le_of_ble_eq_true rfl) rfl (Or.inl tb_1159) (dX10_eRead_1 43 rfl) ?_
          refine R_if_ne (tgt := 200) (dX10_eRead_1 44 rfl) (by decide) (fun hc => ?_) (fun hc => ?_)
          · have H := ite_F H hc
            refine R_aload_n (i := 0) (dX10_eRead_1 47 rfl) rfl rfl ?_
            refine R_dup rfl (dX10_eRead_1 48 rfl) ?_
            refine R_getI cgX10 38 (cl38 hS) 32 (Nat.le_of_ble_eq_true rfl) rfl (Or.inl tb_1159) (dX10_eRead_1 49 rfl) ?_
            refine R_iconst (dX10_eRead_1 50 rfl) rfl ?_
            refine R_isub (dX10_eRead_1 51 rfl) ?_
            refine R_putI cgX10 38 (cl38 hS) 32 (Nat.le_of_ble_eq_true rfl) rfl rfl rfl rfl (Or.inl tb_1159) (dX10_eRead_1 52 rfl) ?_
            refine R_aload_n (i := 0) (dX10_eRead_1 53 rfl) rfl rfl ?_
            refine R_dup rfl (dX10_eRead_1 54 rfl) ?_
            refine R_getI cgX10 38 (cl38 hS) 33 (Nat.le_of_ble_eq_true rfl) rfl (Or.inl tb_1160) (dX10_eRead_1 55 rfl) ?_
            refine R_iconst (dX10_eRead_1 56 rfl) rfl ?_
            refine R_isub (dX10_eRead_1 57 rfl) ?_
            refine R_putI cgX10 38 (cl38 hS) 33 (Nat.le_of_ble_eq_true rfl) rfl rfl rfl rfl (Or.inl tb_1160) (dX10_eRead_1 58 rfl) ?_
            refine R_aload_n (i := 0) (dX10_eRead_1 59 rfl) rfl rfl ?_
            refine R_bipush (dX10_eRead_2 0 rfl) rfl rfl ?_
            obtain ⟨r352, M353, hr, H⟩ := ob_E H
            refine R_cV (st' := []) [.inl 7] [] (t_X10_unwinds l g ad S _ hS   7 hr) msX10_unwinds (Or.inl tb_1099) (Or.inl ⟨38, 10, _, _, _, (cl38 hS), rfl⟩) ⟨Nat.le_of_ble_eq_true rfl, Nat.le_of_ble_eq_true rfl⟩ (Nat.zero_le _) (Nat.zero_le _) rfl rfl (Nat.le_of_ble_eq_true rfl) rfl (dX10_eRead_2 1 rfl) ?_
            refine R_goto (tgt := 14) (dX10_eRead_2 2 rfl) (by decide) ?_
            exact ih x1 x2 M353 H hK159
          · have H := ite_T H hc
            refine R_iconst (dX10_eRead_1 45 rfl) rfl ?_
            exact R_iret rfl (by decide +kernel) (Nat.zero_le _) (Nat.zero_le _) (dX10_eRead_1 46 rfl) ⟨congrArg (fun z => some (Sum.inl z)) (Prod.mk.inj (Option.some.inj H)).1, rfl, (Prod.mk.inj (Option.some.inj H)).2⟩
      · have H := ite_T H hc
        refine R_mask [true, false, false, false] rfl ?_
        exact hK159 M347 H
    · have H := ite_F H hc
      refine R_aload_n (i := 0) (dX10_eRead_0 14 rfl) rfl rfl ?_
      refine R_getI cgX10 38 (cl38 hS) 28 (Nat.le_of_ble_eq_true rfl) rfl (Or.inl tb_1155) (dX10_eRead_0 15 rfl) ?_
      refine R_iconst (dX10_eRead_0 16 rfl) rfl ?_
      refine R_icmp_eq (tgt := 38) (dX10_eRead_0 17 rfl) (by decide) (fun hc => ?_) (fun hc => ?_)
      · have H := ite_T H hc
        refine R_aload_n (i := 0) (dX10_eRead_0 22 rfl) rfl rfl ?_
        refine R_aload_n (i := 0) (dX10_eRead_0 23 rfl) rfl rfl ?_
        refine R_getI cgX10 38 (cl38 hS) 28 (Nat.le_of_ble_eq_true rfl) rfl (Or.inl tb_1155) (dX10_eRead_0 24 rfl) ?_
        refine R_iconst (dX10_eRead_0 25 rfl) rfl ?_
        refine R_icmp_ne (tgt := 57) (dX10_eRead_0 26 rfl) (by decide) (fun hc => ?_) (fun hc => ?_)
        · have H := ite_F H hc
          refine R_aload_n (i := 0) (dX10_eRead_0 32 rfl) rfl rfl ?_
          refine R_getI cgX10 38 (cl38 hS) 29 (Nat.le_of_ble_eq_true rfl) rfl (Or.inl tb_1156) (dX10_eRead_0 33 rfl) ?_
          obtain ⟨r354, M355, hr, H⟩ := ob_E H
          refine R_cV (st' := []) [.inl (M347 38 29)] [] (t_X10_puts l g ad S _ hS   (M347 38 29) hr) msX10_puts (Or.inl tb_1095) (Or.inl ⟨38, 10, _, _, _, (cl38 hS), rfl⟩) ⟨Nat.le_of_ble_eq_true rfl, Nat.le_of_ble_eq_true rfl⟩ (Nat.zero_le _) (Nat.zero_le _) rfl rfl (Nat.le_of_ble_eq_true rfl) rfl (dX10_eRead_0 34 rfl) ?_
          refine R_aload_n (i := 0) (dX10_eRead_0 35 rfl) rfl rfl ?_
          refine R_bipush (dX10_eRead_0 36 rfl) rfl rfl ?_
          obtain ⟨r356, M357, hr, H⟩ := ob_E H
          refine R_cV (st' := []) [.inl 7] [] (t_X10_unwinds l g ad S _ hS   7 hr) msX10_unwinds (Or.inl tb_1099) (Or.inl ⟨38, 10, _, _, _, (cl38 hS), rfl⟩) ⟨Nat.le_of_ble_eq_true rfl, Nat.le_of_ble_eq_true rfl⟩ (Nat.zero_le _) (Nat.zero_le _) rfl rfl (Nat.le_of_ble_eq_true rfl) rfl (dX10_eRead_0 37 rfl) ?_
          refine R_iconst (dX10_eRead_0 38 rfl) rfl ?_
          refine R_istore_n (i := 1) (ls' := [some (.inr (.inr (some (ad 38)))), some (.inl 0), some (.inl x2), none]) (dX10_eRead_0 39 rfl) rfl (Nat.le_of_ble_eq_true rfl) (Nat.le_of_ble_eq_true rfl) rfl rfl ?_
          refine R_goto (tgt := 14) (dX10_eRead_0 40 rfl) (by decide) ?_
          exact ih 0 x2 M357 H hK159
        · have H := ite_T H hc
          refine R_ldc (z := 100000) tb_1094 rfl (dX10_eRead_0 27 rfl) ?_
          refine R_aload_n (i := 0) (dX10_eRead_0 28 rfl) rfl rfl ?_
          refine R_getI cgX10 38 (cl38 hS) 29 (Nat.le_of_ble_eq_true rfl) rfl (Or.inl tb_1156) (dX10_eRead_0 29 rfl) ?_
          refine R_iadd (dX10_eRead_0 30 rfl) ?_
          refine R_goto (tgt := 61) (dX10_eRead_0 31 rfl) (by decide) ?_
          obtain ⟨r358, M359, hr, H⟩ := ob_E H
          refine R_cV (st' := []) [.inl (w32 (100000 + (M347 38 29)))] [] (t_X10_puts l g ad S _ hS   (w32 (100000 + (M347 38 29))) hr) msX10_puts (Or.inl tb_1095) (Or.inl ⟨38, 10, _, _, _, (cl38 hS), rfl⟩) ⟨Nat.le_of_ble_eq_true rfl, Nat.le_of_ble_eq_true rfl⟩ (Nat.zero_le _) (Nat.zero_le _) rfl rfl (Nat.le_of_ble_eq_true rfl) rfl (dX10_eRead_0 34 rfl) ?_
          refine R_aload_n (i := 0) (dX10_eRead_0 35 rfl) rfl rfl ?_
          refine R_bipush (dX10_eRead_0 36 rfl) rfl rfl ?_
          obtain ⟨r360, M361, hr, H⟩ := ob_E H
          refine R_cV (st' := []) [.inl 7] [] (t_X10_unwinds l g ad S _ hS   7 hr) msX10_unwinds (Or.inl tb_1099) (Or.inl ⟨38, 10, _, _, _, (cl38 hS), rfl⟩) ⟨Nat.le_of_ble_eq_true rfl, Nat.le_of_ble_eq_true rfl⟩ (Nat.zero_le _) (Nat.zero_le _) rfl rfl (Nat.le_of_ble_eq_true rfl) rfl (dX10_eRead_0 37 rfl) ?_
          refine R_iconst (dX10_eRead_0 38 rfl) rfl ?_
          refine R_istore_n (i := 1) (ls' := [some (.inr (.inr (some (ad 38)))), some (.inl 0), some (.inl x2), none]) (dX10_eRead_0 39 rfl) rfl (Nat.le_of_ble_eq_true rfl) (Nat.le_of_ble_eq_true rfl) rfl rfl ?_
          refine R_goto (tgt := 14) (dX10_eRead_0 40 rfl) (by decide) ?_
          exact ih 0 x2 M361 H hK159
      · have H := ite_F H hc
        refine R_aload_n (i := 0) (dX10_eRead_0 18 rfl) rfl rfl ?_
        refine R_getI cgX10 38 (cl38 hS) 28 (Nat.le_of_ble_eq_true rfl) rfl (Or.inl tb_1155) (dX10_eRead_0 19 rfl) ?_
        refine R_iconst (dX10_eRead_0 20 rfl) rfl ?_
        refine R_icmp_ne (tgt := 75) (dX10_eRead_0 21 rfl) (by decide) (fun hc => ?_) (fun hc => ?_)
        · have H := ite_F H hc
          refine R_aload_n (i := 0) (dX10_eRead_0 41 rfl) rfl rfl ?_
          refine R_getI cgX10 38 (cl38 hS) 28 (Nat.le_of_ble_eq_true rfl) rfl (Or.inl tb_1155) (dX10_eRead_0 42 rfl) ?_
          refine R_bipush (dX10_eRead_0 43 rfl) rfl rfl ?_
          refine R_icmp_ne (tgt := 99) (dX10_eRead_0 44 rfl) (by decide) (fun hc => ?_) (fun hc => ?_)
          · have H := ite_F H hc
            refine R_aload_n (i := 0) (dX10_eRead_0 53 rfl) rfl rfl ?_
            refine R_getI cgX10 38 (cl38 hS) 28 (Nat.le_of_ble_eq_true rfl) rfl (Or.inl tb_1155) (dX10_eRead_0 54 rfl) ?_
            refine R_bipush (dX10_eRead_0 55 rfl) rfl rfl ?_
            refine R_icmp_ne (tgt := 124) (dX10_eRead_0 56 rfl) (by decide) (fun hc => ?_) (fun hc => ?_)
            · have H := ite_F H hc
              refine R_aload_n (i := 0) (dX10_eRead_1 6 rfl) rfl rfl ?_
              refine R_getI cgX10 38 (cl38 hS) 28 (Nat.le_of_ble_eq_true rfl) rfl (Or.inl tb_1155) (dX10_eRead_1 7 rfl) ?_
              refine R_bipush (dX10_eRead_1 8 rfl) rfl rfl ?_
              refine R_icmp_ne (tgt := 148) (dX10_eRead_1 9 rfl) (by decide) (fun hc => ?_) (fun hc => ?_)
              · have H := ite_F H hc
                refine R_iconst (dX10_eRead_1 19 rfl) rfl ?_
                exact R_iret rfl (by decide +kernel) (Nat.zero_le _) (Nat.zero_le _) (dX10_eRead_1 20 rfl) ⟨congrArg (fun z => some (Sum.inl z)) (Prod.mk.inj (Option.some.inj H)).1, rfl, (Prod.mk.inj (Option.some.inj H)).2⟩
              · have H := ite_T H hc
                refine R_aload_n (i := 0) (dX10_eRead_1 10 rfl) rfl rfl ?_
                refine R_iconst (dX10_eRead_1 11 rfl) rfl ?_
                obtain ⟨r362, M363, hr, H⟩ := ob_E H
                refine R_cV (st' := [.inl r362]) [.inl 0] [] (t_X10_opensOne l g ad S _ hS   0 hr) msX10_opensOne (Or.inl tb_1106) (Or.inl ⟨38, 10, _, _, _, (cl38 hS), rfl⟩) ⟨Nat.le_of_ble_eq_true rfl, Nat.le_of_ble_eq_true rfl⟩ (Nat.zero_le _) (Nat.zero_le _) rfl rfl (Nat.le_of_ble_eq_true rfl) rfl (dX10_eRead_1 12 rfl) ?_
                refine R_if_ne (tgt := 143) (dX10_eRead_1 13 rfl) (by decide) (fun hc => ?_) (fun hc => ?_)
                · have H := ite_F H hc
                  refine R_iconst (dX10_eRead_1 16 rfl) rfl ?_
                  refine R_istore_n (i := 2) (ls' := [some (.inr (.inr (some (ad 38)))), some (.inl x1), some (.inl 1), none]) (dX10_eRead_1 17 rfl) rfl (Nat.le_of_ble_eq_true rfl) (Nat.le_of_ble_eq_true rfl) rfl rfl ?_
                  refine R_goto (tgt := 14) (dX10_eRead_1 18 rfl) (by decide) ?_
                  exact ih x1 1 M363 H hK159
                · have H := ite_T H hc
                  refine R_iconst (dX10_eRead_1 14 rfl) rfl ?_
                  exact R_iret rfl (by decide +kernel) (Nat.zero_le _) (Nat.zero_le _) (dX10_eRead_1 15 rfl) ⟨congrArg (fun z => some (Sum.inl z)) (Prod.mk.inj (Option.some.inj H)).1, rfl, (Prod.mk.inj (Option.some.inj H)).2⟩
            · have H := ite_T H hc
              refine R_aload_n (i := 0) (dX10_eRead_0 57 rfl) rfl rfl ?_
              refine R_bipush (dX10_eRead_0 58 rfl) rfl rfl ?_
              obtain ⟨r364, M365, hr, H⟩ := ob_E H
              refine R_cV (st' := [.inl r364]) [.inl 19] [] (t_X10_opensOne l g ad S _ hS   19 hr) msX10_opensOne (Or.inl tb_1106) (Or.inl ⟨38, 10, _, _, _, (cl38 hS), rfl⟩) ⟨Nat.le_of_ble_eq_true rfl, Nat.le_of_ble_eq_true rfl⟩ (Nat.zero_le _) (Nat.zero_le _) rfl rfl (Nat.le_of_ble_eq_true rfl) rfl (dX10_eRead_0 59 rfl) ?_
              refine R_if_ne (tgt := 119) (dX10_eRead_1 0 rfl) (by decide) (fun hc => ?_) (fun hc => ?_)
              · have H := ite_F H hc
                refine R_iconst (dX10_eRead_1 3 rfl) rfl ?_
                refine R_istore_n (i := 2) (ls' := [some (.inr (.inr (some (ad 38)))), some (.inl x1), some (.inl 0), none]) (dX10_eRead_1 4 rfl) rfl (Nat.le_of_ble_eq_true rfl) (Nat.le_of_ble_eq_true rfl) rfl rfl ?_
                refine R_goto (tgt := 14) (dX10_eRead_1 5 rfl) (by decide) ?_
                exact ih x1 0 M365 H hK159
              · have H := ite_T H hc
                refine R_iconst (dX10_eRead_1 1 rfl) rfl ?_
                exact R_iret rfl (by decide +kernel) (Nat.zero_le _) (Nat.zero_le _) (dX10_eRead_1 2 rfl) ⟨congrArg (fun z => some (Sum.inl z)) (Prod.mk.inj (Option.some.inj H)).1, rfl, (Prod.mk.inj (Option.some.inj H)).2⟩
          · have H := ite_T H hc
            refine R_iload_n (i := 2) (dX10_eRead_0 45 rfl) rfl rfl ?_
            refine R_if_eq (tgt := 99) (dX10_eRead_0 46 rfl) (by decide) (fun hc => ?_) (fun hc => ?_)
            · have H := ite_T H hc
              refine R_aload_n (i := 0) (dX10_eRead_0 53 rfl) rfl rfl ?_
              refine R_getI cgX10 38 (cl38 hS) 28 (Nat.le_of_ble_eq_true rfl) rfl (Or.inl tb_1155) (dX10_eRead_0 54 rfl) ?_
              refine R_bipush (dX10_eRead_0 55 rfl) rfl rfl ?_
              refine R_icmp_ne (tgt := 124) (dX10_eRead_0 56 rfl) (by decide) (fun hc => ?_) (fun hc => ?_)
              · have H := ite_F H hc
                refine R_aload_n (i := 0) (dX10_eRead_1 6 rfl) rfl rfl ?_
                refine R_getI cgX10 38 (cl38 hS) 28 (Nat.le_of_ble_eq_true rfl) rfl (Or.inl tb_1155) (dX10_eRead_1 7 rfl) ?_
                refine R_bipush (dX10_eRead_1 8 rfl) rfl rfl ?_
                refine R_icmp_ne (tgt := 148) (dX10_eRead_1 9 rfl) (by decide) (fun hc => ?_) (fun hc => ?_)
                · have H := ite_F H hc
                  refine R_iconst (dX10_eRead_1 19 rfl) rfl ?_
                  exact R_iret rfl (by decide +kernel) (Nat.zero_le _) (Nat.zero_le _) (dX10_eRead_1 20 rfl) ⟨congrArg (fun z => some (Sum.inl z)) (Prod.mk.inj (Option.some.inj H)).1, rfl, (Prod.mk.inj (Option.some.inj H)).2⟩
                · have H := ite_T H hc
                  refine R_aload_n (i := 0) (dX10_eRead_1 10 rfl) rfl rfl ?_
                  refine R_iconst (dX10_eRead_1 11 rfl) rfl ?_
                  obtain ⟨r366, M367, hr, H⟩ := ob_E H
                  refine R_cV (st' := [.inl r366]) [.inl 0] [] (t_X10_opensOne l g ad S _ hS   0 hr) msX10_opensOne (Or.inl tb_1106) (Or.inl ⟨38, 10, _, _, _, (cl38 hS), rfl⟩) ⟨Nat.le_of_ble_eq_true rfl, Nat.le_of_ble_eq_true rfl⟩ (Nat.zero_le _) (Nat.zero_le _) rfl rfl (Nat.le_of_ble_eq_true rfl) rfl (dX10_eRead_1 12 rfl) ?_
                  refine R_if_ne (tgt := 143) (dX10_eRead_1 13 rfl) (by decide) (fun hc => ?_) (fun hc => ?_)
                  · have H := ite_F H hc
                    refine R_iconst (dX10_eRead_1 16 rfl) rfl ?_
                    refine R_istore_n (i := 2) (ls' := [some (.inr (.inr (some (ad 38)))), some (.inl x1), some (.inl 1), none]) (dX10_eRead_1 17 rfl) rfl (Nat.le_of_ble_eq_true rfl) (Nat.le_of_ble_eq_true rfl) rfl rfl ?_
                    refine R_goto (tgt := 14) (dX10_eRead_1 18 rfl) (by decide) ?_
                    exact ih x1 1 M367 H hK159
                  · have H := ite_T H hc
                    refine R_iconst (dX10_eRead_1 14 rfl) rfl ?_
                    exact R_iret rfl (by decide +kernel) (Nat.zero_le _) (Nat.zero_le _) (dX10_eRead_1 15 rfl) ⟨congrArg (fun z => some (Sum.inl z)) (Prod.mk.inj (Option.some.inj H)).1, rfl, (Prod.mk.inj (Option.some.inj H)).2⟩
              · have H := ite_T H hc
                refine R_aload_n (i := 0) (dX10_eRead_0 57 rfl) rfl rfl ?_
                refine R_bipush (dX10_eRead_0 58 rfl) rfl rfl ?_
                obtain ⟨r368, M369, hr, H⟩ := ob_E H
                refine R_cV (st' := [.inl r368]) [.inl 19] [] (t_X10_opensOne l g ad S _ hS   19 hr) msX10_opensOne (Or.inl tb_1106) (Or.inl ⟨38, 10, _, _, _, (cl38 hS), rfl⟩) ⟨Nat.le_of_ble_eq_true rfl, Nat.le_of_ble_eq_true rfl⟩ (Nat.zero_le _) (Nat.zero_le _) rfl rfl (Nat.le_of_ble_eq_true rfl) rfl (dX10_eRead_0 59 rfl) ?_
                refine R_if_ne (tgt := 119) (dX10_eRead_1 0 rfl) (by decide) (fun hc => ?_) (fun hc => ?_)
                · have H := ite_F H hc
                  refine R_iconst (dX10_eRead_1 3 rfl) rfl ?_
                  refine R_istore_n (i := 2) (ls' := [some (.inr (.inr (some (ad 38)))), some (.inl x1), some (.inl 0), none]) (dX10_eRead_1 4 rfl) rfl (Nat.le_of_ble_eq_true rfl) (Nat.le_of_ble_eq_true rfl) rfl rfl ?_
                  refine R_goto (tgt := 14) (dX10_eRead_1 5 rfl) (by decide) ?_
                  exact ih x1 0 M369 H hK159
                · have H := ite_T H hc
                  refine R_iconst (dX10_eRead_1 1 rfl) rfl ?_
                  exact R_iret rfl (by decide +kernel) (Nat.zero_le _) (Nat.zero_le _) (dX10_eRead_1 2 rfl) ⟨congrArg (fun z => some (Sum.inl z)) (Prod.mk.inj (Option.some.inj H)).1, rfl, (Prod.mk.inj (Option.some.inj H)).2⟩
            · have H := ite_F H hc
              refine R_aload_n (i := 0) (dX10_eRead_0 47 rfl) rfl rfl ?_
              refine R_bipush (dX10_eRead_0 48 rfl) rfl rfl ?_
              obtain ⟨r370, M371, hr, H⟩ := ob_E H
              refine R_cV (st' := [.inl r370]) [.inl 13] [] (t_X10_opensOne l g ad S _ hS   13 hr) msX10_opensOne (Or.inl tb_1106) (Or.inl ⟨38, 10, _, _, _, (cl38 hS), rfl⟩) ⟨Nat.le_of_ble_eq_true rfl, Nat.le_of_ble_eq_true rfl⟩ (Nat.zero_le _) (Nat.zero_le _) rfl rfl (Nat.le_of_ble_eq_true rfl) rfl (dX10_eRead_0 49 rfl) ?_
              refine R_if_ne (tgt := 14) (dX10_eRead_0 50 rfl) (by decide) (fun hc => ?_) (fun hc => ?_)
              · have H := ite_F H hc
                exact ih x1 x2 M371 H hK159
              · have H := ite_T H hc
                refine R_iconst (dX10_eRead_0 51 rfl) rfl ?_
                exact R_iret rfl (by decide +kernel) (Nat.zero_le _) (Nat.zero_le _) (dX10_eRead_0 52 rfl) ⟨congrArg (fun z => some (Sum.inl z)) (Prod.mk.inj (Option.some.inj H)).1, rfl, (Prod.mk.inj (Option.some.inj H)).2⟩
        · have H := ite_T H hc
          refine R_aload_n (i := 0) (dX10_eRead_0 22 rfl) rfl rfl ?_
          refine R_aload_n (i := 0) (dX10_eRead_0 23 rfl) rfl rfl ?_
          refine R_getI cgX10 38 (cl38 hS) 28 (Nat.le_of_ble_eq_true rfl) rfl (Or.inl tb_1155) (dX10_eRead_0 24 rfl) ?_
          refine R_iconst (dX10_eRead_0 25 rfl) rfl ?_
          refine R_icmp_ne (tgt := 57) (dX10_eRead_0 26 rfl) (by decide) (fun hc => ?_) (fun hc => ?_)
          · have H := ite_F H hc
            refine R_aload_n (i := 0) (dX10_eRead_0 32 rfl) rfl rfl ?_
            refine R_getI cgX10 38 (cl38 hS) 29 (Nat.le_of_ble_eq_true rfl) rfl (Or.inl tb_1156) (dX10_eRead_0 33 rfl) ?_
            obtain ⟨r372, M373, hr, H⟩ := ob_E H
            refine R_cV (st' := []) [.inl (M347 38 29)] [] (t_X10_puts l g ad S _ hS   (M347 38 29) hr) msX10_puts (Or.inl tb_1095) (Or.inl ⟨38, 10, _, _, _, (cl38 hS), rfl⟩) ⟨Nat.le_of_ble_eq_true rfl, Nat.le_of_ble_eq_true rfl⟩ (Nat.zero_le _) (Nat.zero_le _) rfl rfl (Nat.le_of_ble_eq_true rfl) rfl (dX10_eRead_0 34 rfl) ?_
            refine R_aload_n (i := 0) (dX10_eRead_0 35 rfl) rfl rfl ?_
            refine R_bipush (dX10_eRead_0 36 rfl) rfl rfl ?_
            obtain ⟨r374, M375, hr, H⟩ := ob_E H
            refine R_cV (st' := []) [.inl 7] [] (t_X10_unwinds l g ad S _ hS   7 hr) msX10_unwinds (Or.inl tb_1099) (Or.inl ⟨38, 10, _, _, _, (cl38 hS), rfl⟩) ⟨Nat.le_of_ble_eq_true rfl, Nat.le_of_ble_eq_true rfl⟩ (Nat.zero_le _) (Nat.zero_le _) rfl rfl (Nat.le_of_ble_eq_true rfl) rfl (dX10_eRead_0 37 rfl) ?_
            refine R_iconst (dX10_eRead_0 38 rfl) rfl ?_
            refine R_istore_n (i := 1) (ls' := [some (.inr (.inr (some (ad 38)))), some (.inl 0), some (.inl x2), none]) (dX10_eRead_0 39 rfl) rfl (Nat.le_of_ble_eq_true rfl) (Nat.le_of_ble_eq_true rfl) rfl rfl ?_
            refine R_goto (tgt := 14) (dX10_eRead_0 40 rfl) (by decide) ?_
            exact ih 0 x2 M375 H hK159
          · have H := ite_T H hc
            refine R_ldc (z := 100000) tb_1094 rfl (dX10_eRead_0 27 rfl) ?_
            refine R_aload_n (i := 0) (dX10_eRead_0 28 rfl) rfl rfl ?_
            refine R_getI cgX10 38 (cl38 hS) 29 (Nat.le_of_ble_eq_true rfl) rfl (Or.inl tb_1156) (dX10_eRead_0 29 rfl) ?_
            refine R_iadd (dX10_eRead_0 30 rfl) ?_
            refine R_goto (tgt := 61) (dX10_eRead_0 31 rfl) (by decide) ?_
            obtain ⟨r376, M377, hr, H⟩ := ob_E H
            refine R_cV (st' := []) [.inl (w32 (100000 + (M347 38 29)))] [] (t_X10_puts l g ad S _ hS   (w32 (100000 + (M347 38 29))) hr) msX10_puts (Or.inl tb_1095) (Or.inl ⟨38, 10, _, _, _, (cl38 hS), rfl⟩) ⟨Nat.le_of_ble_eq_true rfl, Nat.le_of_ble_eq_true rfl⟩ (Nat.zero_le _) (Nat.zero_le _) rfl rfl (Nat.le_of_ble_eq_true rfl) rfl (dX10_eRead_0 34 rfl) ?_
            refine R_aload_n (i := 0) (dX10_eRead_0 35 rfl) rfl rfl ?_
            refine R_bipush (dX10_eRead_0 36 rfl) rfl rfl ?_
            obtain ⟨r378, M379, hr, H⟩ := ob_E H
            refine R_cV (st' := []) [.inl 7] [] (t_X10_unwinds l g ad S _ hS   7 hr) msX10_unwinds (Or.inl tb_1099) (Or.inl ⟨38, 10, _, _, _, (cl38 hS), rfl⟩) ⟨Nat.le_of_ble_eq_true rfl, Nat.le_of_ble_eq_true rfl⟩ (Nat.zero_le _) (Nat.zero_le _) rfl rfl (Nat.le_of_ble_eq_true rfl) rfl (dX10_eRead_0 37 rfl) ?_
            refine R_iconst (dX10_eRead_0 38 rfl) rfl ?_
            refine R_istore_n (i := 1) (ls' := [some (.inr (.inr (some (ad 38)))), some (.inl 0), some (.inl x2), none]) (dX10_eRead_0 39 rfl) rfl (Nat.le_of_ble_eq_true rfl) (Nat.le_of_ble_eq_true rfl) rfl rfl ?_
            refine R_goto (tgt := 14) (dX10_eRead_0 40 rfl) (by decide) ?_
            exact ih 0 x2 M379 H hK159
def f_X10_eRead (M : Mem) : Option (Int × Mem) :=
  f_X10_eRead_L14
    (fun M380 =>
      ob (f_X10_unwinds 1 M380) fun r381 M382 =>
      if M382 38 32 = 0 then
        some (1, M382)
      else
        some (0, M382)
    )
    100000 1 1 (mset (mset M 38 32 0) 38 33 0)
set_option maxHeartbeats 4000000 in
theorem t_X10_eRead (l : Launch) (g : GG) (ad : Nat → Nat) (S : SW) (M : Mem) (hS : q_ag 38 63 ad S) {r : Int} {M' : Mem} (H : f_X10_eRead M = some (r, M')) : CT l g MX10_eRead 4 0 0 S M [.inr (.inr (some (ad 38)))] (q_ex S (some (.inl r)) M') := by
  unfold f_X10_eRead at H
  refine CT_of (ls0 := [some (.inr (.inr (some (ad 38)))), none, none, none]) (by decide +kernel) (Nat.le_of_ble_eq_true rfl) rfl ?_
  refine R_aload_n (i := 0) (dX10_eRead_0 0 rfl) rfl rfl ?_
  refine R_iconst (dX10_eRead_0 1 rfl) rfl ?_
  refine R_putI cgX10 38 (cl38 hS) 32 (Nat.le_of_ble_eq_true rfl) rfl rfl rfl rfl (Or.inl tb_1159) (dX10_eRead_0 2 rfl) ?_
  refine R_aload_n (i := 0) (dX10_eRead_0 3 rfl) rfl rfl ?_
  refine R_iconst (dX10_eRead_0 4 rfl) rfl ?_
  refine R_putI cgX10 38 (cl38 hS) 33 (Nat.le_of_ble_eq_true rfl) rfl rfl rfl rfl (Or.inl tb_1160) (dX10_eRead_0 5 rfl) ?_
  refine R_iconst (dX10_eRead_0 6 rfl) rfl ?_
  refine R_istore_n (i := 1) (ls' := [some (.inr (.inr (some (ad 38)))), some (.inl 1), none, none]) (dX10_eRead_0 7 rfl) rfl (Nat.le_of_ble_eq_true rfl) (Nat.le_of_ble_eq_true rfl) rfl rfl ?_
  refine R_iconst (dX10_eRead_0 8 rfl) rfl ?_
  refine R_istore_n (i := 2) (ls' := [some (.inr (.inr (some (ad 38)))), some (.inl 1), some (.inl 1), none]) (dX10_eRead_0 9 rfl) rfl (Nat.le_of_ble_eq_true rfl) (Nat.le_of_ble_eq_true rfl) rfl rfl ?_
  refine t_X10_eRead_L14 l g ad S hS  100000 1 1 (mset (mset M 38 32 0) 38 33 0) H (fun M380 H => ?_)
  refine R_aload_n (i := 0) (dX10_eRead_1 25 rfl) rfl rfl ?_
  refine R_iconst (dX10_eRead_1 26 rfl) rfl ?_
  obtain ⟨r381, M382, hr, H⟩ := ob_E H
  refine R_cV (st' := []) [.inl 1] [] (t_X10_unwinds l g ad S _ hS   1 hr) msX10_unwinds (Or.inl tb_1099) (Or.inl ⟨38, 10, _, _, _, (cl38 hS), rfl⟩) ⟨Nat.le_of_ble_eq_true rfl, Nat.le_of_ble_eq_true rfl⟩ (Nat.zero_le _) (Nat.zero_le _) rfl rfl (Nat.le_of_ble_eq_true rfl) rfl (dX10_eRead_1 27 rfl) ?_
  refine R_aload_n (i := 0) (dX10_eRead_1 28 rfl) rfl rfl ?_
  refine R_getI cgX10 38 (cl38 hS) 32 (Nat.le_of_ble_eq_true rfl) rfl (Or.inl tb_1159) (dX10_eRead_1 29 rfl) ?_
  refine R_if_ne (tgt := 175) (dX10_eRead_1 30 rfl) (by decide) (fun hc => ?_) (fun hc => ?_)
  · have H := ite_F H hc
    refine R_iconst (dX10_eRead_1 33 rfl) rfl ?_
    exact R_iret rfl (by decide +kernel) (Nat.zero_le _) (Nat.zero_le _) (dX10_eRead_1 34 rfl) ⟨congrArg (fun z => some (Sum.inl z)) (Prod.mk.inj (Option.some.inj H)).1, rfl, (Prod.mk.inj (Option.some.inj H)).2⟩
  · have H := ite_T H hc
    refine R_iconst (dX10_eRead_1 31 rfl) rfl ?_
    refine R_goto (tgt := 176) (dX10_eRead_1 32 rfl) (by decide) ?_
    exact R_iret rfl (by decide +kernel) (Nat.zero_le _) (Nat.zero_le _) (dX10_eRead_1 34 rfl) ⟨congrArg (fun z => some (Sum.inl z)) (Prod.mk.inj (Option.some.inj H)).1, rfl, (Prod.mk.inj (Option.some.inj H)).2⟩
def f_X10_text_L26 (K101 : Int → Mem → Option (Int × Mem)) : Nat → Int → Int → Mem → Option (Int × Mem)
  | 0, _, _, _ => none
  | n + 1, x1, x2, M =>
    if x2 < 3 then
      if x1 = 0 then
        K101 x1 M
      else
        ob (f_X10_next M) fun r383 M384 =>
        if M384 38 28 = 3 then
          if M384 38 29 = x2 then
            if 0 ≤ w32 ((w32 (4 * (M384 38 13))) + x2) ∧ w32 ((w32 (4 * (M384 38 13))) + x2) < 24 then
              ob (f_X10_eRead (mset M384 46 (w32 ((w32 (4 * (M384 38 13))) + x2)).toNat (M384 38 34))) fun r385 M386 =>
              if r385 = 0 then
                f_X10_text_L26 K101 n 0 (w32 (x2 + 1)) M386
              else
                f_X10_text_L26 K101 n 1 (w32 (x2 + 1)) M386
            else none
          else
            if 0 ≤ w32 ((w32 (4 * (M384 38 13))) + x2) ∧ w32 ((w32 (4 * (M384 38 13))) + x2) < 24 then
              f_X10_text_L26 K101 n 0 (w32 (x2 + 1)) (mset M384 46 (w32 ((w32 (4 * (M384 38 13))) + x2)).toNat (M384 38 34))
            else none
        else
          if 0 ≤ w32 ((w32 (4 * (M384 38 13))) + x2) ∧ w32 ((w32 (4 * (M384 38 13))) + x2) < 24 then
            f_X10_text_L26 K101 n 0 (w32 (x2 + 1)) (mset M384 46 (w32 ((w32 (4 * (M384 38 13))) + x2)).toNat (M384 38 34))
          else none
    else
      K101 x1 M
set_option maxHeartbeats 4000000 in
theorem t_X10_text_L26 (l : Launch) (g : GG) (ad : Nat → Nat) (S : SW) (hS : q_ag 38 63 ad S) {K101 : Int → Mem → Option (Int × Mem)} {r : Int} {M' : Mem} : ∀ (n : Nat) (x1 : Int) (x2 : Int) (M : Mem), f_X10_text_L26 K101 n x1 x2 M = some (r, M') → (∀ (z1 : Int) (M1 : Mem), K101 z1 M1 = some (r, M') → RW l g MX10_text (q_rm 5 0 0) 0 0 (q_ex S (some (.inl r)) M') 101 S M1 0 0 [some (.inr (.inr (some (ad 38)))), some (.inl z1), none] []) → RW l g MX10_text (q_rm 5 0 0) 0 0 (q_ex S (some (.inl r)) M') 26 S M 0 0 [some (.inr (.inr (some (ad 38)))), some (.inl x1), some (.inl x2)] [] := by
  intro n
  induction n with
  | zero => intro x1 x2 M H; exact absurd H (by simp [f_X10_text_L26])
  | succ n ih =>
    intro x1 x2 M H hK101
    rw [f_X10_text_L26] at H
    refine R_iload_n (i := 2) (dX10_text_0 16 rfl) rfl rfl ?_
    refine R_iconst (dX10_text_0 17 rfl) rfl ?_
    refine R_icmp_ge (tgt := 101) (dX10_text_0 18 rfl) (by decide) (fun hc => ?_) (fun hc => ?_)
    · have H := ite_F H hc
      refine R_mask [true, true, false] rfl ?_
      exact hK101 x1 M H
    · have H := ite_T H hc
      refine R_iload_n (i := 1) (dX10_text_0 19 rfl) rfl rfl ?_
      refine R_if_eq (tgt := 101) (dX10_text_0 20 rfl) (by decide) (fun hc => ?_) (fun hc => ?_)
      · have H := ite_T H hc
        refine R_mask [true, true, false] rfl ?_
        exact hK101 x1 M H
      · have H := ite_F H hc
        refine R_aload_n (i := 0) (dX10_text_0 21 rfl) rfl rfl ?_
        obtain ⟨r383, M384, hr, H⟩ := ob_E H
        refine R_cV (st' := []) [] [] (t_X10_next l g ad S _ hS   hr) msX10_next (Or.inl tb_1079) (Or.inl ⟨38, 10, _, _, _, (cl38 hS), rfl⟩) ⟨Nat.le_of_ble_eq_true rfl, Nat.le_of_ble_eq_true rfl⟩ (Nat.zero_le _) (Nat.zero_le _) rfl rfl (Nat.le_of_ble_eq_true rfl) rfl (dX10_text_0 22 rfl) ?_
        refine R_aload_n (i := 0) (dX10_text_0 23 rfl) rfl rfl ?_
        refine R_getI cgX10 38 (cl38 hS) 28 (Nat.le_of_ble_eq_true rfl) rfl (Or.inl tb_1155) (dX10_text_0 24 rfl) ?_
        refine R_iconst (dX10_text_0 25 rfl) rfl ?_
        refine R_icmp_ne (tgt := 59) (dX10_text_0 26 rfl) (by decide) (fun hc => ?_) (fun hc => ?_)
        · have H := ite_F H hc
          refine R_iconst (dX10_text_0 33 rfl) rfl ?_
          refine R_istore_n (i := 1) (ls' := [some (.inr (.inr (some (ad 38)))), some (.inl 0), some (.inl x2)]) (dX10_text_0 34 rfl) rfl (Nat.le_of_ble_eq_true rfl) (Nat.le_of_ble_eq_true rfl) rfl rfl ?_
          refine R_aload_n (i := 0) (dX10_text_0 35 rfl) rfl rfl ?_
          refine R_getR cgX10 38 (cl38 hS) 12 (Nat.le_of_ble_eq_true rfl) rfl (Or.inl tb_1139) (dX10_text_0 36 rfl) ?_
          refine R_iconst (dX10_text_0 37 rfl) rfl ?_
          refine R_aload_n (i := 0) (dX10_text_0 38 rfl) rfl rfl ?_
          refine R_getI cgX10 38 (cl38 hS) 13 (Nat.le_of_ble_eq_true rfl) rfl (Or.inl tb_1140) (dX10_text_0 39 rfl) ?_
          refine R_imul (dX10_text_0 40 rfl) ?_
          refine R_iload_n (i := 2) (dX10_text_0 41 rfl) rfl rfl ?_
          refine R_iadd (dX10_text_0 42 rfl) ?_
          refine R_aload_n (i := 0) (dX10_text_0 43 rfl) rfl rfl ?_
          refine R_getI cgX10 38 (cl38 hS) 34 (Nat.le_of_ble_eq_true rfl) rfl (Or.inl tb_1161) (dX10_text_0 44 rfl) ?_
          obtain ⟨hg, H⟩ := ite_G H
          refine R_iast 46 (cl46 hS) hg (dX10_text_0 45 rfl) ?_
          refine R_iload_n (i := 1) (dX10_text_0 46 rfl) rfl rfl ?_
          refine R_if_eq (tgt := 93) (dX10_text_0 47 rfl) (by decide) (fun _ => ?_) (fun hc => absurd hc (by decide))
          refine R_iconst (dX10_text_0 53 rfl) rfl ?_
          refine R_istore_n (i := 1) (ls' := [some (.inr (.inr (some (ad 38)))), some (.inl 0), some (.inl x2)]) (dX10_text_0 54 rfl) rfl (Nat.le_of_ble_eq_true rfl) (Nat.le_of_ble_eq_true rfl) rfl rfl ?_
          refine R_iinc (i := 2) (ls' := [some (.inr (.inr (some (ad 38)))), some (.inl 0), some (.inl (w32 (x2 + 1)))]) (dX10_text_0 55 rfl) rfl (Nat.le_of_ble_eq_true rfl) rfl rfl ?_
          refine R_goto (tgt := 26) (dX10_text_0 56 rfl) (by decide) ?_
          exact ih 0 (w32 (x2 + 1)) (mset M384 46 (w32 ((w32 (4 * (M384 38 13))) + x2)).toNat (M384 38 34)) H hK101
        · have H := ite_T H hc
          refine R_aload_n (i := 0) (dX10_text_0 27 rfl) rfl rfl ?_
          refine R_getI cgX10 38 (cl38 hS) 29 (Nat.le_of_ble_eq_true rfl) rfl (Or.inl tb_1156) (dX10_text_0 28 rfl) ?_
          refine R_iload_n (i := 2) (dX10_text_0 29 rfl) rfl rfl ?_
          refine R_icmp_ne (tgt := 59) (dX10_text_0 30 rfl) (by decide) (fun hc => ?_) (fun hc => ?_)
          · have H := ite_F H hc
            refine R_iconst (dX10_text_0 33 rfl) rfl ?_
            refine R_istore_n (i := 1) (ls' := [some (.inr (.inr (some (ad 38)))), some (.inl 0), some (.inl x2)]) (dX10_text_0 34 rfl) rfl (Nat.le_of_ble_eq_true rfl) (Nat.le_of_ble_eq_true rfl) rfl rfl ?_
            refine R_aload_n (i := 0) (dX10_text_0 35 rfl) rfl rfl ?_
            refine R_getR cgX10 38 (cl38 hS) 12 (Nat.le_of_ble_eq_true rfl) rfl (Or.inl tb_1139) (dX10_text_0 36 rfl) ?_
            refine R_iconst (dX10_text_0 37 rfl) rfl ?_
            refine R_aload_n (i := 0) (dX10_text_0 38 rfl) rfl rfl ?_
            refine R_getI cgX10 38 (cl38 hS) 13 (Nat.le_of_ble_eq_true rfl) rfl (Or.inl tb_1140) (dX10_text_0 39 rfl) ?_
            refine R_imul (dX10_text_0 40 rfl) ?_
            refine R_iload_n (i := 2) (dX10_text_0 41 rfl) rfl rfl ?_
            refine R_iadd (dX10_text_0 42 rfl) ?_
            refine R_aload_n (i := 0) (dX10_text_0 43 rfl) rfl rfl ?_
            refine R_getI cgX10 38 (cl38 hS) 34 (Nat.le_of_ble_eq_true rfl) rfl (Or.inl tb_1161) (dX10_text_0 44 rfl) ?_
            obtain ⟨hg, H⟩ := ite_G H
            refine R_iast 46 (cl46 hS) hg (dX10_text_0 45 rfl) ?_
            refine R_iload_n (i := 1) (dX10_text_0 46 rfl) rfl rfl ?_
            refine R_if_eq (tgt := 93) (dX10_text_0 47 rfl) (by decide) (fun _ => ?_) (fun hc => absurd hc (by decide))
            refine R_iconst (dX10_text_0 53 rfl) rfl ?_
            refine R_istore_n (i := 1) (ls' := [some (.inr (.inr (some (ad 38)))), some (.inl 0), some (.inl x2)]) (dX10_text_0 54 rfl) rfl (Nat.le_of_ble_eq_true rfl) (Nat.le_of_ble_eq_true rfl) rfl rfl ?_
            refine R_iinc (i := 2) (ls' := [some (.inr (.inr (some (ad 38)))), some (.inl 0), some (.inl (w32 (x2 + 1)))]) (dX10_text_0 55 rfl) rfl (Nat.le_of_ble_eq_true rfl) rfl rfl ?_
            refine R_goto (tgt := 26) (dX10_text_0 56 rfl) (by decide) ?_
            exact ih 0 (w32 (x2 + 1)) (mset M384 46 (w32 ((w32 (4 * (M384 38 13))) + x2)).toNat (M384 38 34)) H hK101
          · have H := ite_T H hc
            refine R_iconst (dX10_text_0 31 rfl) rfl ?_
            refine R_goto (tgt := 60) (dX10_text_0 32 rfl) (by decide) ?_
            refine R_istore_n (i := 1) (ls' := [some (.inr (.inr (some (ad 38)))), some (.inl 1), some (.inl x2)]) (dX10_text_0 34 rfl) rfl (Nat.le_of_ble_eq_true rfl) (Nat.le_of_ble_eq_true rfl) rfl rfl ?_
            refine R_aload_n (i := 0) (dX10_text_0 35 rfl) rfl rfl ?_
            refine R_getR cgX10 38 (cl38 hS) 12 (Nat.le_of_ble_eq_true rfl) rfl (Or.inl tb_1139) (dX10_text_0 36 rfl) ?_
            refine R_iconst (dX10_text_0 37 rfl) rfl ?_
            refine R_aload_n (i := 0) (dX10_text_0 38 rfl) rfl rfl ?_
            refine R_getI cgX10 38 (cl38 hS) 13 (Nat.le_of_ble_eq_true rfl) rfl (Or.inl tb_1140) (dX10_text_0 39 rfl) ?_
            refine R_imul (dX10_text_0 40 rfl) ?_
            refine R_iload_n (i := 2) (dX10_text_0 41 rfl) rfl rfl ?_
            refine R_iadd (dX10_text_0 42 rfl) ?_
            refine R_aload_n (i := 0) (dX10_text_0 43 rfl) rfl rfl ?_
            refine R_getI cgX10 38 (cl38 hS) 34 (Nat.le_of_ble_eq_true rfl) rfl (Or.inl tb_1161) (dX10_text_0 44 rfl) ?_
            obtain ⟨hg, H⟩ := ite_G H
            refine R_iast 46 (cl46 hS) hg (dX10_text_0 45 rfl) ?_
            refine R_iload_n (i := 1) (dX10_text_0 46 rfl) rfl rfl ?_
            refine R_if_eq (tgt := 93) (dX10_text_0 47 rfl) (by decide) (fun hc => absurd hc (by decide)) (fun _ => ?_)
            refine R_aload_n (i := 0) (dX10_text_0 48 rfl) rfl rfl ?_
            obtain ⟨r385, M386, hr, H⟩ := ob_E H
            refine R_cV (st' := [.inl r385]) [] [] (t_X10_eRead l g ad S _ hS   hr) msX10_eRead (Or.inl tb_1090) (Or.inl ⟨38, 10, _, _, _, (cl38 hS), rfl⟩) ⟨Nat.le_of_ble_eq_true rfl, Nat.le_of_ble_eq_true rfl⟩ (Nat.zero_le _) (Nat.zero_le _) rfl rfl (Nat.le_of_ble_eq_true rfl) rfl (dX10_text_0 49 rfl) ?_
            refine R_if_eq (tgt := 93) (dX10_text_0 50 rfl) (by decide) (fun hc => ?_) (fun hc => ?_)
            · have H := ite_T H hc
              refine R_iconst (dX10_text_0 53 rfl) rfl ?_
              refine R_istore_n (i := 1) (ls' := [some (.inr (.inr (some (ad 38)))), some (.inl 0), some (.inl x2)]) (dX10_text_0 54 rfl) rfl (Nat.le_of_ble_eq_true rfl) (Nat.le_of_ble_eq_true rfl) rfl rfl ?_
              refine R_iinc (i := 2) (ls' := [some (.inr (.inr (some (ad 38)))), some (.inl 0), some (.inl (w32 (x2 + 1)))]) (dX10_text_0 55 rfl) rfl (Nat.le_of_ble_eq_true rfl) rfl rfl ?_
              refine R_goto (tgt := 26) (dX10_text_0 56 rfl) (by decide) ?_
              exact ih 0 (w32 (x2 + 1)) M386 H hK101
            · have H := ite_F H hc
              refine R_iconst (dX10_text_0 51 rfl) rfl ?_
              refine R_goto (tgt := 94) (dX10_text_0 52 rfl) (by decide) ?_
              refine R_istore_n (i := 1) (ls' := [some (.inr (.inr (some (ad 38)))), some (.inl 1), some (.inl x2)]) (dX10_text_0 54 rfl) rfl (Nat.le_of_ble_eq_true rfl) (Nat.le_of_ble_eq_true rfl) rfl rfl ?_
              refine R_iinc (i := 2) (ls' := [some (.inr (.inr (some (ad 38)))), some (.inl 1), some (.inl (w32 (x2 + 1)))]) (dX10_text_0 55 rfl) rfl (Nat.le_of_ble_eq_true rfl) rfl rfl ?_
              refine R_goto (tgt := 26) (dX10_text_0 56 rfl) (by decide) ?_
              exact ih 1 (w32 (x2 + 1)) M386 H hK101
def f_X10_text (M : Mem) : Option (Int × Mem) :=
  if M 38 13 = 6 then
    some ((-4), M)
  else
    f_X10_text_L26
      (fun y387 M388 =>
        if y387 = 0 then
          if 0 ≤ w32 ((w32 (4 * (M388 38 13))) + 3) ∧ w32 ((w32 (4 * (M388 38 13))) + 3) < 24 then
            if y387 = 0 then
              some (w32 ((-100) - ((mset (mset M388 46 (w32 ((w32 (4 * (M388 38 13))) + 3)).toNat (M388 38 34)) 38 10 0) 38 27)), (mset (mset M388 46 (w32 ((w32 (4 * (M388 38 13))) + 3)).toNat (M388 38 34)) 38 10 0))
            else
              some (w32 (((mset (mset (mset M388 46 (w32 ((w32 (4 * (M388 38 13))) + 3)).toNat (M388 38 34)) 38 10 0) 38 13 (w32 (((mset (mset M388 46 (w32 ((w32 (4 * (M388 38 13))) + 3)).toNat (M388 38 34)) 38 10 0) 38 13) + 1))) 38 13) - 1), (mset (mset (mset M388 46 (w32 ((w32 (4 * (M388 38 13))) + 3)).toNat (M388 38 34)) 38 10 0) 38 13 (w32 (((mset (mset M388 46 (w32 ((w32 (4 * (M388 38 13))) + 3)).toNat (M388 38 34)) 38 10 0) 38 13) + 1))))
          else none
        else
          ob (f_X10_next M388) fun r389 M390 =>
          if M390 38 28 = 0 then
            if 0 ≤ w32 ((w32 (4 * (M390 38 13))) + 3) ∧ w32 ((w32 (4 * (M390 38 13))) + 3) < 24 then
              some (w32 (((mset (mset (mset M390 46 (w32 ((w32 (4 * (M390 38 13))) + 3)).toNat (M390 38 34)) 38 10 0) 38 13 (w32 (((mset (mset M390 46 (w32 ((w32 (4 * (M390 38 13))) + 3)).toNat (M390 38 34)) 38 10 0) 38 13) + 1))) 38 13) - 1), (mset (mset (mset M390 46 (w32 ((w32 (4 * (M390 38 13))) + 3)).toNat (M390 38 34)) 38 10 0) 38 13 (w32 (((mset (mset M390 46 (w32 ((w32 (4 * (M390 38 13))) + 3)).toNat (M390 38 34)) 38 10 0) 38 13) + 1))))
            else none
          else
            if 0 ≤ w32 ((w32 (4 * (M390 38 13))) + 3) ∧ w32 ((w32 (4 * (M390 38 13))) + 3) < 24 then
              some (w32 ((-100) - ((mset (mset M390 46 (w32 ((w32 (4 * (M390 38 13))) + 3)).toNat (M390 38 34)) 38 10 0) 38 27)), (mset (mset M390 46 (w32 ((w32 (4 * (M390 38 13))) + 3)).toNat (M390 38 34)) 38 10 0))
            else none
      )
      100000 1 0 (mset (mset M 38 26 0) 38 34 0)
set_option maxHeartbeats 4000000 in
theorem t_X10_text (l : Launch) (g : GG) (ad : Nat → Nat) (S : SW) (M : Mem) (hS : q_ag 38 63 ad S) {r : Int} {M' : Mem} (H : f_X10_text M = some (r, M')) : CT l g MX10_text 5 0 0 S M [.inr (.inr (some (ad 38)))] (q_ex S (some (.inl r)) M') := by
  unfold f_X10_text at H
  refine CT_of (ls0 := [some (.inr (.inr (some (ad 38)))), none, none]) (by decide +kernel) (Nat.le_of_ble_eq_true rfl) rfl ?_
  refine R_aload_n (i := 0) (dX10_text_0 0 rfl) rfl rfl ?_
  refine R_getI cgX10 38 (cl38 hS) 13 (Nat.le_of_ble_eq_true rfl) rfl (Or.inl tb_1140) (dX10_text_0 1 rfl) ?_
  refine R_bipush (dX10_text_0 2 rfl) rfl rfl ?_
  refine R_icmp_ne (tgt := 12) (dX10_text_0 3 rfl) (by decide) (fun hc => ?_) (fun hc => ?_)
  · have H := ite_F H hc
    refine R_aload_n (i := 0) (dX10_text_0 6 rfl) rfl rfl ?_
    refine R_iconst (dX10_text_0 7 rfl) rfl ?_
    refine R_putI cgX10 38 (cl38 hS) 26 (Nat.le_of_ble_eq_true rfl) rfl rfl rfl rfl (Or.inl tb_1153) (dX10_text_0 8 rfl) ?_
    refine R_aload_n (i := 0) (dX10_text_0 9 rfl) rfl rfl ?_
    refine R_iconst (dX10_text_0 10 rfl) rfl ?_
    refine R_putI cgX10 38 (cl38 hS) 34 (Nat.le_of_ble_eq_true rfl) rfl rfl rfl rfl (Or.inl tb_1161) (dX10_text_0 11 rfl) ?_
    refine R_iconst (dX10_text_0 12 rfl) rfl ?_
    refine R_istore_n (i := 1) (ls' := [some (.inr (.inr (some (ad 38)))), some (.inl 1), none]) (dX10_text_0 13 rfl) rfl (Nat.le_of_ble_eq_true rfl) (Nat.le_of_ble_eq_true rfl) rfl rfl ?_
    refine R_iconst (dX10_text_0 14 rfl) rfl ?_
    refine R_istore_n (i := 2) (ls' := [some (.inr (.inr (some (ad 38)))), some (.inl 1), some (.inl 0)]) (dX10_text_0 15 rfl) rfl (Nat.le_of_ble_eq_true rfl) (Nat.le_of_ble_eq_true rfl) rfl rfl ?_
    refine t_X10_text_L26 l g ad S hS  100000 1 0 (mset (mset M 38 26 0) 38 34 0) H (fun y387 M388 H => ?_)
    refine R_iload_n (i := 1) (dX10_text_0 57 rfl) rfl rfl ?_
    refine R_if_eq (tgt := 122) (dX10_text_0 58 rfl) (by decide) (fun hc => ?_) (fun hc => ?_)
    · have H := ite_T H hc
      refine R_aload_n (i := 0) (dX10_text_1 8 rfl) rfl rfl ?_
      refine R_getR cgX10 38 (cl38 hS) 12 (Nat.le_of_ble_eq_true rfl) rfl (Or.inl tb_1139) (dX10_text_1 9 rfl) ?_
      refine R_iconst (dX10_text_1 10 rfl) rfl ?_
      refine R_aload_n (i := 0) (dX10_text_1 11 rfl) rfl rfl ?_
      refine R_getI cgX10 38 (cl38 hS) 13 (Nat.le_of_ble_eq_true rfl) rfl (Or.inl tb_1140) (dX10_text_1 12 rfl) ?_
      refine R_imul (dX10_text_1 13 rfl) ?_
      refine R_iconst (dX10_text_1 14 rfl) rfl ?_
      refine R_iadd (dX10_text_1 15 rfl) ?_
      refine R_aload_n (i := 0) (dX10_text_1 16 rfl) rfl rfl ?_
      refine R_getI cgX10 38 (cl38 hS) 34 (Nat.le_of_ble_eq_true rfl) rfl (Or.inl tb_1161) (dX10_text_1 17 rfl) ?_
      obtain ⟨hg, H⟩ := ite_G H
      refine R_iast 46 (cl46 hS) hg (dX10_text_1 18 rfl) ?_
      refine R_aload_n (i := 0) (dX10_text_1 19 rfl) rfl rfl ?_
      refine R_iconst (dX10_text_1 20 rfl) rfl ?_
      refine R_putI cgX10 38 (cl38 hS) 10 (Nat.le_of_ble_eq_true rfl) rfl rfl rfl rfl (Or.inl tb_1137) (dX10_text_1 21 rfl) ?_
      refine R_iload_n (i := 1) (dX10_text_1 22 rfl) rfl rfl ?_
      refine R_if_ne (tgt := 156) (dX10_text_1 23 rfl) (by decide) (fun hc => ?_) (fun hc => ?_)
      · have H := ite_F H hc
        refine R_aload_n (i := 0) (dX10_text_1 29 rfl) rfl rfl ?_
        refine R_dup rfl (dX10_text_1 30 rfl) ?_
        refine R_getI cgX10 38 (cl38 hS) 13 (Nat.le_of_ble_eq_true rfl) rfl (Or.inl tb_1140) (dX10_text_1 31 rfl) ?_
        refine R_iconst (dX10_text_1 32 rfl) rfl ?_
        refine R_iadd (dX10_text_1 33 rfl) ?_
        refine R_putI cgX10 38 (cl38 hS) 13 (Nat.le_of_ble_eq_true rfl) rfl rfl rfl rfl (Or.inl tb_1140) (dX10_text_1 34 rfl) ?_
        refine R_aload_n (i := 0) (dX10_text_1 35 rfl) rfl rfl ?_
        refine R_getI cgX10 38 (cl38 hS) 13 (Nat.le_of_ble_eq_true rfl) rfl (Or.inl tb_1140) (dX10_text_1 36 rfl) ?_
        refine R_iconst (dX10_text_1 37 rfl) rfl ?_
        refine R_isub (dX10_text_1 38 rfl) ?_
        exact R_iret rfl rfl (Nat.zero_le _) (Nat.zero_le _) (dX10_text_1 39 rfl) ⟨congrArg (fun z => some (Sum.inl z)) (Prod.mk.inj (Option.some.inj H)).1, rfl, (Prod.mk.inj (Option.some.inj H)).2⟩
      · have H := ite_T H hc
        refine R_bipush (dX10_text_1 24 rfl) rfl rfl ?_
        refine R_aload_n (i := 0) (dX10_text_1 25 rfl) rfl rfl ?_
        refine R_getI cgX10 38 (cl38 hS) 27 (Nat.le_of_ble_eq_true rfl) rfl (Or.inl tb_1154) (dX10_text_1 26 rfl) ?_
        refine R_isub (dX10_text_1 27 rfl) ?_
        exact R_iret rfl rfl (Nat.zero_le _) (Nat.zero_le _) (dX10_text_1 28 rfl) ⟨congrArg (fun z => some (Sum.inl z)) (Prod.mk.inj (Option.some.inj H)).1, rfl, (Prod.mk.inj (Option.some.inj H)).2⟩
    · have H := ite_F H hc
      refine R_aload_n (i := 0) (dX10_text_0 59 rfl) rfl rfl ?_
      obtain ⟨r389, M390, hr, H⟩ := ob_E H
      refine R_cV (st' := []) [] [] (t_X10_next l g ad S _ hS   hr) msX10_next (Or.inl tb_1079) (Or.inl ⟨38, 10, _, _, _, (cl38 hS), rfl⟩) ⟨Nat.le_of_ble_eq_true rfl, Nat.le_of_ble_eq_true rfl⟩ (Nat.zero_le _) (Nat.zero_le _) rfl rfl (Nat.le_of_ble_eq_true rfl) rfl (dX10_text_1 0 rfl) ?_
      refine R_aload_n (i := 0) (dX10_text_1 1 rfl) rfl rfl ?_
      refine R_getI cgX10 38 (cl38 hS) 28 (Nat.le_of_ble_eq_true rfl) rfl (Or.inl tb_1155) (dX10_text_1 2 rfl) ?_
      refine R_if_ne (tgt := 120) (dX10_text_1 3 rfl) (by decide) (fun hc => ?_) (fun hc => ?_)
      · have H := ite_F H hc
        refine R_iconst (dX10_text_1 6 rfl) rfl ?_
        refine R_istore_n (i := 1) (ls' := [some (.inr (.inr (some (ad 38)))), some (.inl 0), none]) (dX10_text_1 7 rfl) rfl (Nat.le_of_ble_eq_true rfl) (Nat.le_of_ble_eq_true rfl) rfl rfl ?_
        refine R_aload_n (i := 0) (dX10_text_1 8 rfl) rfl rfl ?_
        refine R_getR cgX10 38 (cl38 hS) 12 (Nat.le_of_ble_eq_true rfl) rfl (Or.inl tb_1139) (dX10_text_1 9 rfl) ?_
        refine R_iconst (dX10_text_1 10 rfl) rfl ?_
        refine R_aload_n (i := 0) (dX10_text_1 11 rfl) rfl rfl ?_
        refine R_getI cgX10 38 (cl38 hS) 13 (Nat.le_of_ble_eq_true rfl) rfl (Or.inl tb_1140) (dX10_text_1 12 rfl) ?_
        refine R_imul (dX10_text_1 13 rfl) ?_
        refine R_iconst (dX10_text_1 14 rfl) rfl ?_
        refine R_iadd (dX10_text_1 15 rfl) ?_
        refine R_aload_n (i := 0) (dX10_text_1 16 rfl) rfl rfl ?_
        refine R_getI cgX10 38 (cl38 hS) 34 (Nat.le_of_ble_eq_true rfl) rfl (Or.inl tb_1161) (dX10_text_1 17 rfl) ?_
        obtain ⟨hg, H⟩ := ite_G H
        refine R_iast 46 (cl46 hS) hg (dX10_text_1 18 rfl) ?_
        refine R_aload_n (i := 0) (dX10_text_1 19 rfl) rfl rfl ?_
        refine R_iconst (dX10_text_1 20 rfl) rfl ?_
        refine R_putI cgX10 38 (cl38 hS) 10 (Nat.le_of_ble_eq_true rfl) rfl rfl rfl rfl (Or.inl tb_1137) (dX10_text_1 21 rfl) ?_
        refine R_iload_n (i := 1) (dX10_text_1 22 rfl) rfl rfl ?_
        refine R_if_ne (tgt := 156) (dX10_text_1 23 rfl) (by decide) (fun hc => absurd hc (by decide)) (fun _ => ?_)
        refine R_bipush (dX10_text_1 24 rfl) rfl rfl ?_
        refine R_aload_n (i := 0) (dX10_text_1 25 rfl) rfl rfl ?_
        refine R_getI cgX10 38 (cl38 hS) 27 (Nat.le_of_ble_eq_true rfl) rfl (Or.inl tb_1154) (dX10_text_1 26 rfl) ?_
        refine R_isub (dX10_text_1 27 rfl) ?_
        exact R_iret rfl rfl (Nat.zero_le _) (Nat.zero_le _) (dX10_text_1 28 rfl) ⟨congrArg (fun z => some (Sum.inl z)) (Prod.mk.inj (Option.some.inj H)).1, rfl, (Prod.mk.inj (Option.some.inj H)).2⟩
      · have H := ite_T H hc
        refine R_iconst (dX10_text_1 4 rfl) rfl ?_
        refine R_goto (tgt := 121) (dX10_text_1 5 rfl) (by decide) ?_
        refine R_istore_n (i := 1) (ls' := [some (.inr (.inr (some (ad 38)))), some (.inl 1), none]) (dX10_text_1 7 rfl) rfl (Nat.le_of_ble_eq_true rfl) (Nat.le_of_ble_eq_true rfl) rfl rfl ?_
        refine R_aload_n (i := 0) (dX10_text_1 8 rfl) rfl rfl ?_
        refine R_getR cgX10 38 (cl38 hS) 12 (Nat.le_of_ble_eq_true rfl) rfl (Or.inl tb_1139) (dX10_text_1 9 rfl) ?_
        refine R_iconst (dX10_text_1 10 rfl) rfl ?_
        refine R_aload_n (i := 0) (dX10_text_1 11 rfl) rfl rfl ?_
        refine R_getI cgX10 38 (cl38 hS) 13 (Nat.le_of_ble_eq_true rfl) rfl (Or.inl tb_1140) (dX10_text_1 12 rfl) ?_
        refine R_imul (dX10_text_1 13 rfl) ?_
        refine R_iconst (dX10_text_1 14 rfl) rfl ?_
        refine R_iadd (dX10_text_1 15 rfl) ?_
        refine R_aload_n (i := 0) (dX10_text_1 16 rfl) rfl rfl ?_
        refine R_getI cgX10 38 (cl38 hS) 34 (Nat.le_of_ble_eq_true rfl) rfl (Or.inl tb_1161) (dX10_text_1 17 rfl) ?_
        obtain ⟨hg, H⟩ := ite_G H
        refine R_iast 46 (cl46 hS) hg (dX10_text_1 18 rfl) ?_
        refine R_aload_n (i := 0) (dX10_text_1 19 rfl) rfl rfl ?_
        refine R_iconst (dX10_text_1 20 rfl) rfl ?_
        refine R_putI cgX10 38 (cl38 hS) 10 (Nat.le_of_ble_eq_true rfl) rfl rfl rfl rfl (Or.inl tb_1137) (dX10_text_1 21 rfl) ?_
        refine R_iload_n (i := 1) (dX10_text_1 22 rfl) rfl rfl ?_
        refine R_if_ne (tgt := 156) (dX10_text_1 23 rfl) (by decide) (fun _ => ?_) (fun hc => absurd hc (by decide))
        refine R_aload_n (i := 0) (dX10_text_1 29 rfl) rfl rfl ?_
        refine R_dup rfl (dX10_text_1 30 rfl) ?_
        refine R_getI cgX10 38 (cl38 hS) 13 (Nat.le_of_ble_eq_true rfl) rfl (Or.inl tb_1140) (dX10_text_1 31 rfl) ?_
        refine R_iconst (dX10_text_1 32 rfl) rfl ?_
        refine R_iadd (dX10_text_1 33 rfl) ?_
        refine R_putI cgX10 38 (cl38 hS) 13 (Nat.le_of_ble_eq_true rfl) rfl rfl rfl rfl (Or.inl tb_1140) (dX10_text_1 34 rfl) ?_
        refine R_aload_n (i := 0) (dX10_text_1 35 rfl) rfl rfl ?_
        refine R_getI cgX10 38 (cl38 hS) 13 (Nat.le_of_ble_eq_true rfl) rfl (Or.inl tb_1140) (dX10_text_1 36 rfl) ?_
        refine R_iconst (dX10_text_1 37 rfl) rfl ?_
        refine R_isub (dX10_text_1 38 rfl) ?_
        exact R_iret rfl rfl (Nat.zero_le _) (Nat.zero_le _) (dX10_text_1 39 rfl) ⟨congrArg (fun z => some (Sum.inl z)) (Prod.mk.inj (Option.some.inj H)).1, rfl, (Prod.mk.inj (Option.some.inj H)).2⟩
  · have H := ite_T H hc
    refine R_bipush (dX10_text_0 4 rfl) rfl rfl ?_
    exact R_iret rfl rfl (Nat.zero_le _) (Nat.zero_le _) (dX10_text_0 5 rfl) ⟨congrArg (fun z => some (Sum.inl z)) (Prod.mk.inj (Option.some.inj H)).1, rfl, (Prod.mk.inj (Option.some.inj H)).2⟩
def f_X10_bothOf (x0 : Int) (x1 : Int) (x2 : Int) : Int :=
  if x0 = 11 then
    if x1 = 0 then
      if x2 = 0 then
        0
      else
        1
    else
      1
  else if x0 = 12 then
    if x1 = 0 then
      0
    else
      if x2 = 0 then
        0
      else
        1
  else if x0 = 13 then
    w32 (x1 * x2)
  else if x0 = 14 then
    if x1 < x2 then
      1
    else
      0
  else if x0 = 15 then
    if x1 = x2 then
      1
    else
      0
  else if x0 = 16 then
    w32 (x1 + x2)
  else if x0 = 17 then
    w32 (x1 - x2)
  else
    w32 (x1 * x2)
set_option maxHeartbeats 4000000 in
theorem t_X10_bothOf (l : Launch) (g : GG) (ad : Nat → Nat) (S : SW) (M : Mem) (hS : q_ag 38 63 ad S) (x0 : Int) (x1 : Int) (x2 : Int) : CT l g MX10_bothOf 1 0 0 S M [.inl x0, .inl x1, .inl x2] (q_ex S (some (.inl (f_X10_bothOf x0 x1 x2))) M) := by
  obtain ⟨r, H⟩ : ∃ r, f_X10_bothOf x0 x1 x2 = r := ⟨_, rfl⟩
  rw [H]
  unfold f_X10_bothOf at H
  refine CT_of (ls0 := [some (.inl x0), some (.inl x1), some (.inl x2)]) (by decide +kernel) (Nat.le_of_ble_eq_true rfl) rfl ?_
  refine R_iload_n (i := 0) (dX10_bothOf 0 rfl) rfl rfl ?_
  by_cases hc11 : x0 = 11
  · have H := ite_T H hc11
    refine R_tsIn (c0 := 11) (tgt := 44) (dX10_bothOf 1 rfl) hc11 (by decide) (by decide) rfl (by decide) ?_
    refine R_iload_n (i := 1) (dX10_bothOf 2 rfl) rfl rfl ?_
    refine R_if_ne (tgt := 52) (dX10_bothOf 3 rfl) (by decide) (fun hc => ?_) (fun hc => ?_)
    · have H := ite_F H hc
      refine R_iconst (dX10_bothOf 6 rfl) rfl ?_
      refine R_goto (tgt := 57) (dX10_bothOf 7 rfl) (by decide) ?_
      exact R_iret rfl rfl (Nat.zero_le _) (Nat.zero_le _) (dX10_bothOf 9 rfl) ⟨congrArg (fun z => some (Sum.inl z)) H, rfl, rfl⟩
    · have H := ite_T H hc
      refine R_iload_n (i := 2) (dX10_bothOf 4 rfl) rfl rfl ?_
      refine R_if_eq (tgt := 56) (dX10_bothOf 5 rfl) (by decide) (fun hc => ?_) (fun hc => ?_)
      · have H := ite_T H hc
        refine R_iconst (dX10_bothOf 8 rfl) rfl ?_
        exact R_iret rfl rfl (Nat.zero_le _) (Nat.zero_le _) (dX10_bothOf 9 rfl) ⟨congrArg (fun z => some (Sum.inl z)) H, rfl, rfl⟩
      · have H := ite_F H hc
        refine R_iconst (dX10_bothOf 6 rfl) rfl ?_
        refine R_goto (tgt := 57) (dX10_bothOf 7 rfl) (by decide) ?_
        exact R_iret rfl rfl (Nat.zero_le _) (Nat.zero_le _) (dX10_bothOf 9 rfl) ⟨congrArg (fun z => some (Sum.inl z)) H, rfl, rfl⟩
  have H := ite_F H hc11
  by_cases hc12 : x0 = 12
  · have H := ite_T H hc12
    refine R_tsIn (c0 := 12) (tgt := 58) (dX10_bothOf 1 rfl) hc12 (by decide) (by decide) rfl (by decide) ?_
    refine R_iload_n (i := 1) (dX10_bothOf 10 rfl) rfl rfl ?_
    refine R_if_eq (tgt := 70) (dX10_bothOf 11 rfl) (by decide) (fun hc => ?_) (fun hc => ?_)
    · have H := ite_T H hc
      refine R_iconst (dX10_bothOf 16 rfl) rfl ?_
      exact R_iret rfl rfl (Nat.zero_le _) (Nat.zero_le _) (dX10_bothOf 17 rfl) ⟨congrArg (fun z => some (Sum.inl z)) H, rfl, rfl⟩
    · have H := ite_F H hc
      refine R_iload_n (i := 2) (dX10_bothOf 12 rfl) rfl rfl ?_
      refine R_if_eq (tgt := 70) (dX10_bothOf 13 rfl) (by decide) (fun hc => ?_) (fun hc => ?_)
      · have H := ite_T H hc
        refine R_iconst (dX10_bothOf 16 rfl) rfl ?_
        exact R_iret rfl rfl (Nat.zero_le _) (Nat.zero_le _) (dX10_bothOf 17 rfl) ⟨congrArg (fun z => some (Sum.inl z)) H, rfl, rfl⟩
      · have H := ite_F H hc
        refine R_iconst (dX10_bothOf 14 rfl) rfl ?_
        refine R_goto (tgt := 71) (dX10_bothOf 15 rfl) (by decide) ?_
        exact R_iret rfl rfl (Nat.zero_le _) (Nat.zero_le _) (dX10_bothOf 17 rfl) ⟨congrArg (fun z => some (Sum.inl z)) H, rfl, rfl⟩
  have H := ite_F H hc12
  by_cases hc13 : x0 = 13
  · have H := ite_T H hc13
    refine R_tsIn (c0 := 13) (tgt := 102) (dX10_bothOf 1 rfl) hc13 (by decide) (by decide) rfl (by decide) ?_
    refine R_iload_n (i := 1) (dX10_bothOf 40 rfl) rfl rfl ?_
    refine R_iload_n (i := 2) (dX10_bothOf 41 rfl) rfl rfl ?_
    refine R_imul (dX10_bothOf 42 rfl) ?_
    exact R_iret rfl rfl (Nat.zero_le _) (Nat.zero_le _) (dX10_bothOf 43 rfl) ⟨congrArg (fun z => some (Sum.inl z)) H, rfl, rfl⟩
  have H := ite_F H hc13
  by_cases hc14 : x0 = 14
  · have H := ite_T H hc14
    refine R_tsIn (c0 := 14) (tgt := 72) (dX10_bothOf 1 rfl) hc14 (by decide) (by decide) rfl (by decide) ?_
    refine R_iload_n (i := 1) (dX10_bothOf 18 rfl) rfl rfl ?_
    refine R_iload_n (i := 2) (dX10_bothOf 19 rfl) rfl rfl ?_
    refine R_icmp_ge (tgt := 81) (dX10_bothOf 20 rfl) (by decide) (fun hc => ?_) (fun hc => ?_)
    · have H := ite_F H hc
      refine R_iconst (dX10_bothOf 23 rfl) rfl ?_
      exact R_iret rfl rfl (Nat.zero_le _) (Nat.zero_le _) (dX10_bothOf 24 rfl) ⟨congrArg (fun z => some (Sum.inl z)) H, rfl, rfl⟩
    · have H := ite_T H hc
      refine R_iconst (dX10_bothOf 21 rfl) rfl ?_
      refine R_goto (tgt := 82) (dX10_bothOf 22 rfl) (by decide) ?_
      exact R_iret rfl rfl (Nat.zero_le _) (Nat.zero_le _) (dX10_bothOf 24 rfl) ⟨congrArg (fun z => some (Sum.inl z)) H, rfl, rfl⟩
  have H := ite_F H hc14
  by_cases hc15 : x0 = 15
  · have H := ite_T H hc15
    refine R_tsIn (c0 := 15) (tgt := 83) (dX10_bothOf 1 rfl) hc15 (by decide) (by decide) rfl (by decide) ?_
    refine R_iload_n (i := 1) (dX10_bothOf 25 rfl) rfl rfl ?_
    refine R_iload_n (i := 2) (dX10_bothOf 26 rfl) rfl rfl ?_
    refine R_icmp_ne (tgt := 92) (dX10_bothOf 27 rfl) (by decide) (fun hc => ?_) (fun hc => ?_)
    · have H := ite_F H hc
      refine R_iconst (dX10_bothOf 30 rfl) rfl ?_
      exact R_iret rfl rfl (Nat.zero_le _) (Nat.zero_le _) (dX10_bothOf 31 rfl) ⟨congrArg (fun z => some (Sum.inl z)) H, rfl, rfl⟩
    · have H := ite_T H hc
      refine R_iconst (dX10_bothOf 28 rfl) rfl ?_
      refine R_goto (tgt := 93) (dX10_bothOf 29 rfl) (by decide) ?_
      exact R_iret rfl rfl (Nat.zero_le _) (Nat.zero_le _) (dX10_bothOf 31 rfl) ⟨congrArg (fun z => some (Sum.inl z)) H, rfl, rfl⟩
  have H := ite_F H hc15
  by_cases hc16 : x0 = 16
  · have H := ite_T H hc16
    refine R_tsIn (c0 := 16) (tgt := 94) (dX10_bothOf 1 rfl) hc16 (by decide) (by decide) rfl (by decide) ?_
    refine R_iload_n (i := 1) (dX10_bothOf 32 rfl) rfl rfl ?_
    refine R_iload_n (i := 2) (dX10_bothOf 33 rfl) rfl rfl ?_
    refine R_iadd (dX10_bothOf 34 rfl) ?_
    exact R_iret rfl rfl (Nat.zero_le _) (Nat.zero_le _) (dX10_bothOf 35 rfl) ⟨congrArg (fun z => some (Sum.inl z)) H, rfl, rfl⟩
  have H := ite_F H hc16
  by_cases hc17 : x0 = 17
  · have H := ite_T H hc17
    refine R_tsIn (c0 := 17) (tgt := 98) (dX10_bothOf 1 rfl) hc17 (by decide) (by decide) rfl (by decide) ?_
    refine R_iload_n (i := 1) (dX10_bothOf 36 rfl) rfl rfl ?_
    refine R_iload_n (i := 2) (dX10_bothOf 37 rfl) rfl rfl ?_
    refine R_isub (dX10_bothOf 38 rfl) ?_
    exact R_iret rfl rfl (Nat.zero_le _) (Nat.zero_le _) (dX10_bothOf 39 rfl) ⟨congrArg (fun z => some (Sum.inl z)) H, rfl, rfl⟩
  have H := ite_F H hc17
  refine R_tsOut (tgt := 102) (dX10_bothOf 1 rfl) (by omega) (by decide) ?_
  refine R_iload_n (i := 1) (dX10_bothOf 40 rfl) rfl rfl ?_
  refine R_iload_n (i := 2) (dX10_bothOf 41 rfl) rfl rfl ?_
  refine R_imul (dX10_bothOf 42 rfl) ?_
  exact R_iret rfl rfl (Nat.zero_le _) (Nat.zero_le _) (dX10_bothOf 43 rfl) ⟨congrArg (fun z => some (Sum.inl z)) H, rfl, rfl⟩
def f_X10_worth_L16 (x1 : Int) : Nat → Int → Int → Mem → Option (Int × Mem)
  | 0, _, _, _ => none
  | n + 1, x2, x3, M =>
    if 0 ≤ w32 ((w32 ((w32 (4 * (M 38 14))) + x1)) + 1) ∧ w32 ((w32 ((w32 (4 * (M 38 14))) + x1)) + 1) < 24 then
      if x3 < M 46 (w32 ((w32 ((w32 (4 * (M 38 14))) + x1)) + 1)).toNat then
        if 0 ≤ w32 ((w32 (200 * (M 38 14))) + x3) ∧ w32 ((w32 (200 * (M 38 14))) + x3) < 1200 then
          if M 45 (w32 ((w32 (200 * (M 38 14))) + x3)).toNat < 100000 then
            if M 45 (w32 ((w32 (200 * (M 38 14))) + x3)).toNat < 11 then
              if M 45 (w32 ((w32 (200 * (M 38 14))) + x3)).toNat < 11 then
                if 0 ≤ M 45 (w32 ((w32 (200 * (M 38 14))) + x3)).toNat ∧ M 45 (w32 ((w32 (200 * (M 38 14))) + x3)).toNat < 6 then
                  if 0 ≤ x2 ∧ x2 < 200 then
                    f_X10_worth_L16 x1 n (w32 (x2 + 1)) (w32 (x3 + 1)) (mset M 54 (x2).toNat (M 55 (M 45 (w32 ((w32 (200 * (M 38 14))) + x3)).toNat).toNat))
                  else none
                else none
              else
                if 0 ≤ x2 ∧ x2 < 200 then
                  f_X10_worth_L16 x1 n (w32 (x2 + 1)) (w32 (x3 + 1)) (mset M 54 (x2).toNat (w32 ((M 45 (w32 ((w32 (200 * (M 38 14))) + x3)).toNat) - 100000)))
                else none
            else
              if M 45 (w32 ((w32 (200 * (M 38 14))) + x3)).toNat = 13 then
                if 0 ≤ w32 (x2 - 1) ∧ w32 (x2 - 1) < 200 then
                  if M 54 (w32 (x2 - 1)).toNat = 0 then
                    if 0 ≤ w32 (x2 - 1) ∧ w32 (x2 - 1) < 200 then
                      f_X10_worth_L16 x1 n x2 (w32 (x3 + 1)) (mset M 54 (w32 (x2 - 1)).toNat 1)
                    else none
                  else
                    if 0 ≤ w32 (x2 - 1) ∧ w32 (x2 - 1) < 200 then
                      f_X10_worth_L16 x1 n x2 (w32 (x3 + 1)) (mset M 54 (w32 (x2 - 1)).toNat 0)
                    else none
                else none
              else
                if M 45 (w32 ((w32 (200 * (M 38 14))) + x3)).toNat = 19 then
                  if 0 ≤ w32 (x2 - 1) ∧ w32 (x2 - 1) < 200 then
                    if 0 ≤ w32 (x2 - 1) ∧ w32 (x2 - 1) < 200 then
                      f_X10_worth_L16 x1 n x2 (w32 (x3 + 1)) (mset M 54 (w32 (x2 - 1)).toNat (w32 (-(M 54 (w32 (x2 - 1)).toNat))))
                    else none
                  else none
                else
                  if 0 ≤ w32 ((w32 (x2 + (-1))) - 1) ∧ w32 ((w32 (x2 + (-1))) - 1) < 200 then
                    if 0 ≤ w32 (x2 + (-1)) ∧ w32 (x2 + (-1)) < 200 then
                      if 0 ≤ w32 ((w32 (x2 + (-1))) - 1) ∧ w32 ((w32 (x2 + (-1))) - 1) < 200 then
                        f_X10_worth_L16 x1 n (w32 (x2 + (-1))) (w32 (x3 + 1)) (mset M 54 (w32 ((w32 (x2 + (-1))) - 1)).toNat (f_X10_bothOf (M 45 (w32 ((w32 (200 * (M 38 14))) + x3)).toNat) (M 54 (w32 ((w32 (x2 + (-1))) - 1)).toNat) (M 54 (w32 (x2 + (-1))).toNat)))
                      else none
                    else none
                  else none
          else
            if M 45 (w32 ((w32 (200 * (M 38 14))) + x3)).toNat < 11 then
              if 0 ≤ M 45 (w32 ((w32 (200 * (M 38 14))) + x3)).toNat ∧ M 45 (w32 ((w32 (200 * (M 38 14))) + x3)).toNat < 6 then
                if 0 ≤ x2 ∧ x2 < 200 then
                  f_X10_worth_L16 x1 n (w32 (x2 + 1)) (w32 (x3 + 1)) (mset M 54 (x2).toNat (M 55 (M 45 (w32 ((w32 (200 * (M 38 14))) + x3)).toNat).toNat))
                else none
              else none
            else
              if 0 ≤ x2 ∧ x2 < 200 then
                f_X10_worth_L16 x1 n (w32 (x2 + 1)) (w32 (x3 + 1)) (mset M 54 (x2).toNat (w32 ((M 45 (w32 ((w32 (200 * (M 38 14))) + x3)).toNat) - 100000)))
              else none
        else none
      else
        some (M 54 0, M)
    else none
set_option maxHeartbeats 4000000 in
theorem t_X10_worth_L16 (l : Launch) (g : GG) (ad : Nat → Nat) (S : SW) (hS : q_ag 38 63 ad S) (x1 : Int) {r : Int} {M' : Mem} : ∀ (n : Nat) (x2 : Int) (x3 : Int) (M : Mem), f_X10_worth_L16 x1 n x2 x3 M = some (r, M') → RW l g MX10_worth (q_rm 2 0 0) 0 0 (q_ex S (some (.inl r)) M') 16 S M 0 0 [some (.inr (.inr (some (ad 38)))), some (.inl x1), some (.inl x2), some (.inl x3), none] [] := by
  intro n
  induction n with
  | zero => intro x2 x3 M H; exact absurd H (by simp [f_X10_worth_L16])
  | succ n ih =>
    intro x2 x3 M H
    rw [f_X10_worth_L16] at H
    refine R_iload_n (i := 3) (dX10_worth_0 12 rfl) rfl rfl ?_
    refine R_aload_n (i := 0) (dX10_worth_0 13 rfl) rfl rfl ?_
    refine R_getR cgX10 38 (cl38 hS) 12 (Nat.le_of_ble_eq_true rfl) rfl (Or.inl tb_1139) (dX10_worth_0 14 rfl) ?_
    refine R_iconst (dX10_worth_0 15 rfl) rfl ?_
    refine R_aload_n (i := 0) (dX10_worth_0 16 rfl) rfl rfl ?_
    refine R_getI cgX10 38 (cl38 hS) 14 (Nat.le_of_ble_eq_true rfl) rfl (Or.inl tb_1141) (dX10_worth_0 17 rfl) ?_
    refine R_imul (dX10_worth_0 18 rfl) ?_
    refine R_iload_n (i := 1) (dX10_worth_0 19 rfl) rfl rfl ?_
    refine R_iadd (dX10_worth_0 20 rfl) ?_
    refine R_iconst (dX10_worth_0 21 rfl) rfl ?_
    refine R_iadd (dX10_worth_0 22 rfl) ?_
    obtain ⟨hg, H⟩ := ite_G H
    refine R_iald 46 (cl46 hS) hg (dX10_worth_0 23 rfl) ?_
    refine R_icmp_ge (tgt := 197) (dX10_worth_0 24 rfl) (by decide) (fun hc => ?_) (fun hc => ?_)
    · have H := ite_F H hc
      refine R_aload_n (i := 0) (dX10_worth_1 56 rfl) rfl rfl ?_
      refine R_getR cgX10 38 (cl38 hS) 35 (Nat.le_of_ble_eq_true rfl) rfl (Or.inl tb_1162) (dX10_worth_1 57 rfl) ?_
      refine R_iconst (dX10_worth_1 58 rfl) rfl ?_
      refine R_iald 54 (cl54 hS) ⟨by decide, by decide⟩ (dX10_worth_1 59 rfl) ?_
      exact R_iret rfl rfl (Nat.zero_le _) (Nat.zero_le _) (dX10_worth_2 0 rfl) ⟨congrArg (fun z => some (Sum.inl z)) (Prod.mk.inj (Option.some.inj H)).1, rfl, (Prod.mk.inj (Option.some.inj H)).2⟩
    · have H := ite_T H hc
      refine R_aload_n (i := 0) (dX10_worth_0 25 rfl) rfl rfl ?_
      refine R_getR cgX10 38 (cl38 hS) 11 (Nat.le_of_ble_eq_true rfl) rfl (Or.inl tb_1138) (dX10_worth_0 26 rfl) ?_
      refine R_sipush (dX10_worth_0 27 rfl) rfl rfl ?_
      refine R_aload_n (i := 0) (dX10_worth_0 28 rfl) rfl rfl ?_
      refine R_getI cgX10 38 (cl38 hS) 14 (Nat.le_of_ble_eq_true rfl) rfl (Or.inl tb_1141) (dX10_worth_0 29 rfl) ?_
      refine R_imul (dX10_worth_0 30 rfl) ?_
      refine R_iload_n (i := 3) (dX10_worth_0 31 rfl) rfl rfl ?_
      refine R_iadd (dX10_worth_0 32 rfl) ?_
      obtain ⟨hg, H⟩ := ite_G H
      refine R_iald 45 (cl45 hS) hg (dX10_worth_0 33 rfl) ?_
      refine R_istore (i := 4) (ls' := [some (.inr (.inr (some (ad 38)))), some (.inl x1), some (.inl x2), some (.inl x3), some (.inl (M 45 (w32 ((w32 (200 * (M 38 14))) + x3)).toNat))]) (dX10_worth_0 34 rfl) (Nat.le_of_ble_eq_true rfl) (Nat.le_of_ble_eq_true rfl) rfl rfl ?_
      refine R_iload (i := 4) (dX10_worth_0 35 rfl) rfl ?_
      refine R_ldc (z := 100000) tb_1094 rfl (dX10_worth_0 36 rfl) ?_
      refine R_icmp_ge (tgt := 66) (dX10_worth_0 37 rfl) (by decide) (fun hc => ?_) (fun hc => ?_)
      · have H := ite_F H hc
        refine R_aload_n (i := 0) (dX10_worth_0 41 rfl) rfl rfl ?_
        refine R_getR cgX10 38 (cl38 hS) 35 (Nat.le_of_ble_eq_true rfl) rfl (Or.inl tb_1162) (dX10_worth_0 42 rfl) ?_
        refine R_iload_n (i := 2) (dX10_worth_0 43 rfl) rfl rfl ?_
        refine R_iload (i := 4) (dX10_worth_0 44 rfl) rfl ?_
        refine R_bipush (dX10_worth_0 45 rfl) rfl rfl ?_
        refine R_icmp_ge (tgt := 88) (dX10_worth_0 46 rfl) (by decide) (fun hc => ?_) (fun hc => ?_)
        · have H := ite_F H hc
          refine R_iload (i := 4) (dX10_worth_0 52 rfl) rfl ?_
          refine R_ldc (z := 100000) tb_1094 rfl (dX10_worth_0 53 rfl) ?_
          refine R_isub (dX10_worth_0 54 rfl) ?_
          obtain ⟨hg, H⟩ := ite_G H
          refine R_iast 54 (cl54 hS) hg (dX10_worth_0 55 rfl) ?_
          refine R_iinc (i := 2) (ls' := [some (.inr (.inr (some (ad 38)))), some (.inl x1), some (.inl (w32 (x2 + 1))), some (.inl x3), some (.inl (M 45 (w32 ((w32 (200 * (M 38 14))) + x3)).toNat))]) (dX10_worth_0 56 rfl) rfl (Nat.le_of_ble_eq_true rfl) rfl rfl ?_
          refine R_goto (tgt := 191) (dX10_worth_0 57 rfl) (by decide) ?_
          refine R_iinc (i := 3) (ls' := [some (.inr (.inr (some (ad 38)))), some (.inl x1), some (.inl (w32 (x2 + 1))), some (.inl (w32 (x3 + 1))), some (.inl (M 45 (w32 ((w32 (200 * (M 38 14))) + x3)).toNat))]) (dX10_worth_1 54 rfl) rfl (Nat.le_of_ble_eq_true rfl) rfl rfl ?_
          refine R_goto (tgt := 16) (dX10_worth_1 55 rfl) (by decide) ?_
          refine R_mask [true, true, true, true, false] rfl ?_
          exact ih (w32 (x2 + 1)) (w32 (x3 + 1)) (mset M 54 (x2).toNat (w32 ((M 45 (w32 ((w32 (200 * (M 38 14))) + x3)).toNat) - 100000))) H
        · have H := ite_T H hc
          refine R_aload_n (i := 0) (dX10_worth_0 47 rfl) rfl rfl ?_
          refine R_getR cgX10 38 (cl38 hS) 36 (Nat.le_of_ble_eq_true rfl) rfl (Or.inl tb_1163) (dX10_worth_0 48 rfl) ?_
          refine R_iload (i := 4) (dX10_worth_0 49 rfl) rfl ?_
          obtain ⟨hg, H⟩ := ite_G H
          refine R_iald 55 (cl55 hS) hg (dX10_worth_0 50 rfl) ?_
          refine R_goto (tgt := 93) (dX10_worth_0 51 rfl) (by decide) ?_
          obtain ⟨hg, H⟩ := ite_G H
          refine R_iast 54 (cl54 hS) hg (dX10_worth_0 55 rfl) ?_
          refine R_iinc (i := 2) (ls' := [some (.inr (.inr (some (ad 38)))), some (.inl x1), some (.inl (w32 (x2 + 1))), some (.inl x3), some (.inl (M 45 (w32 ((w32 (200 * (M 38 14))) + x3)).toNat))]) (dX10_worth_0 56 rfl) rfl (Nat.le_of_ble_eq_true rfl) rfl rfl ?_
          refine R_goto (tgt := 191) (dX10_worth_0 57 rfl) (by decide) ?_
          refine R_iinc (i := 3) (ls' := [some (.inr (.inr (some (ad 38)))), some (.inl x1), some (.inl (w32 (x2 + 1))), some (.inl (w32 (x3 + 1))), some (.inl (M 45 (w32 ((w32 (200 * (M 38 14))) + x3)).toNat))]) (dX10_worth_1 54 rfl) rfl (Nat.le_of_ble_eq_true rfl) rfl rfl ?_
          refine R_goto (tgt := 16) (dX10_worth_1 55 rfl) (by decide) ?_
          refine R_mask [true, true, true, true, false] rfl ?_
          exact ih (w32 (x2 + 1)) (w32 (x3 + 1)) (mset M 54 (x2).toNat (M 55 (M 45 (w32 ((w32 (200 * (M 38 14))) + x3)).toNat).toNat)) H
      · have H := ite_T H hc
        refine R_iload (i := 4) (dX10_worth_0 38 rfl) rfl ?_
        refine R_bipush (dX10_worth_0 39 rfl) rfl rfl ?_
        refine R_icmp_ge (tgt := 100) (dX10_worth_0 40 rfl) (by decide) (fun hc => ?_) (fun hc => ?_)
        · have H := ite_F H hc
          refine R_iload (i := 4) (dX10_worth_0 58 rfl) rfl ?_
          refine R_bipush (dX10_worth_0 59 rfl) rfl rfl ?_
          refine R_icmp_ne (tgt := 134) (dX10_worth_1 0 rfl) (by decide) (fun hc => ?_) (fun hc => ?_)
          · have H := ite_F H hc
            refine R_iload (i := 4) (dX10_worth_1 18 rfl) rfl ?_
            refine R_bipush (dX10_worth_1 19 rfl) rfl rfl ?_
            refine R_icmp_ne (tgt := 161) (dX10_worth_1 20 rfl) (by decide) (fun hc => ?_) (fun hc => ?_)
            · have H := ite_F H hc
              refine R_iinc (i := 2) (ls' := [some (.inr (.inr (some (ad 38)))), some (.inl x1), some (.inl (w32 (x2 + (-1)))), some (.inl x3), some (.inl (M 45 (w32 ((w32 (200 * (M 38 14))) + x3)).toNat))]) (dX10_worth_1 35 rfl) rfl (Nat.le_of_ble_eq_true rfl) rfl rfl ?_
              refine R_aload_n (i := 0) (dX10_worth_1 36 rfl) rfl rfl ?_
              refine R_getR cgX10 38 (cl38 hS) 35 (Nat.le_of_ble_eq_true rfl) rfl (Or.inl tb_1162) (dX10_worth_1 37 rfl) ?_
              refine R_iload_n (i := 2) (dX10_worth_1 38 rfl) rfl rfl ?_
              refine R_iconst (dX10_worth_1 39 rfl) rfl ?_
              refine R_isub (dX10_worth_1 40 rfl) ?_
              refine R_iload (i := 4) (dX10_worth_1 41 rfl) rfl ?_
              refine R_aload_n (i := 0) (dX10_worth_1 42 rfl) rfl rfl ?_
              refine R_getR cgX10 38 (cl38 hS) 35 (Nat.le_of_ble_eq_true rfl) rfl (Or.inl tb_1162) (dX10_worth_1 43 rfl) ?_
              refine R_iload_n (i := 2) (dX10_worth_1 44 rfl) rfl rfl ?_
              refine R_iconst (dX10_worth_1 45 rfl) rfl ?_
              refine R_isub (dX10_worth_1 46 rfl) ?_
              obtain ⟨hg, H⟩ := ite_G H
              refine R_iald 54 (cl54 hS) hg (dX10_worth_1 47 rfl) ?_
              refine R_aload_n (i := 0) (dX10_worth_1 48 rfl) rfl rfl ?_
              refine R_getR cgX10 38 (cl38 hS) 35 (Nat.le_of_ble_eq_true rfl) rfl (Or.inl tb_1162) (dX10_worth_1 49 rfl) ?_
              refine R_iload_n (i := 2) (dX10_worth_1 50 rfl) rfl rfl ?_
              obtain ⟨hg, H⟩ := ite_G H
              refine R_iald 54 (cl54 hS) hg (dX10_worth_1 51 rfl) ?_
              refine R_cS (st' := [.inl (f_X10_bothOf (M 45 (w32 ((w32 (200 * (M 38 14))) + x3)).toNat) (M 54 (w32 ((w32 (x2 + (-1))) - 1)).toNat) (M 54 (w32 (x2 + (-1))).toNat)), .inl (w32 ((w32 (x2 + (-1))) - 1)), .inr (.inr (some (ad 54)))]) [.inl (M 45 (w32 ((w32 (200 * (M 38 14))) + x3)).toNat), .inl (M 54 (w32 ((w32 (x2 + (-1))) - 1)).toNat), .inl (M 54 (w32 (x2 + (-1))).toNat)] [.inl (w32 ((w32 (x2 + (-1))) - 1)), .inr (.inr (some (ad 54)))] (t_X10_bothOf l g ad S _ hS   (M 45 (w32 ((w32 (200 * (M 38 14))) + x3)).toNat) (M 54 (w32 ((w32 (x2 + (-1))) - 1)).toNat) (M 54 (w32 (x2 + (-1))).toNat)) msX10_bothOf (Or.inl tb_1332) ⟨Nat.le_of_ble_eq_true rfl, Nat.le_of_ble_eq_true rfl⟩ (Nat.zero_le _) (Nat.zero_le _) rfl rfl (Nat.le_of_ble_eq_true rfl) rfl (dX10_worth_1 52 rfl) ?_
              obtain ⟨hg, H⟩ := ite_G H
              refine R_iast 54 (cl54 hS) hg (dX10_worth_1 53 rfl) ?_
              refine R_iinc (i := 3) (ls' := [some (.inr (.inr (some (ad 38)))), some (.inl x1), some (.inl (w32 (x2 + (-1)))), some (.inl (w32 (x3 + 1))), some (.inl (M 45 (w32 ((w32 (200 * (M 38 14))) + x3)).toNat))]) (dX10_worth_1 54 rfl) rfl (Nat.le_of_ble_eq_true rfl) rfl rfl ?_
              refine R_goto (tgt := 16) (dX10_worth_1 55 rfl) (by decide) ?_
              refine R_mask [true, true, true, true, false] rfl ?_
              exact ih (w32 (x2 + (-1))) (w32 (x3 + 1)) (mset M 54 (w32 ((w32 (x2 + (-1))) - 1)).toNat (f_X10_bothOf (M 45 (w32 ((w32 (200 * (M 38 14))) + x3)).toNat) (M 54 (w32 ((w32 (x2 + (-1))) - 1)).toNat) (M 54 (w32 (x2 + (-1))).toNat))) H
            · have H := ite_T H hc
              refine R_aload_n (i := 0) (dX10_worth_1 21 rfl) rfl rfl ?_
              refine R_getR cgX10 38 (cl38 hS) 35 (Nat.le_of_ble_eq_true rfl) rfl (Or.inl tb_1162) (dX10_worth_1 22 rfl) ?_
              refine R_iload_n (i := 2) (dX10_worth_1 23 rfl) rfl rfl ?_
              refine R_iconst (dX10_worth_1 24 rfl) rfl ?_
              refine R_isub (dX10_worth_1 25 rfl) ?_
              refine R_aload_n (i := 0) (dX10_worth_1 26 rfl) rfl rfl ?_
              refine R_getR cgX10 38 (cl38 hS) 35 (Nat.le_of_ble_eq_true rfl) rfl (Or.inl tb_1162) (dX10_worth_1 27 rfl) ?_
              refine R_iload_n (i := 2) (dX10_worth_1 28 rfl) rfl rfl ?_
              refine R_iconst (dX10_worth_1 29 rfl) rfl ?_
              refine R_isub (dX10_worth_1 30 rfl) ?_
              obtain ⟨hg, H⟩ := ite_G H
              refine R_iald 54 (cl54 hS) hg (dX10_worth_1 31 rfl) ?_
              refine R_ineg (dX10_worth_1 32 rfl) ?_
              obtain ⟨hg, H⟩ := ite_G H
              refine R_iast 54 (cl54 hS) hg (dX10_worth_1 33 rfl) ?_
              refine R_goto (tgt := 191) (dX10_worth_1 34 rfl) (by decide) ?_
              refine R_iinc (i := 3) (ls' := [some (.inr (.inr (some (ad 38)))), some (.inl x1), some (.inl x2), some (.inl (w32 (x3 + 1))), some (.inl (M 45 (w32 ((w32 (200 * (M 38 14))) + x3)).toNat))]) (dX10_worth_1 54 rfl) rfl (Nat.le_of_ble_eq_true rfl) rfl rfl ?_
              refine R_goto (tgt := 16) (dX10_worth_1 55 rfl) (by decide) ?_
              refine R_mask [true, true, true, true, false] rfl ?_
              exact ih x2 (w32 (x3 + 1)) (mset M 54 (w32 (x2 - 1)).toNat (w32 (-(M 54 (w32 (x2 - 1)).toNat)))) H
          · have H := ite_T H hc
            refine R_aload_n (i := 0) (dX10_worth_1 1 rfl) rfl rfl ?_
            refine R_getR cgX10 38 (cl38 hS) 35 (Nat.le_of_ble_eq_true rfl) rfl (Or.inl tb_1162) (dX10_worth_1 2 rfl) ?_
            refine R_iload_n (i := 2) (dX10_worth_1 3 rfl) rfl rfl ?_
            refine R_iconst (dX10_worth_1 4 rfl) rfl ?_
            refine R_isub (dX10_worth_1 5 rfl) ?_
            refine R_aload_n (i := 0) (dX10_worth_1 6 rfl) rfl rfl ?_
            refine R_getR cgX10 38 (cl38 hS) 35 (Nat.le_of_ble_eq_true rfl) rfl (Or.inl tb_1162) (dX10_worth_1 7 rfl) ?_
            refine R_iload_n (i := 2) (dX10_worth_1 8 rfl) rfl rfl ?_
            refine R_iconst (dX10_worth_1 9 rfl) rfl ?_
            refine R_isub (dX10_worth_1 10 rfl) ?_
            obtain ⟨hg, H⟩ := ite_G H
            refine R_iald 54 (cl54 hS) hg (dX10_worth_1 11 rfl) ?_
            refine R_if_ne (tgt := 129) (dX10_worth_1 12 rfl) (by decide) (fun hc => ?_) (fun hc => ?_)
            · have H := ite_F H hc
              refine R_iconst (dX10_worth_1 15 rfl) rfl ?_
              obtain ⟨hg, H⟩ := ite_G H
              refine R_iast 54 (cl54 hS) hg (dX10_worth_1 16 rfl) ?_
              refine R_goto (tgt := 191) (dX10_worth_1 17 rfl) (by decide) ?_
              refine R_iinc (i := 3) (ls' := [some (.inr (.inr (some (ad 38)))), some (.inl x1), some (.inl x2), some (.inl (w32 (x3 + 1))), some (.inl (M 45 (w32 ((w32 (200 * (M 38 14))) + x3)).toNat))]) (dX10_worth_1 54 rfl) rfl (Nat.le_of_ble_eq_true rfl) rfl rfl ?_
              refine R_goto (tgt := 16) (dX10_worth_1 55 rfl) (by decide) ?_
              refine R_mask [true, true, true, true, false] rfl ?_
              exact ih x2 (w32 (x3 + 1)) (mset M 54 (w32 (x2 - 1)).toNat 0) H
            · have H := ite_T H hc
              refine R_iconst (dX10_worth_1 13 rfl) rfl ?_
              refine R_goto (tgt := 130) (dX10_worth_1 14 rfl) (by decide) ?_
              obtain ⟨hg, H⟩ := ite_G H
              refine R_iast 54 (cl54 hS) hg (dX10_worth_1 16 rfl) ?_
              refine R_goto (tgt := 191) (dX10_worth_1 17 rfl) (by decide) ?_
              refine R_iinc (i := 3) (ls' := [some (.inr (.inr (some (ad 38)))), some (.inl x1), some (.inl x2), some (.inl (w32 (x3 + 1))), some (.inl (M 45 (w32 ((w32 (200 * (M 38 14))) + x3)).toNat))]) (dX10_worth_1 54 rfl) rfl (Nat.le_of_ble_eq_true rfl) rfl rfl ?_
              refine R_goto (tgt := 16) (dX10_worth_1 55 rfl) (by decide) ?_
              refine R_mask [true, true, true, true, false] rfl ?_
              exact ih x2 (w32 (x3 + 1)) (mset M 54 (w32 (x2 - 1)).toNat 1) H
        · have H := ite_T H hc
          refine R_aload_n (i := 0) (dX10_worth_0 41 rfl) rfl rfl ?_
          refine R_getR cgX10 38 (cl38 hS) 35 (Nat.le_of_ble_eq_true rfl) rfl (Or.inl tb_1162) (dX10_worth_0 42 rfl) ?_
          refine R_iload_n (i := 2) (dX10_worth_0 43 rfl) rfl rfl ?_
          refine R_iload (i := 4) (dX10_worth_0 44 rfl) rfl ?_
          refine R_bipush (dX10_worth_0 45 rfl) rfl rfl ?_
          refine R_icmp_ge (tgt := 88) (dX10_worth_0 46 rfl) (by decide) (fun hc => ?_) (fun hc => ?_)
          · have H := ite_F H hc
            refine R_iload (i := 4) (dX10_worth_0 52 rfl) rfl ?_
            refine R_ldc (z := 100000) tb_1094 rfl (dX10_worth_0 53 rfl) ?_
            refine R_isub (dX10_worth_0 54 rfl) ?_
            obtain ⟨hg, H⟩ := ite_G H
            refine R_iast 54 (cl54 hS) hg (dX10_worth_0 55 rfl) ?_
            refine R_iinc (i := 2) (ls' := [some (.inr (.inr (some (ad 38)))), some (.inl x1), some (.inl (w32 (x2 + 1))), some (.inl x3), some (.inl (M 45 (w32 ((w32 (200 * (M 38 14))) + x3)).toNat))]) (dX10_worth_0 56 rfl) rfl (Nat.le_of_ble_eq_true rfl) rfl rfl ?_
            refine R_goto (tgt := 191) (dX10_worth_0 57 rfl) (by decide) ?_
            refine R_iinc (i := 3) (ls' := [some (.inr (.inr (some (ad 38)))), some (.inl x1), some (.inl (w32 (x2 + 1))), some (.inl (w32 (x3 + 1))), some (.inl (M 45 (w32 ((w32 (200 * (M 38 14))) + x3)).toNat))]) (dX10_worth_1 54 rfl) rfl (Nat.le_of_ble_eq_true rfl) rfl rfl ?_
            refine R_goto (tgt := 16) (dX10_worth_1 55 rfl) (by decide) ?_
            refine R_mask [true, true, true, true, false] rfl ?_
            exact ih (w32 (x2 + 1)) (w32 (x3 + 1)) (mset M 54 (x2).toNat (w32 ((M 45 (w32 ((w32 (200 * (M 38 14))) + x3)).toNat) - 100000))) H
          · have H := ite_T H hc
            refine R_aload_n (i := 0) (dX10_worth_0 47 rfl) rfl rfl ?_
            refine R_getR cgX10 38 (cl38 hS) 36 (Nat.le_of_ble_eq_true rfl) rfl (Or.inl tb_1163) (dX10_worth_0 48 rfl) ?_
            refine R_iload (i := 4) (dX10_worth_0 49 rfl) rfl ?_
            obtain ⟨hg, H⟩ := ite_G H
            refine R_iald 55 (cl55 hS) hg (dX10_worth_0 50 rfl) ?_
            refine R_goto (tgt := 93) (dX10_worth_0 51 rfl) (by decide) ?_
            obtain ⟨hg, H⟩ := ite_G H
            refine R_iast 54 (cl54 hS) hg (dX10_worth_0 55 rfl) ?_
            refine R_iinc (i := 2) (ls' := [some (.inr (.inr (some (ad 38)))), some (.inl x1), some (.inl (w32 (x2 + 1))), some (.inl x3), some (.inl (M 45 (w32 ((w32 (200 * (M 38 14))) + x3)).toNat))]) (dX10_worth_0 56 rfl) rfl (Nat.le_of_ble_eq_true rfl) rfl rfl ?_
            refine R_goto (tgt := 191) (dX10_worth_0 57 rfl) (by decide) ?_
            refine R_iinc (i := 3) (ls' := [some (.inr (.inr (some (ad 38)))), some (.inl x1), some (.inl (w32 (x2 + 1))), some (.inl (w32 (x3 + 1))), some (.inl (M 45 (w32 ((w32 (200 * (M 38 14))) + x3)).toNat))]) (dX10_worth_1 54 rfl) rfl (Nat.le_of_ble_eq_true rfl) rfl rfl ?_
            refine R_goto (tgt := 16) (dX10_worth_1 55 rfl) (by decide) ?_
            refine R_mask [true, true, true, true, false] rfl ?_
            exact ih (w32 (x2 + 1)) (w32 (x3 + 1)) (mset M 54 (x2).toNat (M 55 (M 45 (w32 ((w32 (200 * (M 38 14))) + x3)).toNat).toNat)) H
def f_X10_worth (x1 : Int) (M : Mem) : Option (Int × Mem) :=
  if 0 ≤ w32 ((w32 (4 * (M 38 14))) + x1) ∧ w32 ((w32 (4 * (M 38 14))) + x1) < 24 then
    f_X10_worth_L16
      x1 100000 0 (M 46 (w32 ((w32 (4 * (M 38 14))) + x1)).toNat) M
  else none
set_option maxHeartbeats 4000000 in
theorem t_X10_worth (l : Launch) (g : GG) (ad : Nat → Nat) (S : SW) (M : Mem) (hS : q_ag 38 63 ad S) (x1 : Int) {r : Int} {M' : Mem} (H : f_X10_worth x1 M = some (r, M')) : CT l g MX10_worth 2 0 0 S M [.inr (.inr (some (ad 38))), .inl x1] (q_ex S (some (.inl r)) M') := by
  unfold f_X10_worth at H
  refine CT_of (ls0 := [some (.inr (.inr (some (ad 38)))), some (.inl x1), none, none, none]) (by decide +kernel) (Nat.le_of_ble_eq_true rfl) rfl ?_
  refine R_iconst (dX10_worth_0 0 rfl) rfl ?_
  refine R_istore_n (i := 2) (ls' := [some (.inr (.inr (some (ad 38)))), some (.inl x1), some (.inl 0), none, none]) (dX10_worth_0 1 rfl) rfl (Nat.le_of_ble_eq_true rfl) (Nat.le_of_ble_eq_true rfl) rfl rfl ?_
  refine R_aload_n (i := 0) (dX10_worth_0 2 rfl) rfl rfl ?_
  refine R_getR cgX10 38 (cl38 hS) 12 (Nat.le_of_ble_eq_true rfl) rfl (Or.inl tb_1139) (dX10_worth_0 3 rfl) ?_
  refine R_iconst (dX10_worth_0 4 rfl) rfl ?_
  refine R_aload_n (i := 0) (dX10_worth_0 5 rfl) rfl rfl ?_
  refine R_getI cgX10 38 (cl38 hS) 14 (Nat.le_of_ble_eq_true rfl) rfl (Or.inl tb_1141) (dX10_worth_0 6 rfl) ?_
  refine R_imul (dX10_worth_0 7 rfl) ?_
  refine R_iload_n (i := 1) (dX10_worth_0 8 rfl) rfl rfl ?_
  refine R_iadd (dX10_worth_0 9 rfl) ?_
  obtain ⟨hg, H⟩ := ite_G H
  refine R_iald 46 (cl46 hS) hg (dX10_worth_0 10 rfl) ?_
  refine R_istore_n (i := 3) (ls' := [some (.inr (.inr (some (ad 38)))), some (.inl x1), some (.inl 0), some (.inl (M 46 (w32 ((w32 (4 * (M 38 14))) + x1)).toNat)), none]) (dX10_worth_0 11 rfl) rfl (Nat.le_of_ble_eq_true rfl) (Nat.le_of_ble_eq_true rfl) rfl rfl ?_
  exact t_X10_worth_L16 l g ad S hS x1  100000 0 (M 46 (w32 ((w32 (4 * (M 38 14))) + x1)).toNat) M H 
def f_X10_force (x1 : Int) (M : Mem) : Option (Int × Mem) :=
  if f_X10_in x1 0 (w32 ((M 38 13) - 1)) = 0 then
    some ((-2), M)
  else
    some (M 38 14, (mset M 38 14 x1))
set_option maxHeartbeats 4000000 in
theorem t_X10_force (l : Launch) (g : GG) (ad : Nat → Nat) (S : SW) (M : Mem) (hS : q_ag 38 63 ad S) (x1 : Int) {r : Int} {M' : Mem} (H : f_X10_force x1 M = some (r, M')) : CT l g MX10_force 2 0 0 S M [.inr (.inr (some (ad 38))), .inl x1] (q_ex S (some (.inl r)) M') := by
  unfold f_X10_force at H
  refine CT_of (ls0 := [some (.inr (.inr (some (ad 38)))), some (.inl x1), none]) (by decide +kernel) (Nat.le_of_ble_eq_true rfl) rfl ?_
  refine R_iload_n (i := 1) (dX10_force 0 rfl) rfl rfl ?_
  refine R_iconst (dX10_force 1 rfl) rfl ?_
  refine R_aload_n (i := 0) (dX10_force 2 rfl) rfl rfl ?_
  refine R_getI cgX10 38 (cl38 hS) 13 (Nat.le_of_ble_eq_true rfl) rfl (Or.inl tb_1140) (dX10_force 3 rfl) ?_
  refine R_iconst (dX10_force 4 rfl) rfl ?_
  refine R_isub (dX10_force 5 rfl) ?_
  refine R_cS (st' := [.inl (f_X10_in x1 0 (w32 ((M 38 13) - 1)))]) [.inl x1, .inl 0, .inl (w32 ((M 38 13) - 1))] [] (t_X10_in l g S _   x1 0 (w32 ((M 38 13) - 1))) msX10_in (Or.inl tb_1083) ⟨Nat.le_of_ble_eq_true rfl, Nat.le_of_ble_eq_true rfl⟩ (Nat.zero_le _) (Nat.zero_le _) rfl rfl (Nat.le_of_ble_eq_true rfl) rfl (dX10_force 6 rfl) ?_
  refine R_if_ne (tgt := 17) (dX10_force 7 rfl) (by decide) (fun hc => ?_) (fun hc => ?_)
  · have H := ite_F H hc
    refine R_aload_n (i := 0) (dX10_force 10 rfl) rfl rfl ?_
    refine R_getI cgX10 38 (cl38 hS) 14 (Nat.le_of_ble_eq_true rfl) rfl (Or.inl tb_1141) (dX10_force 11 rfl) ?_
    refine R_istore_n (i := 2) (ls' := [some (.inr (.inr (some (ad 38)))), some (.inl x1), some (.inl (M 38 14))]) (dX10_force 12 rfl) rfl (Nat.le_of_ble_eq_true rfl) (Nat.le_of_ble_eq_true rfl) rfl rfl ?_
    refine R_aload_n (i := 0) (dX10_force 13 rfl) rfl rfl ?_
    refine R_iload_n (i := 1) (dX10_force 14 rfl) rfl rfl ?_
    refine R_putI cgX10 38 (cl38 hS) 14 (Nat.le_of_ble_eq_true rfl) rfl rfl rfl rfl (Or.inl tb_1141) (dX10_force 15 rfl) ?_
    refine R_iload_n (i := 2) (dX10_force 16 rfl) rfl rfl ?_
    exact R_iret rfl rfl (Nat.zero_le _) (Nat.zero_le _) (dX10_force 17 rfl) ⟨congrArg (fun z => some (Sum.inl z)) (Prod.mk.inj (Option.some.inj H)).1, rfl, (Prod.mk.inj (Option.some.inj H)).2⟩
  · have H := ite_T H hc
    refine R_bipush (dX10_force 8 rfl) rfl rfl ?_
    exact R_iret rfl rfl (Nat.zero_le _) (Nat.zero_le _) (dX10_force 9 rfl) ⟨congrArg (fun z => some (Sum.inl z)) (Prod.mk.inj (Option.some.inj H)).1, rfl, (Prod.mk.inj (Option.some.inj H)).2⟩
def f_X10_asksOf (x1 : Int) (x2 : Int) (x3 : Int) (x4 : Int) (x5 : Int) (M : Mem) : Option (Int × Mem) :=
  if 0 ≤ x2 ∧ x2 < 10 then
    (f_X10_ones x3).bind fun r391 =>
    ob (f_X10_worth x1 (mset (mset (mset (mset (mset (mset M 55 0 (M 40 (x2).toNat)) 55 1 x3) 55 2 x2) 55 3 r391) 55 4 x4) 55 5 x5)) fun r392 M393 =>
    if x1 = 0 then
      if r392 = 0 then
        some (0, M393)
      else
        some (1, M393)
    else
      if x1 = 1 then
        some (f_X10_within r392 0 99, M393)
      else
        some (f_X10_within r392 0 999, M393)
  else none
set_option maxHeartbeats 4000000 in
theorem t_X10_asksOf (l : Launch) (g : GG) (ad : Nat → Nat) (S : SW) (M : Mem) (hS : q_ag 38 63 ad S) (x1 : Int) (x2 : Int) (x3 : Int) (x4 : Int) (x5 : Int) {r : Int} {M' : Mem} (H : f_X10_asksOf x1 x2 x3 x4 x5 M = some (r, M')) : CT l g MX10_asksOf 3 0 0 S M [.inr (.inr (some (ad 38))), .inl x1, .inl x2, .inl x3, .inl x4, .inl x5] (q_ex S (some (.inl r)) M') := by
  unfold f_X10_asksOf at H
  refine CT_of (ls0 := [some (.inr (.inr (some (ad 38)))), some (.inl x1), some (.inl x2), some (.inl x3), some (.inl x4), some (.inl x5), none]) (by decide +kernel) (Nat.le_of_ble_eq_true rfl) rfl ?_
  refine R_aload_n (i := 0) (dX10_asksOf 0 rfl) rfl rfl ?_
  refine R_getR cgX10 38 (cl38 hS) 36 (Nat.le_of_ble_eq_true rfl) rfl (Or.inl tb_1163) (dX10_asksOf 1 rfl) ?_
  refine R_iconst (dX10_asksOf 2 rfl) rfl ?_
  refine R_aload_n (i := 0) (dX10_asksOf 3 rfl) rfl rfl ?_
  refine R_getR cgX10 38 (cl38 hS) 2 (Nat.le_of_ble_eq_true rfl) rfl (Or.inl tb_1129) (dX10_asksOf 4 rfl) ?_
  refine R_iload_n (i := 2) (dX10_asksOf 5 rfl) rfl rfl ?_
  obtain ⟨hg, H⟩ := ite_G H
  refine R_iald 40 (cl40 hS) hg (dX10_asksOf 6 rfl) ?_
  refine R_iast 55 (cl55 hS) ⟨by decide, by decide⟩ (dX10_asksOf 7 rfl) ?_
  refine R_aload_n (i := 0) (dX10_asksOf 8 rfl) rfl rfl ?_
  refine R_getR cgX10 38 (cl38 hS) 36 (Nat.le_of_ble_eq_true rfl) rfl (Or.inl tb_1163) (dX10_asksOf 9 rfl) ?_
  refine R_iconst (dX10_asksOf 10 rfl) rfl ?_
  refine R_iload_n (i := 3) (dX10_asksOf 11 rfl) rfl rfl ?_
  refine R_iast 55 (cl55 hS) ⟨by decide, by decide⟩ (dX10_asksOf 12 rfl) ?_
  refine R_aload_n (i := 0) (dX10_asksOf 13 rfl) rfl rfl ?_
  refine R_getR cgX10 38 (cl38 hS) 36 (Nat.le_of_ble_eq_true rfl) rfl (Or.inl tb_1163) (dX10_asksOf 14 rfl) ?_
  refine R_iconst (dX10_asksOf 15 rfl) rfl ?_
  refine R_iload_n (i := 2) (dX10_asksOf 16 rfl) rfl rfl ?_
  refine R_iast 55 (cl55 hS) ⟨by decide, by decide⟩ (dX10_asksOf 17 rfl) ?_
  refine R_aload_n (i := 0) (dX10_asksOf 18 rfl) rfl rfl ?_
  refine R_getR cgX10 38 (cl38 hS) 36 (Nat.le_of_ble_eq_true rfl) rfl (Or.inl tb_1163) (dX10_asksOf 19 rfl) ?_
  refine R_iconst (dX10_asksOf 20 rfl) rfl ?_
  refine R_iload_n (i := 3) (dX10_asksOf 21 rfl) rfl rfl ?_
  obtain ⟨r391, hr, H⟩ := op_E H
  refine R_cS (st' := [.inl r391, .inl 3, .inr (.inr (some (ad 55)))]) [.inl x3] [.inl 3, .inr (.inr (some (ad 55)))] (t_X10_ones l g S _   x3 hr) msX10_ones (Or.inl tb_1273) ⟨Nat.le_of_ble_eq_true rfl, Nat.le_of_ble_eq_true rfl⟩ (Nat.zero_le _) (Nat.zero_le _) rfl rfl (Nat.le_of_ble_eq_true rfl) rfl (dX10_asksOf 22 rfl) ?_
  refine R_iast 55 (cl55 hS) ⟨by decide, by decide⟩ (dX10_asksOf 23 rfl) ?_
  refine R_aload_n (i := 0) (dX10_asksOf 24 rfl) rfl rfl ?_
  refine R_getR cgX10 38 (cl38 hS) 36 (Nat.le_of_ble_eq_true rfl) rfl (Or.inl tb_1163) (dX10_asksOf 25 rfl) ?_
  refine R_iconst (dX10_asksOf 26 rfl) rfl ?_
  refine R_iload (i := 4) (dX10_asksOf 27 rfl) rfl ?_
  refine R_iast 55 (cl55 hS) ⟨by decide, by decide⟩ (dX10_asksOf 28 rfl) ?_
  refine R_aload_n (i := 0) (dX10_asksOf 29 rfl) rfl rfl ?_
  refine R_getR cgX10 38 (cl38 hS) 36 (Nat.le_of_ble_eq_true rfl) rfl (Or.inl tb_1163) (dX10_asksOf 30 rfl) ?_
  refine R_iconst (dX10_asksOf 31 rfl) rfl ?_
  refine R_iload (i := 5) (dX10_asksOf 32 rfl) rfl ?_
  refine R_iast 55 (cl55 hS) ⟨by decide, by decide⟩ (dX10_asksOf 33 rfl) ?_
  refine R_aload_n (i := 0) (dX10_asksOf 34 rfl) rfl rfl ?_
  refine R_iload_n (i := 1) (dX10_asksOf 35 rfl) rfl rfl ?_
  obtain ⟨r392, M393, hr, H⟩ := ob_E H
  refine R_cV (st' := [.inl r392]) [.inl x1] [] (t_X10_worth l g ad S _ hS   x1 hr) msX10_worth (Or.inl tb_1328) (Or.inl ⟨38, 10, _, _, _, (cl38 hS), rfl⟩) ⟨Nat.le_of_ble_eq_true rfl, Nat.le_of_ble_eq_true rfl⟩ (Nat.zero_le _) (Nat.zero_le _) rfl rfl (Nat.le_of_ble_eq_true rfl) rfl (dX10_asksOf 36 rfl) ?_
  refine R_istore (i := 6) (ls' := [some (.inr (.inr (some (ad 38)))), some (.inl x1), some (.inl x2), some (.inl x3), some (.inl x4), some (.inl x5), some (.inl r392)]) (dX10_asksOf 37 rfl) (Nat.le_of_ble_eq_true rfl) (Nat.le_of_ble_eq_true rfl) rfl rfl ?_
  refine R_iload_n (i := 1) (dX10_asksOf 38 rfl) rfl rfl ?_
  refine R_if_ne (tgt := 76) (dX10_asksOf 39 rfl) (by decide) (fun hc => ?_) (fun hc => ?_)
  · have H := ite_F H hc
    refine R_iload (i := 6) (dX10_asksOf 46 rfl) rfl ?_
    refine R_iconst (dX10_asksOf 47 rfl) rfl ?_
    refine R_iload_n (i := 1) (dX10_asksOf 48 rfl) rfl rfl ?_
    refine R_iconst (dX10_asksOf 49 rfl) rfl ?_
    refine R_icmp_ne (tgt := 89) (dX10_asksOf 50 rfl) (by decide) (fun hc => ?_) (fun hc => ?_)
    · have H := ite_F H hc
      refine R_sipush (dX10_asksOf 53 rfl) rfl rfl ?_
      refine R_cS (st' := [.inl (f_X10_within r392 0 999)]) [.inl r392, .inl 0, .inl 999] [] (t_X10_within l g S _   r392 0 999) msX10_within (Or.inl tb_1335) ⟨Nat.le_of_ble_eq_true rfl, Nat.le_of_ble_eq_true rfl⟩ (Nat.zero_le _) (Nat.zero_le _) rfl rfl (Nat.le_of_ble_eq_true rfl) rfl (dX10_asksOf 54 rfl) ?_
      exact R_iret rfl rfl (Nat.zero_le _) (Nat.zero_le _) (dX10_asksOf 55 rfl) ⟨congrArg (fun z => some (Sum.inl z)) (Prod.mk.inj (Option.some.inj H)).1, rfl, (Prod.mk.inj (Option.some.inj H)).2⟩
    · have H := ite_T H hc
      refine R_bipush (dX10_asksOf 51 rfl) rfl rfl ?_
      refine R_goto (tgt := 92) (dX10_asksOf 52 rfl) (by decide) ?_
      refine R_cS (st' := [.inl (f_X10_within r392 0 99)]) [.inl r392, .inl 0, .inl 99] [] (t_X10_within l g S _   r392 0 99) msX10_within (Or.inl tb_1335) ⟨Nat.le_of_ble_eq_true rfl, Nat.le_of_ble_eq_true rfl⟩ (Nat.zero_le _) (Nat.zero_le _) rfl rfl (Nat.le_of_ble_eq_true rfl) rfl (dX10_asksOf 54 rfl) ?_
      exact R_iret rfl rfl (Nat.zero_le _) (Nat.zero_le _) (dX10_asksOf 55 rfl) ⟨congrArg (fun z => some (Sum.inl z)) (Prod.mk.inj (Option.some.inj H)).1, rfl, (Prod.mk.inj (Option.some.inj H)).2⟩
  · have H := ite_T H hc
    refine R_iload (i := 6) (dX10_asksOf 40 rfl) rfl ?_
    refine R_if_ne (tgt := 72) (dX10_asksOf 41 rfl) (by decide) (fun hc => ?_) (fun hc => ?_)
    · have H := ite_F H hc
      refine R_iconst (dX10_asksOf 44 rfl) rfl ?_
      refine R_goto (tgt := 95) (dX10_asksOf 45 rfl) (by decide) ?_
      exact R_iret rfl rfl (Nat.zero_le _) (Nat.zero_le _) (dX10_asksOf 55 rfl) ⟨congrArg (fun z => some (Sum.inl z)) (Prod.mk.inj (Option.some.inj H)).1, rfl, (Prod.mk.inj (Option.some.inj H)).2⟩
    · have H := ite_T H hc
      refine R_iconst (dX10_asksOf 42 rfl) rfl ?_
      refine R_goto (tgt := 95) (dX10_asksOf 43 rfl) (by decide) ?_
      exact R_iret rfl rfl (Nat.zero_le _) (Nat.zero_le _) (dX10_asksOf 55 rfl) ⟨congrArg (fun z => some (Sum.inl z)) (Prod.mk.inj (Option.some.inj H)).1, rfl, (Prod.mk.inj (Option.some.inj H)).2⟩
def f_X10_asks (x1 : Int) (x2 : Int) (x3 : Int) (x4 : Int) (x5 : Int) (M : Mem) : Option (Int × Mem) :=
  if f_X10_isLine x2 M = 0 then
    some ((-5), M)
  else
    if f_X10_in x1 0 2 = 0 then
      some ((-7), M)
    else
      if f_X10_in x3 0 63 = 0 then
        some ((-7), M)
      else
        if f_X10_in x4 0 3 = 0 then
          some ((-7), M)
        else
          if f_X10_in x5 0 720 = 0 then
            some ((-7), M)
          else
            ob (f_X10_asksOf x1 x2 x3 x4 x5 M) fun r394 M395 =>
            some (r394, M395)
set_option maxHeartbeats 4000000 in
theorem t_X10_asks (l : Launch) (g : GG) (ad : Nat → Nat) (S : SW) (M : Mem) (hS : q_ag 38 63 ad S) (x1 : Int) (x2 : Int) (x3 : Int) (x4 : Int) (x5 : Int) {r : Int} {M' : Mem} (H : f_X10_asks x1 x2 x3 x4 x5 M = some (r, M')) : CT l g MX10_asks 4 0 0 S M [.inr (.inr (some (ad 38))), .inl x1, .inl x2, .inl x3, .inl x4, .inl x5] (q_ex S (some (.inl r)) M') := by
  unfold f_X10_asks at H
  refine CT_of (ls0 := [some (.inr (.inr (some (ad 38)))), some (.inl x1), some (.inl x2), some (.inl x3), some (.inl x4), some (.inl x5), none]) (by decide +kernel) (Nat.le_of_ble_eq_true rfl) rfl ?_
  refine R_aload_n (i := 0) (dX10_asks 0 rfl) rfl rfl ?_
  refine R_iload_n (i := 2) (dX10_asks 1 rfl) rfl rfl ?_
  refine R_cV (st' := [.inl (f_X10_isLine x2 M)]) [.inl x2] [] (t_X10_isLine l g ad S _ hS   x2) msX10_isLine (Or.inl tb_1280) (Or.inl ⟨38, 10, _, _, _, (cl38 hS), rfl⟩) ⟨Nat.le_of_ble_eq_true rfl, Nat.le_of_ble_eq_true rfl⟩ (Nat.zero_le _) (Nat.zero_le _) rfl rfl (Nat.le_of_ble_eq_true rfl) rfl (dX10_asks 2 rfl) ?_
  refine R_if_ne (tgt := 11) (dX10_asks 3 rfl) (by decide) (fun hc => ?_) (fun hc => ?_)
  · have H := ite_F H hc
    refine R_iload_n (i := 1) (dX10_asks 6 rfl) rfl rfl ?_
    refine R_iconst (dX10_asks 7 rfl) rfl ?_
    refine R_iconst (dX10_asks 8 rfl) rfl ?_
    refine R_cS (st' := [.inl (f_X10_in x1 0 2)]) [.inl x1, .inl 0, .inl 2] [] (t_X10_in l g S _   x1 0 2) msX10_in (Or.inl tb_1083) ⟨Nat.le_of_ble_eq_true rfl, Nat.le_of_ble_eq_true rfl⟩ (Nat.zero_le _) (Nat.zero_le _) rfl rfl (Nat.le_of_ble_eq_true rfl) rfl (dX10_asks 9 rfl) ?_
    refine R_if_eq (tgt := 56) (dX10_asks 10 rfl) (by decide) (fun hc => ?_) (fun hc => ?_)
    · have H := ite_T H hc
      refine R_iconst (dX10_asks 28 rfl) rfl ?_
      refine R_istore (i := 6) (ls' := [some (.inr (.inr (some (ad 38)))), some (.inl x1), some (.inl x2), some (.inl x3), some (.inl x4), some (.inl x5), some (.inl 0)]) (dX10_asks 29 rfl) (Nat.le_of_ble_eq_true rfl) (Nat.le_of_ble_eq_true rfl) rfl rfl ?_
      refine R_iload (i := 6) (dX10_asks 30 rfl) rfl ?_
      refine R_if_eq (tgt := 78) (dX10_asks 31 rfl) (by decide) (fun _ => ?_) (fun hc => absurd hc (by decide))
      refine R_bipush (dX10_asks 40 rfl) rfl rfl ?_
      exact R_iret rfl rfl (Nat.zero_le _) (Nat.zero_le _) (dX10_asks 41 rfl) ⟨congrArg (fun z => some (Sum.inl z)) (Prod.mk.inj (Option.some.inj H)).1, rfl, (Prod.mk.inj (Option.some.inj H)).2⟩
    · have H := ite_F H hc
      refine R_iload_n (i := 3) (dX10_asks 11 rfl) rfl rfl ?_
      refine R_iconst (dX10_asks 12 rfl) rfl ?_
      refine R_bipush (dX10_asks 13 rfl) rfl rfl ?_
      refine R_cS (st' := [.inl (f_X10_in x3 0 63)]) [.inl x3, .inl 0, .inl 63] [] (t_X10_in l g S _   x3 0 63) msX10_in (Or.inl tb_1083) ⟨Nat.le_of_ble_eq_true rfl, Nat.le_of_ble_eq_true rfl⟩ (Nat.zero_le _) (Nat.zero_le _) rfl rfl (Nat.le_of_ble_eq_true rfl) rfl (dX10_asks 14 rfl) ?_
      refine R_if_eq (tgt := 56) (dX10_asks 15 rfl) (by decide) (fun hc => ?_) (fun hc => ?_)
      · have H := ite_T H hc
        refine R_iconst (dX10_asks 28 rfl) rfl ?_
        refine R_istore (i := 6) (ls' := [some (.inr (.inr (some (ad 38)))), some (.inl x1), some (.inl x2), some (.inl x3), some (.inl x4), some (.inl x5), some (.inl 0)]) (dX10_asks 29 rfl) (Nat.le_of_ble_eq_true rfl) (Nat.le_of_ble_eq_true rfl) rfl rfl ?_
        refine R_iload (i := 6) (dX10_asks 30 rfl) rfl ?_
        refine R_if_eq (tgt := 78) (dX10_asks 31 rfl) (by decide) (fun _ => ?_) (fun hc => absurd hc (by decide))
        refine R_bipush (dX10_asks 40 rfl) rfl rfl ?_
        exact R_iret rfl rfl (Nat.zero_le _) (Nat.zero_le _) (dX10_asks 41 rfl) ⟨congrArg (fun z => some (Sum.inl z)) (Prod.mk.inj (Option.some.inj H)).1, rfl, (Prod.mk.inj (Option.some.inj H)).2⟩
      · have H := ite_F H hc
        refine R_iload (i := 4) (dX10_asks 16 rfl) rfl ?_
        refine R_iconst (dX10_asks 17 rfl) rfl ?_
        refine R_iconst (dX10_asks 18 rfl) rfl ?_
        refine R_cS (st' := [.inl (f_X10_in x4 0 3)]) [.inl x4, .inl 0, .inl 3] [] (t_X10_in l g S _   x4 0 3) msX10_in (Or.inl tb_1083) ⟨Nat.le_of_ble_eq_true rfl, Nat.le_of_ble_eq_true rfl⟩ (Nat.zero_le _) (Nat.zero_le _) rfl rfl (Nat.le_of_ble_eq_true rfl) rfl (dX10_asks 19 rfl) ?_
        refine R_if_eq (tgt := 56) (dX10_asks 20 rfl) (by decide) (fun hc => ?_) (fun hc => ?_)
        · have H := ite_T H hc
          refine R_iconst (dX10_asks 28 rfl) rfl ?_
          refine R_istore (i := 6) (ls' := [some (.inr (.inr (some (ad 38)))), some (.inl x1), some (.inl x2), some (.inl x3), some (.inl x4), some (.inl x5), some (.inl 0)]) (dX10_asks 29 rfl) (Nat.le_of_ble_eq_true rfl) (Nat.le_of_ble_eq_true rfl) rfl rfl ?_
          refine R_iload (i := 6) (dX10_asks 30 rfl) rfl ?_
          refine R_if_eq (tgt := 78) (dX10_asks 31 rfl) (by decide) (fun _ => ?_) (fun hc => absurd hc (by decide))
          refine R_bipush (dX10_asks 40 rfl) rfl rfl ?_
          exact R_iret rfl rfl (Nat.zero_le _) (Nat.zero_le _) (dX10_asks 41 rfl) ⟨congrArg (fun z => some (Sum.inl z)) (Prod.mk.inj (Option.some.inj H)).1, rfl, (Prod.mk.inj (Option.some.inj H)).2⟩
        · have H := ite_F H hc
          refine R_iload (i := 5) (dX10_asks 21 rfl) rfl ?_
          refine R_iconst (dX10_asks 22 rfl) rfl ?_
          refine R_sipush (dX10_asks 23 rfl) rfl rfl ?_
          refine R_cS (st' := [.inl (f_X10_in x5 0 720)]) [.inl x5, .inl 0, .inl 720] [] (t_X10_in l g S _   x5 0 720) msX10_in (Or.inl tb_1083) ⟨Nat.le_of_ble_eq_true rfl, Nat.le_of_ble_eq_true rfl⟩ (Nat.zero_le _) (Nat.zero_le _) rfl rfl (Nat.le_of_ble_eq_true rfl) rfl (dX10_asks 24 rfl) ?_
          refine R_if_eq (tgt := 56) (dX10_asks 25 rfl) (by decide) (fun hc => ?_) (fun hc => ?_)
          · have H := ite_T H hc
            refine R_iconst (dX10_asks 28 rfl) rfl ?_
            refine R_istore (i := 6) (ls' := [some (.inr (.inr (some (ad 38)))), some (.inl x1), some (.inl x2), some (.inl x3), some (.inl x4), some (.inl x5), some (.inl 0)]) (dX10_asks 29 rfl) (Nat.le_of_ble_eq_true rfl) (Nat.le_of_ble_eq_true rfl) rfl rfl ?_
            refine R_iload (i := 6) (dX10_asks 30 rfl) rfl ?_
            refine R_if_eq (tgt := 78) (dX10_asks 31 rfl) (by decide) (fun _ => ?_) (fun hc => absurd hc (by decide))
            refine R_bipush (dX10_asks 40 rfl) rfl rfl ?_
            exact R_iret rfl rfl (Nat.zero_le _) (Nat.zero_le _) (dX10_asks 41 rfl) ⟨congrArg (fun z => some (Sum.inl z)) (Prod.mk.inj (Option.some.inj H)).1, rfl, (Prod.mk.inj (Option.some.inj H)).2⟩
          · have H := ite_F H hc
            refine R_iconst (dX10_asks 26 rfl) rfl ?_
            refine R_goto (tgt := 57) (dX10_asks 27 rfl) (by decide) ?_
            refine R_istore (i := 6) (ls' := [some (.inr (.inr (some (ad 38)))), some (.inl x1), some (.inl x2), some (.inl x3), some (.inl x4), some (.inl x5), some (.inl 1)]) (dX10_asks 29 rfl) (Nat.le_of_ble_eq_true rfl) (Nat.le_of_ble_eq_true rfl) rfl rfl ?_
            refine R_iload (i := 6) (dX10_asks 30 rfl) rfl ?_
            refine R_if_eq (tgt := 78) (dX10_asks 31 rfl) (by decide) (fun hc => absurd hc (by decide)) (fun _ => ?_)
            refine R_aload_n (i := 0) (dX10_asks 32 rfl) rfl rfl ?_
            refine R_iload_n (i := 1) (dX10_asks 33 rfl) rfl rfl ?_
            refine R_iload_n (i := 2) (dX10_asks 34 rfl) rfl rfl ?_
            refine R_iload_n (i := 3) (dX10_asks 35 rfl) rfl rfl ?_
            refine R_iload (i := 4) (dX10_asks 36 rfl) rfl ?_
            refine R_iload (i := 5) (dX10_asks 37 rfl) rfl ?_
            obtain ⟨r394, M395, hr, H⟩ := ob_E H
            refine R_cV (st' := [.inl r394]) [.inl x1, .inl x2, .inl x3, .inl x4, .inl x5] [] (t_X10_asksOf l g ad S _ hS   x1 x2 x3 x4 x5 hr) msX10_asksOf (Or.inl tb_1324) (Or.inl ⟨38, 10, _, _, _, (cl38 hS), rfl⟩) ⟨Nat.le_of_ble_eq_true rfl, Nat.le_of_ble_eq_true rfl⟩ (Nat.zero_le _) (Nat.zero_le _) rfl rfl (Nat.le_of_ble_eq_true rfl) rfl (dX10_asks 38 rfl) ?_
            refine R_goto (tgt := 80) (dX10_asks 39 rfl) (by decide) ?_
            exact R_iret rfl rfl (Nat.zero_le _) (Nat.zero_le _) (dX10_asks 41 rfl) ⟨congrArg (fun z => some (Sum.inl z)) (Prod.mk.inj (Option.some.inj H)).1, rfl, (Prod.mk.inj (Option.some.inj H)).2⟩
  · have H := ite_T H hc
    refine R_bipush (dX10_asks 4 rfl) rfl rfl ?_
    exact R_iret rfl rfl (Nat.zero_le _) (Nat.zero_le _) (dX10_asks 5 rfl) ⟨congrArg (fun z => some (Sum.inl z)) (Prod.mk.inj (Option.some.inj H)).1, rfl, (Prod.mk.inj (Option.some.inj H)).2⟩
def f_X10_isFact (x1 : Int) (x2 : Int) (x3 : Int) (x4 : Int) (M : Mem) : Int :=
  if f_X10_in x1 0 5 = 0 then
    0
  else
    if f_X10_isLine x2 M = 0 then
      0
    else
      if f_X10_in x3 0 63 = 0 then
        0
      else
        if f_X10_in x4 0 9 = 0 then
          0
        else
          if x1 = 4 then
            if f_X10_isLine x4 M = 0 then
              0
            else
              1
          else
            1
set_option maxHeartbeats 4000000 in
theorem t_X10_isFact (l : Launch) (g : GG) (ad : Nat → Nat) (S : SW) (M : Mem) (hS : q_ag 38 63 ad S) (x1 : Int) (x2 : Int) (x3 : Int) (x4 : Int) : CT l g MX10_isFact 3 0 0 S M [.inr (.inr (some (ad 38))), .inl x1, .inl x2, .inl x3, .inl x4] (q_ex S (some (.inl (f_X10_isFact x1 x2 x3 x4 M))) M) := by
  obtain ⟨r, H⟩ : ∃ r, f_X10_isFact x1 x2 x3 x4 M = r := ⟨_, rfl⟩
  rw [H]
  unfold f_X10_isFact at H
  refine CT_of (ls0 := [some (.inr (.inr (some (ad 38)))), some (.inl x1), some (.inl x2), some (.inl x3), some (.inl x4)]) (by decide +kernel) (Nat.le_of_ble_eq_true rfl) rfl ?_
  refine R_iload_n (i := 1) (dX10_isFact 0 rfl) rfl rfl ?_
  refine R_iconst (dX10_isFact 1 rfl) rfl ?_
  refine R_iconst (dX10_isFact 2 rfl) rfl ?_
  refine R_cS (st' := [.inl (f_X10_in x1 0 5)]) [.inl x1, .inl 0, .inl 5] [] (t_X10_in l g S _   x1 0 5) msX10_in (Or.inl tb_1083) ⟨Nat.le_of_ble_eq_true rfl, Nat.le_of_ble_eq_true rfl⟩ (Nat.zero_le _) (Nat.zero_le _) rfl rfl (Nat.le_of_ble_eq_true rfl) rfl (dX10_isFact 3 rfl) ?_
  refine R_if_eq (tgt := 56) (dX10_isFact 4 rfl) (by decide) (fun hc => ?_) (fun hc => ?_)
  · have H := ite_T H hc
    refine R_iconst (dX10_isFact 28 rfl) rfl ?_
    exact R_iret rfl (by decide +kernel) (Nat.zero_le _) (Nat.zero_le _) (dX10_isFact 29 rfl) ⟨congrArg (fun z => some (Sum.inl z)) H, rfl, rfl⟩
  · have H := ite_F H hc
    refine R_aload_n (i := 0) (dX10_isFact 5 rfl) rfl rfl ?_
    refine R_iload_n (i := 2) (dX10_isFact 6 rfl) rfl rfl ?_
    refine R_cV (st' := [.inl (f_X10_isLine x2 M)]) [.inl x2] [] (t_X10_isLine l g ad S _ hS   x2) msX10_isLine (Or.inl tb_1280) (Or.inl ⟨38, 10, _, _, _, (cl38 hS), rfl⟩) ⟨Nat.le_of_ble_eq_true rfl, Nat.le_of_ble_eq_true rfl⟩ (Nat.zero_le _) (Nat.zero_le _) rfl rfl (Nat.le_of_ble_eq_true rfl) rfl (dX10_isFact 7 rfl) ?_
    refine R_if_eq (tgt := 56) (dX10_isFact 8 rfl) (by decide) (fun hc => ?_) (fun hc => ?_)
    · have H := ite_T H hc
      refine R_iconst (dX10_isFact 28 rfl) rfl ?_
      exact R_iret rfl (by decide +kernel) (Nat.zero_le _) (Nat.zero_le _) (dX10_isFact 29 rfl) ⟨congrArg (fun z => some (Sum.inl z)) H, rfl, rfl⟩
    · have H := ite_F H hc
      refine R_iload_n (i := 3) (dX10_isFact 9 rfl) rfl rfl ?_
      refine R_iconst (dX10_isFact 10 rfl) rfl ?_
      refine R_bipush (dX10_isFact 11 rfl) rfl rfl ?_
      refine R_cS (st' := [.inl (f_X10_in x3 0 63)]) [.inl x3, .inl 0, .inl 63] [] (t_X10_in l g S _   x3 0 63) msX10_in (Or.inl tb_1083) ⟨Nat.le_of_ble_eq_true rfl, Nat.le_of_ble_eq_true rfl⟩ (Nat.zero_le _) (Nat.zero_le _) rfl rfl (Nat.le_of_ble_eq_true rfl) rfl (dX10_isFact 12 rfl) ?_
      refine R_if_eq (tgt := 56) (dX10_isFact 13 rfl) (by decide) (fun hc => ?_) (fun hc => ?_)
      · have H := ite_T H hc
        refine R_iconst (dX10_isFact 28 rfl) rfl ?_
        exact R_iret rfl (by decide +kernel) (Nat.zero_le _) (Nat.zero_le _) (dX10_isFact 29 rfl) ⟨congrArg (fun z => some (Sum.inl z)) H, rfl, rfl⟩
      · have H := ite_F H hc
        refine R_iload (i := 4) (dX10_isFact 14 rfl) rfl ?_
        refine R_iconst (dX10_isFact 15 rfl) rfl ?_
        refine R_bipush (dX10_isFact 16 rfl) rfl rfl ?_
        refine R_cS (st' := [.inl (f_X10_in x4 0 9)]) [.inl x4, .inl 0, .inl 9] [] (t_X10_in l g S _   x4 0 9) msX10_in (Or.inl tb_1083) ⟨Nat.le_of_ble_eq_true rfl, Nat.le_of_ble_eq_true rfl⟩ (Nat.zero_le _) (Nat.zero_le _) rfl rfl (Nat.le_of_ble_eq_true rfl) rfl (dX10_isFact 17 rfl) ?_
        refine R_if_eq (tgt := 56) (dX10_isFact 18 rfl) (by decide) (fun hc => ?_) (fun hc => ?_)
        · have H := ite_T H hc
          refine R_iconst (dX10_isFact 28 rfl) rfl ?_
          exact R_iret rfl (by decide +kernel) (Nat.zero_le _) (Nat.zero_le _) (dX10_isFact 29 rfl) ⟨congrArg (fun z => some (Sum.inl z)) H, rfl, rfl⟩
        · have H := ite_F H hc
          refine R_iload_n (i := 1) (dX10_isFact 19 rfl) rfl rfl ?_
          refine R_iconst (dX10_isFact 20 rfl) rfl ?_
          refine R_icmp_ne (tgt := 52) (dX10_isFact 21 rfl) (by decide) (fun hc => ?_) (fun hc => ?_)
          · have H := ite_F H hc
            refine R_iconst (dX10_isFact 26 rfl) rfl ?_
            refine R_goto (tgt := 57) (dX10_isFact 27 rfl) (by decide) ?_
            exact R_iret rfl (by decide +kernel) (Nat.zero_le _) (Nat.zero_le _) (dX10_isFact 29 rfl) ⟨congrArg (fun z => some (Sum.inl z)) H, rfl, rfl⟩
          · have H := ite_T H hc
            refine R_aload_n (i := 0) (dX10_isFact 22 rfl) rfl rfl ?_
            refine R_iload (i := 4) (dX10_isFact 23 rfl) rfl ?_
            refine R_cV (st' := [.inl (f_X10_isLine x4 M)]) [.inl x4] [] (t_X10_isLine l g ad S _ hS   x4) msX10_isLine (Or.inl tb_1280) (Or.inl ⟨38, 10, _, _, _, (cl38 hS), rfl⟩) ⟨Nat.le_of_ble_eq_true rfl, Nat.le_of_ble_eq_true rfl⟩ (Nat.zero_le _) (Nat.zero_le _) rfl rfl (Nat.le_of_ble_eq_true rfl) rfl (dX10_isFact 24 rfl) ?_
            refine R_if_eq (tgt := 56) (dX10_isFact 25 rfl) (by decide) (fun hc => ?_) (fun hc => ?_)
            · have H := ite_T H hc
              refine R_iconst (dX10_isFact 28 rfl) rfl ?_
              exact R_iret rfl (by decide +kernel) (Nat.zero_le _) (Nat.zero_le _) (dX10_isFact 29 rfl) ⟨congrArg (fun z => some (Sum.inl z)) H, rfl, rfl⟩
            · have H := ite_F H hc
              refine R_iconst (dX10_isFact 26 rfl) rfl ?_
              refine R_goto (tgt := 57) (dX10_isFact 27 rfl) (by decide) ?_
              exact R_iret rfl (by decide +kernel) (Nat.zero_le _) (Nat.zero_le _) (dX10_isFact 29 rfl) ⟨congrArg (fun z => some (Sum.inl z)) H, rfl, rfl⟩
theorem z_X10_isFact (x1 : Int) (x2 : Int) (x3 : Int) (x4 : Int) (M : Mem) : f_X10_isFact x1 x2 x3 x4 M = 0 ∨ f_X10_isFact x1 x2 x3 x4 M = 1 := by
  unfold f_X10_isFact
  (repeat' split) <;> first | exact Or.inl rfl | exact Or.inr rfl | exact z_X10_in .. | exact z_X10_isLine ..
def f_X10_lays (x1 : Int) (x2 : Int) (x3 : Int) (x4 : Int) (M : Mem) : Option (Int × Mem) :=
  if 0 ≤ w32 (4 * (M 38 6)) ∧ w32 (4 * (M 38 6)) < 52 then
    if 0 ≤ w32 ((w32 (4 * ((mset M 42 (w32 (4 * (M 38 6))).toNat x1) 38 6))) + 1) ∧ w32 ((w32 (4 * ((mset M 42 (w32 (4 * (M 38 6))).toNat x1) 38 6))) + 1) < 52 then
      if 0 ≤ w32 ((w32 (4 * ((mset (mset M 42 (w32 (4 * (M 38 6))).toNat x1) 42 (w32 ((w32 (4 * ((mset M 42 (w32 (4 * (M 38 6))).toNat x1) 38 6))) + 1)).toNat x2) 38 6))) + 2) ∧ w32 ((w32 (4 * ((mset (mset M 42 (w32 (4 * (M 38 6))).toNat x1) 42 (w32 ((w32 (4 * ((mset M 42 (w32 (4 * (M 38 6))).toNat x1) 38 6))) + 1)).toNat x2) 38 6))) + 2) < 52 then
        if 0 ≤ w32 ((w32 (4 * ((mset (mset (mset M 42 (w32 (4 * (M 38 6))).toNat x1) 42 (w32 ((w32 (4 * ((mset M 42 (w32 (4 * (M 38 6))).toNat x1) 38 6))) + 1)).toNat x2) 42 (w32 ((w32 (4 * ((mset (mset M 42 (w32 (4 * (M 38 6))).toNat x1) 42 (w32 ((w32 (4 * ((mset M 42 (w32 (4 * (M 38 6))).toNat x1) 38 6))) + 1)).toNat x2) 38 6))) + 2)).toNat x3) 38 6))) + 3) ∧ w32 ((w32 (4 * ((mset (mset (mset M 42 (w32 (4 * (M 38 6))).toNat x1) 42 (w32 ((w32 (4 * ((mset M 42 (w32 (4 * (M 38 6))).toNat x1) 38 6))) + 1)).toNat x2) 42 (w32 ((w32 (4 * ((mset (mset M 42 (w32 (4 * (M 38 6))).toNat x1) 42 (w32 ((w32 (4 * ((mset M 42 (w32 (4 * (M 38 6))).toNat x1) 38 6))) + 1)).toNat x2) 38 6))) + 2)).toNat x3) 38 6))) + 3) < 52 then
          some (0, (mset (mset (mset (mset M 42 (w32 (4 * (M 38 6))).toNat x1) 42 (w32 ((w32 (4 * ((mset M 42 (w32 (4 * (M 38 6))).toNat x1) 38 6))) + 1)).toNat x2) 42 (w32 ((w32 (4 * ((mset (mset M 42 (w32 (4 * (M 38 6))).toNat x1) 42 (w32 ((w32 (4 * ((mset M 42 (w32 (4 * (M 38 6))).toNat x1) 38 6))) + 1)).toNat x2) 38 6))) + 2)).toNat x3) 42 (w32 ((w32 (4 * ((mset (mset (mset M 42 (w32 (4 * (M 38 6))).toNat x1) 42 (w32 ((w32 (4 * ((mset M 42 (w32 (4 * (M 38 6))).toNat x1) 38 6))) + 1)).toNat x2) 42 (w32 ((w32 (4 * ((mset (mset M 42 (w32 (4 * (M 38 6))).toNat x1) 42 (w32 ((w32 (4 * ((mset M 42 (w32 (4 * (M 38 6))).toNat x1) 38 6))) + 1)).toNat x2) 38 6))) + 2)).toNat x3) 38 6))) + 3)).toNat x4))
        else none
      else none
    else none
  else none
set_option maxHeartbeats 4000000 in
theorem t_X10_lays (l : Launch) (g : GG) (ad : Nat → Nat) (S : SW) (M : Mem) (hS : q_ag 38 63 ad S) (x1 : Int) (x2 : Int) (x3 : Int) (x4 : Int) {r : Int} {M' : Mem} (H : f_X10_lays x1 x2 x3 x4 M = some (r, M')) : CT l g MX10_lays 1 0 0 S M [.inr (.inr (some (ad 38))), .inl x1, .inl x2, .inl x3, .inl x4] (q_ex S none M') := by
  unfold f_X10_lays at H
  refine CT_of (ls0 := [some (.inr (.inr (some (ad 38)))), some (.inl x1), some (.inl x2), some (.inl x3), some (.inl x4)]) (by decide +kernel) (Nat.le_of_ble_eq_true rfl) rfl ?_
  refine R_aload_n (i := 0) (dX10_lays 0 rfl) rfl rfl ?_
  refine R_getR cgX10 38 (cl38 hS) 7 (Nat.le_of_ble_eq_true rfl) rfl (Or.inl tb_1134) (dX10_lays 1 rfl) ?_
  refine R_iconst (dX10_lays 2 rfl) rfl ?_
  refine R_aload_n (i := 0) (dX10_lays 3 rfl) rfl rfl ?_
  refine R_getI cgX10 38 (cl38 hS) 6 (Nat.le_of_ble_eq_true rfl) rfl (Or.inl tb_1133) (dX10_lays 4 rfl) ?_
  refine R_imul (dX10_lays 5 rfl) ?_
  refine R_iload_n (i := 1) (dX10_lays 6 rfl) rfl rfl ?_
  obtain ⟨hg, H⟩ := ite_G H
  refine R_iast 42 (cl42 hS) hg (dX10_lays 7 rfl) ?_
  refine R_aload_n (i := 0) (dX10_lays 8 rfl) rfl rfl ?_
  refine R_getR cgX10 38 (cl38 hS) 7 (Nat.le_of_ble_eq_true rfl) rfl (Or.inl tb_1134) (dX10_lays 9 rfl) ?_
  refine R_iconst (dX10_lays 10 rfl) rfl ?_
  refine R_aload_n (i := 0) (dX10_lays 11 rfl) rfl rfl ?_
  refine R_getI cgX10 38 (cl38 hS) 6 (Nat.le_of_ble_eq_true rfl) rfl (Or.inl tb_1133) (dX10_lays 12 rfl) ?_
  refine R_imul (dX10_lays 13 rfl) ?_
  refine R_iconst (dX10_lays 14 rfl) rfl ?_
  refine R_iadd (dX10_lays 15 rfl) ?_
  refine R_iload_n (i := 2) (dX10_lays 16 rfl) rfl rfl ?_
  obtain ⟨hg, H⟩ := ite_G H
  refine R_iast 42 (cl42 hS) hg (dX10_lays 17 rfl) ?_
  refine R_aload_n (i := 0) (dX10_lays 18 rfl) rfl rfl ?_
  refine R_getR cgX10 38 (cl38 hS) 7 (Nat.le_of_ble_eq_true rfl) rfl (Or.inl tb_1134) (dX10_lays 19 rfl) ?_
  refine R_iconst (dX10_lays 20 rfl) rfl ?_
  refine R_aload_n (i := 0) (dX10_lays 21 rfl) rfl rfl ?_
  refine R_getI cgX10 38 (cl38 hS) 6 (Nat.le_of_ble_eq_true rfl) rfl (Or.inl tb_1133) (dX10_lays 22 rfl) ?_
  refine R_imul (dX10_lays 23 rfl) ?_
  refine R_iconst (dX10_lays 24 rfl) rfl ?_
  refine R_iadd (dX10_lays 25 rfl) ?_
  refine R_iload_n (i := 3) (dX10_lays 26 rfl) rfl rfl ?_
  obtain ⟨hg, H⟩ := ite_G H
  refine R_iast 42 (cl42 hS) hg (dX10_lays 27 rfl) ?_
  refine R_aload_n (i := 0) (dX10_lays 28 rfl) rfl rfl ?_
  refine R_getR cgX10 38 (cl38 hS) 7 (Nat.le_of_ble_eq_true rfl) rfl (Or.inl tb_1134) (dX10_lays 29 rfl) ?_
  refine R_iconst (dX10_lays 30 rfl) rfl ?_
  refine R_aload_n (i := 0) (dX10_lays 31 rfl) rfl rfl ?_
  refine R_getI cgX10 38 (cl38 hS) 6 (Nat.le_of_ble_eq_true rfl) rfl (Or.inl tb_1133) (dX10_lays 32 rfl) ?_
  refine R_imul (dX10_lays 33 rfl) ?_
  refine R_iconst (dX10_lays 34 rfl) rfl ?_
  refine R_iadd (dX10_lays 35 rfl) ?_
  refine R_iload (i := 4) (dX10_lays 36 rfl) rfl ?_
  obtain ⟨hg, H⟩ := ite_G H
  refine R_iast 42 (cl42 hS) hg (dX10_lays 37 rfl) ?_
  exact R_vret rfl (Nat.zero_le _) (Nat.zero_le _) (dX10_lays 38 rfl) ⟨rfl, rfl, (Prod.mk.inj (Option.some.inj H)).2⟩
def f_X10_know (x1 : Int) (x2 : Int) (x3 : Int) (x4 : Int) (M : Mem) : Option (Int × Mem) :=
  if f_X10_isFact x1 x2 x3 x4 M = 0 then
    some ((-2), M)
  else
    if M 38 6 = 12 then
      some ((-4), M)
    else
      ob (f_X10_lays x1 x2 x3 x4 M) fun r396 M397 =>
      some (w32 (((mset M397 38 6 (w32 ((M397 38 6) + 1))) 38 6) - 1), (mset M397 38 6 (w32 ((M397 38 6) + 1))))
set_option maxHeartbeats 4000000 in
theorem t_X10_know (l : Launch) (g : GG) (ad : Nat → Nat) (S : SW) (M : Mem) (hS : q_ag 38 63 ad S) (x1 : Int) (x2 : Int) (x3 : Int) (x4 : Int) {r : Int} {M' : Mem} (H : f_X10_know x1 x2 x3 x4 M = some (r, M')) : CT l g MX10_know 4 0 0 S M [.inr (.inr (some (ad 38))), .inl x1, .inl x2, .inl x3, .inl x4] (q_ex S (some (.inl r)) M') := by
  unfold f_X10_know at H
  refine CT_of (ls0 := [some (.inr (.inr (some (ad 38)))), some (.inl x1), some (.inl x2), some (.inl x3), some (.inl x4)]) (by decide +kernel) (Nat.le_of_ble_eq_true rfl) rfl ?_
  refine R_aload_n (i := 0) (dX10_know 0 rfl) rfl rfl ?_
  refine R_iload_n (i := 1) (dX10_know 1 rfl) rfl rfl ?_
  refine R_iload_n (i := 2) (dX10_know 2 rfl) rfl rfl ?_
  refine R_iload_n (i := 3) (dX10_know 3 rfl) rfl rfl ?_
  refine R_iload (i := 4) (dX10_know 4 rfl) rfl ?_
  refine R_cV (st' := [.inl (f_X10_isFact x1 x2 x3 x4 M)]) [.inl x1, .inl x2, .inl x3, .inl x4] [] (t_X10_isFact l g ad S _ hS   x1 x2 x3 x4) msX10_isFact (Or.inl tb_1342) (Or.inl ⟨38, 10, _, _, _, (cl38 hS), rfl⟩) ⟨Nat.le_of_ble_eq_true rfl, Nat.le_of_ble_eq_true rfl⟩ (Nat.zero_le _) (Nat.zero_le _) rfl rfl (Nat.le_of_ble_eq_true rfl) rfl (dX10_know 5 rfl) ?_
  refine R_if_ne (tgt := 15) (dX10_know 6 rfl) (by decide) (fun hc => ?_) (fun hc => ?_)
  · have H := ite_F H hc
    refine R_aload_n (i := 0) (dX10_know 9 rfl) rfl rfl ?_
    refine R_getI cgX10 38 (cl38 hS) 6 (Nat.le_of_ble_eq_true rfl) rfl (Or.inl tb_1133) (dX10_know 10 rfl) ?_
    refine R_bipush (dX10_know 11 rfl) rfl rfl ?_
    refine R_icmp_ne (tgt := 27) (dX10_know 12 rfl) (by decide) (fun hc => ?_) (fun hc => ?_)
    · have H := ite_F H hc
      refine R_aload_n (i := 0) (dX10_know 15 rfl) rfl rfl ?_
      refine R_iload_n (i := 1) (dX10_know 16 rfl) rfl rfl ?_
      refine R_iload_n (i := 2) (dX10_know 17 rfl) rfl rfl ?_
      refine R_iload_n (i := 3) (dX10_know 18 rfl) rfl rfl ?_
      refine R_iload (i := 4) (dX10_know 19 rfl) rfl ?_
      obtain ⟨r396, M397, hr, H⟩ := ob_E H
      refine R_cV (st' := []) [.inl x1, .inl x2, .inl x3, .inl x4] [] (t_X10_lays l g ad S _ hS   x1 x2 x3 x4 hr) msX10_lays (Or.inl tb_1346) (Or.inl ⟨38, 10, _, _, _, (cl38 hS), rfl⟩) ⟨Nat.le_of_ble_eq_true rfl, Nat.le_of_ble_eq_true rfl⟩ (Nat.zero_le _) (Nat.zero_le _) rfl rfl (Nat.le_of_ble_eq_true rfl) rfl (dX10_know 20 rfl) ?_
      refine R_aload_n (i := 0) (dX10_know 21 rfl) rfl rfl ?_
      refine R_dup rfl (dX10_know 22 rfl) ?_
      refine R_getI cgX10 38 (cl38 hS) 6 (Nat.le_of_ble_eq_true rfl) rfl (Or.inl tb_1133) (dX10_know 23 rfl) ?_
      refine R_iconst (dX10_know 24 rfl) rfl ?_
      refine R_iadd (dX10_know 25 rfl) ?_
      refine R_putI cgX10 38 (cl38 hS) 6 (Nat.le_of_ble_eq_true rfl) rfl rfl rfl rfl (Or.inl tb_1133) (dX10_know 26 rfl) ?_
      refine R_aload_n (i := 0) (dX10_know 27 rfl) rfl rfl ?_
      refine R_getI cgX10 38 (cl38 hS) 6 (Nat.le_of_ble_eq_true rfl) rfl (Or.inl tb_1133) (dX10_know 28 rfl) ?_
      refine R_iconst (dX10_know 29 rfl) rfl ?_
      refine R_isub (dX10_know 30 rfl) ?_
      exact R_iret rfl rfl (Nat.zero_le _) (Nat.zero_le _) (dX10_know 31 rfl) ⟨congrArg (fun z => some (Sum.inl z)) (Prod.mk.inj (Option.some.inj H)).1, rfl, (Prod.mk.inj (Option.some.inj H)).2⟩
    · have H := ite_T H hc
      refine R_bipush (dX10_know 13 rfl) rfl rfl ?_
      exact R_iret rfl rfl (Nat.zero_le _) (Nat.zero_le _) (dX10_know 14 rfl) ⟨congrArg (fun z => some (Sum.inl z)) (Prod.mk.inj (Option.some.inj H)).1, rfl, (Prod.mk.inj (Option.some.inj H)).2⟩
  · have H := ite_T H hc
    refine R_bipush (dX10_know 7 rfl) rfl rfl ?_
    exact R_iret rfl rfl (Nat.zero_le _) (Nat.zero_le _) (dX10_know 8 rfl) ⟨congrArg (fun z => some (Sum.inl z)) (Prod.mk.inj (Option.some.inj H)).1, rfl, (Prod.mk.inj (Option.some.inj H)).2⟩
def f_X10_forget (M : Mem) : Option (Int × Mem) :=
  if M 38 6 = 0 then
    some ((-3), M)
  else
    if (mset M 38 6 (w32 ((M 38 6) - 1))) 38 15 = 0 then
      some ((mset (mset M 38 6 (w32 ((M 38 6) - 1))) 38 15 0) 38 6, (mset (mset M 38 6 (w32 ((M 38 6) - 1))) 38 15 0))
    else
      if (mset M 38 6 (w32 ((M 38 6) - 1))) 38 6 < (mset M 38 6 (w32 ((M 38 6) - 1))) 38 18 then
        some ((mset (mset M 38 6 (w32 ((M 38 6) - 1))) 38 15 0) 38 6, (mset (mset M 38 6 (w32 ((M 38 6) - 1))) 38 15 0))
      else
        some ((mset (mset M 38 6 (w32 ((M 38 6) - 1))) 38 15 1) 38 6, (mset (mset M 38 6 (w32 ((M 38 6) - 1))) 38 15 1))
set_option maxHeartbeats 4000000 in
theorem t_X10_forget (l : Launch) (g : GG) (ad : Nat → Nat) (S : SW) (M : Mem) (hS : q_ag 38 63 ad S) {r : Int} {M' : Mem} (H : f_X10_forget M = some (r, M')) : CT l g MX10_forget 1 0 0 S M [.inr (.inr (some (ad 38)))] (q_ex S (some (.inl r)) M') := by
  unfold f_X10_forget at H
  refine CT_of (ls0 := [some (.inr (.inr (some (ad 38))))]) (by decide +kernel) (Nat.le_of_ble_eq_true rfl) rfl ?_
  refine R_aload_n (i := 0) (dX10_forget 0 rfl) rfl rfl ?_
  refine R_getI cgX10 38 (cl38 hS) 6 (Nat.le_of_ble_eq_true rfl) rfl (Or.inl tb_1133) (dX10_forget 1 rfl) ?_
  refine R_if_ne (tgt := 10) (dX10_forget 2 rfl) (by decide) (fun hc => ?_) (fun hc => ?_)
  · have H := ite_F H hc
    refine R_aload_n (i := 0) (dX10_forget 5 rfl) rfl rfl ?_
    refine R_dup rfl (dX10_forget 6 rfl) ?_
    refine R_getI cgX10 38 (cl38 hS) 6 (Nat.le_of_ble_eq_true rfl) rfl (Or.inl tb_1133) (dX10_forget 7 rfl) ?_
    refine R_iconst (dX10_forget 8 rfl) rfl ?_
    refine R_isub (dX10_forget 9 rfl) ?_
    refine R_putI cgX10 38 (cl38 hS) 6 (Nat.le_of_ble_eq_true rfl) rfl rfl rfl rfl (Or.inl tb_1133) (dX10_forget 10 rfl) ?_
    refine R_aload_n (i := 0) (dX10_forget 11 rfl) rfl rfl ?_
    refine R_aload_n (i := 0) (dX10_forget 12 rfl) rfl rfl ?_
    refine R_getI cgX10 38 (cl38 hS) 15 (Nat.le_of_ble_eq_true rfl) rfl (Or.inl tb_1142) (dX10_forget 13 rfl) ?_
    refine R_if_eq (tgt := 43) (dX10_forget 14 rfl) (by decide) (fun hc => ?_) (fun hc => ?_)
    · have H := ite_T H hc
      refine R_iconst (dX10_forget 22 rfl) rfl ?_
      refine R_putI cgX10 38 (cl38 hS) 15 (Nat.le_of_ble_eq_true rfl) rfl (by decide +kernel) (by decide +kernel) rfl (Or.inl tb_1142) (dX10_forget 23 rfl) ?_
      refine R_aload_n (i := 0) (dX10_forget 24 rfl) rfl rfl ?_
      refine R_getI cgX10 38 (cl38 hS) 6 (Nat.le_of_ble_eq_true rfl) rfl (Or.inl tb_1133) (dX10_forget 25 rfl) ?_
      exact R_iret rfl rfl (Nat.zero_le _) (Nat.zero_le _) (dX10_forget 26 rfl) ⟨congrArg (fun z => some (Sum.inl z)) (Prod.mk.inj (Option.some.inj H)).1, rfl, (Prod.mk.inj (Option.some.inj H)).2⟩
    · have H := ite_F H hc
      refine R_aload_n (i := 0) (dX10_forget 15 rfl) rfl rfl ?_
      refine R_getI cgX10 38 (cl38 hS) 18 (Nat.le_of_ble_eq_true rfl) rfl (Or.inl tb_1145) (dX10_forget 16 rfl) ?_
      refine R_aload_n (i := 0) (dX10_forget 17 rfl) rfl rfl ?_
      refine R_getI cgX10 38 (cl38 hS) 6 (Nat.le_of_ble_eq_true rfl) rfl (Or.inl tb_1133) (dX10_forget 18 rfl) ?_
      refine R_icmp_gt (tgt := 43) (dX10_forget 19 rfl) (by decide) (fun hc => ?_) (fun hc => ?_)
      · have H := ite_T H hc
        refine R_iconst (dX10_forget 22 rfl) rfl ?_
        refine R_putI cgX10 38 (cl38 hS) 15 (Nat.le_of_ble_eq_true rfl) rfl (by decide +kernel) (by decide +kernel) rfl (Or.inl tb_1142) (dX10_forget 23 rfl) ?_
        refine R_aload_n (i := 0) (dX10_forget 24 rfl) rfl rfl ?_
        refine R_getI cgX10 38 (cl38 hS) 6 (Nat.le_of_ble_eq_true rfl) rfl (Or.inl tb_1133) (dX10_forget 25 rfl) ?_
        exact R_iret rfl rfl (Nat.zero_le _) (Nat.zero_le _) (dX10_forget 26 rfl) ⟨congrArg (fun z => some (Sum.inl z)) (Prod.mk.inj (Option.some.inj H)).1, rfl, (Prod.mk.inj (Option.some.inj H)).2⟩
      · have H := ite_F H hc
        refine R_iconst (dX10_forget 20 rfl) rfl ?_
        refine R_goto (tgt := 44) (dX10_forget 21 rfl) (by decide) ?_
        refine R_putI cgX10 38 (cl38 hS) 15 (Nat.le_of_ble_eq_true rfl) rfl (by decide +kernel) (by decide +kernel) rfl (Or.inl tb_1142) (dX10_forget 23 rfl) ?_
        refine R_aload_n (i := 0) (dX10_forget 24 rfl) rfl rfl ?_
        refine R_getI cgX10 38 (cl38 hS) 6 (Nat.le_of_ble_eq_true rfl) rfl (Or.inl tb_1133) (dX10_forget 25 rfl) ?_
        exact R_iret rfl rfl (Nat.zero_le _) (Nat.zero_le _) (dX10_forget 26 rfl) ⟨congrArg (fun z => some (Sum.inl z)) (Prod.mk.inj (Option.some.inj H)).1, rfl, (Prod.mk.inj (Option.some.inj H)).2⟩
  · have H := ite_T H hc
    refine R_bipush (dX10_forget 3 rfl) rfl rfl ?_
    exact R_iret rfl rfl (Nat.zero_le _) (Nat.zero_le _) (dX10_forget 4 rfl) ⟨congrArg (fun z => some (Sum.inl z)) (Prod.mk.inj (Option.some.inj H)).1, rfl, (Prod.mk.inj (Option.some.inj H)).2⟩
def f_X10_factTold (x1 : Int) (x2 : Int) (M : Mem) : Option Int :=
  if f_X10_in x1 0 (w32 ((M 38 6) - 1)) = 0 then
    some (-5)
  else
    if f_X10_in x2 0 3 = 0 then
      some (-7)
    else
      if 0 ≤ w32 ((w32 (4 * x1)) + x2) ∧ w32 ((w32 (4 * x1)) + x2) < 52 then
        some (M 42 (w32 ((w32 (4 * x1)) + x2)).toNat)
      else none
set_option maxHeartbeats 4000000 in
theorem t_X10_factTold (l : Launch) (g : GG) (ad : Nat → Nat) (S : SW) (M : Mem) (hS : q_ag 38 63 ad S) (x1 : Int) (x2 : Int) {r : Int} (H : f_X10_factTold x1 x2 M = some r) : CT l g MX10_factTold 2 0 0 S M [.inr (.inr (some (ad 38))), .inl x1, .inl x2] (q_ex S (some (.inl r)) M) := by
  unfold f_X10_factTold at H
  refine CT_of (ls0 := [some (.inr (.inr (some (ad 38)))), some (.inl x1), some (.inl x2)]) (by decide +kernel) (Nat.le_of_ble_eq_true rfl) rfl ?_
  refine R_iload_n (i := 1) (dX10_factTold 0 rfl) rfl rfl ?_
  refine R_iconst (dX10_factTold 1 rfl) rfl ?_
  refine R_aload_n (i := 0) (dX10_factTold 2 rfl) rfl rfl ?_
  refine R_getI cgX10 38 (cl38 hS) 6 (Nat.le_of_ble_eq_true rfl) rfl (Or.inl tb_1133) (dX10_factTold 3 rfl) ?_
  refine R_iconst (dX10_factTold 4 rfl) rfl ?_
  refine R_isub (dX10_factTold 5 rfl) ?_
  refine R_cS (st' := [.inl (f_X10_in x1 0 (w32 ((M 38 6) - 1)))]) [.inl x1, .inl 0, .inl (w32 ((M 38 6) - 1))] [] (t_X10_in l g S _   x1 0 (w32 ((M 38 6) - 1))) msX10_in (Or.inl tb_1083) ⟨Nat.le_of_ble_eq_true rfl, Nat.le_of_ble_eq_true rfl⟩ (Nat.zero_le _) (Nat.zero_le _) rfl rfl (Nat.le_of_ble_eq_true rfl) rfl (dX10_factTold 6 rfl) ?_
  refine R_if_ne (tgt := 19) (dX10_factTold 7 rfl) (by decide) (fun hc => ?_) (fun hc => ?_)
  · have H := ite_F H hc
    refine R_iload_n (i := 2) (dX10_factTold 10 rfl) rfl rfl ?_
    refine R_iconst (dX10_factTold 11 rfl) rfl ?_
    refine R_iconst (dX10_factTold 12 rfl) rfl ?_
    refine R_cS (st' := [.inl (f_X10_in x2 0 3)]) [.inl x2, .inl 0, .inl 3] [] (t_X10_in l g S _   x2 0 3) msX10_in (Or.inl tb_1083) ⟨Nat.le_of_ble_eq_true rfl, Nat.le_of_ble_eq_true rfl⟩ (Nat.zero_le _) (Nat.zero_le _) rfl rfl (Nat.le_of_ble_eq_true rfl) rfl (dX10_factTold 13 rfl) ?_
    refine R_if_eq (tgt := 41) (dX10_factTold 14 rfl) (by decide) (fun hc => ?_) (fun hc => ?_)
    · have H := ite_T H hc
      refine R_bipush (dX10_factTold 24 rfl) rfl rfl ?_
      exact R_iret rfl rfl (Nat.zero_le _) (Nat.zero_le _) (dX10_factTold 25 rfl) ⟨congrArg (fun z => some (Sum.inl z)) (Option.some.inj H), rfl, rfl⟩
    · have H := ite_F H hc
      refine R_aload_n (i := 0) (dX10_factTold 15 rfl) rfl rfl ?_
      refine R_getR cgX10 38 (cl38 hS) 7 (Nat.le_of_ble_eq_true rfl) rfl (Or.inl tb_1134) (dX10_factTold 16 rfl) ?_
      refine R_iconst (dX10_factTold 17 rfl) rfl ?_
      refine R_iload_n (i := 1) (dX10_factTold 18 rfl) rfl rfl ?_
      refine R_imul (dX10_factTold 19 rfl) ?_
      refine R_iload_n (i := 2) (dX10_factTold 20 rfl) rfl rfl ?_
      refine R_iadd (dX10_factTold 21 rfl) ?_
      obtain ⟨hg, H⟩ := ite_G H
      refine R_iald 42 (cl42 hS) hg (dX10_factTold 22 rfl) ?_
      refine R_goto (tgt := 43) (dX10_factTold 23 rfl) (by decide) ?_
      exact R_iret rfl rfl (Nat.zero_le _) (Nat.zero_le _) (dX10_factTold 25 rfl) ⟨congrArg (fun z => some (Sum.inl z)) (Option.some.inj H), rfl, rfl⟩
  · have H := ite_T H hc
    refine R_bipush (dX10_factTold 8 rfl) rfl rfl ?_
    refine R_goto (tgt := 43) (dX10_factTold 9 rfl) (by decide) ?_
    exact R_iret rfl rfl (Nat.zero_le _) (Nat.zero_le _) (dX10_factTold 25 rfl) ⟨congrArg (fun z => some (Sum.inl z)) (Option.some.inj H), rfl, rfl⟩
def f_X10_hasIn_L5 (x1 : Int) (x2 : Int) (M : Mem) : Nat → Int → Int → Option Int
  | 0, _, _ => none
  | n + 1, x3, x4 =>
    if x4 < 6 then
      if 0 ≤ x1 ∧ x1 < 10 then
        if b_and (b_shr (M 39 (x1).toNat) x4) 1 = 1 then
          if 0 ≤ w32 ((w32 (6 * x2)) + x4) ∧ w32 ((w32 (6 * x2)) + x4) < 4320 then
            f_X10_hasIn_L5 x1 x2 M n (b_or x3 (b_shl 1 (M 43 (w32 ((w32 (6 * x2)) + x4)).toNat))) (w32 (x4 + 1))
          else none
        else
          f_X10_hasIn_L5 x1 x2 M n (b_or x3 0) (w32 (x4 + 1))
      else none
    else
      some x3
set_option maxHeartbeats 4000000 in
theorem t_X10_hasIn_L5 (l : Launch) (g : GG) (ad : Nat → Nat) (S : SW) (M : Mem) (hS : q_ag 38 63 ad S) (x1 : Int) (x2 : Int) {r : Int} : ∀ (n : Nat) (x3 : Int) (x4 : Int), f_X10_hasIn_L5 x1 x2 M n x3 x4 = some r → RW l g MX10_hasIn (q_rm 1 0 0) 0 0 (q_ex S (some (.inl r)) M) 5 S M 0 0 [some (.inr (.inr (some (ad 38)))), some (.inl x1), some (.inl x2), some (.inl x3), some (.inl x4)] [] := by
  intro n
  induction n with
  | zero => intro x3 x4 H; exact absurd H (by simp [f_X10_hasIn_L5])
  | succ n ih =>
    intro x3 x4 H
    rw [f_X10_hasIn_L5] at H
    refine R_iload (i := 4) (dX10_hasIn 4 rfl) rfl ?_
    refine R_bipush (dX10_hasIn 5 rfl) rfl rfl ?_
    refine R_icmp_ge (tgt := 54) (dX10_hasIn 6 rfl) (by decide) (fun hc => ?_) (fun hc => ?_)
    · have H := ite_F H hc
      refine R_iload_n (i := 3) (dX10_hasIn 34 rfl) rfl rfl ?_
      exact R_iret rfl rfl (Nat.zero_le _) (Nat.zero_le _) (dX10_hasIn 35 rfl) ⟨congrArg (fun z => some (Sum.inl z)) (Option.some.inj H), rfl, rfl⟩
    · have H := ite_T H hc
      refine R_iload_n (i := 3) (dX10_hasIn 7 rfl) rfl rfl ?_
      refine R_aload_n (i := 0) (dX10_hasIn 8 rfl) rfl rfl ?_
      refine R_getR cgX10 38 (cl38 hS) 1 (Nat.le_of_ble_eq_true rfl) rfl (Or.inl tb_1128) (dX10_hasIn 9 rfl) ?_
      refine R_iload_n (i := 1) (dX10_hasIn 10 rfl) rfl rfl ?_
      obtain ⟨hg, H⟩ := ite_G H
      refine R_iald 39 (cl39 hS) hg (dX10_hasIn 11 rfl) ?_
      refine R_iload (i := 4) (dX10_hasIn 12 rfl) rfl ?_
      refine R_ishr (dX10_hasIn 13 rfl) ?_
      refine R_iconst (dX10_hasIn 14 rfl) rfl ?_
      refine R_iand (dX10_hasIn 15 rfl) ?_
      refine R_iconst (dX10_hasIn 16 rfl) rfl ?_
      refine R_icmp_ne (tgt := 45) (dX10_hasIn 17 rfl) (by decide) (fun hc => ?_) (fun hc => ?_)
      · have H := ite_F H hc
        refine R_iconst (dX10_hasIn 29 rfl) rfl ?_
        refine R_ior (dX10_hasIn 30 rfl) ?_
        refine R_istore_n (i := 3) (ls' := [some (.inr (.inr (some (ad 38)))), some (.inl x1), some (.inl x2), some (.inl (b_or x3 0)), some (.inl x4)]) (dX10_hasIn 31 rfl) rfl (Nat.le_of_ble_eq_true rfl) (Nat.le_of_ble_eq_true rfl) rfl rfl ?_
        refine R_iinc (i := 4) (ls' := [some (.inr (.inr (some (ad 38)))), some (.inl x1), some (.inl x2), some (.inl (b_or x3 0)), some (.inl (w32 (x4 + 1)))]) (dX10_hasIn 32 rfl) rfl (Nat.le_of_ble_eq_true rfl) rfl rfl ?_
        refine R_goto (tgt := 5) (dX10_hasIn 33 rfl) (by decide) ?_
        exact ih (b_or x3 0) (w32 (x4 + 1)) H
      · have H := ite_T H hc
        refine R_iconst (dX10_hasIn 18 rfl) rfl ?_
        refine R_aload_n (i := 0) (dX10_hasIn 19 rfl) rfl rfl ?_
        refine R_getR cgX10 38 (cl38 hS) 8 (Nat.le_of_ble_eq_true rfl) rfl (Or.inl tb_1135) (dX10_hasIn 20 rfl) ?_
        refine R_bipush (dX10_hasIn 21 rfl) rfl rfl ?_
        refine R_iload_n (i := 2) (dX10_hasIn 22 rfl) rfl rfl ?_
        refine R_imul (dX10_hasIn 23 rfl) ?_
        refine R_iload (i := 4) (dX10_hasIn 24 rfl) rfl ?_
        refine R_iadd (dX10_hasIn 25 rfl) ?_
        obtain ⟨hg, H⟩ := ite_G H
        refine R_iald 43 (cl43 hS) hg (dX10_hasIn 26 rfl) ?_
        refine R_ishl (dX10_hasIn 27 rfl) ?_
        refine R_goto (tgt := 46) (dX10_hasIn 28 rfl) (by decide) ?_
        refine R_ior (dX10_hasIn 30 rfl) ?_
        refine R_istore_n (i := 3) (ls' := [some (.inr (.inr (some (ad 38)))), some (.inl x1), some (.inl x2), some (.inl (b_or x3 (b_shl 1 (M 43 (w32 ((w32 (6 * x2)) + x4)).toNat)))), some (.inl x4)]) (dX10_hasIn 31 rfl) rfl (Nat.le_of_ble_eq_true rfl) (Nat.le_of_ble_eq_true rfl) rfl rfl ?_
        refine R_iinc (i := 4) (ls' := [some (.inr (.inr (some (ad 38)))), some (.inl x1), some (.inl x2), some (.inl (b_or x3 (b_shl 1 (M 43 (w32 ((w32 (6 * x2)) + x4)).toNat)))), some (.inl (w32 (x4 + 1)))]) (dX10_hasIn 32 rfl) rfl (Nat.le_of_ble_eq_true rfl) rfl rfl ?_
        refine R_goto (tgt := 5) (dX10_hasIn 33 rfl) (by decide) ?_
        exact ih (b_or x3 (b_shl 1 (M 43 (w32 ((w32 (6 * x2)) + x4)).toNat))) (w32 (x4 + 1)) H
def f_X10_hasIn (x1 : Int) (x2 : Int) (M : Mem) : Option Int :=
  f_X10_hasIn_L5
    x1 x2 M 100000 0 0
set_option maxHeartbeats 4000000 in
theorem t_X10_hasIn (l : Launch) (g : GG) (ad : Nat → Nat) (S : SW) (M : Mem) (hS : q_ag 38 63 ad S) (x1 : Int) (x2 : Int) {r : Int} (H : f_X10_hasIn x1 x2 M = some r) : CT l g MX10_hasIn 1 0 0 S M [.inr (.inr (some (ad 38))), .inl x1, .inl x2] (q_ex S (some (.inl r)) M) := by
  unfold f_X10_hasIn at H
  refine CT_of (ls0 := [some (.inr (.inr (some (ad 38)))), some (.inl x1), some (.inl x2), none, none]) (by decide +kernel) (Nat.le_of_ble_eq_true rfl) rfl ?_
  refine R_iconst (dX10_hasIn 0 rfl) rfl ?_
  refine R_istore_n (i := 3) (ls' := [some (.inr (.inr (some (ad 38)))), some (.inl x1), some (.inl x2), some (.inl 0), none]) (dX10_hasIn 1 rfl) rfl (Nat.le_of_ble_eq_true rfl) (Nat.le_of_ble_eq_true rfl) rfl rfl ?_
  refine R_iconst (dX10_hasIn 2 rfl) rfl ?_
  refine R_istore (i := 4) (ls' := [some (.inr (.inr (some (ad 38)))), some (.inl x1), some (.inl x2), some (.inl 0), some (.inl 0)]) (dX10_hasIn 3 rfl) (Nat.le_of_ble_eq_true rfl) (Nat.le_of_ble_eq_true rfl) rfl rfl ?_
  exact t_X10_hasIn_L5 l g ad S M hS x1 x2  100000 0 0 H 
def f_X10_holds_ (x1 : Int) (x2 : Int) (M : Mem) : Option Int :=
  if 0 ≤ w32 ((w32 (4 * x1)) + 1) ∧ w32 ((w32 (4 * x1)) + 1) < 52 then
    (f_X10_hasIn (M 42 (w32 ((w32 (4 * x1)) + 1)).toNat) x2 M).bind fun r398 =>
    if 0 ≤ w32 ((w32 (4 * x1)) + 2) ∧ w32 ((w32 (4 * x1)) + 2) < 52 then
      if 0 ≤ w32 ((w32 (4 * x1)) + 3) ∧ w32 ((w32 (4 * x1)) + 3) < 52 then
        if 0 ≤ w32 (4 * x1) ∧ w32 (4 * x1) < 52 then
          if M 42 (w32 (4 * x1)).toNat = 1 then
            if r398 = M 42 (w32 ((w32 (4 * x1)) + 2)).toNat then
              some 1
            else
              some 0
          else if M 42 (w32 (4 * x1)).toNat = 2 then
            if b_and (M 42 (w32 ((w32 (4 * x1)) + 2)).toNat) (b_xor r398 (-1)) = 0 then
              some 1
            else
              some 0
          else if M 42 (w32 (4 * x1)).toNat = 3 then
            if b_and (M 42 (w32 ((w32 (4 * x1)) + 2)).toNat) (b_xor r398 (-1)) = 0 then
              some 1
            else
              (f_X10_ones (b_and (M 42 (w32 ((w32 (4 * x1)) + 2)).toNat) r398)).bind fun r399 =>
              if r399 < M 42 (w32 ((w32 (4 * x1)) + 3)).toNat then
                some 0
              else
                some 1
          else if M 42 (w32 (4 * x1)).toNat = 4 then
            (f_X10_hasIn (M 42 (w32 ((w32 (4 * x1)) + 3)).toNat) x2 M).bind fun r400 =>
            if b_and r398 r400 = M 42 (w32 ((w32 (4 * x1)) + 2)).toNat then
              some 1
            else
              some 0
          else if M 42 (w32 (4 * x1)).toNat = 5 then
            if b_and (M 42 (w32 ((w32 (4 * x1)) + 2)).toNat) r398 = 0 then
              some 1
            else
              some 0
          else
            some 1
        else none
      else none
    else none
  else none
set_option maxHeartbeats 4000000 in
theorem t_X10_holds_ (l : Launch) (g : GG) (ad : Nat → Nat) (S : SW) (M : Mem) (hS : q_ag 38 63 ad S) (x1 : Int) (x2 : Int) {r : Int} (H : f_X10_holds_ x1 x2 M = some r) : CT l g MX10_holds_ 2 0 0 S M [.inr (.inr (some (ad 38))), .inl x1, .inl x2] (q_ex S (some (.inl r)) M) := by
  unfold f_X10_holds_ at H
  refine CT_of (ls0 := [some (.inr (.inr (some (ad 38)))), some (.inl x1), some (.inl x2), none, none, none]) (by decide +kernel) (Nat.le_of_ble_eq_true rfl) rfl ?_
  refine R_aload_n (i := 0) (dX10_holds__0 0 rfl) rfl rfl ?_
  refine R_aload_n (i := 0) (dX10_holds__0 1 rfl) rfl rfl ?_
  refine R_getR cgX10 38 (cl38 hS) 7 (Nat.le_of_ble_eq_true rfl) rfl (Or.inl tb_1134) (dX10_holds__0 2 rfl) ?_
  refine R_iconst (dX10_holds__0 3 rfl) rfl ?_
  refine R_iload_n (i := 1) (dX10_holds__0 4 rfl) rfl rfl ?_
  refine R_imul (dX10_holds__0 5 rfl) ?_
  refine R_iconst (dX10_holds__0 6 rfl) rfl ?_
  refine R_iadd (dX10_holds__0 7 rfl) ?_
  obtain ⟨hg, H⟩ := ite_G H
  refine R_iald 42 (cl42 hS) hg (dX10_holds__0 8 rfl) ?_
  refine R_iload_n (i := 2) (dX10_holds__0 9 rfl) rfl rfl ?_
  obtain ⟨r398, hr, H⟩ := op_E H
  refine R_cV (st' := [.inl r398]) [.inl (M 42 (w32 ((w32 (4 * x1)) + 1)).toNat), .inl x2] [] (t_X10_hasIn l g ad S _ hS   (M 42 (w32 ((w32 (4 * x1)) + 1)).toNat) x2 hr) msX10_hasIn (Or.inl tb_1374) (Or.inl ⟨38, 10, _, _, _, (cl38 hS), rfl⟩) ⟨Nat.le_of_ble_eq_true rfl, Nat.le_of_ble_eq_true rfl⟩ (Nat.zero_le _) (Nat.zero_le _) rfl rfl (Nat.le_of_ble_eq_true rfl) rfl (dX10_holds__0 10 rfl) ?_
  refine R_istore_n (i := 3) (ls' := [some (.inr (.inr (some (ad 38)))), some (.inl x1), some (.inl x2), some (.inl r398), none, none]) (dX10_holds__0 11 rfl) rfl (Nat.le_of_ble_eq_true rfl) (Nat.le_of_ble_eq_true rfl) rfl rfl ?_
  refine R_aload_n (i := 0) (dX10_holds__0 12 rfl) rfl rfl ?_
  refine R_getR cgX10 38 (cl38 hS) 7 (Nat.le_of_ble_eq_true rfl) rfl (Or.inl tb_1134) (dX10_holds__0 13 rfl) ?_
  refine R_iconst (dX10_holds__0 14 rfl) rfl ?_
  refine R_iload_n (i := 1) (dX10_holds__0 15 rfl) rfl rfl ?_
  refine R_imul (dX10_holds__0 16 rfl) ?_
  refine R_iconst (dX10_holds__0 17 rfl) rfl ?_
  refine R_iadd (dX10_holds__0 18 rfl) ?_
  obtain ⟨hg, H⟩ := ite_G H
  refine R_iald 42 (cl42 hS) hg (dX10_holds__0 19 rfl) ?_
  refine R_istore (i := 4) (ls' := [some (.inr (.inr (some (ad 38)))), some (.inl x1), some (.inl x2), some (.inl r398), some (.inl (M 42 (w32 ((w32 (4 * x1)) + 2)).toNat)), none]) (dX10_holds__0 20 rfl) (Nat.le_of_ble_eq_true rfl) (Nat.le_of_ble_eq_true rfl) rfl rfl ?_
  refine R_aload_n (i := 0) (dX10_holds__0 21 rfl) rfl rfl ?_
  refine R_getR cgX10 38 (cl38 hS) 7 (Nat.le_of_ble_eq_true rfl) rfl (Or.inl tb_1134) (dX10_holds__0 22 rfl) ?_
  refine R_iconst (dX10_holds__0 23 rfl) rfl ?_
  refine R_iload_n (i := 1) (dX10_holds__0 24 rfl) rfl rfl ?_
  refine R_imul (dX10_holds__0 25 rfl) ?_
  refine R_iconst (dX10_holds__0 26 rfl) rfl ?_
  refine R_iadd (dX10_holds__0 27 rfl) ?_
  obtain ⟨hg, H⟩ := ite_G H
  refine R_iald 42 (cl42 hS) hg (dX10_holds__0 28 rfl) ?_
  refine R_istore (i := 5) (ls' := [some (.inr (.inr (some (ad 38)))), some (.inl x1), some (.inl x2), some (.inl r398), some (.inl (M 42 (w32 ((w32 (4 * x1)) + 2)).toNat)), some (.inl (M 42 (w32 ((w32 (4 * x1)) + 3)).toNat))]) (dX10_holds__0 29 rfl) (Nat.le_of_ble_eq_true rfl) (Nat.le_of_ble_eq_true rfl) rfl rfl ?_
  refine R_aload_n (i := 0) (dX10_holds__0 30 rfl) rfl rfl ?_
  refine R_getR cgX10 38 (cl38 hS) 7 (Nat.le_of_ble_eq_true rfl) rfl (Or.inl tb_1134) (dX10_holds__0 31 rfl) ?_
  refine R_iconst (dX10_holds__0 32 rfl) rfl ?_
  refine R_iload_n (i := 1) (dX10_holds__0 33 rfl) rfl rfl ?_
  refine R_imul (dX10_holds__0 34 rfl) ?_
  obtain ⟨hg, H⟩ := ite_G H
  refine R_iald 42 (cl42 hS) hg (dX10_holds__0 35 rfl) ?_
  by_cases hc1 : M 42 (w32 (4 * x1)).toNat = 1
  · have H := ite_T H hc1
    refine R_tsIn (c0 := 1) (tgt := 84) (dX10_holds__0 36 rfl) hc1 (by decide) (by decide) rfl (by decide) ?_
    refine R_iload_n (i := 3) (dX10_holds__0 37 rfl) rfl rfl ?_
    refine R_iload (i := 4) (dX10_holds__0 38 rfl) rfl ?_
    refine R_icmp_ne (tgt := 94) (dX10_holds__0 39 rfl) (by decide) (fun hc => ?_) (fun hc => ?_)
    · have H := ite_F H hc
      refine R_iconst (dX10_holds__0 42 rfl) rfl ?_
      exact R_iret rfl (by decide +kernel) (Nat.zero_le _) (Nat.zero_le _) (dX10_holds__0 43 rfl) ⟨congrArg (fun z => some (Sum.inl z)) (Option.some.inj H), rfl, rfl⟩
    · have H := ite_T H hc
      refine R_iconst (dX10_holds__0 40 rfl) rfl ?_
      refine R_goto (tgt := 95) (dX10_holds__0 41 rfl) (by decide) ?_
      exact R_iret rfl (by decide +kernel) (Nat.zero_le _) (Nat.zero_le _) (dX10_holds__0 43 rfl) ⟨congrArg (fun z => some (Sum.inl z)) (Option.some.inj H), rfl, rfl⟩
  have H := ite_F H hc1
  by_cases hc2 : M 42 (w32 (4 * x1)).toNat = 2
  · have H := ite_T H hc2
    refine R_tsIn (c0 := 2) (tgt := 96) (dX10_holds__0 36 rfl) hc2 (by decide) (by decide) rfl (by decide) ?_
    refine R_iload (i := 4) (dX10_holds__0 44 rfl) rfl ?_
    refine R_iload_n (i := 3) (dX10_holds__0 45 rfl) rfl rfl ?_
    refine R_iconst (dX10_holds__0 46 rfl) rfl ?_
    refine R_ixor (dX10_holds__0 47 rfl) ?_
    refine R_iand (dX10_holds__0 48 rfl) ?_
    refine R_if_ne (tgt := 109) (dX10_holds__0 49 rfl) (by decide) (fun hc => ?_) (fun hc => ?_)
    · have H := ite_F H hc
      refine R_iconst (dX10_holds__0 52 rfl) rfl ?_
      exact R_iret rfl (by decide +kernel) (Nat.zero_le _) (Nat.zero_le _) (dX10_holds__0 53 rfl) ⟨congrArg (fun z => some (Sum.inl z)) (Option.some.inj H), rfl, rfl⟩
    · have H := ite_T H hc
      refine R_iconst (dX10_holds__0 50 rfl) rfl ?_
      refine R_goto (tgt := 110) (dX10_holds__0 51 rfl) (by decide) ?_
      exact R_iret rfl (by decide +kernel) (Nat.zero_le _) (Nat.zero_le _) (dX10_holds__0 53 rfl) ⟨congrArg (fun z => some (Sum.inl z)) (Option.some.inj H), rfl, rfl⟩
  have H := ite_F H hc2
  by_cases hc3 : M 42 (w32 (4 * x1)).toNat = 3
  · have H := ite_T H hc3
    refine R_tsIn (c0 := 3) (tgt := 111) (dX10_holds__0 36 rfl) hc3 (by decide) (by decide) rfl (by decide) ?_
    refine R_iload (i := 4) (dX10_holds__0 54 rfl) rfl ?_
    refine R_iload_n (i := 3) (dX10_holds__0 55 rfl) rfl rfl ?_
    refine R_iconst (dX10_holds__0 56 rfl) rfl ?_
    refine R_ixor (dX10_holds__0 57 rfl) ?_
    refine R_iand (dX10_holds__0 58 rfl) ?_
    refine R_if_eq (tgt := 132) (dX10_holds__0 59 rfl) (by decide) (fun hc => ?_) (fun hc => ?_)
    · have H := ite_T H hc
      refine R_iconst (dX10_holds__1 6 rfl) rfl ?_
      refine R_goto (tgt := 137) (dX10_holds__1 7 rfl) (by decide) ?_
      exact R_iret rfl (by decide +kernel) (Nat.zero_le _) (Nat.zero_le _) (dX10_holds__1 9 rfl) ⟨congrArg (fun z => some (Sum.inl z)) (Option.some.inj H), rfl, rfl⟩
    · have H := ite_F H hc
      refine R_iload (i := 4) (dX10_holds__1 0 rfl) rfl ?_
      refine R_iload_n (i := 3) (dX10_holds__1 1 rfl) rfl rfl ?_
      refine R_iand (dX10_holds__1 2 rfl) ?_
      obtain ⟨r399, hr, H⟩ := op_E H
      refine R_cS (st' := [.inl r399]) [.inl (b_and (M 42 (w32 ((w32 (4 * x1)) + 2)).toNat) r398)] [] (t_X10_ones l g S _   (b_and (M 42 (w32 ((w32 (4 * x1)) + 2)).toNat) r398) hr) msX10_ones (Or.inl tb_1273) ⟨Nat.le_of_ble_eq_true rfl, Nat.le_of_ble_eq_true rfl⟩ (Nat.zero_le _) (Nat.zero_le _) rfl rfl (Nat.le_of_ble_eq_true rfl) rfl (dX10_holds__1 3 rfl) ?_
      refine R_iload (i := 5) (dX10_holds__1 4 rfl) rfl ?_
      refine R_icmp_lt (tgt := 136) (dX10_holds__1 5 rfl) (by decide) (fun hc => ?_) (fun hc => ?_)
      · have H := ite_T H hc
        refine R_iconst (dX10_holds__1 8 rfl) rfl ?_
        exact R_iret rfl (by decide +kernel) (Nat.zero_le _) (Nat.zero_le _) (dX10_holds__1 9 rfl) ⟨congrArg (fun z => some (Sum.inl z)) (Option.some.inj H), rfl, rfl⟩
      · have H := ite_F H hc
        refine R_iconst (dX10_holds__1 6 rfl) rfl ?_
        refine R_goto (tgt := 137) (dX10_holds__1 7 rfl) (by decide) ?_
        exact R_iret rfl (by decide +kernel) (Nat.zero_le _) (Nat.zero_le _) (dX10_holds__1 9 rfl) ⟨congrArg (fun z => some (Sum.inl z)) (Option.some.inj H), rfl, rfl⟩
  have H := ite_F H hc3
  by_cases hc4 : M 42 (w32 (4 * x1)).toNat = 4
  · have H := ite_T H hc4
    refine R_tsIn (c0 := 4) (tgt := 138) (dX10_holds__0 36 rfl) hc4 (by decide) (by decide) rfl (by decide) ?_
    refine R_iload_n (i := 3) (dX10_holds__1 10 rfl) rfl rfl ?_
    refine R_aload_n (i := 0) (dX10_holds__1 11 rfl) rfl rfl ?_
    refine R_iload (i := 5) (dX10_holds__1 12 rfl) rfl ?_
    refine R_iload_n (i := 2) (dX10_holds__1 13 rfl) rfl rfl ?_
    obtain ⟨r400, hr, H⟩ := op_E H
    refine R_cV (st' := [.inl r400, .inl r398]) [.inl (M 42 (w32 ((w32 (4 * x1)) + 3)).toNat), .inl x2] [.inl r398] (t_X10_hasIn l g ad S _ hS   (M 42 (w32 ((w32 (4 * x1)) + 3)).toNat) x2 hr) msX10_hasIn (Or.inl tb_1374) (Or.inl ⟨38, 10, _, _, _, (cl38 hS), rfl⟩) ⟨Nat.le_of_ble_eq_true rfl, Nat.le_of_ble_eq_true rfl⟩ (Nat.zero_le _) (Nat.zero_le _) rfl rfl (Nat.le_of_ble_eq_true rfl) rfl (dX10_holds__1 14 rfl) ?_
    refine R_iand (dX10_holds__1 15 rfl) ?_
    refine R_iload (i := 4) (dX10_holds__1 16 rfl) rfl ?_
    refine R_icmp_ne (tgt := 156) (dX10_holds__1 17 rfl) (by decide) (fun hc => ?_) (fun hc => ?_)
    · have H := ite_F H hc
      refine R_iconst (dX10_holds__1 20 rfl) rfl ?_
      exact R_iret rfl (by decide +kernel) (Nat.zero_le _) (Nat.zero_le _) (dX10_holds__1 21 rfl) ⟨congrArg (fun z => some (Sum.inl z)) (Option.some.inj H), rfl, rfl⟩
    · have H := ite_T H hc
      refine R_iconst (dX10_holds__1 18 rfl) rfl ?_
      refine R_goto (tgt := 157) (dX10_holds__1 19 rfl) (by decide) ?_
      exact R_iret rfl (by decide +kernel) (Nat.zero_le _) (Nat.zero_le _) (dX10_holds__1 21 rfl) ⟨congrArg (fun z => some (Sum.inl z)) (Option.some.inj H), rfl, rfl⟩
  have H := ite_F H hc4
  by_cases hc5 : M 42 (w32 (4 * x1)).toNat = 5
  · have H := ite_T H hc5
    refine R_tsIn (c0 := 5) (tgt := 158) (dX10_holds__0 36 rfl) hc5 (by decide) (by decide) rfl (by decide) ?_
    refine R_iload (i := 4) (dX10_holds__1 22 rfl) rfl ?_
    refine R_iload_n (i := 3) (dX10_holds__1 23 rfl) rfl rfl ?_
    refine R_iand (dX10_holds__1 24 rfl) ?_
    refine R_if_ne (tgt := 169) (dX10_holds__1 25 rfl) (by decide) (fun hc => ?_) (fun hc => ?_)
    · have H := ite_F H hc
      refine R_iconst (dX10_holds__1 28 rfl) rfl ?_
      exact R_iret rfl (by decide +kernel) (Nat.zero_le _) (Nat.zero_le _) (dX10_holds__1 29 rfl) ⟨congrArg (fun z => some (Sum.inl z)) (Option.some.inj H), rfl, rfl⟩
    · have H := ite_T H hc
      refine R_iconst (dX10_holds__1 26 rfl) rfl ?_
      refine R_goto (tgt := 170) (dX10_holds__1 27 rfl) (by decide) ?_
      exact R_iret rfl (by decide +kernel) (Nat.zero_le _) (Nat.zero_le _) (dX10_holds__1 29 rfl) ⟨congrArg (fun z => some (Sum.inl z)) (Option.some.inj H), rfl, rfl⟩
  have H := ite_F H hc5
  refine R_tsOut (tgt := 171) (dX10_holds__0 36 rfl) (by omega) (by decide) ?_
  refine R_iconst (dX10_holds__1 30 rfl) rfl ?_
  exact R_iret rfl (by decide +kernel) (Nat.zero_le _) (Nat.zero_le _) (dX10_holds__1 31 rfl) ⟨congrArg (fun z => some (Sum.inl z)) (Option.some.inj H), rfl, rfl⟩
def f_X10_mays_L2 : Nat → Int → Mem → Option (Int × Mem)
  | 0, _, _ => none
  | n + 1, x1, M =>
    if x1 < w32 (64 * (M 38 0)) then
      (f_X10_ones (b_rem x1 64)).bind fun r401 =>
      if 3 < r401 then
        if 0 ≤ x1 ∧ x1 < 640 then
          f_X10_mays_L2 n (w32 (x1 + 1)) (mset M 57 (x1).toNat 0)
        else none
      else
        ob (f_X10_asksOf 0 (b_div x1 64) (b_rem x1 64) 0 0 M) fun r402 M403 =>
        if 0 ≤ x1 ∧ x1 < 640 then
          f_X10_mays_L2 n (w32 (x1 + 1)) (mset M403 57 (x1).toNat r402)
        else none
    else
      some (0, M)
set_option maxHeartbeats 4000000 in
theorem t_X10_mays_L2 (l : Launch) (g : GG) (ad : Nat → Nat) (S : SW) (hS : q_ag 38 63 ad S) {r : Int} {M' : Mem} : ∀ (n : Nat) (x1 : Int) (M : Mem), f_X10_mays_L2 n x1 M = some (r, M') → RW l g MX10_mays (q_rm 4 0 0) 0 0 (q_ex S none M') 2 S M 0 0 [some (.inr (.inr (some (ad 38)))), some (.inl x1)] [] := by
  intro n
  induction n with
  | zero => intro x1 M H; exact absurd H (by simp [f_X10_mays_L2])
  | succ n ih =>
    intro x1 M H
    rw [f_X10_mays_L2] at H
    refine R_iload_n (i := 1) (dX10_mays 2 rfl) rfl rfl ?_
    refine R_bipush (dX10_mays 3 rfl) rfl rfl ?_
    refine R_aload_n (i := 0) (dX10_mays 4 rfl) rfl rfl ?_
    refine R_getI cgX10 38 (cl38 hS) 0 (Nat.le_of_ble_eq_true rfl) rfl (Or.inl tb_1127) (dX10_mays 5 rfl) ?_
    refine R_imul (dX10_mays 6 rfl) ?_
    refine R_icmp_ge (tgt := 55) (dX10_mays 7 rfl) (by decide) (fun hc => ?_) (fun hc => ?_)
    · have H := ite_F H hc
      exact R_vret rfl (Nat.zero_le _) (Nat.zero_le _) (dX10_mays 33 rfl) ⟨rfl, rfl, (Prod.mk.inj (Option.some.inj H)).2⟩
    · have H := ite_T H hc
      refine R_aload_n (i := 0) (dX10_mays 8 rfl) rfl rfl ?_
      refine R_getR cgX10 38 (cl38 hS) 38 (Nat.le_of_ble_eq_true rfl) rfl (Or.inl tb_1165) (dX10_mays 9 rfl) ?_
      refine R_iload_n (i := 1) (dX10_mays 10 rfl) rfl rfl ?_
      refine R_iload_n (i := 1) (dX10_mays 11 rfl) rfl rfl ?_
      refine R_bipush (dX10_mays 12 rfl) rfl rfl ?_
      refine R_irem (by decide) (dX10_mays 13 rfl) ?_
      obtain ⟨r401, hr, H⟩ := op_E H
      refine R_cS (st' := [.inl r401, .inl x1, .inr (.inr (some (ad 57)))]) [.inl (b_rem x1 64)] [.inl x1, .inr (.inr (some (ad 57)))] (t_X10_ones l g S _   (b_rem x1 64) hr) msX10_ones (Or.inl tb_1273) ⟨Nat.le_of_ble_eq_true rfl, Nat.le_of_ble_eq_true rfl⟩ (Nat.zero_le _) (Nat.zero_le _) rfl rfl (Nat.le_of_ble_eq_true rfl) rfl (dX10_mays 14 rfl) ?_
      refine R_iconst (dX10_mays 15 rfl) rfl ?_
      refine R_icmp_gt (tgt := 47) (dX10_mays 16 rfl) (by decide) (fun hc => ?_) (fun hc => ?_)
      · have H := ite_T H hc
        refine R_iconst (dX10_mays 29 rfl) rfl ?_
        obtain ⟨hg, H⟩ := ite_G H
        refine R_iast 57 (cl57 hS) hg (dX10_mays 30 rfl) ?_
        refine R_iinc (i := 1) (ls' := [some (.inr (.inr (some (ad 38)))), some (.inl (w32 (x1 + 1)))]) (dX10_mays 31 rfl) rfl (Nat.le_of_ble_eq_true rfl) rfl rfl ?_
        refine R_goto (tgt := 2) (dX10_mays 32 rfl) (by decide) ?_
        exact ih (w32 (x1 + 1)) (mset M 57 (x1).toNat 0) H
      · have H := ite_F H hc
        refine R_aload_n (i := 0) (dX10_mays 17 rfl) rfl rfl ?_
        refine R_iconst (dX10_mays 18 rfl) rfl ?_
        refine R_iload_n (i := 1) (dX10_mays 19 rfl) rfl rfl ?_
        refine R_bipush (dX10_mays 20 rfl) rfl rfl ?_
        refine R_idiv (by decide) (dX10_mays 21 rfl) ?_
        refine R_iload_n (i := 1) (dX10_mays 22 rfl) rfl rfl ?_
        refine R_bipush (dX10_mays 23 rfl) rfl rfl ?_
        refine R_irem (by decide) (dX10_mays 24 rfl) ?_
        refine R_iconst (dX10_mays 25 rfl) rfl ?_
        refine R_iconst (dX10_mays 26 rfl) rfl ?_
        obtain ⟨r402, M403, hr, H⟩ := ob_E H
        refine R_cV (st' := [.inl r402, .inl x1, .inr (.inr (some (ad 57)))]) [.inl 0, .inl (b_div x1 64), .inl (b_rem x1 64), .inl 0, .inl 0] [.inl x1, .inr (.inr (some (ad 57)))] (t_X10_asksOf l g ad S _ hS   0 (b_div x1 64) (b_rem x1 64) 0 0 hr) msX10_asksOf (Or.inl tb_1324) (Or.inl ⟨38, 10, _, _, _, (cl38 hS), rfl⟩) ⟨Nat.le_of_ble_eq_true rfl, Nat.le_of_ble_eq_true rfl⟩ (Nat.zero_le _) (Nat.zero_le _) rfl rfl (Nat.le_of_ble_eq_true rfl) rfl (dX10_mays 27 rfl) ?_
        refine R_goto (tgt := 48) (dX10_mays 28 rfl) (by decide) ?_
        obtain ⟨hg, H⟩ := ite_G H
        refine R_iast 57 (cl57 hS) hg (dX10_mays 30 rfl) ?_
        refine R_iinc (i := 1) (ls' := [some (.inr (.inr (some (ad 38)))), some (.inl (w32 (x1 + 1)))]) (dX10_mays 31 rfl) rfl (Nat.le_of_ble_eq_true rfl) rfl rfl ?_
        refine R_goto (tgt := 2) (dX10_mays 32 rfl) (by decide) ?_
        exact ih (w32 (x1 + 1)) (mset M403 57 (x1).toNat r402) H
def f_X10_mays (M : Mem) : Option (Int × Mem) :=
  f_X10_mays_L2
    100000 0 M
set_option maxHeartbeats 4000000 in
theorem t_X10_mays (l : Launch) (g : GG) (ad : Nat → Nat) (S : SW) (M : Mem) (hS : q_ag 38 63 ad S) {r : Int} {M' : Mem} (H : f_X10_mays M = some (r, M')) : CT l g MX10_mays 4 0 0 S M [.inr (.inr (some (ad 38)))] (q_ex S none M') := by
  unfold f_X10_mays at H
  refine CT_of (ls0 := [some (.inr (.inr (some (ad 38)))), none]) (by decide +kernel) (Nat.le_of_ble_eq_true rfl) rfl ?_
  refine R_iconst (dX10_mays 0 rfl) rfl ?_
  refine R_istore_n (i := 1) (ls' := [some (.inr (.inr (some (ad 38)))), some (.inl 0)]) (dX10_mays 1 rfl) rfl (Nat.le_of_ble_eq_true rfl) (Nat.le_of_ble_eq_true rfl) rfl rfl ?_
  exact t_X10_mays_L2 l g ad S hS  100000 0 M H 
def f_X10_mayBe_L2 (x1 : Int) (M : Mem) : Nat → Int → Option Int
  | 0, _ => none
  | n + 1, x2 =>
    if x2 < M 38 0 then
      (f_X10_hasIn x2 x1 M).bind fun r404 =>
      if 0 ≤ w32 ((w32 (64 * x2)) + r404) ∧ w32 ((w32 (64 * x2)) + r404) < 640 then
        if M 57 (w32 ((w32 (64 * x2)) + r404)).toNat = 0 then
          some 0
        else
          f_X10_mayBe_L2 x1 M n (w32 (x2 + 1))
      else none
    else
      some 1
set_option maxHeartbeats 4000000 in
theorem t_X10_mayBe_L2 (l : Launch) (g : GG) (ad : Nat → Nat) (S : SW) (M : Mem) (hS : q_ag 38 63 ad S) (x1 : Int) {r : Int} : ∀ (n : Nat) (x2 : Int), f_X10_mayBe_L2 x1 M n x2 = some r → RW l g MX10_mayBe (q_rm 2 0 0) 0 0 (q_ex S (some (.inl r)) M) 2 S M 0 0 [some (.inr (.inr (some (ad 38)))), some (.inl x1), some (.inl x2)] [] := by
  intro n
  induction n with
  | zero => intro x2 H; exact absurd H (by simp [f_X10_mayBe_L2])
  | succ n ih =>
    intro x2 H
    rw [f_X10_mayBe_L2] at H
    refine R_iload_n (i := 2) (dX10_mayBe 2 rfl) rfl rfl ?_
    refine R_aload_n (i := 0) (dX10_mayBe 3 rfl) rfl rfl ?_
    refine R_getI cgX10 38 (cl38 hS) 0 (Nat.le_of_ble_eq_true rfl) rfl (Or.inl tb_1127) (dX10_mayBe 4 rfl) ?_
    refine R_icmp_ge (tgt := 37) (dX10_mayBe 5 rfl) (by decide) (fun hc => ?_) (fun hc => ?_)
    · have H := ite_F H hc
      refine R_iconst (dX10_mayBe 22 rfl) rfl ?_
      exact R_iret rfl (by decide +kernel) (Nat.zero_le _) (Nat.zero_le _) (dX10_mayBe 23 rfl) ⟨congrArg (fun z => some (Sum.inl z)) (Option.some.inj H), rfl, rfl⟩
    · have H := ite_T H hc
      refine R_aload_n (i := 0) (dX10_mayBe 6 rfl) rfl rfl ?_
      refine R_getR cgX10 38 (cl38 hS) 38 (Nat.le_of_ble_eq_true rfl) rfl (Or.inl tb_1165) (dX10_mayBe 7 rfl) ?_
      refine R_bipush (dX10_mayBe 8 rfl) rfl rfl ?_
      refine R_iload_n (i := 2) (dX10_mayBe 9 rfl) rfl rfl ?_
      refine R_imul (dX10_mayBe 10 rfl) ?_
      refine R_aload_n (i := 0) (dX10_mayBe 11 rfl) rfl rfl ?_
      refine R_iload_n (i := 2) (dX10_mayBe 12 rfl) rfl rfl ?_
      refine R_iload_n (i := 1) (dX10_mayBe 13 rfl) rfl rfl ?_
      obtain ⟨r404, hr, H⟩ := op_E H
      refine R_cV (st' := [.inl r404, .inl (w32 (64 * x2)), .inr (.inr (some (ad 57)))]) [.inl x2, .inl x1] [.inl (w32 (64 * x2)), .inr (.inr (some (ad 57)))] (t_X10_hasIn l g ad S _ hS   x2 x1 hr) msX10_hasIn (Or.inl tb_1374) (Or.inl ⟨38, 10, _, _, _, (cl38 hS), rfl⟩) ⟨Nat.le_of_ble_eq_true rfl, Nat.le_of_ble_eq_true rfl⟩ (Nat.zero_le _) (Nat.zero_le _) rfl rfl (Nat.le_of_ble_eq_true rfl) rfl (dX10_mayBe 14 rfl) ?_
      refine R_iadd (dX10_mayBe 15 rfl) ?_
      obtain ⟨hg, H⟩ := ite_G H
      refine R_iald 57 (cl57 hS) hg (dX10_mayBe 16 rfl) ?_
      refine R_if_ne (tgt := 31) (dX10_mayBe 17 rfl) (by decide) (fun hc => ?_) (fun hc => ?_)
      · have H := ite_F H hc
        refine R_iinc (i := 2) (ls' := [some (.inr (.inr (some (ad 38)))), some (.inl x1), some (.inl (w32 (x2 + 1)))]) (dX10_mayBe 20 rfl) rfl (Nat.le_of_ble_eq_true rfl) rfl rfl ?_
        refine R_goto (tgt := 2) (dX10_mayBe 21 rfl) (by decide) ?_
        exact ih (w32 (x2 + 1)) H
      · have H := ite_T H hc
        refine R_iconst (dX10_mayBe 18 rfl) rfl ?_
        exact R_iret rfl (by decide +kernel) (Nat.zero_le _) (Nat.zero_le _) (dX10_mayBe 19 rfl) ⟨congrArg (fun z => some (Sum.inl z)) (Option.some.inj H), rfl, rfl⟩
def f_X10_mayBe (x1 : Int) (M : Mem) : Option Int :=
  f_X10_mayBe_L2
    x1 M 100000 0
set_option maxHeartbeats 4000000 in
theorem t_X10_mayBe (l : Launch) (g : GG) (ad : Nat → Nat) (S : SW) (M : Mem) (hS : q_ag 38 63 ad S) (x1 : Int) {r : Int} (H : f_X10_mayBe x1 M = some r) : CT l g MX10_mayBe 2 0 0 S M [.inr (.inr (some (ad 38))), .inl x1] (q_ex S (some (.inl r)) M) := by
  unfold f_X10_mayBe at H
  refine CT_of (ls0 := [some (.inr (.inr (some (ad 38)))), some (.inl x1), none]) (by decide +kernel) (Nat.le_of_ble_eq_true rfl) rfl ?_
  refine R_iconst (dX10_mayBe 0 rfl) rfl ?_
  refine R_istore_n (i := 2) (ls' := [some (.inr (.inr (some (ad 38)))), some (.inl x1), some (.inl 0)]) (dX10_mayBe 1 rfl) rfl (Nat.le_of_ble_eq_true rfl) (Nat.le_of_ble_eq_true rfl) rfl rfl ?_
  exact t_X10_mayBe_L2 l g ad S M hS x1  100000 0 H 
def f_X10_finds_L39 (K87 : Mem → Option (Int × Mem)) (x1 : Int) : Nat → Int → Mem → Option (Int × Mem)
  | 0, _, _ => none
  | n + 1, x2, M =>
    if x2 < M 38 6 then
      if 0 ≤ x1 ∧ x1 < 720 then
        if M 56 (x1).toNat < 0 then
          K87 M
        else
          if 0 ≤ x1 ∧ x1 < 720 then
            (f_X10_holds_ x2 x1 M).bind fun r408 =>
            if r408 = 0 then
              if 0 ≤ x1 ∧ x1 < 720 then
                f_X10_finds_L39 K87 x1 n (w32 (x2 + 1)) (mset M 56 (x1).toNat (b_or (M 56 (x1).toNat) (b_shl 1 x2)))
              else none
            else
              if 0 ≤ x1 ∧ x1 < 720 then
                f_X10_finds_L39 K87 x1 n (w32 (x2 + 1)) (mset M 56 (x1).toNat (b_or (M 56 (x1).toNat) 0))
              else none
          else none
      else none
    else
      K87 M
set_option maxHeartbeats 4000000 in
theorem t_X10_finds_L39 (l : Launch) (g : GG) (ad : Nat → Nat) (S : SW) (hS : q_ag 38 63 ad S) (x1 : Int) {K87 : Mem → Option (Int × Mem)} {r : Int} {M' : Mem} : ∀ (n : Nat) (x2 : Int) (M : Mem), f_X10_finds_L39 K87 x1 n x2 M = some (r, M') → (∀ (M1 : Mem), K87 M1 = some (r, M') → RW l g MX10_finds (q_rm 5 0 0) 0 0 (q_ex S none M') 87 S M1 0 0 [some (.inr (.inr (some (ad 38)))), some (.inl x1), none] []) → RW l g MX10_finds (q_rm 5 0 0) 0 0 (q_ex S none M') 39 S M 0 0 [some (.inr (.inr (some (ad 38)))), some (.inl x1), some (.inl x2)] [] := by
  intro n
  induction n with
  | zero => intro x2 M H; exact absurd H (by simp [f_X10_finds_L39])
  | succ n ih =>
    intro x2 M H hK87
    rw [f_X10_finds_L39] at H
    refine R_iload_n (i := 2) (dX10_finds_0 23 rfl) rfl rfl ?_
    refine R_aload_n (i := 0) (dX10_finds_0 24 rfl) rfl rfl ?_
    refine R_getI cgX10 38 (cl38 hS) 6 (Nat.le_of_ble_eq_true rfl) rfl (Or.inl tb_1133) (dX10_finds_0 25 rfl) ?_
    refine R_icmp_ge (tgt := 87) (dX10_finds_0 26 rfl) (by decide) (fun hc => ?_) (fun hc => ?_)
    · have H := ite_F H hc
      refine R_mask [true, true, false] rfl ?_
      exact hK87 M H
    · have H := ite_T H hc
      refine R_aload_n (i := 0) (dX10_finds_0 27 rfl) rfl rfl ?_
      refine R_getR cgX10 38 (cl38 hS) 37 (Nat.le_of_ble_eq_true rfl) rfl (Or.inl tb_1164) (dX10_finds_0 28 rfl) ?_
      refine R_iload_n (i := 1) (dX10_finds_0 29 rfl) rfl rfl ?_
      obtain ⟨hg, H⟩ := ite_G H
      refine R_iald 56 (cl56 hS) hg (dX10_finds_0 30 rfl) ?_
      refine R_if_lt (tgt := 87) (dX10_finds_0 31 rfl) (by decide) (fun hc => ?_) (fun hc => ?_)
      · have H := ite_T H hc
        refine R_mask [true, true, false] rfl ?_
        exact hK87 M H
      · have H := ite_F H hc
        refine R_aload_n (i := 0) (dX10_finds_0 32 rfl) rfl rfl ?_
        refine R_getR cgX10 38 (cl38 hS) 37 (Nat.le_of_ble_eq_true rfl) rfl (Or.inl tb_1164) (dX10_finds_0 33 rfl) ?_
        refine R_iload_n (i := 1) (dX10_finds_0 34 rfl) rfl rfl ?_
        refine R_dup2 rfl rfl (dX10_finds_0 35 rfl) ?_
        obtain ⟨hg, H⟩ := ite_G H
        refine R_iald 56 (cl56 hS) hg (dX10_finds_0 36 rfl) ?_
        refine R_aload_n (i := 0) (dX10_finds_0 37 rfl) rfl rfl ?_
        refine R_iload_n (i := 2) (dX10_finds_0 38 rfl) rfl rfl ?_
        refine R_iload_n (i := 1) (dX10_finds_0 39 rfl) rfl rfl ?_
        obtain ⟨r408, hr, H⟩ := op_E H
        refine R_cV (st' := [.inl r408, .inl (M 56 (x1).toNat), .inl x1, .inr (.inr (some (ad 56)))]) [.inl x2, .inl x1] [.inl (M 56 (x1).toNat), .inl x1, .inr (.inr (some (ad 56)))] (t_X10_holds_ l g ad S _ hS   x2 x1 hr) msX10_holds_ (Or.inl tb_1378) (Or.inl ⟨38, 10, _, _, _, (cl38 hS), rfl⟩) ⟨Nat.le_of_ble_eq_true rfl, Nat.le_of_ble_eq_true rfl⟩ (Nat.zero_le _) (Nat.zero_le _) rfl rfl (Nat.le_of_ble_eq_true rfl) rfl (dX10_finds_0 40 rfl) ?_
        refine R_if_eq (tgt := 76) (dX10_finds_0 41 rfl) (by decide) (fun hc => ?_) (fun hc => ?_)
        · have H := ite_T H hc
          refine R_iconst (dX10_finds_0 44 rfl) rfl ?_
          refine R_iload_n (i := 2) (dX10_finds_0 45 rfl) rfl rfl ?_
          refine R_ishl (dX10_finds_0 46 rfl) ?_
          refine R_ior (dX10_finds_0 47 rfl) ?_
          obtain ⟨hg, H⟩ := ite_G H
          refine R_iast 56 (cl56 hS) hg (dX10_finds_0 48 rfl) ?_
          refine R_iinc (i := 2) (ls' := [some (.inr (.inr (some (ad 38)))), some (.inl x1), some (.inl (w32 (x2 + 1)))]) (dX10_finds_0 49 rfl) rfl (Nat.le_of_ble_eq_true rfl) rfl rfl ?_
          refine R_goto (tgt := 39) (dX10_finds_0 50 rfl) (by decide) ?_
          exact ih (w32 (x2 + 1)) (mset M 56 (x1).toNat (b_or (M 56 (x1).toNat) (b_shl 1 x2))) H hK87
        · have H := ite_F H hc
          refine R_iconst (dX10_finds_0 42 rfl) rfl ?_
          refine R_goto (tgt := 79) (dX10_finds_0 43 rfl) (by decide) ?_
          refine R_ior (dX10_finds_0 47 rfl) ?_
          obtain ⟨hg, H⟩ := ite_G H
          refine R_iast 56 (cl56 hS) hg (dX10_finds_0 48 rfl) ?_
          refine R_iinc (i := 2) (ls' := [some (.inr (.inr (some (ad 38)))), some (.inl x1), some (.inl (w32 (x2 + 1)))]) (dX10_finds_0 49 rfl) rfl (Nat.le_of_ble_eq_true rfl) rfl rfl ?_
          refine R_goto (tgt := 39) (dX10_finds_0 50 rfl) (by decide) ?_
          exact ih (w32 (x2 + 1)) (mset M 56 (x1).toNat (b_or (M 56 (x1).toNat) 0)) H hK87
def f_X10_finds_L11 : Nat → Int → Mem → Option (Int × Mem)
  | 0, _, _ => none
  | n + 1, x1, M =>
    if x1 < 720 then
      (f_X10_mayBe x1 M).bind fun r407 =>
      if r407 = 0 then
        if 0 ≤ x1 ∧ x1 < 720 then
          f_X10_finds_L39
            (fun M409 =>
              if 0 ≤ x1 ∧ x1 < 720 then
                if M409 56 (x1).toNat = 0 then
                  if 0 ≤ M409 38 40 ∧ M409 38 40 < 720 then
                    f_X10_finds_L11 n (w32 (x1 + 1)) (mset (mset M409 58 (M409 38 40).toNat x1) 38 40 (w32 (((mset M409 58 (M409 38 40).toNat x1) 38 40) + 1)))
                  else none
                else
                  f_X10_finds_L11 n (w32 (x1 + 1)) M409
              else none
            )
            x1 100000 0 (mset M 56 (x1).toNat (-1))
        else none
      else
        if 0 ≤ x1 ∧ x1 < 720 then
          f_X10_finds_L39
            (fun M410 =>
              if 0 ≤ x1 ∧ x1 < 720 then
                if M410 56 (x1).toNat = 0 then
                  if 0 ≤ M410 38 40 ∧ M410 38 40 < 720 then
                    f_X10_finds_L11 n (w32 (x1 + 1)) (mset (mset M410 58 (M410 38 40).toNat x1) 38 40 (w32 (((mset M410 58 (M410 38 40).toNat x1) 38 40) + 1)))
                  else none
                else
                  f_X10_finds_L11 n (w32 (x1 + 1)) M410
              else none
            )
            x1 100000 0 (mset M 56 (x1).toNat 0)
        else none
    else
      some (0, M)
set_option maxHeartbeats 4000000 in
theorem t_X10_finds_L11 (l : Launch) (g : GG) (ad : Nat → Nat) (S : SW) (hS : q_ag 38 63 ad S) {r : Int} {M' : Mem} : ∀ (n : Nat) (x1 : Int) (M : Mem), f_X10_finds_L11 n x1 M = some (r, M') → RW l g MX10_finds (q_rm 5 0 0) 0 0 (q_ex S none M') 11 S M 0 0 [some (.inr (.inr (some (ad 38)))), some (.inl x1), none] [] := by
  intro n
  induction n with
  | zero => intro x1 M H; exact absurd H (by simp [f_X10_finds_L11])
  | succ n ih =>
    intro x1 M H
    rw [f_X10_finds_L11] at H
    refine R_iload_n (i := 1) (dX10_finds_0 7 rfl) rfl rfl ?_
    refine R_sipush (dX10_finds_0 8 rfl) rfl rfl ?_
    refine R_icmp_ge (tgt := 122) (dX10_finds_0 9 rfl) (by decide) (fun hc => ?_) (fun hc => ?_)
    · have H := ite_F H hc
      exact R_vret rfl (Nat.zero_le _) (Nat.zero_le _) (dX10_finds_1 10 rfl) ⟨rfl, rfl, (Prod.mk.inj (Option.some.inj H)).2⟩
    · have H := ite_T H hc
      refine R_aload_n (i := 0) (dX10_finds_0 10 rfl) rfl rfl ?_
      refine R_getR cgX10 38 (cl38 hS) 37 (Nat.le_of_ble_eq_true rfl) rfl (Or.inl tb_1164) (dX10_finds_0 11 rfl) ?_
      refine R_iload_n (i := 1) (dX10_finds_0 12 rfl) rfl rfl ?_
      refine R_aload_n (i := 0) (dX10_finds_0 13 rfl) rfl rfl ?_
      refine R_iload_n (i := 1) (dX10_finds_0 14 rfl) rfl rfl ?_
      obtain ⟨r407, hr, H⟩ := op_E H
      refine R_cV (st' := [.inl r407, .inl x1, .inr (.inr (some (ad 56)))]) [.inl x1] [.inl x1, .inr (.inr (some (ad 56)))] (t_X10_mayBe l g ad S _ hS   x1 hr) msX10_mayBe (Or.inl tb_1370) (Or.inl ⟨38, 10, _, _, _, (cl38 hS), rfl⟩) ⟨Nat.le_of_ble_eq_true rfl, Nat.le_of_ble_eq_true rfl⟩ (Nat.zero_le _) (Nat.zero_le _) rfl rfl (Nat.le_of_ble_eq_true rfl) rfl (dX10_finds_0 15 rfl) ?_
      refine R_if_eq (tgt := 35) (dX10_finds_0 16 rfl) (by decide) (fun hc => ?_) (fun hc => ?_)
      · have H := ite_T H hc
        refine R_iconst (dX10_finds_0 19 rfl) rfl ?_
        obtain ⟨hg, H⟩ := ite_G H
        refine R_iast 56 (cl56 hS) hg (dX10_finds_0 20 rfl) ?_
        refine R_iconst (dX10_finds_0 21 rfl) rfl ?_
        refine R_istore_n (i := 2) (ls' := [some (.inr (.inr (some (ad 38)))), some (.inl x1), some (.inl 0)]) (dX10_finds_0 22 rfl) rfl (Nat.le_of_ble_eq_true rfl) (Nat.le_of_ble_eq_true rfl) rfl rfl ?_
        refine t_X10_finds_L39 l g ad S hS x1  100000 0 (mset M 56 (x1).toNat (-1)) H (fun M409 H => ?_)
        refine R_aload_n (i := 0) (dX10_finds_0 51 rfl) rfl rfl ?_
        refine R_getR cgX10 38 (cl38 hS) 37 (Nat.le_of_ble_eq_true rfl) rfl (Or.inl tb_1164) (dX10_finds_0 52 rfl) ?_
        refine R_iload_n (i := 1) (dX10_finds_0 53 rfl) rfl rfl ?_
        obtain ⟨hg, H⟩ := ite_G H
        refine R_iald 56 (cl56 hS) hg (dX10_finds_0 54 rfl) ?_
        refine R_if_ne (tgt := 116) (dX10_finds_0 55 rfl) (by decide) (fun hc => ?_) (fun hc => ?_)
        · have H := ite_F H hc
          refine R_iinc (i := 1) (ls' := [some (.inr (.inr (some (ad 38)))), some (.inl (w32 (x1 + 1))), none]) (dX10_finds_1 8 rfl) rfl (Nat.le_of_ble_eq_true rfl) rfl rfl ?_
          refine R_goto (tgt := 11) (dX10_finds_1 9 rfl) (by decide) ?_
          exact ih (w32 (x1 + 1)) M409 H
        · have H := ite_T H hc
          refine R_aload_n (i := 0) (dX10_finds_0 56 rfl) rfl rfl ?_
          refine R_getR cgX10 38 (cl38 hS) 39 (Nat.le_of_ble_eq_true rfl) rfl (Or.inl tb_1166) (dX10_finds_0 57 rfl) ?_
          refine R_aload_n (i := 0) (dX10_finds_0 58 rfl) rfl rfl ?_
          refine R_getI cgX10 38 (cl38 hS) 40 (Nat.le_of_ble_eq_true rfl) rfl (Or.inl tb_1167) (dX10_finds_0 59 rfl) ?_
          refine R_iload_n (i := 1) (dX10_finds_1 0 rfl) rfl rfl ?_
          obtain ⟨hg, H⟩ := ite_G H
          refine R_iast 58 (cl58 hS) hg (dX10_finds_1 1 rfl) ?_
          refine R_aload_n (i := 0) (dX10_finds_1 2 rfl) rfl rfl ?_
          refine R_dup rfl (dX10_finds_1 3 rfl) ?_
          refine R_getI cgX10 38 (cl38 hS) 40 (Nat.le_of_ble_eq_true rfl) rfl (Or.inl tb_1167) (dX10_finds_1 4 rfl) ?_
          refine R_iconst (dX10_finds_1 5 rfl) rfl ?_
          refine R_iadd (dX10_finds_1 6 rfl) ?_
          refine R_putI cgX10 38 (cl38 hS) 40 (Nat.le_of_ble_eq_true rfl) rfl rfl rfl rfl (Or.inl tb_1167) (dX10_finds_1 7 rfl) ?_
          refine R_iinc (i := 1) (ls' := [some (.inr (.inr (some (ad 38)))), some (.inl (w32 (x1 + 1))), none]) (dX10_finds_1 8 rfl) rfl (Nat.le_of_ble_eq_true rfl) rfl rfl ?_
          refine R_goto (tgt := 11) (dX10_finds_1 9 rfl) (by decide) ?_
          exact ih (w32 (x1 + 1)) (mset (mset M409 58 (M409 38 40).toNat x1) 38 40 (w32 (((mset M409 58 (M409 38 40).toNat x1) 38 40) + 1))) H
      · have H := ite_F H hc
        refine R_iconst (dX10_finds_0 17 rfl) rfl ?_
        refine R_goto (tgt := 36) (dX10_finds_0 18 rfl) (by decide) ?_
        obtain ⟨hg, H⟩ := ite_G H
        refine R_iast 56 (cl56 hS) hg (dX10_finds_0 20 rfl) ?_
        refine R_iconst (dX10_finds_0 21 rfl) rfl ?_
        refine R_istore_n (i := 2) (ls' := [some (.inr (.inr (some (ad 38)))), some (.inl x1), some (.inl 0)]) (dX10_finds_0 22 rfl) rfl (Nat.le_of_ble_eq_true rfl) (Nat.le_of_ble_eq_true rfl) rfl rfl ?_
        refine t_X10_finds_L39 l g ad S hS x1  100000 0 (mset M 56 (x1).toNat 0) H (fun M410 H => ?_)
        refine R_aload_n (i := 0) (dX10_finds_0 51 rfl) rfl rfl ?_
        refine R_getR cgX10 38 (cl38 hS) 37 (Nat.le_of_ble_eq_true rfl) rfl (Or.inl tb_1164) (dX10_finds_0 52 rfl) ?_
        refine R_iload_n (i := 1) (dX10_finds_0 53 rfl) rfl rfl ?_
        obtain ⟨hg, H⟩ := ite_G H
        refine R_iald 56 (cl56 hS) hg (dX10_finds_0 54 rfl) ?_
        refine R_if_ne (tgt := 116) (dX10_finds_0 55 rfl) (by decide) (fun hc => ?_) (fun hc => ?_)
        · have H := ite_F H hc
          refine R_iinc (i := 1) (ls' := [some (.inr (.inr (some (ad 38)))), some (.inl (w32 (x1 + 1))), none]) (dX10_finds_1 8 rfl) rfl (Nat.le_of_ble_eq_true rfl) rfl rfl ?_
          refine R_goto (tgt := 11) (dX10_finds_1 9 rfl) (by decide) ?_
          exact ih (w32 (x1 + 1)) M410 H
        · have H := ite_T H hc
          refine R_aload_n (i := 0) (dX10_finds_0 56 rfl) rfl rfl ?_
          refine R_getR cgX10 38 (cl38 hS) 39 (Nat.le_of_ble_eq_true rfl) rfl (Or.inl tb_1166) (dX10_finds_0 57 rfl) ?_
          refine R_aload_n (i := 0) (dX10_finds_0 58 rfl) rfl rfl ?_
          refine R_getI cgX10 38 (cl38 hS) 40 (Nat.le_of_ble_eq_true rfl) rfl (Or.inl tb_1167) (dX10_finds_0 59 rfl) ?_
          refine R_iload_n (i := 1) (dX10_finds_1 0 rfl) rfl rfl ?_
          obtain ⟨hg, H⟩ := ite_G H
          refine R_iast 58 (cl58 hS) hg (dX10_finds_1 1 rfl) ?_
          refine R_aload_n (i := 0) (dX10_finds_1 2 rfl) rfl rfl ?_
          refine R_dup rfl (dX10_finds_1 3 rfl) ?_
          refine R_getI cgX10 38 (cl38 hS) 40 (Nat.le_of_ble_eq_true rfl) rfl (Or.inl tb_1167) (dX10_finds_1 4 rfl) ?_
          refine R_iconst (dX10_finds_1 5 rfl) rfl ?_
          refine R_iadd (dX10_finds_1 6 rfl) ?_
          refine R_putI cgX10 38 (cl38 hS) 40 (Nat.le_of_ble_eq_true rfl) rfl rfl rfl rfl (Or.inl tb_1167) (dX10_finds_1 7 rfl) ?_
          refine R_iinc (i := 1) (ls' := [some (.inr (.inr (some (ad 38)))), some (.inl (w32 (x1 + 1))), none]) (dX10_finds_1 8 rfl) rfl (Nat.le_of_ble_eq_true rfl) rfl rfl ?_
          refine R_goto (tgt := 11) (dX10_finds_1 9 rfl) (by decide) ?_
          exact ih (w32 (x1 + 1)) (mset (mset M410 58 (M410 38 40).toNat x1) 38 40 (w32 (((mset M410 58 (M410 38 40).toNat x1) 38 40) + 1))) H
def f_X10_finds (M : Mem) : Option (Int × Mem) :=
  ob (f_X10_mays M) fun r405 M406 =>
  f_X10_finds_L11
    100000 0 (mset M406 38 40 0)
set_option maxHeartbeats 4000000 in
theorem t_X10_finds (l : Launch) (g : GG) (ad : Nat → Nat) (S : SW) (M : Mem) (hS : q_ag 38 63 ad S) {r : Int} {M' : Mem} (H : f_X10_finds M = some (r, M')) : CT l g MX10_finds 5 0 0 S M [.inr (.inr (some (ad 38)))] (q_ex S none M') := by
  unfold f_X10_finds at H
  refine CT_of (ls0 := [some (.inr (.inr (some (ad 38)))), none, none]) (by decide +kernel) (Nat.le_of_ble_eq_true rfl) rfl ?_
  refine R_aload_n (i := 0) (dX10_finds_0 0 rfl) rfl rfl ?_
  obtain ⟨r405, M406, hr, H⟩ := ob_E H
  refine R_cV (st' := []) [] [] (t_X10_mays l g ad S _ hS   hr) msX10_mays (Or.inl tb_1366) (Or.inl ⟨38, 10, _, _, _, (cl38 hS), rfl⟩) ⟨Nat.le_of_ble_eq_true rfl, Nat.le_of_ble_eq_true rfl⟩ (Nat.zero_le _) (Nat.zero_le _) rfl rfl (Nat.le_of_ble_eq_true rfl) rfl (dX10_finds_0 1 rfl) ?_
  refine R_aload_n (i := 0) (dX10_finds_0 2 rfl) rfl rfl ?_
  refine R_iconst (dX10_finds_0 3 rfl) rfl ?_
  refine R_putI cgX10 38 (cl38 hS) 40 (Nat.le_of_ble_eq_true rfl) rfl rfl rfl rfl (Or.inl tb_1167) (dX10_finds_0 4 rfl) ?_
  refine R_iconst (dX10_finds_0 5 rfl) rfl ?_
  refine R_istore_n (i := 1) (ls' := [some (.inr (.inr (some (ad 38)))), some (.inl 0), none]) (dX10_finds_0 6 rfl) rfl (Nat.le_of_ble_eq_true rfl) (Nat.le_of_ble_eq_true rfl) rfl rfl ?_
  exact t_X10_finds_L11 l g ad S hS  100000 0 (mset M406 38 40 0) H 
def f_X10_sets (M : Mem) : Option (Int × Mem) :=
  ob (f_X10_finds M) fun r411 M412 =>
  some (M412 38 40, M412)
set_option maxHeartbeats 4000000 in
theorem t_X10_sets (l : Launch) (g : GG) (ad : Nat → Nat) (S : SW) (M : Mem) (hS : q_ag 38 63 ad S) {r : Int} {M' : Mem} (H : f_X10_sets M = some (r, M')) : CT l g MX10_sets 6 0 0 S M [.inr (.inr (some (ad 38)))] (q_ex S (some (.inl r)) M') := by
  unfold f_X10_sets at H
  refine CT_of (ls0 := [some (.inr (.inr (some (ad 38))))]) (by decide +kernel) (Nat.le_of_ble_eq_true rfl) rfl ?_
  refine R_aload_n (i := 0) (dX10_sets 0 rfl) rfl rfl ?_
  obtain ⟨r411, M412, hr, H⟩ := ob_E H
  refine R_cV (st' := []) [] [] (t_X10_finds l g ad S _ hS   hr) msX10_finds (Or.inl tb_1362) (Or.inl ⟨38, 10, _, _, _, (cl38 hS), rfl⟩) ⟨Nat.le_of_ble_eq_true rfl, Nat.le_of_ble_eq_true rfl⟩ (Nat.zero_le _) (Nat.zero_le _) rfl rfl (Nat.le_of_ble_eq_true rfl) rfl (dX10_sets 1 rfl) ?_
  refine R_aload_n (i := 0) (dX10_sets 2 rfl) rfl rfl ?_
  refine R_getI cgX10 38 (cl38 hS) 40 (Nat.le_of_ble_eq_true rfl) rfl (Or.inl tb_1167) (dX10_sets 3 rfl) ?_
  exact R_iret rfl rfl (Nat.zero_le _) (Nat.zero_le _) (dX10_sets 4 rfl) ⟨congrArg (fun z => some (Sum.inl z)) (Prod.mk.inj (Option.some.inj H)).1, rfl, (Prod.mk.inj (Option.some.inj H)).2⟩
def f_X10_partIn (x1 : Int) (x2 : Int) (M : Mem) : Option Int :=
  if 0 ≤ x1 ∧ x1 < 720 then
    if 0 ≤ w32 ((w32 (6 * (M 58 (x1).toNat))) + x2) ∧ w32 ((w32 (6 * (M 58 (x1).toNat))) + x2) < 4320 then
      some (M 43 (w32 ((w32 (6 * (M 58 (x1).toNat))) + x2)).toNat)
    else none
  else none
set_option maxHeartbeats 4000000 in
theorem t_X10_partIn (l : Launch) (g : GG) (ad : Nat → Nat) (S : SW) (M : Mem) (hS : q_ag 38 63 ad S) (x1 : Int) (x2 : Int) {r : Int} (H : f_X10_partIn x1 x2 M = some r) : CT l g MX10_partIn 1 0 0 S M [.inr (.inr (some (ad 38))), .inl x1, .inl x2] (q_ex S (some (.inl r)) M) := by
  unfold f_X10_partIn at H
  refine CT_of (ls0 := [some (.inr (.inr (some (ad 38)))), some (.inl x1), some (.inl x2)]) (by decide +kernel) (Nat.le_of_ble_eq_true rfl) rfl ?_
  refine R_aload_n (i := 0) (dX10_partIn 0 rfl) rfl rfl ?_
  refine R_getR cgX10 38 (cl38 hS) 8 (Nat.le_of_ble_eq_true rfl) rfl (Or.inl tb_1135) (dX10_partIn 1 rfl) ?_
  refine R_bipush (dX10_partIn 2 rfl) rfl rfl ?_
  refine R_aload_n (i := 0) (dX10_partIn 3 rfl) rfl rfl ?_
  refine R_getR cgX10 38 (cl38 hS) 39 (Nat.le_of_ble_eq_true rfl) rfl (Or.inl tb_1166) (dX10_partIn 4 rfl) ?_
  refine R_iload_n (i := 1) (dX10_partIn 5 rfl) rfl rfl ?_
  obtain ⟨hg, H⟩ := ite_G H
  refine R_iald 58 (cl58 hS) hg (dX10_partIn 6 rfl) ?_
  refine R_imul (dX10_partIn 7 rfl) ?_
  refine R_iload_n (i := 2) (dX10_partIn 8 rfl) rfl rfl ?_
  refine R_iadd (dX10_partIn 9 rfl) ?_
  obtain ⟨hg, H⟩ := ite_G H
  refine R_iald 43 (cl43 hS) hg (dX10_partIn 10 rfl) ?_
  exact R_iret rfl rfl (Nat.zero_le _) (Nat.zero_le _) (dX10_partIn 11 rfl) ⟨congrArg (fun z => some (Sum.inl z)) (Option.some.inj H), rfl, rfl⟩
def f_X10_first (x1 : Int) (M : Mem) : Option (Int × Mem) :=
  if f_X10_isSign x1 = 0 then
    some ((-5), M)
  else
    ob (f_X10_finds M) fun r413 M414 =>
    if M414 38 40 = 0 then
      some ((-1), M414)
    else
      (f_X10_partIn 0 x1 M414).bind fun r415 =>
      some (r415, M414)
set_option maxHeartbeats 4000000 in
theorem t_X10_first (l : Launch) (g : GG) (ad : Nat → Nat) (S : SW) (M : Mem) (hS : q_ag 38 63 ad S) (x1 : Int) {r : Int} {M' : Mem} (H : f_X10_first x1 M = some (r, M')) : CT l g MX10_first 6 0 0 S M [.inr (.inr (some (ad 38))), .inl x1] (q_ex S (some (.inl r)) M') := by
  unfold f_X10_first at H
  refine CT_of (ls0 := [some (.inr (.inr (some (ad 38)))), some (.inl x1)]) (by decide +kernel) (Nat.le_of_ble_eq_true rfl) rfl ?_
  refine R_iload_n (i := 1) (dX10_first 0 rfl) rfl rfl ?_
  refine R_cS (st' := [.inl (f_X10_isSign x1)]) [.inl x1] [] (t_X10_isSign l g ad S _ hS   x1) msX10_isSign (Or.inl tb_1386) ⟨Nat.le_of_ble_eq_true rfl, Nat.le_of_ble_eq_true rfl⟩ (Nat.zero_le _) (Nat.zero_le _) rfl rfl (Nat.le_of_ble_eq_true rfl) rfl (dX10_first 1 rfl) ?_
  refine R_if_ne (tgt := 10) (dX10_first 2 rfl) (by decide) (fun hc => ?_) (fun hc => ?_)
  · have H := ite_F H hc
    refine R_aload_n (i := 0) (dX10_first 5 rfl) rfl rfl ?_
    obtain ⟨r413, M414, hr, H⟩ := ob_E H
    refine R_cV (st' := []) [] [] (t_X10_finds l g ad S _ hS   hr) msX10_finds (Or.inl tb_1362) (Or.inl ⟨38, 10, _, _, _, (cl38 hS), rfl⟩) ⟨Nat.le_of_ble_eq_true rfl, Nat.le_of_ble_eq_true rfl⟩ (Nat.zero_le _) (Nat.zero_le _) rfl rfl (Nat.le_of_ble_eq_true rfl) rfl (dX10_first 6 rfl) ?_
    refine R_aload_n (i := 0) (dX10_first 7 rfl) rfl rfl ?_
    refine R_getI cgX10 38 (cl38 hS) 40 (Nat.le_of_ble_eq_true rfl) rfl (Or.inl tb_1167) (dX10_first 8 rfl) ?_
    refine R_if_ne (tgt := 25) (dX10_first 9 rfl) (by decide) (fun hc => ?_) (fun hc => ?_)
    · have H := ite_F H hc
      refine R_aload_n (i := 0) (dX10_first 12 rfl) rfl rfl ?_
      refine R_iconst (dX10_first 13 rfl) rfl ?_
      refine R_iload_n (i := 1) (dX10_first 14 rfl) rfl rfl ?_
      obtain ⟨r415, hr, H⟩ := op_E H
      refine R_cV (st' := [.inl r415]) [.inl 0, .inl x1] [] (t_X10_partIn l g ad S _ hS   0 x1 hr) msX10_partIn (Or.inl tb_1389) (Or.inl ⟨38, 10, _, _, _, (cl38 hS), rfl⟩) ⟨Nat.le_of_ble_eq_true rfl, Nat.le_of_ble_eq_true rfl⟩ (Nat.zero_le _) (Nat.zero_le _) rfl rfl (Nat.le_of_ble_eq_true rfl) rfl (dX10_first 15 rfl) ?_
      exact R_iret rfl rfl (Nat.zero_le _) (Nat.zero_le _) (dX10_first 16 rfl) ⟨congrArg (fun z => some (Sum.inl z)) (Prod.mk.inj (Option.some.inj H)).1, rfl, (Prod.mk.inj (Option.some.inj H)).2⟩
    · have H := ite_T H hc
      refine R_iconst (dX10_first 10 rfl) rfl ?_
      refine R_goto (tgt := 31) (dX10_first 11 rfl) (by decide) ?_
      exact R_iret rfl rfl (Nat.zero_le _) (Nat.zero_le _) (dX10_first 16 rfl) ⟨congrArg (fun z => some (Sum.inl z)) (Prod.mk.inj (Option.some.inj H)).1, rfl, (Prod.mk.inj (Option.some.inj H)).2⟩
  · have H := ite_T H hc
    refine R_bipush (dX10_first 3 rfl) rfl rfl ?_
    exact R_iret rfl rfl (Nat.zero_le _) (Nat.zero_le _) (dX10_first 4 rfl) ⟨congrArg (fun z => some (Sum.inl z)) (Prod.mk.inj (Option.some.inj H)).1, rfl, (Prod.mk.inj (Option.some.inj H)).2⟩
def f_X10_meansIn_L5 (x1 : Int) (x2 : Int) (M : Mem) : Nat → Int → Int → Option Int
  | 0, _, _ => none
  | n + 1, x3, x4 =>
    if x4 < M 38 40 then
      (f_X10_partIn x4 x1 M).bind fun r416 =>
      if r416 = x2 then
        f_X10_meansIn_L5 x1 x2 M n (w32 (x3 + 1)) (w32 (x4 + 1))
      else
        f_X10_meansIn_L5 x1 x2 M n (w32 (x3 + 0)) (w32 (x4 + 1))
    else
      some x3
set_option maxHeartbeats 4000000 in
theorem t_X10_meansIn_L5 (l : Launch) (g : GG) (ad : Nat → Nat) (S : SW) (M : Mem) (hS : q_ag 38 63 ad S) (x1 : Int) (x2 : Int) {r : Int} : ∀ (n : Nat) (x3 : Int) (x4 : Int), f_X10_meansIn_L5 x1 x2 M n x3 x4 = some r → RW l g MX10_meansIn (q_rm 2 0 0) 0 0 (q_ex S (some (.inl r)) M) 5 S M 0 0 [some (.inr (.inr (some (ad 38)))), some (.inl x1), some (.inl x2), some (.inl x3), some (.inl x4)] [] := by
  intro n
  induction n with
  | zero => intro x3 x4 H; exact absurd H (by simp [f_X10_meansIn_L5])
  | succ n ih =>
    intro x3 x4 H
    rw [f_X10_meansIn_L5] at H
    refine R_iload (i := 4) (dX10_meansIn 4 rfl) rfl ?_
    refine R_aload_n (i := 0) (dX10_meansIn 5 rfl) rfl rfl ?_
    refine R_getI cgX10 38 (cl38 hS) 40 (Nat.le_of_ble_eq_true rfl) rfl (Or.inl tb_1167) (dX10_meansIn 6 rfl) ?_
    refine R_icmp_ge (tgt := 39) (dX10_meansIn 7 rfl) (by decide) (fun hc => ?_) (fun hc => ?_)
    · have H := ite_F H hc
      refine R_iload_n (i := 3) (dX10_meansIn 22 rfl) rfl rfl ?_
      exact R_iret rfl rfl (Nat.zero_le _) (Nat.zero_le _) (dX10_meansIn 23 rfl) ⟨congrArg (fun z => some (Sum.inl z)) (Option.some.inj H), rfl, rfl⟩
    · have H := ite_T H hc
      refine R_iload_n (i := 3) (dX10_meansIn 8 rfl) rfl rfl ?_
      refine R_aload_n (i := 0) (dX10_meansIn 9 rfl) rfl rfl ?_
      refine R_iload (i := 4) (dX10_meansIn 10 rfl) rfl ?_
      refine R_iload_n (i := 1) (dX10_meansIn 11 rfl) rfl rfl ?_
      obtain ⟨r416, hr, H⟩ := op_E H
      refine R_cV (st' := [.inl r416, .inl x3]) [.inl x4, .inl x1] [.inl x3] (t_X10_partIn l g ad S _ hS   x4 x1 hr) msX10_partIn (Or.inl tb_1389) (Or.inl ⟨38, 10, _, _, _, (cl38 hS), rfl⟩) ⟨Nat.le_of_ble_eq_true rfl, Nat.le_of_ble_eq_true rfl⟩ (Nat.zero_le _) (Nat.zero_le _) rfl rfl (Nat.le_of_ble_eq_true rfl) rfl (dX10_meansIn 12 rfl) ?_
      refine R_iload_n (i := 2) (dX10_meansIn 13 rfl) rfl rfl ?_
      refine R_icmp_ne (tgt := 30) (dX10_meansIn 14 rfl) (by decide) (fun hc => ?_) (fun hc => ?_)
      · have H := ite_F H hc
        refine R_iconst (dX10_meansIn 17 rfl) rfl ?_
        refine R_iadd (dX10_meansIn 18 rfl) ?_
        refine R_istore_n (i := 3) (ls' := [some (.inr (.inr (some (ad 38)))), some (.inl x1), some (.inl x2), some (.inl (w32 (x3 + 0))), some (.inl x4)]) (dX10_meansIn 19 rfl) rfl (Nat.le_of_ble_eq_true rfl) (Nat.le_of_ble_eq_true rfl) rfl rfl ?_
        refine R_iinc (i := 4) (ls' := [some (.inr (.inr (some (ad 38)))), some (.inl x1), some (.inl x2), some (.inl (w32 (x3 + 0))), some (.inl (w32 (x4 + 1)))]) (dX10_meansIn 20 rfl) rfl (Nat.le_of_ble_eq_true rfl) rfl rfl ?_
        refine R_goto (tgt := 5) (dX10_meansIn 21 rfl) (by decide) ?_
        exact ih (w32 (x3 + 0)) (w32 (x4 + 1)) H
      · have H := ite_T H hc
        refine R_iconst (dX10_meansIn 15 rfl) rfl ?_
        refine R_goto (tgt := 31) (dX10_meansIn 16 rfl) (by decide) ?_
        refine R_iadd (dX10_meansIn 18 rfl) ?_
        refine R_istore_n (i := 3) (ls' := [some (.inr (.inr (some (ad 38)))), some (.inl x1), some (.inl x2), some (.inl (w32 (x3 + 1))), some (.inl x4)]) (dX10_meansIn 19 rfl) rfl (Nat.le_of_ble_eq_true rfl) (Nat.le_of_ble_eq_true rfl) rfl rfl ?_
        refine R_iinc (i := 4) (ls' := [some (.inr (.inr (some (ad 38)))), some (.inl x1), some (.inl x2), some (.inl (w32 (x3 + 1))), some (.inl (w32 (x4 + 1)))]) (dX10_meansIn 20 rfl) rfl (Nat.le_of_ble_eq_true rfl) rfl rfl ?_
        refine R_goto (tgt := 5) (dX10_meansIn 21 rfl) (by decide) ?_
        exact ih (w32 (x3 + 1)) (w32 (x4 + 1)) H
def f_X10_meansIn (x1 : Int) (x2 : Int) (M : Mem) : Option Int :=
  f_X10_meansIn_L5
    x1 x2 M 100000 0 0
set_option maxHeartbeats 4000000 in
theorem t_X10_meansIn (l : Launch) (g : GG) (ad : Nat → Nat) (S : SW) (M : Mem) (hS : q_ag 38 63 ad S) (x1 : Int) (x2 : Int) {r : Int} (H : f_X10_meansIn x1 x2 M = some r) : CT l g MX10_meansIn 2 0 0 S M [.inr (.inr (some (ad 38))), .inl x1, .inl x2] (q_ex S (some (.inl r)) M) := by
  unfold f_X10_meansIn at H
  refine CT_of (ls0 := [some (.inr (.inr (some (ad 38)))), some (.inl x1), some (.inl x2), none, none]) (by decide +kernel) (Nat.le_of_ble_eq_true rfl) rfl ?_
  refine R_iconst (dX10_meansIn 0 rfl) rfl ?_
  refine R_istore_n (i := 3) (ls' := [some (.inr (.inr (some (ad 38)))), some (.inl x1), some (.inl x2), some (.inl 0), none]) (dX10_meansIn 1 rfl) rfl (Nat.le_of_ble_eq_true rfl) (Nat.le_of_ble_eq_true rfl) rfl rfl ?_
  refine R_iconst (dX10_meansIn 2 rfl) rfl ?_
  refine R_istore (i := 4) (ls' := [some (.inr (.inr (some (ad 38)))), some (.inl x1), some (.inl x2), some (.inl 0), some (.inl 0)]) (dX10_meansIn 3 rfl) (Nat.le_of_ble_eq_true rfl) (Nat.le_of_ble_eq_true rfl) rfl rfl ?_
  exact t_X10_meansIn_L5 l g ad S M hS x1 x2  100000 0 0 H 
