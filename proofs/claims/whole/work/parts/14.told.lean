def f_X9_cell (x1 : Int) (x2 : Int) (x3 : Int) (M : Mem) : Option (Int × Mem) :=
  if f_X9_isSheet x1 = 0 then
    some ((-2), M)
  else
    if f_X4_isMissing x1 M = 0 then
      if f_X9_within x2 0 (w32 ((f_X4_sizeOf x1 M) - 1)) = 0 then
        some ((-12), M)
      else
        ob (f_X4_write x1 x2 x3 M) fun r304 M305 =>
        some (1, M305)
    else
      some ((-11), M)
set_option maxHeartbeats 4000000 in
theorem t_X9_cell (l : Launch) (g : GG) (ad : Nat → Nat) (S : SW) (M : Mem) (hS : q_ag 0 38 ad S) (x1 : Int) (x2 : Int) (x3 : Int) {r : Int} {M' : Mem} (H : f_X9_cell x1 x2 x3 M = some (r, M')) : CT l g MX9_cell 4 0 0 S M [.inr (.inr (some (ad 0))), .inl x1, .inl x2, .inl x3] (q_ex S (some (.inl r)) M') := by
  unfold f_X9_cell at H
  refine CT_of (ls0 := [some (.inr (.inr (some (ad 0)))), some (.inl x1), some (.inl x2), some (.inl x3)]) (by decide +kernel) (Nat.le_of_ble_eq_true rfl) rfl ?_
  refine R_iload_n (i := 1) (dX9_cell 0 rfl) rfl rfl ?_
  refine R_cS (st' := [.inl (f_X9_isSheet x1)]) [.inl x1] [] (t_X9_isSheet l g ad S _ hS   x1) msX9_isSheet (Or.inl tb_968) ⟨Nat.le_of_ble_eq_true rfl, Nat.le_of_ble_eq_true rfl⟩ (Nat.zero_le _) (Nat.zero_le _) rfl rfl (Nat.le_of_ble_eq_true rfl) rfl (dX9_cell 1 rfl) ?_
  refine R_if_ne (tgt := 10) (dX9_cell 2 rfl) (by decide) (fun hc => ?_) (fun hc => ?_)
  · have H := ite_F H hc
    refine R_aload_n (i := 0) (dX9_cell 5 rfl) rfl rfl ?_
    refine R_getR cgX9 0 (cl0 hS) 7 (Nat.le_of_ble_eq_true rfl) rfl (Or.inl tb_560) (dX9_cell 6 rfl) ?_
    refine R_iload_n (i := 1) (dX9_cell 7 rfl) rfl rfl ?_
    refine R_cV (st' := [.inl (f_X4_isMissing x1 M)]) [.inl x1] [] (t_X4_isMissing l g ad S _ hS   x1) msX4_isMissing (Or.inl tb_971) (Or.inl ⟨33, 4, _, _, _, (cl33 hS), rfl⟩) ⟨Nat.le_of_ble_eq_true rfl, Nat.le_of_ble_eq_true rfl⟩ (Nat.zero_le _) (Nat.zero_le _) rfl rfl (Nat.le_of_ble_eq_true rfl) rfl (dX9_cell 8 rfl) ?_
    refine R_if_eq (tgt := 24) (dX9_cell 9 rfl) (by decide) (fun hc => ?_) (fun hc => ?_)
    · have H := ite_T H hc
      refine R_iload_n (i := 2) (dX9_cell 12 rfl) rfl rfl ?_
      refine R_iconst (dX9_cell 13 rfl) rfl ?_
      refine R_aload_n (i := 0) (dX9_cell 14 rfl) rfl rfl ?_
      refine R_getR cgX9 0 (cl0 hS) 7 (Nat.le_of_ble_eq_true rfl) rfl (Or.inl tb_560) (dX9_cell 15 rfl) ?_
      refine R_iload_n (i := 1) (dX9_cell 16 rfl) rfl rfl ?_
      refine R_cV (st' := [.inl (f_X4_sizeOf x1 M), .inl 0, .inl x2]) [.inl x1] [.inl 0, .inl x2] (t_X4_sizeOf l g ad S _ hS   x1) msX4_sizeOf (Or.inl tb_980) (Or.inl ⟨33, 4, _, _, _, (cl33 hS), rfl⟩) ⟨Nat.le_of_ble_eq_true rfl, Nat.le_of_ble_eq_true rfl⟩ (Nat.zero_le _) (Nat.zero_le _) rfl rfl (Nat.le_of_ble_eq_true rfl) rfl (dX9_cell 17 rfl) ?_
      refine R_iconst (dX9_cell 18 rfl) rfl ?_
      refine R_isub (dX9_cell 19 rfl) ?_
      refine R_cS (st' := [.inl (f_X9_within x2 0 (w32 ((f_X4_sizeOf x1 M) - 1)))]) [.inl x2, .inl 0, .inl (w32 ((f_X4_sizeOf x1 M) - 1))] [] (t_X9_within l g S _   x2 0 (w32 ((f_X4_sizeOf x1 M) - 1))) msX9_within (Or.inl tb_603) ⟨Nat.le_of_ble_eq_true rfl, Nat.le_of_ble_eq_true rfl⟩ (Nat.zero_le _) (Nat.zero_le _) rfl rfl (Nat.le_of_ble_eq_true rfl) rfl (dX9_cell 20 rfl) ?_
      refine R_if_ne (tgt := 45) (dX9_cell 21 rfl) (by decide) (fun hc => ?_) (fun hc => ?_)
      · have H := ite_F H hc
        refine R_aload_n (i := 0) (dX9_cell 24 rfl) rfl rfl ?_
        refine R_getR cgX9 0 (cl0 hS) 7 (Nat.le_of_ble_eq_true rfl) rfl (Or.inl tb_560) (dX9_cell 25 rfl) ?_
        refine R_iload_n (i := 1) (dX9_cell 26 rfl) rfl rfl ?_
        refine R_iload_n (i := 2) (dX9_cell 27 rfl) rfl rfl ?_
        refine R_iload_n (i := 3) (dX9_cell 28 rfl) rfl rfl ?_
        obtain ⟨r304, M305, hr, H⟩ := ob_E H
        refine R_cV (st' := []) [.inl x1, .inl x2, .inl x3] [] (t_X4_write l g ad S _ hS   x1 x2 x3 hr) msX4_write (Or.inl tb_1001) (Or.inl ⟨33, 4, _, _, _, (cl33 hS), rfl⟩) ⟨Nat.le_of_ble_eq_true rfl, Nat.le_of_ble_eq_true rfl⟩ (Nat.zero_le _) (Nat.zero_le _) rfl rfl (Nat.le_of_ble_eq_true rfl) rfl (dX9_cell 29 rfl) ?_
        refine R_iconst (dX9_cell 30 rfl) rfl ?_
        exact R_iret rfl rfl (Nat.zero_le _) (Nat.zero_le _) (dX9_cell 31 rfl) ⟨congrArg (fun z => some (Sum.inl z)) (Prod.mk.inj (Option.some.inj H)).1, rfl, (Prod.mk.inj (Option.some.inj H)).2⟩
      · have H := ite_T H hc
        refine R_bipush (dX9_cell 22 rfl) rfl rfl ?_
        exact R_iret rfl rfl (Nat.zero_le _) (Nat.zero_le _) (dX9_cell 23 rfl) ⟨congrArg (fun z => some (Sum.inl z)) (Prod.mk.inj (Option.some.inj H)).1, rfl, (Prod.mk.inj (Option.some.inj H)).2⟩
    · have H := ite_F H hc
      refine R_bipush (dX9_cell 10 rfl) rfl rfl ?_
      exact R_iret rfl rfl (Nat.zero_le _) (Nat.zero_le _) (dX9_cell 11 rfl) ⟨congrArg (fun z => some (Sum.inl z)) (Prod.mk.inj (Option.some.inj H)).1, rfl, (Prod.mk.inj (Option.some.inj H)).2⟩
  · have H := ite_T H hc
    refine R_bipush (dX9_cell 3 rfl) rfl rfl ?_
    exact R_iret rfl rfl (Nat.zero_le _) (Nat.zero_le _) (dX9_cell 4 rfl) ⟨congrArg (fun z => some (Sum.inl z)) (Prod.mk.inj (Option.some.inj H)).1, rfl, (Prod.mk.inj (Option.some.inj H)).2⟩
def f_X9_copy (x1 : Int) (x2 : Int) (x3 : Int) (x4 : Int) (x5 : Int) (M : Mem) : Option (Int × Mem) :=
  if f_X9_isSheet x1 = 0 then
    some ((-2), M)
  else
    if f_X9_isSheet x3 = 0 then
      some ((-2), M)
    else
      if f_X4_isMissing x1 M = 0 then
        if f_X4_isMissing x3 M = 0 then
          if f_X4_sortOf x1 M = f_X4_sortOf x3 M then
            if x5 < 0 then
              some ((-12), M)
            else
              if f_X9_within x2 0 (w32 ((f_X4_sizeOf x1 M) - x5)) = 0 then
                some ((-12), M)
              else
                if f_X9_within x4 0 (w32 ((f_X4_sizeOf x3 M) - x5)) = 0 then
                  some ((-12), M)
                else
                  ob (f_X4_move x1 x2 x3 x4 x5 M) fun r306 M307 =>
                  some (x5, M307)
          else
            some ((-13), M)
        else
          some ((-11), M)
      else
        some ((-11), M)
set_option maxHeartbeats 4000000 in
theorem t_X9_copy (l : Launch) (g : GG) (ad : Nat → Nat) (S : SW) (M : Mem) (hS : q_ag 0 38 ad S) (x1 : Int) (x2 : Int) (x3 : Int) (x4 : Int) (x5 : Int) {r : Int} {M' : Mem} (H : f_X9_copy x1 x2 x3 x4 x5 M = some (r, M')) : CT l g MX9_copy 4 0 0 S M [.inr (.inr (some (ad 0))), .inl x1, .inl x2, .inl x3, .inl x4, .inl x5] (q_ex S (some (.inl r)) M') := by
  unfold f_X9_copy at H
  refine CT_of (ls0 := [some (.inr (.inr (some (ad 0)))), some (.inl x1), some (.inl x2), some (.inl x3), some (.inl x4), some (.inl x5)]) (by decide +kernel) (Nat.le_of_ble_eq_true rfl) rfl ?_
  refine R_iload_n (i := 1) (dX9_copy_0 0 rfl) rfl rfl ?_
  refine R_cS (st' := [.inl (f_X9_isSheet x1)]) [.inl x1] [] (t_X9_isSheet l g ad S _ hS   x1) msX9_isSheet (Or.inl tb_968) ⟨Nat.le_of_ble_eq_true rfl, Nat.le_of_ble_eq_true rfl⟩ (Nat.zero_le _) (Nat.zero_le _) rfl rfl (Nat.le_of_ble_eq_true rfl) rfl (dX9_copy_0 1 rfl) ?_
  refine R_if_eq (tgt := 14) (dX9_copy_0 2 rfl) (by decide) (fun hc => ?_) (fun hc => ?_)
  · have H := ite_T H hc
    refine R_bipush (dX9_copy_0 6 rfl) rfl rfl ?_
    exact R_iret rfl rfl (Nat.zero_le _) (Nat.zero_le _) (dX9_copy_0 7 rfl) ⟨congrArg (fun z => some (Sum.inl z)) (Prod.mk.inj (Option.some.inj H)).1, rfl, (Prod.mk.inj (Option.some.inj H)).2⟩
  · have H := ite_F H hc
    refine R_iload_n (i := 3) (dX9_copy_0 3 rfl) rfl rfl ?_
    refine R_cS (st' := [.inl (f_X9_isSheet x3)]) [.inl x3] [] (t_X9_isSheet l g ad S _ hS   x3) msX9_isSheet (Or.inl tb_968) ⟨Nat.le_of_ble_eq_true rfl, Nat.le_of_ble_eq_true rfl⟩ (Nat.zero_le _) (Nat.zero_le _) rfl rfl (Nat.le_of_ble_eq_true rfl) rfl (dX9_copy_0 4 rfl) ?_
    refine R_if_ne (tgt := 17) (dX9_copy_0 5 rfl) (by decide) (fun hc => ?_) (fun hc => ?_)
    · have H := ite_F H hc
      refine R_aload_n (i := 0) (dX9_copy_0 8 rfl) rfl rfl ?_
      refine R_getR cgX9 0 (cl0 hS) 7 (Nat.le_of_ble_eq_true rfl) rfl (Or.inl tb_560) (dX9_copy_0 9 rfl) ?_
      refine R_iload_n (i := 1) (dX9_copy_0 10 rfl) rfl rfl ?_
      refine R_cV (st' := [.inl (f_X4_isMissing x1 M)]) [.inl x1] [] (t_X4_isMissing l g ad S _ hS   x1) msX4_isMissing (Or.inl tb_971) (Or.inl ⟨33, 4, _, _, _, (cl33 hS), rfl⟩) ⟨Nat.le_of_ble_eq_true rfl, Nat.le_of_ble_eq_true rfl⟩ (Nat.zero_le _) (Nat.zero_le _) rfl rfl (Nat.le_of_ble_eq_true rfl) rfl (dX9_copy_0 11 rfl) ?_
      refine R_if_ne (tgt := 39) (dX9_copy_0 12 rfl) (by decide) (fun hc => ?_) (fun hc => ?_)
      · have H := ite_F H hc
        refine R_bipush (dX9_copy_0 18 rfl) rfl rfl ?_
        exact R_iret rfl rfl (Nat.zero_le _) (Nat.zero_le _) (dX9_copy_0 19 rfl) ⟨congrArg (fun z => some (Sum.inl z)) (Prod.mk.inj (Option.some.inj H)).1, rfl, (Prod.mk.inj (Option.some.inj H)).2⟩
      · have H := ite_T H hc
        refine R_aload_n (i := 0) (dX9_copy_0 13 rfl) rfl rfl ?_
        refine R_getR cgX9 0 (cl0 hS) 7 (Nat.le_of_ble_eq_true rfl) rfl (Or.inl tb_560) (dX9_copy_0 14 rfl) ?_
        refine R_iload_n (i := 3) (dX9_copy_0 15 rfl) rfl rfl ?_
        refine R_cV (st' := [.inl (f_X4_isMissing x3 M)]) [.inl x3] [] (t_X4_isMissing l g ad S _ hS   x3) msX4_isMissing (Or.inl tb_971) (Or.inl ⟨33, 4, _, _, _, (cl33 hS), rfl⟩) ⟨Nat.le_of_ble_eq_true rfl, Nat.le_of_ble_eq_true rfl⟩ (Nat.zero_le _) (Nat.zero_le _) rfl rfl (Nat.le_of_ble_eq_true rfl) rfl (dX9_copy_0 16 rfl) ?_
        refine R_if_eq (tgt := 42) (dX9_copy_0 17 rfl) (by decide) (fun hc => ?_) (fun hc => ?_)
        · have H := ite_T H hc
          refine R_aload_n (i := 0) (dX9_copy_0 20 rfl) rfl rfl ?_
          refine R_getR cgX9 0 (cl0 hS) 7 (Nat.le_of_ble_eq_true rfl) rfl (Or.inl tb_560) (dX9_copy_0 21 rfl) ?_
          refine R_iload_n (i := 1) (dX9_copy_0 22 rfl) rfl rfl ?_
          refine R_cV (st' := [.inl (f_X4_sortOf x1 M)]) [.inl x1] [] (t_X4_sortOf l g ad S _ hS   x1) msX4_sortOf (Or.inl tb_1049) (Or.inl ⟨33, 4, _, _, _, (cl33 hS), rfl⟩) ⟨Nat.le_of_ble_eq_true rfl, Nat.le_of_ble_eq_true rfl⟩ (Nat.zero_le _) (Nat.zero_le _) rfl rfl (Nat.le_of_ble_eq_true rfl) rfl (dX9_copy_0 23 rfl) ?_
          refine R_aload_n (i := 0) (dX9_copy_0 24 rfl) rfl rfl ?_
          refine R_getR cgX9 0 (cl0 hS) 7 (Nat.le_of_ble_eq_true rfl) rfl (Or.inl tb_560) (dX9_copy_0 25 rfl) ?_
          refine R_iload_n (i := 3) (dX9_copy_0 26 rfl) rfl rfl ?_
          refine R_cV (st' := [.inl (f_X4_sortOf x3 M), .inl (f_X4_sortOf x1 M)]) [.inl x3] [.inl (f_X4_sortOf x1 M)] (t_X4_sortOf l g ad S _ hS   x3) msX4_sortOf (Or.inl tb_1049) (Or.inl ⟨33, 4, _, _, _, (cl33 hS), rfl⟩) ⟨Nat.le_of_ble_eq_true rfl, Nat.le_of_ble_eq_true rfl⟩ (Nat.zero_le _) (Nat.zero_le _) rfl rfl (Nat.le_of_ble_eq_true rfl) rfl (dX9_copy_0 27 rfl) ?_
          refine R_icmp_eq (tgt := 64) (dX9_copy_0 28 rfl) (by decide) (fun hc => ?_) (fun hc => ?_)
          · have H := ite_T H hc
            refine R_iload (i := 5) (dX9_copy_0 31 rfl) rfl ?_
            refine R_if_lt (tgt := 108) (dX9_copy_0 32 rfl) (by decide) (fun hc => ?_) (fun hc => ?_)
            · have H := ite_T H hc
              refine R_bipush (dX9_copy_0 53 rfl) rfl rfl ?_
              exact R_iret rfl rfl (Nat.zero_le _) (Nat.zero_le _) (dX9_copy_0 54 rfl) ⟨congrArg (fun z => some (Sum.inl z)) (Prod.mk.inj (Option.some.inj H)).1, rfl, (Prod.mk.inj (Option.some.inj H)).2⟩
            · have H := ite_F H hc
              refine R_iload_n (i := 2) (dX9_copy_0 33 rfl) rfl rfl ?_
              refine R_iconst (dX9_copy_0 34 rfl) rfl ?_
              refine R_aload_n (i := 0) (dX9_copy_0 35 rfl) rfl rfl ?_
              refine R_getR cgX9 0 (cl0 hS) 7 (Nat.le_of_ble_eq_true rfl) rfl (Or.inl tb_560) (dX9_copy_0 36 rfl) ?_
              refine R_iload_n (i := 1) (dX9_copy_0 37 rfl) rfl rfl ?_
              refine R_cV (st' := [.inl (f_X4_sizeOf x1 M), .inl 0, .inl x2]) [.inl x1] [.inl 0, .inl x2] (t_X4_sizeOf l g ad S _ hS   x1) msX4_sizeOf (Or.inl tb_980) (Or.inl ⟨33, 4, _, _, _, (cl33 hS), rfl⟩) ⟨Nat.le_of_ble_eq_true rfl, Nat.le_of_ble_eq_true rfl⟩ (Nat.zero_le _) (Nat.zero_le _) rfl rfl (Nat.le_of_ble_eq_true rfl) rfl (dX9_copy_0 38 rfl) ?_
              refine R_iload (i := 5) (dX9_copy_0 39 rfl) rfl ?_
              refine R_isub (dX9_copy_0 40 rfl) ?_
              refine R_cS (st' := [.inl (f_X9_within x2 0 (w32 ((f_X4_sizeOf x1 M) - x5)))]) [.inl x2, .inl 0, .inl (w32 ((f_X4_sizeOf x1 M) - x5))] [] (t_X9_within l g S _   x2 0 (w32 ((f_X4_sizeOf x1 M) - x5))) msX9_within (Or.inl tb_603) ⟨Nat.le_of_ble_eq_true rfl, Nat.le_of_ble_eq_true rfl⟩ (Nat.zero_le _) (Nat.zero_le _) rfl rfl (Nat.le_of_ble_eq_true rfl) rfl (dX9_copy_0 41 rfl) ?_
              refine R_if_eq (tgt := 108) (dX9_copy_0 42 rfl) (by decide) (fun hc => ?_) (fun hc => ?_)
              · have H := ite_T H hc
                refine R_bipush (dX9_copy_0 53 rfl) rfl rfl ?_
                exact R_iret rfl rfl (Nat.zero_le _) (Nat.zero_le _) (dX9_copy_0 54 rfl) ⟨congrArg (fun z => some (Sum.inl z)) (Prod.mk.inj (Option.some.inj H)).1, rfl, (Prod.mk.inj (Option.some.inj H)).2⟩
              · have H := ite_F H hc
                refine R_iload (i := 4) (dX9_copy_0 43 rfl) rfl ?_
                refine R_iconst (dX9_copy_0 44 rfl) rfl ?_
                refine R_aload_n (i := 0) (dX9_copy_0 45 rfl) rfl rfl ?_
                refine R_getR cgX9 0 (cl0 hS) 7 (Nat.le_of_ble_eq_true rfl) rfl (Or.inl tb_560) (dX9_copy_0 46 rfl) ?_
                refine R_iload_n (i := 3) (dX9_copy_0 47 rfl) rfl rfl ?_
                refine R_cV (st' := [.inl (f_X4_sizeOf x3 M), .inl 0, .inl x4]) [.inl x3] [.inl 0, .inl x4] (t_X4_sizeOf l g ad S _ hS   x3) msX4_sizeOf (Or.inl tb_980) (Or.inl ⟨33, 4, _, _, _, (cl33 hS), rfl⟩) ⟨Nat.le_of_ble_eq_true rfl, Nat.le_of_ble_eq_true rfl⟩ (Nat.zero_le _) (Nat.zero_le _) rfl rfl (Nat.le_of_ble_eq_true rfl) rfl (dX9_copy_0 48 rfl) ?_
                refine R_iload (i := 5) (dX9_copy_0 49 rfl) rfl ?_
                refine R_isub (dX9_copy_0 50 rfl) ?_
                refine R_cS (st' := [.inl (f_X9_within x4 0 (w32 ((f_X4_sizeOf x3 M) - x5)))]) [.inl x4, .inl 0, .inl (w32 ((f_X4_sizeOf x3 M) - x5))] [] (t_X9_within l g S _   x4 0 (w32 ((f_X4_sizeOf x3 M) - x5))) msX9_within (Or.inl tb_603) ⟨Nat.le_of_ble_eq_true rfl, Nat.le_of_ble_eq_true rfl⟩ (Nat.zero_le _) (Nat.zero_le _) rfl rfl (Nat.le_of_ble_eq_true rfl) rfl (dX9_copy_0 51 rfl) ?_
                refine R_if_ne (tgt := 111) (dX9_copy_0 52 rfl) (by decide) (fun hc => ?_) (fun hc => ?_)
                · have H := ite_F H hc
                  refine R_aload_n (i := 0) (dX9_copy_0 55 rfl) rfl rfl ?_
                  refine R_getR cgX9 0 (cl0 hS) 7 (Nat.le_of_ble_eq_true rfl) rfl (Or.inl tb_560) (dX9_copy_0 56 rfl) ?_
                  refine R_iload_n (i := 1) (dX9_copy_0 57 rfl) rfl rfl ?_
                  refine R_iload_n (i := 2) (dX9_copy_0 58 rfl) rfl rfl ?_
                  refine R_iload_n (i := 3) (dX9_copy_0 59 rfl) rfl rfl ?_
                  refine R_iload (i := 4) (dX9_copy_1 0 rfl) rfl ?_
                  refine R_iload (i := 5) (dX9_copy_1 1 rfl) rfl ?_
                  obtain ⟨r306, M307, hr, H⟩ := ob_E H
                  refine R_cV (st' := []) [.inl x1, .inl x2, .inl x3, .inl x4, .inl x5] [] (t_X4_move l g ad S _ hS   x1 x2 x3 x4 x5 hr) msX4_move (Or.inl tb_1050) (Or.inl ⟨33, 4, _, _, _, (cl33 hS), rfl⟩) ⟨Nat.le_of_ble_eq_true rfl, Nat.le_of_ble_eq_true rfl⟩ (Nat.zero_le _) (Nat.zero_le _) rfl rfl (Nat.le_of_ble_eq_true rfl) rfl (dX9_copy_1 2 rfl) ?_
                  refine R_iload (i := 5) (dX9_copy_1 3 rfl) rfl ?_
                  exact R_iret rfl rfl (Nat.zero_le _) (Nat.zero_le _) (dX9_copy_1 4 rfl) ⟨congrArg (fun z => some (Sum.inl z)) (Prod.mk.inj (Option.some.inj H)).1, rfl, (Prod.mk.inj (Option.some.inj H)).2⟩
                · have H := ite_T H hc
                  refine R_bipush (dX9_copy_0 53 rfl) rfl rfl ?_
                  exact R_iret rfl rfl (Nat.zero_le _) (Nat.zero_le _) (dX9_copy_0 54 rfl) ⟨congrArg (fun z => some (Sum.inl z)) (Prod.mk.inj (Option.some.inj H)).1, rfl, (Prod.mk.inj (Option.some.inj H)).2⟩
          · have H := ite_F H hc
            refine R_bipush (dX9_copy_0 29 rfl) rfl rfl ?_
            exact R_iret rfl rfl (Nat.zero_le _) (Nat.zero_le _) (dX9_copy_0 30 rfl) ⟨congrArg (fun z => some (Sum.inl z)) (Prod.mk.inj (Option.some.inj H)).1, rfl, (Prod.mk.inj (Option.some.inj H)).2⟩
        · have H := ite_F H hc
          refine R_bipush (dX9_copy_0 18 rfl) rfl rfl ?_
          exact R_iret rfl rfl (Nat.zero_le _) (Nat.zero_le _) (dX9_copy_0 19 rfl) ⟨congrArg (fun z => some (Sum.inl z)) (Prod.mk.inj (Option.some.inj H)).1, rfl, (Prod.mk.inj (Option.some.inj H)).2⟩
    · have H := ite_T H hc
      refine R_bipush (dX9_copy_0 6 rfl) rfl rfl ?_
      exact R_iret rfl rfl (Nat.zero_le _) (Nat.zero_le _) (dX9_copy_0 7 rfl) ⟨congrArg (fun z => some (Sum.inl z)) (Prod.mk.inj (Option.some.inj H)).1, rfl, (Prod.mk.inj (Option.some.inj H)).2⟩
def f_X9_linesBy_L65 (x1 : Int) (x3 : Int) (x4 : Int) : Nat → Int → Int → Mem → Option (Int × Mem)
  | 0, _, _, _ => none
  | n + 1, x5, x6, M =>
    if x6 < x4 then
      if f_X9_within x3 0 (w32 ((w32 ((f_X4_sizeOf x1 M) - (w32 (2 * x6)))) - 2)) = 0 then
        some ((-12), M)
      else
        if f_X3_mayStand (f_X4_read x1 (w32 (x3 + (w32 (2 * x6)))) M) (f_X4_read x1 (w32 ((w32 (x3 + (w32 (2 * x6)))) + 1)) M) = 0 then
          f_X9_linesBy_L65 x1 x3 x4 n x5 (w32 (x6 + 1)) M
        else
          if M 3 3 < 10 then
            ob (f_X9_addLine (f_X4_read x1 (w32 (x3 + (w32 (2 * x6)))) M) (f_X4_read x1 (w32 ((w32 (x3 + (w32 (2 * x6)))) + 1)) M) M) fun r308 M309 =>
            f_X9_linesBy_L65 x1 x3 x4 n (w32 (x5 + 1)) (w32 (x6 + 1)) M309
          else
            f_X9_linesBy_L65 x1 x3 x4 n x5 (w32 (x6 + 1)) M
    else
      some (x5, M)
set_option maxHeartbeats 4000000 in
theorem t_X9_linesBy_L65 (l : Launch) (g : GG) (ad : Nat → Nat) (S : SW) (hS : q_ag 0 38 ad S) (x1 : Int) (x3 : Int) (x4 : Int) {r : Int} {M' : Mem} : ∀ (n : Nat) (x5 : Int) (x6 : Int) (M : Mem), f_X9_linesBy_L65 x1 x3 x4 n x5 x6 M = some (r, M') → RW l g MX9_linesBy (q_rm 6 0 0) 0 0 (q_ex S (some (.inl r)) M') 65 S M 0 0 [some (.inr (.inr (some (ad 0)))), some (.inl x1), none, some (.inl x3), some (.inl x4), some (.inl x5), some (.inl x6), none, none] [] := by
  intro n
  induction n with
  | zero => intro x5 x6 M H; exact absurd H (by simp [f_X9_linesBy_L65])
  | succ n ih =>
    intro x5 x6 M H
    rw [f_X9_linesBy_L65] at H
    refine R_iload (i := 6) (dX9_linesBy_0 34 rfl) rfl ?_
    refine R_iload (i := 4) (dX9_linesBy_0 35 rfl) rfl ?_
    refine R_icmp_ge (tgt := 172) (dX9_linesBy_0 36 rfl) (by decide) (fun hc => ?_) (fun hc => ?_)
    · have H := ite_F H hc
      refine R_iload (i := 5) (dX9_linesBy_1 32 rfl) rfl ?_
      exact R_iret rfl rfl (Nat.zero_le _) (Nat.zero_le _) (dX9_linesBy_1 33 rfl) ⟨congrArg (fun z => some (Sum.inl z)) (Prod.mk.inj (Option.some.inj H)).1, rfl, (Prod.mk.inj (Option.some.inj H)).2⟩
    · have H := ite_T H hc
      refine R_iload_n (i := 3) (dX9_linesBy_0 37 rfl) rfl rfl ?_
      refine R_iconst (dX9_linesBy_0 38 rfl) rfl ?_
      refine R_aload_n (i := 0) (dX9_linesBy_0 39 rfl) rfl rfl ?_
      refine R_getR cgX9 0 (cl0 hS) 7 (Nat.le_of_ble_eq_true rfl) rfl (Or.inl tb_560) (dX9_linesBy_0 40 rfl) ?_
      refine R_iload_n (i := 1) (dX9_linesBy_0 41 rfl) rfl rfl ?_
      refine R_cV (st' := [.inl (f_X4_sizeOf x1 M), .inl 0, .inl x3]) [.inl x1] [.inl 0, .inl x3] (t_X4_sizeOf l g ad S _ hS   x1) msX4_sizeOf (Or.inl tb_980) (Or.inl ⟨33, 4, _, _, _, (cl33 hS), rfl⟩) ⟨Nat.le_of_ble_eq_true rfl, Nat.le_of_ble_eq_true rfl⟩ (Nat.zero_le _) (Nat.zero_le _) rfl rfl (Nat.le_of_ble_eq_true rfl) rfl (dX9_linesBy_0 42 rfl) ?_
      refine R_iconst (dX9_linesBy_0 43 rfl) rfl ?_
      refine R_iload (i := 6) (dX9_linesBy_0 44 rfl) rfl ?_
      refine R_imul (dX9_linesBy_0 45 rfl) ?_
      refine R_isub (dX9_linesBy_0 46 rfl) ?_
      refine R_iconst (dX9_linesBy_0 47 rfl) rfl ?_
      refine R_isub (dX9_linesBy_0 48 rfl) ?_
      refine R_cS (st' := [.inl (f_X9_within x3 0 (w32 ((w32 ((f_X4_sizeOf x1 M) - (w32 (2 * x6)))) - 2)))]) [.inl x3, .inl 0, .inl (w32 ((w32 ((f_X4_sizeOf x1 M) - (w32 (2 * x6)))) - 2))] [] (t_X9_within l g S _   x3 0 (w32 ((w32 ((f_X4_sizeOf x1 M) - (w32 (2 * x6)))) - 2))) msX9_within (Or.inl tb_603) ⟨Nat.le_of_ble_eq_true rfl, Nat.le_of_ble_eq_true rfl⟩ (Nat.zero_le _) (Nat.zero_le _) rfl rfl (Nat.le_of_ble_eq_true rfl) rfl (dX9_linesBy_0 49 rfl) ?_
      refine R_if_ne (tgt := 98) (dX9_linesBy_0 50 rfl) (by decide) (fun hc => ?_) (fun hc => ?_)
      · have H := ite_F H hc
        refine R_aload_n (i := 0) (dX9_linesBy_0 53 rfl) rfl rfl ?_
        refine R_getR cgX9 0 (cl0 hS) 7 (Nat.le_of_ble_eq_true rfl) rfl (Or.inl tb_560) (dX9_linesBy_0 54 rfl) ?_
        refine R_iload_n (i := 1) (dX9_linesBy_0 55 rfl) rfl rfl ?_
        refine R_iload_n (i := 3) (dX9_linesBy_0 56 rfl) rfl rfl ?_
        refine R_iconst (dX9_linesBy_0 57 rfl) rfl ?_
        refine R_iload (i := 6) (dX9_linesBy_0 58 rfl) rfl ?_
        refine R_imul (dX9_linesBy_0 59 rfl) ?_
        refine R_iadd (dX9_linesBy_1 0 rfl) ?_
        refine R_cV (st' := [.inl (f_X4_read x1 (w32 (x3 + (w32 (2 * x6)))) M)]) [.inl x1, .inl (w32 (x3 + (w32 (2 * x6))))] [] (t_X4_read l g ad S _ hS   x1 (w32 (x3 + (w32 (2 * x6))))) msX4_read (Or.inl tb_988) (Or.inl ⟨33, 4, _, _, _, (cl33 hS), rfl⟩) ⟨Nat.le_of_ble_eq_true rfl, Nat.le_of_ble_eq_true rfl⟩ (Nat.zero_le _) (Nat.zero_le _) rfl rfl (Nat.le_of_ble_eq_true rfl) rfl (dX9_linesBy_1 1 rfl) ?_
        refine R_istore (i := 7) (ls' := [some (.inr (.inr (some (ad 0)))), some (.inl x1), none, some (.inl x3), some (.inl x4), some (.inl x5), some (.inl x6), some (.inl (f_X4_read x1 (w32 (x3 + (w32 (2 * x6)))) M)), none]) (dX9_linesBy_1 2 rfl) (Nat.le_of_ble_eq_true rfl) (Nat.le_of_ble_eq_true rfl) rfl rfl ?_
        refine R_aload_n (i := 0) (dX9_linesBy_1 3 rfl) rfl rfl ?_
        refine R_getR cgX9 0 (cl0 hS) 7 (Nat.le_of_ble_eq_true rfl) rfl (Or.inl tb_560) (dX9_linesBy_1 4 rfl) ?_
        refine R_iload_n (i := 1) (dX9_linesBy_1 5 rfl) rfl rfl ?_
        refine R_iload_n (i := 3) (dX9_linesBy_1 6 rfl) rfl rfl ?_
        refine R_iconst (dX9_linesBy_1 7 rfl) rfl ?_
        refine R_iload (i := 6) (dX9_linesBy_1 8 rfl) rfl ?_
        refine R_imul (dX9_linesBy_1 9 rfl) ?_
        refine R_iadd (dX9_linesBy_1 10 rfl) ?_
        refine R_iconst (dX9_linesBy_1 11 rfl) rfl ?_
        refine R_iadd (dX9_linesBy_1 12 rfl) ?_
        refine R_cV (st' := [.inl (f_X4_read x1 (w32 ((w32 (x3 + (w32 (2 * x6)))) + 1)) M)]) [.inl x1, .inl (w32 ((w32 (x3 + (w32 (2 * x6)))) + 1))] [] (t_X4_read l g ad S _ hS   x1 (w32 ((w32 (x3 + (w32 (2 * x6)))) + 1))) msX4_read (Or.inl tb_988) (Or.inl ⟨33, 4, _, _, _, (cl33 hS), rfl⟩) ⟨Nat.le_of_ble_eq_true rfl, Nat.le_of_ble_eq_true rfl⟩ (Nat.zero_le _) (Nat.zero_le _) rfl rfl (Nat.le_of_ble_eq_true rfl) rfl (dX9_linesBy_1 13 rfl) ?_
        refine R_istore (i := 8) (ls' := [some (.inr (.inr (some (ad 0)))), some (.inl x1), none, some (.inl x3), some (.inl x4), some (.inl x5), some (.inl x6), some (.inl (f_X4_read x1 (w32 (x3 + (w32 (2 * x6)))) M)), some (.inl (f_X4_read x1 (w32 ((w32 (x3 + (w32 (2 * x6)))) + 1)) M))]) (dX9_linesBy_1 14 rfl) (Nat.le_of_ble_eq_true rfl) (Nat.le_of_ble_eq_true rfl) rfl rfl ?_
        refine R_iload (i := 7) (dX9_linesBy_1 15 rfl) rfl ?_
        refine R_iload (i := 8) (dX9_linesBy_1 16 rfl) rfl ?_
        refine R_cS (st' := [.inl (f_X3_mayStand (f_X4_read x1 (w32 (x3 + (w32 (2 * x6)))) M) (f_X4_read x1 (w32 ((w32 (x3 + (w32 (2 * x6)))) + 1)) M))]) [.inl (f_X4_read x1 (w32 (x3 + (w32 (2 * x6)))) M), .inl (f_X4_read x1 (w32 ((w32 (x3 + (w32 (2 * x6)))) + 1)) M)] [] (t_X3_mayStand l g ad S _ hS   (f_X4_read x1 (w32 (x3 + (w32 (2 * x6)))) M) (f_X4_read x1 (w32 ((w32 (x3 + (w32 (2 * x6)))) + 1)) M)) msX3_mayStand (Or.inl tb_597) ⟨Nat.le_of_ble_eq_true rfl, Nat.le_of_ble_eq_true rfl⟩ (Nat.zero_le _) (Nat.zero_le _) rfl rfl (Nat.le_of_ble_eq_true rfl) rfl (dX9_linesBy_1 17 rfl) ?_
        refine R_if_eq (tgt := 166) (dX9_linesBy_1 18 rfl) (by decide) (fun hc => ?_) (fun hc => ?_)
        · have H := ite_T H hc
          refine R_iinc (i := 6) (ls' := [some (.inr (.inr (some (ad 0)))), some (.inl x1), none, some (.inl x3), some (.inl x4), some (.inl x5), some (.inl (w32 (x6 + 1))), some (.inl (f_X4_read x1 (w32 (x3 + (w32 (2 * x6)))) M)), some (.inl (f_X4_read x1 (w32 ((w32 (x3 + (w32 (2 * x6)))) + 1)) M))]) (dX9_linesBy_1 30 rfl) rfl (Nat.le_of_ble_eq_true rfl) rfl rfl ?_
          refine R_goto (tgt := 65) (dX9_linesBy_1 31 rfl) (by decide) ?_
          refine R_mask [true, true, false, true, true, true, true, false, false] rfl ?_
          exact ih x5 (w32 (x6 + 1)) M H
        · have H := ite_F H hc
          refine R_aload_n (i := 0) (dX9_linesBy_1 19 rfl) rfl rfl ?_
          refine R_getR cgX9 0 (cl0 hS) 1 (Nat.le_of_ble_eq_true rfl) rfl (Or.inl tb_554) (dX9_linesBy_1 20 rfl) ?_
          refine R_getI cgX3 3 (cl3 hS) 3 (Nat.le_of_ble_eq_true rfl) rfl (Or.inr ⟨_, tb_140⟩) (dX9_linesBy_1 21 rfl) ?_
          refine R_bipush (dX9_linesBy_1 22 rfl) rfl rfl ?_
          refine R_icmp_ge (tgt := 166) (dX9_linesBy_1 23 rfl) (by decide) (fun hc => ?_) (fun hc => ?_)
          · have H := ite_F H hc
            refine R_iinc (i := 6) (ls' := [some (.inr (.inr (some (ad 0)))), some (.inl x1), none, some (.inl x3), some (.inl x4), some (.inl x5), some (.inl (w32 (x6 + 1))), some (.inl (f_X4_read x1 (w32 (x3 + (w32 (2 * x6)))) M)), some (.inl (f_X4_read x1 (w32 ((w32 (x3 + (w32 (2 * x6)))) + 1)) M))]) (dX9_linesBy_1 30 rfl) rfl (Nat.le_of_ble_eq_true rfl) rfl rfl ?_
            refine R_goto (tgt := 65) (dX9_linesBy_1 31 rfl) (by decide) ?_
            refine R_mask [true, true, false, true, true, true, true, false, false] rfl ?_
            exact ih x5 (w32 (x6 + 1)) M H
          · have H := ite_T H hc
            refine R_aload_n (i := 0) (dX9_linesBy_1 24 rfl) rfl rfl ?_
            refine R_iload (i := 7) (dX9_linesBy_1 25 rfl) rfl ?_
            refine R_iload (i := 8) (dX9_linesBy_1 26 rfl) rfl ?_
            obtain ⟨r308, M309, hr, H⟩ := ob_E H
            refine R_cV (st' := [.inl r308]) [.inl (f_X4_read x1 (w32 (x3 + (w32 (2 * x6)))) M), .inl (f_X4_read x1 (w32 ((w32 (x3 + (w32 (2 * x6)))) + 1)) M)] [] (t_X9_addLine l g ad S _ hS   (f_X4_read x1 (w32 (x3 + (w32 (2 * x6)))) M) (f_X4_read x1 (w32 ((w32 (x3 + (w32 (2 * x6)))) + 1)) M) hr) msX9_addLine (Or.inl tb_611) (Or.inl ⟨0, 9, _, _, _, (cl0 hS), rfl⟩) ⟨Nat.le_of_ble_eq_true rfl, Nat.le_of_ble_eq_true rfl⟩ (Nat.zero_le _) (Nat.zero_le _) rfl rfl (Nat.le_of_ble_eq_true rfl) rfl (dX9_linesBy_1 27 rfl) ?_
            refine R_pop rfl (dX9_linesBy_1 28 rfl) ?_
            refine R_iinc (i := 5) (ls' := [some (.inr (.inr (some (ad 0)))), some (.inl x1), none, some (.inl x3), some (.inl x4), some (.inl (w32 (x5 + 1))), some (.inl x6), some (.inl (f_X4_read x1 (w32 (x3 + (w32 (2 * x6)))) M)), some (.inl (f_X4_read x1 (w32 ((w32 (x3 + (w32 (2 * x6)))) + 1)) M))]) (dX9_linesBy_1 29 rfl) rfl (Nat.le_of_ble_eq_true rfl) rfl rfl ?_
            refine R_iinc (i := 6) (ls' := [some (.inr (.inr (some (ad 0)))), some (.inl x1), none, some (.inl x3), some (.inl x4), some (.inl (w32 (x5 + 1))), some (.inl (w32 (x6 + 1))), some (.inl (f_X4_read x1 (w32 (x3 + (w32 (2 * x6)))) M)), some (.inl (f_X4_read x1 (w32 ((w32 (x3 + (w32 (2 * x6)))) + 1)) M))]) (dX9_linesBy_1 30 rfl) rfl (Nat.le_of_ble_eq_true rfl) rfl rfl ?_
            refine R_goto (tgt := 65) (dX9_linesBy_1 31 rfl) (by decide) ?_
            refine R_mask [true, true, false, true, true, true, true, false, false] rfl ?_
            exact ih (w32 (x5 + 1)) (w32 (x6 + 1)) M309 H
      · have H := ite_T H hc
        refine R_bipush (dX9_linesBy_0 51 rfl) rfl rfl ?_
        exact R_iret rfl rfl (Nat.zero_le _) (Nat.zero_le _) (dX9_linesBy_0 52 rfl) ⟨congrArg (fun z => some (Sum.inl z)) (Prod.mk.inj (Option.some.inj H)).1, rfl, (Prod.mk.inj (Option.some.inj H)).2⟩
def f_X9_linesBy (x1 : Int) (x2 : Int) (x3 : Int) (x4 : Int) (M : Mem) : Option (Int × Mem) :=
  if f_X9_isSheet x1 = 0 then
    some ((-2), M)
  else
    if f_X9_within x2 0 2 = 0 then
      some ((-2), M)
    else
      if f_X9_within x4 0 10 = 0 then
        some ((-2), M)
      else
        if f_X4_isMissing x1 M = 0 then
          if f_X4_sortOf x1 M = x2 then
            f_X9_linesBy_L65
              x1 x3 x4 100000 0 0 M
          else
            some ((-13), M)
        else
          some ((-11), M)
set_option maxHeartbeats 4000000 in
theorem t_X9_linesBy (l : Launch) (g : GG) (ad : Nat → Nat) (S : SW) (M : Mem) (hS : q_ag 0 38 ad S) (x1 : Int) (x2 : Int) (x3 : Int) (x4 : Int) {r : Int} {M' : Mem} (H : f_X9_linesBy x1 x2 x3 x4 M = some (r, M')) : CT l g MX9_linesBy 6 0 0 S M [.inr (.inr (some (ad 0))), .inl x1, .inl x2, .inl x3, .inl x4] (q_ex S (some (.inl r)) M') := by
  unfold f_X9_linesBy at H
  refine CT_of (ls0 := [some (.inr (.inr (some (ad 0)))), some (.inl x1), some (.inl x2), some (.inl x3), some (.inl x4), none, none, none, none]) (by decide +kernel) (Nat.le_of_ble_eq_true rfl) rfl ?_
  refine R_iload_n (i := 1) (dX9_linesBy_0 0 rfl) rfl rfl ?_
  refine R_cS (st' := [.inl (f_X9_isSheet x1)]) [.inl x1] [] (t_X9_isSheet l g ad S _ hS   x1) msX9_isSheet (Or.inl tb_968) ⟨Nat.le_of_ble_eq_true rfl, Nat.le_of_ble_eq_true rfl⟩ (Nat.zero_le _) (Nat.zero_le _) rfl rfl (Nat.le_of_ble_eq_true rfl) rfl (dX9_linesBy_0 1 rfl) ?_
  refine R_if_eq (tgt := 27) (dX9_linesBy_0 2 rfl) (by decide) (fun hc => ?_) (fun hc => ?_)
  · have H := ite_T H hc
    refine R_bipush (dX9_linesBy_0 13 rfl) rfl rfl ?_
    exact R_iret rfl rfl (Nat.zero_le _) (Nat.zero_le _) (dX9_linesBy_0 14 rfl) ⟨congrArg (fun z => some (Sum.inl z)) (Prod.mk.inj (Option.some.inj H)).1, rfl, (Prod.mk.inj (Option.some.inj H)).2⟩
  · have H := ite_F H hc
    refine R_iload_n (i := 2) (dX9_linesBy_0 3 rfl) rfl rfl ?_
    refine R_iconst (dX9_linesBy_0 4 rfl) rfl ?_
    refine R_iconst (dX9_linesBy_0 5 rfl) rfl ?_
    refine R_cS (st' := [.inl (f_X9_within x2 0 2)]) [.inl x2, .inl 0, .inl 2] [] (t_X9_within l g S _   x2 0 2) msX9_within (Or.inl tb_603) ⟨Nat.le_of_ble_eq_true rfl, Nat.le_of_ble_eq_true rfl⟩ (Nat.zero_le _) (Nat.zero_le _) rfl rfl (Nat.le_of_ble_eq_true rfl) rfl (dX9_linesBy_0 6 rfl) ?_
    refine R_if_eq (tgt := 27) (dX9_linesBy_0 7 rfl) (by decide) (fun hc => ?_) (fun hc => ?_)
    · have H := ite_T H hc
      refine R_bipush (dX9_linesBy_0 13 rfl) rfl rfl ?_
      exact R_iret rfl rfl (Nat.zero_le _) (Nat.zero_le _) (dX9_linesBy_0 14 rfl) ⟨congrArg (fun z => some (Sum.inl z)) (Prod.mk.inj (Option.some.inj H)).1, rfl, (Prod.mk.inj (Option.some.inj H)).2⟩
    · have H := ite_F H hc
      refine R_iload (i := 4) (dX9_linesBy_0 8 rfl) rfl ?_
      refine R_iconst (dX9_linesBy_0 9 rfl) rfl ?_
      refine R_bipush (dX9_linesBy_0 10 rfl) rfl rfl ?_
      refine R_cS (st' := [.inl (f_X9_within x4 0 10)]) [.inl x4, .inl 0, .inl 10] [] (t_X9_within l g S _   x4 0 10) msX9_within (Or.inl tb_603) ⟨Nat.le_of_ble_eq_true rfl, Nat.le_of_ble_eq_true rfl⟩ (Nat.zero_le _) (Nat.zero_le _) rfl rfl (Nat.le_of_ble_eq_true rfl) rfl (dX9_linesBy_0 11 rfl) ?_
      refine R_if_ne (tgt := 30) (dX9_linesBy_0 12 rfl) (by decide) (fun hc => ?_) (fun hc => ?_)
      · have H := ite_F H hc
        refine R_aload_n (i := 0) (dX9_linesBy_0 15 rfl) rfl rfl ?_
        refine R_getR cgX9 0 (cl0 hS) 7 (Nat.le_of_ble_eq_true rfl) rfl (Or.inl tb_560) (dX9_linesBy_0 16 rfl) ?_
        refine R_iload_n (i := 1) (dX9_linesBy_0 17 rfl) rfl rfl ?_
        refine R_cV (st' := [.inl (f_X4_isMissing x1 M)]) [.inl x1] [] (t_X4_isMissing l g ad S _ hS   x1) msX4_isMissing (Or.inl tb_971) (Or.inl ⟨33, 4, _, _, _, (cl33 hS), rfl⟩) ⟨Nat.le_of_ble_eq_true rfl, Nat.le_of_ble_eq_true rfl⟩ (Nat.zero_le _) (Nat.zero_le _) rfl rfl (Nat.le_of_ble_eq_true rfl) rfl (dX9_linesBy_0 18 rfl) ?_
        refine R_if_eq (tgt := 44) (dX9_linesBy_0 19 rfl) (by decide) (fun hc => ?_) (fun hc => ?_)
        · have H := ite_T H hc
          refine R_aload_n (i := 0) (dX9_linesBy_0 22 rfl) rfl rfl ?_
          refine R_getR cgX9 0 (cl0 hS) 7 (Nat.le_of_ble_eq_true rfl) rfl (Or.inl tb_560) (dX9_linesBy_0 23 rfl) ?_
          refine R_iload_n (i := 1) (dX9_linesBy_0 24 rfl) rfl rfl ?_
          refine R_cV (st' := [.inl (f_X4_sortOf x1 M)]) [.inl x1] [] (t_X4_sortOf l g ad S _ hS   x1) msX4_sortOf (Or.inl tb_1049) (Or.inl ⟨33, 4, _, _, _, (cl33 hS), rfl⟩) ⟨Nat.le_of_ble_eq_true rfl, Nat.le_of_ble_eq_true rfl⟩ (Nat.zero_le _) (Nat.zero_le _) rfl rfl (Nat.le_of_ble_eq_true rfl) rfl (dX9_linesBy_0 25 rfl) ?_
          refine R_iload_n (i := 2) (dX9_linesBy_0 26 rfl) rfl rfl ?_
          refine R_icmp_eq (tgt := 59) (dX9_linesBy_0 27 rfl) (by decide) (fun hc => ?_) (fun hc => ?_)
          · have H := ite_T H hc
            refine R_iconst (dX9_linesBy_0 30 rfl) rfl ?_
            refine R_istore (i := 5) (ls' := [some (.inr (.inr (some (ad 0)))), some (.inl x1), some (.inl x2), some (.inl x3), some (.inl x4), some (.inl 0), none, none, none]) (dX9_linesBy_0 31 rfl) (Nat.le_of_ble_eq_true rfl) (Nat.le_of_ble_eq_true rfl) rfl rfl ?_
            refine R_iconst (dX9_linesBy_0 32 rfl) rfl ?_
            refine R_istore (i := 6) (ls' := [some (.inr (.inr (some (ad 0)))), some (.inl x1), some (.inl x2), some (.inl x3), some (.inl x4), some (.inl 0), some (.inl 0), none, none]) (dX9_linesBy_0 33 rfl) (Nat.le_of_ble_eq_true rfl) (Nat.le_of_ble_eq_true rfl) rfl rfl ?_
            refine R_mask [true, true, false, true, true, true, true, false, false] rfl ?_
            exact t_X9_linesBy_L65 l g ad S hS x1 x3 x4  100000 0 0 M H 
          · have H := ite_F H hc
            refine R_bipush (dX9_linesBy_0 28 rfl) rfl rfl ?_
            exact R_iret rfl rfl (Nat.zero_le _) (Nat.zero_le _) (dX9_linesBy_0 29 rfl) ⟨congrArg (fun z => some (Sum.inl z)) (Prod.mk.inj (Option.some.inj H)).1, rfl, (Prod.mk.inj (Option.some.inj H)).2⟩
        · have H := ite_F H hc
          refine R_bipush (dX9_linesBy_0 20 rfl) rfl rfl ?_
          exact R_iret rfl rfl (Nat.zero_le _) (Nat.zero_le _) (dX9_linesBy_0 21 rfl) ⟨congrArg (fun z => some (Sum.inl z)) (Prod.mk.inj (Option.some.inj H)).1, rfl, (Prod.mk.inj (Option.some.inj H)).2⟩
      · have H := ite_T H hc
        refine R_bipush (dX9_linesBy_0 13 rfl) rfl rfl ?_
        exact R_iret rfl rfl (Nat.zero_le _) (Nat.zero_le _) (dX9_linesBy_0 14 rfl) ⟨congrArg (fun z => some (Sum.inl z)) (Prod.mk.inj (Option.some.inj H)).1, rfl, (Prod.mk.inj (Option.some.inj H)).2⟩
def f_X9_taken (x1 : Int) (x2 : Int) (M : Mem) : Option Int :=
  if f_X9_within x2 0 6 = 0 then
    some (-2)
  else
    if f_X9_within x1 0 21 = 0 then
      some (-12)
    else
      if w32 (x1 - 10) < 0 then
        if f_X9_isLine x1 M = 0 then
          some (-11)
        else
          if w32 (x1 - 10) < 0 then
            if x2 = 6 then
              some (f_X3_signsOf x1 M)
            else
              some (-13)
          else
            if x2 = 6 then
              some (-13)
            else
              (f_X0_isOne (rd 12 (M 8) (w32 (x1 - 10))) x2 M).bind fun r311 =>
              if r311 = 0 then
                some (-13)
              else
                some (w32 (x1 - 10))
      else
        if w32 (x1 - 10) < M 7 4 then
          if w32 (x1 - 10) < 0 then
            if x2 = 6 then
              some (f_X3_signsOf x1 M)
            else
              some (-13)
          else
            if x2 = 6 then
              some (-13)
            else
              (f_X0_isOne (rd 12 (M 8) (w32 (x1 - 10))) x2 M).bind fun r310 =>
              if r310 = 0 then
                some (-13)
              else
                some (w32 (x1 - 10))
        else
          some (-11)
set_option maxHeartbeats 4000000 in
theorem t_X9_taken (l : Launch) (g : GG) (ad : Nat → Nat) (S : SW) (M : Mem) (hS : q_ag 0 38 ad S) (x1 : Int) (x2 : Int) {r : Int} (H : f_X9_taken x1 x2 M = some r) : CT l g MX9_taken 3 0 0 S M [.inr (.inr (some (ad 0))), .inl x1, .inl x2] (q_ex S (some (.inl r)) M) := by
  unfold f_X9_taken at H
  refine CT_of (ls0 := [some (.inr (.inr (some (ad 0)))), some (.inl x1), some (.inl x2), none]) (by decide +kernel) (Nat.le_of_ble_eq_true rfl) rfl ?_
  refine R_iload_n (i := 2) (dX9_taken 0 rfl) rfl rfl ?_
  refine R_iconst (dX9_taken 1 rfl) rfl ?_
  refine R_bipush (dX9_taken 2 rfl) rfl rfl ?_
  refine R_cS (st' := [.inl (f_X9_within x2 0 6)]) [.inl x2, .inl 0, .inl 6] [] (t_X9_within l g S _   x2 0 6) msX9_within (Or.inl tb_603) ⟨Nat.le_of_ble_eq_true rfl, Nat.le_of_ble_eq_true rfl⟩ (Nat.zero_le _) (Nat.zero_le _) rfl rfl (Nat.le_of_ble_eq_true rfl) rfl (dX9_taken 3 rfl) ?_
  refine R_if_ne (tgt := 13) (dX9_taken 4 rfl) (by decide) (fun hc => ?_) (fun hc => ?_)
  · have H := ite_F H hc
    refine R_iload_n (i := 1) (dX9_taken 7 rfl) rfl rfl ?_
    refine R_iconst (dX9_taken 8 rfl) rfl ?_
    refine R_bipush (dX9_taken 9 rfl) rfl rfl ?_
    refine R_cS (st' := [.inl (f_X9_within x1 0 21)]) [.inl x1, .inl 0, .inl 21] [] (t_X9_within l g S _   x1 0 21) msX9_within (Or.inl tb_603) ⟨Nat.le_of_ble_eq_true rfl, Nat.le_of_ble_eq_true rfl⟩ (Nat.zero_le _) (Nat.zero_le _) rfl rfl (Nat.le_of_ble_eq_true rfl) rfl (dX9_taken 10 rfl) ?_
    refine R_if_ne (tgt := 26) (dX9_taken 11 rfl) (by decide) (fun hc => ?_) (fun hc => ?_)
    · have H := ite_F H hc
      refine R_iload_n (i := 1) (dX9_taken 14 rfl) rfl rfl ?_
      refine R_bipush (dX9_taken 15 rfl) rfl rfl ?_
      refine R_isub (dX9_taken 16 rfl) ?_
      refine R_istore_n (i := 3) (ls' := [some (.inr (.inr (some (ad 0)))), some (.inl x1), some (.inl x2), some (.inl (w32 (x1 - 10)))]) (dX9_taken 17 rfl) rfl (Nat.le_of_ble_eq_true rfl) (Nat.le_of_ble_eq_true rfl) rfl rfl ?_
      refine R_iload_n (i := 3) (dX9_taken 18 rfl) rfl rfl ?_
      refine R_if_ge (tgt := 46) (dX9_taken 19 rfl) (by decide) (fun hc => ?_) (fun hc => ?_)
      · have H := ite_F H hc
        refine R_iload_n (i := 3) (dX9_taken 25 rfl) rfl rfl ?_
        refine R_aload_n (i := 0) (dX9_taken 26 rfl) rfl rfl ?_
        refine R_getR cgX9 0 (cl0 hS) 2 (Nat.le_of_ble_eq_true rfl) rfl (Or.inl tb_555) (dX9_taken 27 rfl) ?_
        refine R_getI cgX0 7 (cl7 hS) 4 (Nat.le_of_ble_eq_true rfl) rfl (Or.inr ⟨_, tb_168⟩) (dX9_taken 28 rfl) ?_
        refine R_icmp_lt (tgt := 60) (dX9_taken 29 rfl) (by decide) (fun hc => ?_) (fun hc => ?_)
        · have H := ite_T H hc
          refine R_iload_n (i := 3) (dX9_taken 32 rfl) rfl rfl ?_
          refine R_if_ge (tgt := 84) (dX9_taken 33 rfl) (by decide) (fun hc => ?_) (fun hc => ?_)
          · have H := ite_F H hc
            refine R_iload_n (i := 2) (dX9_taken 44 rfl) rfl rfl ?_
            refine R_bipush (dX9_taken 45 rfl) rfl rfl ?_
            refine R_icmp_eq (tgt := 112) (dX9_taken 46 rfl) (by decide) (fun hc => ?_) (fun hc => ?_)
            · have H := ite_T H hc
              refine R_bipush (dX9_taken 57 rfl) rfl rfl ?_
              exact R_iret rfl rfl (Nat.zero_le _) (Nat.zero_le _) (dX9_taken 58 rfl) ⟨congrArg (fun z => some (Sum.inl z)) (Option.some.inj H), rfl, rfl⟩
            · have H := ite_F H hc
              refine R_aload_n (i := 0) (dX9_taken 47 rfl) rfl rfl ?_
              refine R_getR cgX9 0 (cl0 hS) 2 (Nat.le_of_ble_eq_true rfl) rfl (Or.inl tb_555) (dX9_taken 48 rfl) ?_
              refine R_getR cgX0 7 (cl7 hS) 0 (Nat.le_of_ble_eq_true rfl) rfl (Or.inr ⟨_, tb_160⟩) (dX9_taken 49 rfl) ?_
              refine R_iload_n (i := 3) (dX9_taken 50 rfl) rfl rfl ?_
              refine R_cS (st' := [.inl (rd 12 (M 8) (w32 (x1 - 10)))]) [.inr (.inr (some (ad 8))), .inl (w32 (x1 - 10))] [] (t_at l g S _ 8 (cl8 hS) (Nat.le_of_ble_eq_true rfl) (w32 (x1 - 10))) msX9_at (Or.inl tb_663) ⟨Nat.le_of_ble_eq_true rfl, Nat.le_of_ble_eq_true rfl⟩ (Nat.zero_le _) (Nat.zero_le _) rfl rfl (Nat.le_of_ble_eq_true rfl) rfl (dX9_taken 51 rfl) ?_
              refine R_iload_n (i := 2) (dX9_taken 52 rfl) rfl rfl ?_
              obtain ⟨r310, hr, H⟩ := op_E H
              refine R_cS (st' := [.inl r310]) [.inl (rd 12 (M 8) (w32 (x1 - 10))), .inl x2] [] (t_X0_isOne l g ad S _ hS   (rd 12 (M 8) (w32 (x1 - 10))) x2 hr) msX0_isOne (Or.inl tb_1064) ⟨Nat.le_of_ble_eq_true rfl, Nat.le_of_ble_eq_true rfl⟩ (Nat.zero_le _) (Nat.zero_le _) rfl rfl (Nat.le_of_ble_eq_true rfl) rfl (dX9_taken 53 rfl) ?_
              refine R_if_eq (tgt := 112) (dX9_taken 54 rfl) (by decide) (fun hc => ?_) (fun hc => ?_)
              · have H := ite_T H hc
                refine R_bipush (dX9_taken 57 rfl) rfl rfl ?_
                exact R_iret rfl rfl (Nat.zero_le _) (Nat.zero_le _) (dX9_taken 58 rfl) ⟨congrArg (fun z => some (Sum.inl z)) (Option.some.inj H), rfl, rfl⟩
              · have H := ite_F H hc
                refine R_iload_n (i := 3) (dX9_taken 55 rfl) rfl rfl ?_
                refine R_goto (tgt := 114) (dX9_taken 56 rfl) (by decide) ?_
                exact R_iret rfl rfl (Nat.zero_le _) (Nat.zero_le _) (dX9_taken 58 rfl) ⟨congrArg (fun z => some (Sum.inl z)) (Option.some.inj H), rfl, rfl⟩
          · have H := ite_T H hc
            refine R_iload_n (i := 2) (dX9_taken 34 rfl) rfl rfl ?_
            refine R_bipush (dX9_taken 35 rfl) rfl rfl ?_
            refine R_icmp_ne (tgt := 81) (dX9_taken 36 rfl) (by decide) (fun hc => ?_) (fun hc => ?_)
            · have H := ite_F H hc
              refine R_bipush (dX9_taken 42 rfl) rfl rfl ?_
              exact R_iret rfl rfl (Nat.zero_le _) (Nat.zero_le _) (dX9_taken 43 rfl) ⟨congrArg (fun z => some (Sum.inl z)) (Option.some.inj H), rfl, rfl⟩
            · have H := ite_T H hc
              refine R_aload_n (i := 0) (dX9_taken 37 rfl) rfl rfl ?_
              refine R_getR cgX9 0 (cl0 hS) 1 (Nat.le_of_ble_eq_true rfl) rfl (Or.inl tb_554) (dX9_taken 38 rfl) ?_
              refine R_iload_n (i := 1) (dX9_taken 39 rfl) rfl rfl ?_
              refine R_cV (st' := [.inl (f_X3_signsOf x1 M)]) [.inl x1] [] (t_X3_signsOf l g ad S _ hS   x1) msX3_signsOf (Or.inl tb_636) (Or.inl ⟨3, 3, _, _, _, (cl3 hS), rfl⟩) ⟨Nat.le_of_ble_eq_true rfl, Nat.le_of_ble_eq_true rfl⟩ (Nat.zero_le _) (Nat.zero_le _) rfl rfl (Nat.le_of_ble_eq_true rfl) rfl (dX9_taken 40 rfl) ?_
              refine R_goto (tgt := 83) (dX9_taken 41 rfl) (by decide) ?_
              exact R_iret rfl rfl (Nat.zero_le _) (Nat.zero_le _) (dX9_taken 43 rfl) ⟨congrArg (fun z => some (Sum.inl z)) (Option.some.inj H), rfl, rfl⟩
        · have H := ite_F H hc
          refine R_bipush (dX9_taken 30 rfl) rfl rfl ?_
          exact R_iret rfl rfl (Nat.zero_le _) (Nat.zero_le _) (dX9_taken 31 rfl) ⟨congrArg (fun z => some (Sum.inl z)) (Option.some.inj H), rfl, rfl⟩
      · have H := ite_T H hc
        refine R_aload_n (i := 0) (dX9_taken 20 rfl) rfl rfl ?_
        refine R_iload_n (i := 1) (dX9_taken 21 rfl) rfl rfl ?_
        refine R_cV (st' := [.inl (f_X9_isLine x1 M)]) [.inl x1] [] (t_X9_isLine l g ad S _ hS   x1) msX9_isLine (Or.inl tb_632) (Or.inl ⟨0, 9, _, _, _, (cl0 hS), rfl⟩) ⟨Nat.le_of_ble_eq_true rfl, Nat.le_of_ble_eq_true rfl⟩ (Nat.zero_le _) (Nat.zero_le _) rfl rfl (Nat.le_of_ble_eq_true rfl) rfl (dX9_taken 22 rfl) ?_
        refine R_if_ne (tgt := 60) (dX9_taken 23 rfl) (by decide) (fun hc => ?_) (fun hc => ?_)
        · have H := ite_F H hc
          refine R_iload_n (i := 3) (dX9_taken 32 rfl) rfl rfl ?_
          refine R_if_ge (tgt := 84) (dX9_taken 33 rfl) (by decide) (fun hc => ?_) (fun hc => ?_)
          · have H := ite_F H hc
            refine R_iload_n (i := 2) (dX9_taken 44 rfl) rfl rfl ?_
            refine R_bipush (dX9_taken 45 rfl) rfl rfl ?_
            refine R_icmp_eq (tgt := 112) (dX9_taken 46 rfl) (by decide) (fun hc => ?_) (fun hc => ?_)
            · have H := ite_T H hc
              refine R_bipush (dX9_taken 57 rfl) rfl rfl ?_
              exact R_iret rfl rfl (Nat.zero_le _) (Nat.zero_le _) (dX9_taken 58 rfl) ⟨congrArg (fun z => some (Sum.inl z)) (Option.some.inj H), rfl, rfl⟩
            · have H := ite_F H hc
              refine R_aload_n (i := 0) (dX9_taken 47 rfl) rfl rfl ?_
              refine R_getR cgX9 0 (cl0 hS) 2 (Nat.le_of_ble_eq_true rfl) rfl (Or.inl tb_555) (dX9_taken 48 rfl) ?_
              refine R_getR cgX0 7 (cl7 hS) 0 (Nat.le_of_ble_eq_true rfl) rfl (Or.inr ⟨_, tb_160⟩) (dX9_taken 49 rfl) ?_
              refine R_iload_n (i := 3) (dX9_taken 50 rfl) rfl rfl ?_
              refine R_cS (st' := [.inl (rd 12 (M 8) (w32 (x1 - 10)))]) [.inr (.inr (some (ad 8))), .inl (w32 (x1 - 10))] [] (t_at l g S _ 8 (cl8 hS) (Nat.le_of_ble_eq_true rfl) (w32 (x1 - 10))) msX9_at (Or.inl tb_663) ⟨Nat.le_of_ble_eq_true rfl, Nat.le_of_ble_eq_true rfl⟩ (Nat.zero_le _) (Nat.zero_le _) rfl rfl (Nat.le_of_ble_eq_true rfl) rfl (dX9_taken 51 rfl) ?_
              refine R_iload_n (i := 2) (dX9_taken 52 rfl) rfl rfl ?_
              obtain ⟨r311, hr, H⟩ := op_E H
              refine R_cS (st' := [.inl r311]) [.inl (rd 12 (M 8) (w32 (x1 - 10))), .inl x2] [] (t_X0_isOne l g ad S _ hS   (rd 12 (M 8) (w32 (x1 - 10))) x2 hr) msX0_isOne (Or.inl tb_1064) ⟨Nat.le_of_ble_eq_true rfl, Nat.le_of_ble_eq_true rfl⟩ (Nat.zero_le _) (Nat.zero_le _) rfl rfl (Nat.le_of_ble_eq_true rfl) rfl (dX9_taken 53 rfl) ?_
              refine R_if_eq (tgt := 112) (dX9_taken 54 rfl) (by decide) (fun hc => ?_) (fun hc => ?_)
              · have H := ite_T H hc
                refine R_bipush (dX9_taken 57 rfl) rfl rfl ?_
                exact R_iret rfl rfl (Nat.zero_le _) (Nat.zero_le _) (dX9_taken 58 rfl) ⟨congrArg (fun z => some (Sum.inl z)) (Option.some.inj H), rfl, rfl⟩
              · have H := ite_F H hc
                refine R_iload_n (i := 3) (dX9_taken 55 rfl) rfl rfl ?_
                refine R_goto (tgt := 114) (dX9_taken 56 rfl) (by decide) ?_
                exact R_iret rfl rfl (Nat.zero_le _) (Nat.zero_le _) (dX9_taken 58 rfl) ⟨congrArg (fun z => some (Sum.inl z)) (Option.some.inj H), rfl, rfl⟩
          · have H := ite_T H hc
            refine R_iload_n (i := 2) (dX9_taken 34 rfl) rfl rfl ?_
            refine R_bipush (dX9_taken 35 rfl) rfl rfl ?_
            refine R_icmp_ne (tgt := 81) (dX9_taken 36 rfl) (by decide) (fun hc => ?_) (fun hc => ?_)
            · have H := ite_F H hc
              refine R_bipush (dX9_taken 42 rfl) rfl rfl ?_
              exact R_iret rfl rfl (Nat.zero_le _) (Nat.zero_le _) (dX9_taken 43 rfl) ⟨congrArg (fun z => some (Sum.inl z)) (Option.some.inj H), rfl, rfl⟩
            · have H := ite_T H hc
              refine R_aload_n (i := 0) (dX9_taken 37 rfl) rfl rfl ?_
              refine R_getR cgX9 0 (cl0 hS) 1 (Nat.le_of_ble_eq_true rfl) rfl (Or.inl tb_554) (dX9_taken 38 rfl) ?_
              refine R_iload_n (i := 1) (dX9_taken 39 rfl) rfl rfl ?_
              refine R_cV (st' := [.inl (f_X3_signsOf x1 M)]) [.inl x1] [] (t_X3_signsOf l g ad S _ hS   x1) msX3_signsOf (Or.inl tb_636) (Or.inl ⟨3, 3, _, _, _, (cl3 hS), rfl⟩) ⟨Nat.le_of_ble_eq_true rfl, Nat.le_of_ble_eq_true rfl⟩ (Nat.zero_le _) (Nat.zero_le _) rfl rfl (Nat.le_of_ble_eq_true rfl) rfl (dX9_taken 40 rfl) ?_
              refine R_goto (tgt := 83) (dX9_taken 41 rfl) (by decide) ?_
              exact R_iret rfl rfl (Nat.zero_le _) (Nat.zero_le _) (dX9_taken 43 rfl) ⟨congrArg (fun z => some (Sum.inl z)) (Option.some.inj H), rfl, rfl⟩
        · have H := ite_T H hc
          refine R_goto (tgt := 57) (dX9_taken 24 rfl) (by decide) ?_
          refine R_bipush (dX9_taken 30 rfl) rfl rfl ?_
          exact R_iret rfl rfl (Nat.zero_le _) (Nat.zero_le _) (dX9_taken 31 rfl) ⟨congrArg (fun z => some (Sum.inl z)) (Option.some.inj H), rfl, rfl⟩
    · have H := ite_T H hc
      refine R_bipush (dX9_taken 12 rfl) rfl rfl ?_
      exact R_iret rfl rfl (Nat.zero_le _) (Nat.zero_le _) (dX9_taken 13 rfl) ⟨congrArg (fun z => some (Sum.inl z)) (Option.some.inj H), rfl, rfl⟩
  · have H := ite_T H hc
    refine R_bipush (dX9_taken 5 rfl) rfl rfl ?_
    exact R_iret rfl rfl (Nat.zero_le _) (Nat.zero_le _) (dX9_taken 6 rfl) ⟨congrArg (fun z => some (Sum.inl z)) (Option.some.inj H), rfl, rfl⟩
def f_X10_isTongue_L8 (K58 : Int → Mem → Option (Int × Mem)) (x2 : Int) : Nat → Int → Int → Int → Mem → Option (Int × Mem)
  | 0, _, _, _, _ => none
  | n + 1, x3, x4, x5, M =>
    if x5 < 0 then
      K58 x4 M
    else
      if x2 < 720 then
        if 0 ≤ w32 ((w32 (6 * x2)) + x5) ∧ w32 ((w32 (6 * x2)) + x5) < 4320 then
          f_X10_isTongue_L8 K58 x2 n (b_div x3 6) (b_or x4 (b_shl 1 (b_rem x3 6))) (w32 (x5 + (-1))) (mset M 43 (w32 ((w32 (6 * x2)) + x5)).toNat (b_rem x3 6))
        else none
      else
        f_X10_isTongue_L8 K58 x2 n (b_div x3 6) (b_or x4 (b_shl 1 (b_rem x3 6))) (w32 (x5 + (-1))) M
set_option maxHeartbeats 4000000 in
theorem t_X10_isTongue_L8 (l : Launch) (g : GG) (ad : Nat → Nat) (S : SW) (hS : q_ag 38 63 ad S) (x2 : Int) {K58 : Int → Mem → Option (Int × Mem)} {r : Int} {M' : Mem} : ∀ (n : Nat) (x3 : Int) (x4 : Int) (x5 : Int) (M : Mem), f_X10_isTongue_L8 K58 x2 n x3 x4 x5 M = some (r, M') → (∀ (z4 : Int) (M1 : Mem), K58 z4 M1 = some (r, M') → RW l g MX10_isTongue (q_rm 1 0 0) 0 0 (q_ex S (some (.inl r)) M') 58 S M1 0 0 [none, none, none, none, some (.inl z4), none] []) → RW l g MX10_isTongue (q_rm 1 0 0) 0 0 (q_ex S (some (.inl r)) M') 8 S M 0 0 [some (.inr (.inr (some (ad 38)))), none, some (.inl x2), some (.inl x3), some (.inl x4), some (.inl x5)] [] := by
  intro n
  induction n with
  | zero => intro x3 x4 x5 M H; exact absurd H (by simp [f_X10_isTongue_L8])
  | succ n ih =>
    intro x3 x4 x5 M H hK58
    rw [f_X10_isTongue_L8] at H
    refine R_iload (i := 5) (dX10_isTongue 6 rfl) rfl ?_
    refine R_if_lt (tgt := 58) (dX10_isTongue 7 rfl) (by decide) (fun hc => ?_) (fun hc => ?_)
    · have H := ite_T H hc
      refine R_mask [false, false, false, false, true, false] rfl ?_
      exact hK58 x4 M H
    · have H := ite_F H hc
      refine R_iload (i := 4) (dX10_isTongue 8 rfl) rfl ?_
      refine R_iconst (dX10_isTongue 9 rfl) rfl ?_
      refine R_iload_n (i := 3) (dX10_isTongue 10 rfl) rfl rfl ?_
      refine R_bipush (dX10_isTongue 11 rfl) rfl rfl ?_
      refine R_irem (by decide) (dX10_isTongue 12 rfl) ?_
      refine R_ishl (dX10_isTongue 13 rfl) ?_
      refine R_ior (dX10_isTongue 14 rfl) ?_
      refine R_istore (i := 4) (ls' := [some (.inr (.inr (some (ad 38)))), none, some (.inl x2), some (.inl x3), some (.inl (b_or x4 (b_shl 1 (b_rem x3 6)))), some (.inl x5)]) (dX10_isTongue 15 rfl) (Nat.le_of_ble_eq_true rfl) (Nat.le_of_ble_eq_true rfl) rfl rfl ?_
      refine R_iload_n (i := 2) (dX10_isTongue 16 rfl) rfl rfl ?_
      refine R_sipush (dX10_isTongue 17 rfl) rfl rfl ?_
      refine R_icmp_ge (tgt := 47) (dX10_isTongue 18 rfl) (by decide) (fun hc => ?_) (fun hc => ?_)
      · have H := ite_F H hc
        refine R_iload_n (i := 3) (dX10_isTongue 30 rfl) rfl rfl ?_
        refine R_bipush (dX10_isTongue 31 rfl) rfl rfl ?_
        refine R_idiv (by decide) (dX10_isTongue 32 rfl) ?_
        refine R_istore_n (i := 3) (ls' := [some (.inr (.inr (some (ad 38)))), none, some (.inl x2), some (.inl (b_div x3 6)), some (.inl (b_or x4 (b_shl 1 (b_rem x3 6)))), some (.inl x5)]) (dX10_isTongue 33 rfl) rfl (Nat.le_of_ble_eq_true rfl) (Nat.le_of_ble_eq_true rfl) rfl rfl ?_
        refine R_iinc (i := 5) (ls' := [some (.inr (.inr (some (ad 38)))), none, some (.inl x2), some (.inl (b_div x3 6)), some (.inl (b_or x4 (b_shl 1 (b_rem x3 6)))), some (.inl (w32 (x5 + (-1))))]) (dX10_isTongue 34 rfl) rfl (Nat.le_of_ble_eq_true rfl) rfl rfl ?_
        refine R_goto (tgt := 8) (dX10_isTongue 35 rfl) (by decide) ?_
        exact ih (b_div x3 6) (b_or x4 (b_shl 1 (b_rem x3 6))) (w32 (x5 + (-1))) M H hK58
      · have H := ite_T H hc
        refine R_aload_n (i := 0) (dX10_isTongue 19 rfl) rfl rfl ?_
        refine R_getR cgX10 38 (cl38 hS) 8 (Nat.le_of_ble_eq_true rfl) rfl (Or.inl tb_1135) (dX10_isTongue 20 rfl) ?_
        refine R_bipush (dX10_isTongue 21 rfl) rfl rfl ?_
        refine R_iload_n (i := 2) (dX10_isTongue 22 rfl) rfl rfl ?_
        refine R_imul (dX10_isTongue 23 rfl) ?_
        refine R_iload (i := 5) (dX10_isTongue 24 rfl) rfl ?_
        refine R_iadd (dX10_isTongue 25 rfl) ?_
        refine R_iload_n (i := 3) (dX10_isTongue 26 rfl) rfl rfl ?_
        refine R_bipush (dX10_isTongue 27 rfl) rfl rfl ?_
        refine R_irem (by decide) (dX10_isTongue 28 rfl) ?_
        obtain ⟨hg, H⟩ := ite_G H
        refine R_iast 43 (cl43 hS) hg (dX10_isTongue 29 rfl) ?_
        refine R_iload_n (i := 3) (dX10_isTongue 30 rfl) rfl rfl ?_
        refine R_bipush (dX10_isTongue 31 rfl) rfl rfl ?_
        refine R_idiv (by decide) (dX10_isTongue 32 rfl) ?_
        refine R_istore_n (i := 3) (ls' := [some (.inr (.inr (some (ad 38)))), none, some (.inl x2), some (.inl (b_div x3 6)), some (.inl (b_or x4 (b_shl 1 (b_rem x3 6)))), some (.inl x5)]) (dX10_isTongue 33 rfl) rfl (Nat.le_of_ble_eq_true rfl) (Nat.le_of_ble_eq_true rfl) rfl rfl ?_
        refine R_iinc (i := 5) (ls' := [some (.inr (.inr (some (ad 38)))), none, some (.inl x2), some (.inl (b_div x3 6)), some (.inl (b_or x4 (b_shl 1 (b_rem x3 6)))), some (.inl (w32 (x5 + (-1))))]) (dX10_isTongue 34 rfl) rfl (Nat.le_of_ble_eq_true rfl) rfl rfl ?_
        refine R_goto (tgt := 8) (dX10_isTongue 35 rfl) (by decide) ?_
        exact ih (b_div x3 6) (b_or x4 (b_shl 1 (b_rem x3 6))) (w32 (x5 + (-1))) (mset M 43 (w32 ((w32 (6 * x2)) + x5)).toNat (b_rem x3 6)) H hK58
def f_X10_isTongue (x1 : Int) (x2 : Int) (M : Mem) : Option (Int × Mem) :=
  f_X10_isTongue_L8
    (fun y312 M313 =>
      if y312 = 63 then
        some (1, M313)
      else
        some (0, M313)
    )
    x2 100000 x1 0 5 M
set_option maxHeartbeats 4000000 in
theorem t_X10_isTongue (l : Launch) (g : GG) (ad : Nat → Nat) (S : SW) (M : Mem) (hS : q_ag 38 63 ad S) (x1 : Int) (x2 : Int) {r : Int} {M' : Mem} (H : f_X10_isTongue x1 x2 M = some (r, M')) : CT l g MX10_isTongue 1 0 0 S M [.inr (.inr (some (ad 38))), .inl x1, .inl x2] (q_ex S (some (.inl r)) M') := by
  unfold f_X10_isTongue at H
  refine CT_of (ls0 := [some (.inr (.inr (some (ad 38)))), some (.inl x1), some (.inl x2), none, none, none]) (by decide +kernel) (Nat.le_of_ble_eq_true rfl) rfl ?_
  refine R_iload_n (i := 1) (dX10_isTongue 0 rfl) rfl rfl ?_
  refine R_istore_n (i := 3) (ls' := [some (.inr (.inr (some (ad 38)))), some (.inl x1), some (.inl x2), some (.inl x1), none, none]) (dX10_isTongue 1 rfl) rfl (Nat.le_of_ble_eq_true rfl) (Nat.le_of_ble_eq_true rfl) rfl rfl ?_
  refine R_iconst (dX10_isTongue 2 rfl) rfl ?_
  refine R_istore (i := 4) (ls' := [some (.inr (.inr (some (ad 38)))), some (.inl x1), some (.inl x2), some (.inl x1), some (.inl 0), none]) (dX10_isTongue 3 rfl) (Nat.le_of_ble_eq_true rfl) (Nat.le_of_ble_eq_true rfl) rfl rfl ?_
  refine R_iconst (dX10_isTongue 4 rfl) rfl ?_
  refine R_istore (i := 5) (ls' := [some (.inr (.inr (some (ad 38)))), some (.inl x1), some (.inl x2), some (.inl x1), some (.inl 0), some (.inl 5)]) (dX10_isTongue 5 rfl) (Nat.le_of_ble_eq_true rfl) (Nat.le_of_ble_eq_true rfl) rfl rfl ?_
  refine R_mask [true, false, true, true, true, true] rfl ?_
  refine t_X10_isTongue_L8 l g ad S hS x2  100000 x1 0 5 M H (fun y312 M313 H => ?_)
  refine R_iload (i := 4) (dX10_isTongue 36 rfl) rfl ?_
  refine R_bipush (dX10_isTongue 37 rfl) rfl rfl ?_
  refine R_icmp_ne (tgt := 69) (dX10_isTongue 38 rfl) (by decide) (fun hc => ?_) (fun hc => ?_)
  · have H := ite_F H hc
    refine R_iconst (dX10_isTongue 41 rfl) rfl ?_
    exact R_iret rfl (by decide +kernel) (Nat.zero_le _) (Nat.zero_le _) (dX10_isTongue 42 rfl) ⟨congrArg (fun z => some (Sum.inl z)) (Prod.mk.inj (Option.some.inj H)).1, rfl, (Prod.mk.inj (Option.some.inj H)).2⟩
  · have H := ite_T H hc
    refine R_iconst (dX10_isTongue 39 rfl) rfl ?_
    refine R_goto (tgt := 70) (dX10_isTongue 40 rfl) (by decide) ?_
    exact R_iret rfl (by decide +kernel) (Nat.zero_le _) (Nat.zero_le _) (dX10_isTongue 42 rfl) ⟨congrArg (fun z => some (Sum.inl z)) (Prod.mk.inj (Option.some.inj H)).1, rfl, (Prod.mk.inj (Option.some.inj H)).2⟩
def f_X10_in (x0 : Int) (x1 : Int) (x2 : Int) : Int :=
  if x0 < x1 then
    0
  else
    if x2 < x0 then
      0
    else
      1
set_option maxHeartbeats 4000000 in
theorem t_X10_in (l : Launch) (g : GG) (S : SW) (M : Mem) (x0 : Int) (x1 : Int) (x2 : Int) : CT l g MX10_in 1 0 0 S M [.inl x0, .inl x1, .inl x2] (q_ex S (some (.inl (f_X10_in x0 x1 x2))) M) := by
  obtain ⟨r, H⟩ : ∃ r, f_X10_in x0 x1 x2 = r := ⟨_, rfl⟩
  rw [H]
  unfold f_X10_in at H
  refine CT_of (ls0 := [some (.inl x0), some (.inl x1), some (.inl x2)]) (by decide +kernel) (Nat.le_of_ble_eq_true rfl) rfl ?_
  refine R_iload_n (i := 0) (dX10_in 0 rfl) rfl rfl ?_
  refine R_iload_n (i := 1) (dX10_in 1 rfl) rfl rfl ?_
  refine R_icmp_lt (tgt := 14) (dX10_in 2 rfl) (by decide) (fun hc => ?_) (fun hc => ?_)
  · have H := ite_T H hc
    refine R_iconst (dX10_in 8 rfl) rfl ?_
    exact R_iret rfl (by decide +kernel) (Nat.zero_le _) (Nat.zero_le _) (dX10_in 9 rfl) ⟨congrArg (fun z => some (Sum.inl z)) H, rfl, rfl⟩
  · have H := ite_F H hc
    refine R_iload_n (i := 0) (dX10_in 3 rfl) rfl rfl ?_
    refine R_iload_n (i := 2) (dX10_in 4 rfl) rfl rfl ?_
    refine R_icmp_gt (tgt := 14) (dX10_in 5 rfl) (by decide) (fun hc => ?_) (fun hc => ?_)
    · have H := ite_T H hc
      refine R_iconst (dX10_in 8 rfl) rfl ?_
      exact R_iret rfl (by decide +kernel) (Nat.zero_le _) (Nat.zero_le _) (dX10_in 9 rfl) ⟨congrArg (fun z => some (Sum.inl z)) H, rfl, rfl⟩
    · have H := ite_F H hc
      refine R_iconst (dX10_in 6 rfl) rfl ?_
      refine R_goto (tgt := 15) (dX10_in 7 rfl) (by decide) ?_
      exact R_iret rfl (by decide +kernel) (Nat.zero_le _) (Nat.zero_le _) (dX10_in 9 rfl) ⟨congrArg (fun z => some (Sum.inl z)) H, rfl, rfl⟩
theorem z_X10_in (x0 : Int) (x1 : Int) (x2 : Int) : f_X10_in x0 x1 x2 = 0 ∨ f_X10_in x0 x1 x2 = 1 := by
  unfold f_X10_in
  (repeat' split) <;> first | exact Or.inl rfl | exact Or.inr rfl
def f_X10_within (x0 : Int) (x1 : Int) (x2 : Int) : Int :=
  if x0 < x1 then
    x1
  else
    if x2 < x0 then
      x2
    else
      x0
set_option maxHeartbeats 4000000 in
theorem t_X10_within (l : Launch) (g : GG) (S : SW) (M : Mem) (x0 : Int) (x1 : Int) (x2 : Int) : CT l g MX10_within 1 0 0 S M [.inl x0, .inl x1, .inl x2] (q_ex S (some (.inl (f_X10_within x0 x1 x2))) M) := by
  obtain ⟨r, H⟩ : ∃ r, f_X10_within x0 x1 x2 = r := ⟨_, rfl⟩
  rw [H]
  unfold f_X10_within at H
  refine CT_of (ls0 := [some (.inl x0), some (.inl x1), some (.inl x2)]) (by decide +kernel) (Nat.le_of_ble_eq_true rfl) rfl ?_
  refine R_iload_n (i := 0) (dX10_within 0 rfl) rfl rfl ?_
  refine R_iload_n (i := 1) (dX10_within 1 rfl) rfl rfl ?_
  refine R_icmp_ge (tgt := 9) (dX10_within 2 rfl) (by decide) (fun hc => ?_) (fun hc => ?_)
  · have H := ite_F H hc
    refine R_iload_n (i := 0) (dX10_within 5 rfl) rfl rfl ?_
    refine R_iload_n (i := 2) (dX10_within 6 rfl) rfl rfl ?_
    refine R_icmp_le (tgt := 18) (dX10_within 7 rfl) (by decide) (fun hc => ?_) (fun hc => ?_)
    · have H := ite_F H hc
      refine R_iload_n (i := 0) (dX10_within 10 rfl) rfl rfl ?_
      exact R_iret rfl rfl (Nat.zero_le _) (Nat.zero_le _) (dX10_within 11 rfl) ⟨congrArg (fun z => some (Sum.inl z)) H, rfl, rfl⟩
    · have H := ite_T H hc
      refine R_iload_n (i := 2) (dX10_within 8 rfl) rfl rfl ?_
      refine R_goto (tgt := 19) (dX10_within 9 rfl) (by decide) ?_
      exact R_iret rfl rfl (Nat.zero_le _) (Nat.zero_le _) (dX10_within 11 rfl) ⟨congrArg (fun z => some (Sum.inl z)) H, rfl, rfl⟩
  · have H := ite_T H hc
    refine R_iload_n (i := 1) (dX10_within 3 rfl) rfl rfl ?_
    refine R_goto (tgt := 19) (dX10_within 4 rfl) (by decide) ?_
    exact R_iret rfl rfl (Nat.zero_le _) (Nat.zero_le _) (dX10_within 11 rfl) ⟨congrArg (fun z => some (Sum.inl z)) H, rfl, rfl⟩
def f_X10_ones_L4 (x0 : Int) : Nat → Int → Int → Option Int
  | 0, _, _ => none
  | n + 1, x1, x2 =>
    if x2 < 12 then
      f_X10_ones_L4 x0 n (w32 (x1 + (b_and (b_shr x0 x2) 1))) (w32 (x2 + 1))
    else
      some x1
set_option maxHeartbeats 4000000 in
theorem t_X10_ones_L4 (l : Launch) (g : GG) (S : SW) (M : Mem) (x0 : Int) {r : Int} : ∀ (n : Nat) (x1 : Int) (x2 : Int), f_X10_ones_L4 x0 n x1 x2 = some r → RW l g MX10_ones (q_rm 1 0 0) 0 0 (q_ex S (some (.inl r)) M) 4 S M 0 0 [some (.inl x0), some (.inl x1), some (.inl x2)] [] := by
  intro n
  induction n with
  | zero => intro x1 x2 H; exact absurd H (by simp [f_X10_ones_L4])
  | succ n ih =>
    intro x1 x2 H
    rw [f_X10_ones_L4] at H
    refine R_iload_n (i := 2) (dX10_ones 4 rfl) rfl rfl ?_
    refine R_bipush (dX10_ones 5 rfl) rfl rfl ?_
    refine R_icmp_ge (tgt := 24) (dX10_ones 6 rfl) (by decide) (fun hc => ?_) (fun hc => ?_)
    · have H := ite_F H hc
      refine R_iload_n (i := 1) (dX10_ones 17 rfl) rfl rfl ?_
      exact R_iret rfl rfl (Nat.zero_le _) (Nat.zero_le _) (dX10_ones 18 rfl) ⟨congrArg (fun z => some (Sum.inl z)) (Option.some.inj H), rfl, rfl⟩
    · have H := ite_T H hc
      refine R_iload_n (i := 1) (dX10_ones 7 rfl) rfl rfl ?_
      refine R_iload_n (i := 0) (dX10_ones 8 rfl) rfl rfl ?_
      refine R_iload_n (i := 2) (dX10_ones 9 rfl) rfl rfl ?_
      refine R_ishr (dX10_ones 10 rfl) ?_
      refine R_iconst (dX10_ones 11 rfl) rfl ?_
      refine R_iand (dX10_ones 12 rfl) ?_
      refine R_iadd (dX10_ones 13 rfl) ?_
      refine R_istore_n (i := 1) (ls' := [some (.inl x0), some (.inl (w32 (x1 + (b_and (b_shr x0 x2) 1)))), some (.inl x2)]) (dX10_ones 14 rfl) rfl (Nat.le_of_ble_eq_true rfl) (Nat.le_of_ble_eq_true rfl) rfl rfl ?_
      refine R_iinc (i := 2) (ls' := [some (.inl x0), some (.inl (w32 (x1 + (b_and (b_shr x0 x2) 1)))), some (.inl (w32 (x2 + 1)))]) (dX10_ones 15 rfl) rfl (Nat.le_of_ble_eq_true rfl) rfl rfl ?_
      refine R_goto (tgt := 4) (dX10_ones 16 rfl) (by decide) ?_
      exact ih (w32 (x1 + (b_and (b_shr x0 x2) 1))) (w32 (x2 + 1)) H
def f_X10_ones (x0 : Int) : Option Int :=
  f_X10_ones_L4
    x0 100000 0 0
set_option maxHeartbeats 4000000 in
theorem t_X10_ones (l : Launch) (g : GG) (S : SW) (M : Mem) (x0 : Int) {r : Int} (H : f_X10_ones x0 = some r) : CT l g MX10_ones 1 0 0 S M [.inl x0] (q_ex S (some (.inl r)) M) := by
  unfold f_X10_ones at H
  refine CT_of (ls0 := [some (.inl x0), none, none]) (by decide +kernel) (Nat.le_of_ble_eq_true rfl) rfl ?_
  refine R_iconst (dX10_ones 0 rfl) rfl ?_
  refine R_istore_n (i := 1) (ls' := [some (.inl x0), some (.inl 0), none]) (dX10_ones 1 rfl) rfl (Nat.le_of_ble_eq_true rfl) (Nat.le_of_ble_eq_true rfl) rfl rfl ?_
  refine R_iconst (dX10_ones 2 rfl) rfl ?_
  refine R_istore_n (i := 2) (ls' := [some (.inl x0), some (.inl 0), some (.inl 0)]) (dX10_ones 3 rfl) rfl (Nat.le_of_ble_eq_true rfl) (Nat.le_of_ble_eq_true rfl) rfl rfl ?_
  exact t_X10_ones_L4 l g S M x0  100000 0 0 H 
def f_X10_isLine (x1 : Int) (M : Mem) : Int :=
  f_X10_in x1 0 (w32 ((M 38 0) - 1))
set_option maxHeartbeats 4000000 in
theorem t_X10_isLine (l : Launch) (g : GG) (ad : Nat → Nat) (S : SW) (M : Mem) (hS : q_ag 38 63 ad S) (x1 : Int) : CT l g MX10_isLine 2 0 0 S M [.inr (.inr (some (ad 38))), .inl x1] (q_ex S (some (.inl (f_X10_isLine x1 M))) M) := by
  obtain ⟨r, H⟩ : ∃ r, f_X10_isLine x1 M = r := ⟨_, rfl⟩
  rw [H]
  unfold f_X10_isLine at H
  refine CT_of (ls0 := [some (.inr (.inr (some (ad 38)))), some (.inl x1)]) (by decide +kernel) (Nat.le_of_ble_eq_true rfl) rfl ?_
  refine R_iload_n (i := 1) (dX10_isLine 0 rfl) rfl rfl ?_
  refine R_iconst (dX10_isLine 1 rfl) rfl ?_
  refine R_aload_n (i := 0) (dX10_isLine 2 rfl) rfl rfl ?_
  refine R_getI cgX10 38 (cl38 hS) 0 (Nat.le_of_ble_eq_true rfl) rfl (Or.inl tb_1127) (dX10_isLine 3 rfl) ?_
  refine R_iconst (dX10_isLine 4 rfl) rfl ?_
  refine R_isub (dX10_isLine 5 rfl) ?_
  refine R_cS (st' := [.inl (f_X10_in x1 0 (w32 ((M 38 0) - 1)))]) [.inl x1, .inl 0, .inl (w32 ((M 38 0) - 1))] [] (t_X10_in l g S _   x1 0 (w32 ((M 38 0) - 1))) msX10_in (Or.inl tb_1083) ⟨Nat.le_of_ble_eq_true rfl, Nat.le_of_ble_eq_true rfl⟩ (Nat.zero_le _) (Nat.zero_le _) rfl rfl (Nat.le_of_ble_eq_true rfl) rfl (dX10_isLine 6 rfl) ?_
  exact R_iret rfl (q_nbz (z_X10_in x1 0 (w32 ((M 38 0) - 1)))) (Nat.zero_le _) (Nat.zero_le _) (dX10_isLine 7 rfl) ⟨congrArg (fun z => some (Sum.inl z)) H, rfl, rfl⟩
theorem z_X10_isLine (x1 : Int) (M : Mem) : f_X10_isLine x1 M = 0 ∨ f_X10_isLine x1 M = 1 := by
  unfold f_X10_isLine
  (repeat' split) <;> first | exact Or.inl rfl | exact Or.inr rfl | exact z_X10_in ..
def f_X10_isGuest (x1 : Int) (M : Mem) : Int :=
  f_X10_in x1 0 (w32 ((M 38 3) - 1))
set_option maxHeartbeats 4000000 in
theorem t_X10_isGuest (l : Launch) (g : GG) (ad : Nat → Nat) (S : SW) (M : Mem) (hS : q_ag 38 63 ad S) (x1 : Int) : CT l g MX10_isGuest 2 0 0 S M [.inr (.inr (some (ad 38))), .inl x1] (q_ex S (some (.inl (f_X10_isGuest x1 M))) M) := by
  obtain ⟨r, H⟩ : ∃ r, f_X10_isGuest x1 M = r := ⟨_, rfl⟩
  rw [H]
  unfold f_X10_isGuest at H
  refine CT_of (ls0 := [some (.inr (.inr (some (ad 38)))), some (.inl x1)]) (by decide +kernel) (Nat.le_of_ble_eq_true rfl) rfl ?_
  refine R_iload_n (i := 1) (dX10_isGuest 0 rfl) rfl rfl ?_
  refine R_iconst (dX10_isGuest 1 rfl) rfl ?_
  refine R_aload_n (i := 0) (dX10_isGuest 2 rfl) rfl rfl ?_
  refine R_getI cgX10 38 (cl38 hS) 3 (Nat.le_of_ble_eq_true rfl) rfl (Or.inl tb_1130) (dX10_isGuest 3 rfl) ?_
  refine R_iconst (dX10_isGuest 4 rfl) rfl ?_
  refine R_isub (dX10_isGuest 5 rfl) ?_
  refine R_cS (st' := [.inl (f_X10_in x1 0 (w32 ((M 38 3) - 1)))]) [.inl x1, .inl 0, .inl (w32 ((M 38 3) - 1))] [] (t_X10_in l g S _   x1 0 (w32 ((M 38 3) - 1))) msX10_in (Or.inl tb_1083) ⟨Nat.le_of_ble_eq_true rfl, Nat.le_of_ble_eq_true rfl⟩ (Nat.zero_le _) (Nat.zero_le _) rfl rfl (Nat.le_of_ble_eq_true rfl) rfl (dX10_isGuest 6 rfl) ?_
  exact R_iret rfl (q_nbz (z_X10_in x1 0 (w32 ((M 38 3) - 1)))) (Nat.zero_le _) (Nat.zero_le _) (dX10_isGuest 7 rfl) ⟨congrArg (fun z => some (Sum.inl z)) H, rfl, rfl⟩
theorem z_X10_isGuest (x1 : Int) (M : Mem) : f_X10_isGuest x1 M = 0 ∨ f_X10_isGuest x1 M = 1 := by
  unfold f_X10_isGuest
  (repeat' split) <;> first | exact Or.inl rfl | exact Or.inr rfl | exact z_X10_in ..
def f_X10_isSign (x0 : Int) : Int :=
  f_X10_in x0 0 5
set_option maxHeartbeats 4000000 in
theorem t_X10_isSign (l : Launch) (g : GG) (ad : Nat → Nat) (S : SW) (M : Mem) (hS : q_ag 38 63 ad S) (x0 : Int) : CT l g MX10_isSign 2 0 0 S M [.inl x0] (q_ex S (some (.inl (f_X10_isSign x0))) M) := by
  obtain ⟨r, H⟩ : ∃ r, f_X10_isSign x0 = r := ⟨_, rfl⟩
  rw [H]
  unfold f_X10_isSign at H
  refine CT_of (ls0 := [some (.inl x0)]) (by decide +kernel) (Nat.le_of_ble_eq_true rfl) rfl ?_
  refine R_iload_n (i := 0) (dX10_isSign 0 rfl) rfl rfl ?_
  refine R_iconst (dX10_isSign 1 rfl) rfl ?_
  refine R_iconst (dX10_isSign 2 rfl) rfl ?_
  refine R_cS (st' := [.inl (f_X10_in x0 0 5)]) [.inl x0, .inl 0, .inl 5] [] (t_X10_in l g S _   x0 0 5) msX10_in (Or.inl tb_1083) ⟨Nat.le_of_ble_eq_true rfl, Nat.le_of_ble_eq_true rfl⟩ (Nat.zero_le _) (Nat.zero_le _) rfl rfl (Nat.le_of_ble_eq_true rfl) rfl (dX10_isSign 3 rfl) ?_
  exact R_iret rfl (q_nbz (z_X10_in x0 0 5)) (Nat.zero_le _) (Nat.zero_le _) (dX10_isSign 4 rfl) ⟨congrArg (fun z => some (Sum.inl z)) H, rfl, rfl⟩
theorem z_X10_isSign (x0 : Int) : f_X10_isSign x0 = 0 ∨ f_X10_isSign x0 = 1 := by
  unfold f_X10_isSign
  (repeat' split) <;> first | exact Or.inl rfl | exact Or.inr rfl | exact z_X10_in ..
def f_X10_line (x1 : Int) (x2 : Int) (M : Mem) : Option (Int × Mem) :=
  if f_X10_in x1 1 63 = 0 then
    some ((-2), M)
  else
    (f_X10_ones x1).bind fun r314 =>
    if 3 < r314 then
      some ((-2), M)
    else
      if f_X10_in x2 1 99 = 0 then
        some ((-2), M)
      else
        if M 38 0 = 10 then
          some ((-4), M)
        else
          if 0 ≤ M 38 0 ∧ M 38 0 < 10 then
            if 0 ≤ (mset M 39 (M 38 0).toNat x1) 38 0 ∧ (mset M 39 (M 38 0).toNat x1) 38 0 < 10 then
              some (w32 (((mset (mset (mset M 39 (M 38 0).toNat x1) 40 ((mset M 39 (M 38 0).toNat x1) 38 0).toNat x2) 38 0 (w32 (((mset (mset M 39 (M 38 0).toNat x1) 40 ((mset M 39 (M 38 0).toNat x1) 38 0).toNat x2) 38 0) + 1))) 38 0) - 1), (mset (mset (mset M 39 (M 38 0).toNat x1) 40 ((mset M 39 (M 38 0).toNat x1) 38 0).toNat x2) 38 0 (w32 (((mset (mset M 39 (M 38 0).toNat x1) 40 ((mset M 39 (M 38 0).toNat x1) 38 0).toNat x2) 38 0) + 1))))
            else none
          else none
set_option maxHeartbeats 4000000 in
theorem t_X10_line (l : Launch) (g : GG) (ad : Nat → Nat) (S : SW) (M : Mem) (hS : q_ag 38 63 ad S) (x1 : Int) (x2 : Int) {r : Int} {M' : Mem} (H : f_X10_line x1 x2 M = some (r, M')) : CT l g MX10_line 2 0 0 S M [.inr (.inr (some (ad 38))), .inl x1, .inl x2] (q_ex S (some (.inl r)) M') := by
  unfold f_X10_line at H
  refine CT_of (ls0 := [some (.inr (.inr (some (ad 38)))), some (.inl x1), some (.inl x2)]) (by decide +kernel) (Nat.le_of_ble_eq_true rfl) rfl ?_
  refine R_iload_n (i := 1) (dX10_line 0 rfl) rfl rfl ?_
  refine R_iconst (dX10_line 1 rfl) rfl ?_
  refine R_bipush (dX10_line 2 rfl) rfl rfl ?_
  refine R_cS (st' := [.inl (f_X10_in x1 1 63)]) [.inl x1, .inl 1, .inl 63] [] (t_X10_in l g S _   x1 1 63) msX10_in (Or.inl tb_1083) ⟨Nat.le_of_ble_eq_true rfl, Nat.le_of_ble_eq_true rfl⟩ (Nat.zero_le _) (Nat.zero_le _) rfl rfl (Nat.le_of_ble_eq_true rfl) rfl (dX10_line 3 rfl) ?_
  refine R_if_eq (tgt := 28) (dX10_line 4 rfl) (by decide) (fun hc => ?_) (fun hc => ?_)
  · have H := ite_T H hc
    refine R_bipush (dX10_line 14 rfl) rfl rfl ?_
    exact R_iret rfl rfl (Nat.zero_le _) (Nat.zero_le _) (dX10_line 15 rfl) ⟨congrArg (fun z => some (Sum.inl z)) (Prod.mk.inj (Option.some.inj H)).1, rfl, (Prod.mk.inj (Option.some.inj H)).2⟩
  · have H := ite_F H hc
    refine R_iload_n (i := 1) (dX10_line 5 rfl) rfl rfl ?_
    obtain ⟨r314, hr, H⟩ := op_E H
    refine R_cS (st' := [.inl r314]) [.inl x1] [] (t_X10_ones l g S _   x1 hr) msX10_ones (Or.inl tb_1273) ⟨Nat.le_of_ble_eq_true rfl, Nat.le_of_ble_eq_true rfl⟩ (Nat.zero_le _) (Nat.zero_le _) rfl rfl (Nat.le_of_ble_eq_true rfl) rfl (dX10_line 6 rfl) ?_
    refine R_iconst (dX10_line 7 rfl) rfl ?_
    refine R_icmp_gt (tgt := 28) (dX10_line 8 rfl) (by decide) (fun hc => ?_) (fun hc => ?_)
    · have H := ite_T H hc
      refine R_bipush (dX10_line 14 rfl) rfl rfl ?_
      exact R_iret rfl rfl (Nat.zero_le _) (Nat.zero_le _) (dX10_line 15 rfl) ⟨congrArg (fun z => some (Sum.inl z)) (Prod.mk.inj (Option.some.inj H)).1, rfl, (Prod.mk.inj (Option.some.inj H)).2⟩
    · have H := ite_F H hc
      refine R_iload_n (i := 2) (dX10_line 9 rfl) rfl rfl ?_
      refine R_iconst (dX10_line 10 rfl) rfl ?_
      refine R_bipush (dX10_line 11 rfl) rfl rfl ?_
      refine R_cS (st' := [.inl (f_X10_in x2 1 99)]) [.inl x2, .inl 1, .inl 99] [] (t_X10_in l g S _   x2 1 99) msX10_in (Or.inl tb_1083) ⟨Nat.le_of_ble_eq_true rfl, Nat.le_of_ble_eq_true rfl⟩ (Nat.zero_le _) (Nat.zero_le _) rfl rfl (Nat.le_of_ble_eq_true rfl) rfl (dX10_line 12 rfl) ?_
      refine R_if_ne (tgt := 31) (dX10_line 13 rfl) (by decide) (fun hc => ?_) (fun hc => ?_)
      · have H := ite_F H hc
        refine R_aload_n (i := 0) (dX10_line 16 rfl) rfl rfl ?_
        refine R_getI cgX10 38 (cl38 hS) 0 (Nat.le_of_ble_eq_true rfl) rfl (Or.inl tb_1127) (dX10_line 17 rfl) ?_
        refine R_bipush (dX10_line 18 rfl) rfl rfl ?_
        refine R_icmp_ne (tgt := 43) (dX10_line 19 rfl) (by decide) (fun hc => ?_) (fun hc => ?_)
        · have H := ite_F H hc
          refine R_aload_n (i := 0) (dX10_line 22 rfl) rfl rfl ?_
          refine R_getR cgX10 38 (cl38 hS) 1 (Nat.le_of_ble_eq_true rfl) rfl (Or.inl tb_1128) (dX10_line 23 rfl) ?_
          refine R_aload_n (i := 0) (dX10_line 24 rfl) rfl rfl ?_
          refine R_getI cgX10 38 (cl38 hS) 0 (Nat.le_of_ble_eq_true rfl) rfl (Or.inl tb_1127) (dX10_line 25 rfl) ?_
          refine R_iload_n (i := 1) (dX10_line 26 rfl) rfl rfl ?_
          obtain ⟨hg, H⟩ := ite_G H
          refine R_iast 39 (cl39 hS) hg (dX10_line 27 rfl) ?_
          refine R_aload_n (i := 0) (dX10_line 28 rfl) rfl rfl ?_
          refine R_getR cgX10 38 (cl38 hS) 2 (Nat.le_of_ble_eq_true rfl) rfl (Or.inl tb_1129) (dX10_line 29 rfl) ?_
          refine R_aload_n (i := 0) (dX10_line 30 rfl) rfl rfl ?_
          refine R_getI cgX10 38 (cl38 hS) 0 (Nat.le_of_ble_eq_true rfl) rfl (Or.inl tb_1127) (dX10_line 31 rfl) ?_
          refine R_iload_n (i := 2) (dX10_line 32 rfl) rfl rfl ?_
          obtain ⟨hg, H⟩ := ite_G H
          refine R_iast 40 (cl40 hS) hg (dX10_line 33 rfl) ?_
          refine R_aload_n (i := 0) (dX10_line 34 rfl) rfl rfl ?_
          refine R_dup rfl (dX10_line 35 rfl) ?_
          refine R_getI cgX10 38 (cl38 hS) 0 (Nat.le_of_ble_eq_true rfl) rfl (Or.inl tb_1127) (dX10_line 36 rfl) ?_
          refine R_iconst (dX10_line 37 rfl) rfl ?_
          refine R_iadd (dX10_line 38 rfl) ?_
          refine R_putI cgX10 38 (cl38 hS) 0 (Nat.le_of_ble_eq_true rfl) rfl rfl rfl rfl (Or.inl tb_1127) (dX10_line 39 rfl) ?_
          refine R_aload_n (i := 0) (dX10_line 40 rfl) rfl rfl ?_
          refine R_getI cgX10 38 (cl38 hS) 0 (Nat.le_of_ble_eq_true rfl) rfl (Or.inl tb_1127) (dX10_line 41 rfl) ?_
          refine R_iconst (dX10_line 42 rfl) rfl ?_
          refine R_isub (dX10_line 43 rfl) ?_
          exact R_iret rfl rfl (Nat.zero_le _) (Nat.zero_le _) (dX10_line 44 rfl) ⟨congrArg (fun z => some (Sum.inl z)) (Prod.mk.inj (Option.some.inj H)).1, rfl, (Prod.mk.inj (Option.some.inj H)).2⟩
        · have H := ite_T H hc
          refine R_bipush (dX10_line 20 rfl) rfl rfl ?_
          exact R_iret rfl rfl (Nat.zero_le _) (Nat.zero_le _) (dX10_line 21 rfl) ⟨congrArg (fun z => some (Sum.inl z)) (Prod.mk.inj (Option.some.inj H)).1, rfl, (Prod.mk.inj (Option.some.inj H)).2⟩
      · have H := ite_T H hc
        refine R_bipush (dX10_line 14 rfl) rfl rfl ?_
        exact R_iret rfl rfl (Nat.zero_le _) (Nat.zero_le _) (dX10_line 15 rfl) ⟨congrArg (fun z => some (Sum.inl z)) (Prod.mk.inj (Option.some.inj H)).1, rfl, (Prod.mk.inj (Option.some.inj H)).2⟩
def f_X10_lineTold (x1 : Int) (x2 : Int) (M : Mem) : Option Int :=
  if f_X10_isLine x1 M = 0 then
    some (-5)
  else
    if x2 = 0 then
      if 0 ≤ x1 ∧ x1 < 10 then
        some (M 39 (x1).toNat)
      else none
    else
      if x2 = 1 then
        if 0 ≤ x1 ∧ x1 < 10 then
          some (M 40 (x1).toNat)
        else none
      else
        some (-7)
set_option maxHeartbeats 4000000 in
theorem t_X10_lineTold (l : Launch) (g : GG) (ad : Nat → Nat) (S : SW) (M : Mem) (hS : q_ag 38 63 ad S) (x1 : Int) (x2 : Int) {r : Int} (H : f_X10_lineTold x1 x2 M = some r) : CT l g MX10_lineTold 3 0 0 S M [.inr (.inr (some (ad 38))), .inl x1, .inl x2] (q_ex S (some (.inl r)) M) := by
  unfold f_X10_lineTold at H
  refine CT_of (ls0 := [some (.inr (.inr (some (ad 38)))), some (.inl x1), some (.inl x2)]) (by decide +kernel) (Nat.le_of_ble_eq_true rfl) rfl ?_
  refine R_aload_n (i := 0) (dX10_lineTold 0 rfl) rfl rfl ?_
  refine R_iload_n (i := 1) (dX10_lineTold 1 rfl) rfl rfl ?_
  refine R_cV (st' := [.inl (f_X10_isLine x1 M)]) [.inl x1] [] (t_X10_isLine l g ad S _ hS   x1) msX10_isLine (Or.inl tb_1280) (Or.inl ⟨38, 10, _, _, _, (cl38 hS), rfl⟩) ⟨Nat.le_of_ble_eq_true rfl, Nat.le_of_ble_eq_true rfl⟩ (Nat.zero_le _) (Nat.zero_le _) rfl rfl (Nat.le_of_ble_eq_true rfl) rfl (dX10_lineTold 2 rfl) ?_
  refine R_if_ne (tgt := 13) (dX10_lineTold 3 rfl) (by decide) (fun hc => ?_) (fun hc => ?_)
  · have H := ite_F H hc
    refine R_iload_n (i := 2) (dX10_lineTold 6 rfl) rfl rfl ?_
    refine R_if_ne (tgt := 26) (dX10_lineTold 7 rfl) (by decide) (fun hc => ?_) (fun hc => ?_)
    · have H := ite_F H hc
      refine R_iload_n (i := 2) (dX10_lineTold 13 rfl) rfl rfl ?_
      refine R_iconst (dX10_lineTold 14 rfl) rfl ?_
      refine R_icmp_ne (tgt := 40) (dX10_lineTold 15 rfl) (by decide) (fun hc => ?_) (fun hc => ?_)
      · have H := ite_F H hc
        refine R_bipush (dX10_lineTold 21 rfl) rfl rfl ?_
        exact R_iret rfl rfl (Nat.zero_le _) (Nat.zero_le _) (dX10_lineTold 22 rfl) ⟨congrArg (fun z => some (Sum.inl z)) (Option.some.inj H), rfl, rfl⟩
      · have H := ite_T H hc
        refine R_aload_n (i := 0) (dX10_lineTold 16 rfl) rfl rfl ?_
        refine R_getR cgX10 38 (cl38 hS) 2 (Nat.le_of_ble_eq_true rfl) rfl (Or.inl tb_1129) (dX10_lineTold 17 rfl) ?_
        refine R_iload_n (i := 1) (dX10_lineTold 18 rfl) rfl rfl ?_
        obtain ⟨hg, H⟩ := ite_G H
        refine R_iald 40 (cl40 hS) hg (dX10_lineTold 19 rfl) ?_
        refine R_goto (tgt := 42) (dX10_lineTold 20 rfl) (by decide) ?_
        exact R_iret rfl rfl (Nat.zero_le _) (Nat.zero_le _) (dX10_lineTold 22 rfl) ⟨congrArg (fun z => some (Sum.inl z)) (Option.some.inj H), rfl, rfl⟩
    · have H := ite_T H hc
      refine R_aload_n (i := 0) (dX10_lineTold 8 rfl) rfl rfl ?_
      refine R_getR cgX10 38 (cl38 hS) 1 (Nat.le_of_ble_eq_true rfl) rfl (Or.inl tb_1128) (dX10_lineTold 9 rfl) ?_
      refine R_iload_n (i := 1) (dX10_lineTold 10 rfl) rfl rfl ?_
      obtain ⟨hg, H⟩ := ite_G H
      refine R_iald 39 (cl39 hS) hg (dX10_lineTold 11 rfl) ?_
      refine R_goto (tgt := 42) (dX10_lineTold 12 rfl) (by decide) ?_
      exact R_iret rfl rfl (Nat.zero_le _) (Nat.zero_le _) (dX10_lineTold 22 rfl) ⟨congrArg (fun z => some (Sum.inl z)) (Option.some.inj H), rfl, rfl⟩
  · have H := ite_T H hc
    refine R_bipush (dX10_lineTold 4 rfl) rfl rfl ?_
    refine R_goto (tgt := 42) (dX10_lineTold 5 rfl) (by decide) ?_
    exact R_iret rfl rfl (Nat.zero_le _) (Nat.zero_le _) (dX10_lineTold 22 rfl) ⟨congrArg (fun z => some (Sum.inl z)) (Option.some.inj H), rfl, rfl⟩
def f_X10_set (x1 : Int) (x2 : Int) (M : Mem) : Option (Int × Mem) :=
  if f_X10_isLine x1 M = 0 then
    some ((-5), M)
  else
    if f_X10_in x2 1 99 = 0 then
      some ((-7), M)
    else
      if 0 ≤ x1 ∧ x1 < 10 then
        if 0 ≤ x1 ∧ x1 < 10 then
          some (M 40 (x1).toNat, (mset M 40 (x1).toNat x2))
        else none
      else none
set_option maxHeartbeats 4000000 in
theorem t_X10_set (l : Launch) (g : GG) (ad : Nat → Nat) (S : SW) (M : Mem) (hS : q_ag 38 63 ad S) (x1 : Int) (x2 : Int) {r : Int} {M' : Mem} (H : f_X10_set x1 x2 M = some (r, M')) : CT l g MX10_set 3 0 0 S M [.inr (.inr (some (ad 38))), .inl x1, .inl x2] (q_ex S (some (.inl r)) M') := by
  unfold f_X10_set at H
  refine CT_of (ls0 := [some (.inr (.inr (some (ad 38)))), some (.inl x1), some (.inl x2), none]) (by decide +kernel) (Nat.le_of_ble_eq_true rfl) rfl ?_
  refine R_aload_n (i := 0) (dX10_set 0 rfl) rfl rfl ?_
  refine R_iload_n (i := 1) (dX10_set 1 rfl) rfl rfl ?_
  refine R_cV (st' := [.inl (f_X10_isLine x1 M)]) [.inl x1] [] (t_X10_isLine l g ad S _ hS   x1) msX10_isLine (Or.inl tb_1280) (Or.inl ⟨38, 10, _, _, _, (cl38 hS), rfl⟩) ⟨Nat.le_of_ble_eq_true rfl, Nat.le_of_ble_eq_true rfl⟩ (Nat.zero_le _) (Nat.zero_le _) rfl rfl (Nat.le_of_ble_eq_true rfl) rfl (dX10_set 2 rfl) ?_
  refine R_if_ne (tgt := 11) (dX10_set 3 rfl) (by decide) (fun hc => ?_) (fun hc => ?_)
  · have H := ite_F H hc
    refine R_iload_n (i := 2) (dX10_set 6 rfl) rfl rfl ?_
    refine R_iconst (dX10_set 7 rfl) rfl ?_
    refine R_bipush (dX10_set 8 rfl) rfl rfl ?_
    refine R_cS (st' := [.inl (f_X10_in x2 1 99)]) [.inl x2, .inl 1, .inl 99] [] (t_X10_in l g S _   x2 1 99) msX10_in (Or.inl tb_1083) ⟨Nat.le_of_ble_eq_true rfl, Nat.le_of_ble_eq_true rfl⟩ (Nat.zero_le _) (Nat.zero_le _) rfl rfl (Nat.le_of_ble_eq_true rfl) rfl (dX10_set 9 rfl) ?_
    refine R_if_ne (tgt := 24) (dX10_set 10 rfl) (by decide) (fun hc => ?_) (fun hc => ?_)
    · have H := ite_F H hc
      refine R_aload_n (i := 0) (dX10_set 13 rfl) rfl rfl ?_
      refine R_getR cgX10 38 (cl38 hS) 2 (Nat.le_of_ble_eq_true rfl) rfl (Or.inl tb_1129) (dX10_set 14 rfl) ?_
      refine R_iload_n (i := 1) (dX10_set 15 rfl) rfl rfl ?_
      obtain ⟨hg, H⟩ := ite_G H
      refine R_iald 40 (cl40 hS) hg (dX10_set 16 rfl) ?_
      refine R_istore_n (i := 3) (ls' := [some (.inr (.inr (some (ad 38)))), some (.inl x1), some (.inl x2), some (.inl (M 40 (x1).toNat))]) (dX10_set 17 rfl) rfl (Nat.le_of_ble_eq_true rfl) (Nat.le_of_ble_eq_true rfl) rfl rfl ?_
      refine R_aload_n (i := 0) (dX10_set 18 rfl) rfl rfl ?_
      refine R_getR cgX10 38 (cl38 hS) 2 (Nat.le_of_ble_eq_true rfl) rfl (Or.inl tb_1129) (dX10_set 19 rfl) ?_
      refine R_iload_n (i := 1) (dX10_set 20 rfl) rfl rfl ?_
      refine R_iload_n (i := 2) (dX10_set 21 rfl) rfl rfl ?_
      obtain ⟨hg, H⟩ := ite_G H
      refine R_iast 40 (cl40 hS) hg (dX10_set 22 rfl) ?_
      refine R_iload_n (i := 3) (dX10_set 23 rfl) rfl rfl ?_
      exact R_iret rfl rfl (Nat.zero_le _) (Nat.zero_le _) (dX10_set 24 rfl) ⟨congrArg (fun z => some (Sum.inl z)) (Prod.mk.inj (Option.some.inj H)).1, rfl, (Prod.mk.inj (Option.some.inj H)).2⟩
    · have H := ite_T H hc
      refine R_bipush (dX10_set 11 rfl) rfl rfl ?_
      exact R_iret rfl rfl (Nat.zero_le _) (Nat.zero_le _) (dX10_set 12 rfl) ⟨congrArg (fun z => some (Sum.inl z)) (Prod.mk.inj (Option.some.inj H)).1, rfl, (Prod.mk.inj (Option.some.inj H)).2⟩
  · have H := ite_T H hc
    refine R_bipush (dX10_set 4 rfl) rfl rfl ?_
    exact R_iret rfl rfl (Nat.zero_le _) (Nat.zero_le _) (dX10_set 5 rfl) ⟨congrArg (fun z => some (Sum.inl z)) (Prod.mk.inj (Option.some.inj H)).1, rfl, (Prod.mk.inj (Option.some.inj H)).2⟩
def f_X10_guest (x1 : Int) (M : Mem) : Option (Int × Mem) :=
  if f_X10_in x1 0 63 = 0 then
    some ((-2), M)
  else
    if M 38 3 = 4 then
      some ((-4), M)
    else
      if 0 ≤ M 38 3 ∧ M 38 3 < 4 then
        some (w32 (((mset (mset M 41 (M 38 3).toNat x1) 38 3 (w32 (((mset M 41 (M 38 3).toNat x1) 38 3) + 1))) 38 3) - 1), (mset (mset M 41 (M 38 3).toNat x1) 38 3 (w32 (((mset M 41 (M 38 3).toNat x1) 38 3) + 1))))
      else none
set_option maxHeartbeats 4000000 in
theorem t_X10_guest (l : Launch) (g : GG) (ad : Nat → Nat) (S : SW) (M : Mem) (hS : q_ag 38 63 ad S) (x1 : Int) {r : Int} {M' : Mem} (H : f_X10_guest x1 M = some (r, M')) : CT l g MX10_guest 2 0 0 S M [.inr (.inr (some (ad 38))), .inl x1] (q_ex S (some (.inl r)) M') := by
  unfold f_X10_guest at H
  refine CT_of (ls0 := [some (.inr (.inr (some (ad 38)))), some (.inl x1)]) (by decide +kernel) (Nat.le_of_ble_eq_true rfl) rfl ?_
  refine R_iload_n (i := 1) (dX10_guest 0 rfl) rfl rfl ?_
  refine R_iconst (dX10_guest 1 rfl) rfl ?_
  refine R_bipush (dX10_guest 2 rfl) rfl rfl ?_
  refine R_cS (st' := [.inl (f_X10_in x1 0 63)]) [.inl x1, .inl 0, .inl 63] [] (t_X10_in l g S _   x1 0 63) msX10_in (Or.inl tb_1083) ⟨Nat.le_of_ble_eq_true rfl, Nat.le_of_ble_eq_true rfl⟩ (Nat.zero_le _) (Nat.zero_le _) rfl rfl (Nat.le_of_ble_eq_true rfl) rfl (dX10_guest 3 rfl) ?_
  refine R_if_ne (tgt := 13) (dX10_guest 4 rfl) (by decide) (fun hc => ?_) (fun hc => ?_)
  · have H := ite_F H hc
    refine R_aload_n (i := 0) (dX10_guest 7 rfl) rfl rfl ?_
    refine R_getI cgX10 38 (cl38 hS) 3 (Nat.le_of_ble_eq_true rfl) rfl (Or.inl tb_1130) (dX10_guest 8 rfl) ?_
    refine R_iconst (dX10_guest 9 rfl) rfl ?_
    refine R_icmp_ne (tgt := 24) (dX10_guest 10 rfl) (by decide) (fun hc => ?_) (fun hc => ?_)
    · have H := ite_F H hc
      refine R_aload_n (i := 0) (dX10_guest 13 rfl) rfl rfl ?_
      refine R_getR cgX10 38 (cl38 hS) 4 (Nat.le_of_ble_eq_true rfl) rfl (Or.inl tb_1131) (dX10_guest 14 rfl) ?_
      refine R_aload_n (i := 0) (dX10_guest 15 rfl) rfl rfl ?_
      refine R_getI cgX10 38 (cl38 hS) 3 (Nat.le_of_ble_eq_true rfl) rfl (Or.inl tb_1130) (dX10_guest 16 rfl) ?_
      refine R_iload_n (i := 1) (dX10_guest 17 rfl) rfl rfl ?_
      obtain ⟨hg, H⟩ := ite_G H
      refine R_iast 41 (cl41 hS) hg (dX10_guest 18 rfl) ?_
      refine R_aload_n (i := 0) (dX10_guest 19 rfl) rfl rfl ?_
      refine R_dup rfl (dX10_guest 20 rfl) ?_
      refine R_getI cgX10 38 (cl38 hS) 3 (Nat.le_of_ble_eq_true rfl) rfl (Or.inl tb_1130) (dX10_guest 21 rfl) ?_
      refine R_iconst (dX10_guest 22 rfl) rfl ?_
      refine R_iadd (dX10_guest 23 rfl) ?_
      refine R_putI cgX10 38 (cl38 hS) 3 (Nat.le_of_ble_eq_true rfl) rfl rfl rfl rfl (Or.inl tb_1130) (dX10_guest 24 rfl) ?_
      refine R_aload_n (i := 0) (dX10_guest 25 rfl) rfl rfl ?_
      refine R_getI cgX10 38 (cl38 hS) 3 (Nat.le_of_ble_eq_true rfl) rfl (Or.inl tb_1130) (dX10_guest 26 rfl) ?_
      refine R_iconst (dX10_guest 27 rfl) rfl ?_
      refine R_isub (dX10_guest 28 rfl) ?_
      exact R_iret rfl rfl (Nat.zero_le _) (Nat.zero_le _) (dX10_guest 29 rfl) ⟨congrArg (fun z => some (Sum.inl z)) (Prod.mk.inj (Option.some.inj H)).1, rfl, (Prod.mk.inj (Option.some.inj H)).2⟩
    · have H := ite_T H hc
      refine R_bipush (dX10_guest 11 rfl) rfl rfl ?_
      exact R_iret rfl rfl (Nat.zero_le _) (Nat.zero_le _) (dX10_guest 12 rfl) ⟨congrArg (fun z => some (Sum.inl z)) (Prod.mk.inj (Option.some.inj H)).1, rfl, (Prod.mk.inj (Option.some.inj H)).2⟩
  · have H := ite_T H hc
    refine R_bipush (dX10_guest 5 rfl) rfl rfl ?_
    exact R_iret rfl rfl (Nat.zero_le _) (Nat.zero_le _) (dX10_guest 6 rfl) ⟨congrArg (fun z => some (Sum.inl z)) (Prod.mk.inj (Option.some.inj H)).1, rfl, (Prod.mk.inj (Option.some.inj H)).2⟩
def f_X10_guestTold (x1 : Int) (M : Mem) : Option Int :=
  if f_X10_isGuest x1 M = 0 then
    some (-5)
  else
    if 0 ≤ x1 ∧ x1 < 4 then
      some (M 41 (x1).toNat)
    else none
set_option maxHeartbeats 4000000 in
theorem t_X10_guestTold (l : Launch) (g : GG) (ad : Nat → Nat) (S : SW) (M : Mem) (hS : q_ag 38 63 ad S) (x1 : Int) {r : Int} (H : f_X10_guestTold x1 M = some r) : CT l g MX10_guestTold 3 0 0 S M [.inr (.inr (some (ad 38))), .inl x1] (q_ex S (some (.inl r)) M) := by
  unfold f_X10_guestTold at H
  refine CT_of (ls0 := [some (.inr (.inr (some (ad 38)))), some (.inl x1)]) (by decide +kernel) (Nat.le_of_ble_eq_true rfl) rfl ?_
  refine R_aload_n (i := 0) (dX10_guestTold 0 rfl) rfl rfl ?_
  refine R_iload_n (i := 1) (dX10_guestTold 1 rfl) rfl rfl ?_
  refine R_cV (st' := [.inl (f_X10_isGuest x1 M)]) [.inl x1] [] (t_X10_isGuest l g ad S _ hS   x1) msX10_isGuest (Or.inl tb_1296) (Or.inl ⟨38, 10, _, _, _, (cl38 hS), rfl⟩) ⟨Nat.le_of_ble_eq_true rfl, Nat.le_of_ble_eq_true rfl⟩ (Nat.zero_le _) (Nat.zero_le _) rfl rfl (Nat.le_of_ble_eq_true rfl) rfl (dX10_guestTold 2 rfl) ?_
  refine R_if_eq (tgt := 17) (dX10_guestTold 3 rfl) (by decide) (fun hc => ?_) (fun hc => ?_)
  · have H := ite_T H hc
    refine R_bipush (dX10_guestTold 9 rfl) rfl rfl ?_
    exact R_iret rfl rfl (Nat.zero_le _) (Nat.zero_le _) (dX10_guestTold 10 rfl) ⟨congrArg (fun z => some (Sum.inl z)) (Option.some.inj H), rfl, rfl⟩
  · have H := ite_F H hc
    refine R_aload_n (i := 0) (dX10_guestTold 4 rfl) rfl rfl ?_
    refine R_getR cgX10 38 (cl38 hS) 4 (Nat.le_of_ble_eq_true rfl) rfl (Or.inl tb_1131) (dX10_guestTold 5 rfl) ?_
    refine R_iload_n (i := 1) (dX10_guestTold 6 rfl) rfl rfl ?_
    obtain ⟨hg, H⟩ := ite_G H
    refine R_iald 41 (cl41 hS) hg (dX10_guestTold 7 rfl) ?_
    refine R_goto (tgt := 19) (dX10_guestTold 8 rfl) (by decide) ?_
    exact R_iret rfl rfl (Nat.zero_le _) (Nat.zero_le _) (dX10_guestTold 10 rfl) ⟨congrArg (fun z => some (Sum.inl z)) (Option.some.inj H), rfl, rfl⟩
def f_X10_pays (x1 : Int) (M : Mem) : Option (Int × Mem) :=
  if f_X10_in x1 0 999 = 0 then
    some ((-2), M)
  else
    some (M 38 5, (mset M 38 5 x1))
set_option maxHeartbeats 4000000 in
theorem t_X10_pays (l : Launch) (g : GG) (ad : Nat → Nat) (S : SW) (M : Mem) (hS : q_ag 38 63 ad S) (x1 : Int) {r : Int} {M' : Mem} (H : f_X10_pays x1 M = some (r, M')) : CT l g MX10_pays 2 0 0 S M [.inr (.inr (some (ad 38))), .inl x1] (q_ex S (some (.inl r)) M') := by
  unfold f_X10_pays at H
  refine CT_of (ls0 := [some (.inr (.inr (some (ad 38)))), some (.inl x1), none]) (by decide +kernel) (Nat.le_of_ble_eq_true rfl) rfl ?_
  refine R_iload_n (i := 1) (dX10_pays 0 rfl) rfl rfl ?_
  refine R_iconst (dX10_pays 1 rfl) rfl ?_
  refine R_sipush (dX10_pays 2 rfl) rfl rfl ?_
  refine R_cS (st' := [.inl (f_X10_in x1 0 999)]) [.inl x1, .inl 0, .inl 999] [] (t_X10_in l g S _   x1 0 999) msX10_in (Or.inl tb_1083) ⟨Nat.le_of_ble_eq_true rfl, Nat.le_of_ble_eq_true rfl⟩ (Nat.zero_le _) (Nat.zero_le _) rfl rfl (Nat.le_of_ble_eq_true rfl) rfl (dX10_pays 3 rfl) ?_
  refine R_if_ne (tgt := 14) (dX10_pays 4 rfl) (by decide) (fun hc => ?_) (fun hc => ?_)
  · have H := ite_F H hc
    refine R_aload_n (i := 0) (dX10_pays 7 rfl) rfl rfl ?_
    refine R_getI cgX10 38 (cl38 hS) 5 (Nat.le_of_ble_eq_true rfl) rfl (Or.inl tb_1132) (dX10_pays 8 rfl) ?_
    refine R_istore_n (i := 2) (ls' := [some (.inr (.inr (some (ad 38)))), some (.inl x1), some (.inl (M 38 5))]) (dX10_pays 9 rfl) rfl (Nat.le_of_ble_eq_true rfl) (Nat.le_of_ble_eq_true rfl) rfl rfl ?_
    refine R_aload_n (i := 0) (dX10_pays 10 rfl) rfl rfl ?_
    refine R_iload_n (i := 1) (dX10_pays 11 rfl) rfl rfl ?_
    refine R_putI cgX10 38 (cl38 hS) 5 (Nat.le_of_ble_eq_true rfl) rfl rfl rfl rfl (Or.inl tb_1132) (dX10_pays 12 rfl) ?_
    refine R_iload_n (i := 2) (dX10_pays 13 rfl) rfl rfl ?_
    exact R_iret rfl rfl (Nat.zero_le _) (Nat.zero_le _) (dX10_pays 14 rfl) ⟨congrArg (fun z => some (Sum.inl z)) (Prod.mk.inj (Option.some.inj H)).1, rfl, (Prod.mk.inj (Option.some.inj H)).2⟩
  · have H := ite_T H hc
    refine R_bipush (dX10_pays 5 rfl) rfl rfl ?_
    exact R_iret rfl rfl (Nat.zero_le _) (Nat.zero_le _) (dX10_pays 6 rfl) ⟨congrArg (fun z => some (Sum.inl z)) (Prod.mk.inj (Option.some.inj H)).1, rfl, (Prod.mk.inj (Option.some.inj H)).2⟩
def f_X10_count (x1 : Int) (M : Mem) : Int :=
  if x1 = 0 then
    M 38 0
  else if x1 = 1 then
    M 38 3
  else if x1 = 2 then
    M 38 6
  else if x1 = 3 then
    M 38 5
  else if x1 = 4 then
    M 38 13
  else if x1 = 5 then
    M 38 14
  else if x1 = 6 then
    M 38 10
  else
    (-2)
set_option maxHeartbeats 4000000 in
theorem t_X10_count (l : Launch) (g : GG) (ad : Nat → Nat) (S : SW) (M : Mem) (hS : q_ag 38 63 ad S) (x1 : Int) : CT l g MX10_count 1 0 0 S M [.inr (.inr (some (ad 38))), .inl x1] (q_ex S (some (.inl (f_X10_count x1 M))) M) := by
  obtain ⟨r, H⟩ : ∃ r, f_X10_count x1 M = r := ⟨_, rfl⟩
  rw [H]
  unfold f_X10_count at H
  refine CT_of (ls0 := [some (.inr (.inr (some (ad 38)))), some (.inl x1)]) (by decide +kernel) (Nat.le_of_ble_eq_true rfl) rfl ?_
  refine R_iload_n (i := 1) (dX10_count 0 rfl) rfl rfl ?_
  by_cases hc0 : x1 = 0
  · have H := ite_T H hc0
    refine R_tsIn (c0 := 0) (tgt := 44) (dX10_count 1 rfl) hc0 (by decide) (by decide) rfl (by decide) ?_
    refine R_aload_n (i := 0) (dX10_count 2 rfl) rfl rfl ?_
    refine R_getI cgX10 38 (cl38 hS) 0 (Nat.le_of_ble_eq_true rfl) rfl (Or.inl tb_1127) (dX10_count 3 rfl) ?_
    exact R_iret rfl rfl (Nat.zero_le _) (Nat.zero_le _) (dX10_count 4 rfl) ⟨congrArg (fun z => some (Sum.inl z)) H, rfl, rfl⟩
  have H := ite_F H hc0
  by_cases hc1 : x1 = 1
  · have H := ite_T H hc1
    refine R_tsIn (c0 := 1) (tgt := 49) (dX10_count 1 rfl) hc1 (by decide) (by decide) rfl (by decide) ?_
    refine R_aload_n (i := 0) (dX10_count 5 rfl) rfl rfl ?_
    refine R_getI cgX10 38 (cl38 hS) 3 (Nat.le_of_ble_eq_true rfl) rfl (Or.inl tb_1130) (dX10_count 6 rfl) ?_
    exact R_iret rfl rfl (Nat.zero_le _) (Nat.zero_le _) (dX10_count 7 rfl) ⟨congrArg (fun z => some (Sum.inl z)) H, rfl, rfl⟩
  have H := ite_F H hc1
  by_cases hc2 : x1 = 2
  · have H := ite_T H hc2
    refine R_tsIn (c0 := 2) (tgt := 54) (dX10_count 1 rfl) hc2 (by decide) (by decide) rfl (by decide) ?_
    refine R_aload_n (i := 0) (dX10_count 8 rfl) rfl rfl ?_
    refine R_getI cgX10 38 (cl38 hS) 6 (Nat.le_of_ble_eq_true rfl) rfl (Or.inl tb_1133) (dX10_count 9 rfl) ?_
    exact R_iret rfl rfl (Nat.zero_le _) (Nat.zero_le _) (dX10_count 10 rfl) ⟨congrArg (fun z => some (Sum.inl z)) H, rfl, rfl⟩
  have H := ite_F H hc2
  by_cases hc3 : x1 = 3
  · have H := ite_T H hc3
    refine R_tsIn (c0 := 3) (tgt := 59) (dX10_count 1 rfl) hc3 (by decide) (by decide) rfl (by decide) ?_
    refine R_aload_n (i := 0) (dX10_count 11 rfl) rfl rfl ?_
    refine R_getI cgX10 38 (cl38 hS) 5 (Nat.le_of_ble_eq_true rfl) rfl (Or.inl tb_1132) (dX10_count 12 rfl) ?_
    exact R_iret rfl rfl (Nat.zero_le _) (Nat.zero_le _) (dX10_count 13 rfl) ⟨congrArg (fun z => some (Sum.inl z)) H, rfl, rfl⟩
  have H := ite_F H hc3
  by_cases hc4 : x1 = 4
  · have H := ite_T H hc4
    refine R_tsIn (c0 := 4) (tgt := 64) (dX10_count 1 rfl) hc4 (by decide) (by decide) rfl (by decide) ?_
    refine R_aload_n (i := 0) (dX10_count 14 rfl) rfl rfl ?_
    refine R_getI cgX10 38 (cl38 hS) 13 (Nat.le_of_ble_eq_true rfl) rfl (Or.inl tb_1140) (dX10_count 15 rfl) ?_
    exact R_iret rfl rfl (Nat.zero_le _) (Nat.zero_le _) (dX10_count 16 rfl) ⟨congrArg (fun z => some (Sum.inl z)) H, rfl, rfl⟩
  have H := ite_F H hc4
  by_cases hc5 : x1 = 5
  · have H := ite_T H hc5
    refine R_tsIn (c0 := 5) (tgt := 69) (dX10_count 1 rfl) hc5 (by decide) (by decide) rfl (by decide) ?_
    refine R_aload_n (i := 0) (dX10_count 17 rfl) rfl rfl ?_
    refine R_getI cgX10 38 (cl38 hS) 14 (Nat.le_of_ble_eq_true rfl) rfl (Or.inl tb_1141) (dX10_count 18 rfl) ?_
    exact R_iret rfl rfl (Nat.zero_le _) (Nat.zero_le _) (dX10_count 19 rfl) ⟨congrArg (fun z => some (Sum.inl z)) H, rfl, rfl⟩
  have H := ite_F H hc5
  by_cases hc6 : x1 = 6
  · have H := ite_T H hc6
    refine R_tsIn (c0 := 6) (tgt := 74) (dX10_count 1 rfl) hc6 (by decide) (by decide) rfl (by decide) ?_
    refine R_aload_n (i := 0) (dX10_count 20 rfl) rfl rfl ?_
    refine R_getI cgX10 38 (cl38 hS) 10 (Nat.le_of_ble_eq_true rfl) rfl (Or.inl tb_1137) (dX10_count 21 rfl) ?_
    exact R_iret rfl rfl (Nat.zero_le _) (Nat.zero_le _) (dX10_count 22 rfl) ⟨congrArg (fun z => some (Sum.inl z)) H, rfl, rfl⟩
  have H := ite_F H hc6
  refine R_tsOut (tgt := 79) (dX10_count 1 rfl) (by omega) (by decide) ?_
  refine R_bipush (dX10_count 23 rfl) rfl rfl ?_
  exact R_iret rfl rfl (Nat.zero_le _) (Nat.zero_le _) (dX10_count 24 rfl) ⟨congrArg (fun z => some (Sum.inl z)) H, rfl, rfl⟩
def f_X10_isByte (x0 : Int) : Int :=
  f_X10_in x0 0 255
set_option maxHeartbeats 4000000 in
theorem t_X10_isByte (l : Launch) (g : GG) (ad : Nat → Nat) (S : SW) (M : Mem) (hS : q_ag 38 63 ad S) (x0 : Int) : CT l g MX10_isByte 2 0 0 S M [.inl x0] (q_ex S (some (.inl (f_X10_isByte x0))) M) := by
  obtain ⟨r, H⟩ : ∃ r, f_X10_isByte x0 = r := ⟨_, rfl⟩
  rw [H]
  unfold f_X10_isByte at H
  refine CT_of (ls0 := [some (.inl x0)]) (by decide +kernel) (Nat.le_of_ble_eq_true rfl) rfl ?_
  refine R_iload_n (i := 0) (dX10_isByte 0 rfl) rfl rfl ?_
  refine R_iconst (dX10_isByte 1 rfl) rfl ?_
  refine R_sipush (dX10_isByte 2 rfl) rfl rfl ?_
  refine R_cS (st' := [.inl (f_X10_in x0 0 255)]) [.inl x0, .inl 0, .inl 255] [] (t_X10_in l g S _   x0 0 255) msX10_in (Or.inl tb_1083) ⟨Nat.le_of_ble_eq_true rfl, Nat.le_of_ble_eq_true rfl⟩ (Nat.zero_le _) (Nat.zero_le _) rfl rfl (Nat.le_of_ble_eq_true rfl) rfl (dX10_isByte 3 rfl) ?_
  exact R_iret rfl (q_nbz (z_X10_in x0 0 255)) (Nat.zero_le _) (Nat.zero_le _) (dX10_isByte 4 rfl) ⟨congrArg (fun z => some (Sum.inl z)) H, rfl, rfl⟩
theorem z_X10_isByte (x0 : Int) : f_X10_isByte x0 = 0 ∨ f_X10_isByte x0 = 1 := by
  unfold f_X10_isByte
  (repeat' split) <;> first | exact Or.inl rfl | exact Or.inr rfl | exact z_X10_in ..
def f_X10_feed_L68 (x1 : Int) (x2 : Int) (x3 : Int) (x4 : Int) (x5 : Int) (x6 : Int) : Nat → Int → Mem → Option (Int × Mem)
  | 0, _, _ => none
  | n + 1, x7, M =>
    if x7 < x1 then
      if x7 = 0 then
        if 0 ≤ M 38 10 ∧ M 38 10 < 160 then
          f_X10_feed_L68 x1 x2 x3 x4 x5 x6 n (w32 (x7 + 1)) (mset (mset M 44 (M 38 10).toNat x2) 38 10 (w32 (((mset M 44 (M 38 10).toNat x2) 38 10) + 1)))
        else none
      else
        if x7 = 1 then
          if 0 ≤ M 38 10 ∧ M 38 10 < 160 then
            f_X10_feed_L68 x1 x2 x3 x4 x5 x6 n (w32 (x7 + 1)) (mset (mset M 44 (M 38 10).toNat x3) 38 10 (w32 (((mset M 44 (M 38 10).toNat x3) 38 10) + 1)))
          else none
        else
          if x7 = 2 then
            if 0 ≤ M 38 10 ∧ M 38 10 < 160 then
              f_X10_feed_L68 x1 x2 x3 x4 x5 x6 n (w32 (x7 + 1)) (mset (mset M 44 (M 38 10).toNat x4) 38 10 (w32 (((mset M 44 (M 38 10).toNat x4) 38 10) + 1)))
            else none
          else
            if x7 = 3 then
              if 0 ≤ M 38 10 ∧ M 38 10 < 160 then
                f_X10_feed_L68 x1 x2 x3 x4 x5 x6 n (w32 (x7 + 1)) (mset (mset M 44 (M 38 10).toNat x5) 38 10 (w32 (((mset M 44 (M 38 10).toNat x5) 38 10) + 1)))
              else none
            else
              if 0 ≤ M 38 10 ∧ M 38 10 < 160 then
                f_X10_feed_L68 x1 x2 x3 x4 x5 x6 n (w32 (x7 + 1)) (mset (mset M 44 (M 38 10).toNat x6) 38 10 (w32 (((mset M 44 (M 38 10).toNat x6) 38 10) + 1)))
              else none
    else
      some (M 38 10, M)
set_option maxHeartbeats 4000000 in
theorem t_X10_feed_L68 (l : Launch) (g : GG) (ad : Nat → Nat) (S : SW) (hS : q_ag 38 63 ad S) (x1 : Int) (x2 : Int) (x3 : Int) (x4 : Int) (x5 : Int) (x6 : Int) {r : Int} {M' : Mem} : ∀ (n : Nat) (x7 : Int) (M : Mem), f_X10_feed_L68 x1 x2 x3 x4 x5 x6 n x7 M = some (r, M') → RW l g MX10_feed (q_rm 3 0 0) 0 0 (q_ex S (some (.inl r)) M') 68 S M 0 0 [some (.inr (.inr (some (ad 38)))), some (.inl x1), some (.inl x2), some (.inl x3), some (.inl x4), some (.inl x5), some (.inl x6), some (.inl x7)] [] := by
  intro n
  induction n with
  | zero => intro x7 M H; exact absurd H (by simp [f_X10_feed_L68])
  | succ n ih =>
    intro x7 M H
    rw [f_X10_feed_L68] at H
    refine R_iload (i := 7) (dX10_feed_0 32 rfl) rfl ?_
    refine R_iload_n (i := 1) (dX10_feed_0 33 rfl) rfl rfl ?_
    refine R_icmp_ge (tgt := 142) (dX10_feed_0 34 rfl) (by decide) (fun hc => ?_) (fun hc => ?_)
    · have H := ite_F H hc
      refine R_aload_n (i := 0) (dX10_feed_1 8 rfl) rfl rfl ?_
      refine R_getI cgX10 38 (cl38 hS) 10 (Nat.le_of_ble_eq_true rfl) rfl (Or.inl tb_1137) (dX10_feed_1 9 rfl) ?_
      exact R_iret rfl rfl (Nat.zero_le _) (Nat.zero_le _) (dX10_feed_1 10 rfl) ⟨congrArg (fun z => some (Sum.inl z)) (Prod.mk.inj (Option.some.inj H)).1, rfl, (Prod.mk.inj (Option.some.inj H)).2⟩
    · have H := ite_T H hc
      refine R_aload_n (i := 0) (dX10_feed_0 35 rfl) rfl rfl ?_
      refine R_getR cgX10 38 (cl38 hS) 9 (Nat.le_of_ble_eq_true rfl) rfl (Or.inl tb_1136) (dX10_feed_0 36 rfl) ?_
      refine R_aload_n (i := 0) (dX10_feed_0 37 rfl) rfl rfl ?_
      refine R_getI cgX10 38 (cl38 hS) 10 (Nat.le_of_ble_eq_true rfl) rfl (Or.inl tb_1137) (dX10_feed_0 38 rfl) ?_
      refine R_iload (i := 7) (dX10_feed_0 39 rfl) rfl ?_
      refine R_if_ne (tgt := 91) (dX10_feed_0 40 rfl) (by decide) (fun hc => ?_) (fun hc => ?_)
      · have H := ite_F H hc
        refine R_iload (i := 7) (dX10_feed_0 43 rfl) rfl ?_
        refine R_iconst (dX10_feed_0 44 rfl) rfl ?_
        refine R_icmp_ne (tgt := 101) (dX10_feed_0 45 rfl) (by decide) (fun hc => ?_) (fun hc => ?_)
        · have H := ite_F H hc
          refine R_iload (i := 7) (dX10_feed_0 48 rfl) rfl ?_
          refine R_iconst (dX10_feed_0 49 rfl) rfl ?_
          refine R_icmp_ne (tgt := 112) (dX10_feed_0 50 rfl) (by decide) (fun hc => ?_) (fun hc => ?_)
          · have H := ite_F H hc
            refine R_iload (i := 7) (dX10_feed_0 53 rfl) rfl ?_
            refine R_iconst (dX10_feed_0 54 rfl) rfl ?_
            refine R_icmp_ne (tgt := 123) (dX10_feed_0 55 rfl) (by decide) (fun hc => ?_) (fun hc => ?_)
            · have H := ite_F H hc
              refine R_iload (i := 6) (dX10_feed_0 58 rfl) rfl ?_
              obtain ⟨hg, H⟩ := ite_G H
              refine R_iast 44 (cl44 hS) hg (dX10_feed_0 59 rfl) ?_
              refine R_aload_n (i := 0) (dX10_feed_1 0 rfl) rfl rfl ?_
              refine R_dup rfl (dX10_feed_1 1 rfl) ?_
              refine R_getI cgX10 38 (cl38 hS) 10 (Nat.le_of_ble_eq_true rfl) rfl (Or.inl tb_1137) (dX10_feed_1 2 rfl) ?_
              refine R_iconst (dX10_feed_1 3 rfl) rfl ?_
              refine R_iadd (dX10_feed_1 4 rfl) ?_
              refine R_putI cgX10 38 (cl38 hS) 10 (Nat.le_of_ble_eq_true rfl) rfl rfl rfl rfl (Or.inl tb_1137) (dX10_feed_1 5 rfl) ?_
              refine R_iinc (i := 7) (ls' := [some (.inr (.inr (some (ad 38)))), some (.inl x1), some (.inl x2), some (.inl x3), some (.inl x4), some (.inl x5), some (.inl x6), some (.inl (w32 (x7 + 1)))]) (dX10_feed_1 6 rfl) rfl (Nat.le_of_ble_eq_true rfl) rfl rfl ?_
              refine R_goto (tgt := 68) (dX10_feed_1 7 rfl) (by decide) ?_
              exact ih (w32 (x7 + 1)) (mset (mset M 44 (M 38 10).toNat x6) 38 10 (w32 (((mset M 44 (M 38 10).toNat x6) 38 10) + 1))) H
            · have H := ite_T H hc
              refine R_iload (i := 5) (dX10_feed_0 56 rfl) rfl ?_
              refine R_goto (tgt := 125) (dX10_feed_0 57 rfl) (by decide) ?_
              obtain ⟨hg, H⟩ := ite_G H
              refine R_iast 44 (cl44 hS) hg (dX10_feed_0 59 rfl) ?_
              refine R_aload_n (i := 0) (dX10_feed_1 0 rfl) rfl rfl ?_
              refine R_dup rfl (dX10_feed_1 1 rfl) ?_
              refine R_getI cgX10 38 (cl38 hS) 10 (Nat.le_of_ble_eq_true rfl) rfl (Or.inl tb_1137) (dX10_feed_1 2 rfl) ?_
              refine R_iconst (dX10_feed_1 3 rfl) rfl ?_
              refine R_iadd (dX10_feed_1 4 rfl) ?_
              refine R_putI cgX10 38 (cl38 hS) 10 (Nat.le_of_ble_eq_true rfl) rfl rfl rfl rfl (Or.inl tb_1137) (dX10_feed_1 5 rfl) ?_
              refine R_iinc (i := 7) (ls' := [some (.inr (.inr (some (ad 38)))), some (.inl x1), some (.inl x2), some (.inl x3), some (.inl x4), some (.inl x5), some (.inl x6), some (.inl (w32 (x7 + 1)))]) (dX10_feed_1 6 rfl) rfl (Nat.le_of_ble_eq_true rfl) rfl rfl ?_
              refine R_goto (tgt := 68) (dX10_feed_1 7 rfl) (by decide) ?_
              exact ih (w32 (x7 + 1)) (mset (mset M 44 (M 38 10).toNat x5) 38 10 (w32 (((mset M 44 (M 38 10).toNat x5) 38 10) + 1))) H
          · have H := ite_T H hc
            refine R_iload (i := 4) (dX10_feed_0 51 rfl) rfl ?_
            refine R_goto (tgt := 125) (dX10_feed_0 52 rfl) (by decide) ?_
            obtain ⟨hg, H⟩ := ite_G H
            refine R_iast 44 (cl44 hS) hg (dX10_feed_0 59 rfl) ?_
            refine R_aload_n (i := 0) (dX10_feed_1 0 rfl) rfl rfl ?_
            refine R_dup rfl (dX10_feed_1 1 rfl) ?_
            refine R_getI cgX10 38 (cl38 hS) 10 (Nat.le_of_ble_eq_true rfl) rfl (Or.inl tb_1137) (dX10_feed_1 2 rfl) ?_
            refine R_iconst (dX10_feed_1 3 rfl) rfl ?_
            refine R_iadd (dX10_feed_1 4 rfl) ?_
            refine R_putI cgX10 38 (cl38 hS) 10 (Nat.le_of_ble_eq_true rfl) rfl rfl rfl rfl (Or.inl tb_1137) (dX10_feed_1 5 rfl) ?_
            refine R_iinc (i := 7) (ls' := [some (.inr (.inr (some (ad 38)))), some (.inl x1), some (.inl x2), some (.inl x3), some (.inl x4), some (.inl x5), some (.inl x6), some (.inl (w32 (x7 + 1)))]) (dX10_feed_1 6 rfl) rfl (Nat.le_of_ble_eq_true rfl) rfl rfl ?_
            refine R_goto (tgt := 68) (dX10_feed_1 7 rfl) (by decide) ?_
            exact ih (w32 (x7 + 1)) (mset (mset M 44 (M 38 10).toNat x4) 38 10 (w32 (((mset M 44 (M 38 10).toNat x4) 38 10) + 1))) H
        · have H := ite_T H hc
          refine R_iload_n (i := 3) (dX10_feed_0 46 rfl) rfl rfl ?_
          refine R_goto (tgt := 125) (dX10_feed_0 47 rfl) (by decide) ?_
          obtain ⟨hg, H⟩ := ite_G H
          refine R_iast 44 (cl44 hS) hg (dX10_feed_0 59 rfl) ?_
          refine R_aload_n (i := 0) (dX10_feed_1 0 rfl) rfl rfl ?_
          refine R_dup rfl (dX10_feed_1 1 rfl) ?_
          refine R_getI cgX10 38 (cl38 hS) 10 (Nat.le_of_ble_eq_true rfl) rfl (Or.inl tb_1137) (dX10_feed_1 2 rfl) ?_
          refine R_iconst (dX10_feed_1 3 rfl) rfl ?_
          refine R_iadd (dX10_feed_1 4 rfl) ?_
          refine R_putI cgX10 38 (cl38 hS) 10 (Nat.le_of_ble_eq_true rfl) rfl rfl rfl rfl (Or.inl tb_1137) (dX10_feed_1 5 rfl) ?_
          refine R_iinc (i := 7) (ls' := [some (.inr (.inr (some (ad 38)))), some (.inl x1), some (.inl x2), some (.inl x3), some (.inl x4), some (.inl x5), some (.inl x6), some (.inl (w32 (x7 + 1)))]) (dX10_feed_1 6 rfl) rfl (Nat.le_of_ble_eq_true rfl) rfl rfl ?_
          refine R_goto (tgt := 68) (dX10_feed_1 7 rfl) (by decide) ?_
          exact ih (w32 (x7 + 1)) (mset (mset M 44 (M 38 10).toNat x3) 38 10 (w32 (((mset M 44 (M 38 10).toNat x3) 38 10) + 1))) H
      · have H := ite_T H hc
        refine R_iload_n (i := 2) (dX10_feed_0 41 rfl) rfl rfl ?_
        refine R_goto (tgt := 125) (dX10_feed_0 42 rfl) (by decide) ?_
        obtain ⟨hg, H⟩ := ite_G H
        refine R_iast 44 (cl44 hS) hg (dX10_feed_0 59 rfl) ?_
        refine R_aload_n (i := 0) (dX10_feed_1 0 rfl) rfl rfl ?_
        refine R_dup rfl (dX10_feed_1 1 rfl) ?_
        refine R_getI cgX10 38 (cl38 hS) 10 (Nat.le_of_ble_eq_true rfl) rfl (Or.inl tb_1137) (dX10_feed_1 2 rfl) ?_
        refine R_iconst (dX10_feed_1 3 rfl) rfl ?_
        refine R_iadd (dX10_feed_1 4 rfl) ?_
        refine R_putI cgX10 38 (cl38 hS) 10 (Nat.le_of_ble_eq_true rfl) rfl rfl rfl rfl (Or.inl tb_1137) (dX10_feed_1 5 rfl) ?_
        refine R_iinc (i := 7) (ls' := [some (.inr (.inr (some (ad 38)))), some (.inl x1), some (.inl x2), some (.inl x3), some (.inl x4), some (.inl x5), some (.inl x6), some (.inl (w32 (x7 + 1)))]) (dX10_feed_1 6 rfl) rfl (Nat.le_of_ble_eq_true rfl) rfl rfl ?_
        refine R_goto (tgt := 68) (dX10_feed_1 7 rfl) (by decide) ?_
        exact ih (w32 (x7 + 1)) (mset (mset M 44 (M 38 10).toNat x2) 38 10 (w32 (((mset M 44 (M 38 10).toNat x2) 38 10) + 1))) H
def f_X10_feed (x1 : Int) (x2 : Int) (x3 : Int) (x4 : Int) (x5 : Int) (x6 : Int) (M : Mem) : Option (Int × Mem) :=
  if f_X10_in x1 1 5 = 0 then
    some ((-2), M)
  else
    if f_X10_isByte x2 = 0 then
      some ((-2), M)
    else
      if f_X10_isByte x3 = 0 then
        some ((-2), M)
      else
        if f_X10_isByte x4 = 0 then
          some ((-2), M)
        else
          if f_X10_isByte x5 = 0 then
            some ((-2), M)
          else
            if f_X10_isByte x6 = 0 then
              some ((-2), M)
            else
              if 160 < w32 ((M 38 10) + x1) then
                some ((-4), M)
              else
                f_X10_feed_L68
                  x1 x2 x3 x4 x5 x6 100000 0 M
set_option maxHeartbeats 4000000 in
theorem t_X10_feed (l : Launch) (g : GG) (ad : Nat → Nat) (S : SW) (M : Mem) (hS : q_ag 38 63 ad S) (x1 : Int) (x2 : Int) (x3 : Int) (x4 : Int) (x5 : Int) (x6 : Int) {r : Int} {M' : Mem} (H : f_X10_feed x1 x2 x3 x4 x5 x6 M = some (r, M')) : CT l g MX10_feed 3 0 0 S M [.inr (.inr (some (ad 38))), .inl x1, .inl x2, .inl x3, .inl x4, .inl x5, .inl x6] (q_ex S (some (.inl r)) M') := by
  unfold f_X10_feed at H
  refine CT_of (ls0 := [some (.inr (.inr (some (ad 38)))), some (.inl x1), some (.inl x2), some (.inl x3), some (.inl x4), some (.inl x5), some (.inl x6), none]) (by decide +kernel) (Nat.le_of_ble_eq_true rfl) rfl ?_
  refine R_iload_n (i := 1) (dX10_feed_0 0 rfl) rfl rfl ?_
  refine R_iconst (dX10_feed_0 1 rfl) rfl ?_
  refine R_iconst (dX10_feed_0 2 rfl) rfl ?_
  refine R_cS (st' := [.inl (f_X10_in x1 1 5)]) [.inl x1, .inl 1, .inl 5] [] (t_X10_in l g S _   x1 1 5) msX10_in (Or.inl tb_1083) ⟨Nat.le_of_ble_eq_true rfl, Nat.le_of_ble_eq_true rfl⟩ (Nat.zero_le _) (Nat.zero_le _) rfl rfl (Nat.le_of_ble_eq_true rfl) rfl (dX10_feed_0 3 rfl) ?_
  refine R_if_eq (tgt := 47) (dX10_feed_0 4 rfl) (by decide) (fun hc => ?_) (fun hc => ?_)
  · have H := ite_T H hc
    refine R_bipush (dX10_feed_0 20 rfl) rfl rfl ?_
    exact R_iret rfl rfl (Nat.zero_le _) (Nat.zero_le _) (dX10_feed_0 21 rfl) ⟨congrArg (fun z => some (Sum.inl z)) (Prod.mk.inj (Option.some.inj H)).1, rfl, (Prod.mk.inj (Option.some.inj H)).2⟩
  · have H := ite_F H hc
    refine R_iload_n (i := 2) (dX10_feed_0 5 rfl) rfl rfl ?_
    refine R_cS (st' := [.inl (f_X10_isByte x2)]) [.inl x2] [] (t_X10_isByte l g ad S _ hS   x2) msX10_isByte (Or.inl tb_1312) ⟨Nat.le_of_ble_eq_true rfl, Nat.le_of_ble_eq_true rfl⟩ (Nat.zero_le _) (Nat.zero_le _) rfl rfl (Nat.le_of_ble_eq_true rfl) rfl (dX10_feed_0 6 rfl) ?_
    refine R_if_eq (tgt := 47) (dX10_feed_0 7 rfl) (by decide) (fun hc => ?_) (fun hc => ?_)
    · have H := ite_T H hc
      refine R_bipush (dX10_feed_0 20 rfl) rfl rfl ?_
      exact R_iret rfl rfl (Nat.zero_le _) (Nat.zero_le _) (dX10_feed_0 21 rfl) ⟨congrArg (fun z => some (Sum.inl z)) (Prod.mk.inj (Option.some.inj H)).1, rfl, (Prod.mk.inj (Option.some.inj H)).2⟩
    · have H := ite_F H hc
      refine R_iload_n (i := 3) (dX10_feed_0 8 rfl) rfl rfl ?_
      refine R_cS (st' := [.inl (f_X10_isByte x3)]) [.inl x3] [] (t_X10_isByte l g ad S _ hS   x3) msX10_isByte (Or.inl tb_1312) ⟨Nat.le_of_ble_eq_true rfl, Nat.le_of_ble_eq_true rfl⟩ (Nat.zero_le _) (Nat.zero_le _) rfl rfl (Nat.le_of_ble_eq_true rfl) rfl (dX10_feed_0 9 rfl) ?_
      refine R_if_eq (tgt := 47) (dX10_feed_0 10 rfl) (by decide) (fun hc => ?_) (fun hc => ?_)
      · have H := ite_T H hc
        refine R_bipush (dX10_feed_0 20 rfl) rfl rfl ?_
        exact R_iret rfl rfl (Nat.zero_le _) (Nat.zero_le _) (dX10_feed_0 21 rfl) ⟨congrArg (fun z => some (Sum.inl z)) (Prod.mk.inj (Option.some.inj H)).1, rfl, (Prod.mk.inj (Option.some.inj H)).2⟩
      · have H := ite_F H hc
        refine R_iload (i := 4) (dX10_feed_0 11 rfl) rfl ?_
        refine R_cS (st' := [.inl (f_X10_isByte x4)]) [.inl x4] [] (t_X10_isByte l g ad S _ hS   x4) msX10_isByte (Or.inl tb_1312) ⟨Nat.le_of_ble_eq_true rfl, Nat.le_of_ble_eq_true rfl⟩ (Nat.zero_le _) (Nat.zero_le _) rfl rfl (Nat.le_of_ble_eq_true rfl) rfl (dX10_feed_0 12 rfl) ?_
        refine R_if_eq (tgt := 47) (dX10_feed_0 13 rfl) (by decide) (fun hc => ?_) (fun hc => ?_)
        · have H := ite_T H hc
          refine R_bipush (dX10_feed_0 20 rfl) rfl rfl ?_
          exact R_iret rfl rfl (Nat.zero_le _) (Nat.zero_le _) (dX10_feed_0 21 rfl) ⟨congrArg (fun z => some (Sum.inl z)) (Prod.mk.inj (Option.some.inj H)).1, rfl, (Prod.mk.inj (Option.some.inj H)).2⟩
        · have H := ite_F H hc
          refine R_iload (i := 5) (dX10_feed_0 14 rfl) rfl ?_
          refine R_cS (st' := [.inl (f_X10_isByte x5)]) [.inl x5] [] (t_X10_isByte l g ad S _ hS   x5) msX10_isByte (Or.inl tb_1312) ⟨Nat.le_of_ble_eq_true rfl, Nat.le_of_ble_eq_true rfl⟩ (Nat.zero_le _) (Nat.zero_le _) rfl rfl (Nat.le_of_ble_eq_true rfl) rfl (dX10_feed_0 15 rfl) ?_
          refine R_if_eq (tgt := 47) (dX10_feed_0 16 rfl) (by decide) (fun hc => ?_) (fun hc => ?_)
          · have H := ite_T H hc
            refine R_bipush (dX10_feed_0 20 rfl) rfl rfl ?_
            exact R_iret rfl rfl (Nat.zero_le _) (Nat.zero_le _) (dX10_feed_0 21 rfl) ⟨congrArg (fun z => some (Sum.inl z)) (Prod.mk.inj (Option.some.inj H)).1, rfl, (Prod.mk.inj (Option.some.inj H)).2⟩
          · have H := ite_F H hc
            refine R_iload (i := 6) (dX10_feed_0 17 rfl) rfl ?_
            refine R_cS (st' := [.inl (f_X10_isByte x6)]) [.inl x6] [] (t_X10_isByte l g ad S _ hS   x6) msX10_isByte (Or.inl tb_1312) ⟨Nat.le_of_ble_eq_true rfl, Nat.le_of_ble_eq_true rfl⟩ (Nat.zero_le _) (Nat.zero_le _) rfl rfl (Nat.le_of_ble_eq_true rfl) rfl (dX10_feed_0 18 rfl) ?_
            refine R_if_ne (tgt := 50) (dX10_feed_0 19 rfl) (by decide) (fun hc => ?_) (fun hc => ?_)
            · have H := ite_F H hc
              refine R_aload_n (i := 0) (dX10_feed_0 22 rfl) rfl rfl ?_
              refine R_getI cgX10 38 (cl38 hS) 10 (Nat.le_of_ble_eq_true rfl) rfl (Or.inl tb_1137) (dX10_feed_0 23 rfl) ?_
              refine R_iload_n (i := 1) (dX10_feed_0 24 rfl) rfl rfl ?_
              refine R_iadd (dX10_feed_0 25 rfl) ?_
              refine R_sipush (dX10_feed_0 26 rfl) rfl rfl ?_
              refine R_icmp_le (tgt := 65) (dX10_feed_0 27 rfl) (by decide) (fun hc => ?_) (fun hc => ?_)
              · have H := ite_F H hc
                refine R_iconst (dX10_feed_0 30 rfl) rfl ?_
                refine R_istore (i := 7) (ls' := [some (.inr (.inr (some (ad 38)))), some (.inl x1), some (.inl x2), some (.inl x3), some (.inl x4), some (.inl x5), some (.inl x6), some (.inl 0)]) (dX10_feed_0 31 rfl) (Nat.le_of_ble_eq_true rfl) (Nat.le_of_ble_eq_true rfl) rfl rfl ?_
                exact t_X10_feed_L68 l g ad S hS x1 x2 x3 x4 x5 x6  100000 0 M H 
              · have H := ite_T H hc
                refine R_bipush (dX10_feed_0 28 rfl) rfl rfl ?_
                exact R_iret rfl rfl (Nat.zero_le _) (Nat.zero_le _) (dX10_feed_0 29 rfl) ⟨congrArg (fun z => some (Sum.inl z)) (Prod.mk.inj (Option.some.inj H)).1, rfl, (Prod.mk.inj (Option.some.inj H)).2⟩
            · have H := ite_T H hc
              refine R_bipush (dX10_feed_0 20 rfl) rfl rfl ?_
              exact R_iret rfl rfl (Nat.zero_le _) (Nat.zero_le _) (dX10_feed_0 21 rfl) ⟨congrArg (fun z => some (Sum.inl z)) (Prod.mk.inj (Option.some.inj H)).1, rfl, (Prod.mk.inj (Option.some.inj H)).2⟩
def f_X10_wordFrom_L26 (K88 : Int → Option Int) (x1 : Int) (x2 : Int) (x3 : Int) (M : Mem) : Nat → Int → Int → Option Int
  | 0, _, _ => none
  | n + 1, x4, x5 =>
    if x5 < 8 then
      if x4 = 0 then
        K88 x4
      else
        if 0 ≤ w32 ((w32 (8 * x3)) + x5) ∧ w32 ((w32 (8 * x3)) + x5) < 96 then
          if w32 (x1 + x5) < x2 then
            if 0 ≤ w32 (x1 + x5) ∧ w32 (x1 + x5) < 160 then
              if M 52 (w32 ((w32 (8 * x3)) + x5)).toNat = M 44 (w32 (x1 + x5)).toNat then
                f_X10_wordFrom_L26 K88 x1 x2 x3 M n 1 (w32 (x5 + 1))
              else
                f_X10_wordFrom_L26 K88 x1 x2 x3 M n 0 (w32 (x5 + 1))
            else none
          else
            if M 52 (w32 ((w32 (8 * x3)) + x5)).toNat = 32 then
              f_X10_wordFrom_L26 K88 x1 x2 x3 M n 1 (w32 (x5 + 1))
            else
              f_X10_wordFrom_L26 K88 x1 x2 x3 M n 0 (w32 (x5 + 1))
        else none
    else
      K88 x4
set_option maxHeartbeats 4000000 in
theorem t_X10_wordFrom_L26 (l : Launch) (g : GG) (ad : Nat → Nat) (S : SW) (M : Mem) (hS : q_ag 38 63 ad S) (x1 : Int) (x2 : Int) (x3 : Int) {K88 : Int → Option Int} {r : Int} : ∀ (n : Nat) (x4 : Int) (x5 : Int), f_X10_wordFrom_L26 K88 x1 x2 x3 M n x4 x5 = some r → (∀ (z4 : Int), K88 z4 = some r → RW l g MX10_wordFrom (q_rm 1 0 0) 0 0 (q_ex S (some (.inl r)) M) 88 S M 0 0 [some (.inr (.inr (some (ad 38)))), some (.inl x1), some (.inl x2), some (.inl x3), some (.inl z4), none] []) → RW l g MX10_wordFrom (q_rm 1 0 0) 0 0 (q_ex S (some (.inl r)) M) 26 S M 0 0 [some (.inr (.inr (some (ad 38)))), some (.inl x1), some (.inl x2), some (.inl x3), some (.inl x4), some (.inl x5)] [] := by
  intro n
  induction n with
  | zero => intro x4 x5 H; exact absurd H (by simp [f_X10_wordFrom_L26])
  | succ n ih =>
    intro x4 x5 H hK88
    rw [f_X10_wordFrom_L26] at H
    refine R_iload (i := 5) (dX10_wordFrom 16 rfl) rfl ?_
    refine R_bipush (dX10_wordFrom 17 rfl) rfl rfl ?_
    refine R_icmp_ge (tgt := 88) (dX10_wordFrom 18 rfl) (by decide) (fun hc => ?_) (fun hc => ?_)
    · have H := ite_F H hc
      refine R_mask [true, true, true, true, true, false] rfl ?_
      exact hK88 x4 H
    · have H := ite_T H hc
      refine R_iload (i := 4) (dX10_wordFrom 19 rfl) rfl ?_
      refine R_if_eq (tgt := 88) (dX10_wordFrom 20 rfl) (by decide) (fun hc => ?_) (fun hc => ?_)
      · have H := ite_T H hc
        refine R_mask [true, true, true, true, true, false] rfl ?_
        exact hK88 x4 H
      · have H := ite_F H hc
        refine R_aload_n (i := 0) (dX10_wordFrom 21 rfl) rfl rfl ?_
        refine R_getR cgX10 38 (cl38 hS) 30 (Nat.le_of_ble_eq_true rfl) rfl (Or.inl tb_1157) (dX10_wordFrom 22 rfl) ?_
        refine R_bipush (dX10_wordFrom 23 rfl) rfl rfl ?_
        refine R_iload_n (i := 3) (dX10_wordFrom 24 rfl) rfl rfl ?_
        refine R_imul (dX10_wordFrom 25 rfl) ?_
        refine R_iload (i := 5) (dX10_wordFrom 26 rfl) rfl ?_
        refine R_iadd (dX10_wordFrom 27 rfl) ?_
        obtain ⟨hg, H⟩ := ite_G H
        refine R_iald 52 (cl52 hS) hg (dX10_wordFrom 28 rfl) ?_
        refine R_iload_n (i := 1) (dX10_wordFrom 29 rfl) rfl rfl ?_
        refine R_iload (i := 5) (dX10_wordFrom 30 rfl) rfl ?_
        refine R_iadd (dX10_wordFrom 31 rfl) ?_
        refine R_iload_n (i := 2) (dX10_wordFrom 32 rfl) rfl rfl ?_
        refine R_icmp_ge (tgt := 70) (dX10_wordFrom 33 rfl) (by decide) (fun hc => ?_) (fun hc => ?_)
        · have H := ite_F H hc
          refine R_bipush (dX10_wordFrom 41 rfl) rfl rfl ?_
          refine R_icmp_ne (tgt := 79) (dX10_wordFrom 42 rfl) (by decide) (fun hc => ?_) (fun hc => ?_)
          · have H := ite_F H hc
            refine R_iconst (dX10_wordFrom 45 rfl) rfl ?_
            refine R_istore (i := 4) (ls' := [some (.inr (.inr (some (ad 38)))), some (.inl x1), some (.inl x2), some (.inl x3), some (.inl 0), some (.inl x5)]) (dX10_wordFrom 46 rfl) (Nat.le_of_ble_eq_true rfl) (Nat.le_of_ble_eq_true rfl) rfl rfl ?_
            refine R_iinc (i := 5) (ls' := [some (.inr (.inr (some (ad 38)))), some (.inl x1), some (.inl x2), some (.inl x3), some (.inl 0), some (.inl (w32 (x5 + 1)))]) (dX10_wordFrom 47 rfl) rfl (Nat.le_of_ble_eq_true rfl) rfl rfl ?_
            refine R_goto (tgt := 26) (dX10_wordFrom 48 rfl) (by decide) ?_
            exact ih 0 (w32 (x5 + 1)) H hK88
          · have H := ite_T H hc
            refine R_iconst (dX10_wordFrom 43 rfl) rfl ?_
            refine R_goto (tgt := 80) (dX10_wordFrom 44 rfl) (by decide) ?_
            refine R_istore (i := 4) (ls' := [some (.inr (.inr (some (ad 38)))), some (.inl x1), some (.inl x2), some (.inl x3), some (.inl 1), some (.inl x5)]) (dX10_wordFrom 46 rfl) (Nat.le_of_ble_eq_true rfl) (Nat.le_of_ble_eq_true rfl) rfl rfl ?_
            refine R_iinc (i := 5) (ls' := [some (.inr (.inr (some (ad 38)))), some (.inl x1), some (.inl x2), some (.inl x3), some (.inl 1), some (.inl (w32 (x5 + 1)))]) (dX10_wordFrom 47 rfl) rfl (Nat.le_of_ble_eq_true rfl) rfl rfl ?_
            refine R_goto (tgt := 26) (dX10_wordFrom 48 rfl) (by decide) ?_
            exact ih 1 (w32 (x5 + 1)) H hK88
        · have H := ite_T H hc
          refine R_aload_n (i := 0) (dX10_wordFrom 34 rfl) rfl rfl ?_
          refine R_getR cgX10 38 (cl38 hS) 9 (Nat.le_of_ble_eq_true rfl) rfl (Or.inl tb_1136) (dX10_wordFrom 35 rfl) ?_
          refine R_iload_n (i := 1) (dX10_wordFrom 36 rfl) rfl rfl ?_
          refine R_iload (i := 5) (dX10_wordFrom 37 rfl) rfl ?_
          refine R_iadd (dX10_wordFrom 38 rfl) ?_
          obtain ⟨hg, H⟩ := ite_G H
          refine R_iald 44 (cl44 hS) hg (dX10_wordFrom 39 rfl) ?_
          refine R_goto (tgt := 72) (dX10_wordFrom 40 rfl) (by decide) ?_
          refine R_icmp_ne (tgt := 79) (dX10_wordFrom 42 rfl) (by decide) (fun hc => ?_) (fun hc => ?_)
          · have H := ite_F H hc
            refine R_iconst (dX10_wordFrom 45 rfl) rfl ?_
            refine R_istore (i := 4) (ls' := [some (.inr (.inr (some (ad 38)))), some (.inl x1), some (.inl x2), some (.inl x3), some (.inl 0), some (.inl x5)]) (dX10_wordFrom 46 rfl) (Nat.le_of_ble_eq_true rfl) (Nat.le_of_ble_eq_true rfl) rfl rfl ?_
            refine R_iinc (i := 5) (ls' := [some (.inr (.inr (some (ad 38)))), some (.inl x1), some (.inl x2), some (.inl x3), some (.inl 0), some (.inl (w32 (x5 + 1)))]) (dX10_wordFrom 47 rfl) rfl (Nat.le_of_ble_eq_true rfl) rfl rfl ?_
            refine R_goto (tgt := 26) (dX10_wordFrom 48 rfl) (by decide) ?_
            exact ih 0 (w32 (x5 + 1)) H hK88
          · have H := ite_T H hc
            refine R_iconst (dX10_wordFrom 43 rfl) rfl ?_
            refine R_goto (tgt := 80) (dX10_wordFrom 44 rfl) (by decide) ?_
            refine R_istore (i := 4) (ls' := [some (.inr (.inr (some (ad 38)))), some (.inl x1), some (.inl x2), some (.inl x3), some (.inl 1), some (.inl x5)]) (dX10_wordFrom 46 rfl) (Nat.le_of_ble_eq_true rfl) (Nat.le_of_ble_eq_true rfl) rfl rfl ?_
            refine R_iinc (i := 5) (ls' := [some (.inr (.inr (some (ad 38)))), some (.inl x1), some (.inl x2), some (.inl x3), some (.inl 1), some (.inl (w32 (x5 + 1)))]) (dX10_wordFrom 47 rfl) rfl (Nat.le_of_ble_eq_true rfl) rfl rfl ?_
            refine R_goto (tgt := 26) (dX10_wordFrom 48 rfl) (by decide) ?_
            exact ih 1 (w32 (x5 + 1)) H hK88
def f_X10_wordFrom_L2 (x1 : Int) (x2 : Int) (M : Mem) : Nat → Int → Option Int
  | 0, _ => none
  | n + 1, x3 =>
    if x3 < 12 then
      if 8 < w32 (x2 - x1) then
        f_X10_wordFrom_L26
          (fun y315 =>
            if y315 = 0 then
              f_X10_wordFrom_L2 x1 x2 M n (w32 (x3 + 1))
            else
              some x3
          )
          x1 x2 x3 M 100000 0 0
      else
        f_X10_wordFrom_L26
          (fun y316 =>
            if y316 = 0 then
              f_X10_wordFrom_L2 x1 x2 M n (w32 (x3 + 1))
            else
              some x3
          )
          x1 x2 x3 M 100000 1 0
    else
      some 12
set_option maxHeartbeats 4000000 in
theorem t_X10_wordFrom_L2 (l : Launch) (g : GG) (ad : Nat → Nat) (S : SW) (M : Mem) (hS : q_ag 38 63 ad S) (x1 : Int) (x2 : Int) {r : Int} : ∀ (n : Nat) (x3 : Int), f_X10_wordFrom_L2 x1 x2 M n x3 = some r → RW l g MX10_wordFrom (q_rm 1 0 0) 0 0 (q_ex S (some (.inl r)) M) 2 S M 0 0 [some (.inr (.inr (some (ad 38)))), some (.inl x1), some (.inl x2), some (.inl x3), none, none] [] := by
  intro n
  induction n with
  | zero => intro x3 H; exact absurd H (by simp [f_X10_wordFrom_L2])
  | succ n ih =>
    intro x3 H
    rw [f_X10_wordFrom_L2] at H
    refine R_iload_n (i := 3) (dX10_wordFrom 2 rfl) rfl rfl ?_
    refine R_bipush (dX10_wordFrom 3 rfl) rfl rfl ?_
    refine R_icmp_ge (tgt := 101) (dX10_wordFrom 4 rfl) (by decide) (fun hc => ?_) (fun hc => ?_)
    · have H := ite_F H hc
      refine R_bipush (dX10_wordFrom 55 rfl) rfl rfl ?_
      exact R_iret rfl rfl (Nat.zero_le _) (Nat.zero_le _) (dX10_wordFrom 56 rfl) ⟨congrArg (fun z => some (Sum.inl z)) (Option.some.inj H), rfl, rfl⟩
    · have H := ite_T H hc
      refine R_iload_n (i := 2) (dX10_wordFrom 5 rfl) rfl rfl ?_
      refine R_iload_n (i := 1) (dX10_wordFrom 6 rfl) rfl rfl ?_
      refine R_isub (dX10_wordFrom 7 rfl) ?_
      refine R_bipush (dX10_wordFrom 8 rfl) rfl rfl ?_
      refine R_icmp_gt (tgt := 20) (dX10_wordFrom 9 rfl) (by decide) (fun hc => ?_) (fun hc => ?_)
      · have H := ite_T H hc
        refine R_iconst (dX10_wordFrom 12 rfl) rfl ?_
        refine R_istore (i := 4) (ls' := [some (.inr (.inr (some (ad 38)))), some (.inl x1), some (.inl x2), some (.inl x3), some (.inl 0), none]) (dX10_wordFrom 13 rfl) (Nat.le_of_ble_eq_true rfl) (Nat.le_of_ble_eq_true rfl) rfl rfl ?_
        refine R_iconst (dX10_wordFrom 14 rfl) rfl ?_
        refine R_istore (i := 5) (ls' := [some (.inr (.inr (some (ad 38)))), some (.inl x1), some (.inl x2), some (.inl x3), some (.inl 0), some (.inl 0)]) (dX10_wordFrom 15 rfl) (Nat.le_of_ble_eq_true rfl) (Nat.le_of_ble_eq_true rfl) rfl rfl ?_
        refine t_X10_wordFrom_L26 l g ad S M hS x1 x2 x3  100000 0 0 H (fun y315 H => ?_)
        refine R_iload (i := 4) (dX10_wordFrom 49 rfl) rfl ?_
        refine R_if_eq (tgt := 95) (dX10_wordFrom 50 rfl) (by decide) (fun hc => ?_) (fun hc => ?_)
        · have H := ite_T H hc
          refine R_iinc (i := 3) (ls' := [some (.inr (.inr (some (ad 38)))), some (.inl x1), some (.inl x2), some (.inl (w32 (x3 + 1))), some (.inl y315), none]) (dX10_wordFrom 53 rfl) rfl (Nat.le_of_ble_eq_true rfl) rfl rfl ?_
          refine R_goto (tgt := 2) (dX10_wordFrom 54 rfl) (by decide) ?_
          refine R_mask [true, true, true, true, false, false] rfl ?_
          exact ih (w32 (x3 + 1)) H
        · have H := ite_F H hc
          refine R_iload_n (i := 3) (dX10_wordFrom 51 rfl) rfl rfl ?_
          exact R_iret rfl rfl (Nat.zero_le _) (Nat.zero_le _) (dX10_wordFrom 52 rfl) ⟨congrArg (fun z => some (Sum.inl z)) (Option.some.inj H), rfl, rfl⟩
      · have H := ite_F H hc
        refine R_iconst (dX10_wordFrom 10 rfl) rfl ?_
        refine R_goto (tgt := 21) (dX10_wordFrom 11 rfl) (by decide) ?_
        refine R_istore (i := 4) (ls' := [some (.inr (.inr (some (ad 38)))), some (.inl x1), some (.inl x2), some (.inl x3), some (.inl 1), none]) (dX10_wordFrom 13 rfl) (Nat.le_of_ble_eq_true rfl) (Nat.le_of_ble_eq_true rfl) rfl rfl ?_
        refine R_iconst (dX10_wordFrom 14 rfl) rfl ?_
        refine R_istore (i := 5) (ls' := [some (.inr (.inr (some (ad 38)))), some (.inl x1), some (.inl x2), some (.inl x3), some (.inl 1), some (.inl 0)]) (dX10_wordFrom 15 rfl) (Nat.le_of_ble_eq_true rfl) (Nat.le_of_ble_eq_true rfl) rfl rfl ?_
        refine t_X10_wordFrom_L26 l g ad S M hS x1 x2 x3  100000 1 0 H (fun y316 H => ?_)
        refine R_iload (i := 4) (dX10_wordFrom 49 rfl) rfl ?_
        refine R_if_eq (tgt := 95) (dX10_wordFrom 50 rfl) (by decide) (fun hc => ?_) (fun hc => ?_)
        · have H := ite_T H hc
          refine R_iinc (i := 3) (ls' := [some (.inr (.inr (some (ad 38)))), some (.inl x1), some (.inl x2), some (.inl (w32 (x3 + 1))), some (.inl y316), none]) (dX10_wordFrom 53 rfl) rfl (Nat.le_of_ble_eq_true rfl) rfl rfl ?_
          refine R_goto (tgt := 2) (dX10_wordFrom 54 rfl) (by decide) ?_
          refine R_mask [true, true, true, true, false, false] rfl ?_
          exact ih (w32 (x3 + 1)) H
        · have H := ite_F H hc
          refine R_iload_n (i := 3) (dX10_wordFrom 51 rfl) rfl rfl ?_
          exact R_iret rfl rfl (Nat.zero_le _) (Nat.zero_le _) (dX10_wordFrom 52 rfl) ⟨congrArg (fun z => some (Sum.inl z)) (Option.some.inj H), rfl, rfl⟩
def f_X10_wordFrom (x1 : Int) (x2 : Int) (M : Mem) : Option Int :=
  f_X10_wordFrom_L2
    x1 x2 M 100000 0
set_option maxHeartbeats 4000000 in
theorem t_X10_wordFrom (l : Launch) (g : GG) (ad : Nat → Nat) (S : SW) (M : Mem) (hS : q_ag 38 63 ad S) (x1 : Int) (x2 : Int) {r : Int} (H : f_X10_wordFrom x1 x2 M = some r) : CT l g MX10_wordFrom 1 0 0 S M [.inr (.inr (some (ad 38))), .inl x1, .inl x2] (q_ex S (some (.inl r)) M) := by
  unfold f_X10_wordFrom at H
  refine CT_of (ls0 := [some (.inr (.inr (some (ad 38)))), some (.inl x1), some (.inl x2), none, none, none]) (by decide +kernel) (Nat.le_of_ble_eq_true rfl) rfl ?_
  refine R_iconst (dX10_wordFrom 0 rfl) rfl ?_
  refine R_istore_n (i := 3) (ls' := [some (.inr (.inr (some (ad 38)))), some (.inl x1), some (.inl x2), some (.inl 0), none, none]) (dX10_wordFrom 1 rfl) rfl (Nat.le_of_ble_eq_true rfl) (Nat.le_of_ble_eq_true rfl) rfl rfl ?_
  exact t_X10_wordFrom_L2 l g ad S M hS x1 x2  100000 0 H 
def f_X10_next_L0 (K52 : Mem → Option (Int × Mem)) : Nat → Mem → Option (Int × Mem)
  | 0, _ => none
  | n + 1, M =>
    if M 38 26 < M 38 10 then
      if 0 ≤ M 38 26 ∧ M 38 26 < 160 then
        if M 44 (M 38 26).toNat = 32 then
          f_X10_next_L0 K52 n (mset M 38 26 (w32 ((M 38 26) + 1)))
        else
          if 0 ≤ M 38 26 ∧ M 38 26 < 160 then
            if M 44 (M 38 26).toNat = 10 then
              f_X10_next_L0 K52 n (mset M 38 26 (w32 ((M 38 26) + 1)))
            else
              K52 M
          else none
      else none
    else
      K52 M
set_option maxHeartbeats 4000000 in
theorem t_X10_next_L0 (l : Launch) (g : GG) (ad : Nat → Nat) (S : SW) (hS : q_ag 38 63 ad S) {K52 : Mem → Option (Int × Mem)} {r : Int} {M' : Mem} : ∀ (n : Nat) (M : Mem), f_X10_next_L0 K52 n M = some (r, M') → (∀ (M1 : Mem), K52 M1 = some (r, M') → RW l g MX10_next (q_rm 2 0 0) 0 0 (q_ex S none M') 52 S M1 0 0 [some (.inr (.inr (some (ad 38)))), none, none] []) → RW l g MX10_next (q_rm 2 0 0) 0 0 (q_ex S none M') 0 S M 0 0 [some (.inr (.inr (some (ad 38)))), none, none] [] := by
  intro n
  induction n with
  | zero => intro M H; exact absurd H (by simp [f_X10_next_L0])
  | succ n ih =>
    intro M H hK52
    rw [f_X10_next_L0] at H
    refine R_aload_n (i := 0) (dX10_next_0 0 rfl) rfl rfl ?_
    refine R_getI cgX10 38 (cl38 hS) 26 (Nat.le_of_ble_eq_true rfl) rfl (Or.inl tb_1153) (dX10_next_0 1 rfl) ?_
    refine R_aload_n (i := 0) (dX10_next_0 2 rfl) rfl rfl ?_
    refine R_getI cgX10 38 (cl38 hS) 10 (Nat.le_of_ble_eq_true rfl) rfl (Or.inl tb_1137) (dX10_next_0 3 rfl) ?_
    refine R_icmp_ge (tgt := 52) (dX10_next_0 4 rfl) (by decide) (fun hc => ?_) (fun hc => ?_)
    · have H := ite_F H hc
      exact hK52 M H
    · have H := ite_T H hc
      refine R_aload_n (i := 0) (dX10_next_0 5 rfl) rfl rfl ?_
      refine R_getR cgX10 38 (cl38 hS) 9 (Nat.le_of_ble_eq_true rfl) rfl (Or.inl tb_1136) (dX10_next_0 6 rfl) ?_
      refine R_aload_n (i := 0) (dX10_next_0 7 rfl) rfl rfl ?_
      refine R_getI cgX10 38 (cl38 hS) 26 (Nat.le_of_ble_eq_true rfl) rfl (Or.inl tb_1153) (dX10_next_0 8 rfl) ?_
      obtain ⟨hg, H⟩ := ite_G H
      refine R_iald 44 (cl44 hS) hg (dX10_next_0 9 rfl) ?_
      refine R_bipush (dX10_next_0 10 rfl) rfl rfl ?_
      refine R_icmp_eq (tgt := 39) (dX10_next_0 11 rfl) (by decide) (fun hc => ?_) (fun hc => ?_)
      · have H := ite_T H hc
        refine R_aload_n (i := 0) (dX10_next_0 19 rfl) rfl rfl ?_
        refine R_dup rfl (dX10_next_0 20 rfl) ?_
        refine R_getI cgX10 38 (cl38 hS) 26 (Nat.le_of_ble_eq_true rfl) rfl (Or.inl tb_1153) (dX10_next_0 21 rfl) ?_
        refine R_iconst (dX10_next_0 22 rfl) rfl ?_
        refine R_iadd (dX10_next_0 23 rfl) ?_
        refine R_putI cgX10 38 (cl38 hS) 26 (Nat.le_of_ble_eq_true rfl) rfl rfl rfl rfl (Or.inl tb_1153) (dX10_next_0 24 rfl) ?_
        refine R_goto (tgt := 0) (dX10_next_0 25 rfl) (by decide) ?_
        exact ih (mset M 38 26 (w32 ((M 38 26) + 1))) H hK52
      · have H := ite_F H hc
        refine R_aload_n (i := 0) (dX10_next_0 12 rfl) rfl rfl ?_
        refine R_getR cgX10 38 (cl38 hS) 9 (Nat.le_of_ble_eq_true rfl) rfl (Or.inl tb_1136) (dX10_next_0 13 rfl) ?_
        refine R_aload_n (i := 0) (dX10_next_0 14 rfl) rfl rfl ?_
        refine R_getI cgX10 38 (cl38 hS) 26 (Nat.le_of_ble_eq_true rfl) rfl (Or.inl tb_1153) (dX10_next_0 15 rfl) ?_
        obtain ⟨hg, H⟩ := ite_G H
        refine R_iald 44 (cl44 hS) hg (dX10_next_0 16 rfl) ?_
        refine R_bipush (dX10_next_0 17 rfl) rfl rfl ?_
        refine R_icmp_ne (tgt := 52) (dX10_next_0 18 rfl) (by decide) (fun hc => ?_) (fun hc => ?_)
        · have H := ite_F H hc
          exact hK52 M H
        · have H := ite_T H hc
          refine R_aload_n (i := 0) (dX10_next_0 19 rfl) rfl rfl ?_
          refine R_dup rfl (dX10_next_0 20 rfl) ?_
          refine R_getI cgX10 38 (cl38 hS) 26 (Nat.le_of_ble_eq_true rfl) rfl (Or.inl tb_1153) (dX10_next_0 21 rfl) ?_
          refine R_iconst (dX10_next_0 22 rfl) rfl ?_
          refine R_iadd (dX10_next_0 23 rfl) ?_
          refine R_putI cgX10 38 (cl38 hS) 26 (Nat.le_of_ble_eq_true rfl) rfl rfl rfl rfl (Or.inl tb_1153) (dX10_next_0 24 rfl) ?_
          refine R_goto (tgt := 0) (dX10_next_0 25 rfl) (by decide) ?_
          exact ih (mset M 38 26 (w32 ((M 38 26) + 1))) H hK52
def f_X10_next_L230 (K309 : Int → Mem → Option (Int × Mem)) : Nat → Int → Mem → Option (Int × Mem)
  | 0, _, _ => none
  | n + 1, x2, M =>
    if M 38 26 < M 38 10 then
      if 0 ≤ M 38 26 ∧ M 38 26 < 160 then
        if f_X10_in (M 44 (M 38 26).toNat) 48 57 = 0 then
          K309 x2 M
        else
          if x2 < 4 then
            if 0 ≤ M 38 26 ∧ M 38 26 < 160 then
              f_X10_next_L230 K309 n (w32 (x2 + 1)) (mset (mset M 38 29 (w32 ((w32 ((w32 (10 * (M 38 29))) + (M 44 (M 38 26).toNat))) - 48))) 38 26 (w32 (((mset M 38 29 (w32 ((w32 ((w32 (10 * (M 38 29))) + (M 44 (M 38 26).toNat))) - 48))) 38 26) + 1)))
            else none
          else
            f_X10_next_L230 K309 n (w32 (x2 + 1)) (mset (mset M 38 29 0) 38 26 (w32 (((mset M 38 29 0) 38 26) + 1)))
      else none
    else
      K309 x2 M
set_option maxHeartbeats 4000000 in
theorem t_X10_next_L230 (l : Launch) (g : GG) (ad : Nat → Nat) (S : SW) (hS : q_ag 38 63 ad S) {K309 : Int → Mem → Option (Int × Mem)} {r : Int} {M' : Mem} : ∀ (n : Nat) (x2 : Int) (M : Mem), f_X10_next_L230 K309 n x2 M = some (r, M') → (∀ (z2 : Int) (M1 : Mem), K309 z2 M1 = some (r, M') → RW l g MX10_next (q_rm 2 0 0) 0 0 (q_ex S none M') 309 S M1 0 0 [some (.inr (.inr (some (ad 38)))), none, some (.inl z2)] []) → RW l g MX10_next (q_rm 2 0 0) 0 0 (q_ex S none M') 230 S M 0 0 [some (.inr (.inr (some (ad 38)))), none, some (.inl x2)] [] := by
  intro n
  induction n with
  | zero => intro x2 M H; exact absurd H (by simp [f_X10_next_L230])
  | succ n ih =>
    intro x2 M H hK309
    rw [f_X10_next_L230] at H
    refine R_aload_n (i := 0) (dX10_next_2 1 rfl) rfl rfl ?_
    refine R_getI cgX10 38 (cl38 hS) 26 (Nat.le_of_ble_eq_true rfl) rfl (Or.inl tb_1153) (dX10_next_2 2 rfl) ?_
    refine R_aload_n (i := 0) (dX10_next_2 3 rfl) rfl rfl ?_
    refine R_getI cgX10 38 (cl38 hS) 10 (Nat.le_of_ble_eq_true rfl) rfl (Or.inl tb_1137) (dX10_next_2 4 rfl) ?_
    refine R_icmp_ge (tgt := 309) (dX10_next_2 5 rfl) (by decide) (fun hc => ?_) (fun hc => ?_)
    · have H := ite_F H hc
      exact hK309 x2 M H
    · have H := ite_T H hc
      refine R_aload_n (i := 0) (dX10_next_2 6 rfl) rfl rfl ?_
      refine R_getR cgX10 38 (cl38 hS) 9 (Nat.le_of_ble_eq_true rfl) rfl (Or.inl tb_1136) (dX10_next_2 7 rfl) ?_
      refine R_aload_n (i := 0) (dX10_next_2 8 rfl) rfl rfl ?_
      refine R_getI cgX10 38 (cl38 hS) 26 (Nat.le_of_ble_eq_true rfl) rfl (Or.inl tb_1153) (dX10_next_2 9 rfl) ?_
      obtain ⟨hg, H⟩ := ite_G H
      refine R_iald 44 (cl44 hS) hg (dX10_next_2 10 rfl) ?_
      refine R_bipush (dX10_next_2 11 rfl) rfl rfl ?_
      refine R_bipush (dX10_next_2 12 rfl) rfl rfl ?_
      refine R_cS (st' := [.inl (f_X10_in (M 44 (M 38 26).toNat) 48 57)]) [.inl (M 44 (M 38 26).toNat), .inl 48, .inl 57] [] (t_X10_in l g S _   (M 44 (M 38 26).toNat) 48 57) msX10_in (Or.inl tb_1083) ⟨Nat.le_of_ble_eq_true rfl, Nat.le_of_ble_eq_true rfl⟩ (Nat.zero_le _) (Nat.zero_le _) rfl rfl (Nat.le_of_ble_eq_true rfl) rfl (dX10_next_2 13 rfl) ?_
      refine R_if_eq (tgt := 309) (dX10_next_2 14 rfl) (by decide) (fun hc => ?_) (fun hc => ?_)
      · have H := ite_T H hc
        exact hK309 x2 M H
      · have H := ite_F H hc
        refine R_aload_n (i := 0) (dX10_next_2 15 rfl) rfl rfl ?_
        refine R_iload_n (i := 2) (dX10_next_2 16 rfl) rfl rfl ?_
        refine R_iconst (dX10_next_2 17 rfl) rfl ?_
        refine R_icmp_ge (tgt := 289) (dX10_next_2 18 rfl) (by decide) (fun hc => ?_) (fun hc => ?_)
        · have H := ite_F H hc
          refine R_iconst (dX10_next_2 32 rfl) rfl ?_
          refine R_putI cgX10 38 (cl38 hS) 29 (Nat.le_of_ble_eq_true rfl) rfl rfl rfl rfl (Or.inl tb_1156) (dX10_next_2 33 rfl) ?_
          refine R_iinc (i := 2) (ls' := [some (.inr (.inr (some (ad 38)))), none, some (.inl (w32 (x2 + 1)))]) (dX10_next_2 34 rfl) rfl (Nat.le_of_ble_eq_true rfl) rfl rfl ?_
          refine R_aload_n (i := 0) (dX10_next_2 35 rfl) rfl rfl ?_
          refine R_dup rfl (dX10_next_2 36 rfl) ?_
          refine R_getI cgX10 38 (cl38 hS) 26 (Nat.le_of_ble_eq_true rfl) rfl (Or.inl tb_1153) (dX10_next_2 37 rfl) ?_
          refine R_iconst (dX10_next_2 38 rfl) rfl ?_
          refine R_iadd (dX10_next_2 39 rfl) ?_
          refine R_putI cgX10 38 (cl38 hS) 26 (Nat.le_of_ble_eq_true rfl) rfl rfl rfl rfl (Or.inl tb_1153) (dX10_next_2 40 rfl) ?_
          refine R_goto (tgt := 230) (dX10_next_2 41 rfl) (by decide) ?_
          exact ih (w32 (x2 + 1)) (mset (mset M 38 29 0) 38 26 (w32 (((mset M 38 29 0) 38 26) + 1))) H hK309
        · have H := ite_T H hc
          refine R_bipush (dX10_next_2 19 rfl) rfl rfl ?_
          refine R_aload_n (i := 0) (dX10_next_2 20 rfl) rfl rfl ?_
          refine R_getI cgX10 38 (cl38 hS) 29 (Nat.le_of_ble_eq_true rfl) rfl (Or.inl tb_1156) (dX10_next_2 21 rfl) ?_
          refine R_imul (dX10_next_2 22 rfl) ?_
          refine R_aload_n (i := 0) (dX10_next_2 23 rfl) rfl rfl ?_
          refine R_getR cgX10 38 (cl38 hS) 9 (Nat.le_of_ble_eq_true rfl) rfl (Or.inl tb_1136) (dX10_next_2 24 rfl) ?_
          refine R_aload_n (i := 0) (dX10_next_2 25 rfl) rfl rfl ?_
          refine R_getI cgX10 38 (cl38 hS) 26 (Nat.le_of_ble_eq_true rfl) rfl (Or.inl tb_1153) (dX10_next_2 26 rfl) ?_
          obtain ⟨hg, H⟩ := ite_G H
          refine R_iald 44 (cl44 hS) hg (dX10_next_2 27 rfl) ?_
          refine R_iadd (dX10_next_2 28 rfl) ?_
          refine R_bipush (dX10_next_2 29 rfl) rfl rfl ?_
          refine R_isub (dX10_next_2 30 rfl) ?_
          refine R_goto (tgt := 290) (dX10_next_2 31 rfl) (by decide) ?_
          refine R_putI cgX10 38 (cl38 hS) 29 (Nat.le_of_ble_eq_true rfl) rfl rfl rfl rfl (Or.inl tb_1156) (dX10_next_2 33 rfl) ?_
          refine R_iinc (i := 2) (ls' := [some (.inr (.inr (some (ad 38)))), none, some (.inl (w32 (x2 + 1)))]) (dX10_next_2 34 rfl) rfl (Nat.le_of_ble_eq_true rfl) rfl rfl ?_
          refine R_aload_n (i := 0) (dX10_next_2 35 rfl) rfl rfl ?_
          refine R_dup rfl (dX10_next_2 36 rfl) ?_
          refine R_getI cgX10 38 (cl38 hS) 26 (Nat.le_of_ble_eq_true rfl) rfl (Or.inl tb_1153) (dX10_next_2 37 rfl) ?_
          refine R_iconst (dX10_next_2 38 rfl) rfl ?_
          refine R_iadd (dX10_next_2 39 rfl) ?_
          refine R_putI cgX10 38 (cl38 hS) 26 (Nat.le_of_ble_eq_true rfl) rfl rfl rfl rfl (Or.inl tb_1153) (dX10_next_2 40 rfl) ?_
          refine R_goto (tgt := 230) (dX10_next_2 41 rfl) (by decide) ?_
          exact ih (w32 (x2 + 1)) (mset (mset M 38 29 (w32 ((w32 ((w32 (10 * (M 38 29))) + (M 44 (M 38 26).toNat))) - 48))) 38 26 (w32 (((mset M 38 29 (w32 ((w32 ((w32 (10 * (M 38 29))) + (M 44 (M 38 26).toNat))) - 48))) 38 26) + 1))) H hK309
def f_X10_next_L103 (K146 : Mem → Option (Int × Mem)) : Nat → Mem → Option (Int × Mem)
  | 0, _ => none
  | n + 1, M =>
    if M 38 26 < M 38 10 then
      if 0 ≤ M 38 26 ∧ M 38 26 < 160 then
        if f_X10_in (M 44 (M 38 26).toNat) 97 122 = 0 then
          K146 M
        else
          f_X10_next_L103 K146 n (mset M 38 26 (w32 ((M 38 26) + 1)))
      else none
    else
      K146 M
set_option maxHeartbeats 4000000 in
theorem t_X10_next_L103 (l : Launch) (g : GG) (ad : Nat → Nat) (S : SW) (hS : q_ag 38 63 ad S) {K146 : Mem → Option (Int × Mem)} {r : Int} {M' : Mem} : ∀ (n : Nat) (M : Mem), f_X10_next_L103 K146 n M = some (r, M') → (∀ (M1 : Mem), K146 M1 = some (r, M') → RW l g MX10_next (q_rm 2 0 0) 0 0 (q_ex S none M') 146 S M1 0 0 [some (.inr (.inr (some (ad 38)))), none, none] []) → RW l g MX10_next (q_rm 2 0 0) 0 0 (q_ex S none M') 103 S M 0 0 [some (.inr (.inr (some (ad 38)))), none, none] [] := by
  intro n
  induction n with
  | zero => intro M H; exact absurd H (by simp [f_X10_next_L103])
  | succ n ih =>
    intro M H hK146
    rw [f_X10_next_L103] at H
    refine R_aload_n (i := 0) (dX10_next_0 53 rfl) rfl rfl ?_
    refine R_getI cgX10 38 (cl38 hS) 26 (Nat.le_of_ble_eq_true rfl) rfl (Or.inl tb_1153) (dX10_next_0 54 rfl) ?_
    refine R_aload_n (i := 0) (dX10_next_0 55 rfl) rfl rfl ?_
    refine R_getI cgX10 38 (cl38 hS) 10 (Nat.le_of_ble_eq_true rfl) rfl (Or.inl tb_1137) (dX10_next_0 56 rfl) ?_
    refine R_icmp_ge (tgt := 146) (dX10_next_0 57 rfl) (by decide) (fun hc => ?_) (fun hc => ?_)
    · have H := ite_F H hc
      exact hK146 M H
    · have H := ite_T H hc
      refine R_aload_n (i := 0) (dX10_next_0 58 rfl) rfl rfl ?_
      refine R_getR cgX10 38 (cl38 hS) 9 (Nat.le_of_ble_eq_true rfl) rfl (Or.inl tb_1136) (dX10_next_0 59 rfl) ?_
      refine R_aload_n (i := 0) (dX10_next_1 0 rfl) rfl rfl ?_
      refine R_getI cgX10 38 (cl38 hS) 26 (Nat.le_of_ble_eq_true rfl) rfl (Or.inl tb_1153) (dX10_next_1 1 rfl) ?_
      obtain ⟨hg, H⟩ := ite_G H
      refine R_iald 44 (cl44 hS) hg (dX10_next_1 2 rfl) ?_
      refine R_bipush (dX10_next_1 3 rfl) rfl rfl ?_
      refine R_bipush (dX10_next_1 4 rfl) rfl rfl ?_
      refine R_cS (st' := [.inl (f_X10_in (M 44 (M 38 26).toNat) 97 122)]) [.inl (M 44 (M 38 26).toNat), .inl 97, .inl 122] [] (t_X10_in l g S _   (M 44 (M 38 26).toNat) 97 122) msX10_in (Or.inl tb_1083) ⟨Nat.le_of_ble_eq_true rfl, Nat.le_of_ble_eq_true rfl⟩ (Nat.zero_le _) (Nat.zero_le _) rfl rfl (Nat.le_of_ble_eq_true rfl) rfl (dX10_next_1 5 rfl) ?_
      refine R_if_eq (tgt := 146) (dX10_next_1 6 rfl) (by decide) (fun hc => ?_) (fun hc => ?_)
      · have H := ite_T H hc
        exact hK146 M H
      · have H := ite_F H hc
        refine R_aload_n (i := 0) (dX10_next_1 7 rfl) rfl rfl ?_
        refine R_dup rfl (dX10_next_1 8 rfl) ?_
        refine R_getI cgX10 38 (cl38 hS) 26 (Nat.le_of_ble_eq_true rfl) rfl (Or.inl tb_1153) (dX10_next_1 9 rfl) ?_
        refine R_iconst (dX10_next_1 10 rfl) rfl ?_
        refine R_iadd (dX10_next_1 11 rfl) ?_
        refine R_putI cgX10 38 (cl38 hS) 26 (Nat.le_of_ble_eq_true rfl) rfl rfl rfl rfl (Or.inl tb_1153) (dX10_next_1 12 rfl) ?_
        refine R_goto (tgt := 103) (dX10_next_1 13 rfl) (by decide) ?_
        exact ih (mset M 38 26 (w32 ((M 38 26) + 1))) H hK146
def f_X10_next (M : Mem) : Option (Int × Mem) :=
  f_X10_next_L0
    (fun M317 =>
      if (mset (mset (mset M317 38 27 (M317 38 26)) 38 28 0) 38 29 0) 38 26 = (mset (mset (mset M317 38 27 (M317 38 26)) 38 28 0) 38 29 0) 38 10 then
        some (0, (mset (mset (mset M317 38 27 (M317 38 26)) 38 28 0) 38 29 0))
      else
        if 0 ≤ (mset (mset (mset M317 38 27 (M317 38 26)) 38 28 0) 38 29 0) 38 26 ∧ (mset (mset (mset M317 38 27 (M317 38 26)) 38 28 0) 38 29 0) 38 26 < 160 then
          if f_X10_in ((mset (mset (mset M317 38 27 (M317 38 26)) 38 28 0) 38 29 0) 44 ((mset (mset (mset M317 38 27 (M317 38 26)) 38 28 0) 38 29 0) 38 26).toNat) 97 122 = 0 then
            if f_X10_in ((mset (mset (mset M317 38 27 (M317 38 26)) 38 28 0) 38 29 0) 44 ((mset (mset (mset M317 38 27 (M317 38 26)) 38 28 0) 38 29 0) 38 26).toNat) 48 57 = 0 then
              if (mset (mset (mset M317 38 27 (M317 38 26)) 38 28 0) 38 29 0) 44 ((mset (mset (mset M317 38 27 (M317 38 26)) 38 28 0) 38 29 0) 38 26).toNat = 40 then
                some (0, (mset (mset (mset (mset (mset M317 38 27 (M317 38 26)) 38 28 0) 38 29 0) 38 28 ((mset (mset (mset M317 38 27 (M317 38 26)) 38 28 0) 38 29 0) 44 ((mset (mset (mset M317 38 27 (M317 38 26)) 38 28 0) 38 29 0) 38 26).toNat)) 38 26 (w32 (((mset (mset (mset (mset M317 38 27 (M317 38 26)) 38 28 0) 38 29 0) 38 28 ((mset (mset (mset M317 38 27 (M317 38 26)) 38 28 0) 38 29 0) 44 ((mset (mset (mset M317 38 27 (M317 38 26)) 38 28 0) 38 29 0) 38 26).toNat)) 38 26) + 1))))
              else
                if (mset (mset (mset M317 38 27 (M317 38 26)) 38 28 0) 38 29 0) 44 ((mset (mset (mset M317 38 27 (M317 38 26)) 38 28 0) 38 29 0) 38 26).toNat = 41 then
                  some (0, (mset (mset (mset (mset (mset M317 38 27 (M317 38 26)) 38 28 0) 38 29 0) 38 28 ((mset (mset (mset M317 38 27 (M317 38 26)) 38 28 0) 38 29 0) 44 ((mset (mset (mset M317 38 27 (M317 38 26)) 38 28 0) 38 29 0) 38 26).toNat)) 38 26 (w32 (((mset (mset (mset (mset M317 38 27 (M317 38 26)) 38 28 0) 38 29 0) 38 28 ((mset (mset (mset M317 38 27 (M317 38 26)) 38 28 0) 38 29 0) 44 ((mset (mset (mset M317 38 27 (M317 38 26)) 38 28 0) 38 29 0) 38 26).toNat)) 38 26) + 1))))
                else
                  if (mset (mset (mset M317 38 27 (M317 38 26)) 38 28 0) 38 29 0) 44 ((mset (mset (mset M317 38 27 (M317 38 26)) 38 28 0) 38 29 0) 38 26).toNat = 59 then
                    some (0, (mset (mset (mset (mset (mset M317 38 27 (M317 38 26)) 38 28 0) 38 29 0) 38 28 ((mset (mset (mset M317 38 27 (M317 38 26)) 38 28 0) 38 29 0) 44 ((mset (mset (mset M317 38 27 (M317 38 26)) 38 28 0) 38 29 0) 38 26).toNat)) 38 26 (w32 (((mset (mset (mset (mset M317 38 27 (M317 38 26)) 38 28 0) 38 29 0) 38 28 ((mset (mset (mset M317 38 27 (M317 38 26)) 38 28 0) 38 29 0) 44 ((mset (mset (mset M317 38 27 (M317 38 26)) 38 28 0) 38 29 0) 38 26).toNat)) 38 26) + 1))))
                  else
                    if (mset (mset (mset M317 38 27 (M317 38 26)) 38 28 0) 38 29 0) 44 ((mset (mset (mset M317 38 27 (M317 38 26)) 38 28 0) 38 29 0) 38 26).toNat = 43 then
                      some (0, (mset (mset (mset (mset (mset M317 38 27 (M317 38 26)) 38 28 0) 38 29 0) 38 28 ((mset (mset (mset M317 38 27 (M317 38 26)) 38 28 0) 38 29 0) 44 ((mset (mset (mset M317 38 27 (M317 38 26)) 38 28 0) 38 29 0) 38 26).toNat)) 38 26 (w32 (((mset (mset (mset (mset M317 38 27 (M317 38 26)) 38 28 0) 38 29 0) 38 28 ((mset (mset (mset M317 38 27 (M317 38 26)) 38 28 0) 38 29 0) 44 ((mset (mset (mset M317 38 27 (M317 38 26)) 38 28 0) 38 29 0) 38 26).toNat)) 38 26) + 1))))
                    else
                      if (mset (mset (mset M317 38 27 (M317 38 26)) 38 28 0) 38 29 0) 44 ((mset (mset (mset M317 38 27 (M317 38 26)) 38 28 0) 38 29 0) 38 26).toNat = 45 then
                        some (0, (mset (mset (mset (mset (mset M317 38 27 (M317 38 26)) 38 28 0) 38 29 0) 38 28 ((mset (mset (mset M317 38 27 (M317 38 26)) 38 28 0) 38 29 0) 44 ((mset (mset (mset M317 38 27 (M317 38 26)) 38 28 0) 38 29 0) 38 26).toNat)) 38 26 (w32 (((mset (mset (mset (mset M317 38 27 (M317 38 26)) 38 28 0) 38 29 0) 38 28 ((mset (mset (mset M317 38 27 (M317 38 26)) 38 28 0) 38 29 0) 44 ((mset (mset (mset M317 38 27 (M317 38 26)) 38 28 0) 38 29 0) 38 26).toNat)) 38 26) + 1))))
                      else
                        if (mset (mset (mset M317 38 27 (M317 38 26)) 38 28 0) 38 29 0) 44 ((mset (mset (mset M317 38 27 (M317 38 26)) 38 28 0) 38 29 0) 38 26).toNat = 42 then
                          some (0, (mset (mset (mset (mset (mset M317 38 27 (M317 38 26)) 38 28 0) 38 29 0) 38 28 ((mset (mset (mset M317 38 27 (M317 38 26)) 38 28 0) 38 29 0) 44 ((mset (mset (mset M317 38 27 (M317 38 26)) 38 28 0) 38 29 0) 38 26).toNat)) 38 26 (w32 (((mset (mset (mset (mset M317 38 27 (M317 38 26)) 38 28 0) 38 29 0) 38 28 ((mset (mset (mset M317 38 27 (M317 38 26)) 38 28 0) 38 29 0) 44 ((mset (mset (mset M317 38 27 (M317 38 26)) 38 28 0) 38 29 0) 38 26).toNat)) 38 26) + 1))))
                        else
                          if (mset (mset (mset M317 38 27 (M317 38 26)) 38 28 0) 38 29 0) 44 ((mset (mset (mset M317 38 27 (M317 38 26)) 38 28 0) 38 29 0) 38 26).toNat = 60 then
                            some (0, (mset (mset (mset (mset (mset M317 38 27 (M317 38 26)) 38 28 0) 38 29 0) 38 28 ((mset (mset (mset M317 38 27 (M317 38 26)) 38 28 0) 38 29 0) 44 ((mset (mset (mset M317 38 27 (M317 38 26)) 38 28 0) 38 29 0) 38 26).toNat)) 38 26 (w32 (((mset (mset (mset (mset M317 38 27 (M317 38 26)) 38 28 0) 38 29 0) 38 28 ((mset (mset (mset M317 38 27 (M317 38 26)) 38 28 0) 38 29 0) 44 ((mset (mset (mset M317 38 27 (M317 38 26)) 38 28 0) 38 29 0) 38 26).toNat)) 38 26) + 1))))
                          else
                            if (mset (mset (mset M317 38 27 (M317 38 26)) 38 28 0) 38 29 0) 44 ((mset (mset (mset M317 38 27 (M317 38 26)) 38 28 0) 38 29 0) 38 26).toNat = 61 then
                              some (0, (mset (mset (mset (mset (mset M317 38 27 (M317 38 26)) 38 28 0) 38 29 0) 38 28 ((mset (mset (mset M317 38 27 (M317 38 26)) 38 28 0) 38 29 0) 44 ((mset (mset (mset M317 38 27 (M317 38 26)) 38 28 0) 38 29 0) 38 26).toNat)) 38 26 (w32 (((mset (mset (mset (mset M317 38 27 (M317 38 26)) 38 28 0) 38 29 0) 38 28 ((mset (mset (mset M317 38 27 (M317 38 26)) 38 28 0) 38 29 0) 44 ((mset (mset (mset M317 38 27 (M317 38 26)) 38 28 0) 38 29 0) 38 26).toNat)) 38 26) + 1))))
                            else
                              some (0, (mset (mset (mset (mset (mset M317 38 27 (M317 38 26)) 38 28 0) 38 29 0) 38 28 (-1)) 38 26 (w32 (((mset (mset (mset (mset M317 38 27 (M317 38 26)) 38 28 0) 38 29 0) 38 28 (-1)) 38 26) + 1))))
            else
              f_X10_next_L230
                (fun y318 M319 =>
                  if 4 < y318 then
                    some (0, (mset M319 38 28 (-1)))
                  else
                    some (0, (mset M319 38 28 1))
                )
                100000 0 (mset (mset (mset M317 38 27 (M317 38 26)) 38 28 0) 38 29 0)
          else
            f_X10_next_L103
              (fun M320 =>
                (f_X10_wordFrom (M320 38 27) (M320 38 26) M320).bind fun r321 =>
                if r321 < 3 then
                  if r321 < 3 then
                    some (0, (mset (mset M320 38 28 3) 38 29 r321))
                  else
                    some (0, (mset (mset M320 38 28 3) 38 29 (w32 (r321 - 3))))
                else
                  if r321 < 9 then
                    if r321 < 3 then
                      some (0, (mset (mset M320 38 28 2) 38 29 r321))
                    else
                      some (0, (mset (mset M320 38 28 2) 38 29 (w32 (r321 - 3))))
                  else
                    if r321 = 12 then
                      if r321 < 3 then
                        some (0, (mset (mset M320 38 28 (-1)) 38 29 r321))
                      else
                        some (0, (mset (mset M320 38 28 (-1)) 38 29 (w32 (r321 - 3))))
                    else
                      if r321 < 3 then
                        some (0, (mset (mset M320 38 28 (w32 ((w32 (4 + r321)) - 9))) 38 29 r321))
                      else
                        some (0, (mset (mset M320 38 28 (w32 ((w32 (4 + r321)) - 9))) 38 29 (w32 (r321 - 3))))
              )
              100000 (mset (mset (mset M317 38 27 (M317 38 26)) 38 28 0) 38 29 0)
        else none
    )
    100000 M
set_option maxHeartbeats 4000000 in
theorem t_X10_next (l : Launch) (g : GG) (ad : Nat → Nat) (S : SW) (M : Mem) (hS : q_ag 38 63 ad S) {r : Int} {M' : Mem} (H : f_X10_next M = some (r, M')) : CT l g MX10_next 2 0 0 S M [.inr (.inr (some (ad 38)))] (q_ex S none M') := by
  unfold f_X10_next at H
  refine CT_of (ls0 := [some (.inr (.inr (some (ad 38)))), none, none]) (by decide +kernel) (Nat.le_of_ble_eq_true rfl) rfl ?_
  refine t_X10_next_L0 l g ad S hS  100000 M H (fun M317 H => ?_)
  refine R_aload_n (i := 0) (dX10_next_0 26 rfl) rfl rfl ?_
  refine R_aload_n (i := 0) (dX10_next_0 27 rfl) rfl rfl ?_
  refine R_getI cgX10 38 (cl38 hS) 26 (Nat.le_of_ble_eq_true rfl) rfl (Or.inl tb_1153) (dX10_next_0 28 rfl) ?_
  refine R_putI cgX10 38 (cl38 hS) 27 (Nat.le_of_ble_eq_true rfl) rfl rfl rfl rfl (Or.inl tb_1154) (dX10_next_0 29 rfl) ?_
  refine R_aload_n (i := 0) (dX10_next_0 30 rfl) rfl rfl ?_
  refine R_iconst (dX10_next_0 31 rfl) rfl ?_
  refine R_putI cgX10 38 (cl38 hS) 28 (Nat.le_of_ble_eq_true rfl) rfl rfl rfl rfl (Or.inl tb_1155) (dX10_next_0 32 rfl) ?_
  refine R_aload_n (i := 0) (dX10_next_0 33 rfl) rfl rfl ?_
  refine R_iconst (dX10_next_0 34 rfl) rfl ?_
  refine R_putI cgX10 38 (cl38 hS) 29 (Nat.le_of_ble_eq_true rfl) rfl rfl rfl rfl (Or.inl tb_1156) (dX10_next_0 35 rfl) ?_
  refine R_aload_n (i := 0) (dX10_next_0 36 rfl) rfl rfl ?_
  refine R_getI cgX10 38 (cl38 hS) 26 (Nat.le_of_ble_eq_true rfl) rfl (Or.inl tb_1153) (dX10_next_0 37 rfl) ?_
  refine R_aload_n (i := 0) (dX10_next_0 38 rfl) rfl rfl ?_
  refine R_getI cgX10 38 (cl38 hS) 10 (Nat.le_of_ble_eq_true rfl) rfl (Or.inl tb_1137) (dX10_next_0 39 rfl) ?_
  refine R_icmp_ne (tgt := 82) (dX10_next_0 40 rfl) (by decide) (fun hc => ?_) (fun hc => ?_)
  · have H := ite_F H hc
    refine R_aload_n (i := 0) (dX10_next_0 42 rfl) rfl rfl ?_
    refine R_getR cgX10 38 (cl38 hS) 9 (Nat.le_of_ble_eq_true rfl) rfl (Or.inl tb_1136) (dX10_next_0 43 rfl) ?_
    refine R_aload_n (i := 0) (dX10_next_0 44 rfl) rfl rfl ?_
    refine R_getI cgX10 38 (cl38 hS) 26 (Nat.le_of_ble_eq_true rfl) rfl (Or.inl tb_1153) (dX10_next_0 45 rfl) ?_
    obtain ⟨hg, H⟩ := ite_G H
    refine R_iald 44 (cl44 hS) hg (dX10_next_0 46 rfl) ?_
    refine R_istore_n (i := 1) (ls' := [some (.inr (.inr (some (ad 38)))), some (.inl ((mset (mset (mset M317 38 27 (M317 38 26)) 38 28 0) 38 29 0) 44 ((mset (mset (mset M317 38 27 (M317 38 26)) 38 28 0) 38 29 0) 38 26).toNat)), none]) (dX10_next_0 47 rfl) rfl (Nat.le_of_ble_eq_true rfl) (Nat.le_of_ble_eq_true rfl) rfl rfl ?_
    refine R_iload_n (i := 1) (dX10_next_0 48 rfl) rfl rfl ?_
    refine R_bipush (dX10_next_0 49 rfl) rfl rfl ?_
    refine R_bipush (dX10_next_0 50 rfl) rfl rfl ?_
    refine R_cS (st' := [.inl (f_X10_in ((mset (mset (mset M317 38 27 (M317 38 26)) 38 28 0) 38 29 0) 44 ((mset (mset (mset M317 38 27 (M317 38 26)) 38 28 0) 38 29 0) 38 26).toNat) 97 122)]) [.inl ((mset (mset (mset M317 38 27 (M317 38 26)) 38 28 0) 38 29 0) 44 ((mset (mset (mset M317 38 27 (M317 38 26)) 38 28 0) 38 29 0) 38 26).toNat), .inl 97, .inl 122] [] (t_X10_in l g S _   ((mset (mset (mset M317 38 27 (M317 38 26)) 38 28 0) 38 29 0) 44 ((mset (mset (mset M317 38 27 (M317 38 26)) 38 28 0) 38 29 0) 38 26).toNat) 97 122) msX10_in (Or.inl tb_1083) ⟨Nat.le_of_ble_eq_true rfl, Nat.le_of_ble_eq_true rfl⟩ (Nat.zero_le _) (Nat.zero_le _) rfl rfl (Nat.le_of_ble_eq_true rfl) rfl (dX10_next_0 51 rfl) ?_
    refine R_if_eq (tgt := 217) (dX10_next_0 52 rfl) (by decide) (fun hc => ?_) (fun hc => ?_)
    · have H := ite_T H hc
      refine R_iload_n (i := 1) (dX10_next_1 54 rfl) rfl rfl ?_
      refine R_bipush (dX10_next_1 55 rfl) rfl rfl ?_
      refine R_bipush (dX10_next_1 56 rfl) rfl rfl ?_
      refine R_cS (st' := [.inl (f_X10_in ((mset (mset (mset M317 38 27 (M317 38 26)) 38 28 0) 38 29 0) 44 ((mset (mset (mset M317 38 27 (M317 38 26)) 38 28 0) 38 29 0) 38 26).toNat) 48 57)]) [.inl ((mset (mset (mset M317 38 27 (M317 38 26)) 38 28 0) 38 29 0) 44 ((mset (mset (mset M317 38 27 (M317 38 26)) 38 28 0) 38 29 0) 38 26).toNat), .inl 48, .inl 57] [] (t_X10_in l g S _   ((mset (mset (mset M317 38 27 (M317 38 26)) 38 28 0) 38 29 0) 44 ((mset (mset (mset M317 38 27 (M317 38 26)) 38 28 0) 38 29 0) 38 26).toNat) 48 57) msX10_in (Or.inl tb_1083) ⟨Nat.le_of_ble_eq_true rfl, Nat.le_of_ble_eq_true rfl⟩ (Nat.zero_le _) (Nat.zero_le _) rfl rfl (Nat.le_of_ble_eq_true rfl) rfl (dX10_next_1 57 rfl) ?_
      refine R_if_eq (tgt := 326) (dX10_next_1 58 rfl) (by decide) (fun hc => ?_) (fun hc => ?_)
      · have H := ite_T H hc
        refine R_iload_n (i := 1) (dX10_next_2 51 rfl) rfl rfl ?_
        refine R_bipush (dX10_next_2 52 rfl) rfl rfl ?_
        refine R_icmp_eq (tgt := 374) (dX10_next_2 53 rfl) (by decide) (fun hc => ?_) (fun hc => ?_)
        · have H := ite_T H hc
          refine R_iconst (dX10_next_3 15 rfl) rfl ?_
          refine R_goto (tgt := 379) (dX10_next_3 16 rfl) (by decide) ?_
          refine R_istore_n (i := 2) (ls' := [some (.inr (.inr (some (ad 38)))), some (.inl ((mset (mset (mset M317 38 27 (M317 38 26)) 38 28 0) 38 29 0) 44 ((mset (mset (mset M317 38 27 (M317 38 26)) 38 28 0) 38 29 0) 38 26).toNat)), some (.inl 1)]) (dX10_next_3 18 rfl) rfl (Nat.le_of_ble_eq_true rfl) (Nat.le_of_ble_eq_true rfl) rfl rfl ?_
          refine R_aload_n (i := 0) (dX10_next_3 19 rfl) rfl rfl ?_
          refine R_iload_n (i := 2) (dX10_next_3 20 rfl) rfl rfl ?_
          refine R_if_eq (tgt := 389) (dX10_next_3 21 rfl) (by decide) (fun hc => absurd hc (by decide)) (fun _ => ?_)
          refine R_iload_n (i := 1) (dX10_next_3 22 rfl) rfl rfl ?_
          refine R_goto (tgt := 390) (dX10_next_3 23 rfl) (by decide) ?_
          refine R_putI cgX10 38 (cl38 hS) 28 (Nat.le_of_ble_eq_true rfl) rfl rfl rfl rfl (Or.inl tb_1155) (dX10_next_3 25 rfl) ?_
          refine R_aload_n (i := 0) (dX10_next_3 26 rfl) rfl rfl ?_
          refine R_dup rfl (dX10_next_3 27 rfl) ?_
          refine R_getI cgX10 38 (cl38 hS) 26 (Nat.le_of_ble_eq_true rfl) rfl (Or.inl tb_1153) (dX10_next_3 28 rfl) ?_
          refine R_iconst (dX10_next_3 29 rfl) rfl ?_
          refine R_iadd (dX10_next_3 30 rfl) ?_
          refine R_putI cgX10 38 (cl38 hS) 26 (Nat.le_of_ble_eq_true rfl) rfl rfl rfl rfl (Or.inl tb_1153) (dX10_next_3 31 rfl) ?_
          exact R_vret rfl (Nat.zero_le _) (Nat.zero_le _) (dX10_next_3 32 rfl) ⟨rfl, rfl, (Prod.mk.inj (Option.some.inj H)).2⟩
        · have H := ite_F H hc
          refine R_iload_n (i := 1) (dX10_next_2 54 rfl) rfl rfl ?_
          refine R_bipush (dX10_next_2 55 rfl) rfl rfl ?_
          refine R_icmp_eq (tgt := 374) (dX10_next_2 56 rfl) (by decide) (fun hc => ?_) (fun hc => ?_)
          · have H := ite_T H hc
            refine R_iconst (dX10_next_3 15 rfl) rfl ?_
            refine R_goto (tgt := 379) (dX10_next_3 16 rfl) (by decide) ?_
            refine R_istore_n (i := 2) (ls' := [some (.inr (.inr (some (ad 38)))), some (.inl ((mset (mset (mset M317 38 27 (M317 38 26)) 38 28 0) 38 29 0) 44 ((mset (mset (mset M317 38 27 (M317 38 26)) 38 28 0) 38 29 0) 38 26).toNat)), some (.inl 1)]) (dX10_next_3 18 rfl) rfl (Nat.le_of_ble_eq_true rfl) (Nat.le_of_ble_eq_true rfl) rfl rfl ?_
            refine R_aload_n (i := 0) (dX10_next_3 19 rfl) rfl rfl ?_
            refine R_iload_n (i := 2) (dX10_next_3 20 rfl) rfl rfl ?_
            refine R_if_eq (tgt := 389) (dX10_next_3 21 rfl) (by decide) (fun hc => absurd hc (by decide)) (fun _ => ?_)
            refine R_iload_n (i := 1) (dX10_next_3 22 rfl) rfl rfl ?_
            refine R_goto (tgt := 390) (dX10_next_3 23 rfl) (by decide) ?_
            refine R_putI cgX10 38 (cl38 hS) 28 (Nat.le_of_ble_eq_true rfl) rfl rfl rfl rfl (Or.inl tb_1155) (dX10_next_3 25 rfl) ?_
            refine R_aload_n (i := 0) (dX10_next_3 26 rfl) rfl rfl ?_
            refine R_dup rfl (dX10_next_3 27 rfl) ?_
            refine R_getI cgX10 38 (cl38 hS) 26 (Nat.le_of_ble_eq_true rfl) rfl (Or.inl tb_1153) (dX10_next_3 28 rfl) ?_
            refine R_iconst (dX10_next_3 29 rfl) rfl ?_
            refine R_iadd (dX10_next_3 30 rfl) ?_
            refine R_putI cgX10 38 (cl38 hS) 26 (Nat.le_of_ble_eq_true rfl) rfl rfl rfl rfl (Or.inl tb_1153) (dX10_next_3 31 rfl) ?_
            exact R_vret rfl (Nat.zero_le _) (Nat.zero_le _) (dX10_next_3 32 rfl) ⟨rfl, rfl, (Prod.mk.inj (Option.some.inj H)).2⟩
          · have H := ite_F H hc
            refine R_iload_n (i := 1) (dX10_next_2 57 rfl) rfl rfl ?_
            refine R_bipush (dX10_next_2 58 rfl) rfl rfl ?_
            refine R_icmp_eq (tgt := 374) (dX10_next_2 59 rfl) (by decide) (fun hc => ?_) (fun hc => ?_)
            · have H := ite_T H hc
              refine R_iconst (dX10_next_3 15 rfl) rfl ?_
              refine R_goto (tgt := 379) (dX10_next_3 16 rfl) (by decide) ?_
              refine R_istore_n (i := 2) (ls' := [some (.inr (.inr (some (ad 38)))), some (.inl ((mset (mset (mset M317 38 27 (M317 38 26)) 38 28 0) 38 29 0) 44 ((mset (mset (mset M317 38 27 (M317 38 26)) 38 28 0) 38 29 0) 38 26).toNat)), some (.inl 1)]) (dX10_next_3 18 rfl) rfl (Nat.le_of_ble_eq_true rfl) (Nat.le_of_ble_eq_true rfl) rfl rfl ?_
              refine R_aload_n (i := 0) (dX10_next_3 19 rfl) rfl rfl ?_
              refine R_iload_n (i := 2) (dX10_next_3 20 rfl) rfl rfl ?_
              refine R_if_eq (tgt := 389) (dX10_next_3 21 rfl) (by decide) (fun hc => absurd hc (by decide)) (fun _ => ?_)
              refine R_iload_n (i := 1) (dX10_next_3 22 rfl) rfl rfl ?_
              refine R_goto (tgt := 390) (dX10_next_3 23 rfl) (by decide) ?_
              refine R_putI cgX10 38 (cl38 hS) 28 (Nat.le_of_ble_eq_true rfl) rfl rfl rfl rfl (Or.inl tb_1155) (dX10_next_3 25 rfl) ?_
              refine R_aload_n (i := 0) (dX10_next_3 26 rfl) rfl rfl ?_
              refine R_dup rfl (dX10_next_3 27 rfl) ?_
              refine R_getI cgX10 38 (cl38 hS) 26 (Nat.le_of_ble_eq_true rfl) rfl (Or.inl tb_1153) (dX10_next_3 28 rfl) ?_
              refine R_iconst (dX10_next_3 29 rfl) rfl ?_
              refine R_iadd (dX10_next_3 30 rfl) ?_
              refine R_putI cgX10 38 (cl38 hS) 26 (Nat.le_of_ble_eq_true rfl) rfl rfl rfl rfl (Or.inl tb_1153) (dX10_next_3 31 rfl) ?_
              exact R_vret rfl (Nat.zero_le _) (Nat.zero_le _) (dX10_next_3 32 rfl) ⟨rfl, rfl, (Prod.mk.inj (Option.some.inj H)).2⟩
            · have H := ite_F H hc
              refine R_iload_n (i := 1) (dX10_next_3 0 rfl) rfl rfl ?_
              refine R_bipush (dX10_next_3 1 rfl) rfl rfl ?_
              refine R_icmp_eq (tgt := 374) (dX10_next_3 2 rfl) (by decide) (fun hc => ?_) (fun hc => ?_)
              · have H := ite_T H hc
                refine R_iconst (dX10_next_3 15 rfl) rfl ?_
                refine R_goto (tgt := 379) (dX10_next_3 16 rfl) (by decide) ?_
                refine R_istore_n (i := 2) (ls' := [some (.inr (.inr (some (ad 38)))), some (.inl ((mset (mset (mset M317 38 27 (M317 38 26)) 38 28 0) 38 29 0) 44 ((mset (mset (mset M317 38 27 (M317 38 26)) 38 28 0) 38 29 0) 38 26).toNat)), some (.inl 1)]) (dX10_next_3 18 rfl) rfl (Nat.le_of_ble_eq_true rfl) (Nat.le_of_ble_eq_true rfl) rfl rfl ?_
                refine R_aload_n (i := 0) (dX10_next_3 19 rfl) rfl rfl ?_
                refine R_iload_n (i := 2) (dX10_next_3 20 rfl) rfl rfl ?_
                refine R_if_eq (tgt := 389) (dX10_next_3 21 rfl) (by decide) (fun hc => absurd hc (by decide)) (fun _ => ?_)
                refine R_iload_n (i := 1) (dX10_next_3 22 rfl) rfl rfl ?_
                refine R_goto (tgt := 390) (dX10_next_3 23 rfl) (by decide) ?_
                refine R_putI cgX10 38 (cl38 hS) 28 (Nat.le_of_ble_eq_true rfl) rfl rfl rfl rfl (Or.inl tb_1155) (dX10_next_3 25 rfl) ?_
                refine R_aload_n (i := 0) (dX10_next_3 26 rfl) rfl rfl ?_
                refine R_dup rfl (dX10_next_3 27 rfl) ?_
                refine R_getI cgX10 38 (cl38 hS) 26 (Nat.le_of_ble_eq_true rfl) rfl (Or.inl tb_1153) (dX10_next_3 28 rfl) ?_
                refine R_iconst (dX10_next_3 29 rfl) rfl ?_
                refine R_iadd (dX10_next_3 30 rfl) ?_
                refine R_putI cgX10 38 (cl38 hS) 26 (Nat.le_of_ble_eq_true rfl) rfl rfl rfl rfl (Or.inl tb_1153) (dX10_next_3 31 rfl) ?_
                exact R_vret rfl (Nat.zero_le _) (Nat.zero_le _) (dX10_next_3 32 rfl) ⟨rfl, rfl, (Prod.mk.inj (Option.some.inj H)).2⟩
              · have H := ite_F H hc
                refine R_iload_n (i := 1) (dX10_next_3 3 rfl) rfl rfl ?_
                refine R_bipush (dX10_next_3 4 rfl) rfl rfl ?_
                refine R_icmp_eq (tgt := 374) (dX10_next_3 5 rfl) (by decide) (fun hc => ?_) (fun hc => ?_)
                · have H := ite_T H hc
                  refine R_iconst (dX10_next_3 15 rfl) rfl ?_
                  refine R_goto (tgt := 379) (dX10_next_3 16 rfl) (by decide) ?_
                  refine R_istore_n (i := 2) (ls' := [some (.inr (.inr (some (ad 38)))), some (.inl ((mset (mset (mset M317 38 27 (M317 38 26)) 38 28 0) 38 29 0) 44 ((mset (mset (mset M317 38 27 (M317 38 26)) 38 28 0) 38 29 0) 38 26).toNat)), some (.inl 1)]) (dX10_next_3 18 rfl) rfl (Nat.le_of_ble_eq_true rfl) (Nat.le_of_ble_eq_true rfl) rfl rfl ?_
                  refine R_aload_n (i := 0) (dX10_next_3 19 rfl) rfl rfl ?_
                  refine R_iload_n (i := 2) (dX10_next_3 20 rfl) rfl rfl ?_
                  refine R_if_eq (tgt := 389) (dX10_next_3 21 rfl) (by decide) (fun hc => absurd hc (by decide)) (fun _ => ?_)
                  refine R_iload_n (i := 1) (dX10_next_3 22 rfl) rfl rfl ?_
                  refine R_goto (tgt := 390) (dX10_next_3 23 rfl) (by decide) ?_
                  refine R_putI cgX10 38 (cl38 hS) 28 (Nat.le_of_ble_eq_true rfl) rfl rfl rfl rfl (Or.inl tb_1155) (dX10_next_3 25 rfl) ?_
                  refine R_aload_n (i := 0) (dX10_next_3 26 rfl) rfl rfl ?_
                  refine R_dup rfl (dX10_next_3 27 rfl) ?_
                  refine R_getI cgX10 38 (cl38 hS) 26 (Nat.le_of_ble_eq_true rfl) rfl (Or.inl tb_1153) (dX10_next_3 28 rfl) ?_
                  refine R_iconst (dX10_next_3 29 rfl) rfl ?_
                  refine R_iadd (dX10_next_3 30 rfl) ?_
                  refine R_putI cgX10 38 (cl38 hS) 26 (Nat.le_of_ble_eq_true rfl) rfl rfl rfl rfl (Or.inl tb_1153) (dX10_next_3 31 rfl) ?_
                  exact R_vret rfl (Nat.zero_le _) (Nat.zero_le _) (dX10_next_3 32 rfl) ⟨rfl, rfl, (Prod.mk.inj (Option.some.inj H)).2⟩
                · have H := ite_F H hc
                  refine R_iload_n (i := 1) (dX10_next_3 6 rfl) rfl rfl ?_
                  refine R_bipush (dX10_next_3 7 rfl) rfl rfl ?_
                  refine R_icmp_eq (tgt := 374) (dX10_next_3 8 rfl) (by decide) (fun hc => ?_) (fun hc => ?_)
                  · have H := ite_T H hc
                    refine R_iconst (dX10_next_3 15 rfl) rfl ?_
                    refine R_goto (tgt := 379) (dX10_next_3 16 rfl) (by decide) ?_
                    refine R_istore_n (i := 2) (ls' := [some (.inr (.inr (some (ad 38)))), some (.inl ((mset (mset (mset M317 38 27 (M317 38 26)) 38 28 0) 38 29 0) 44 ((mset (mset (mset M317 38 27 (M317 38 26)) 38 28 0) 38 29 0) 38 26).toNat)), some (.inl 1)]) (dX10_next_3 18 rfl) rfl (Nat.le_of_ble_eq_true rfl) (Nat.le_of_ble_eq_true rfl) rfl rfl ?_
                    refine R_aload_n (i := 0) (dX10_next_3 19 rfl) rfl rfl ?_
                    refine R_iload_n (i := 2) (dX10_next_3 20 rfl) rfl rfl ?_
                    refine R_if_eq (tgt := 389) (dX10_next_3 21 rfl) (by decide) (fun hc => absurd hc (by decide)) (fun _ => ?_)
                    refine R_iload_n (i := 1) (dX10_next_3 22 rfl) rfl rfl ?_
                    refine R_goto (tgt := 390) (dX10_next_3 23 rfl) (by decide) ?_
                    refine R_putI cgX10 38 (cl38 hS) 28 (Nat.le_of_ble_eq_true rfl) rfl rfl rfl rfl (Or.inl tb_1155) (dX10_next_3 25 rfl) ?_
                    refine R_aload_n (i := 0) (dX10_next_3 26 rfl) rfl rfl ?_
                    refine R_dup rfl (dX10_next_3 27 rfl) ?_
                    refine R_getI cgX10 38 (cl38 hS) 26 (Nat.le_of_ble_eq_true rfl) rfl (Or.inl tb_1153) (dX10_next_3 28 rfl) ?_
                    refine R_iconst (dX10_next_3 29 rfl) rfl ?_
                    refine R_iadd (dX10_next_3 30 rfl) ?_
                    refine R_putI cgX10 38 (cl38 hS) 26 (Nat.le_of_ble_eq_true rfl) rfl rfl rfl rfl (Or.inl tb_1153) (dX10_next_3 31 rfl) ?_
                    exact R_vret rfl (Nat.zero_le _) (Nat.zero_le _) (dX10_next_3 32 rfl) ⟨rfl, rfl, (Prod.mk.inj (Option.some.inj H)).2⟩
                  · have H := ite_F H hc
                    refine R_iload_n (i := 1) (dX10_next_3 9 rfl) rfl rfl ?_
                    refine R_bipush (dX10_next_3 10 rfl) rfl rfl ?_
                    refine R_icmp_eq (tgt := 374) (dX10_next_3 11 rfl) (by decide) (fun hc => ?_) (fun hc => ?_)
                    · have H := ite_T H hc
                      refine R_iconst (dX10_next_3 15 rfl) rfl ?_
                      refine R_goto (tgt := 379) (dX10_next_3 16 rfl) (by decide) ?_
                      refine R_istore_n (i := 2) (ls' := [some (.inr (.inr (some (ad 38)))), some (.inl ((mset (mset (mset M317 38 27 (M317 38 26)) 38 28 0) 38 29 0) 44 ((mset (mset (mset M317 38 27 (M317 38 26)) 38 28 0) 38 29 0) 38 26).toNat)), some (.inl 1)]) (dX10_next_3 18 rfl) rfl (Nat.le_of_ble_eq_true rfl) (Nat.le_of_ble_eq_true rfl) rfl rfl ?_
                      refine R_aload_n (i := 0) (dX10_next_3 19 rfl) rfl rfl ?_
                      refine R_iload_n (i := 2) (dX10_next_3 20 rfl) rfl rfl ?_
                      refine R_if_eq (tgt := 389) (dX10_next_3 21 rfl) (by decide) (fun hc => absurd hc (by decide)) (fun _ => ?_)
                      refine R_iload_n (i := 1) (dX10_next_3 22 rfl) rfl rfl ?_
                      refine R_goto (tgt := 390) (dX10_next_3 23 rfl) (by decide) ?_
                      refine R_putI cgX10 38 (cl38 hS) 28 (Nat.le_of_ble_eq_true rfl) rfl rfl rfl rfl (Or.inl tb_1155) (dX10_next_3 25 rfl) ?_
                      refine R_aload_n (i := 0) (dX10_next_3 26 rfl) rfl rfl ?_
                      refine R_dup rfl (dX10_next_3 27 rfl) ?_
                      refine R_getI cgX10 38 (cl38 hS) 26 (Nat.le_of_ble_eq_true rfl) rfl (Or.inl tb_1153) (dX10_next_3 28 rfl) ?_
                      refine R_iconst (dX10_next_3 29 rfl) rfl ?_
                      refine R_iadd (dX10_next_3 30 rfl) ?_
                      refine R_putI cgX10 38 (cl38 hS) 26 (Nat.le_of_ble_eq_true rfl) rfl rfl rfl rfl (Or.inl tb_1153) (dX10_next_3 31 rfl) ?_
                      exact R_vret rfl (Nat.zero_le _) (Nat.zero_le _) (dX10_next_3 32 rfl) ⟨rfl, rfl, (Prod.mk.inj (Option.some.inj H)).2⟩
                    · have H := ite_F H hc
                      refine R_iload_n (i := 1) (dX10_next_3 12 rfl) rfl rfl ?_
                      refine R_bipush (dX10_next_3 13 rfl) rfl rfl ?_
                      refine R_icmp_ne (tgt := 378) (dX10_next_3 14 rfl) (by decide) (fun hc => ?_) (fun hc => ?_)
                      · have H := ite_F H hc
                        refine R_iconst (dX10_next_3 17 rfl) rfl ?_
                        refine R_istore_n (i := 2) (ls' := [some (.inr (.inr (some (ad 38)))), some (.inl ((mset (mset (mset M317 38 27 (M317 38 26)) 38 28 0) 38 29 0) 44 ((mset (mset (mset M317 38 27 (M317 38 26)) 38 28 0) 38 29 0) 38 26).toNat)), some (.inl 0)]) (dX10_next_3 18 rfl) rfl (Nat.le_of_ble_eq_true rfl) (Nat.le_of_ble_eq_true rfl) rfl rfl ?_
                        refine R_aload_n (i := 0) (dX10_next_3 19 rfl) rfl rfl ?_
                        refine R_iload_n (i := 2) (dX10_next_3 20 rfl) rfl rfl ?_
                        refine R_if_eq (tgt := 389) (dX10_next_3 21 rfl) (by decide) (fun _ => ?_) (fun hc => absurd hc (by decide))
                        refine R_iconst (dX10_next_3 24 rfl) rfl ?_
                        refine R_putI cgX10 38 (cl38 hS) 28 (Nat.le_of_ble_eq_true rfl) rfl rfl rfl rfl (Or.inl tb_1155) (dX10_next_3 25 rfl) ?_
                        refine R_aload_n (i := 0) (dX10_next_3 26 rfl) rfl rfl ?_
                        refine R_dup rfl (dX10_next_3 27 rfl) ?_
                        refine R_getI cgX10 38 (cl38 hS) 26 (Nat.le_of_ble_eq_true rfl) rfl (Or.inl tb_1153) (dX10_next_3 28 rfl) ?_
                        refine R_iconst (dX10_next_3 29 rfl) rfl ?_
                        refine R_iadd (dX10_next_3 30 rfl) ?_
                        refine R_putI cgX10 38 (cl38 hS) 26 (Nat.le_of_ble_eq_true rfl) rfl rfl rfl rfl (Or.inl tb_1153) (dX10_next_3 31 rfl) ?_
                        exact R_vret rfl (Nat.zero_le _) (Nat.zero_le _) (dX10_next_3 32 rfl) ⟨rfl, rfl, (Prod.mk.inj (Option.some.inj H)).2⟩
                      · have H := ite_T H hc
                        refine R_iconst (dX10_next_3 15 rfl) rfl ?_
                        refine R_goto (tgt := 379) (dX10_next_3 16 rfl) (by decide) ?_
                        refine R_istore_n (i := 2) (ls' := [some (.inr (.inr (some (ad 38)))), some (.inl ((mset (mset (mset M317 38 27 (M317 38 26)) 38 28 0) 38 29 0) 44 ((mset (mset (mset M317 38 27 (M317 38 26)) 38 28 0) 38 29 0) 38 26).toNat)), some (.inl 1)]) (dX10_next_3 18 rfl) rfl (Nat.le_of_ble_eq_true rfl) (Nat.le_of_ble_eq_true rfl) rfl rfl ?_
                        refine R_aload_n (i := 0) (dX10_next_3 19 rfl) rfl rfl ?_
                        refine R_iload_n (i := 2) (dX10_next_3 20 rfl) rfl rfl ?_
                        refine R_if_eq (tgt := 389) (dX10_next_3 21 rfl) (by decide) (fun hc => absurd hc (by decide)) (fun _ => ?_)
                        refine R_iload_n (i := 1) (dX10_next_3 22 rfl) rfl rfl ?_
                        refine R_goto (tgt := 390) (dX10_next_3 23 rfl) (by decide) ?_
                        refine R_putI cgX10 38 (cl38 hS) 28 (Nat.le_of_ble_eq_true rfl) rfl rfl rfl rfl (Or.inl tb_1155) (dX10_next_3 25 rfl) ?_
                        refine R_aload_n (i := 0) (dX10_next_3 26 rfl) rfl rfl ?_
                        refine R_dup rfl (dX10_next_3 27 rfl) ?_
                        refine R_getI cgX10 38 (cl38 hS) 26 (Nat.le_of_ble_eq_true rfl) rfl (Or.inl tb_1153) (dX10_next_3 28 rfl) ?_
                        refine R_iconst (dX10_next_3 29 rfl) rfl ?_
                        refine R_iadd (dX10_next_3 30 rfl) ?_
                        refine R_putI cgX10 38 (cl38 hS) 26 (Nat.le_of_ble_eq_true rfl) rfl rfl rfl rfl (Or.inl tb_1153) (dX10_next_3 31 rfl) ?_
                        exact R_vret rfl (Nat.zero_le _) (Nat.zero_le _) (dX10_next_3 32 rfl) ⟨rfl, rfl, (Prod.mk.inj (Option.some.inj H)).2⟩
      · have H := ite_F H hc
        refine R_iconst (dX10_next_1 59 rfl) rfl ?_
        refine R_istore_n (i := 2) (ls' := [some (.inr (.inr (some (ad 38)))), some (.inl ((mset (mset (mset M317 38 27 (M317 38 26)) 38 28 0) 38 29 0) 44 ((mset (mset (mset M317 38 27 (M317 38 26)) 38 28 0) 38 29 0) 38 26).toNat)), some (.inl 0)]) (dX10_next_2 0 rfl) rfl (Nat.le_of_ble_eq_true rfl) (Nat.le_of_ble_eq_true rfl) rfl rfl ?_
        refine R_mask [true, false, true] rfl ?_
        refine t_X10_next_L230 l g ad S hS  100000 0 (mset (mset (mset M317 38 27 (M317 38 26)) 38 28 0) 38 29 0) H (fun y318 M319 H => ?_)
        refine R_aload_n (i := 0) (dX10_next_2 42 rfl) rfl rfl ?_
        refine R_iload_n (i := 2) (dX10_next_2 43 rfl) rfl rfl ?_
        refine R_iconst (dX10_next_2 44 rfl) rfl ?_
        refine R_icmp_le (tgt := 319) (dX10_next_2 45 rfl) (by decide) (fun hc => ?_) (fun hc => ?_)
        · have H := ite_F H hc
          refine R_iconst (dX10_next_2 48 rfl) rfl ?_
          refine R_putI cgX10 38 (cl38 hS) 28 (Nat.le_of_ble_eq_true rfl) rfl rfl rfl rfl (Or.inl tb_1155) (dX10_next_2 49 rfl) ?_
          refine R_goto (tgt := 403) (dX10_next_2 50 rfl) (by decide) ?_
          exact R_vret rfl (Nat.zero_le _) (Nat.zero_le _) (dX10_next_3 32 rfl) ⟨rfl, rfl, (Prod.mk.inj (Option.some.inj H)).2⟩
        · have H := ite_T H hc
          refine R_iconst (dX10_next_2 46 rfl) rfl ?_
          refine R_goto (tgt := 320) (dX10_next_2 47 rfl) (by decide) ?_
          refine R_putI cgX10 38 (cl38 hS) 28 (Nat.le_of_ble_eq_true rfl) rfl rfl rfl rfl (Or.inl tb_1155) (dX10_next_2 49 rfl) ?_
          refine R_goto (tgt := 403) (dX10_next_2 50 rfl) (by decide) ?_
          exact R_vret rfl (Nat.zero_le _) (Nat.zero_le _) (dX10_next_3 32 rfl) ⟨rfl, rfl, (Prod.mk.inj (Option.some.inj H)).2⟩
    · have H := ite_F H hc
      refine R_mask [true, false, false] rfl ?_
      refine t_X10_next_L103 l g ad S hS  100000 (mset (mset (mset M317 38 27 (M317 38 26)) 38 28 0) 38 29 0) H (fun M320 H => ?_)
      refine R_aload_n (i := 0) (dX10_next_1 14 rfl) rfl rfl ?_
      refine R_aload_n (i := 0) (dX10_next_1 15 rfl) rfl rfl ?_
      refine R_getI cgX10 38 (cl38 hS) 27 (Nat.le_of_ble_eq_true rfl) rfl (Or.inl tb_1154) (dX10_next_1 16 rfl) ?_
      refine R_aload_n (i := 0) (dX10_next_1 17 rfl) rfl rfl ?_
      refine R_getI cgX10 38 (cl38 hS) 26 (Nat.le_of_ble_eq_true rfl) rfl (Or.inl tb_1153) (dX10_next_1 18 rfl) ?_
      obtain ⟨r321, hr, H⟩ := op_E H
      refine R_cV (st' := [.inl r321]) [.inl (M320 38 27), .inl (M320 38 26)] [] (t_X10_wordFrom l g ad S _ hS   (M320 38 27) (M320 38 26) hr) msX10_wordFrom (Or.inl tb_1086) (Or.inl ⟨38, 10, _, _, _, (cl38 hS), rfl⟩) ⟨Nat.le_of_ble_eq_true rfl, Nat.le_of_ble_eq_true rfl⟩ (Nat.zero_le _) (Nat.zero_le _) rfl rfl (Nat.le_of_ble_eq_true rfl) rfl (dX10_next_1 19 rfl) ?_
      refine R_istore_n (i := 2) (ls' := [some (.inr (.inr (some (ad 38)))), none, some (.inl r321)]) (dX10_next_1 20 rfl) rfl (Nat.le_of_ble_eq_true rfl) (Nat.le_of_ble_eq_true rfl) rfl rfl ?_
      refine R_aload_n (i := 0) (dX10_next_1 21 rfl) rfl rfl ?_
      refine R_iload_n (i := 2) (dX10_next_1 22 rfl) rfl rfl ?_
      refine R_iconst (dX10_next_1 23 rfl) rfl ?_
      refine R_icmp_ge (tgt := 169) (dX10_next_1 24 rfl) (by decide) (fun hc => ?_) (fun hc => ?_)
      · have H := ite_F H hc
        refine R_iload_n (i := 2) (dX10_next_1 27 rfl) rfl rfl ?_
        refine R_bipush (dX10_next_1 28 rfl) rfl rfl ?_
        refine R_icmp_ge (tgt := 179) (dX10_next_1 29 rfl) (by decide) (fun hc => ?_) (fun hc => ?_)
        · have H := ite_F H hc
          refine R_iload_n (i := 2) (dX10_next_1 32 rfl) rfl rfl ?_
          refine R_bipush (dX10_next_1 33 rfl) rfl rfl ?_
          refine R_icmp_ne (tgt := 189) (dX10_next_1 34 rfl) (by decide) (fun hc => ?_) (fun hc => ?_)
          · have H := ite_F H hc
            refine R_iconst (dX10_next_1 37 rfl) rfl ?_
            refine R_iload_n (i := 2) (dX10_next_1 38 rfl) rfl rfl ?_
            refine R_iadd (dX10_next_1 39 rfl) ?_
            refine R_bipush (dX10_next_1 40 rfl) rfl rfl ?_
            refine R_isub (dX10_next_1 41 rfl) ?_
            refine R_putI cgX10 38 (cl38 hS) 28 (Nat.le_of_ble_eq_true rfl) rfl rfl rfl rfl (Or.inl tb_1155) (dX10_next_1 42 rfl) ?_
            refine R_aload_n (i := 0) (dX10_next_1 43 rfl) rfl rfl ?_
            refine R_iload_n (i := 2) (dX10_next_1 44 rfl) rfl rfl ?_
            refine R_iconst (dX10_next_1 45 rfl) rfl ?_
            refine R_icmp_ge (tgt := 208) (dX10_next_1 46 rfl) (by decide) (fun hc => ?_) (fun hc => ?_)
            · have H := ite_F H hc
              refine R_iload_n (i := 2) (dX10_next_1 49 rfl) rfl rfl ?_
              refine R_iconst (dX10_next_1 50 rfl) rfl ?_
              refine R_isub (dX10_next_1 51 rfl) ?_
              refine R_putI cgX10 38 (cl38 hS) 29 (Nat.le_of_ble_eq_true rfl) rfl rfl rfl rfl (Or.inl tb_1156) (dX10_next_1 52 rfl) ?_
              refine R_goto (tgt := 403) (dX10_next_1 53 rfl) (by decide) ?_
              exact R_vret rfl (Nat.zero_le _) (Nat.zero_le _) (dX10_next_3 32 rfl) ⟨rfl, rfl, (Prod.mk.inj (Option.some.inj H)).2⟩
            · have H := ite_T H hc
              refine R_iload_n (i := 2) (dX10_next_1 47 rfl) rfl rfl ?_
              refine R_goto (tgt := 211) (dX10_next_1 48 rfl) (by decide) ?_
              refine R_putI cgX10 38 (cl38 hS) 29 (Nat.le_of_ble_eq_true rfl) rfl rfl rfl rfl (Or.inl tb_1156) (dX10_next_1 52 rfl) ?_
              refine R_goto (tgt := 403) (dX10_next_1 53 rfl) (by decide) ?_
              exact R_vret rfl (Nat.zero_le _) (Nat.zero_le _) (dX10_next_3 32 rfl) ⟨rfl, rfl, (Prod.mk.inj (Option.some.inj H)).2⟩
          · have H := ite_T H hc
            refine R_iconst (dX10_next_1 35 rfl) rfl ?_
            refine R_goto (tgt := 195) (dX10_next_1 36 rfl) (by decide) ?_
            refine R_putI cgX10 38 (cl38 hS) 28 (Nat.le_of_ble_eq_true rfl) rfl rfl rfl rfl (Or.inl tb_1155) (dX10_next_1 42 rfl) ?_
            refine R_aload_n (i := 0) (dX10_next_1 43 rfl) rfl rfl ?_
            refine R_iload_n (i := 2) (dX10_next_1 44 rfl) rfl rfl ?_
            refine R_iconst (dX10_next_1 45 rfl) rfl ?_
            refine R_icmp_ge (tgt := 208) (dX10_next_1 46 rfl) (by decide) (fun hc => ?_) (fun hc => ?_)
            · have H := ite_F H hc
              refine R_iload_n (i := 2) (dX10_next_1 49 rfl) rfl rfl ?_
              refine R_iconst (dX10_next_1 50 rfl) rfl ?_
              refine R_isub (dX10_next_1 51 rfl) ?_
              refine R_putI cgX10 38 (cl38 hS) 29 (Nat.le_of_ble_eq_true rfl) rfl rfl rfl rfl (Or.inl tb_1156) (dX10_next_1 52 rfl) ?_
              refine R_goto (tgt := 403) (dX10_next_1 53 rfl) (by decide) ?_
              exact R_vret rfl (Nat.zero_le _) (Nat.zero_le _) (dX10_next_3 32 rfl) ⟨rfl, rfl, (Prod.mk.inj (Option.some.inj H)).2⟩
            · have H := ite_T H hc
              refine R_iload_n (i := 2) (dX10_next_1 47 rfl) rfl rfl ?_
              refine R_goto (tgt := 211) (dX10_next_1 48 rfl) (by decide) ?_
              refine R_putI cgX10 38 (cl38 hS) 29 (Nat.le_of_ble_eq_true rfl) rfl rfl rfl rfl (Or.inl tb_1156) (dX10_next_1 52 rfl) ?_
              refine R_goto (tgt := 403) (dX10_next_1 53 rfl) (by decide) ?_
              exact R_vret rfl (Nat.zero_le _) (Nat.zero_le _) (dX10_next_3 32 rfl) ⟨rfl, rfl, (Prod.mk.inj (Option.some.inj H)).2⟩
        · have H := ite_T H hc
          refine R_iconst (dX10_next_1 30 rfl) rfl ?_
          refine R_goto (tgt := 195) (dX10_next_1 31 rfl) (by decide) ?_
          refine R_putI cgX10 38 (cl38 hS) 28 (Nat.le_of_ble_eq_true rfl) rfl rfl rfl rfl (Or.inl tb_1155) (dX10_next_1 42 rfl) ?_
          refine R_aload_n (i := 0) (dX10_next_1 43 rfl) rfl rfl ?_
          refine R_iload_n (i := 2) (dX10_next_1 44 rfl) rfl rfl ?_
          refine R_iconst (dX10_next_1 45 rfl) rfl ?_
          refine R_icmp_ge (tgt := 208) (dX10_next_1 46 rfl) (by decide) (fun hc => ?_) (fun hc => ?_)
          · have H := ite_F H hc
            refine R_iload_n (i := 2) (dX10_next_1 49 rfl) rfl rfl ?_
            refine R_iconst (dX10_next_1 50 rfl) rfl ?_
            refine R_isub (dX10_next_1 51 rfl) ?_
            refine R_putI cgX10 38 (cl38 hS) 29 (Nat.le_of_ble_eq_true rfl) rfl rfl rfl rfl (Or.inl tb_1156) (dX10_next_1 52 rfl) ?_
            refine R_goto (tgt := 403) (dX10_next_1 53 rfl) (by decide) ?_
            exact R_vret rfl (Nat.zero_le _) (Nat.zero_le _) (dX10_next_3 32 rfl) ⟨rfl, rfl, (Prod.mk.inj (Option.some.inj H)).2⟩
          · have H := ite_T H hc
            refine R_iload_n (i := 2) (dX10_next_1 47 rfl) rfl rfl ?_
            refine R_goto (tgt := 211) (dX10_next_1 48 rfl) (by decide) ?_
            refine R_putI cgX10 38 (cl38 hS) 29 (Nat.le_of_ble_eq_true rfl) rfl rfl rfl rfl (Or.inl tb_1156) (dX10_next_1 52 rfl) ?_
            refine R_goto (tgt := 403) (dX10_next_1 53 rfl) (by decide) ?_
            exact R_vret rfl (Nat.zero_le _) (Nat.zero_le _) (dX10_next_3 32 rfl) ⟨rfl, rfl, (Prod.mk.inj (Option.some.inj H)).2⟩
      · have H := ite_T H hc
        refine R_iconst (dX10_next_1 25 rfl) rfl ?_
        refine R_goto (tgt := 195) (dX10_next_1 26 rfl) (by decide) ?_
        refine R_putI cgX10 38 (cl38 hS) 28 (Nat.le_of_ble_eq_true rfl) rfl rfl rfl rfl (Or.inl tb_1155) (dX10_next_1 42 rfl) ?_
        refine R_aload_n (i := 0) (dX10_next_1 43 rfl) rfl rfl ?_
        refine R_iload_n (i := 2) (dX10_next_1 44 rfl) rfl rfl ?_
        refine R_iconst (dX10_next_1 45 rfl) rfl ?_
        refine R_icmp_ge (tgt := 208) (dX10_next_1 46 rfl) (by decide) (fun hc => ?_) (fun hc => ?_)
        · have H := ite_F H hc
          refine R_iload_n (i := 2) (dX10_next_1 49 rfl) rfl rfl ?_
          refine R_iconst (dX10_next_1 50 rfl) rfl ?_
          refine R_isub (dX10_next_1 51 rfl) ?_
          refine R_putI cgX10 38 (cl38 hS) 29 (Nat.le_of_ble_eq_true rfl) rfl rfl rfl rfl (Or.inl tb_1156) (dX10_next_1 52 rfl) ?_
          refine R_goto (tgt := 403) (dX10_next_1 53 rfl) (by decide) ?_
          exact R_vret rfl (Nat.zero_le _) (Nat.zero_le _) (dX10_next_3 32 rfl) ⟨rfl, rfl, (Prod.mk.inj (Option.some.inj H)).2⟩
        · have H := ite_T H hc
          refine R_iload_n (i := 2) (dX10_next_1 47 rfl) rfl rfl ?_
          refine R_goto (tgt := 211) (dX10_next_1 48 rfl) (by decide) ?_
          refine R_putI cgX10 38 (cl38 hS) 29 (Nat.le_of_ble_eq_true rfl) rfl rfl rfl rfl (Or.inl tb_1156) (dX10_next_1 52 rfl) ?_
          refine R_goto (tgt := 403) (dX10_next_1 53 rfl) (by decide) ?_
          exact R_vret rfl (Nat.zero_le _) (Nat.zero_le _) (dX10_next_3 32 rfl) ⟨rfl, rfl, (Prod.mk.inj (Option.some.inj H)).2⟩
  · have H := ite_T H hc
    exact R_vret rfl (Nat.zero_le _) (Nat.zero_le _) (dX10_next_0 41 rfl) ⟨rfl, rfl, (Prod.mk.inj (Option.some.inj H)).2⟩
def f_X10_rank (x0 : Int) : Int :=
  if x0 = 0 then
    0
  else
    if x0 = 11 then
      1
    else
      if x0 = 12 then
        2
      else
        if x0 = 13 then
          3
        else
          if 15 < x0 then
            if 17 < x0 then
              if x0 = 18 then
                6
              else
                7
            else
              5
          else
            4
set_option maxHeartbeats 4000000 in
theorem t_X10_rank (l : Launch) (g : GG) (ad : Nat → Nat) (S : SW) (M : Mem) (hS : q_ag 38 63 ad S) (x0 : Int) : CT l g MX10_rank 1 0 0 S M [.inl x0] (q_ex S (some (.inl (f_X10_rank x0))) M) := by
  obtain ⟨r, H⟩ : ∃ r, f_X10_rank x0 = r := ⟨_, rfl⟩
  rw [H]
  unfold f_X10_rank at H
  refine CT_of (ls0 := [some (.inl x0)]) (by decide +kernel) (Nat.le_of_ble_eq_true rfl) rfl ?_
  refine R_iload_n (i := 0) (dX10_rank 0 rfl) rfl rfl ?_
  refine R_if_ne (tgt := 8) (dX10_rank 1 rfl) (by decide) (fun hc => ?_) (fun hc => ?_)
  · have H := ite_F H hc
    refine R_iload_n (i := 0) (dX10_rank 4 rfl) rfl rfl ?_
    refine R_bipush (dX10_rank 5 rfl) rfl rfl ?_
    refine R_icmp_ne (tgt := 18) (dX10_rank 6 rfl) (by decide) (fun hc => ?_) (fun hc => ?_)
    · have H := ite_F H hc
      refine R_iload_n (i := 0) (dX10_rank 9 rfl) rfl rfl ?_
      refine R_bipush (dX10_rank 10 rfl) rfl rfl ?_
      refine R_icmp_ne (tgt := 28) (dX10_rank 11 rfl) (by decide) (fun hc => ?_) (fun hc => ?_)
      · have H := ite_F H hc
        refine R_iload_n (i := 0) (dX10_rank 14 rfl) rfl rfl ?_
        refine R_bipush (dX10_rank 15 rfl) rfl rfl ?_
        refine R_icmp_ne (tgt := 38) (dX10_rank 16 rfl) (by decide) (fun hc => ?_) (fun hc => ?_)
        · have H := ite_F H hc
          refine R_iload_n (i := 0) (dX10_rank 19 rfl) rfl rfl ?_
          refine R_bipush (dX10_rank 20 rfl) rfl rfl ?_
          refine R_icmp_gt (tgt := 48) (dX10_rank 21 rfl) (by decide) (fun hc => ?_) (fun hc => ?_)
          · have H := ite_T H hc
            refine R_iload_n (i := 0) (dX10_rank 24 rfl) rfl rfl ?_
            refine R_bipush (dX10_rank 25 rfl) rfl rfl ?_
            refine R_icmp_gt (tgt := 58) (dX10_rank 26 rfl) (by decide) (fun hc => ?_) (fun hc => ?_)
            · have H := ite_T H hc
              refine R_iload_n (i := 0) (dX10_rank 29 rfl) rfl rfl ?_
              refine R_bipush (dX10_rank 30 rfl) rfl rfl ?_
              refine R_icmp_ne (tgt := 69) (dX10_rank 31 rfl) (by decide) (fun hc => ?_) (fun hc => ?_)
              · have H := ite_F H hc
                refine R_bipush (dX10_rank 34 rfl) rfl rfl ?_
                exact R_iret rfl rfl (Nat.zero_le _) (Nat.zero_le _) (dX10_rank 35 rfl) ⟨congrArg (fun z => some (Sum.inl z)) H, rfl, rfl⟩
              · have H := ite_T H hc
                refine R_bipush (dX10_rank 32 rfl) rfl rfl ?_
                refine R_goto (tgt := 71) (dX10_rank 33 rfl) (by decide) ?_
                exact R_iret rfl rfl (Nat.zero_le _) (Nat.zero_le _) (dX10_rank 35 rfl) ⟨congrArg (fun z => some (Sum.inl z)) H, rfl, rfl⟩
            · have H := ite_F H hc
              refine R_iconst (dX10_rank 27 rfl) rfl ?_
              refine R_goto (tgt := 71) (dX10_rank 28 rfl) (by decide) ?_
              exact R_iret rfl rfl (Nat.zero_le _) (Nat.zero_le _) (dX10_rank 35 rfl) ⟨congrArg (fun z => some (Sum.inl z)) H, rfl, rfl⟩
          · have H := ite_F H hc
            refine R_iconst (dX10_rank 22 rfl) rfl ?_
            refine R_goto (tgt := 71) (dX10_rank 23 rfl) (by decide) ?_
            exact R_iret rfl rfl (Nat.zero_le _) (Nat.zero_le _) (dX10_rank 35 rfl) ⟨congrArg (fun z => some (Sum.inl z)) H, rfl, rfl⟩
        · have H := ite_T H hc
          refine R_iconst (dX10_rank 17 rfl) rfl ?_
          refine R_goto (tgt := 71) (dX10_rank 18 rfl) (by decide) ?_
          exact R_iret rfl rfl (Nat.zero_le _) (Nat.zero_le _) (dX10_rank 35 rfl) ⟨congrArg (fun z => some (Sum.inl z)) H, rfl, rfl⟩
      · have H := ite_T H hc
        refine R_iconst (dX10_rank 12 rfl) rfl ?_
        refine R_goto (tgt := 71) (dX10_rank 13 rfl) (by decide) ?_
        exact R_iret rfl rfl (Nat.zero_le _) (Nat.zero_le _) (dX10_rank 35 rfl) ⟨congrArg (fun z => some (Sum.inl z)) H, rfl, rfl⟩
    · have H := ite_T H hc
      refine R_iconst (dX10_rank 7 rfl) rfl ?_
      refine R_goto (tgt := 71) (dX10_rank 8 rfl) (by decide) ?_
      exact R_iret rfl rfl (Nat.zero_le _) (Nat.zero_le _) (dX10_rank 35 rfl) ⟨congrArg (fun z => some (Sum.inl z)) H, rfl, rfl⟩
  · have H := ite_T H hc
    refine R_iconst (dX10_rank 2 rfl) rfl ?_
    refine R_goto (tgt := 71) (dX10_rank 3 rfl) (by decide) ?_
    exact R_iret rfl rfl (Nat.zero_le _) (Nat.zero_le _) (dX10_rank 35 rfl) ⟨congrArg (fun z => some (Sum.inl z)) H, rfl, rfl⟩
def f_X10_puts (x1 : Int) (M : Mem) : Option (Int × Mem) :=
  if 0 ≤ w32 ((w32 (200 * (M 38 13))) + (M 38 34)) ∧ w32 ((w32 (200 * (M 38 13))) + (M 38 34)) < 1200 then
    some (0, (mset (mset M 45 (w32 ((w32 (200 * (M 38 13))) + (M 38 34))).toNat x1) 38 34 (w32 (((mset M 45 (w32 ((w32 (200 * (M 38 13))) + (M 38 34))).toNat x1) 38 34) + 1))))
  else none
set_option maxHeartbeats 4000000 in
theorem t_X10_puts (l : Launch) (g : GG) (ad : Nat → Nat) (S : SW) (M : Mem) (hS : q_ag 38 63 ad S) (x1 : Int) {r : Int} {M' : Mem} (H : f_X10_puts x1 M = some (r, M')) : CT l g MX10_puts 1 0 0 S M [.inr (.inr (some (ad 38))), .inl x1] (q_ex S none M') := by
  unfold f_X10_puts at H
  refine CT_of (ls0 := [some (.inr (.inr (some (ad 38)))), some (.inl x1)]) (by decide +kernel) (Nat.le_of_ble_eq_true rfl) rfl ?_
  refine R_aload_n (i := 0) (dX10_puts 0 rfl) rfl rfl ?_
  refine R_getR cgX10 38 (cl38 hS) 11 (Nat.le_of_ble_eq_true rfl) rfl (Or.inl tb_1138) (dX10_puts 1 rfl) ?_
  refine R_sipush (dX10_puts 2 rfl) rfl rfl ?_
  refine R_aload_n (i := 0) (dX10_puts 3 rfl) rfl rfl ?_
  refine R_getI cgX10 38 (cl38 hS) 13 (Nat.le_of_ble_eq_true rfl) rfl (Or.inl tb_1140) (dX10_puts 4 rfl) ?_
  refine R_imul (dX10_puts 5 rfl) ?_
  refine R_aload_n (i := 0) (dX10_puts 6 rfl) rfl rfl ?_
  refine R_getI cgX10 38 (cl38 hS) 34 (Nat.le_of_ble_eq_true rfl) rfl (Or.inl tb_1161) (dX10_puts 7 rfl) ?_
  refine R_iadd (dX10_puts 8 rfl) ?_
  refine R_iload_n (i := 1) (dX10_puts 9 rfl) rfl rfl ?_
  obtain ⟨hg, H⟩ := ite_G H
  refine R_iast 45 (cl45 hS) hg (dX10_puts 10 rfl) ?_
  refine R_aload_n (i := 0) (dX10_puts 11 rfl) rfl rfl ?_
  refine R_dup rfl (dX10_puts 12 rfl) ?_
  refine R_getI cgX10 38 (cl38 hS) 34 (Nat.le_of_ble_eq_true rfl) rfl (Or.inl tb_1161) (dX10_puts 13 rfl) ?_
  refine R_iconst (dX10_puts 14 rfl) rfl ?_
  refine R_iadd (dX10_puts 15 rfl) ?_
  refine R_putI cgX10 38 (cl38 hS) 34 (Nat.le_of_ble_eq_true rfl) rfl rfl rfl rfl (Or.inl tb_1161) (dX10_puts 16 rfl) ?_
  exact R_vret rfl (Nat.zero_le _) (Nat.zero_le _) (dX10_puts 17 rfl) ⟨rfl, rfl, (Prod.mk.inj (Option.some.inj H)).2⟩
def f_X10_unwinds_L0 (x1 : Int) : Nat → Mem → Option (Int × Mem)
  | 0, _ => none
  | n + 1, M =>
    if 0 < M 38 32 then
      if 0 ≤ w32 ((M 38 32) - 1) ∧ w32 ((M 38 32) - 1) < 200 then
        if f_X10_rank (M 53 (w32 ((M 38 32) - 1)).toNat) < x1 then
          some (0, M)
        else
          if 0 ≤ (mset M 38 32 (w32 ((M 38 32) - 1))) 38 32 ∧ (mset M 38 32 (w32 ((M 38 32) - 1))) 38 32 < 200 then
            if (mset M 38 32 (w32 ((M 38 32) - 1))) 53 ((mset M 38 32 (w32 ((M 38 32) - 1))) 38 32).toNat = 13 then
              ob (f_X10_puts ((mset M 38 32 (w32 ((M 38 32) - 1))) 53 ((mset M 38 32 (w32 ((M 38 32) - 1))) 38 32).toNat) (mset (mset M 38 32 (w32 ((M 38 32) - 1))) 38 33 (w32 (((mset M 38 32 (w32 ((M 38 32) - 1))) 38 33) - 1)))) fun r322 M323 =>
              f_X10_unwinds_L0 x1 n M323
            else
              if (mset M 38 32 (w32 ((M 38 32) - 1))) 53 ((mset M 38 32 (w32 ((M 38 32) - 1))) 38 32).toNat = 19 then
                ob (f_X10_puts ((mset M 38 32 (w32 ((M 38 32) - 1))) 53 ((mset M 38 32 (w32 ((M 38 32) - 1))) 38 32).toNat) (mset (mset M 38 32 (w32 ((M 38 32) - 1))) 38 33 (w32 (((mset M 38 32 (w32 ((M 38 32) - 1))) 38 33) - 1)))) fun r326 M327 =>
                f_X10_unwinds_L0 x1 n M327
              else
                ob (f_X10_puts ((mset M 38 32 (w32 ((M 38 32) - 1))) 53 ((mset M 38 32 (w32 ((M 38 32) - 1))) 38 32).toNat) (mset (mset M 38 32 (w32 ((M 38 32) - 1))) 38 33 (w32 (((mset M 38 32 (w32 ((M 38 32) - 1))) 38 33) - 0)))) fun r324 M325 =>
                f_X10_unwinds_L0 x1 n M325
          else none
      else none
    else
      some (0, M)
set_option maxHeartbeats 4000000 in
theorem t_X10_unwinds_L0 (l : Launch) (g : GG) (ad : Nat → Nat) (S : SW) (hS : q_ag 38 63 ad S) (x1 : Int) {r : Int} {M' : Mem} : ∀ (n : Nat) (M : Mem), f_X10_unwinds_L0 x1 n M = some (r, M') → RW l g MX10_unwinds (q_rm 2 0 0) 0 0 (q_ex S none M') 0 S M 0 0 [some (.inr (.inr (some (ad 38)))), some (.inl x1), none] [] := by
  intro n
  induction n with
  | zero => intro M H; exact absurd H (by simp [f_X10_unwinds_L0])
  | succ n ih =>
    intro M H
    rw [f_X10_unwinds_L0] at H
    refine R_aload_n (i := 0) (dX10_unwinds 0 rfl) rfl rfl ?_
    refine R_getI cgX10 38 (cl38 hS) 32 (Nat.le_of_ble_eq_true rfl) rfl (Or.inl tb_1159) (dX10_unwinds 1 rfl) ?_
    refine R_if_le (tgt := 79) (dX10_unwinds 2 rfl) (by decide) (fun hc => ?_) (fun hc => ?_)
    · have H := ite_F H hc
      exact R_vret rfl (Nat.zero_le _) (Nat.zero_le _) (dX10_unwinds 43 rfl) ⟨rfl, rfl, (Prod.mk.inj (Option.some.inj H)).2⟩
    · have H := ite_T H hc
      refine R_aload_n (i := 0) (dX10_unwinds 3 rfl) rfl rfl ?_
      refine R_getR cgX10 38 (cl38 hS) 31 (Nat.le_of_ble_eq_true rfl) rfl (Or.inl tb_1158) (dX10_unwinds 4 rfl) ?_
      refine R_aload_n (i := 0) (dX10_unwinds 5 rfl) rfl rfl ?_
      refine R_getI cgX10 38 (cl38 hS) 32 (Nat.le_of_ble_eq_true rfl) rfl (Or.inl tb_1159) (dX10_unwinds 6 rfl) ?_
      refine R_iconst (dX10_unwinds 7 rfl) rfl ?_
      refine R_isub (dX10_unwinds 8 rfl) ?_
      obtain ⟨hg, H⟩ := ite_G H
      refine R_iald 53 (cl53 hS) hg (dX10_unwinds 9 rfl) ?_
      refine R_cS (st' := [.inl (f_X10_rank (M 53 (w32 ((M 38 32) - 1)).toNat))]) [.inl (M 53 (w32 ((M 38 32) - 1)).toNat)] [] (t_X10_rank l g ad S _ hS   (M 53 (w32 ((M 38 32) - 1)).toNat)) msX10_rank (Or.inl tb_1103) ⟨Nat.le_of_ble_eq_true rfl, Nat.le_of_ble_eq_true rfl⟩ (Nat.zero_le _) (Nat.zero_le _) rfl rfl (Nat.le_of_ble_eq_true rfl) rfl (dX10_unwinds 10 rfl) ?_
      refine R_iload_n (i := 1) (dX10_unwinds 11 rfl) rfl rfl ?_
      refine R_icmp_lt (tgt := 79) (dX10_unwinds 12 rfl) (by decide) (fun hc => ?_) (fun hc => ?_)
      · have H := ite_T H hc
        exact R_vret rfl (Nat.zero_le _) (Nat.zero_le _) (dX10_unwinds 43 rfl) ⟨rfl, rfl, (Prod.mk.inj (Option.some.inj H)).2⟩
      · have H := ite_F H hc
        refine R_aload_n (i := 0) (dX10_unwinds 13 rfl) rfl rfl ?_
        refine R_dup rfl (dX10_unwinds 14 rfl) ?_
        refine R_getI cgX10 38 (cl38 hS) 32 (Nat.le_of_ble_eq_true rfl) rfl (Or.inl tb_1159) (dX10_unwinds 15 rfl) ?_
        refine R_iconst (dX10_unwinds 16 rfl) rfl ?_
        refine R_isub (dX10_unwinds 17 rfl) ?_
        refine R_putI cgX10 38 (cl38 hS) 32 (Nat.le_of_ble_eq_true rfl) rfl rfl rfl rfl (Or.inl tb_1159) (dX10_unwinds 18 rfl) ?_
        refine R_aload_n (i := 0) (dX10_unwinds 19 rfl) rfl rfl ?_
        refine R_getR cgX10 38 (cl38 hS) 31 (Nat.le_of_ble_eq_true rfl) rfl (Or.inl tb_1158) (dX10_unwinds 20 rfl) ?_
        refine R_aload_n (i := 0) (dX10_unwinds 21 rfl) rfl rfl ?_
        refine R_getI cgX10 38 (cl38 hS) 32 (Nat.le_of_ble_eq_true rfl) rfl (Or.inl tb_1159) (dX10_unwinds 22 rfl) ?_
        obtain ⟨hg, H⟩ := ite_G H
        refine R_iald 53 (cl53 hS) hg (dX10_unwinds 23 rfl) ?_
        refine R_istore_n (i := 2) (ls' := [some (.inr (.inr (some (ad 38)))), some (.inl x1), some (.inl ((mset M 38 32 (w32 ((M 38 32) - 1))) 53 ((mset M 38 32 (w32 ((M 38 32) - 1))) 38 32).toNat))]) (dX10_unwinds 24 rfl) rfl (Nat.le_of_ble_eq_true rfl) (Nat.le_of_ble_eq_true rfl) rfl rfl ?_
        refine R_aload_n (i := 0) (dX10_unwinds 25 rfl) rfl rfl ?_
        refine R_dup rfl (dX10_unwinds 26 rfl) ?_
        refine R_getI cgX10 38 (cl38 hS) 33 (Nat.le_of_ble_eq_true rfl) rfl (Or.inl tb_1160) (dX10_unwinds 27 rfl) ?_
        refine R_iload_n (i := 2) (dX10_unwinds 28 rfl) rfl rfl ?_
        refine R_bipush (dX10_unwinds 29 rfl) rfl rfl ?_
        refine R_icmp_eq (tgt := 62) (dX10_unwinds 30 rfl) (by decide) (fun hc => ?_) (fun hc => ?_)
        · have H := ite_T H hc
          refine R_iconst (dX10_unwinds 34 rfl) rfl ?_
          refine R_goto (tgt := 67) (dX10_unwinds 35 rfl) (by decide) ?_
          refine R_isub (dX10_unwinds 37 rfl) ?_
          refine R_putI cgX10 38 (cl38 hS) 33 (Nat.le_of_ble_eq_true rfl) rfl rfl rfl rfl (Or.inl tb_1160) (dX10_unwinds 38 rfl) ?_
          refine R_aload_n (i := 0) (dX10_unwinds 39 rfl) rfl rfl ?_
          refine R_iload_n (i := 2) (dX10_unwinds 40 rfl) rfl rfl ?_
          obtain ⟨r322, M323, hr, H⟩ := ob_E H
          refine R_cV (st' := []) [.inl ((mset M 38 32 (w32 ((M 38 32) - 1))) 53 ((mset M 38 32 (w32 ((M 38 32) - 1))) 38 32).toNat)] [] (t_X10_puts l g ad S _ hS   ((mset M 38 32 (w32 ((M 38 32) - 1))) 53 ((mset M 38 32 (w32 ((M 38 32) - 1))) 38 32).toNat) hr) msX10_puts (Or.inl tb_1095) (Or.inl ⟨38, 10, _, _, _, (cl38 hS), rfl⟩) ⟨Nat.le_of_ble_eq_true rfl, Nat.le_of_ble_eq_true rfl⟩ (Nat.zero_le _) (Nat.zero_le _) rfl rfl (Nat.le_of_ble_eq_true rfl) rfl (dX10_unwinds 41 rfl) ?_
          refine R_goto (tgt := 0) (dX10_unwinds 42 rfl) (by decide) ?_
          refine R_mask [true, true, false] rfl ?_
          exact ih M323 H
        · have H := ite_F H hc
          refine R_iload_n (i := 2) (dX10_unwinds 31 rfl) rfl rfl ?_
          refine R_bipush (dX10_unwinds 32 rfl) rfl rfl ?_
          refine R_icmp_ne (tgt := 66) (dX10_unwinds 33 rfl) (by decide) (fun hc => ?_) (fun hc => ?_)
          · have H := ite_F H hc
            refine R_iconst (dX10_unwinds 36 rfl) rfl ?_
            refine R_isub (dX10_unwinds 37 rfl) ?_
            refine R_putI cgX10 38 (cl38 hS) 33 (Nat.le_of_ble_eq_true rfl) rfl rfl rfl rfl (Or.inl tb_1160) (dX10_unwinds 38 rfl) ?_
            refine R_aload_n (i := 0) (dX10_unwinds 39 rfl) rfl rfl ?_
            refine R_iload_n (i := 2) (dX10_unwinds 40 rfl) rfl rfl ?_
            obtain ⟨r324, M325, hr, H⟩ := ob_E H
            refine R_cV (st' := []) [.inl ((mset M 38 32 (w32 ((M 38 32) - 1))) 53 ((mset M 38 32 (w32 ((M 38 32) - 1))) 38 32).toNat)] [] (t_X10_puts l g ad S _ hS   ((mset M 38 32 (w32 ((M 38 32) - 1))) 53 ((mset M 38 32 (w32 ((M 38 32) - 1))) 38 32).toNat) hr) msX10_puts (Or.inl tb_1095) (Or.inl ⟨38, 10, _, _, _, (cl38 hS), rfl⟩) ⟨Nat.le_of_ble_eq_true rfl, Nat.le_of_ble_eq_true rfl⟩ (Nat.zero_le _) (Nat.zero_le _) rfl rfl (Nat.le_of_ble_eq_true rfl) rfl (dX10_unwinds 41 rfl) ?_
            refine R_goto (tgt := 0) (dX10_unwinds 42 rfl) (by decide) ?_
            refine R_mask [true, true, false] rfl ?_
            exact ih M325 H
          · have H := ite_T H hc
            refine R_iconst (dX10_unwinds 34 rfl) rfl ?_
            refine R_goto (tgt := 67) (dX10_unwinds 35 rfl) (by decide) ?_
            refine R_isub (dX10_unwinds 37 rfl) ?_
            refine R_putI cgX10 38 (cl38 hS) 33 (Nat.le_of_ble_eq_true rfl) rfl rfl rfl rfl (Or.inl tb_1160) (dX10_unwinds 38 rfl) ?_
            refine R_aload_n (i := 0) (dX10_unwinds 39 rfl) rfl rfl ?_
            refine R_iload_n (i := 2) (dX10_unwinds 40 rfl) rfl rfl ?_
            obtain ⟨r326, M327, hr, H⟩ := ob_E H
            refine R_cV (st' := []) [.inl ((mset M 38 32 (w32 ((M 38 32) - 1))) 53 ((mset M 38 32 (w32 ((M 38 32) - 1))) 38 32).toNat)] [] (t_X10_puts l g ad S _ hS   ((mset M 38 32 (w32 ((M 38 32) - 1))) 53 ((mset M 38 32 (w32 ((M 38 32) - 1))) 38 32).toNat) hr) msX10_puts (Or.inl tb_1095) (Or.inl ⟨38, 10, _, _, _, (cl38 hS), rfl⟩) ⟨Nat.le_of_ble_eq_true rfl, Nat.le_of_ble_eq_true rfl⟩ (Nat.zero_le _) (Nat.zero_le _) rfl rfl (Nat.le_of_ble_eq_true rfl) rfl (dX10_unwinds 41 rfl) ?_
            refine R_goto (tgt := 0) (dX10_unwinds 42 rfl) (by decide) ?_
            refine R_mask [true, true, false] rfl ?_
            exact ih M327 H
def f_X10_unwinds (x1 : Int) (M : Mem) : Option (Int × Mem) :=
  f_X10_unwinds_L0
    x1 100000 M
set_option maxHeartbeats 4000000 in
theorem t_X10_unwinds (l : Launch) (g : GG) (ad : Nat → Nat) (S : SW) (M : Mem) (hS : q_ag 38 63 ad S) (x1 : Int) {r : Int} {M' : Mem} (H : f_X10_unwinds x1 M = some (r, M')) : CT l g MX10_unwinds 2 0 0 S M [.inr (.inr (some (ad 38))), .inl x1] (q_ex S none M') := by
  unfold f_X10_unwinds at H
  refine CT_of (ls0 := [some (.inr (.inr (some (ad 38)))), some (.inl x1), none]) (by decide +kernel) (Nat.le_of_ble_eq_true rfl) rfl ?_
  exact t_X10_unwinds_L0 l g ad S hS x1  100000 M H 
def f_X10_holds (x1 : Int) (M : Mem) : Option (Int × Mem) :=
  if 0 ≤ M 38 32 ∧ M 38 32 < 200 then
    some (0, (mset (mset M 53 (M 38 32).toNat x1) 38 32 (w32 (((mset M 53 (M 38 32).toNat x1) 38 32) + 1))))
  else none
set_option maxHeartbeats 4000000 in
theorem t_X10_holds (l : Launch) (g : GG) (ad : Nat → Nat) (S : SW) (M : Mem) (hS : q_ag 38 63 ad S) (x1 : Int) {r : Int} {M' : Mem} (H : f_X10_holds x1 M = some (r, M')) : CT l g MX10_holds 1 0 0 S M [.inr (.inr (some (ad 38))), .inl x1] (q_ex S none M') := by
  unfold f_X10_holds at H
  refine CT_of (ls0 := [some (.inr (.inr (some (ad 38)))), some (.inl x1)]) (by decide +kernel) (Nat.le_of_ble_eq_true rfl) rfl ?_
  refine R_aload_n (i := 0) (dX10_holds 0 rfl) rfl rfl ?_
  refine R_getR cgX10 38 (cl38 hS) 31 (Nat.le_of_ble_eq_true rfl) rfl (Or.inl tb_1158) (dX10_holds 1 rfl) ?_
  refine R_aload_n (i := 0) (dX10_holds 2 rfl) rfl rfl ?_
  refine R_getI cgX10 38 (cl38 hS) 32 (Nat.le_of_ble_eq_true rfl) rfl (Or.inl tb_1159) (dX10_holds 3 rfl) ?_
  refine R_iload_n (i := 1) (dX10_holds 4 rfl) rfl rfl ?_
  obtain ⟨hg, H⟩ := ite_G H
  refine R_iast 53 (cl53 hS) hg (dX10_holds 5 rfl) ?_
  refine R_aload_n (i := 0) (dX10_holds 6 rfl) rfl rfl ?_
  refine R_dup rfl (dX10_holds 7 rfl) ?_
  refine R_getI cgX10 38 (cl38 hS) 32 (Nat.le_of_ble_eq_true rfl) rfl (Or.inl tb_1159) (dX10_holds 8 rfl) ?_
  refine R_iconst (dX10_holds 9 rfl) rfl ?_
  refine R_iadd (dX10_holds 10 rfl) ?_
  refine R_putI cgX10 38 (cl38 hS) 32 (Nat.le_of_ble_eq_true rfl) rfl rfl rfl rfl (Or.inl tb_1159) (dX10_holds 11 rfl) ?_
  exact R_vret rfl (Nat.zero_le _) (Nat.zero_le _) (dX10_holds 12 rfl) ⟨rfl, rfl, (Prod.mk.inj (Option.some.inj H)).2⟩
def f_X10_opensOne (x1 : Int) (M : Mem) : Option (Int × Mem) :=
  if M 38 33 = 5 then
    some (0, M)
  else
    ob (f_X10_holds x1 (mset M 38 33 (w32 ((M 38 33) + 1)))) fun r328 M329 =>
    some (1, M329)
set_option maxHeartbeats 4000000 in
theorem t_X10_opensOne (l : Launch) (g : GG) (ad : Nat → Nat) (S : SW) (M : Mem) (hS : q_ag 38 63 ad S) (x1 : Int) {r : Int} {M' : Mem} (H : f_X10_opensOne x1 M = some (r, M')) : CT l g MX10_opensOne 2 0 0 S M [.inr (.inr (some (ad 38))), .inl x1] (q_ex S (some (.inl r)) M') := by
  unfold f_X10_opensOne at H
  refine CT_of (ls0 := [some (.inr (.inr (some (ad 38)))), some (.inl x1)]) (by decide +kernel) (Nat.le_of_ble_eq_true rfl) rfl ?_
  refine R_aload_n (i := 0) (dX10_opensOne 0 rfl) rfl rfl ?_
  refine R_getI cgX10 38 (cl38 hS) 33 (Nat.le_of_ble_eq_true rfl) rfl (Or.inl tb_1160) (dX10_opensOne 1 rfl) ?_
  refine R_iconst (dX10_opensOne 2 rfl) rfl ?_
  refine R_icmp_ne (tgt := 10) (dX10_opensOne 3 rfl) (by decide) (fun hc => ?_) (fun hc => ?_)
  · have H := ite_F H hc
    refine R_aload_n (i := 0) (dX10_opensOne 6 rfl) rfl rfl ?_
    refine R_dup rfl (dX10_opensOne 7 rfl) ?_
    refine R_getI cgX10 38 (cl38 hS) 33 (Nat.le_of_ble_eq_true rfl) rfl (Or.inl tb_1160) (dX10_opensOne 8 rfl) ?_
    refine R_iconst (dX10_opensOne 9 rfl) rfl ?_
    refine R_iadd (dX10_opensOne 10 rfl) ?_
    refine R_putI cgX10 38 (cl38 hS) 33 (Nat.le_of_ble_eq_true rfl) rfl rfl rfl rfl (Or.inl tb_1160) (dX10_opensOne 11 rfl) ?_
    refine R_aload_n (i := 0) (dX10_opensOne 12 rfl) rfl rfl ?_
    refine R_iload_n (i := 1) (dX10_opensOne 13 rfl) rfl rfl ?_
    obtain ⟨r328, M329, hr, H⟩ := ob_E H
    refine R_cV (st' := []) [.inl x1] [] (t_X10_holds l g ad S _ hS   x1 hr) msX10_holds (Or.inl tb_1110) (Or.inl ⟨38, 10, _, _, _, (cl38 hS), rfl⟩) ⟨Nat.le_of_ble_eq_true rfl, Nat.le_of_ble_eq_true rfl⟩ (Nat.zero_le _) (Nat.zero_le _) rfl rfl (Nat.le_of_ble_eq_true rfl) rfl (dX10_opensOne 14 rfl) ?_
    refine R_iconst (dX10_opensOne 15 rfl) rfl ?_
    exact R_iret rfl (by decide +kernel) (Nat.zero_le _) (Nat.zero_le _) (dX10_opensOne 16 rfl) ⟨congrArg (fun z => some (Sum.inl z)) (Prod.mk.inj (Option.some.inj H)).1, rfl, (Prod.mk.inj (Option.some.inj H)).2⟩
  · have H := ite_T H hc
    refine R_iconst (dX10_opensOne 4 rfl) rfl ?_
    exact R_iret rfl (by decide +kernel) (Nat.zero_le _) (Nat.zero_le _) (dX10_opensOne 5 rfl) ⟨congrArg (fun z => some (Sum.inl z)) (Prod.mk.inj (Option.some.inj H)).1, rfl, (Prod.mk.inj (Option.some.inj H)).2⟩
