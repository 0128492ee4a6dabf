def f_J6_numberOfTrailingZeros_0f7a4 (x0 : Int) : Int :=
  if 0 < b_and (b_xor x0 (-1)) (w32 (x0 - 1)) then
    if 65536 < b_and (b_xor x0 (-1)) (w32 (x0 - 1)) then
      if 256 < b_ushr (b_and (b_xor x0 (-1)) (w32 (x0 - 1))) 16 then
        if 16 < b_ushr (b_ushr (b_and (b_xor x0 (-1)) (w32 (x0 - 1))) 16) 8 then
          if 4 < b_ushr (b_ushr (b_ushr (b_and (b_xor x0 (-1)) (w32 (x0 - 1))) 16) 8) 4 then
            w32 ((w32 (w32 (w32 (w32 (1 + 16) + 8) + 4) + 2)) + (b_ushr (b_ushr (b_ushr (b_ushr (b_ushr (b_and (b_xor x0 (-1)) (w32 (x0 - 1))) 16) 8) 4) 2) 1))
          else
            w32 ((w32 (w32 (w32 (1 + 16) + 8) + 4)) + (b_ushr (b_ushr (b_ushr (b_ushr (b_and (b_xor x0 (-1)) (w32 (x0 - 1))) 16) 8) 4) 1))
        else
          if 4 < b_ushr (b_ushr (b_and (b_xor x0 (-1)) (w32 (x0 - 1))) 16) 8 then
            w32 ((w32 (w32 (w32 (1 + 16) + 8) + 2)) + (b_ushr (b_ushr (b_ushr (b_ushr (b_and (b_xor x0 (-1)) (w32 (x0 - 1))) 16) 8) 2) 1))
          else
            w32 ((w32 (w32 (1 + 16) + 8)) + (b_ushr (b_ushr (b_ushr (b_and (b_xor x0 (-1)) (w32 (x0 - 1))) 16) 8) 1))
      else
        if 16 < b_ushr (b_and (b_xor x0 (-1)) (w32 (x0 - 1))) 16 then
          if 4 < b_ushr (b_ushr (b_and (b_xor x0 (-1)) (w32 (x0 - 1))) 16) 4 then
            w32 ((w32 (w32 (w32 (1 + 16) + 4) + 2)) + (b_ushr (b_ushr (b_ushr (b_ushr (b_and (b_xor x0 (-1)) (w32 (x0 - 1))) 16) 4) 2) 1))
          else
            w32 ((w32 (w32 (1 + 16) + 4)) + (b_ushr (b_ushr (b_ushr (b_and (b_xor x0 (-1)) (w32 (x0 - 1))) 16) 4) 1))
        else
          if 4 < b_ushr (b_and (b_xor x0 (-1)) (w32 (x0 - 1))) 16 then
            w32 ((w32 (w32 (1 + 16) + 2)) + (b_ushr (b_ushr (b_ushr (b_and (b_xor x0 (-1)) (w32 (x0 - 1))) 16) 2) 1))
          else
            w32 ((w32 (1 + 16)) + (b_ushr (b_ushr (b_and (b_xor x0 (-1)) (w32 (x0 - 1))) 16) 1))
    else
      if 256 < b_and (b_xor x0 (-1)) (w32 (x0 - 1)) then
        if 16 < b_ushr (b_and (b_xor x0 (-1)) (w32 (x0 - 1))) 8 then
          if 4 < b_ushr (b_ushr (b_and (b_xor x0 (-1)) (w32 (x0 - 1))) 8) 4 then
            w32 ((w32 (w32 (w32 (1 + 8) + 4) + 2)) + (b_ushr (b_ushr (b_ushr (b_ushr (b_and (b_xor x0 (-1)) (w32 (x0 - 1))) 8) 4) 2) 1))
          else
            w32 ((w32 (w32 (1 + 8) + 4)) + (b_ushr (b_ushr (b_ushr (b_and (b_xor x0 (-1)) (w32 (x0 - 1))) 8) 4) 1))
        else
          if 4 < b_ushr (b_and (b_xor x0 (-1)) (w32 (x0 - 1))) 8 then
            w32 ((w32 (w32 (1 + 8) + 2)) + (b_ushr (b_ushr (b_ushr (b_and (b_xor x0 (-1)) (w32 (x0 - 1))) 8) 2) 1))
          else
            w32 ((w32 (1 + 8)) + (b_ushr (b_ushr (b_and (b_xor x0 (-1)) (w32 (x0 - 1))) 8) 1))
      else
        if 16 < b_and (b_xor x0 (-1)) (w32 (x0 - 1)) then
          if 4 < b_ushr (b_and (b_xor x0 (-1)) (w32 (x0 - 1))) 4 then
            w32 ((w32 (w32 (1 + 4) + 2)) + (b_ushr (b_ushr (b_ushr (b_and (b_xor x0 (-1)) (w32 (x0 - 1))) 4) 2) 1))
          else
            w32 ((w32 (1 + 4)) + (b_ushr (b_ushr (b_and (b_xor x0 (-1)) (w32 (x0 - 1))) 4) 1))
        else
          if 4 < b_and (b_xor x0 (-1)) (w32 (x0 - 1)) then
            w32 ((w32 (1 + 2)) + (b_ushr (b_ushr (b_and (b_xor x0 (-1)) (w32 (x0 - 1))) 2) 1))
          else
            w32 (1 + (b_ushr (b_and (b_xor x0 (-1)) (w32 (x0 - 1))) 1))
  else
    b_and (b_and (b_xor x0 (-1)) (w32 (x0 - 1))) 32
set_option maxHeartbeats 4000000 in
theorem t_J6_numberOfTrailingZeros_0f7a4 (l : Launch) (g : GG) (S : SW) (M : Mem) (x0 : Int) : CT l g MJ6_numberOfTrailingZeros_0f7a4 1 0 0 S M [.inl x0] (q_ex S (some (.inl (f_J6_numberOfTrailingZeros_0f7a4 x0))) M) := by
  obtain ⟨r, H⟩ : ∃ r, f_J6_numberOfTrailingZeros_0f7a4 x0 = r := ⟨_, rfl⟩
  rw [H]
  unfold f_J6_numberOfTrailingZeros_0f7a4 at H
  refine CT_of (ls0 := [some (.inl x0), none]) (by decide +kernel) (Nat.le_of_ble_eq_true rfl) rfl ?_
  refine R_iload_n (i := 0) (dJ6_numberOfTrailingZeros_0f7a4 0 rfl) rfl rfl ?_
  refine R_iconst (dJ6_numberOfTrailingZeros_0f7a4 1 rfl) rfl ?_
  refine R_ixor (dJ6_numberOfTrailingZeros_0f7a4 2 rfl) ?_
  refine R_iload_n (i := 0) (dJ6_numberOfTrailingZeros_0f7a4 3 rfl) rfl rfl ?_
  refine R_iconst (dJ6_numberOfTrailingZeros_0f7a4 4 rfl) rfl ?_
  refine R_isub (dJ6_numberOfTrailingZeros_0f7a4 5 rfl) ?_
  refine R_iand (dJ6_numberOfTrailingZeros_0f7a4 6 rfl) ?_
  refine R_istore_n (i := 0) (ls' := [some (.inl (b_and (b_xor x0 (-1)) (w32 (x0 - 1)))), none]) (dJ6_numberOfTrailingZeros_0f7a4 7 rfl) rfl (Nat.le_of_ble_eq_true rfl) (Nat.le_of_ble_eq_true rfl) rfl rfl ?_
  refine R_iload_n (i := 0) (dJ6_numberOfTrailingZeros_0f7a4 8 rfl) rfl rfl ?_
  refine R_if_gt (tgt := 17) (dJ6_numberOfTrailingZeros_0f7a4 9 rfl) (by decide) (fun hc => ?_) (fun hc => ?_)
  · have H := ite_T H hc
    refine R_iconst (dJ6_numberOfTrailingZeros_0f7a4 14 rfl) rfl ?_
    refine R_istore_n (i := 1) (ls' := [some (.inl (b_and (b_xor x0 (-1)) (w32 (x0 - 1)))), some (.inl 1)]) (dJ6_numberOfTrailingZeros_0f7a4 15 rfl) rfl (Nat.le_of_ble_eq_true rfl) (Nat.le_of_ble_eq_true rfl) rfl rfl ?_
    refine R_iload_n (i := 0) (dJ6_numberOfTrailingZeros_0f7a4 16 rfl) rfl rfl ?_
    refine R_ldcw (z := 65536) tb_121 rfl (dJ6_numberOfTrailingZeros_0f7a4 17 rfl) ?_
    refine R_icmp_le (tgt := 34) (dJ6_numberOfTrailingZeros_0f7a4 18 rfl) (by decide) (fun hc => ?_) (fun hc => ?_)
    · have H := ite_F H hc
      refine R_iload_n (i := 0) (dJ6_numberOfTrailingZeros_0f7a4 24 rfl) rfl rfl ?_
      refine R_sipush (dJ6_numberOfTrailingZeros_0f7a4 25 rfl) rfl rfl ?_
      refine R_icmp_le (tgt := 49) (dJ6_numberOfTrailingZeros_0f7a4 26 rfl) (by decide) (fun hc => ?_) (fun hc => ?_)
      · have H := ite_F H hc
        refine R_iload_n (i := 0) (dJ6_numberOfTrailingZeros_0f7a4 32 rfl) rfl rfl ?_
        refine R_bipush (dJ6_numberOfTrailingZeros_0f7a4 33 rfl) rfl rfl ?_
        refine R_icmp_le (tgt := 62) (dJ6_numberOfTrailingZeros_0f7a4 34 rfl) (by decide) (fun hc => ?_) (fun hc => ?_)
        · have H := ite_F H hc
          refine R_iload_n (i := 0) (dJ6_numberOfTrailingZeros_0f7a4 40 rfl) rfl rfl ?_
          refine R_iconst (dJ6_numberOfTrailingZeros_0f7a4 41 rfl) rfl ?_
          refine R_icmp_le (tgt := 74) (dJ6_numberOfTrailingZeros_0f7a4 42 rfl) (by decide) (fun hc => ?_) (fun hc => ?_)
          · have H := ite_F H hc
            refine R_iload_n (i := 1) (dJ6_numberOfTrailingZeros_0f7a4 48 rfl) rfl rfl ?_
            refine R_iload_n (i := 0) (dJ6_numberOfTrailingZeros_0f7a4 49 rfl) rfl rfl ?_
            refine R_iconst (dJ6_numberOfTrailingZeros_0f7a4 50 rfl) rfl ?_
            refine R_iushr (dJ6_numberOfTrailingZeros_0f7a4 51 rfl) ?_
            refine R_iadd (dJ6_numberOfTrailingZeros_0f7a4 52 rfl) ?_
            exact R_iret rfl rfl (Nat.zero_le _) (Nat.zero_le _) (dJ6_numberOfTrailingZeros_0f7a4 53 rfl) ⟨congrArg (fun z => some (Sum.inl z)) H, rfl, rfl⟩
          · have H := ite_T H hc
            refine R_iinc (i := 1) (ls' := [some (.inl (b_and (b_xor x0 (-1)) (w32 (x0 - 1)))), some (.inl (w32 (1 + 2)))]) (dJ6_numberOfTrailingZeros_0f7a4 43 rfl) rfl (Nat.le_of_ble_eq_true rfl) rfl rfl ?_
            refine R_iload_n (i := 0) (dJ6_numberOfTrailingZeros_0f7a4 44 rfl) rfl rfl ?_
            refine R_iconst (dJ6_numberOfTrailingZeros_0f7a4 45 rfl) rfl ?_
            refine R_iushr (dJ6_numberOfTrailingZeros_0f7a4 46 rfl) ?_
            refine R_istore_n (i := 0) (ls' := [some (.inl (b_ushr (b_and (b_xor x0 (-1)) (w32 (x0 - 1))) 2)), some (.inl (w32 (1 + 2)))]) (dJ6_numberOfTrailingZeros_0f7a4 47 rfl) rfl (Nat.le_of_ble_eq_true rfl) (Nat.le_of_ble_eq_true rfl) rfl rfl ?_
            refine R_iload_n (i := 1) (dJ6_numberOfTrailingZeros_0f7a4 48 rfl) rfl rfl ?_
            refine R_iload_n (i := 0) (dJ6_numberOfTrailingZeros_0f7a4 49 rfl) rfl rfl ?_
            refine R_iconst (dJ6_numberOfTrailingZeros_0f7a4 50 rfl) rfl ?_
            refine R_iushr (dJ6_numberOfTrailingZeros_0f7a4 51 rfl) ?_
            refine R_iadd (dJ6_numberOfTrailingZeros_0f7a4 52 rfl) ?_
            exact R_iret rfl rfl (Nat.zero_le _) (Nat.zero_le _) (dJ6_numberOfTrailingZeros_0f7a4 53 rfl) ⟨congrArg (fun z => some (Sum.inl z)) H, rfl, rfl⟩
        · have H := ite_T H hc
          refine R_iinc (i := 1) (ls' := [some (.inl (b_and (b_xor x0 (-1)) (w32 (x0 - 1)))), some (.inl (w32 (1 + 4)))]) (dJ6_numberOfTrailingZeros_0f7a4 35 rfl) rfl (Nat.le_of_ble_eq_true rfl) rfl rfl ?_
          refine R_iload_n (i := 0) (dJ6_numberOfTrailingZeros_0f7a4 36 rfl) rfl rfl ?_
          refine R_iconst (dJ6_numberOfTrailingZeros_0f7a4 37 rfl) rfl ?_
          refine R_iushr (dJ6_numberOfTrailingZeros_0f7a4 38 rfl) ?_
          refine R_istore_n (i := 0) (ls' := [some (.inl (b_ushr (b_and (b_xor x0 (-1)) (w32 (x0 - 1))) 4)), some (.inl (w32 (1 + 4)))]) (dJ6_numberOfTrailingZeros_0f7a4 39 rfl) rfl (Nat.le_of_ble_eq_true rfl) (Nat.le_of_ble_eq_true rfl) rfl rfl ?_
          refine R_iload_n (i := 0) (dJ6_numberOfTrailingZeros_0f7a4 40 rfl) rfl rfl ?_
          refine R_iconst (dJ6_numberOfTrailingZeros_0f7a4 41 rfl) rfl ?_
          refine R_icmp_le (tgt := 74) (dJ6_numberOfTrailingZeros_0f7a4 42 rfl) (by decide) (fun hc => ?_) (fun hc => ?_)
          · have H := ite_F H hc
            refine R_iload_n (i := 1) (dJ6_numberOfTrailingZeros_0f7a4 48 rfl) rfl rfl ?_
            refine R_iload_n (i := 0) (dJ6_numberOfTrailingZeros_0f7a4 49 rfl) rfl rfl ?_
            refine R_iconst (dJ6_numberOfTrailingZeros_0f7a4 50 rfl) rfl ?_
            refine R_iushr (dJ6_numberOfTrailingZeros_0f7a4 51 rfl) ?_
            refine R_iadd (dJ6_numberOfTrailingZeros_0f7a4 52 rfl) ?_
            exact R_iret rfl rfl (Nat.zero_le _) (Nat.zero_le _) (dJ6_numberOfTrailingZeros_0f7a4 53 rfl) ⟨congrArg (fun z => some (Sum.inl z)) H, rfl, rfl⟩
          · have H := ite_T H hc
            refine R_iinc (i := 1) (ls' := [some (.inl (b_ushr (b_and (b_xor x0 (-1)) (w32 (x0 - 1))) 4)), some (.inl (w32 (w32 (1 + 4) + 2)))]) (dJ6_numberOfTrailingZeros_0f7a4 43 rfl) rfl (Nat.le_of_ble_eq_true rfl) rfl rfl ?_
            refine R_iload_n (i := 0) (dJ6_numberOfTrailingZeros_0f7a4 44 rfl) rfl rfl ?_
            refine R_iconst (dJ6_numberOfTrailingZeros_0f7a4 45 rfl) rfl ?_
            refine R_iushr (dJ6_numberOfTrailingZeros_0f7a4 46 rfl) ?_
            refine R_istore_n (i := 0) (ls' := [some (.inl (b_ushr (b_ushr (b_and (b_xor x0 (-1)) (w32 (x0 - 1))) 4) 2)), some (.inl (w32 (w32 (1 + 4) + 2)))]) (dJ6_numberOfTrailingZeros_0f7a4 47 rfl) rfl (Nat.le_of_ble_eq_true rfl) (Nat.le_of_ble_eq_true rfl) rfl rfl ?_
            refine R_iload_n (i := 1) (dJ6_numberOfTrailingZeros_0f7a4 48 rfl) rfl rfl ?_
            refine R_iload_n (i := 0) (dJ6_numberOfTrailingZeros_0f7a4 49 rfl) rfl rfl ?_
            refine R_iconst (dJ6_numberOfTrailingZeros_0f7a4 50 rfl) rfl ?_
            refine R_iushr (dJ6_numberOfTrailingZeros_0f7a4 51 rfl) ?_
            refine R_iadd (dJ6_numberOfTrailingZeros_0f7a4 52 rfl) ?_
            exact R_iret rfl rfl (Nat.zero_le _) (Nat.zero_le _) (dJ6_numberOfTrailingZeros_0f7a4 53 rfl) ⟨congrArg (fun z => some (Sum.inl z)) H, rfl, rfl⟩
      · have H := ite_T H hc
        refine R_iinc (i := 1) (ls' := [some (.inl (b_and (b_xor x0 (-1)) (w32 (x0 - 1)))), some (.inl (w32 (1 + 8)))]) (dJ6_numberOfTrailingZeros_0f7a4 27 rfl) rfl (Nat.le_of_ble_eq_true rfl) rfl rfl ?_
        refine R_iload_n (i := 0) (dJ6_numberOfTrailingZeros_0f7a4 28 rfl) rfl rfl ?_
        refine R_bipush (dJ6_numberOfTrailingZeros_0f7a4 29 rfl) rfl rfl ?_
        refine R_iushr (dJ6_numberOfTrailingZeros_0f7a4 30 rfl) ?_
        refine R_istore_n (i := 0) (ls' := [some (.inl (b_ushr (b_and (b_xor x0 (-1)) (w32 (x0 - 1))) 8)), some (.inl (w32 (1 + 8)))]) (dJ6_numberOfTrailingZeros_0f7a4 31 rfl) rfl (Nat.le_of_ble_eq_true rfl) (Nat.le_of_ble_eq_true rfl) rfl rfl ?_
        refine R_iload_n (i := 0) (dJ6_numberOfTrailingZeros_0f7a4 32 rfl) rfl rfl ?_
        refine R_bipush (dJ6_numberOfTrailingZeros_0f7a4 33 rfl) rfl rfl ?_
        refine R_icmp_le (tgt := 62) (dJ6_numberOfTrailingZeros_0f7a4 34 rfl) (by decide) (fun hc => ?_) (fun hc => ?_)
        · have H := ite_F H hc
          refine R_iload_n (i := 0) (dJ6_numberOfTrailingZeros_0f7a4 40 rfl) rfl rfl ?_
          refine R_iconst (dJ6_numberOfTrailingZeros_0f7a4 41 rfl) rfl ?_
          refine R_icmp_le (tgt := 74) (dJ6_numberOfTrailingZeros_0f7a4 42 rfl) (by decide) (fun hc => ?_) (fun hc => ?_)
          · have H := ite_F H hc
            refine R_iload_n (i := 1) (dJ6_numberOfTrailingZeros_0f7a4 48 rfl) rfl rfl ?_
            refine R_iload_n (i := 0) (dJ6_numberOfTrailingZeros_0f7a4 49 rfl) rfl rfl ?_
            refine R_iconst (dJ6_numberOfTrailingZeros_0f7a4 50 rfl) rfl ?_
            refine R_iushr (dJ6_numberOfTrailingZeros_0f7a4 51 rfl) ?_
            refine R_iadd (dJ6_numberOfTrailingZeros_0f7a4 52 rfl) ?_
            exact R_iret rfl rfl (Nat.zero_le _) (Nat.zero_le _) (dJ6_numberOfTrailingZeros_0f7a4 53 rfl) ⟨congrArg (fun z => some (Sum.inl z)) H, rfl, rfl⟩
          · have H := ite_T H hc
            refine R_iinc (i := 1) (ls' := [some (.inl (b_ushr (b_and (b_xor x0 (-1)) (w32 (x0 - 1))) 8)), some (.inl (w32 (w32 (1 + 8) + 2)))]) (dJ6_numberOfTrailingZeros_0f7a4 43 rfl) rfl (Nat.le_of_ble_eq_true rfl) rfl rfl ?_
            refine R_iload_n (i := 0) (dJ6_numberOfTrailingZeros_0f7a4 44 rfl) rfl rfl ?_
            refine R_iconst (dJ6_numberOfTrailingZeros_0f7a4 45 rfl) rfl ?_
            refine R_iushr (dJ6_numberOfTrailingZeros_0f7a4 46 rfl) ?_
            refine R_istore_n (i := 0) (ls' := [some (.inl (b_ushr (b_ushr (b_and (b_xor x0 (-1)) (w32 (x0 - 1))) 8) 2)), some (.inl (w32 (w32 (1 + 8) + 2)))]) (dJ6_numberOfTrailingZeros_0f7a4 47 rfl) rfl (Nat.le_of_ble_eq_true rfl) (Nat.le_of_ble_eq_true rfl) rfl rfl ?_
            refine R_iload_n (i := 1) (dJ6_numberOfTrailingZeros_0f7a4 48 rfl) rfl rfl ?_
            refine R_iload_n (i := 0) (dJ6_numberOfTrailingZeros_0f7a4 49 rfl) rfl rfl ?_
            refine R_iconst (dJ6_numberOfTrailingZeros_0f7a4 50 rfl) rfl ?_
            refine R_iushr (dJ6_numberOfTrailingZeros_0f7a4 51 rfl) ?_
            refine R_iadd (dJ6_numberOfTrailingZeros_0f7a4 52 rfl) ?_
            exact R_iret rfl rfl (Nat.zero_le _) (Nat.zero_le _) (dJ6_numberOfTrailingZeros_0f7a4 53 rfl) ⟨congrArg (fun z => some (Sum.inl z)) H, rfl, rfl⟩
        · have H := ite_T H hc
          refine R_iinc (i := 1) (ls' := [some (.inl (b_ushr (b_and (b_xor x0 (-1)) (w32 (x0 - 1))) 8)), some (.inl (w32 (w32 (1 + 8) + 4)))]) (dJ6_numberOfTrailingZeros_0f7a4 35 rfl) rfl (Nat.le_of_ble_eq_true rfl) rfl rfl ?_
          refine R_iload_n (i := 0) (dJ6_numberOfTrailingZeros_0f7a4 36 rfl) rfl rfl ?_
          refine R_iconst (dJ6_numberOfTrailingZeros_0f7a4 37 rfl) rfl ?_
          refine R_iushr (dJ6_numberOfTrailingZeros_0f7a4 38 rfl) ?_
          refine R_istore_n (i := 0) (ls' := [some (.inl (b_ushr (b_ushr (b_and (b_xor x0 (-1)) (w32 (x0 - 1))) 8) 4)), some (.inl (w32 (w32 (1 + 8) + 4)))]) (dJ6_numberOfTrailingZeros_0f7a4 39 rfl) rfl (Nat.le_of_ble_eq_true rfl) (Nat.le_of_ble_eq_true rfl) rfl rfl ?_
          refine R_iload_n (i := 0) (dJ6_numberOfTrailingZeros_0f7a4 40 rfl) rfl rfl ?_
          refine R_iconst (dJ6_numberOfTrailingZeros_0f7a4 41 rfl) rfl ?_
          refine R_icmp_le (tgt := 74) (dJ6_numberOfTrailingZeros_0f7a4 42 rfl) (by decide) (fun hc => ?_) (fun hc => ?_)
          · have H := ite_F H hc
            refine R_iload_n (i := 1) (dJ6_numberOfTrailingZeros_0f7a4 48 rfl) rfl rfl ?_
            refine R_iload_n (i := 0) (dJ6_numberOfTrailingZeros_0f7a4 49 rfl) rfl rfl ?_
            refine R_iconst (dJ6_numberOfTrailingZeros_0f7a4 50 rfl) rfl ?_
            refine R_iushr (dJ6_numberOfTrailingZeros_0f7a4 51 rfl) ?_
            refine R_iadd (dJ6_numberOfTrailingZeros_0f7a4 52 rfl) ?_
            exact R_iret rfl rfl (Nat.zero_le _) (Nat.zero_le _) (dJ6_numberOfTrailingZeros_0f7a4 53 rfl) ⟨congrArg (fun z => some (Sum.inl z)) H, rfl, rfl⟩
          · have H := ite_T H hc
            refine R_iinc (i := 1) (ls' := [some (.inl (b_ushr (b_ushr (b_and (b_xor x0 (-1)) (w32 (x0 - 1))) 8) 4)), some (.inl (w32 (w32 (w32 (1 + 8) + 4) + 2)))]) (dJ6_numberOfTrailingZeros_0f7a4 43 rfl) rfl (Nat.le_of_ble_eq_true rfl) rfl rfl ?_
            refine R_iload_n (i := 0) (dJ6_numberOfTrailingZeros_0f7a4 44 rfl) rfl rfl ?_
            refine R_iconst (dJ6_numberOfTrailingZeros_0f7a4 45 rfl) rfl ?_
            refine R_iushr (dJ6_numberOfTrailingZeros_0f7a4 46 rfl) ?_
            refine R_istore_n (i := 0) (ls' := [some (.inl (b_ushr (b_ushr (b_ushr (b_and (b_xor x0 (-1)) (w32 (x0 - 1))) 8) 4) 2)), some (.inl (w32 (w32 (w32 (1 + 8) + 4) + 2)))]) (dJ6_numberOfTrailingZeros_0f7a4 47 rfl) rfl (Nat.le_of_ble_eq_true rfl) (Nat.le_of_ble_eq_true rfl) rfl rfl ?_
            refine R_iload_n (i := 1) (dJ6_numberOfTrailingZeros_0f7a4 48 rfl) rfl rfl ?_
            refine R_iload_n (i := 0) (dJ6_numberOfTrailingZeros_0f7a4 49 rfl) rfl rfl ?_
            refine R_iconst (dJ6_numberOfTrailingZeros_0f7a4 50 rfl) rfl ?_
            refine R_iushr (dJ6_numberOfTrailingZeros_0f7a4 51 rfl) ?_
            refine R_iadd (dJ6_numberOfTrailingZeros_0f7a4 52 rfl) ?_
            exact R_iret rfl rfl (Nat.zero_le _) (Nat.zero_le _) (dJ6_numberOfTrailingZeros_0f7a4 53 rfl) ⟨congrArg (fun z => some (Sum.inl z)) H, rfl, rfl⟩
    · have H := ite_T H hc
      refine R_iinc (i := 1) (ls' := [some (.inl (b_and (b_xor x0 (-1)) (w32 (x0 - 1)))), some (.inl (w32 (1 + 16)))]) (dJ6_numberOfTrailingZeros_0f7a4 19 rfl) rfl (Nat.le_of_ble_eq_true rfl) rfl rfl ?_
      refine R_iload_n (i := 0) (dJ6_numberOfTrailingZeros_0f7a4 20 rfl) rfl rfl ?_
      refine R_bipush (dJ6_numberOfTrailingZeros_0f7a4 21 rfl) rfl rfl ?_
      refine R_iushr (dJ6_numberOfTrailingZeros_0f7a4 22 rfl) ?_
      refine R_istore_n (i := 0) (ls' := [some (.inl (b_ushr (b_and (b_xor x0 (-1)) (w32 (x0 - 1))) 16)), some (.inl (w32 (1 + 16)))]) (dJ6_numberOfTrailingZeros_0f7a4 23 rfl) rfl (Nat.le_of_ble_eq_true rfl) (Nat.le_of_ble_eq_true rfl) rfl rfl ?_
      refine R_iload_n (i := 0) (dJ6_numberOfTrailingZeros_0f7a4 24 rfl) rfl rfl ?_
      refine R_sipush (dJ6_numberOfTrailingZeros_0f7a4 25 rfl) rfl rfl ?_
      refine R_icmp_le (tgt := 49) (dJ6_numberOfTrailingZeros_0f7a4 26 rfl) (by decide) (fun hc => ?_) (fun hc => ?_)
      · have H := ite_F H hc
        refine R_iload_n (i := 0) (dJ6_numberOfTrailingZeros_0f7a4 32 rfl) rfl rfl ?_
        refine R_bipush (dJ6_numberOfTrailingZeros_0f7a4 33 rfl) rfl rfl ?_
        refine R_icmp_le (tgt := 62) (dJ6_numberOfTrailingZeros_0f7a4 34 rfl) (by decide) (fun hc => ?_) (fun hc => ?_)
        · have H := ite_F H hc
          refine R_iload_n (i := 0) (dJ6_numberOfTrailingZeros_0f7a4 40 rfl) rfl rfl ?_
          refine R_iconst (dJ6_numberOfTrailingZeros_0f7a4 41 rfl) rfl ?_
          refine R_icmp_le (tgt := 74) (dJ6_numberOfTrailingZeros_0f7a4 42 rfl) (by decide) (fun hc => ?_) (fun hc => ?_)
          · have H := ite_F H hc
            refine R_iload_n (i := 1) (dJ6_numberOfTrailingZeros_0f7a4 48 rfl) rfl rfl ?_
            refine R_iload_n (i := 0) (dJ6_numberOfTrailingZeros_0f7a4 49 rfl) rfl rfl ?_
            refine R_iconst (dJ6_numberOfTrailingZeros_0f7a4 50 rfl) rfl ?_
            refine R_iushr (dJ6_numberOfTrailingZeros_0f7a4 51 rfl) ?_
            refine R_iadd (dJ6_numberOfTrailingZeros_0f7a4 52 rfl) ?_
            exact R_iret rfl rfl (Nat.zero_le _) (Nat.zero_le _) (dJ6_numberOfTrailingZeros_0f7a4 53 rfl) ⟨congrArg (fun z => some (Sum.inl z)) H, rfl, rfl⟩
          · have H := ite_T H hc
            refine R_iinc (i := 1) (ls' := [some (.inl (b_ushr (b_and (b_xor x0 (-1)) (w32 (x0 - 1))) 16)), some (.inl (w32 (w32 (1 + 16) + 2)))]) (dJ6_numberOfTrailingZeros_0f7a4 43 rfl) rfl (Nat.le_of_ble_eq_true rfl) rfl rfl ?_
            refine R_iload_n (i := 0) (dJ6_numberOfTrailingZeros_0f7a4 44 rfl) rfl rfl ?_
            refine R_iconst (dJ6_numberOfTrailingZeros_0f7a4 45 rfl) rfl ?_
            refine R_iushr (dJ6_numberOfTrailingZeros_0f7a4 46 rfl) ?_
            refine R_istore_n (i := 0) (ls' := [some (.inl (b_ushr (b_ushr (b_and (b_xor x0 (-1)) (w32 (x0 - 1))) 16) 2)), some (.inl (w32 (w32 (1 + 16) + 2)))]) (dJ6_numberOfTrailingZeros_0f7a4 47 rfl) rfl (Nat.le_of_ble_eq_true rfl) (Nat.le_of_ble_eq_true rfl) rfl rfl ?_
            refine R_iload_n (i := 1) (dJ6_numberOfTrailingZeros_0f7a4 48 rfl) rfl rfl ?_
            refine R_iload_n (i := 0) (dJ6_numberOfTrailingZeros_0f7a4 49 rfl) rfl rfl ?_
            refine R_iconst (dJ6_numberOfTrailingZeros_0f7a4 50 rfl) rfl ?_
            refine R_iushr (dJ6_numberOfTrailingZeros_0f7a4 51 rfl) ?_
            refine R_iadd (dJ6_numberOfTrailingZeros_0f7a4 52 rfl) ?_
            exact R_iret rfl rfl (Nat.zero_le _) (Nat.zero_le _) (dJ6_numberOfTrailingZeros_0f7a4 53 rfl) ⟨congrArg (fun z => some (Sum.inl z)) H, rfl, rfl⟩
        · have H := ite_T H hc
          refine R_iinc (i := 1) (ls' := [some (.inl (b_ushr (b_and (b_xor x0 (-1)) (w32 (x0 - 1))) 16)), some (.inl (w32 (w32 (1 + 16) + 4)))]) (dJ6_numberOfTrailingZeros_0f7a4 35 rfl) rfl (Nat.le_of_ble_eq_true rfl) rfl rfl ?_
          refine R_iload_n (i := 0) (dJ6_numberOfTrailingZeros_0f7a4 36 rfl) rfl rfl ?_
          refine R_iconst (dJ6_numberOfTrailingZeros_0f7a4 37 rfl) rfl ?_
          refine R_iushr (dJ6_numberOfTrailingZeros_0f7a4 38 rfl) ?_
          refine R_istore_n (i := 0) (ls' := [some (.inl (b_ushr (b_ushr (b_and (b_xor x0 (-1)) (w32 (x0 - 1))) 16) 4)), some (.inl (w32 (w32 (1 + 16) + 4)))]) (dJ6_numberOfTrailingZeros_0f7a4 39 rfl) rfl (Nat.le_of_ble_eq_true rfl) (Nat.le_of_ble_eq_true rfl) rfl rfl ?_
          refine R_iload_n (i := 0) (dJ6_numberOfTrailingZeros_0f7a4 40 rfl) rfl rfl ?_
          refine R_iconst (dJ6_numberOfTrailingZeros_0f7a4 41 rfl) rfl ?_
          refine R_icmp_le (tgt := 74) (dJ6_numberOfTrailingZeros_0f7a4 42 rfl) (by decide) (fun hc => ?_) (fun hc => ?_)
          · have H := ite_F H hc
            refine R_iload_n (i := 1) (dJ6_numberOfTrailingZeros_0f7a4 48 rfl) rfl rfl ?_
            refine R_iload_n (i := 0) (dJ6_numberOfTrailingZeros_0f7a4 49 rfl) rfl rfl ?_
            refine R_iconst (dJ6_numberOfTrailingZeros_0f7a4 50 rfl) rfl ?_
            refine R_iushr (dJ6_numberOfTrailingZeros_0f7a4 51 rfl) ?_
            refine R_iadd (dJ6_numberOfTrailingZeros_0f7a4 52 rfl) ?_
            exact R_iret rfl rfl (Nat.zero_le _) (Nat.zero_le _) (dJ6_numberOfTrailingZeros_0f7a4 53 rfl) ⟨congrArg (fun z => some (Sum.inl z)) H, rfl, rfl⟩
          · have H := ite_T H hc
            refine R_iinc (i := 1) (ls' := [some (.inl (b_ushr (b_ushr (b_and (b_xor x0 (-1)) (w32 (x0 - 1))) 16) 4)), some (.inl (w32 (w32 (w32 (1 + 16) + 4) + 2)))]) (dJ6_numberOfTrailingZeros_0f7a4 43 rfl) rfl (Nat.le_of_ble_eq_true rfl) rfl rfl ?_
            refine R_iload_n (i := 0) (dJ6_numberOfTrailingZeros_0f7a4 44 rfl) rfl rfl ?_
            refine R_iconst (dJ6_numberOfTrailingZeros_0f7a4 45 rfl) rfl ?_
            refine R_iushr (dJ6_numberOfTrailingZeros_0f7a4 46 rfl) ?_
            refine R_istore_n (i := 0) (ls' := [some (.inl (b_ushr (b_ushr (b_ushr (b_and (b_xor x0 (-1)) (w32 (x0 - 1))) 16) 4) 2)), some (.inl (w32 (w32 (w32 (1 + 16) + 4) + 2)))]) (dJ6_numberOfTrailingZeros_0f7a4 47 rfl) rfl (Nat.le_of_ble_eq_true rfl) (Nat.le_of_ble_eq_true rfl) rfl rfl ?_
            refine R_iload_n (i := 1) (dJ6_numberOfTrailingZeros_0f7a4 48 rfl) rfl rfl ?_
            refine R_iload_n (i := 0) (dJ6_numberOfTrailingZeros_0f7a4 49 rfl) rfl rfl ?_
            refine R_iconst (dJ6_numberOfTrailingZeros_0f7a4 50 rfl) rfl ?_
            refine R_iushr (dJ6_numberOfTrailingZeros_0f7a4 51 rfl) ?_
            refine R_iadd (dJ6_numberOfTrailingZeros_0f7a4 52 rfl) ?_
            exact R_iret rfl rfl (Nat.zero_le _) (Nat.zero_le _) (dJ6_numberOfTrailingZeros_0f7a4 53 rfl) ⟨congrArg (fun z => some (Sum.inl z)) H, rfl, rfl⟩
      · have H := ite_T H hc
        refine R_iinc (i := 1) (ls' := [some (.inl (b_ushr (b_and (b_xor x0 (-1)) (w32 (x0 - 1))) 16)), some (.inl (w32 (w32 (1 + 16) + 8)))]) (dJ6_numberOfTrailingZeros_0f7a4 27 rfl) rfl (Nat.le_of_ble_eq_true rfl) rfl rfl ?_
        refine R_iload_n (i := 0) (dJ6_numberOfTrailingZeros_0f7a4 28 rfl) rfl rfl ?_
        refine R_bipush (dJ6_numberOfTrailingZeros_0f7a4 29 rfl) rfl rfl ?_
        refine R_iushr (dJ6_numberOfTrailingZeros_0f7a4 30 rfl) ?_
        refine R_istore_n (i := 0) (ls' := [some (.inl (b_ushr (b_ushr (b_and (b_xor x0 (-1)) (w32 (x0 - 1))) 16) 8)), some (.inl (w32 (w32 (1 + 16) + 8)))]) (dJ6_numberOfTrailingZeros_0f7a4 31 rfl) rfl (Nat.le_of_ble_eq_true rfl) (Nat.le_of_ble_eq_true rfl) rfl rfl ?_
        refine R_iload_n (i := 0) (dJ6_numberOfTrailingZeros_0f7a4 32 rfl) rfl rfl ?_
        refine R_bipush (dJ6_numberOfTrailingZeros_0f7a4 33 rfl) rfl rfl ?_
        refine R_icmp_le (tgt := 62) (dJ6_numberOfTrailingZeros_0f7a4 34 rfl) (by decide) (fun hc => ?_) (fun hc => ?_)
        · have H := ite_F H hc
          refine R_iload_n (i := 0) (dJ6_numberOfTrailingZeros_0f7a4 40 rfl) rfl rfl ?_
          refine R_iconst (dJ6_numberOfTrailingZeros_0f7a4 41 rfl) rfl ?_
          refine R_icmp_le (tgt := 74) (dJ6_numberOfTrailingZeros_0f7a4 42 rfl) (by decide) (fun hc => ?_) (fun hc => ?_)
          · have H := ite_F H hc
            refine R_iload_n (i := 1) (dJ6_numberOfTrailingZeros_0f7a4 48 rfl) rfl rfl ?_
            refine R_iload_n (i := 0) (dJ6_numberOfTrailingZeros_0f7a4 49 rfl) rfl rfl ?_
            refine R_iconst (dJ6_numberOfTrailingZeros_0f7a4 50 rfl) rfl ?_
            refine R_iushr (dJ6_numberOfTrailingZeros_0f7a4 51 rfl) ?_
            refine R_iadd (dJ6_numberOfTrailingZeros_0f7a4 52 rfl) ?_
            exact R_iret rfl rfl (Nat.zero_le _) (Nat.zero_le _) (dJ6_numberOfTrailingZeros_0f7a4 53 rfl) ⟨congrArg (fun z => some (Sum.inl z)) H, rfl, rfl⟩
          · have H := ite_T H hc
            refine R_iinc (i := 1) (ls' := [some (.inl (b_ushr (b_ushr (b_and (b_xor x0 (-1)) (w32 (x0 - 1))) 16) 8)), some (.inl (w32 (w32 (w32 (1 + 16) + 8) + 2)))]) (dJ6_numberOfTrailingZeros_0f7a4 43 rfl) rfl (Nat.le_of_ble_eq_true rfl) rfl rfl ?_
            refine R_iload_n (i := 0) (dJ6_numberOfTrailingZeros_0f7a4 44 rfl) rfl rfl ?_
            refine R_iconst (dJ6_numberOfTrailingZeros_0f7a4 45 rfl) rfl ?_
            refine R_iushr (dJ6_numberOfTrailingZeros_0f7a4 46 rfl) ?_
            refine R_istore_n (i := 0) (ls' := [some (.inl (b_ushr (b_ushr (b_ushr (b_and (b_xor x0 (-1)) (w32 (x0 - 1))) 16) 8) 2)), some (.inl (w32 (w32 (w32 (1 + 16) + 8) + 2)))]) (dJ6_numberOfTrailingZeros_0f7a4 47 rfl) rfl (Nat.le_of_ble_eq_true rfl) (Nat.le_of_ble_eq_true rfl) rfl rfl ?_
            refine R_iload_n (i := 1) (dJ6_numberOfTrailingZeros_0f7a4 48 rfl) rfl rfl ?_
            refine R_iload_n (i := 0) (dJ6_numberOfTrailingZeros_0f7a4 49 rfl) rfl rfl ?_
            refine R_iconst (dJ6_numberOfTrailingZeros_0f7a4 50 rfl) rfl ?_
            refine R_iushr (dJ6_numberOfTrailingZeros_0f7a4 51 rfl) ?_
            refine R_iadd (dJ6_numberOfTrailingZeros_0f7a4 52 rfl) ?_
            exact R_iret rfl rfl (Nat.zero_le _) (Nat.zero_le _) (dJ6_numberOfTrailingZeros_0f7a4 53 rfl) ⟨congrArg (fun z => some (Sum.inl z)) H, rfl, rfl⟩
        · have H := ite_T H hc
          refine R_iinc (i := 1) (ls' := [some (.inl (b_ushr (b_ushr (b_and (b_xor x0 (-1)) (w32 (x0 - 1))) 16) 8)), some (.inl (w32 (w32 (w32 (1 + 16) + 8) + 4)))]) (dJ6_numberOfTrailingZeros_0f7a4 35 rfl) rfl (Nat.le_of_ble_eq_true rfl) rfl rfl ?_
          refine R_iload_n (i := 0) (dJ6_numberOfTrailingZeros_0f7a4 36 rfl) rfl rfl ?_
          refine R_iconst (dJ6_numberOfTrailingZeros_0f7a4 37 rfl) rfl ?_
          refine R_iushr (dJ6_numberOfTrailingZeros_0f7a4 38 rfl) ?_
          refine R_istore_n (i := 0) (ls' := [some (.inl (b_ushr (b_ushr (b_ushr (b_and (b_xor x0 (-1)) (w32 (x0 - 1))) 16) 8) 4)), some (.inl (w32 (w32 (w32 (1 + 16) + 8) + 4)))]) (dJ6_numberOfTrailingZeros_0f7a4 39 rfl) rfl (Nat.le_of_ble_eq_true rfl) (Nat.le_of_ble_eq_true rfl) rfl rfl ?_
          refine R_iload_n (i := 0) (dJ6_numberOfTrailingZeros_0f7a4 40 rfl) rfl rfl ?_
          refine R_iconst (dJ6_numberOfTrailingZeros_0f7a4 41 rfl) rfl ?_
          refine R_icmp_le (tgt := 74) (dJ6_numberOfTrailingZeros_0f7a4 42 rfl) (by decide) (fun hc => ?_) (fun hc => ?_)
          · have H := ite_F H hc
            refine R_iload_n (i := 1) (dJ6_numberOfTrailingZeros_0f7a4 48 rfl) rfl rfl ?_
            refine R_iload_n (i := 0) (dJ6_numberOfTrailingZeros_0f7a4 49 rfl) rfl rfl ?_
            refine R_iconst (dJ6_numberOfTrailingZeros_0f7a4 50 rfl) rfl ?_
            refine R_iushr (dJ6_numberOfTrailingZeros_0f7a4 51 rfl) ?_
            refine R_iadd (dJ6_numberOfTrailingZeros_0f7a4 52 rfl) ?_
            exact R_iret rfl rfl (Nat.zero_le _) (Nat.zero_le _) (dJ6_numberOfTrailingZeros_0f7a4 53 rfl) ⟨congrArg (fun z => some (Sum.inl z)) H, rfl, rfl⟩
          · have H := ite_T H hc
            refine R_iinc (i := 1) (ls' := [some (.inl (b_ushr (b_ushr (b_ushr (b_and (b_xor x0 (-1)) (w32 (x0 - 1))) 16) 8) 4)), some (.inl (w32 (w32 (w32 (w32 (1 + 16) + 8) + 4) + 2)))]) (dJ6_numberOfTrailingZeros_0f7a4 43 rfl) rfl (Nat.le_of_ble_eq_true rfl) rfl rfl ?_
            refine R_iload_n (i := 0) (dJ6_numberOfTrailingZeros_0f7a4 44 rfl) rfl rfl ?_
            refine R_iconst (dJ6_numberOfTrailingZeros_0f7a4 45 rfl) rfl ?_
            refine R_iushr (dJ6_numberOfTrailingZeros_0f7a4 46 rfl) ?_
            refine R_istore_n (i := 0) (ls' := [some (.inl (b_ushr (b_ushr (b_ushr (b_ushr (b_and (b_xor x0 (-1)) (w32 (x0 - 1))) 16) 8) 4) 2)), some (.inl (w32 (w32 (w32 (w32 (1 + 16) + 8) + 4) + 2)))]) (dJ6_numberOfTrailingZeros_0f7a4 47 rfl) rfl (Nat.le_of_ble_eq_true rfl) (Nat.le_of_ble_eq_true rfl) rfl rfl ?_
            refine R_iload_n (i := 1) (dJ6_numberOfTrailingZeros_0f7a4 48 rfl) rfl rfl ?_
            refine R_iload_n (i := 0) (dJ6_numberOfTrailingZeros_0f7a4 49 rfl) rfl rfl ?_
            refine R_iconst (dJ6_numberOfTrailingZeros_0f7a4 50 rfl) rfl ?_
            refine R_iushr (dJ6_numberOfTrailingZeros_0f7a4 51 rfl) ?_
            refine R_iadd (dJ6_numberOfTrailingZeros_0f7a4 52 rfl) ?_
            exact R_iret rfl rfl (Nat.zero_le _) (Nat.zero_le _) (dJ6_numberOfTrailingZeros_0f7a4 53 rfl) ⟨congrArg (fun z => some (Sum.inl z)) H, rfl, rfl⟩
  · have H := ite_F H hc
    refine R_iload_n (i := 0) (dJ6_numberOfTrailingZeros_0f7a4 10 rfl) rfl rfl ?_
    refine R_bipush (dJ6_numberOfTrailingZeros_0f7a4 11 rfl) rfl rfl ?_
    refine R_iand (dJ6_numberOfTrailingZeros_0f7a4 12 rfl) ?_
    exact R_iret rfl rfl (Nat.zero_le _) (Nat.zero_le _) (dJ6_numberOfTrailingZeros_0f7a4 13 rfl) ⟨congrArg (fun z => some (Sum.inl z)) H, rfl, rfl⟩
def f_X7_member_L4 (K21 : Int → Option Int) (x1 : Int) : Nat → Int → Int → Option Int
  | 0, _, _ => none
  | n + 1, x2, x3 =>
    if x3 < x1 then
      f_X7_member_L4 K21 x1 n (b_and x2 (w32 (x2 - 1))) (w32 (x3 + 1))
    else
      K21 x2
set_option maxHeartbeats 4000000 in
theorem t_X7_member_L4 (l : Launch) (g : GG) (ad : Nat → Nat) (S : SW) (M : Mem) (hS : q_ag 1 3 ad S) (x1 : Int) {K21 : Int → Option Int} {r : Int} : ∀ (n : Nat) (x2 : Int) (x3 : Int), f_X7_member_L4 K21 x1 n x2 x3 = some r → (∀ (z2 : Int), K21 z2 = some r → RW l g MX7_member (q_rm 2 0 0) 0 0 (q_ex S (some (.inl r)) M) 21 S M 0 0 [none, none, some (.inl z2), none] []) → RW l g MX7_member (q_rm 2 0 0) 0 0 (q_ex S (some (.inl r)) M) 4 S M 0 0 [none, some (.inl x1), some (.inl x2), some (.inl x3)] [] := by
  intro n
  induction n with
  | zero => intro x2 x3 H; exact absurd H (by simp [f_X7_member_L4])
  | succ n ih =>
    intro x2 x3 H hK21
    rw [f_X7_member_L4] at H
    refine R_iload_n (i := 3) (dX7_member 4 rfl) rfl rfl ?_
    refine R_iload_n (i := 1) (dX7_member 5 rfl) rfl rfl ?_
    refine R_icmp_ge (tgt := 21) (dX7_member 6 rfl) (by decide) (fun hc => ?_) (fun hc => ?_)
    · have H := ite_F H hc
      refine R_mask [false, false, true, false] rfl ?_
      exact hK21 x2 H
    · have H := ite_T H hc
      refine R_iload_n (i := 2) (dX7_member 7 rfl) rfl rfl ?_
      refine R_iload_n (i := 2) (dX7_member 8 rfl) rfl rfl ?_
      refine R_iconst (dX7_member 9 rfl) rfl ?_
      refine R_isub (dX7_member 10 rfl) ?_
      refine R_iand (dX7_member 11 rfl) ?_
      refine R_istore_n (i := 2) (ls' := [none, some (.inl x1), some (.inl (b_and x2 (w32 (x2 - 1)))), some (.inl x3)]) (dX7_member 12 rfl) rfl (Nat.le_of_ble_eq_true rfl) (Nat.le_of_ble_eq_true rfl) rfl rfl ?_
      refine R_iinc (i := 3) (ls' := [none, some (.inl x1), some (.inl (b_and x2 (w32 (x2 - 1)))), some (.inl (w32 (x3 + 1)))]) (dX7_member 13 rfl) rfl (Nat.le_of_ble_eq_true rfl) rfl rfl ?_
      refine R_goto (tgt := 4) (dX7_member 14 rfl) (by decide) ?_
      exact ih (b_and x2 (w32 (x2 - 1))) (w32 (x3 + 1)) H hK21
def f_X7_member (x0 : Int) (x1 : Int) : Option Int :=
  f_X7_member_L4
    (fun y144 =>
      some (f_J6_numberOfTrailingZeros_0f7a4 y144)
    )
    x1 100000 x0 0
set_option maxHeartbeats 4000000 in
theorem t_X7_member (l : Launch) (g : GG) (ad : Nat → Nat) (S : SW) (M : Mem) (hS : q_ag 1 3 ad S) (x0 : Int) (x1 : Int) {r : Int} (H : f_X7_member x0 x1 = some r) : CT l g MX7_member 2 0 0 S M [.inl x0, .inl x1] (q_ex S (some (.inl r)) M) := by
  unfold f_X7_member at H
  refine CT_of (ls0 := [some (.inl x0), some (.inl x1), none, none]) (by decide +kernel) (Nat.le_of_ble_eq_true rfl) rfl ?_
  refine R_iload_n (i := 0) (dX7_member 0 rfl) rfl rfl ?_
  refine R_istore_n (i := 2) (ls' := [some (.inl x0), some (.inl x1), some (.inl x0), none]) (dX7_member 1 rfl) rfl (Nat.le_of_ble_eq_true rfl) (Nat.le_of_ble_eq_true rfl) rfl rfl ?_
  refine R_iconst (dX7_member 2 rfl) rfl ?_
  refine R_istore_n (i := 3) (ls' := [some (.inl x0), some (.inl x1), some (.inl x0), some (.inl 0)]) (dX7_member 3 rfl) rfl (Nat.le_of_ble_eq_true rfl) (Nat.le_of_ble_eq_true rfl) rfl rfl ?_
  refine R_mask [false, true, true, true] rfl ?_
  refine t_X7_member_L4 l g ad S M hS x1  100000 x0 0 H (fun y144 H => ?_)
  refine R_iload_n (i := 2) (dX7_member 15 rfl) rfl rfl ?_
  refine R_cS (st' := [.inl (f_J6_numberOfTrailingZeros_0f7a4 y144)]) [.inl y144] [] (t_J6_numberOfTrailingZeros_0f7a4 l g S _   y144) msJ6_numberOfTrailingZeros_0f7a4 (Or.inl tb_118) ⟨Nat.le_of_ble_eq_true rfl, Nat.le_of_ble_eq_true rfl⟩ (Nat.zero_le _) (Nat.zero_le _) rfl rfl (Nat.le_of_ble_eq_true rfl) rfl (dX7_member 16 rfl) ?_
  exact R_iret rfl rfl (Nat.zero_le _) (Nat.zero_le _) (dX7_member 17 rfl) ⟨congrArg (fun z => some (Sum.inl z)) (Option.some.inj H), rfl, rfl⟩
def f_X7_spell_L8 (x1 : Int) : Nat → Int → Int → Int → Mem → Option (Int × Mem)
  | 0, _, _, _, _ => none
  | n + 1, x2, x3, x4, M =>
    if x4 < 6 then
      if ¬ (if 1 < rd 6 frT x4 then rd 6 frT x4 else 1) = 0 then
        (f_X7_member x3 (b_div x2 (if 1 < rd 6 frT x4 then rd 6 frT x4 else 1))).bind fun r145 =>
        if ¬ (if 1 < rd 6 frT x4 then rd 6 frT x4 else 1) = 0 then
          f_X7_spell_L8 x1 n (b_rem x2 (if 1 < rd 6 frT x4 then rd 6 frT x4 else 1)) (b_and x3 (b_xor (b_shl 1 r145) (-1))) (w32 (x4 + 1)) (wr M 2 4320 (w32 ((w32 (x1 * 6)) + x4)) r145)
        else none
      else none
    else
      some (0, M)
set_option maxHeartbeats 4000000 in
theorem t_X7_spell_L8 (l : Launch) (g : GG) (ad : Nat → Nat) (S : SW) (hS : q_ag 1 3 ad S) (x1 : Int) {r : Int} {M' : Mem} : ∀ (n : Nat) (x2 : Int) (x3 : Int) (x4 : Int) (M : Mem), f_X7_spell_L8 x1 n x2 x3 x4 M = some (r, M') → RW l g MX7_spell (q_rm 3 0 0) 0 0 (q_ex S none M') 8 S M 0 0 [some (.inr (.inr (some (ad 1)))), some (.inl x1), some (.inl x2), some (.inl x3), some (.inl x4), none, none] [] := by
  intro n
  induction n with
  | zero => intro x2 x3 x4 M H; exact absurd H (by simp [f_X7_spell_L8])
  | succ n ih =>
    intro x2 x3 x4 M H
    rw [f_X7_spell_L8] at H
    refine R_iload (i := 4) (dX7_spell 6 rfl) rfl ?_
    refine R_bipush (dX7_spell 7 rfl) rfl rfl ?_
    refine R_icmp_ge (tgt := 75) (dX7_spell 8 rfl) (by decide) (fun hc => ?_) (fun hc => ?_)
    · have H := ite_F H hc
      exact R_vret rfl (Nat.zero_le _) (Nat.zero_le _) (dX7_spell 44 rfl) ⟨rfl, rfl, (Prod.mk.inj (Option.some.inj H)).2⟩
    · have H := ite_T H hc
      refine R_iconst (dX7_spell 9 rfl) rfl ?_
      refine R_gets sel_T trivial (Or.inr ⟨_, tb_107⟩) (dX7_spell 10 rfl) ?_
      refine R_iload (i := 4) (dX7_spell 11 rfl) rfl ?_
      refine R_cS (st' := [.inl (rd 6 frT x4), .inl 1]) [.inr (.inr (some (g.2.2.2.1 1))), .inl x4] [.inl 1] (t_atT l g S _ x4) msX9_at (Or.inr ⟨_, tb_109⟩) ⟨Nat.le_of_ble_eq_true rfl, Nat.le_of_ble_eq_true rfl⟩ (Nat.zero_le _) (Nat.zero_le _) rfl rfl (Nat.le_of_ble_eq_true rfl) rfl (dX7_spell 12 rfl) ?_
      refine R_mmax tb_112 tb_113 tb_72 tb_114 (Nat.le_of_ble_eq_true rfl) (Nat.le_of_ble_eq_true rfl) (Nat.le_of_ble_eq_true rfl) (Nat.zero_le _) (Nat.zero_le _) (dX7_spell 13 rfl) ?_
      refine R_istore (i := 5) (ls' := [some (.inr (.inr (some (ad 1)))), some (.inl x1), some (.inl x2), some (.inl x3), some (.inl x4), some (.inl (if 1 < rd 6 frT x4 then rd 6 frT x4 else 1)), none]) (dX7_spell 14 rfl) (Nat.le_of_ble_eq_true rfl) (Nat.le_of_ble_eq_true rfl) rfl rfl ?_
      refine R_iload_n (i := 3) (dX7_spell 15 rfl) rfl rfl ?_
      refine R_iload_n (i := 2) (dX7_spell 16 rfl) rfl rfl ?_
      refine R_iload (i := 5) (dX7_spell 17 rfl) rfl ?_
      obtain ⟨hg, H⟩ := ite_G H
      refine R_idiv hg (dX7_spell 18 rfl) ?_
      obtain ⟨r145, hr, H⟩ := op_E H
      refine R_cS (st' := [.inl r145]) [.inl x3, .inl (b_div x2 (if 1 < rd 6 frT x4 then rd 6 frT x4 else 1))] [] (t_X7_member l g ad S _ hS   x3 (b_div x2 (if 1 < rd 6 frT x4 then rd 6 frT x4 else 1)) hr) msX7_member (Or.inl tb_115) ⟨Nat.le_of_ble_eq_true rfl, Nat.le_of_ble_eq_true rfl⟩ (Nat.zero_le _) (Nat.zero_le _) rfl rfl (Nat.le_of_ble_eq_true rfl) rfl (dX7_spell 19 rfl) ?_
      refine R_istore (i := 6) (ls' := [some (.inr (.inr (some (ad 1)))), some (.inl x1), some (.inl x2), some (.inl x3), some (.inl x4), some (.inl (if 1 < rd 6 frT x4 then rd 6 frT x4 else 1)), some (.inl r145)]) (dX7_spell 20 rfl) (Nat.le_of_ble_eq_true rfl) (Nat.le_of_ble_eq_true rfl) rfl rfl ?_
      refine R_aload_n (i := 0) (dX7_spell 21 rfl) rfl rfl ?_
      refine R_getR cgX7 1 (cl1 hS) 0 (Nat.le_of_ble_eq_true rfl) rfl (Or.inl tb_125) (dX7_spell 22 rfl) ?_
      refine R_iload_n (i := 1) (dX7_spell 23 rfl) rfl rfl ?_
      refine R_bipush (dX7_spell 24 rfl) rfl rfl ?_
      refine R_imul (dX7_spell 25 rfl) ?_
      refine R_iload (i := 4) (dX7_spell 26 rfl) rfl ?_
      refine R_iadd (dX7_spell 27 rfl) ?_
      refine R_iload (i := 6) (dX7_spell 28 rfl) rfl ?_
      refine R_cS (st' := []) [.inr (.inr (some (ad 2))), .inl (w32 ((w32 (x1 * 6)) + x4)), .inl r145] [] (t_put l g S _ 2 (cl2 hS) (Nat.le_of_ble_eq_true rfl) (w32 ((w32 (x1 * 6)) + x4)) r145) msX9_put (Or.inr ⟨_, tb_122⟩) ⟨Nat.le_of_ble_eq_true rfl, Nat.le_of_ble_eq_true rfl⟩ (Nat.zero_le _) (Nat.zero_le _) rfl rfl (Nat.le_of_ble_eq_true rfl) rfl (dX7_spell 29 rfl) ?_
      refine R_iload_n (i := 3) (dX7_spell 30 rfl) rfl rfl ?_
      refine R_iconst (dX7_spell 31 rfl) rfl ?_
      refine R_iload (i := 6) (dX7_spell 32 rfl) rfl ?_
      refine R_ishl (dX7_spell 33 rfl) ?_
      refine R_iconst (dX7_spell 34 rfl) rfl ?_
      refine R_ixor (dX7_spell 35 rfl) ?_
      refine R_iand (dX7_spell 36 rfl) ?_
      refine R_istore_n (i := 3) (ls' := [some (.inr (.inr (some (ad 1)))), some (.inl x1), some (.inl x2), some (.inl (b_and x3 (b_xor (b_shl 1 r145) (-1)))), some (.inl x4), some (.inl (if 1 < rd 6 frT x4 then rd 6 frT x4 else 1)), some (.inl r145)]) (dX7_spell 37 rfl) rfl (Nat.le_of_ble_eq_true rfl) (Nat.le_of_ble_eq_true rfl) rfl rfl ?_
      refine R_iload_n (i := 2) (dX7_spell 38 rfl) rfl rfl ?_
      refine R_iload (i := 5) (dX7_spell 39 rfl) rfl ?_
      obtain ⟨hg, H⟩ := ite_G H
      refine R_irem hg (dX7_spell 40 rfl) ?_
      refine R_istore_n (i := 2) (ls' := [some (.inr (.inr (some (ad 1)))), some (.inl x1), some (.inl (b_rem x2 (if 1 < rd 6 frT x4 then rd 6 frT x4 else 1))), some (.inl (b_and x3 (b_xor (b_shl 1 r145) (-1)))), some (.inl x4), some (.inl (if 1 < rd 6 frT x4 then rd 6 frT x4 else 1)), some (.inl r145)]) (dX7_spell 41 rfl) rfl (Nat.le_of_ble_eq_true rfl) (Nat.le_of_ble_eq_true rfl) rfl rfl ?_
      refine R_iinc (i := 4) (ls' := [some (.inr (.inr (some (ad 1)))), some (.inl x1), some (.inl (b_rem x2 (if 1 < rd 6 frT x4 then rd 6 frT x4 else 1))), some (.inl (b_and x3 (b_xor (b_shl 1 r145) (-1)))), some (.inl (w32 (x4 + 1))), some (.inl (if 1 < rd 6 frT x4 then rd 6 frT x4 else 1)), some (.inl r145)]) (dX7_spell 42 rfl) rfl (Nat.le_of_ble_eq_true rfl) rfl rfl ?_
      refine R_goto (tgt := 8) (dX7_spell 43 rfl) (by decide) ?_
      refine R_mask [true, true, true, true, true, false, false] rfl ?_
      exact ih (b_rem x2 (if 1 < rd 6 frT x4 then rd 6 frT x4 else 1)) (b_and x3 (b_xor (b_shl 1 r145) (-1))) (w32 (x4 + 1)) (wr M 2 4320 (w32 ((w32 (x1 * 6)) + x4)) r145) H
def f_X7_spell (x1 : Int) (M : Mem) : Option (Int × Mem) :=
  f_X7_spell_L8
    x1 100000 x1 63 0 M
set_option maxHeartbeats 4000000 in
theorem t_X7_spell (l : Launch) (g : GG) (ad : Nat → Nat) (S : SW) (M : Mem) (hS : q_ag 1 3 ad S) (x1 : Int) {r : Int} {M' : Mem} (H : f_X7_spell x1 M = some (r, M')) : CT l g MX7_spell 3 0 0 S M [.inr (.inr (some (ad 1))), .inl x1] (q_ex S none M') := by
  unfold f_X7_spell at H
  refine CT_of (ls0 := [some (.inr (.inr (some (ad 1)))), some (.inl x1), none, none, none, none, none]) (by decide +kernel) (Nat.le_of_ble_eq_true rfl) rfl ?_
  refine R_iload_n (i := 1) (dX7_spell 0 rfl) rfl rfl ?_
  refine R_istore_n (i := 2) (ls' := [some (.inr (.inr (some (ad 1)))), some (.inl x1), some (.inl x1), none, none, none, none]) (dX7_spell 1 rfl) rfl (Nat.le_of_ble_eq_true rfl) (Nat.le_of_ble_eq_true rfl) rfl rfl ?_
  refine R_bipush (dX7_spell 2 rfl) rfl rfl ?_
  refine R_istore_n (i := 3) (ls' := [some (.inr (.inr (some (ad 1)))), some (.inl x1), some (.inl x1), some (.inl 63), none, none, none]) (dX7_spell 3 rfl) rfl (Nat.le_of_ble_eq_true rfl) (Nat.le_of_ble_eq_true rfl) rfl rfl ?_
  refine R_iconst (dX7_spell 4 rfl) rfl ?_
  refine R_istore (i := 4) (ls' := [some (.inr (.inr (some (ad 1)))), some (.inl x1), some (.inl x1), some (.inl 63), some (.inl 0), none, none]) (dX7_spell 5 rfl) (Nat.le_of_ble_eq_true rfl) (Nat.le_of_ble_eq_true rfl) rfl rfl ?_
  exact t_X7_spell_L8 l g ad S hS x1  100000 x1 63 0 M H 
def f_X8_offer (x1 : Int) (x2 : Int) (x3 : Int) (M : Mem) : Option (Int × Mem) :=
  some (0, (wr M 28 40 (w32 ((w32 (x1 * 10)) + x2)) x3))
set_option maxHeartbeats 4000000 in
theorem t_X8_offer (l : Launch) (g : GG) (ad : Nat → Nat) (S : SW) (M : Mem) (hS : q_ag 0 38 ad S) (x1 : Int) (x2 : Int) (x3 : Int) {r : Int} {M' : Mem} (H : f_X8_offer x1 x2 x3 M = some (r, M')) : CT l g MX8_offer 2 0 0 S M [.inr (.inr (some (ad 27))), .inl x1, .inl x2, .inl x3] (q_ex S none M') := by
  unfold f_X8_offer at H
  refine CT_of (ls0 := [some (.inr (.inr (some (ad 27)))), some (.inl x1), some (.inl x2), some (.inl x3)]) (by decide +kernel) (Nat.le_of_ble_eq_true rfl) rfl ?_
  refine R_aload_n (i := 0) (dX8_offer 0 rfl) rfl rfl ?_
  refine R_getR cgX8 27 (cl27 hS) 0 (Nat.le_of_ble_eq_true rfl) rfl (Or.inl tb_489) (dX8_offer 1 rfl) ?_
  refine R_iload_n (i := 1) (dX8_offer 2 rfl) rfl rfl ?_
  refine R_bipush (dX8_offer 3 rfl) rfl rfl ?_
  refine R_imul (dX8_offer 4 rfl) ?_
  refine R_iload_n (i := 2) (dX8_offer 5 rfl) rfl rfl ?_
  refine R_iadd (dX8_offer 6 rfl) ?_
  refine R_iload_n (i := 3) (dX8_offer 7 rfl) rfl rfl ?_
  refine R_cS (st' := []) [.inr (.inr (some (ad 28))), .inl (w32 ((w32 (x1 * 10)) + x2)), .inl x3] [] (t_put l g S _ 28 (cl28 hS) (Nat.le_of_ble_eq_true rfl) (w32 ((w32 (x1 * 10)) + x2)) x3) msX9_put (Or.inr ⟨_, tb_883⟩) ⟨Nat.le_of_ble_eq_true rfl, Nat.le_of_ble_eq_true rfl⟩ (Nat.zero_le _) (Nat.zero_le _) rfl rfl (Nat.le_of_ble_eq_true rfl) rfl (dX8_offer 8 rfl) ?_
  exact R_vret rfl (Nat.zero_le _) (Nat.zero_le _) (dX8_offer 9 rfl) ⟨rfl, rfl, (Prod.mk.inj (Option.some.inj H)).2⟩
def f_X8_keepIfBetter (x1 : Int) (M : Mem) : Option (Int × Mem) :=
  if M 27 3 < x1 then
    some (0, (mcpy (mset M 27 3 x1) 29 30 0 0 4))
  else
    some (0, M)
set_option maxHeartbeats 4000000 in
theorem t_X8_keepIfBetter (l : Launch) (g : GG) (ad : Nat → Nat) (S : SW) (M : Mem) (hS : q_ag 0 38 ad S) (x1 : Int) {r : Int} {M' : Mem} (H : f_X8_keepIfBetter x1 M = some (r, M')) : CT l g MX8_keepIfBetter 1 0 0 S M [.inr (.inr (some (ad 27))), .inl x1] (q_ex S none M') := by
  unfold f_X8_keepIfBetter at H
  refine CT_of (ls0 := [some (.inr (.inr (some (ad 27)))), some (.inl x1)]) (by decide +kernel) (Nat.le_of_ble_eq_true rfl) rfl ?_
  refine R_iload_n (i := 1) (dX8_keepIfBetter 0 rfl) rfl rfl ?_
  refine R_aload_n (i := 0) (dX8_keepIfBetter 1 rfl) rfl rfl ?_
  refine R_getI cgX8 27 (cl27 hS) 3 (Nat.le_of_ble_eq_true rfl) rfl (Or.inl tb_493) (dX8_keepIfBetter 2 rfl) ?_
  refine R_icmp_le (tgt := 27) (dX8_keepIfBetter 3 rfl) (by decide) (fun hc => ?_) (fun hc => ?_)
  · have H := ite_F H hc
    exact R_vret rfl (Nat.zero_le _) (Nat.zero_le _) (dX8_keepIfBetter 15 rfl) ⟨rfl, rfl, (Prod.mk.inj (Option.some.inj H)).2⟩
  · have H := ite_T H hc
    refine R_aload_n (i := 0) (dX8_keepIfBetter 4 rfl) rfl rfl ?_
    refine R_iload_n (i := 1) (dX8_keepIfBetter 5 rfl) rfl rfl ?_
    refine R_putI cgX8 27 (cl27 hS) 3 (Nat.le_of_ble_eq_true rfl) rfl rfl rfl rfl (Or.inl tb_493) (dX8_keepIfBetter 6 rfl) ?_
    refine R_aload_n (i := 0) (dX8_keepIfBetter 7 rfl) rfl rfl ?_
    refine R_getR cgX8 27 (cl27 hS) 1 (Nat.le_of_ble_eq_true rfl) rfl (Or.inl tb_490) (dX8_keepIfBetter 8 rfl) ?_
    refine R_iconst (dX8_keepIfBetter 9 rfl) rfl ?_
    refine R_aload_n (i := 0) (dX8_keepIfBetter 10 rfl) rfl rfl ?_
    refine R_getR cgX8 27 (cl27 hS) 2 (Nat.le_of_ble_eq_true rfl) rfl (Or.inl tb_491) (dX8_keepIfBetter 11 rfl) ?_
    refine R_iconst (dX8_keepIfBetter 12 rfl) rfl ?_
    refine R_iconst (dX8_keepIfBetter 13 rfl) rfl ?_
    refine R_copy 29 30 (cl29 hS) (cl30 hS) (by decide) (by decide) (by decide) (by decide) (by decide) tb_896 tb_898 tb_897 tb_88 (Nat.le_of_ble_eq_true rfl) (Nat.le_of_ble_eq_true rfl) (Nat.le_of_ble_eq_true rfl) (dX8_keepIfBetter 14 rfl) ?_
    exact R_vret rfl (Nat.zero_le _) (Nat.zero_le _) (dX8_keepIfBetter 15 rfl) ⟨rfl, rfl, (Prod.mk.inj (Option.some.inj H)).2⟩
def f_X8_serve_L42 (rS : Int → Int → Int → Int → Mem → Option (Int × Mem)) (x1 : Int) (x2 : Int) (x4 : Int) (x5 : Int) : Nat → Int → Mem → Option (Int × Mem)
  | 0, _, _ => none
  | n + 1, x6, M =>
    if x6 < M 3 3 then
      if rd 40 (M 28) (w32 ((w32 (x1 * 10)) + x6)) = (-1) then
        f_X8_serve_L42 rS x1 x2 x4 x5 n (w32 (x6 + 1)) M
      else
        if x4 < f_X3_priceOf x6 M then
          f_X8_serve_L42 rS x1 x2 x4 x5 n (w32 (x6 + 1)) M
        else
          ob (rS (w32 (x1 + 1)) x2 (w32 (x4 - (f_X3_priceOf x6 M))) (w32 (x5 + (rd 40 (M 28) (w32 ((w32 (x1 * 10)) + x6))))) (wr M 29 4 x1 x6)) fun r150 M151 =>
          f_X8_serve_L42 rS x1 x2 x4 x5 n (w32 (x6 + 1)) M151
    else
      some (0, M)
set_option maxHeartbeats 4000000 in
theorem t_X8_serve_L42 (l : Launch) (g : GG) (ad : Nat → Nat) (S : SW) (hS : q_ag 0 38 ad S) (dr : Nat) (hdr : 20 ≤ dr) {rS : Int → Int → Int → Int → Mem → Option (Int × Mem)} (hS_ : ∀ (b0 : Int) (b1 : Int) (b3 : Int) (b4 : Int) (M : Mem) (r : Int) (M2 : Mem), rS b0 b1 b3 b4 M = some (r, M2) → CT l g MX8_serve dr 0 0 S M [.inr (.inr (some (ad 27))), .inl b0, .inl b1, .inr (.inr (some (ad 3))), .inl b3, .inl b4] (q_ex S none M2)) (x1 : Int) (x2 : Int) (x4 : Int) (x5 : Int) {r : Int} {M' : Mem} : ∀ (n : Nat) (x6 : Int) (M : Mem), f_X8_serve_L42 rS x1 x2 x4 x5 n x6 M = some (r, M') → RW l g MX8_serve (q_rm (dr + 1) 0 0) 0 0 (q_ex S none M') 42 S M 0 0 [some (.inr (.inr (some (ad 27)))), some (.inl x1), some (.inl x2), some (.inr (.inr (some (ad 3)))), some (.inl x4), some (.inl x5), some (.inl x6), none, none] [] := by
  intro n
  induction n with
  | zero => intro x6 M H; exact absurd H (by simp [f_X8_serve_L42])
  | succ n ih =>
    intro x6 M H
    rw [f_X8_serve_L42] at H
    refine R_iload (i := 6) (dX8_serve_0 26 rfl) rfl ?_
    refine R_aload_n (i := 3) (dX8_serve_0 27 rfl) rfl rfl ?_
    refine R_getI cgX3 3 (cl3 hS) 3 (Nat.le_of_ble_eq_true rfl) rfl (Or.inr ⟨_, tb_142⟩) (dX8_serve_0 28 rfl) ?_
    refine R_icmp_ge (tgt := 123) (dX8_serve_0 29 rfl) (by decide) (fun hc => ?_) (fun hc => ?_)
    · have H := ite_F H hc
      exact R_vret rfl (Nat.zero_le _) (Nat.zero_le _) (dX8_serve_1 9 rfl) ⟨rfl, rfl, (Prod.mk.inj (Option.some.inj H)).2⟩
    · have H := ite_T H hc
      refine R_aload_n (i := 0) (dX8_serve_0 30 rfl) rfl rfl ?_
      refine R_getR cgX8 27 (cl27 hS) 0 (Nat.le_of_ble_eq_true rfl) rfl (Or.inl tb_489) (dX8_serve_0 31 rfl) ?_
      refine R_iload_n (i := 1) (dX8_serve_0 32 rfl) rfl rfl ?_
      refine R_bipush (dX8_serve_0 33 rfl) rfl rfl ?_
      refine R_imul (dX8_serve_0 34 rfl) ?_
      refine R_iload (i := 6) (dX8_serve_0 35 rfl) rfl ?_
      refine R_iadd (dX8_serve_0 36 rfl) ?_
      refine R_cS (st' := [.inl (rd 40 (M 28) (w32 ((w32 (x1 * 10)) + x6)))]) [.inr (.inr (some (ad 28))), .inl (w32 ((w32 (x1 * 10)) + x6))] [] (t_at l g S _ 28 (cl28 hS) (Nat.le_of_ble_eq_true rfl) (w32 ((w32 (x1 * 10)) + x6))) msX9_at (Or.inr ⟨_, tb_899⟩) ⟨(by show 1 + 1 ≤ dr + 1; omega), (by show 19 + 2 + 64 * (1) ≤ 64 * (dr + 1); omega)⟩ (Nat.zero_le _) (Nat.zero_le _) rfl rfl (Nat.le_of_ble_eq_true rfl) rfl (dX8_serve_0 37 rfl) ?_
      refine R_istore (i := 7) (ls' := [some (.inr (.inr (some (ad 27)))), some (.inl x1), some (.inl x2), some (.inr (.inr (some (ad 3)))), some (.inl x4), some (.inl x5), some (.inl x6), some (.inl (rd 40 (M 28) (w32 ((w32 (x1 * 10)) + x6)))), none]) (dX8_serve_0 38 rfl) (Nat.le_of_ble_eq_true rfl) (Nat.le_of_ble_eq_true rfl) rfl rfl ?_
      refine R_aload_n (i := 3) (dX8_serve_0 39 rfl) rfl rfl ?_
      refine R_iload (i := 6) (dX8_serve_0 40 rfl) rfl ?_
      refine R_cV (st' := [.inl (f_X3_priceOf x6 M)]) [.inl x6] [] (t_X3_priceOf l g ad S _ hS   x6) msX3_priceOf (Or.inl tb_900) (Or.inl ⟨3, 3, _, _, _, (cl3 hS), rfl⟩) ⟨(by show 2 + 1 ≤ dr + 1; omega), (by show 19 + 2 + 64 * (2) ≤ 64 * (dr + 1); omega)⟩ (Nat.zero_le _) (Nat.zero_le _) rfl rfl (Nat.le_of_ble_eq_true rfl) rfl (dX8_serve_0 41 rfl) ?_
      refine R_istore (i := 8) (ls' := [some (.inr (.inr (some (ad 27)))), some (.inl x1), some (.inl x2), some (.inr (.inr (some (ad 3)))), some (.inl x4), some (.inl x5), some (.inl x6), some (.inl (rd 40 (M 28) (w32 ((w32 (x1 * 10)) + x6)))), some (.inl (f_X3_priceOf x6 M))]) (dX8_serve_0 42 rfl) (Nat.le_of_ble_eq_true rfl) (Nat.le_of_ble_eq_true rfl) rfl rfl ?_
      refine R_iload (i := 7) (dX8_serve_0 43 rfl) rfl ?_
      refine R_iconst (dX8_serve_0 44 rfl) rfl ?_
      refine R_icmp_eq (tgt := 117) (dX8_serve_0 45 rfl) (by decide) (fun hc => ?_) (fun hc => ?_)
      · have H := ite_T H hc
        refine R_iinc (i := 6) (ls' := [some (.inr (.inr (some (ad 27)))), some (.inl x1), some (.inl x2), some (.inr (.inr (some (ad 3)))), some (.inl x4), some (.inl x5), some (.inl (w32 (x6 + 1))), some (.inl (rd 40 (M 28) (w32 ((w32 (x1 * 10)) + x6)))), some (.inl (f_X3_priceOf x6 M))]) (dX8_serve_1 7 rfl) rfl (Nat.le_of_ble_eq_true rfl) rfl rfl ?_
        refine R_goto (tgt := 42) (dX8_serve_1 8 rfl) (by decide) ?_
        refine R_mask [true, true, true, true, true, true, true, false, false] rfl ?_
        exact ih (w32 (x6 + 1)) M H
      · have H := ite_F H hc
        refine R_iload (i := 8) (dX8_serve_0 46 rfl) rfl ?_
        refine R_iload (i := 4) (dX8_serve_0 47 rfl) rfl ?_
        refine R_icmp_gt (tgt := 117) (dX8_serve_0 48 rfl) (by decide) (fun hc => ?_) (fun hc => ?_)
        · have H := ite_T H hc
          refine R_iinc (i := 6) (ls' := [some (.inr (.inr (some (ad 27)))), some (.inl x1), some (.inl x2), some (.inr (.inr (some (ad 3)))), some (.inl x4), some (.inl x5), some (.inl (w32 (x6 + 1))), some (.inl (rd 40 (M 28) (w32 ((w32 (x1 * 10)) + x6)))), some (.inl (f_X3_priceOf x6 M))]) (dX8_serve_1 7 rfl) rfl (Nat.le_of_ble_eq_true rfl) rfl rfl ?_
          refine R_goto (tgt := 42) (dX8_serve_1 8 rfl) (by decide) ?_
          refine R_mask [true, true, true, true, true, true, true, false, false] rfl ?_
          exact ih (w32 (x6 + 1)) M H
        · have H := ite_F H hc
          refine R_aload_n (i := 0) (dX8_serve_0 49 rfl) rfl rfl ?_
          refine R_getR cgX8 27 (cl27 hS) 1 (Nat.le_of_ble_eq_true rfl) rfl (Or.inl tb_490) (dX8_serve_0 50 rfl) ?_
          refine R_iload_n (i := 1) (dX8_serve_0 51 rfl) rfl rfl ?_
          refine R_iload (i := 6) (dX8_serve_0 52 rfl) rfl ?_
          refine R_cS (st' := []) [.inr (.inr (some (ad 29))), .inl x1, .inl x6] [] (t_put l g S _ 29 (cl29 hS) (Nat.le_of_ble_eq_true rfl) x1 x6) msX9_put (Or.inr ⟨_, tb_883⟩) ⟨(by show 1 + 1 ≤ dr + 1; omega), (by show 19 + 3 + 64 * (1) ≤ 64 * (dr + 1); omega)⟩ (Nat.zero_le _) (Nat.zero_le _) rfl rfl (Nat.le_of_ble_eq_true rfl) rfl (dX8_serve_0 53 rfl) ?_
          refine R_aload_n (i := 0) (dX8_serve_0 54 rfl) rfl rfl ?_
          refine R_iload_n (i := 1) (dX8_serve_0 55 rfl) rfl rfl ?_
          refine R_iconst (dX8_serve_0 56 rfl) rfl ?_
          refine R_iadd (dX8_serve_0 57 rfl) ?_
          refine R_iload_n (i := 2) (dX8_serve_0 58 rfl) rfl rfl ?_
          refine R_aload_n (i := 3) (dX8_serve_0 59 rfl) rfl rfl ?_
          refine R_iload (i := 4) (dX8_serve_1 0 rfl) rfl ?_
          refine R_iload (i := 8) (dX8_serve_1 1 rfl) rfl ?_
          refine R_isub (dX8_serve_1 2 rfl) ?_
          refine R_iload (i := 5) (dX8_serve_1 3 rfl) rfl ?_
          refine R_iload (i := 7) (dX8_serve_1 4 rfl) rfl ?_
          refine R_iadd (dX8_serve_1 5 rfl) ?_
          obtain ⟨r150, M151, hr, H⟩ := ob_E H
          refine R_cV (st' := []) [.inl (w32 (x1 + 1)), .inl x2, .inr (.inr (some (ad 3))), .inl (w32 (x4 - (f_X3_priceOf x6 M))), .inl (w32 (x5 + (rd 40 (M 28) (w32 ((w32 (x1 * 10)) + x6)))))] [] (hS_ (w32 (x1 + 1)) x2 (w32 (x4 - (f_X3_priceOf x6 M))) (w32 (x5 + (rd 40 (M 28) (w32 ((w32 (x1 * 10)) + x6))))) _ _ _ hr) msX8_serve (Or.inl tb_888) (Or.inl ⟨27, 8, _, _, _, (cl27 hS), rfl⟩) ⟨(by show dr + 1 ≤ dr + 1; omega), (by show 19 + 9 + 64 * (dr) ≤ 64 * (dr + 1); omega)⟩ (Nat.zero_le _) (Nat.zero_le _) rfl rfl (Nat.le_of_ble_eq_true rfl) rfl (dX8_serve_1 6 rfl) ?_
          refine R_iinc (i := 6) (ls' := [some (.inr (.inr (some (ad 27)))), some (.inl x1), some (.inl x2), some (.inr (.inr (some (ad 3)))), some (.inl x4), some (.inl x5), some (.inl (w32 (x6 + 1))), some (.inl (rd 40 (M 28) (w32 ((w32 (x1 * 10)) + x6)))), some (.inl (f_X3_priceOf x6 M))]) (dX8_serve_1 7 rfl) rfl (Nat.le_of_ble_eq_true rfl) rfl rfl ?_
          refine R_goto (tgt := 42) (dX8_serve_1 8 rfl) (by decide) ?_
          refine R_mask [true, true, true, true, true, true, true, false, false] rfl ?_
          exact ih (w32 (x6 + 1)) M151 H
def f_X8_serve (rS : Int → Int → Int → Int → Mem → Option (Int × Mem)) (x1 : Int) (x2 : Int) (x4 : Int) (x5 : Int) (M : Mem) : Option (Int × Mem) :=
  if x1 < x2 then
    if x1 < 4 then
      ob (rS (w32 (x1 + 1)) x2 x4 x5 (wr M 29 4 x1 (-1))) fun r148 M149 =>
      f_X8_serve_L42 rS
        x1 x2 x4 x5 100000 0 M149
    else
      ob (f_X8_keepIfBetter x5 M) fun r152 M153 =>
      some (0, M153)
  else
    ob (f_X8_keepIfBetter x5 M) fun r146 M147 =>
    some (0, M147)
set_option maxHeartbeats 4000000 in
theorem t_X8_serve (l : Launch) (g : GG) (ad : Nat → Nat) (S : SW) (M : Mem) (hS : q_ag 0 38 ad S) (dr : Nat) (hdr : 20 ≤ dr) {rS : Int → Int → Int → Int → Mem → Option (Int × Mem)} (hS_ : ∀ (b0 : Int) (b1 : Int) (b3 : Int) (b4 : Int) (M : Mem) (r : Int) (M2 : Mem), rS b0 b1 b3 b4 M = some (r, M2) → CT l g MX8_serve dr 0 0 S M [.inr (.inr (some (ad 27))), .inl b0, .inl b1, .inr (.inr (some (ad 3))), .inl b3, .inl b4] (q_ex S none M2)) (x1 : Int) (x2 : Int) (x4 : Int) (x5 : Int) {r : Int} {M' : Mem} (H : f_X8_serve rS x1 x2 x4 x5 M = some (r, M')) : CT l g MX8_serve (dr + 1) 0 0 S M [.inr (.inr (some (ad 27))), .inl x1, .inl x2, .inr (.inr (some (ad 3))), .inl x4, .inl x5] (q_ex S none M') := by
  unfold f_X8_serve at H
  refine CT_of (ls0 := [some (.inr (.inr (some (ad 27)))), some (.inl x1), some (.inl x2), some (.inr (.inr (some (ad 3)))), some (.inl x4), some (.inl x5), none, none, none]) (by decide +kernel) (Nat.le_of_ble_eq_true rfl) rfl ?_
  refine R_iload_n (i := 1) (dX8_serve_0 0 rfl) rfl rfl ?_
  refine R_iload_n (i := 2) (dX8_serve_0 1 rfl) rfl rfl ?_
  refine R_icmp_ge (tgt := 10) (dX8_serve_0 2 rfl) (by decide) (fun hc => ?_) (fun hc => ?_)
  · have H := ite_F H hc
    refine R_aload_n (i := 0) (dX8_serve_0 6 rfl) rfl rfl ?_
    refine R_iload (i := 5) (dX8_serve_0 7 rfl) rfl ?_
    obtain ⟨r146, M147, hr, H⟩ := ob_E H
    refine R_cV (st' := []) [.inl x5] [] (t_X8_keepIfBetter l g ad S _ hS   x5 hr) msX8_keepIfBetter (Or.inl tb_892) (Or.inl ⟨27, 8, _, _, _, (cl27 hS), rfl⟩) ⟨(by show 1 + 1 ≤ dr + 1; omega), (by show 19 + 2 + 64 * (1) ≤ 64 * (dr + 1); omega)⟩ (Nat.zero_le _) (Nat.zero_le _) rfl rfl (Nat.le_of_ble_eq_true rfl) rfl (dX8_serve_0 8 rfl) ?_
    exact R_vret rfl (Nat.zero_le _) (Nat.zero_le _) (dX8_serve_0 9 rfl) ⟨rfl, rfl, (Prod.mk.inj (Option.some.inj H)).2⟩
  · have H := ite_T H hc
    refine R_iload_n (i := 1) (dX8_serve_0 3 rfl) rfl rfl ?_
    refine R_iconst (dX8_serve_0 4 rfl) rfl ?_
    refine R_icmp_lt (tgt := 17) (dX8_serve_0 5 rfl) (by decide) (fun hc => ?_) (fun hc => ?_)
    · have H := ite_T H hc
      refine R_aload_n (i := 0) (dX8_serve_0 10 rfl) rfl rfl ?_
      refine R_getR cgX8 27 (cl27 hS) 1 (Nat.le_of_ble_eq_true rfl) rfl (Or.inl tb_490) (dX8_serve_0 11 rfl) ?_
      refine R_iload_n (i := 1) (dX8_serve_0 12 rfl) rfl rfl ?_
      refine R_iconst (dX8_serve_0 13 rfl) rfl ?_
      refine R_cS (st' := []) [.inr (.inr (some (ad 29))), .inl x1, .inl (-1)] [] (t_put l g S _ 29 (cl29 hS) (Nat.le_of_ble_eq_true rfl) x1 (-1)) msX9_put (Or.inr ⟨_, tb_883⟩) ⟨(by show 1 + 1 ≤ dr + 1; omega), (by show 19 + 3 + 64 * (1) ≤ 64 * (dr + 1); omega)⟩ (Nat.zero_le _) (Nat.zero_le _) rfl rfl (Nat.le_of_ble_eq_true rfl) rfl (dX8_serve_0 14 rfl) ?_
      refine R_aload_n (i := 0) (dX8_serve_0 15 rfl) rfl rfl ?_
      refine R_iload_n (i := 1) (dX8_serve_0 16 rfl) rfl rfl ?_
      refine R_iconst (dX8_serve_0 17 rfl) rfl ?_
      refine R_iadd (dX8_serve_0 18 rfl) ?_
      refine R_iload_n (i := 2) (dX8_serve_0 19 rfl) rfl rfl ?_
      refine R_aload_n (i := 3) (dX8_serve_0 20 rfl) rfl rfl ?_
      refine R_iload (i := 4) (dX8_serve_0 21 rfl) rfl ?_
      refine R_iload (i := 5) (dX8_serve_0 22 rfl) rfl ?_
      obtain ⟨r148, M149, hr, H⟩ := ob_E H
      refine R_cV (st' := []) [.inl (w32 (x1 + 1)), .inl x2, .inr (.inr (some (ad 3))), .inl x4, .inl x5] [] (hS_ (w32 (x1 + 1)) x2 x4 x5 _ _ _ hr) msX8_serve (Or.inl tb_888) (Or.inl ⟨27, 8, _, _, _, (cl27 hS), rfl⟩) ⟨(by show dr + 1 ≤ dr + 1; omega), (by show 19 + 9 + 64 * (dr) ≤ 64 * (dr + 1); omega)⟩ (Nat.zero_le _) (Nat.zero_le _) rfl rfl (Nat.le_of_ble_eq_true rfl) rfl (dX8_serve_0 23 rfl) ?_
      refine R_iconst (dX8_serve_0 24 rfl) rfl ?_
      refine R_istore (i := 6) (ls' := [some (.inr (.inr (some (ad 27)))), some (.inl x1), some (.inl x2), some (.inr (.inr (some (ad 3)))), some (.inl x4), some (.inl x5), some (.inl 0), none, none]) (dX8_serve_0 25 rfl) (Nat.le_of_ble_eq_true rfl) (Nat.le_of_ble_eq_true rfl) rfl rfl ?_
      exact t_X8_serve_L42 l g ad S hS dr hdr hS_ x1 x2 x4 x5  100000 0 M149 H 
    · have H := ite_F H hc
      refine R_aload_n (i := 0) (dX8_serve_0 6 rfl) rfl rfl ?_
      refine R_iload (i := 5) (dX8_serve_0 7 rfl) rfl ?_
      obtain ⟨r152, M153, hr, H⟩ := ob_E H
      refine R_cV (st' := []) [.inl x5] [] (t_X8_keepIfBetter l g ad S _ hS   x5 hr) msX8_keepIfBetter (Or.inl tb_892) (Or.inl ⟨27, 8, _, _, _, (cl27 hS), rfl⟩) ⟨(by show 1 + 1 ≤ dr + 1; omega), (by show 19 + 2 + 64 * (1) ≤ 64 * (dr + 1); omega)⟩ (Nat.zero_le _) (Nat.zero_le _) rfl rfl (Nat.le_of_ble_eq_true rfl) rfl (dX8_serve_0 8 rfl) ?_
      exact R_vret rfl (Nat.zero_le _) (Nat.zero_le _) (dX8_serve_0 9 rfl) ⟨rfl, rfl, (Prod.mk.inj (Option.some.inj H)).2⟩
def fz_X8_serve : Nat → Int → Int → Int → Int → Mem → Option (Int × Mem)
  | 0 => fun _ _ _ _ _ => none
  | n + 1 => f_X8_serve (fz_X8_serve n)
theorem tz_X8_serve (l : Launch) (g : GG) (ad : Nat → Nat) (S : SW) (hS : q_ag 0 38 ad S) : ∀ (n : Nat) (b0 b1 b2 b3 : Int) (M : Mem) (r : Int) (M2 : Mem), fz_X8_serve n b0 b1 b2 b3 M = some (r, M2) → CT l g MX8_serve (20 + 1 * n) 0 0 S M [.inr (.inr (some (ad 27))), .inl b0, .inl b1, .inr (.inr (some (ad 3))), .inl b2, .inl b3] (q_ex S none M2) := by
  intro n
  induction n with
  | zero => intro b0 b1 b2 b3 M r M2 H; cases H
  | succ n ih =>
    intro b0 b1 b2 b3 M r M2 H
    exact CT_mono (t_X8_serve l g ad S M hS (20 + 1 * n) (by omega) ih b0 b1 b2 b3 H) (by omega)
def f_X8_plan_L22 (x1 : Int) : Nat → Int → Mem → Option (Int × Mem)
  | 0, _, _ => none
  | n + 1, x4, M =>
    if x4 < x1 then
      if rd 4 (M 30) x4 = (-1) then
        f_X8_plan_L22 x1 n (w32 (x4 + 1)) (mset M 27 4 (w32 ((M 27 4) + 0)))
      else
        f_X8_plan_L22 x1 n (w32 (x4 + 1)) (mset M 27 4 (w32 ((M 27 4) + (f_X3_priceOf (rd 4 (M 30) x4) M))))
    else
      some (0, M)
set_option maxHeartbeats 4000000 in
theorem t_X8_plan_L22 (l : Launch) (g : GG) (ad : Nat → Nat) (S : SW) (hS : q_ag 0 38 ad S) (x1 : Int) {r : Int} {M' : Mem} : ∀ (n : Nat) (x4 : Int) (M : Mem), f_X8_plan_L22 x1 n x4 M = some (r, M') → RW l g MX8_plan (q_rm 27 0 0) 0 0 (q_ex S none M') 22 S M 0 0 [some (.inr (.inr (some (ad 27)))), some (.inl x1), some (.inr (.inr (some (ad 3)))), none, some (.inl x4), none] [] := by
  intro n
  induction n with
  | zero => intro x4 M H; exact absurd H (by simp [f_X8_plan_L22])
  | succ n ih =>
    intro x4 M H
    rw [f_X8_plan_L22] at H
    refine R_iload (i := 4) (dX8_plan 15 rfl) rfl ?_
    refine R_iload_n (i := 1) (dX8_plan 16 rfl) rfl rfl ?_
    refine R_icmp_ge (tgt := 70) (dX8_plan 17 rfl) (by decide) (fun hc => ?_) (fun hc => ?_)
    · have H := ite_F H hc
      exact R_vret rfl (Nat.zero_le _) (Nat.zero_le _) (dX8_plan 38 rfl) ⟨rfl, rfl, (Prod.mk.inj (Option.some.inj H)).2⟩
    · have H := ite_T H hc
      refine R_aload_n (i := 0) (dX8_plan 18 rfl) rfl rfl ?_
      refine R_getR cgX8 27 (cl27 hS) 2 (Nat.le_of_ble_eq_true rfl) rfl (Or.inl tb_491) (dX8_plan 19 rfl) ?_
      refine R_iload (i := 4) (dX8_plan 20 rfl) rfl ?_
      refine R_cS (st' := [.inl (rd 4 (M 30) x4)]) [.inr (.inr (some (ad 30))), .inl x4] [] (t_at l g S _ 30 (cl30 hS) (Nat.le_of_ble_eq_true rfl) x4) msX9_at (Or.inr ⟨_, tb_899⟩) ⟨Nat.le_of_ble_eq_true rfl, Nat.le_of_ble_eq_true rfl⟩ (Nat.zero_le _) (Nat.zero_le _) rfl rfl (Nat.le_of_ble_eq_true rfl) rfl (dX8_plan 21 rfl) ?_
      refine R_istore (i := 5) (ls' := [some (.inr (.inr (some (ad 27)))), some (.inl x1), some (.inr (.inr (some (ad 3)))), none, some (.inl x4), some (.inl (rd 4 (M 30) x4))]) (dX8_plan 22 rfl) (Nat.le_of_ble_eq_true rfl) (Nat.le_of_ble_eq_true rfl) rfl rfl ?_
      refine R_aload_n (i := 0) (dX8_plan 23 rfl) rfl rfl ?_
      refine R_dup rfl (dX8_plan 24 rfl) ?_
      refine R_getI cgX8 27 (cl27 hS) 4 (Nat.le_of_ble_eq_true rfl) rfl (Or.inl tb_495) (dX8_plan 25 rfl) ?_
      refine R_iload (i := 5) (dX8_plan 26 rfl) rfl ?_
      refine R_iconst (dX8_plan 27 rfl) rfl ?_
      refine R_icmp_ne (tgt := 54) (dX8_plan 28 rfl) (by decide) (fun hc => ?_) (fun hc => ?_)
      · have H := ite_F H hc
        refine R_aload_n (i := 2) (dX8_plan 31 rfl) rfl rfl ?_
        refine R_iload (i := 5) (dX8_plan 32 rfl) rfl ?_
        refine R_cV (st' := [.inl (f_X3_priceOf (rd 4 (M 30) x4) M), .inl (M 27 4), .inr (.inr (some (ad 27)))]) [.inl (rd 4 (M 30) x4)] [.inl (M 27 4), .inr (.inr (some (ad 27)))] (t_X3_priceOf l g ad S _ hS   (rd 4 (M 30) x4)) msX3_priceOf (Or.inl tb_900) (Or.inl ⟨3, 3, _, _, _, (cl3 hS), rfl⟩) ⟨Nat.le_of_ble_eq_true rfl, Nat.le_of_ble_eq_true rfl⟩ (Nat.zero_le _) (Nat.zero_le _) rfl rfl (Nat.le_of_ble_eq_true rfl) rfl (dX8_plan 33 rfl) ?_
        refine R_iadd (dX8_plan 34 rfl) ?_
        refine R_putI cgX8 27 (cl27 hS) 4 (Nat.le_of_ble_eq_true rfl) rfl rfl rfl rfl (Or.inl tb_495) (dX8_plan 35 rfl) ?_
        refine R_iinc (i := 4) (ls' := [some (.inr (.inr (some (ad 27)))), some (.inl x1), some (.inr (.inr (some (ad 3)))), none, some (.inl (w32 (x4 + 1))), some (.inl (rd 4 (M 30) x4))]) (dX8_plan 36 rfl) rfl (Nat.le_of_ble_eq_true rfl) rfl rfl ?_
        refine R_goto (tgt := 22) (dX8_plan 37 rfl) (by decide) ?_
        refine R_mask [true, true, true, false, true, false] rfl ?_
        exact ih (w32 (x4 + 1)) (mset M 27 4 (w32 ((M 27 4) + (f_X3_priceOf (rd 4 (M 30) x4) M)))) H
      · have H := ite_T H hc
        refine R_iconst (dX8_plan 29 rfl) rfl ?_
        refine R_goto (tgt := 60) (dX8_plan 30 rfl) (by decide) ?_
        refine R_iadd (dX8_plan 34 rfl) ?_
        refine R_putI cgX8 27 (cl27 hS) 4 (Nat.le_of_ble_eq_true rfl) rfl rfl rfl rfl (Or.inl tb_495) (dX8_plan 35 rfl) ?_
        refine R_iinc (i := 4) (ls' := [some (.inr (.inr (some (ad 27)))), some (.inl x1), some (.inr (.inr (some (ad 3)))), none, some (.inl (w32 (x4 + 1))), some (.inl (rd 4 (M 30) x4))]) (dX8_plan 36 rfl) rfl (Nat.le_of_ble_eq_true rfl) rfl rfl ?_
        refine R_goto (tgt := 22) (dX8_plan 37 rfl) (by decide) ?_
        refine R_mask [true, true, true, false, true, false] rfl ?_
        exact ih (w32 (x4 + 1)) (mset M 27 4 (w32 ((M 27 4) + 0))) H
def f_X8_plan (x1 : Int) (x3 : Int) (M : Mem) : Option (Int × Mem) :=
  ob (fz_X8_serve 6 0 x1 x3 0 (mset M 27 3 (-1))) fun r154 M155 =>
  f_X8_plan_L22
    x1 100000 0 (mset M155 27 4 0)
set_option maxHeartbeats 4000000 in
theorem t_X8_plan (l : Launch) (g : GG) (ad : Nat → Nat) (S : SW) (M : Mem) (hS : q_ag 0 38 ad S) (x1 : Int) (x3 : Int) {r : Int} {M' : Mem} (H : f_X8_plan x1 x3 M = some (r, M')) : CT l g MX8_plan 27 0 0 S M [.inr (.inr (some (ad 27))), .inl x1, .inr (.inr (some (ad 3))), .inl x3] (q_ex S none M') := by
  unfold f_X8_plan at H
  refine CT_of (ls0 := [some (.inr (.inr (some (ad 27)))), some (.inl x1), some (.inr (.inr (some (ad 3)))), some (.inl x3), none, none]) (by decide +kernel) (Nat.le_of_ble_eq_true rfl) rfl ?_
  refine R_aload_n (i := 0) (dX8_plan 0 rfl) rfl rfl ?_
  refine R_iconst (dX8_plan 1 rfl) rfl ?_
  refine R_putI cgX8 27 (cl27 hS) 3 (Nat.le_of_ble_eq_true rfl) rfl rfl rfl rfl (Or.inl tb_493) (dX8_plan 2 rfl) ?_
  refine R_aload_n (i := 0) (dX8_plan 3 rfl) rfl rfl ?_
  refine R_iconst (dX8_plan 4 rfl) rfl ?_
  refine R_iload_n (i := 1) (dX8_plan 5 rfl) rfl rfl ?_
  refine R_aload_n (i := 2) (dX8_plan 6 rfl) rfl rfl ?_
  refine R_iload_n (i := 3) (dX8_plan 7 rfl) rfl rfl ?_
  refine R_iconst (dX8_plan 8 rfl) rfl ?_
  obtain ⟨r154, M155, hr, H⟩ := ob_E H
  refine R_cV (st' := []) [.inl 0, .inl x1, .inr (.inr (some (ad 3))), .inl x3, .inl 0] [] (tz_X8_serve l g ad S hS 6 0 x1 x3 0 _ _ _ hr) msX8_serve (Or.inl tb_888) (Or.inl ⟨27, 8, _, _, _, (cl27 hS), rfl⟩) ⟨Nat.le_of_ble_eq_true rfl, Nat.le_of_ble_eq_true rfl⟩ (Nat.zero_le _) (Nat.zero_le _) rfl rfl (Nat.le_of_ble_eq_true rfl) rfl (dX8_plan 9 rfl) ?_
  refine R_aload_n (i := 0) (dX8_plan 10 rfl) rfl rfl ?_
  refine R_iconst (dX8_plan 11 rfl) rfl ?_
  refine R_putI cgX8 27 (cl27 hS) 4 (Nat.le_of_ble_eq_true rfl) rfl rfl rfl rfl (Or.inl tb_495) (dX8_plan 12 rfl) ?_
  refine R_iconst (dX8_plan 13 rfl) rfl ?_
  refine R_istore (i := 4) (ls' := [some (.inr (.inr (some (ad 27)))), some (.inl x1), some (.inr (.inr (some (ad 3)))), some (.inl x3), some (.inl 0), none]) (dX8_plan 14 rfl) (Nat.le_of_ble_eq_true rfl) (Nat.le_of_ble_eq_true rfl) rfl rfl ?_
  refine R_mask [true, true, true, false, true, false] rfl ?_
  exact t_X8_plan_L22 l g ad S hS x1  100000 0 (mset M155 27 4 0) H 
def f_X9_addLine (x1 : Int) (x2 : Int) (M : Mem) : Option (Int × Mem) :=
  ob (f_X3_add x1 x2 (mset M 0 12 1)) fun r156 M157 =>
  some (r156, M157)
set_option maxHeartbeats 4000000 in
theorem t_X9_addLine (l : Launch) (g : GG) (ad : Nat → Nat) (S : SW) (M : Mem) (hS : q_ag 0 38 ad S) (x1 : Int) (x2 : Int) {r : Int} {M' : Mem} (H : f_X9_addLine x1 x2 M = some (r, M')) : CT l g MX9_addLine 5 0 0 S M [.inr (.inr (some (ad 0))), .inl x1, .inl x2] (q_ex S (some (.inl r)) M') := by
  unfold f_X9_addLine at H
  refine CT_of (ls0 := [some (.inr (.inr (some (ad 0)))), some (.inl x1), some (.inl x2)]) (by decide +kernel) (Nat.le_of_ble_eq_true rfl) rfl ?_
  refine R_aload_n (i := 0) (dX9_addLine 0 rfl) rfl rfl ?_
  refine R_iconst (dX9_addLine 1 rfl) rfl ?_
  refine R_putI cgX9 0 (cl0 hS) 12 (Nat.le_of_ble_eq_true rfl) rfl (by decide +kernel) (by decide +kernel) rfl (Or.inl tb_565) (dX9_addLine 2 rfl) ?_
  refine R_aload_n (i := 0) (dX9_addLine 3 rfl) rfl rfl ?_
  refine R_getR cgX9 0 (cl0 hS) 1 (Nat.le_of_ble_eq_true rfl) rfl (Or.inl tb_554) (dX9_addLine 4 rfl) ?_
  refine R_aload_n (i := 0) (dX9_addLine 5 rfl) rfl rfl ?_
  refine R_getR cgX9 0 (cl0 hS) 0 (Nat.le_of_ble_eq_true rfl) rfl (Or.inl tb_553) (dX9_addLine 6 rfl) ?_
  refine R_iload_n (i := 1) (dX9_addLine 7 rfl) rfl rfl ?_
  refine R_iload_n (i := 2) (dX9_addLine 8 rfl) rfl rfl ?_
  obtain ⟨r156, M157, hr, H⟩ := ob_E H
  refine R_cV (st' := [.inl r156]) [.inr (.inr (some (ad 1))), .inl x1, .inl x2] [] (t_X3_add l g ad S _ hS   x1 x2 hr) msX3_add (Or.inl tb_615) (Or.inl ⟨3, 3, _, _, _, (cl3 hS), rfl⟩) ⟨Nat.le_of_ble_eq_true rfl, Nat.le_of_ble_eq_true rfl⟩ (Nat.zero_le _) (Nat.zero_le _) rfl rfl (Nat.le_of_ble_eq_true rfl) rfl (dX9_addLine 9 rfl) ?_
  exact R_iret rfl rfl (Nat.zero_le _) (Nat.zero_le _) (dX9_addLine 10 rfl) ⟨congrArg (fun z => some (Sum.inl z)) (Prod.mk.inj (Option.some.inj H)).1, rfl, (Prod.mk.inj (Option.some.inj H)).2⟩
def f_X9_line (x1 : Int) (x2 : Int) (M : Mem) : Option (Int × Mem) :=
  if f_X3_mayStand x1 x2 = 0 then
    some ((-2), M)
  else
    if M 3 3 < 10 then
      ob (f_X9_addLine x1 x2 M) fun r158 M159 =>
      some (r158, M159)
    else
      some ((-4), M)
set_option maxHeartbeats 4000000 in
theorem t_X9_line (l : Launch) (g : GG) (ad : Nat → Nat) (S : SW) (M : Mem) (hS : q_ag 0 38 ad S) (x1 : Int) (x2 : Int) {r : Int} {M' : Mem} (H : f_X9_line x1 x2 M = some (r, M')) : CT l g MX9_line 6 0 0 S M [.inr (.inr (some (ad 0))), .inl x1, .inl x2] (q_ex S (some (.inl r)) M') := by
  unfold f_X9_line at H
  refine CT_of (ls0 := [some (.inr (.inr (some (ad 0)))), some (.inl x1), some (.inl x2)]) (by decide +kernel) (Nat.le_of_ble_eq_true rfl) rfl ?_
  refine R_iload_n (i := 1) (dX9_line 0 rfl) rfl rfl ?_
  refine R_iload_n (i := 2) (dX9_line 1 rfl) rfl rfl ?_
  refine R_cS (st' := [.inl (f_X3_mayStand x1 x2)]) [.inl x1, .inl x2] [] (t_X3_mayStand l g ad S _ hS   x1 x2) msX3_mayStand (Or.inl tb_597) ⟨Nat.le_of_ble_eq_true rfl, Nat.le_of_ble_eq_true rfl⟩ (Nat.zero_le _) (Nat.zero_le _) rfl rfl (Nat.le_of_ble_eq_true rfl) rfl (dX9_line 2 rfl) ?_
  refine R_if_ne (tgt := 11) (dX9_line 3 rfl) (by decide) (fun hc => ?_) (fun hc => ?_)
  · have H := ite_F H hc
    refine R_aload_n (i := 0) (dX9_line 6 rfl) rfl rfl ?_
    refine R_getR cgX9 0 (cl0 hS) 1 (Nat.le_of_ble_eq_true rfl) rfl (Or.inl tb_554) (dX9_line 7 rfl) ?_
    refine R_getI cgX3 3 (cl3 hS) 3 (Nat.le_of_ble_eq_true rfl) rfl (Or.inr ⟨_, tb_140⟩) (dX9_line 8 rfl) ?_
    refine R_bipush (dX9_line 9 rfl) rfl rfl ?_
    refine R_icmp_lt (tgt := 26) (dX9_line 10 rfl) (by decide) (fun hc => ?_) (fun hc => ?_)
    · have H := ite_T H hc
      refine R_aload_n (i := 0) (dX9_line 13 rfl) rfl rfl ?_
      refine R_iload_n (i := 1) (dX9_line 14 rfl) rfl rfl ?_
      refine R_iload_n (i := 2) (dX9_line 15 rfl) rfl rfl ?_
      obtain ⟨r158, M159, hr, H⟩ := ob_E H
      refine R_cV (st' := [.inl r158]) [.inl x1, .inl x2] [] (t_X9_addLine l g ad S _ hS   x1 x2 hr) msX9_addLine (Or.inl tb_611) (Or.inl ⟨0, 9, _, _, _, (cl0 hS), rfl⟩) ⟨Nat.le_of_ble_eq_true rfl, Nat.le_of_ble_eq_true rfl⟩ (Nat.zero_le _) (Nat.zero_le _) rfl rfl (Nat.le_of_ble_eq_true rfl) rfl (dX9_line 16 rfl) ?_
      exact R_iret rfl rfl (Nat.zero_le _) (Nat.zero_le _) (dX9_line 17 rfl) ⟨congrArg (fun z => some (Sum.inl z)) (Prod.mk.inj (Option.some.inj H)).1, rfl, (Prod.mk.inj (Option.some.inj H)).2⟩
    · have H := ite_F H hc
      refine R_bipush (dX9_line 11 rfl) rfl rfl ?_
      exact R_iret rfl rfl (Nat.zero_le _) (Nat.zero_le _) (dX9_line 12 rfl) ⟨congrArg (fun z => some (Sum.inl z)) (Prod.mk.inj (Option.some.inj H)).1, rfl, (Prod.mk.inj (Option.some.inj H)).2⟩
  · have H := ite_T H hc
    refine R_bipush (dX9_line 4 rfl) rfl rfl ?_
    exact R_iret rfl rfl (Nat.zero_le _) (Nat.zero_le _) (dX9_line 5 rfl) ⟨congrArg (fun z => some (Sum.inl z)) (Prod.mk.inj (Option.some.inj H)).1, rfl, (Prod.mk.inj (Option.some.inj H)).2⟩
def f_X9_isLine (x1 : Int) (M : Mem) : Int :=
  f_X9_within x1 0 (w32 ((M 3 3) - 1))
set_option maxHeartbeats 4000000 in
theorem t_X9_isLine (l : Launch) (g : GG) (ad : Nat → Nat) (S : SW) (M : Mem) (hS : q_ag 0 38 ad S) (x1 : Int) : CT l g MX9_isLine 2 0 0 S M [.inr (.inr (some (ad 0))), .inl x1] (q_ex S (some (.inl (f_X9_isLine x1 M))) M) := by
  obtain ⟨r, H⟩ : ∃ r, f_X9_isLine x1 M = r := ⟨_, rfl⟩
  rw [H]
  unfold f_X9_isLine at H
  refine CT_of (ls0 := [some (.inr (.inr (some (ad 0)))), some (.inl x1)]) (by decide +kernel) (Nat.le_of_ble_eq_true rfl) rfl ?_
  refine R_iload_n (i := 1) (dX9_isLine 0 rfl) rfl rfl ?_
  refine R_iconst (dX9_isLine 1 rfl) rfl ?_
  refine R_aload_n (i := 0) (dX9_isLine 2 rfl) rfl rfl ?_
  refine R_getR cgX9 0 (cl0 hS) 1 (Nat.le_of_ble_eq_true rfl) rfl (Or.inl tb_554) (dX9_isLine 3 rfl) ?_
  refine R_getI cgX3 3 (cl3 hS) 3 (Nat.le_of_ble_eq_true rfl) rfl (Or.inr ⟨_, tb_140⟩) (dX9_isLine 4 rfl) ?_
  refine R_iconst (dX9_isLine 5 rfl) rfl ?_
  refine R_isub (dX9_isLine 6 rfl) ?_
  refine R_cS (st' := [.inl (f_X9_within x1 0 (w32 ((M 3 3) - 1)))]) [.inl x1, .inl 0, .inl (w32 ((M 3 3) - 1))] [] (t_X9_within l g S _   x1 0 (w32 ((M 3 3) - 1))) msX9_within (Or.inl tb_603) ⟨Nat.le_of_ble_eq_true rfl, Nat.le_of_ble_eq_true rfl⟩ (Nat.zero_le _) (Nat.zero_le _) rfl rfl (Nat.le_of_ble_eq_true rfl) rfl (dX9_isLine 7 rfl) ?_
  exact R_iret rfl (q_nbz (z_X9_within x1 0 (w32 ((M 3 3) - 1)))) (Nat.zero_le _) (Nat.zero_le _) (dX9_isLine 8 rfl) ⟨congrArg (fun z => some (Sum.inl z)) H, rfl, rfl⟩
theorem z_X9_isLine (x1 : Int) (M : Mem) : f_X9_isLine x1 M = 0 ∨ f_X9_isLine x1 M = 1 := by
  unfold f_X9_isLine
  (repeat' split) <;> first | exact Or.inl rfl | exact Or.inr rfl | exact z_X9_within ..
def f_X9_lineTold (x1 : Int) (x2 : Int) (M : Mem) : Int :=
  if f_X9_isLine x1 M = 0 then
    (-5)
  else
    if f_X9_within x2 0 1 = 0 then
      (-7)
    else
      if x2 = 0 then
        f_X3_signsOf x1 M
      else
        f_X3_priceOf x1 M
set_option maxHeartbeats 4000000 in
theorem t_X9_lineTold (l : Launch) (g : GG) (ad : Nat → Nat) (S : SW) (M : Mem) (hS : q_ag 0 38 ad S) (x1 : Int) (x2 : Int) : CT l g MX9_lineTold 3 0 0 S M [.inr (.inr (some (ad 0))), .inl x1, .inl x2] (q_ex S (some (.inl (f_X9_lineTold x1 x2 M))) M) := by
  obtain ⟨r, H⟩ : ∃ r, f_X9_lineTold x1 x2 M = r := ⟨_, rfl⟩
  rw [H]
  unfold f_X9_lineTold at H
  refine CT_of (ls0 := [some (.inr (.inr (some (ad 0)))), some (.inl x1), some (.inl x2)]) (by decide +kernel) (Nat.le_of_ble_eq_true rfl) rfl ?_
  refine R_aload_n (i := 0) (dX9_lineTold 0 rfl) rfl rfl ?_
  refine R_iload_n (i := 1) (dX9_lineTold 1 rfl) rfl rfl ?_
  refine R_cV (st' := [.inl (f_X9_isLine x1 M)]) [.inl x1] [] (t_X9_isLine l g ad S _ hS   x1) msX9_isLine (Or.inl tb_632) (Or.inl ⟨0, 9, _, _, _, (cl0 hS), rfl⟩) ⟨Nat.le_of_ble_eq_true rfl, Nat.le_of_ble_eq_true rfl⟩ (Nat.zero_le _) (Nat.zero_le _) rfl rfl (Nat.le_of_ble_eq_true rfl) rfl (dX9_lineTold 2 rfl) ?_
  refine R_if_ne (tgt := 11) (dX9_lineTold 3 rfl) (by decide) (fun hc => ?_) (fun hc => ?_)
  · have H := ite_F H hc
    refine R_iload_n (i := 2) (dX9_lineTold 6 rfl) rfl rfl ?_
    refine R_iconst (dX9_lineTold 7 rfl) rfl ?_
    refine R_iconst (dX9_lineTold 8 rfl) rfl ?_
    refine R_cS (st' := [.inl (f_X9_within x2 0 1)]) [.inl x2, .inl 0, .inl 1] [] (t_X9_within l g S _   x2 0 1) msX9_within (Or.inl tb_603) ⟨Nat.le_of_ble_eq_true rfl, Nat.le_of_ble_eq_true rfl⟩ (Nat.zero_le _) (Nat.zero_le _) rfl rfl (Nat.le_of_ble_eq_true rfl) rfl (dX9_lineTold 9 rfl) ?_
    refine R_if_ne (tgt := 23) (dX9_lineTold 10 rfl) (by decide) (fun hc => ?_) (fun hc => ?_)
    · have H := ite_F H hc
      refine R_iload_n (i := 2) (dX9_lineTold 13 rfl) rfl rfl ?_
      refine R_if_ne (tgt := 38) (dX9_lineTold 14 rfl) (by decide) (fun hc => ?_) (fun hc => ?_)
      · have H := ite_F H hc
        refine R_aload_n (i := 0) (dX9_lineTold 20 rfl) rfl rfl ?_
        refine R_getR cgX9 0 (cl0 hS) 1 (Nat.le_of_ble_eq_true rfl) rfl (Or.inl tb_554) (dX9_lineTold 21 rfl) ?_
        refine R_iload_n (i := 1) (dX9_lineTold 22 rfl) rfl rfl ?_
        refine R_cV (st' := [.inl (f_X3_priceOf x1 M)]) [.inl x1] [] (t_X3_priceOf l g ad S _ hS   x1) msX3_priceOf (Or.inl tb_641) (Or.inl ⟨3, 3, _, _, _, (cl3 hS), rfl⟩) ⟨Nat.le_of_ble_eq_true rfl, Nat.le_of_ble_eq_true rfl⟩ (Nat.zero_le _) (Nat.zero_le _) rfl rfl (Nat.le_of_ble_eq_true rfl) rfl (dX9_lineTold 23 rfl) ?_
        exact R_iret rfl rfl (Nat.zero_le _) (Nat.zero_le _) (dX9_lineTold 24 rfl) ⟨congrArg (fun z => some (Sum.inl z)) H, rfl, rfl⟩
      · have H := ite_T H hc
        refine R_aload_n (i := 0) (dX9_lineTold 15 rfl) rfl rfl ?_
        refine R_getR cgX9 0 (cl0 hS) 1 (Nat.le_of_ble_eq_true rfl) rfl (Or.inl tb_554) (dX9_lineTold 16 rfl) ?_
        refine R_iload_n (i := 1) (dX9_lineTold 17 rfl) rfl rfl ?_
        refine R_cV (st' := [.inl (f_X3_signsOf x1 M)]) [.inl x1] [] (t_X3_signsOf l g ad S _ hS   x1) msX3_signsOf (Or.inl tb_636) (Or.inl ⟨3, 3, _, _, _, (cl3 hS), rfl⟩) ⟨Nat.le_of_ble_eq_true rfl, Nat.le_of_ble_eq_true rfl⟩ (Nat.zero_le _) (Nat.zero_le _) rfl rfl (Nat.le_of_ble_eq_true rfl) rfl (dX9_lineTold 18 rfl) ?_
        refine R_goto (tgt := 46) (dX9_lineTold 19 rfl) (by decide) ?_
        exact R_iret rfl rfl (Nat.zero_le _) (Nat.zero_le _) (dX9_lineTold 24 rfl) ⟨congrArg (fun z => some (Sum.inl z)) H, rfl, rfl⟩
    · have H := ite_T H hc
      refine R_bipush (dX9_lineTold 11 rfl) rfl rfl ?_
      exact R_iret rfl rfl (Nat.zero_le _) (Nat.zero_le _) (dX9_lineTold 12 rfl) ⟨congrArg (fun z => some (Sum.inl z)) H, rfl, rfl⟩
  · have H := ite_T H hc
    refine R_bipush (dX9_lineTold 4 rfl) rfl rfl ?_
    exact R_iret rfl rfl (Nat.zero_le _) (Nat.zero_le _) (dX9_lineTold 5 rfl) ⟨congrArg (fun z => some (Sum.inl z)) H, rfl, rfl⟩
def f_X9_set (x1 : Int) (x2 : Int) (M : Mem) : Option (Int × Mem) :=
  if f_X9_isLine x1 M = 0 then
    some ((-5), M)
  else
    if f_X9_within x2 1 99 = 0 then
      some ((-7), M)
    else
      some (f_X3_priceOf x1 M, (mset (wr M 5 10 x1 x2) 0 12 1))
set_option maxHeartbeats 4000000 in
theorem t_X9_set (l : Launch) (g : GG) (ad : Nat → Nat) (S : SW) (M : Mem) (hS : q_ag 0 38 ad S) (x1 : Int) (x2 : Int) {r : Int} {M' : Mem} (H : f_X9_set x1 x2 M = some (r, M')) : CT l g MX9_set 3 0 0 S M [.inr (.inr (some (ad 0))), .inl x1, .inl x2] (q_ex S (some (.inl r)) M') := by
  unfold f_X9_set at H
  refine CT_of (ls0 := [some (.inr (.inr (some (ad 0)))), some (.inl x1), some (.inl x2), none]) (by decide +kernel) (Nat.le_of_ble_eq_true rfl) rfl ?_
  refine R_aload_n (i := 0) (dX9_set 0 rfl) rfl rfl ?_
  refine R_iload_n (i := 1) (dX9_set 1 rfl) rfl rfl ?_
  refine R_cV (st' := [.inl (f_X9_isLine x1 M)]) [.inl x1] [] (t_X9_isLine l g ad S _ hS   x1) msX9_isLine (Or.inl tb_632) (Or.inl ⟨0, 9, _, _, _, (cl0 hS), rfl⟩) ⟨Nat.le_of_ble_eq_true rfl, Nat.le_of_ble_eq_true rfl⟩ (Nat.zero_le _) (Nat.zero_le _) rfl rfl (Nat.le_of_ble_eq_true rfl) rfl (dX9_set 2 rfl) ?_
  refine R_if_ne (tgt := 11) (dX9_set 3 rfl) (by decide) (fun hc => ?_) (fun hc => ?_)
  · have H := ite_F H hc
    refine R_iload_n (i := 2) (dX9_set 6 rfl) rfl rfl ?_
    refine R_iconst (dX9_set 7 rfl) rfl ?_
    refine R_bipush (dX9_set 8 rfl) rfl rfl ?_
    refine R_cS (st' := [.inl (f_X9_within x2 1 99)]) [.inl x2, .inl 1, .inl 99] [] (t_X9_within l g S _   x2 1 99) msX9_within (Or.inl tb_603) ⟨Nat.le_of_ble_eq_true rfl, Nat.le_of_ble_eq_true rfl⟩ (Nat.zero_le _) (Nat.zero_le _) rfl rfl (Nat.le_of_ble_eq_true rfl) rfl (dX9_set 9 rfl) ?_
    refine R_if_ne (tgt := 24) (dX9_set 10 rfl) (by decide) (fun hc => ?_) (fun hc => ?_)
    · have H := ite_F H hc
      refine R_aload_n (i := 0) (dX9_set 13 rfl) rfl rfl ?_
      refine R_getR cgX9 0 (cl0 hS) 1 (Nat.le_of_ble_eq_true rfl) rfl (Or.inl tb_554) (dX9_set 14 rfl) ?_
      refine R_iload_n (i := 1) (dX9_set 15 rfl) rfl rfl ?_
      refine R_cV (st' := [.inl (f_X3_priceOf x1 M)]) [.inl x1] [] (t_X3_priceOf l g ad S _ hS   x1) msX3_priceOf (Or.inl tb_641) (Or.inl ⟨3, 3, _, _, _, (cl3 hS), rfl⟩) ⟨Nat.le_of_ble_eq_true rfl, Nat.le_of_ble_eq_true rfl⟩ (Nat.zero_le _) (Nat.zero_le _) rfl rfl (Nat.le_of_ble_eq_true rfl) rfl (dX9_set 16 rfl) ?_
      refine R_istore_n (i := 3) (ls' := [some (.inr (.inr (some (ad 0)))), some (.inl x1), some (.inl x2), some (.inl (f_X3_priceOf x1 M))]) (dX9_set 17 rfl) rfl (Nat.le_of_ble_eq_true rfl) (Nat.le_of_ble_eq_true rfl) rfl rfl ?_
      refine R_aload_n (i := 0) (dX9_set 18 rfl) rfl rfl ?_
      refine R_getR cgX9 0 (cl0 hS) 1 (Nat.le_of_ble_eq_true rfl) rfl (Or.inl tb_554) (dX9_set 19 rfl) ?_
      refine R_getR cgX3 3 (cl3 hS) 1 (Nat.le_of_ble_eq_true rfl) rfl (Or.inr ⟨_, tb_138⟩) (dX9_set 20 rfl) ?_
      refine R_iload_n (i := 1) (dX9_set 21 rfl) rfl rfl ?_
      refine R_iload_n (i := 2) (dX9_set 22 rfl) rfl rfl ?_
      refine R_cS (st' := []) [.inr (.inr (some (ad 5))), .inl x1, .inl x2] [] (t_put l g S _ 5 (cl5 hS) (Nat.le_of_ble_eq_true rfl) x1 x2) msX9_put (Or.inl tb_649) ⟨Nat.le_of_ble_eq_true rfl, Nat.le_of_ble_eq_true rfl⟩ (Nat.zero_le _) (Nat.zero_le _) rfl rfl (Nat.le_of_ble_eq_true rfl) rfl (dX9_set 23 rfl) ?_
      refine R_aload_n (i := 0) (dX9_set 24 rfl) rfl rfl ?_
      refine R_iconst (dX9_set 25 rfl) rfl ?_
      refine R_putI cgX9 0 (cl0 hS) 12 (Nat.le_of_ble_eq_true rfl) rfl (by decide +kernel) (by decide +kernel) rfl (Or.inl tb_565) (dX9_set 26 rfl) ?_
      refine R_iload_n (i := 3) (dX9_set 27 rfl) rfl rfl ?_
      exact R_iret rfl rfl (Nat.zero_le _) (Nat.zero_le _) (dX9_set 28 rfl) ⟨congrArg (fun z => some (Sum.inl z)) (Prod.mk.inj (Option.some.inj H)).1, rfl, (Prod.mk.inj (Option.some.inj H)).2⟩
    · have H := ite_T H hc
      refine R_bipush (dX9_set 11 rfl) rfl rfl ?_
      exact R_iret rfl rfl (Nat.zero_le _) (Nat.zero_le _) (dX9_set 12 rfl) ⟨congrArg (fun z => some (Sum.inl z)) (Prod.mk.inj (Option.some.inj H)).1, rfl, (Prod.mk.inj (Option.some.inj H)).2⟩
  · have H := ite_T H hc
    refine R_bipush (dX9_set 4 rfl) rfl rfl ?_
    exact R_iret rfl rfl (Nat.zero_le _) (Nat.zero_le _) (dX9_set 5 rfl) ⟨congrArg (fun z => some (Sum.inl z)) (Prod.mk.inj (Option.some.inj H)).1, rfl, (Prod.mk.inj (Option.some.inj H)).2⟩
def f_X9_guest (x1 : Int) (M : Mem) : Option (Int × Mem) :=
  if f_X9_isParts x1 = 0 then
    some ((-2), M)
  else
    if M 0 9 < 4 then
      some (w32 (((mset (wr M 37 4 (M 0 9) x1) 0 9 (w32 (((wr M 37 4 (M 0 9) x1) 0 9) + 1))) 0 9) - 1), (mset (wr M 37 4 (M 0 9) x1) 0 9 (w32 (((wr M 37 4 (M 0 9) x1) 0 9) + 1))))
    else
      some ((-4), M)
set_option maxHeartbeats 4000000 in
theorem t_X9_guest (l : Launch) (g : GG) (ad : Nat → Nat) (S : SW) (M : Mem) (hS : q_ag 0 38 ad S) (x1 : Int) {r : Int} {M' : Mem} (H : f_X9_guest x1 M = some (r, M')) : CT l g MX9_guest 3 0 0 S M [.inr (.inr (some (ad 0))), .inl x1] (q_ex S (some (.inl r)) M') := by
  unfold f_X9_guest at H
  refine CT_of (ls0 := [some (.inr (.inr (some (ad 0)))), some (.inl x1)]) (by decide +kernel) (Nat.le_of_ble_eq_true rfl) rfl ?_
  refine R_iload_n (i := 1) (dX9_guest 0 rfl) rfl rfl ?_
  refine R_cS (st' := [.inl (f_X9_isParts x1)]) [.inl x1] [] (t_X9_isParts l g ad S _ hS   x1) msX9_isParts (Or.inl tb_654) ⟨Nat.le_of_ble_eq_true rfl, Nat.le_of_ble_eq_true rfl⟩ (Nat.zero_le _) (Nat.zero_le _) rfl rfl (Nat.le_of_ble_eq_true rfl) rfl (dX9_guest 1 rfl) ?_
  refine R_if_ne (tgt := 10) (dX9_guest 2 rfl) (by decide) (fun hc => ?_) (fun hc => ?_)
  · have H := ite_F H hc
    refine R_aload_n (i := 0) (dX9_guest 5 rfl) rfl rfl ?_
    refine R_getI cgX9 0 (cl0 hS) 9 (Nat.le_of_ble_eq_true rfl) rfl (Or.inl tb_562) (dX9_guest 6 rfl) ?_
    refine R_iconst (dX9_guest 7 rfl) rfl ?_
    refine R_icmp_lt (tgt := 21) (dX9_guest 8 rfl) (by decide) (fun hc => ?_) (fun hc => ?_)
    · have H := ite_T H hc
      refine R_aload_n (i := 0) (dX9_guest 11 rfl) rfl rfl ?_
      refine R_getR cgX9 0 (cl0 hS) 8 (Nat.le_of_ble_eq_true rfl) rfl (Or.inl tb_561) (dX9_guest 12 rfl) ?_
      refine R_aload_n (i := 0) (dX9_guest 13 rfl) rfl rfl ?_
      refine R_getI cgX9 0 (cl0 hS) 9 (Nat.le_of_ble_eq_true rfl) rfl (Or.inl tb_562) (dX9_guest 14 rfl) ?_
      refine R_iload_n (i := 1) (dX9_guest 15 rfl) rfl rfl ?_
      refine R_cS (st' := []) [.inr (.inr (some (ad 37))), .inl (M 0 9), .inl x1] [] (t_put l g S _ 37 (cl37 hS) (Nat.le_of_ble_eq_true rfl) (M 0 9) x1) msX9_put (Or.inl tb_649) ⟨Nat.le_of_ble_eq_true rfl, Nat.le_of_ble_eq_true rfl⟩ (Nat.zero_le _) (Nat.zero_le _) rfl rfl (Nat.le_of_ble_eq_true rfl) rfl (dX9_guest 16 rfl) ?_
      refine R_aload_n (i := 0) (dX9_guest 17 rfl) rfl rfl ?_
      refine R_dup rfl (dX9_guest 18 rfl) ?_
      refine R_getI cgX9 0 (cl0 hS) 9 (Nat.le_of_ble_eq_true rfl) rfl (Or.inl tb_562) (dX9_guest 19 rfl) ?_
      refine R_iconst (dX9_guest 20 rfl) rfl ?_
      refine R_iadd (dX9_guest 21 rfl) ?_
      refine R_putI cgX9 0 (cl0 hS) 9 (Nat.le_of_ble_eq_true rfl) rfl rfl rfl rfl (Or.inl tb_562) (dX9_guest 22 rfl) ?_
      refine R_aload_n (i := 0) (dX9_guest 23 rfl) rfl rfl ?_
      refine R_getI cgX9 0 (cl0 hS) 9 (Nat.le_of_ble_eq_true rfl) rfl (Or.inl tb_562) (dX9_guest 24 rfl) ?_
      refine R_iconst (dX9_guest 25 rfl) rfl ?_
      refine R_isub (dX9_guest 26 rfl) ?_
      exact R_iret rfl rfl (Nat.zero_le _) (Nat.zero_le _) (dX9_guest 27 rfl) ⟨congrArg (fun z => some (Sum.inl z)) (Prod.mk.inj (Option.some.inj H)).1, rfl, (Prod.mk.inj (Option.some.inj H)).2⟩
    · have H := ite_F H hc
      refine R_bipush (dX9_guest 9 rfl) rfl rfl ?_
      exact R_iret rfl rfl (Nat.zero_le _) (Nat.zero_le _) (dX9_guest 10 rfl) ⟨congrArg (fun z => some (Sum.inl z)) (Prod.mk.inj (Option.some.inj H)).1, rfl, (Prod.mk.inj (Option.some.inj H)).2⟩
  · have H := ite_T H hc
    refine R_bipush (dX9_guest 3 rfl) rfl rfl ?_
    exact R_iret rfl rfl (Nat.zero_le _) (Nat.zero_le _) (dX9_guest 4 rfl) ⟨congrArg (fun z => some (Sum.inl z)) (Prod.mk.inj (Option.some.inj H)).1, rfl, (Prod.mk.inj (Option.some.inj H)).2⟩
def f_X9_isGuest (x1 : Int) (M : Mem) : Int :=
  f_X9_within x1 0 (w32 ((M 0 9) - 1))
set_option maxHeartbeats 4000000 in
theorem t_X9_isGuest (l : Launch) (g : GG) (ad : Nat → Nat) (S : SW) (M : Mem) (hS : q_ag 0 38 ad S) (x1 : Int) : CT l g MX9_isGuest 2 0 0 S M [.inr (.inr (some (ad 0))), .inl x1] (q_ex S (some (.inl (f_X9_isGuest x1 M))) M) := by
  obtain ⟨r, H⟩ : ∃ r, f_X9_isGuest x1 M = r := ⟨_, rfl⟩
  rw [H]
  unfold f_X9_isGuest at H
  refine CT_of (ls0 := [some (.inr (.inr (some (ad 0)))), some (.inl x1)]) (by decide +kernel) (Nat.le_of_ble_eq_true rfl) rfl ?_
  refine R_iload_n (i := 1) (dX9_isGuest 0 rfl) rfl rfl ?_
  refine R_iconst (dX9_isGuest 1 rfl) rfl ?_
  refine R_aload_n (i := 0) (dX9_isGuest 2 rfl) rfl rfl ?_
  refine R_getI cgX9 0 (cl0 hS) 9 (Nat.le_of_ble_eq_true rfl) rfl (Or.inl tb_562) (dX9_isGuest 3 rfl) ?_
  refine R_iconst (dX9_isGuest 4 rfl) rfl ?_
  refine R_isub (dX9_isGuest 5 rfl) ?_
  refine R_cS (st' := [.inl (f_X9_within x1 0 (w32 ((M 0 9) - 1)))]) [.inl x1, .inl 0, .inl (w32 ((M 0 9) - 1))] [] (t_X9_within l g S _   x1 0 (w32 ((M 0 9) - 1))) msX9_within (Or.inl tb_603) ⟨Nat.le_of_ble_eq_true rfl, Nat.le_of_ble_eq_true rfl⟩ (Nat.zero_le _) (Nat.zero_le _) rfl rfl (Nat.le_of_ble_eq_true rfl) rfl (dX9_isGuest 6 rfl) ?_
  exact R_iret rfl (q_nbz (z_X9_within x1 0 (w32 ((M 0 9) - 1)))) (Nat.zero_le _) (Nat.zero_le _) (dX9_isGuest 7 rfl) ⟨congrArg (fun z => some (Sum.inl z)) H, rfl, rfl⟩
theorem z_X9_isGuest (x1 : Int) (M : Mem) : f_X9_isGuest x1 M = 0 ∨ f_X9_isGuest x1 M = 1 := by
  unfold f_X9_isGuest
  (repeat' split) <;> first | exact Or.inl rfl | exact Or.inr rfl | exact z_X9_within ..
def f_X9_guestTold (x1 : Int) (M : Mem) : Int :=
  if f_X9_isGuest x1 M = 0 then
    (-5)
  else
    rd 4 (M 37) x1
set_option maxHeartbeats 4000000 in
theorem t_X9_guestTold (l : Launch) (g : GG) (ad : Nat → Nat) (S : SW) (M : Mem) (hS : q_ag 0 38 ad S) (x1 : Int) : CT l g MX9_guestTold 3 0 0 S M [.inr (.inr (some (ad 0))), .inl x1] (q_ex S (some (.inl (f_X9_guestTold x1 M))) M) := by
  obtain ⟨r, H⟩ : ∃ r, f_X9_guestTold x1 M = r := ⟨_, rfl⟩
  rw [H]
  unfold f_X9_guestTold at H
  refine CT_of (ls0 := [some (.inr (.inr (some (ad 0)))), some (.inl x1)]) (by decide +kernel) (Nat.le_of_ble_eq_true rfl) rfl ?_
  refine R_aload_n (i := 0) (dX9_guestTold 0 rfl) rfl rfl ?_
  refine R_iload_n (i := 1) (dX9_guestTold 1 rfl) rfl rfl ?_
  refine R_cV (st' := [.inl (f_X9_isGuest x1 M)]) [.inl x1] [] (t_X9_isGuest l g ad S _ hS   x1) msX9_isGuest (Or.inl tb_659) (Or.inl ⟨0, 9, _, _, _, (cl0 hS), rfl⟩) ⟨Nat.le_of_ble_eq_true rfl, Nat.le_of_ble_eq_true rfl⟩ (Nat.zero_le _) (Nat.zero_le _) rfl rfl (Nat.le_of_ble_eq_true rfl) rfl (dX9_guestTold 2 rfl) ?_
  refine R_if_eq (tgt := 19) (dX9_guestTold 3 rfl) (by decide) (fun hc => ?_) (fun hc => ?_)
  · have H := ite_T H hc
    refine R_bipush (dX9_guestTold 9 rfl) rfl rfl ?_
    exact R_iret rfl rfl (Nat.zero_le _) (Nat.zero_le _) (dX9_guestTold 10 rfl) ⟨congrArg (fun z => some (Sum.inl z)) H, rfl, rfl⟩
  · have H := ite_F H hc
    refine R_aload_n (i := 0) (dX9_guestTold 4 rfl) rfl rfl ?_
    refine R_getR cgX9 0 (cl0 hS) 8 (Nat.le_of_ble_eq_true rfl) rfl (Or.inl tb_561) (dX9_guestTold 5 rfl) ?_
    refine R_iload_n (i := 1) (dX9_guestTold 6 rfl) rfl rfl ?_
    refine R_cS (st' := [.inl (rd 4 (M 37) x1)]) [.inr (.inr (some (ad 37))), .inl x1] [] (t_at l g S _ 37 (cl37 hS) (Nat.le_of_ble_eq_true rfl) x1) msX9_at (Or.inl tb_663) ⟨Nat.le_of_ble_eq_true rfl, Nat.le_of_ble_eq_true rfl⟩ (Nat.zero_le _) (Nat.zero_le _) rfl rfl (Nat.le_of_ble_eq_true rfl) rfl (dX9_guestTold 7 rfl) ?_
    refine R_goto (tgt := 21) (dX9_guestTold 8 rfl) (by decide) ?_
    exact R_iret rfl rfl (Nat.zero_le _) (Nat.zero_le _) (dX9_guestTold 10 rfl) ⟨congrArg (fun z => some (Sum.inl z)) H, rfl, rfl⟩
def f_X9_pays (x1 : Int) (M : Mem) : Option (Int × Mem) :=
  if f_X9_within x1 0 999 = 0 then
    some ((-2), M)
  else
    some (M 0 10, (mset M 0 10 x1))
set_option maxHeartbeats 4000000 in
theorem t_X9_pays (l : Launch) (g : GG) (ad : Nat → Nat) (S : SW) (M : Mem) (hS : q_ag 0 38 ad S) (x1 : Int) {r : Int} {M' : Mem} (H : f_X9_pays x1 M = some (r, M')) : CT l g MX9_pays 2 0 0 S M [.inr (.inr (some (ad 0))), .inl x1] (q_ex S (some (.inl r)) M') := by
  unfold f_X9_pays at H
  refine CT_of (ls0 := [some (.inr (.inr (some (ad 0)))), some (.inl x1), none]) (by decide +kernel) (Nat.le_of_ble_eq_true rfl) rfl ?_
  refine R_iload_n (i := 1) (dX9_pays 0 rfl) rfl rfl ?_
  refine R_iconst (dX9_pays 1 rfl) rfl ?_
  refine R_sipush (dX9_pays 2 rfl) rfl rfl ?_
  refine R_cS (st' := [.inl (f_X9_within x1 0 999)]) [.inl x1, .inl 0, .inl 999] [] (t_X9_within l g S _   x1 0 999) msX9_within (Or.inl tb_603) ⟨Nat.le_of_ble_eq_true rfl, Nat.le_of_ble_eq_true rfl⟩ (Nat.zero_le _) (Nat.zero_le _) rfl rfl (Nat.le_of_ble_eq_true rfl) rfl (dX9_pays 3 rfl) ?_
  refine R_if_ne (tgt := 14) (dX9_pays 4 rfl) (by decide) (fun hc => ?_) (fun hc => ?_)
  · have H := ite_F H hc
    refine R_aload_n (i := 0) (dX9_pays 7 rfl) rfl rfl ?_
    refine R_getI cgX9 0 (cl0 hS) 10 (Nat.le_of_ble_eq_true rfl) rfl (Or.inl tb_563) (dX9_pays 8 rfl) ?_
    refine R_istore_n (i := 2) (ls' := [some (.inr (.inr (some (ad 0)))), some (.inl x1), some (.inl (M 0 10))]) (dX9_pays 9 rfl) rfl (Nat.le_of_ble_eq_true rfl) (Nat.le_of_ble_eq_true rfl) rfl rfl ?_
    refine R_aload_n (i := 0) (dX9_pays 10 rfl) rfl rfl ?_
    refine R_iload_n (i := 1) (dX9_pays 11 rfl) rfl rfl ?_
    refine R_putI cgX9 0 (cl0 hS) 10 (Nat.le_of_ble_eq_true rfl) rfl rfl rfl rfl (Or.inl tb_563) (dX9_pays 12 rfl) ?_
    refine R_iload_n (i := 2) (dX9_pays 13 rfl) rfl rfl ?_
    exact R_iret rfl rfl (Nat.zero_le _) (Nat.zero_le _) (dX9_pays 14 rfl) ⟨congrArg (fun z => some (Sum.inl z)) (Prod.mk.inj (Option.some.inj H)).1, rfl, (Prod.mk.inj (Option.some.inj H)).2⟩
  · have H := ite_T H hc
    refine R_bipush (dX9_pays 5 rfl) rfl rfl ?_
    exact R_iret rfl rfl (Nat.zero_le _) (Nat.zero_le _) (dX9_pays 6 rfl) ⟨congrArg (fun z => some (Sum.inl z)) (Prod.mk.inj (Option.some.inj H)).1, rfl, (Prod.mk.inj (Option.some.inj H)).2⟩
def f_X9_count (x1 : Int) (M : Mem) : Int :=
  if x1 = 0 then
    M 3 3
  else if x1 = 1 then
    M 0 9
  else if x1 = 2 then
    M 7 4
  else if x1 = 3 then
    M 0 10
  else if x1 = 4 then
    M 12 5
  else if x1 = 5 then
    M 0 11
  else if x1 = 6 then
    M 13 3
  else
    (-2)
set_option maxHeartbeats 4000000 in
theorem t_X9_count (l : Launch) (g : GG) (ad : Nat → Nat) (S : SW) (M : Mem) (hS : q_ag 0 38 ad S) (x1 : Int) : CT l g MX9_count 1 0 0 S M [.inr (.inr (some (ad 0))), .inl x1] (q_ex S (some (.inl (f_X9_count x1 M))) M) := by
  obtain ⟨r, H⟩ : ∃ r, f_X9_count x1 M = r := ⟨_, rfl⟩
  rw [H]
  unfold f_X9_count at H
  refine CT_of (ls0 := [some (.inr (.inr (some (ad 0)))), some (.inl x1)]) (by decide +kernel) (Nat.le_of_ble_eq_true rfl) rfl ?_
  refine R_iload_n (i := 1) (dX9_count 0 rfl) rfl rfl ?_
  by_cases hc0 : x1 = 0
  · have H := ite_T H hc0
    refine R_tsIn (c0 := 0) (tgt := 44) (dX9_count 1 rfl) hc0 (by decide) (by decide) rfl (by decide) ?_
    refine R_aload_n (i := 0) (dX9_count 2 rfl) rfl rfl ?_
    refine R_getR cgX9 0 (cl0 hS) 1 (Nat.le_of_ble_eq_true rfl) rfl (Or.inl tb_554) (dX9_count 3 rfl) ?_
    refine R_getI cgX3 3 (cl3 hS) 3 (Nat.le_of_ble_eq_true rfl) rfl (Or.inr ⟨_, tb_140⟩) (dX9_count 4 rfl) ?_
    exact R_iret rfl rfl (Nat.zero_le _) (Nat.zero_le _) (dX9_count 5 rfl) ⟨congrArg (fun z => some (Sum.inl z)) H, rfl, rfl⟩
  have H := ite_F H hc0
  by_cases hc1 : x1 = 1
  · have H := ite_T H hc1
    refine R_tsIn (c0 := 1) (tgt := 52) (dX9_count 1 rfl) hc1 (by decide) (by decide) rfl (by decide) ?_
    refine R_aload_n (i := 0) (dX9_count 6 rfl) rfl rfl ?_
    refine R_getI cgX9 0 (cl0 hS) 9 (Nat.le_of_ble_eq_true rfl) rfl (Or.inl tb_562) (dX9_count 7 rfl) ?_
    exact R_iret rfl rfl (Nat.zero_le _) (Nat.zero_le _) (dX9_count 8 rfl) ⟨congrArg (fun z => some (Sum.inl z)) H, rfl, rfl⟩
  have H := ite_F H hc1
  by_cases hc2 : x1 = 2
  · have H := ite_T H hc2
    refine R_tsIn (c0 := 2) (tgt := 57) (dX9_count 1 rfl) hc2 (by decide) (by decide) rfl (by decide) ?_
    refine R_aload_n (i := 0) (dX9_count 9 rfl) rfl rfl ?_
    refine R_getR cgX9 0 (cl0 hS) 2 (Nat.le_of_ble_eq_true rfl) rfl (Or.inl tb_555) (dX9_count 10 rfl) ?_
    refine R_getI cgX0 7 (cl7 hS) 4 (Nat.le_of_ble_eq_true rfl) rfl (Or.inr ⟨_, tb_168⟩) (dX9_count 11 rfl) ?_
    exact R_iret rfl rfl (Nat.zero_le _) (Nat.zero_le _) (dX9_count 12 rfl) ⟨congrArg (fun z => some (Sum.inl z)) H, rfl, rfl⟩
  have H := ite_F H hc2
  by_cases hc3 : x1 = 3
  · have H := ite_T H hc3
    refine R_tsIn (c0 := 3) (tgt := 65) (dX9_count 1 rfl) hc3 (by decide) (by decide) rfl (by decide) ?_
    refine R_aload_n (i := 0) (dX9_count 13 rfl) rfl rfl ?_
    refine R_getI cgX9 0 (cl0 hS) 10 (Nat.le_of_ble_eq_true rfl) rfl (Or.inl tb_563) (dX9_count 14 rfl) ?_
    exact R_iret rfl rfl (Nat.zero_le _) (Nat.zero_le _) (dX9_count 15 rfl) ⟨congrArg (fun z => some (Sum.inl z)) H, rfl, rfl⟩
  have H := ite_F H hc3
  by_cases hc4 : x1 = 4
  · have H := ite_T H hc4
    refine R_tsIn (c0 := 4) (tgt := 70) (dX9_count 1 rfl) hc4 (by decide) (by decide) rfl (by decide) ?_
    refine R_aload_n (i := 0) (dX9_count 16 rfl) rfl rfl ?_
    refine R_getR cgX9 0 (cl0 hS) 3 (Nat.le_of_ble_eq_true rfl) rfl (Or.inl tb_556) (dX9_count 17 rfl) ?_
    refine R_getI cgX6 12 (cl12 hS) 5 (Nat.le_of_ble_eq_true rfl) rfl (Or.inr ⟨_, tb_432⟩) (dX9_count 18 rfl) ?_
    exact R_iret rfl rfl (Nat.zero_le _) (Nat.zero_le _) (dX9_count 19 rfl) ⟨congrArg (fun z => some (Sum.inl z)) H, rfl, rfl⟩
  have H := ite_F H hc4
  by_cases hc5 : x1 = 5
  · have H := ite_T H hc5
    refine R_tsIn (c0 := 5) (tgt := 78) (dX9_count 1 rfl) hc5 (by decide) (by decide) rfl (by decide) ?_
    refine R_aload_n (i := 0) (dX9_count 20 rfl) rfl rfl ?_
    refine R_getI cgX9 0 (cl0 hS) 11 (Nat.le_of_ble_eq_true rfl) rfl (Or.inl tb_564) (dX9_count 21 rfl) ?_
    exact R_iret rfl rfl (Nat.zero_le _) (Nat.zero_le _) (dX9_count 22 rfl) ⟨congrArg (fun z => some (Sum.inl z)) H, rfl, rfl⟩
  have H := ite_F H hc5
  by_cases hc6 : x1 = 6
  · have H := ite_T H hc6
    refine R_tsIn (c0 := 6) (tgt := 83) (dX9_count 1 rfl) hc6 (by decide) (by decide) rfl (by decide) ?_
    refine R_aload_n (i := 0) (dX9_count 23 rfl) rfl rfl ?_
    refine R_getR cgX9 0 (cl0 hS) 3 (Nat.le_of_ble_eq_true rfl) rfl (Or.inl tb_556) (dX9_count 24 rfl) ?_
    refine R_getR cgX6 12 (cl12 hS) 0 (Nat.le_of_ble_eq_true rfl) rfl (Or.inr ⟨_, tb_426⟩) (dX9_count 25 rfl) ?_
    refine R_getI cgX5 13 (cl13 hS) 3 (Nat.le_of_ble_eq_true rfl) rfl (Or.inr ⟨_, tb_198⟩) (dX9_count 26 rfl) ?_
    exact R_iret rfl rfl (Nat.zero_le _) (Nat.zero_le _) (dX9_count 27 rfl) ⟨congrArg (fun z => some (Sum.inl z)) H, rfl, rfl⟩
  have H := ite_F H hc6
  refine R_tsOut (tgt := 94) (dX9_count 1 rfl) (by omega) (by decide) ?_
  refine R_bipush (dX9_count 28 rfl) rfl rfl ?_
  exact R_iret rfl rfl (Nat.zero_le _) (Nat.zero_le _) (dX9_count 29 rfl) ⟨congrArg (fun z => some (Sum.inl z)) H, rfl, rfl⟩
def f_X9_isByte (x0 : Int) : Int :=
  f_X9_within x0 0 255
set_option maxHeartbeats 4000000 in
theorem t_X9_isByte (l : Launch) (g : GG) (ad : Nat → Nat) (S : SW) (M : Mem) (hS : q_ag 0 38 ad S) (x0 : Int) : CT l g MX9_isByte 2 0 0 S M [.inl x0] (q_ex S (some (.inl (f_X9_isByte x0))) M) := by
  obtain ⟨r, H⟩ : ∃ r, f_X9_isByte x0 = r := ⟨_, rfl⟩
  rw [H]
  unfold f_X9_isByte at H
  refine CT_of (ls0 := [some (.inl x0)]) (by decide +kernel) (Nat.le_of_ble_eq_true rfl) rfl ?_
  refine R_iload_n (i := 0) (dX9_isByte 0 rfl) rfl rfl ?_
  refine R_iconst (dX9_isByte 1 rfl) rfl ?_
  refine R_sipush (dX9_isByte 2 rfl) rfl rfl ?_
  refine R_cS (st' := [.inl (f_X9_within x0 0 255)]) [.inl x0, .inl 0, .inl 255] [] (t_X9_within l g S _   x0 0 255) msX9_within (Or.inl tb_603) ⟨Nat.le_of_ble_eq_true rfl, Nat.le_of_ble_eq_true rfl⟩ (Nat.zero_le _) (Nat.zero_le _) rfl rfl (Nat.le_of_ble_eq_true rfl) rfl (dX9_isByte 3 rfl) ?_
  exact R_iret rfl (q_nbz (z_X9_within x0 0 255)) (Nat.zero_le _) (Nat.zero_le _) (dX9_isByte 4 rfl) ⟨congrArg (fun z => some (Sum.inl z)) H, rfl, rfl⟩
theorem z_X9_isByte (x0 : Int) : f_X9_isByte x0 = 0 ∨ f_X9_isByte x0 = 1 := by
  unfold f_X9_isByte
  (repeat' split) <;> first | exact Or.inl rfl | exact Or.inr rfl | exact z_X9_within ..
def f_X9_feed_L74 (x1 : Int) (x2 : Int) (x3 : Int) (x4 : Int) (x5 : Int) (x6 : Int) : Nat → Int → Mem → Option (Int × Mem)
  | 0, _, _ => none
  | n + 1, x7, M =>
    if x7 < x1 then
      if x7 = 0 then
        ob (f_X5_add x2 M) fun r168 M169 =>
        f_X9_feed_L74 x1 x2 x3 x4 x5 x6 n (w32 (x7 + 1)) M169
      else
        if x7 = 1 then
          ob (f_X5_add x3 M) fun r166 M167 =>
          f_X9_feed_L74 x1 x2 x3 x4 x5 x6 n (w32 (x7 + 1)) M167
        else
          if x7 = 2 then
            ob (f_X5_add x4 M) fun r164 M165 =>
            f_X9_feed_L74 x1 x2 x3 x4 x5 x6 n (w32 (x7 + 1)) M165
          else
            if x7 = 3 then
              ob (f_X5_add x5 M) fun r162 M163 =>
              f_X9_feed_L74 x1 x2 x3 x4 x5 x6 n (w32 (x7 + 1)) M163
            else
              ob (f_X5_add x6 M) fun r160 M161 =>
              f_X9_feed_L74 x1 x2 x3 x4 x5 x6 n (w32 (x7 + 1)) M161
    else
      some (M 13 3, M)
set_option maxHeartbeats 4000000 in
theorem t_X9_feed_L74 (l : Launch) (g : GG) (ad : Nat → Nat) (S : SW) (hS : q_ag 0 38 ad S) (x1 : Int) (x2 : Int) (x3 : Int) (x4 : Int) (x5 : Int) (x6 : Int) {r : Int} {M' : Mem} : ∀ (n : Nat) (x7 : Int) (M : Mem), f_X9_feed_L74 x1 x2 x3 x4 x5 x6 n x7 M = some (r, M') → RW l g MX9_feed (q_rm 3 0 0) 0 0 (q_ex S (some (.inl r)) M') 74 S M 0 0 [some (.inr (.inr (some (ad 0)))), some (.inl x1), some (.inl x2), some (.inl x3), some (.inl x4), some (.inl x5), some (.inl x6), some (.inl x7)] [] := by
  intro n
  induction n with
  | zero => intro x7 M H; exact absurd H (by simp [f_X9_feed_L74])
  | succ n ih =>
    intro x7 M H
    rw [f_X9_feed_L74] at H
    refine R_iload (i := 7) (dX9_feed_0 34 rfl) rfl ?_
    refine R_iload_n (i := 1) (dX9_feed_0 35 rfl) rfl rfl ?_
    refine R_icmp_ge (tgt := 139) (dX9_feed_0 36 rfl) (by decide) (fun hc => ?_) (fun hc => ?_)
    · have H := ite_F H hc
      refine R_aload_n (i := 0) (dX9_feed_1 3 rfl) rfl rfl ?_
      refine R_getR cgX9 0 (cl0 hS) 3 (Nat.le_of_ble_eq_true rfl) rfl (Or.inl tb_556) (dX9_feed_1 4 rfl) ?_
      refine R_getR cgX6 12 (cl12 hS) 0 (Nat.le_of_ble_eq_true rfl) rfl (Or.inr ⟨_, tb_426⟩) (dX9_feed_1 5 rfl) ?_
      refine R_getI cgX5 13 (cl13 hS) 3 (Nat.le_of_ble_eq_true rfl) rfl (Or.inr ⟨_, tb_198⟩) (dX9_feed_1 6 rfl) ?_
      exact R_iret rfl rfl (Nat.zero_le _) (Nat.zero_le _) (dX9_feed_1 7 rfl) ⟨congrArg (fun z => some (Sum.inl z)) (Prod.mk.inj (Option.some.inj H)).1, rfl, (Prod.mk.inj (Option.some.inj H)).2⟩
    · have H := ite_T H hc
      refine R_aload_n (i := 0) (dX9_feed_0 37 rfl) rfl rfl ?_
      refine R_getR cgX9 0 (cl0 hS) 3 (Nat.le_of_ble_eq_true rfl) rfl (Or.inl tb_556) (dX9_feed_0 38 rfl) ?_
      refine R_getR cgX6 12 (cl12 hS) 0 (Nat.le_of_ble_eq_true rfl) rfl (Or.inr ⟨_, tb_426⟩) (dX9_feed_0 39 rfl) ?_
      refine R_iload (i := 7) (dX9_feed_0 40 rfl) rfl ?_
      refine R_if_ne (tgt := 96) (dX9_feed_0 41 rfl) (by decide) (fun hc => ?_) (fun hc => ?_)
      · have H := ite_F H hc
        refine R_iload (i := 7) (dX9_feed_0 44 rfl) rfl ?_
        refine R_iconst (dX9_feed_0 45 rfl) rfl ?_
        refine R_icmp_ne (tgt := 106) (dX9_feed_0 46 rfl) (by decide) (fun hc => ?_) (fun hc => ?_)
        · have H := ite_F H hc
          refine R_iload (i := 7) (dX9_feed_0 49 rfl) rfl ?_
          refine R_iconst (dX9_feed_0 50 rfl) rfl ?_
          refine R_icmp_ne (tgt := 117) (dX9_feed_0 51 rfl) (by decide) (fun hc => ?_) (fun hc => ?_)
          · have H := ite_F H hc
            refine R_iload (i := 7) (dX9_feed_0 54 rfl) rfl ?_
            refine R_iconst (dX9_feed_0 55 rfl) rfl ?_
            refine R_icmp_ne (tgt := 128) (dX9_feed_0 56 rfl) (by decide) (fun hc => ?_) (fun hc => ?_)
            · have H := ite_F H hc
              refine R_iload (i := 6) (dX9_feed_0 59 rfl) rfl ?_
              obtain ⟨r160, M161, hr, H⟩ := ob_E H
              refine R_cV (st' := []) [.inl x6] [] (t_X5_add l g ad S _ (q_ag_sub hS (Nat.le_of_ble_eq_true rfl) (Nat.le_of_ble_eq_true rfl))   x6 hr) msX5_add (Or.inl tb_679) (Or.inl ⟨13, 5, _, _, _, (cl13 hS), rfl⟩) ⟨Nat.le_of_ble_eq_true rfl, Nat.le_of_ble_eq_true rfl⟩ (Nat.zero_le _) (Nat.zero_le _) rfl rfl (Nat.le_of_ble_eq_true rfl) rfl (dX9_feed_1 0 rfl) ?_
              refine R_iinc (i := 7) (ls' := [some (.inr (.inr (some (ad 0)))), some (.inl x1), some (.inl x2), some (.inl x3), some (.inl x4), some (.inl x5), some (.inl x6), some (.inl (w32 (x7 + 1)))]) (dX9_feed_1 1 rfl) rfl (Nat.le_of_ble_eq_true rfl) rfl rfl ?_
              refine R_goto (tgt := 74) (dX9_feed_1 2 rfl) (by decide) ?_
              exact ih (w32 (x7 + 1)) M161 H
            · have H := ite_T H hc
              refine R_iload (i := 5) (dX9_feed_0 57 rfl) rfl ?_
              refine R_goto (tgt := 130) (dX9_feed_0 58 rfl) (by decide) ?_
              obtain ⟨r162, M163, hr, H⟩ := ob_E H
              refine R_cV (st' := []) [.inl x5] [] (t_X5_add l g ad S _ (q_ag_sub hS (Nat.le_of_ble_eq_true rfl) (Nat.le_of_ble_eq_true rfl))   x5 hr) msX5_add (Or.inl tb_679) (Or.inl ⟨13, 5, _, _, _, (cl13 hS), rfl⟩) ⟨Nat.le_of_ble_eq_true rfl, Nat.le_of_ble_eq_true rfl⟩ (Nat.zero_le _) (Nat.zero_le _) rfl rfl (Nat.le_of_ble_eq_true rfl) rfl (dX9_feed_1 0 rfl) ?_
              refine R_iinc (i := 7) (ls' := [some (.inr (.inr (some (ad 0)))), some (.inl x1), some (.inl x2), some (.inl x3), some (.inl x4), some (.inl x5), some (.inl x6), some (.inl (w32 (x7 + 1)))]) (dX9_feed_1 1 rfl) rfl (Nat.le_of_ble_eq_true rfl) rfl rfl ?_
              refine R_goto (tgt := 74) (dX9_feed_1 2 rfl) (by decide) ?_
              exact ih (w32 (x7 + 1)) M163 H
          · have H := ite_T H hc
            refine R_iload (i := 4) (dX9_feed_0 52 rfl) rfl ?_
            refine R_goto (tgt := 130) (dX9_feed_0 53 rfl) (by decide) ?_
            obtain ⟨r164, M165, hr, H⟩ := ob_E H
            refine R_cV (st' := []) [.inl x4] [] (t_X5_add l g ad S _ (q_ag_sub hS (Nat.le_of_ble_eq_true rfl) (Nat.le_of_ble_eq_true rfl))   x4 hr) msX5_add (Or.inl tb_679) (Or.inl ⟨13, 5, _, _, _, (cl13 hS), rfl⟩) ⟨Nat.le_of_ble_eq_true rfl, Nat.le_of_ble_eq_true rfl⟩ (Nat.zero_le _) (Nat.zero_le _) rfl rfl (Nat.le_of_ble_eq_true rfl) rfl (dX9_feed_1 0 rfl) ?_
            refine R_iinc (i := 7) (ls' := [some (.inr (.inr (some (ad 0)))), some (.inl x1), some (.inl x2), some (.inl x3), some (.inl x4), some (.inl x5), some (.inl x6), some (.inl (w32 (x7 + 1)))]) (dX9_feed_1 1 rfl) rfl (Nat.le_of_ble_eq_true rfl) rfl rfl ?_
            refine R_goto (tgt := 74) (dX9_feed_1 2 rfl) (by decide) ?_
            exact ih (w32 (x7 + 1)) M165 H
        · have H := ite_T H hc
          refine R_iload_n (i := 3) (dX9_feed_0 47 rfl) rfl rfl ?_
          refine R_goto (tgt := 130) (dX9_feed_0 48 rfl) (by decide) ?_
          obtain ⟨r166, M167, hr, H⟩ := ob_E H
          refine R_cV (st' := []) [.inl x3] [] (t_X5_add l g ad S _ (q_ag_sub hS (Nat.le_of_ble_eq_true rfl) (Nat.le_of_ble_eq_true rfl))   x3 hr) msX5_add (Or.inl tb_679) (Or.inl ⟨13, 5, _, _, _, (cl13 hS), rfl⟩) ⟨Nat.le_of_ble_eq_true rfl, Nat.le_of_ble_eq_true rfl⟩ (Nat.zero_le _) (Nat.zero_le _) rfl rfl (Nat.le_of_ble_eq_true rfl) rfl (dX9_feed_1 0 rfl) ?_
          refine R_iinc (i := 7) (ls' := [some (.inr (.inr (some (ad 0)))), some (.inl x1), some (.inl x2), some (.inl x3), some (.inl x4), some (.inl x5), some (.inl x6), some (.inl (w32 (x7 + 1)))]) (dX9_feed_1 1 rfl) rfl (Nat.le_of_ble_eq_true rfl) rfl rfl ?_
          refine R_goto (tgt := 74) (dX9_feed_1 2 rfl) (by decide) ?_
          exact ih (w32 (x7 + 1)) M167 H
      · have H := ite_T H hc
        refine R_iload_n (i := 2) (dX9_feed_0 42 rfl) rfl rfl ?_
        refine R_goto (tgt := 130) (dX9_feed_0 43 rfl) (by decide) ?_
        obtain ⟨r168, M169, hr, H⟩ := ob_E H
        refine R_cV (st' := []) [.inl x2] [] (t_X5_add l g ad S _ (q_ag_sub hS (Nat.le_of_ble_eq_true rfl) (Nat.le_of_ble_eq_true rfl))   x2 hr) msX5_add (Or.inl tb_679) (Or.inl ⟨13, 5, _, _, _, (cl13 hS), rfl⟩) ⟨Nat.le_of_ble_eq_true rfl, Nat.le_of_ble_eq_true rfl⟩ (Nat.zero_le _) (Nat.zero_le _) rfl rfl (Nat.le_of_ble_eq_true rfl) rfl (dX9_feed_1 0 rfl) ?_
        refine R_iinc (i := 7) (ls' := [some (.inr (.inr (some (ad 0)))), some (.inl x1), some (.inl x2), some (.inl x3), some (.inl x4), some (.inl x5), some (.inl x6), some (.inl (w32 (x7 + 1)))]) (dX9_feed_1 1 rfl) rfl (Nat.le_of_ble_eq_true rfl) rfl rfl ?_
        refine R_goto (tgt := 74) (dX9_feed_1 2 rfl) (by decide) ?_
        exact ih (w32 (x7 + 1)) M169 H
def f_X9_feed (x1 : Int) (x2 : Int) (x3 : Int) (x4 : Int) (x5 : Int) (x6 : Int) (M : Mem) : Option (Int × Mem) :=
  if f_X9_within x1 1 5 = 0 then
    some ((-2), M)
  else
    if f_X9_isByte x2 = 0 then
      some ((-2), M)
    else
      if f_X9_isByte x3 = 0 then
        some ((-2), M)
      else
        if f_X9_isByte x4 = 0 then
          some ((-2), M)
        else
          if f_X9_isByte x5 = 0 then
            some ((-2), M)
          else
            if f_X9_isByte x6 = 0 then
              some ((-2), M)
            else
              if w32 (160 - x1) < M 13 3 then
                some ((-4), M)
              else
                f_X9_feed_L74
                  x1 x2 x3 x4 x5 x6 100000 0 M
set_option maxHeartbeats 4000000 in
theorem t_X9_feed (l : Launch) (g : GG) (ad : Nat → Nat) (S : SW) (M : Mem) (hS : q_ag 0 38 ad S) (x1 : Int) (x2 : Int) (x3 : Int) (x4 : Int) (x5 : Int) (x6 : Int) {r : Int} {M' : Mem} (H : f_X9_feed x1 x2 x3 x4 x5 x6 M = some (r, M')) : CT l g MX9_feed 3 0 0 S M [.inr (.inr (some (ad 0))), .inl x1, .inl x2, .inl x3, .inl x4, .inl x5, .inl x6] (q_ex S (some (.inl r)) M') := by
  unfold f_X9_feed at H
  refine CT_of (ls0 := [some (.inr (.inr (some (ad 0)))), some (.inl x1), some (.inl x2), some (.inl x3), some (.inl x4), some (.inl x5), some (.inl x6), none]) (by decide +kernel) (Nat.le_of_ble_eq_true rfl) rfl ?_
  refine R_iload_n (i := 1) (dX9_feed_0 0 rfl) rfl rfl ?_
  refine R_iconst (dX9_feed_0 1 rfl) rfl ?_
  refine R_iconst (dX9_feed_0 2 rfl) rfl ?_
  refine R_cS (st' := [.inl (f_X9_within x1 1 5)]) [.inl x1, .inl 1, .inl 5] [] (t_X9_within l g S _   x1 1 5) msX9_within (Or.inl tb_603) ⟨Nat.le_of_ble_eq_true rfl, Nat.le_of_ble_eq_true rfl⟩ (Nat.zero_le _) (Nat.zero_le _) rfl rfl (Nat.le_of_ble_eq_true rfl) rfl (dX9_feed_0 3 rfl) ?_
  refine R_if_eq (tgt := 47) (dX9_feed_0 4 rfl) (by decide) (fun hc => ?_) (fun hc => ?_)
  · have H := ite_T H hc
    refine R_bipush (dX9_feed_0 20 rfl) rfl rfl ?_
    exact R_iret rfl rfl (Nat.zero_le _) (Nat.zero_le _) (dX9_feed_0 21 rfl) ⟨congrArg (fun z => some (Sum.inl z)) (Prod.mk.inj (Option.some.inj H)).1, rfl, (Prod.mk.inj (Option.some.inj H)).2⟩
  · have H := ite_F H hc
    refine R_iload_n (i := 2) (dX9_feed_0 5 rfl) rfl rfl ?_
    refine R_cS (st' := [.inl (f_X9_isByte x2)]) [.inl x2] [] (t_X9_isByte l g ad S _ hS   x2) msX9_isByte (Or.inl tb_676) ⟨Nat.le_of_ble_eq_true rfl, Nat.le_of_ble_eq_true rfl⟩ (Nat.zero_le _) (Nat.zero_le _) rfl rfl (Nat.le_of_ble_eq_true rfl) rfl (dX9_feed_0 6 rfl) ?_
    refine R_if_eq (tgt := 47) (dX9_feed_0 7 rfl) (by decide) (fun hc => ?_) (fun hc => ?_)
    · have H := ite_T H hc
      refine R_bipush (dX9_feed_0 20 rfl) rfl rfl ?_
      exact R_iret rfl rfl (Nat.zero_le _) (Nat.zero_le _) (dX9_feed_0 21 rfl) ⟨congrArg (fun z => some (Sum.inl z)) (Prod.mk.inj (Option.some.inj H)).1, rfl, (Prod.mk.inj (Option.some.inj H)).2⟩
    · have H := ite_F H hc
      refine R_iload_n (i := 3) (dX9_feed_0 8 rfl) rfl rfl ?_
      refine R_cS (st' := [.inl (f_X9_isByte x3)]) [.inl x3] [] (t_X9_isByte l g ad S _ hS   x3) msX9_isByte (Or.inl tb_676) ⟨Nat.le_of_ble_eq_true rfl, Nat.le_of_ble_eq_true rfl⟩ (Nat.zero_le _) (Nat.zero_le _) rfl rfl (Nat.le_of_ble_eq_true rfl) rfl (dX9_feed_0 9 rfl) ?_
      refine R_if_eq (tgt := 47) (dX9_feed_0 10 rfl) (by decide) (fun hc => ?_) (fun hc => ?_)
      · have H := ite_T H hc
        refine R_bipush (dX9_feed_0 20 rfl) rfl rfl ?_
        exact R_iret rfl rfl (Nat.zero_le _) (Nat.zero_le _) (dX9_feed_0 21 rfl) ⟨congrArg (fun z => some (Sum.inl z)) (Prod.mk.inj (Option.some.inj H)).1, rfl, (Prod.mk.inj (Option.some.inj H)).2⟩
      · have H := ite_F H hc
        refine R_iload (i := 4) (dX9_feed_0 11 rfl) rfl ?_
        refine R_cS (st' := [.inl (f_X9_isByte x4)]) [.inl x4] [] (t_X9_isByte l g ad S _ hS   x4) msX9_isByte (Or.inl tb_676) ⟨Nat.le_of_ble_eq_true rfl, Nat.le_of_ble_eq_true rfl⟩ (Nat.zero_le _) (Nat.zero_le _) rfl rfl (Nat.le_of_ble_eq_true rfl) rfl (dX9_feed_0 12 rfl) ?_
        refine R_if_eq (tgt := 47) (dX9_feed_0 13 rfl) (by decide) (fun hc => ?_) (fun hc => ?_)
        · have H := ite_T H hc
          refine R_bipush (dX9_feed_0 20 rfl) rfl rfl ?_
          exact R_iret rfl rfl (Nat.zero_le _) (Nat.zero_le _) (dX9_feed_0 21 rfl) ⟨congrArg (fun z => some (Sum.inl z)) (Prod.mk.inj (Option.some.inj H)).1, rfl, (Prod.mk.inj (Option.some.inj H)).2⟩
        · have H := ite_F H hc
          refine R_iload (i := 5) (dX9_feed_0 14 rfl) rfl ?_
          refine R_cS (st' := [.inl (f_X9_isByte x5)]) [.inl x5] [] (t_X9_isByte l g ad S _ hS   x5) msX9_isByte (Or.inl tb_676) ⟨Nat.le_of_ble_eq_true rfl, Nat.le_of_ble_eq_true rfl⟩ (Nat.zero_le _) (Nat.zero_le _) rfl rfl (Nat.le_of_ble_eq_true rfl) rfl (dX9_feed_0 15 rfl) ?_
          refine R_if_eq (tgt := 47) (dX9_feed_0 16 rfl) (by decide) (fun hc => ?_) (fun hc => ?_)
          · have H := ite_T H hc
            refine R_bipush (dX9_feed_0 20 rfl) rfl rfl ?_
            exact R_iret rfl rfl (Nat.zero_le _) (Nat.zero_le _) (dX9_feed_0 21 rfl) ⟨congrArg (fun z => some (Sum.inl z)) (Prod.mk.inj (Option.some.inj H)).1, rfl, (Prod.mk.inj (Option.some.inj H)).2⟩
          · have H := ite_F H hc
            refine R_iload (i := 6) (dX9_feed_0 17 rfl) rfl ?_
            refine R_cS (st' := [.inl (f_X9_isByte x6)]) [.inl x6] [] (t_X9_isByte l g ad S _ hS   x6) msX9_isByte (Or.inl tb_676) ⟨Nat.le_of_ble_eq_true rfl, Nat.le_of_ble_eq_true rfl⟩ (Nat.zero_le _) (Nat.zero_le _) rfl rfl (Nat.le_of_ble_eq_true rfl) rfl (dX9_feed_0 18 rfl) ?_
            refine R_if_ne (tgt := 50) (dX9_feed_0 19 rfl) (by decide) (fun hc => ?_) (fun hc => ?_)
            · have H := ite_F H hc
              refine R_aload_n (i := 0) (dX9_feed_0 22 rfl) rfl rfl ?_
              refine R_getR cgX9 0 (cl0 hS) 3 (Nat.le_of_ble_eq_true rfl) rfl (Or.inl tb_556) (dX9_feed_0 23 rfl) ?_
              refine R_getR cgX6 12 (cl12 hS) 0 (Nat.le_of_ble_eq_true rfl) rfl (Or.inr ⟨_, tb_426⟩) (dX9_feed_0 24 rfl) ?_
              refine R_getI cgX5 13 (cl13 hS) 3 (Nat.le_of_ble_eq_true rfl) rfl (Or.inr ⟨_, tb_198⟩) (dX9_feed_0 25 rfl) ?_
              refine R_sipush (dX9_feed_0 26 rfl) rfl rfl ?_
              refine R_iload_n (i := 1) (dX9_feed_0 27 rfl) rfl rfl ?_
              refine R_isub (dX9_feed_0 28 rfl) ?_
              refine R_icmp_le (tgt := 71) (dX9_feed_0 29 rfl) (by decide) (fun hc => ?_) (fun hc => ?_)
              · have H := ite_F H hc
                refine R_iconst (dX9_feed_0 32 rfl) rfl ?_
                refine R_istore (i := 7) (ls' := [some (.inr (.inr (some (ad 0)))), some (.inl x1), some (.inl x2), some (.inl x3), some (.inl x4), some (.inl x5), some (.inl x6), some (.inl 0)]) (dX9_feed_0 33 rfl) (Nat.le_of_ble_eq_true rfl) (Nat.le_of_ble_eq_true rfl) rfl rfl ?_
                exact t_X9_feed_L74 l g ad S hS x1 x2 x3 x4 x5 x6  100000 0 M H 
              · have H := ite_T H hc
                refine R_bipush (dX9_feed_0 30 rfl) rfl rfl ?_
                exact R_iret rfl rfl (Nat.zero_le _) (Nat.zero_le _) (dX9_feed_0 31 rfl) ⟨congrArg (fun z => some (Sum.inl z)) (Prod.mk.inj (Option.some.inj H)).1, rfl, (Prod.mk.inj (Option.some.inj H)).2⟩
            · have H := ite_T H hc
              refine R_bipush (dX9_feed_0 20 rfl) rfl rfl ?_
              exact R_iret rfl rfl (Nat.zero_le _) (Nat.zero_le _) (dX9_feed_0 21 rfl) ⟨congrArg (fun z => some (Sum.inl z)) (Prod.mk.inj (Option.some.inj H)).1, rfl, (Prod.mk.inj (Option.some.inj H)).2⟩
def f_X9_text (M : Mem) : Option (Int × Mem) :=
  if M 12 5 < 6 then
    ob (f_X6_read M) fun r170 M171 =>
    if r170 = (-1) then
      some (w32 ((M171 12 5) - 1), M171)
    else
      some (w32 ((-100) - r170), M171)
  else
    some ((-4), M)
set_option maxHeartbeats 4000000 in
theorem t_X9_text (l : Launch) (g : GG) (ad : Nat → Nat) (S : SW) (M : Mem) (hS : q_ag 0 38 ad S) {r : Int} {M' : Mem} (H : f_X9_text M = some (r, M')) : CT l g MX9_text 119 0 0 S M [.inr (.inr (some (ad 0)))] (q_ex S (some (.inl r)) M') := by
  unfold f_X9_text at H
  refine CT_of (ls0 := [some (.inr (.inr (some (ad 0)))), none]) (by decide +kernel) (Nat.le_of_ble_eq_true rfl) rfl ?_
  refine R_aload_n (i := 0) (dX9_text 0 rfl) rfl rfl ?_
  refine R_getR cgX9 0 (cl0 hS) 3 (Nat.le_of_ble_eq_true rfl) rfl (Or.inl tb_556) (dX9_text 1 rfl) ?_
  refine R_getI cgX6 12 (cl12 hS) 5 (Nat.le_of_ble_eq_true rfl) rfl (Or.inr ⟨_, tb_432⟩) (dX9_text 2 rfl) ?_
  refine R_bipush (dX9_text 3 rfl) rfl rfl ?_
  refine R_icmp_lt (tgt := 15) (dX9_text 4 rfl) (by decide) (fun hc => ?_) (fun hc => ?_)
  · have H := ite_T H hc
    refine R_aload_n (i := 0) (dX9_text 7 rfl) rfl rfl ?_
    refine R_getR cgX9 0 (cl0 hS) 3 (Nat.le_of_ble_eq_true rfl) rfl (Or.inl tb_556) (dX9_text 8 rfl) ?_
    obtain ⟨r170, M171, hr, H⟩ := ob_E H
    refine R_cV (st' := [.inl r170]) [] [] (t_X6_read l g ad S _ (q_ag_sub hS (Nat.le_of_ble_eq_true rfl) (Nat.le_of_ble_eq_true rfl))   hr) msX6_read (Or.inl tb_684) (Or.inl ⟨12, 6, _, _, _, (cl12 hS), rfl⟩) ⟨Nat.le_of_ble_eq_true rfl, Nat.le_of_ble_eq_true rfl⟩ (Nat.zero_le _) (Nat.zero_le _) rfl rfl (Nat.le_of_ble_eq_true rfl) rfl (dX9_text 9 rfl) ?_
    refine R_istore_n (i := 1) (ls' := [some (.inr (.inr (some (ad 0)))), some (.inl r170)]) (dX9_text 10 rfl) rfl (Nat.le_of_ble_eq_true rfl) (Nat.le_of_ble_eq_true rfl) rfl rfl ?_
    refine R_iload_n (i := 1) (dX9_text 11 rfl) rfl rfl ?_
    refine R_iconst (dX9_text 12 rfl) rfl ?_
    refine R_icmp_ne (tgt := 40) (dX9_text 13 rfl) (by decide) (fun hc => ?_) (fun hc => ?_)
    · have H := ite_F H hc
      refine R_bipush (dX9_text 20 rfl) rfl rfl ?_
      refine R_iload_n (i := 1) (dX9_text 21 rfl) rfl rfl ?_
      refine R_isub (dX9_text 22 rfl) ?_
      exact R_iret rfl rfl (Nat.zero_le _) (Nat.zero_le _) (dX9_text 23 rfl) ⟨congrArg (fun z => some (Sum.inl z)) (Prod.mk.inj (Option.some.inj H)).1, rfl, (Prod.mk.inj (Option.some.inj H)).2⟩
    · have H := ite_T H hc
      refine R_aload_n (i := 0) (dX9_text 14 rfl) rfl rfl ?_
      refine R_getR cgX9 0 (cl0 hS) 3 (Nat.le_of_ble_eq_true rfl) rfl (Or.inl tb_556) (dX9_text 15 rfl) ?_
      refine R_getI cgX6 12 (cl12 hS) 5 (Nat.le_of_ble_eq_true rfl) rfl (Or.inr ⟨_, tb_432⟩) (dX9_text 16 rfl) ?_
      refine R_iconst (dX9_text 17 rfl) rfl ?_
      refine R_isub (dX9_text 18 rfl) ?_
      refine R_goto (tgt := 44) (dX9_text 19 rfl) (by decide) ?_
      exact R_iret rfl rfl (Nat.zero_le _) (Nat.zero_le _) (dX9_text 23 rfl) ⟨congrArg (fun z => some (Sum.inl z)) (Prod.mk.inj (Option.some.inj H)).1, rfl, (Prod.mk.inj (Option.some.inj H)).2⟩
  · have H := ite_F H hc
    refine R_bipush (dX9_text 5 rfl) rfl rfl ?_
    exact R_iret rfl rfl (Nat.zero_le _) (Nat.zero_le _) (dX9_text 6 rfl) ⟨congrArg (fun z => some (Sum.inl z)) (Prod.mk.inj (Option.some.inj H)).1, rfl, (Prod.mk.inj (Option.some.inj H)).2⟩
def f_X9_force (x1 : Int) (M : Mem) : Option (Int × Mem) :=
  if f_X9_within x1 0 (w32 ((M 12 5) - 1)) = 0 then
    some ((-2), M)
  else
    some (M 0 11, (mset (mset M 0 11 x1) 0 12 1))
set_option maxHeartbeats 4000000 in
theorem t_X9_force (l : Launch) (g : GG) (ad : Nat → Nat) (S : SW) (M : Mem) (hS : q_ag 0 38 ad S) (x1 : Int) {r : Int} {M' : Mem} (H : f_X9_force x1 M = some (r, M')) : CT l g MX9_force 2 0 0 S M [.inr (.inr (some (ad 0))), .inl x1] (q_ex S (some (.inl r)) M') := by
  unfold f_X9_force at H
  refine CT_of (ls0 := [some (.inr (.inr (some (ad 0)))), some (.inl x1), none]) (by decide +kernel) (Nat.le_of_ble_eq_true rfl) rfl ?_
  refine R_iload_n (i := 1) (dX9_force 0 rfl) rfl rfl ?_
  refine R_iconst (dX9_force 1 rfl) rfl ?_
  refine R_aload_n (i := 0) (dX9_force 2 rfl) rfl rfl ?_
  refine R_getR cgX9 0 (cl0 hS) 3 (Nat.le_of_ble_eq_true rfl) rfl (Or.inl tb_556) (dX9_force 3 rfl) ?_
  refine R_getI cgX6 12 (cl12 hS) 5 (Nat.le_of_ble_eq_true rfl) rfl (Or.inr ⟨_, tb_432⟩) (dX9_force 4 rfl) ?_
  refine R_iconst (dX9_force 5 rfl) rfl ?_
  refine R_isub (dX9_force 6 rfl) ?_
  refine R_cS (st' := [.inl (f_X9_within x1 0 (w32 ((M 12 5) - 1)))]) [.inl x1, .inl 0, .inl (w32 ((M 12 5) - 1))] [] (t_X9_within l g S _   x1 0 (w32 ((M 12 5) - 1))) msX9_within (Or.inl tb_603) ⟨Nat.le_of_ble_eq_true rfl, Nat.le_of_ble_eq_true rfl⟩ (Nat.zero_le _) (Nat.zero_le _) rfl rfl (Nat.le_of_ble_eq_true rfl) rfl (dX9_force 7 rfl) ?_
  refine R_if_ne (tgt := 20) (dX9_force 8 rfl) (by decide) (fun hc => ?_) (fun hc => ?_)
  · have H := ite_F H hc
    refine R_aload_n (i := 0) (dX9_force 11 rfl) rfl rfl ?_
    refine R_getI cgX9 0 (cl0 hS) 11 (Nat.le_of_ble_eq_true rfl) rfl (Or.inl tb_564) (dX9_force 12 rfl) ?_
    refine R_istore_n (i := 2) (ls' := [some (.inr (.inr (some (ad 0)))), some (.inl x1), some (.inl (M 0 11))]) (dX9_force 13 rfl) rfl (Nat.le_of_ble_eq_true rfl) (Nat.le_of_ble_eq_true rfl) rfl rfl ?_
    refine R_aload_n (i := 0) (dX9_force 14 rfl) rfl rfl ?_
    refine R_iload_n (i := 1) (dX9_force 15 rfl) rfl rfl ?_
    refine R_putI cgX9 0 (cl0 hS) 11 (Nat.le_of_ble_eq_true rfl) rfl rfl rfl rfl (Or.inl tb_564) (dX9_force 16 rfl) ?_
    refine R_aload_n (i := 0) (dX9_force 17 rfl) rfl rfl ?_
    refine R_iconst (dX9_force 18 rfl) rfl ?_
    refine R_putI cgX9 0 (cl0 hS) 12 (Nat.le_of_ble_eq_true rfl) rfl (by decide +kernel) (by decide +kernel) rfl (Or.inl tb_565) (dX9_force 19 rfl) ?_
    refine R_iload_n (i := 2) (dX9_force 20 rfl) rfl rfl ?_
    exact R_iret rfl rfl (Nat.zero_le _) (Nat.zero_le _) (dX9_force 21 rfl) ⟨congrArg (fun z => some (Sum.inl z)) (Prod.mk.inj (Option.some.inj H)).1, rfl, (Prod.mk.inj (Option.some.inj H)).2⟩
  · have H := ite_T H hc
    refine R_bipush (dX9_force 9 rfl) rfl rfl ?_
    exact R_iret rfl rfl (Nat.zero_le _) (Nat.zero_le _) (dX9_force 10 rfl) ⟨congrArg (fun z => some (Sum.inl z)) (Prod.mk.inj (Option.some.inj H)).1, rfl, (Prod.mk.inj (Option.some.inj H)).2⟩
def f_X9_asks (x1 : Int) (x2 : Int) (x3 : Int) (x4 : Int) (x5 : Int) (M : Mem) : Option (Int × Mem) :=
  if f_X9_isLine x2 M = 0 then
    some ((-5), M)
  else
    if f_X9_within x1 0 2 = 0 then
      some ((-7), M)
    else
      if f_X9_isParts x3 = 0 then
        some ((-7), M)
      else
        if f_X9_within x4 0 3 = 0 then
          some ((-7), M)
        else
          if f_X9_within x5 0 720 = 0 then
            some ((-7), M)
          else
            ob (f_X6_says (M 0 11) x1 (f_X3_priceOf x2 M) x3 x2 x4 x5 M) fun r172 M173 =>
            some (r172, M173)
set_option maxHeartbeats 4000000 in
theorem t_X9_asks (l : Launch) (g : GG) (ad : Nat → Nat) (S : SW) (M : Mem) (hS : q_ag 0 38 ad S) (x1 : Int) (x2 : Int) (x3 : Int) (x4 : Int) (x5 : Int) {r : Int} {M' : Mem} (H : f_X9_asks x1 x2 x3 x4 x5 M = some (r, M')) : CT l g MX9_asks 4 0 0 S M [.inr (.inr (some (ad 0))), .inl x1, .inl x2, .inl x3, .inl x4, .inl x5] (q_ex S (some (.inl r)) M') := by
  unfold f_X9_asks at H
  refine CT_of (ls0 := [some (.inr (.inr (some (ad 0)))), some (.inl x1), some (.inl x2), some (.inl x3), some (.inl x4), some (.inl x5)]) (by decide +kernel) (Nat.le_of_ble_eq_true rfl) rfl ?_
  refine R_aload_n (i := 0) (dX9_asks 0 rfl) rfl rfl ?_
  refine R_iload_n (i := 2) (dX9_asks 1 rfl) rfl rfl ?_
  refine R_cV (st' := [.inl (f_X9_isLine x2 M)]) [.inl x2] [] (t_X9_isLine l g ad S _ hS   x2) msX9_isLine (Or.inl tb_632) (Or.inl ⟨0, 9, _, _, _, (cl0 hS), rfl⟩) ⟨Nat.le_of_ble_eq_true rfl, Nat.le_of_ble_eq_true rfl⟩ (Nat.zero_le _) (Nat.zero_le _) rfl rfl (Nat.le_of_ble_eq_true rfl) rfl (dX9_asks 2 rfl) ?_
  refine R_if_ne (tgt := 11) (dX9_asks 3 rfl) (by decide) (fun hc => ?_) (fun hc => ?_)
  · have H := ite_F H hc
    refine R_iload_n (i := 1) (dX9_asks 6 rfl) rfl rfl ?_
    refine R_iconst (dX9_asks 7 rfl) rfl ?_
    refine R_iconst (dX9_asks 8 rfl) rfl ?_
    refine R_cS (st' := [.inl (f_X9_within x1 0 2)]) [.inl x1, .inl 0, .inl 2] [] (t_X9_within l g S _   x1 0 2) msX9_within (Or.inl tb_603) ⟨Nat.le_of_ble_eq_true rfl, Nat.le_of_ble_eq_true rfl⟩ (Nat.zero_le _) (Nat.zero_le _) rfl rfl (Nat.le_of_ble_eq_true rfl) rfl (dX9_asks 9 rfl) ?_
    refine R_if_eq (tgt := 49) (dX9_asks 10 rfl) (by decide) (fun hc => ?_) (fun hc => ?_)
    · have H := ite_T H hc
      refine R_bipush (dX9_asks 24 rfl) rfl rfl ?_
      exact R_iret rfl rfl (Nat.zero_le _) (Nat.zero_le _) (dX9_asks 25 rfl) ⟨congrArg (fun z => some (Sum.inl z)) (Prod.mk.inj (Option.some.inj H)).1, rfl, (Prod.mk.inj (Option.some.inj H)).2⟩
    · have H := ite_F H hc
      refine R_iload_n (i := 3) (dX9_asks 11 rfl) rfl rfl ?_
      refine R_cS (st' := [.inl (f_X9_isParts x3)]) [.inl x3] [] (t_X9_isParts l g ad S _ hS   x3) msX9_isParts (Or.inl tb_654) ⟨Nat.le_of_ble_eq_true rfl, Nat.le_of_ble_eq_true rfl⟩ (Nat.zero_le _) (Nat.zero_le _) rfl rfl (Nat.le_of_ble_eq_true rfl) rfl (dX9_asks 12 rfl) ?_
      refine R_if_eq (tgt := 49) (dX9_asks 13 rfl) (by decide) (fun hc => ?_) (fun hc => ?_)
      · have H := ite_T H hc
        refine R_bipush (dX9_asks 24 rfl) rfl rfl ?_
        exact R_iret rfl rfl (Nat.zero_le _) (Nat.zero_le _) (dX9_asks 25 rfl) ⟨congrArg (fun z => some (Sum.inl z)) (Prod.mk.inj (Option.some.inj H)).1, rfl, (Prod.mk.inj (Option.some.inj H)).2⟩
      · have H := ite_F H hc
        refine R_iload (i := 4) (dX9_asks 14 rfl) rfl ?_
        refine R_iconst (dX9_asks 15 rfl) rfl ?_
        refine R_iconst (dX9_asks 16 rfl) rfl ?_
        refine R_cS (st' := [.inl (f_X9_within x4 0 3)]) [.inl x4, .inl 0, .inl 3] [] (t_X9_within l g S _   x4 0 3) msX9_within (Or.inl tb_603) ⟨Nat.le_of_ble_eq_true rfl, Nat.le_of_ble_eq_true rfl⟩ (Nat.zero_le _) (Nat.zero_le _) rfl rfl (Nat.le_of_ble_eq_true rfl) rfl (dX9_asks 17 rfl) ?_
        refine R_if_eq (tgt := 49) (dX9_asks 18 rfl) (by decide) (fun hc => ?_) (fun hc => ?_)
        · have H := ite_T H hc
          refine R_bipush (dX9_asks 24 rfl) rfl rfl ?_
          exact R_iret rfl rfl (Nat.zero_le _) (Nat.zero_le _) (dX9_asks 25 rfl) ⟨congrArg (fun z => some (Sum.inl z)) (Prod.mk.inj (Option.some.inj H)).1, rfl, (Prod.mk.inj (Option.some.inj H)).2⟩
        · have H := ite_F H hc
          refine R_iload (i := 5) (dX9_asks 19 rfl) rfl ?_
          refine R_iconst (dX9_asks 20 rfl) rfl ?_
          refine R_sipush (dX9_asks 21 rfl) rfl rfl ?_
          refine R_cS (st' := [.inl (f_X9_within x5 0 720)]) [.inl x5, .inl 0, .inl 720] [] (t_X9_within l g S _   x5 0 720) msX9_within (Or.inl tb_603) ⟨Nat.le_of_ble_eq_true rfl, Nat.le_of_ble_eq_true rfl⟩ (Nat.zero_le _) (Nat.zero_le _) rfl rfl (Nat.le_of_ble_eq_true rfl) rfl (dX9_asks 22 rfl) ?_
          refine R_if_ne (tgt := 52) (dX9_asks 23 rfl) (by decide) (fun hc => ?_) (fun hc => ?_)
          · have H := ite_F H hc
            refine R_aload_n (i := 0) (dX9_asks 26 rfl) rfl rfl ?_
            refine R_getR cgX9 0 (cl0 hS) 3 (Nat.le_of_ble_eq_true rfl) rfl (Or.inl tb_556) (dX9_asks 27 rfl) ?_
            refine R_aload_n (i := 0) (dX9_asks 28 rfl) rfl rfl ?_
            refine R_getI cgX9 0 (cl0 hS) 11 (Nat.le_of_ble_eq_true rfl) rfl (Or.inl tb_564) (dX9_asks 29 rfl) ?_
            refine R_iload_n (i := 1) (dX9_asks 30 rfl) rfl rfl ?_
            refine R_aload_n (i := 0) (dX9_asks 31 rfl) rfl rfl ?_
            refine R_getR cgX9 0 (cl0 hS) 1 (Nat.le_of_ble_eq_true rfl) rfl (Or.inl tb_554) (dX9_asks 32 rfl) ?_
            refine R_iload_n (i := 2) (dX9_asks 33 rfl) rfl rfl ?_
            refine R_cV (st' := [.inl (f_X3_priceOf x2 M), .inl x1, .inl (M 0 11), .inr (.inr (some (ad 12)))]) [.inl x2] [.inl x1, .inl (M 0 11), .inr (.inr (some (ad 12)))] (t_X3_priceOf l g ad S _ hS   x2) msX3_priceOf (Or.inl tb_641) (Or.inl ⟨3, 3, _, _, _, (cl3 hS), rfl⟩) ⟨Nat.le_of_ble_eq_true rfl, Nat.le_of_ble_eq_true rfl⟩ (Nat.zero_le _) (Nat.zero_le _) rfl rfl (Nat.le_of_ble_eq_true rfl) rfl (dX9_asks 34 rfl) ?_
            refine R_iload_n (i := 3) (dX9_asks 35 rfl) rfl rfl ?_
            refine R_iload_n (i := 2) (dX9_asks 36 rfl) rfl rfl ?_
            refine R_iload (i := 4) (dX9_asks 37 rfl) rfl ?_
            refine R_iload (i := 5) (dX9_asks 38 rfl) rfl ?_
            obtain ⟨r172, M173, hr, H⟩ := ob_E H
            refine R_cV (st' := [.inl r172]) [.inl (M 0 11), .inl x1, .inl (f_X3_priceOf x2 M), .inl x3, .inl x2, .inl x4, .inl x5] [] (t_X6_says l g ad S _ (q_ag_sub hS (Nat.le_of_ble_eq_true rfl) (Nat.le_of_ble_eq_true rfl))   (M 0 11) x1 (f_X3_priceOf x2 M) x3 x2 x4 x5 hr) msX6_says (Or.inl tb_693) (Or.inl ⟨12, 6, _, _, _, (cl12 hS), rfl⟩) ⟨Nat.le_of_ble_eq_true rfl, Nat.le_of_ble_eq_true rfl⟩ (Nat.zero_le _) (Nat.zero_le _) rfl rfl (Nat.le_of_ble_eq_true rfl) rfl (dX9_asks 39 rfl) ?_
            exact R_iret rfl rfl (Nat.zero_le _) (Nat.zero_le _) (dX9_asks 40 rfl) ⟨congrArg (fun z => some (Sum.inl z)) (Prod.mk.inj (Option.some.inj H)).1, rfl, (Prod.mk.inj (Option.some.inj H)).2⟩
          · have H := ite_T H hc
            refine R_bipush (dX9_asks 24 rfl) rfl rfl ?_
            exact R_iret rfl rfl (Nat.zero_le _) (Nat.zero_le _) (dX9_asks 25 rfl) ⟨congrArg (fun z => some (Sum.inl z)) (Prod.mk.inj (Option.some.inj H)).1, rfl, (Prod.mk.inj (Option.some.inj H)).2⟩
  · have H := ite_T H hc
    refine R_bipush (dX9_asks 4 rfl) rfl rfl ?_
    exact R_iret rfl rfl (Nat.zero_le _) (Nat.zero_le _) (dX9_asks 5 rfl) ⟨congrArg (fun z => some (Sum.inl z)) (Prod.mk.inj (Option.some.inj H)).1, rfl, (Prod.mk.inj (Option.some.inj H)).2⟩
def f_X9_mayBeFact (x1 : Int) (x2 : Int) (x3 : Int) (x4 : Int) (M : Mem) : Int :=
  if f_X9_within x1 0 5 = 0 then
    0
  else
    if f_X9_isLine x2 M = 0 then
      0
    else
      if f_X9_isParts x3 = 0 then
        0
      else
        if f_X9_within x4 0 9 = 0 then
          0
        else
          if x1 = 4 then
            if f_X9_isLine x4 M = 0 then
              0
            else
              1
          else
            1
set_option maxHeartbeats 4000000 in
theorem t_X9_mayBeFact (l : Launch) (g : GG) (ad : Nat → Nat) (S : SW) (M : Mem) (hS : q_ag 0 38 ad S) (x1 : Int) (x2 : Int) (x3 : Int) (x4 : Int) : CT l g MX9_mayBeFact 3 0 0 S M [.inr (.inr (some (ad 0))), .inl x1, .inl x2, .inl x3, .inl x4] (q_ex S (some (.inl (f_X9_mayBeFact x1 x2 x3 x4 M))) M) := by
  obtain ⟨r, H⟩ : ∃ r, f_X9_mayBeFact x1 x2 x3 x4 M = r := ⟨_, rfl⟩
  rw [H]
  unfold f_X9_mayBeFact at H
  refine CT_of (ls0 := [some (.inr (.inr (some (ad 0)))), some (.inl x1), some (.inl x2), some (.inl x3), some (.inl x4)]) (by decide +kernel) (Nat.le_of_ble_eq_true rfl) rfl ?_
  refine R_iload_n (i := 1) (dX9_mayBeFact 0 rfl) rfl rfl ?_
  refine R_iconst (dX9_mayBeFact 1 rfl) rfl ?_
  refine R_iconst (dX9_mayBeFact 2 rfl) rfl ?_
  refine R_cS (st' := [.inl (f_X9_within x1 0 5)]) [.inl x1, .inl 0, .inl 5] [] (t_X9_within l g S _   x1 0 5) msX9_within (Or.inl tb_603) ⟨Nat.le_of_ble_eq_true rfl, Nat.le_of_ble_eq_true rfl⟩ (Nat.zero_le _) (Nat.zero_le _) rfl rfl (Nat.le_of_ble_eq_true rfl) rfl (dX9_mayBeFact 3 rfl) ?_
  refine R_if_eq (tgt := 53) (dX9_mayBeFact 4 rfl) (by decide) (fun hc => ?_) (fun hc => ?_)
  · have H := ite_T H hc
    refine R_iconst (dX9_mayBeFact 26 rfl) rfl ?_
    exact R_iret rfl (by decide +kernel) (Nat.zero_le _) (Nat.zero_le _) (dX9_mayBeFact 27 rfl) ⟨congrArg (fun z => some (Sum.inl z)) H, rfl, rfl⟩
  · have H := ite_F H hc
    refine R_aload_n (i := 0) (dX9_mayBeFact 5 rfl) rfl rfl ?_
    refine R_iload_n (i := 2) (dX9_mayBeFact 6 rfl) rfl rfl ?_
    refine R_cV (st' := [.inl (f_X9_isLine x2 M)]) [.inl x2] [] (t_X9_isLine l g ad S _ hS   x2) msX9_isLine (Or.inl tb_632) (Or.inl ⟨0, 9, _, _, _, (cl0 hS), rfl⟩) ⟨Nat.le_of_ble_eq_true rfl, Nat.le_of_ble_eq_true rfl⟩ (Nat.zero_le _) (Nat.zero_le _) rfl rfl (Nat.le_of_ble_eq_true rfl) rfl (dX9_mayBeFact 7 rfl) ?_
    refine R_if_eq (tgt := 53) (dX9_mayBeFact 8 rfl) (by decide) (fun hc => ?_) (fun hc => ?_)
    · have H := ite_T H hc
      refine R_iconst (dX9_mayBeFact 26 rfl) rfl ?_
      exact R_iret rfl (by decide +kernel) (Nat.zero_le _) (Nat.zero_le _) (dX9_mayBeFact 27 rfl) ⟨congrArg (fun z => some (Sum.inl z)) H, rfl, rfl⟩
    · have H := ite_F H hc
      refine R_iload_n (i := 3) (dX9_mayBeFact 9 rfl) rfl rfl ?_
      refine R_cS (st' := [.inl (f_X9_isParts x3)]) [.inl x3] [] (t_X9_isParts l g ad S _ hS   x3) msX9_isParts (Or.inl tb_654) ⟨Nat.le_of_ble_eq_true rfl, Nat.le_of_ble_eq_true rfl⟩ (Nat.zero_le _) (Nat.zero_le _) rfl rfl (Nat.le_of_ble_eq_true rfl) rfl (dX9_mayBeFact 10 rfl) ?_
      refine R_if_eq (tgt := 53) (dX9_mayBeFact 11 rfl) (by decide) (fun hc => ?_) (fun hc => ?_)
      · have H := ite_T H hc
        refine R_iconst (dX9_mayBeFact 26 rfl) rfl ?_
        exact R_iret rfl (by decide +kernel) (Nat.zero_le _) (Nat.zero_le _) (dX9_mayBeFact 27 rfl) ⟨congrArg (fun z => some (Sum.inl z)) H, rfl, rfl⟩
      · have H := ite_F H hc
        refine R_iload (i := 4) (dX9_mayBeFact 12 rfl) rfl ?_
        refine R_iconst (dX9_mayBeFact 13 rfl) rfl ?_
        refine R_bipush (dX9_mayBeFact 14 rfl) rfl rfl ?_
        refine R_cS (st' := [.inl (f_X9_within x4 0 9)]) [.inl x4, .inl 0, .inl 9] [] (t_X9_within l g S _   x4 0 9) msX9_within (Or.inl tb_603) ⟨Nat.le_of_ble_eq_true rfl, Nat.le_of_ble_eq_true rfl⟩ (Nat.zero_le _) (Nat.zero_le _) rfl rfl (Nat.le_of_ble_eq_true rfl) rfl (dX9_mayBeFact 15 rfl) ?_
        refine R_if_eq (tgt := 53) (dX9_mayBeFact 16 rfl) (by decide) (fun hc => ?_) (fun hc => ?_)
        · have H := ite_T H hc
          refine R_iconst (dX9_mayBeFact 26 rfl) rfl ?_
          exact R_iret rfl (by decide +kernel) (Nat.zero_le _) (Nat.zero_le _) (dX9_mayBeFact 27 rfl) ⟨congrArg (fun z => some (Sum.inl z)) H, rfl, rfl⟩
        · have H := ite_F H hc
          refine R_iload_n (i := 1) (dX9_mayBeFact 17 rfl) rfl rfl ?_
          refine R_iconst (dX9_mayBeFact 18 rfl) rfl ?_
          refine R_icmp_ne (tgt := 49) (dX9_mayBeFact 19 rfl) (by decide) (fun hc => ?_) (fun hc => ?_)
          · have H := ite_F H hc
            refine R_iconst (dX9_mayBeFact 24 rfl) rfl ?_
            refine R_goto (tgt := 54) (dX9_mayBeFact 25 rfl) (by decide) ?_
            exact R_iret rfl (by decide +kernel) (Nat.zero_le _) (Nat.zero_le _) (dX9_mayBeFact 27 rfl) ⟨congrArg (fun z => some (Sum.inl z)) H, rfl, rfl⟩
          · have H := ite_T H hc
            refine R_aload_n (i := 0) (dX9_mayBeFact 20 rfl) rfl rfl ?_
            refine R_iload (i := 4) (dX9_mayBeFact 21 rfl) rfl ?_
            refine R_cV (st' := [.inl (f_X9_isLine x4 M)]) [.inl x4] [] (t_X9_isLine l g ad S _ hS   x4) msX9_isLine (Or.inl tb_632) (Or.inl ⟨0, 9, _, _, _, (cl0 hS), rfl⟩) ⟨Nat.le_of_ble_eq_true rfl, Nat.le_of_ble_eq_true rfl⟩ (Nat.zero_le _) (Nat.zero_le _) rfl rfl (Nat.le_of_ble_eq_true rfl) rfl (dX9_mayBeFact 22 rfl) ?_
            refine R_if_eq (tgt := 53) (dX9_mayBeFact 23 rfl) (by decide) (fun hc => ?_) (fun hc => ?_)
            · have H := ite_T H hc
              refine R_iconst (dX9_mayBeFact 26 rfl) rfl ?_
              exact R_iret rfl (by decide +kernel) (Nat.zero_le _) (Nat.zero_le _) (dX9_mayBeFact 27 rfl) ⟨congrArg (fun z => some (Sum.inl z)) H, rfl, rfl⟩
            · have H := ite_F H hc
              refine R_iconst (dX9_mayBeFact 24 rfl) rfl ?_
              refine R_goto (tgt := 54) (dX9_mayBeFact 25 rfl) (by decide) ?_
              exact R_iret rfl (by decide +kernel) (Nat.zero_le _) (Nat.zero_le _) (dX9_mayBeFact 27 rfl) ⟨congrArg (fun z => some (Sum.inl z)) H, rfl, rfl⟩
theorem z_X9_mayBeFact (x1 : Int) (x2 : Int) (x3 : Int) (x4 : Int) (M : Mem) : f_X9_mayBeFact x1 x2 x3 x4 M = 0 ∨ f_X9_mayBeFact x1 x2 x3 x4 M = 1 := by
  unfold f_X9_mayBeFact
  (repeat' split) <;> first | exact Or.inl rfl | exact Or.inr rfl | exact z_X9_isLine .. | exact z_X9_isParts .. | exact z_X9_within ..
def f_X9_know (x1 : Int) (x2 : Int) (x3 : Int) (x4 : Int) (M : Mem) : Option (Int × Mem) :=
  if f_X9_mayBeFact x1 x2 x3 x4 M = 0 then
    some ((-2), M)
  else
    if M 7 4 < 12 then
      ob (f_X0_add x1 x2 x3 x4 (mset M 0 12 1)) fun r174 M175 =>
      some (r174, M175)
    else
      some ((-4), M)
set_option maxHeartbeats 4000000 in
theorem t_X9_know (l : Launch) (g : GG) (ad : Nat → Nat) (S : SW) (M : Mem) (hS : q_ag 0 38 ad S) (x1 : Int) (x2 : Int) (x3 : Int) (x4 : Int) {r : Int} {M' : Mem} (H : f_X9_know x1 x2 x3 x4 M = some (r, M')) : CT l g MX9_know 4 0 0 S M [.inr (.inr (some (ad 0))), .inl x1, .inl x2, .inl x3, .inl x4] (q_ex S (some (.inl r)) M') := by
  unfold f_X9_know at H
  refine CT_of (ls0 := [some (.inr (.inr (some (ad 0)))), some (.inl x1), some (.inl x2), some (.inl x3), some (.inl x4)]) (by decide +kernel) (Nat.le_of_ble_eq_true rfl) rfl ?_
  refine R_aload_n (i := 0) (dX9_know 0 rfl) rfl rfl ?_
  refine R_iload_n (i := 1) (dX9_know 1 rfl) rfl rfl ?_
  refine R_iload_n (i := 2) (dX9_know 2 rfl) rfl rfl ?_
  refine R_iload_n (i := 3) (dX9_know 3 rfl) rfl rfl ?_
  refine R_iload (i := 4) (dX9_know 4 rfl) rfl ?_
  refine R_cV (st' := [.inl (f_X9_mayBeFact x1 x2 x3 x4 M)]) [.inl x1, .inl x2, .inl x3, .inl x4] [] (t_X9_mayBeFact l g ad S _ hS   x1 x2 x3 x4) msX9_mayBeFact (Or.inl tb_711) (Or.inl ⟨0, 9, _, _, _, (cl0 hS), rfl⟩) ⟨Nat.le_of_ble_eq_true rfl, Nat.le_of_ble_eq_true rfl⟩ (Nat.zero_le _) (Nat.zero_le _) rfl rfl (Nat.le_of_ble_eq_true rfl) rfl (dX9_know 5 rfl) ?_
  refine R_if_ne (tgt := 15) (dX9_know 6 rfl) (by decide) (fun hc => ?_) (fun hc => ?_)
  · have H := ite_F H hc
    refine R_aload_n (i := 0) (dX9_know 9 rfl) rfl rfl ?_
    refine R_getR cgX9 0 (cl0 hS) 2 (Nat.le_of_ble_eq_true rfl) rfl (Or.inl tb_555) (dX9_know 10 rfl) ?_
    refine R_getI cgX0 7 (cl7 hS) 4 (Nat.le_of_ble_eq_true rfl) rfl (Or.inr ⟨_, tb_168⟩) (dX9_know 11 rfl) ?_
    refine R_bipush (dX9_know 12 rfl) rfl rfl ?_
    refine R_icmp_lt (tgt := 30) (dX9_know 13 rfl) (by decide) (fun hc => ?_) (fun hc => ?_)
    · have H := ite_T H hc
      refine R_aload_n (i := 0) (dX9_know 16 rfl) rfl rfl ?_
      refine R_iconst (dX9_know 17 rfl) rfl ?_
      refine R_putI cgX9 0 (cl0 hS) 12 (Nat.le_of_ble_eq_true rfl) rfl (by decide +kernel) (by decide +kernel) rfl (Or.inl tb_565) (dX9_know 18 rfl) ?_
      refine R_aload_n (i := 0) (dX9_know 19 rfl) rfl rfl ?_
      refine R_getR cgX9 0 (cl0 hS) 2 (Nat.le_of_ble_eq_true rfl) rfl (Or.inl tb_555) (dX9_know 20 rfl) ?_
      refine R_iload_n (i := 1) (dX9_know 21 rfl) rfl rfl ?_
      refine R_iload_n (i := 2) (dX9_know 22 rfl) rfl rfl ?_
      refine R_iload_n (i := 3) (dX9_know 23 rfl) rfl rfl ?_
      refine R_iload (i := 4) (dX9_know 24 rfl) rfl ?_
      obtain ⟨r174, M175, hr, H⟩ := ob_E H
      refine R_cV (st' := [.inl r174]) [.inl x1, .inl x2, .inl x3, .inl x4] [] (t_X0_add l g ad S _ hS   x1 x2 x3 x4 hr) msX0_add (Or.inl tb_715) (Or.inl ⟨7, 0, _, _, _, (cl7 hS), rfl⟩) ⟨Nat.le_of_ble_eq_true rfl, Nat.le_of_ble_eq_true rfl⟩ (Nat.zero_le _) (Nat.zero_le _) rfl rfl (Nat.le_of_ble_eq_true rfl) rfl (dX9_know 25 rfl) ?_
      exact R_iret rfl rfl (Nat.zero_le _) (Nat.zero_le _) (dX9_know 26 rfl) ⟨congrArg (fun z => some (Sum.inl z)) (Prod.mk.inj (Option.some.inj H)).1, rfl, (Prod.mk.inj (Option.some.inj H)).2⟩
    · have H := ite_F H hc
      refine R_bipush (dX9_know 14 rfl) rfl rfl ?_
      exact R_iret rfl rfl (Nat.zero_le _) (Nat.zero_le _) (dX9_know 15 rfl) ⟨congrArg (fun z => some (Sum.inl z)) (Prod.mk.inj (Option.some.inj H)).1, rfl, (Prod.mk.inj (Option.some.inj H)).2⟩
  · have H := ite_T H hc
    refine R_bipush (dX9_know 7 rfl) rfl rfl ?_
    exact R_iret rfl rfl (Nat.zero_le _) (Nat.zero_le _) (dX9_know 8 rfl) ⟨congrArg (fun z => some (Sum.inl z)) (Prod.mk.inj (Option.some.inj H)).1, rfl, (Prod.mk.inj (Option.some.inj H)).2⟩
def f_X9_forget (M : Mem) : Option (Int × Mem) :=
  if 0 < M 7 4 then
    if M 31 4 < M 7 4 then
      some ((mset (mset M 7 4 (w32 ((M 7 4) - 1))) 0 12 1) 7 4, (mset (mset M 7 4 (w32 ((M 7 4) - 1))) 0 12 1))
    else
      some ((mset (mset (mset M 31 1 0) 7 4 (w32 (((mset M 31 1 0) 7 4) - 1))) 0 12 1) 7 4, (mset (mset (mset M 31 1 0) 7 4 (w32 (((mset M 31 1 0) 7 4) - 1))) 0 12 1))
  else
    some ((-3), M)
set_option maxHeartbeats 4000000 in
theorem t_X9_forget (l : Launch) (g : GG) (ad : Nat → Nat) (S : SW) (M : Mem) (hS : q_ag 0 38 ad S) {r : Int} {M' : Mem} (H : f_X9_forget M = some (r, M')) : CT l g MX9_forget 1 0 0 S M [.inr (.inr (some (ad 0)))] (q_ex S (some (.inl r)) M') := by
  unfold f_X9_forget at H
  refine CT_of (ls0 := [some (.inr (.inr (some (ad 0))))]) (by decide +kernel) (Nat.le_of_ble_eq_true rfl) rfl ?_
  refine R_aload_n (i := 0) (dX9_forget 0 rfl) rfl rfl ?_
  refine R_getR cgX9 0 (cl0 hS) 2 (Nat.le_of_ble_eq_true rfl) rfl (Or.inl tb_555) (dX9_forget 1 rfl) ?_
  refine R_getI cgX0 7 (cl7 hS) 4 (Nat.le_of_ble_eq_true rfl) rfl (Or.inr ⟨_, tb_168⟩) (dX9_forget 2 rfl) ?_
  refine R_if_gt (tgt := 13) (dX9_forget 3 rfl) (by decide) (fun hc => ?_) (fun hc => ?_)
  · have H := ite_T H hc
    refine R_aload_n (i := 0) (dX9_forget 6 rfl) rfl rfl ?_
    refine R_getR cgX9 0 (cl0 hS) 6 (Nat.le_of_ble_eq_true rfl) rfl (Or.inl tb_559) (dX9_forget 7 rfl) ?_
    refine R_getI cgX2 31 (cl31 hS) 4 (Nat.le_of_ble_eq_true rfl) rfl (Or.inr ⟨_, tb_519⟩) (dX9_forget 8 rfl) ?_
    refine R_aload_n (i := 0) (dX9_forget 9 rfl) rfl rfl ?_
    refine R_getR cgX9 0 (cl0 hS) 2 (Nat.le_of_ble_eq_true rfl) rfl (Or.inl tb_555) (dX9_forget 10 rfl) ?_
    refine R_getI cgX0 7 (cl7 hS) 4 (Nat.le_of_ble_eq_true rfl) rfl (Or.inr ⟨_, tb_168⟩) (dX9_forget 11 rfl) ?_
    refine R_icmp_lt (tgt := 38) (dX9_forget 12 rfl) (by decide) (fun hc => ?_) (fun hc => ?_)
    · have H := ite_T H hc
      refine R_aload_n (i := 0) (dX9_forget 17 rfl) rfl rfl ?_
      refine R_getR cgX9 0 (cl0 hS) 2 (Nat.le_of_ble_eq_true rfl) rfl (Or.inl tb_555) (dX9_forget 18 rfl) ?_
      refine R_dup rfl (dX9_forget 19 rfl) ?_
      refine R_getI cgX0 7 (cl7 hS) 4 (Nat.le_of_ble_eq_true rfl) rfl (Or.inr ⟨_, tb_168⟩) (dX9_forget 20 rfl) ?_
      refine R_iconst (dX9_forget 21 rfl) rfl ?_
      refine R_isub (dX9_forget 22 rfl) ?_
      refine R_putI cgX0 7 (cl7 hS) 4 (Nat.le_of_ble_eq_true rfl) rfl rfl rfl rfl (Or.inr ⟨_, tb_168⟩) (dX9_forget 23 rfl) ?_
      refine R_aload_n (i := 0) (dX9_forget 24 rfl) rfl rfl ?_
      refine R_iconst (dX9_forget 25 rfl) rfl ?_
      refine R_putI cgX9 0 (cl0 hS) 12 (Nat.le_of_ble_eq_true rfl) rfl (by decide +kernel) (by decide +kernel) rfl (Or.inl tb_565) (dX9_forget 26 rfl) ?_
      refine R_aload_n (i := 0) (dX9_forget 27 rfl) rfl rfl ?_
      refine R_getR cgX9 0 (cl0 hS) 2 (Nat.le_of_ble_eq_true rfl) rfl (Or.inl tb_555) (dX9_forget 28 rfl) ?_
      refine R_getI cgX0 7 (cl7 hS) 4 (Nat.le_of_ble_eq_true rfl) rfl (Or.inr ⟨_, tb_168⟩) (dX9_forget 29 rfl) ?_
      exact R_iret rfl rfl (Nat.zero_le _) (Nat.zero_le _) (dX9_forget 30 rfl) ⟨congrArg (fun z => some (Sum.inl z)) (Prod.mk.inj (Option.some.inj H)).1, rfl, (Prod.mk.inj (Option.some.inj H)).2⟩
    · have H := ite_F H hc
      refine R_aload_n (i := 0) (dX9_forget 13 rfl) rfl rfl ?_
      refine R_getR cgX9 0 (cl0 hS) 6 (Nat.le_of_ble_eq_true rfl) rfl (Or.inl tb_559) (dX9_forget 14 rfl) ?_
      refine R_iconst (dX9_forget 15 rfl) rfl ?_
      refine R_putI cgX2 31 (cl31 hS) 1 (Nat.le_of_ble_eq_true rfl) rfl (by decide +kernel) (by decide +kernel) rfl (Or.inr ⟨_, tb_516⟩) (dX9_forget 16 rfl) ?_
      refine R_aload_n (i := 0) (dX9_forget 17 rfl) rfl rfl ?_
      refine R_getR cgX9 0 (cl0 hS) 2 (Nat.le_of_ble_eq_true rfl) rfl (Or.inl tb_555) (dX9_forget 18 rfl) ?_
      refine R_dup rfl (dX9_forget 19 rfl) ?_
      refine R_getI cgX0 7 (cl7 hS) 4 (Nat.le_of_ble_eq_true rfl) rfl (Or.inr ⟨_, tb_168⟩) (dX9_forget 20 rfl) ?_
      refine R_iconst (dX9_forget 21 rfl) rfl ?_
      refine R_isub (dX9_forget 22 rfl) ?_
      refine R_putI cgX0 7 (cl7 hS) 4 (Nat.le_of_ble_eq_true rfl) rfl rfl rfl rfl (Or.inr ⟨_, tb_168⟩) (dX9_forget 23 rfl) ?_
      refine R_aload_n (i := 0) (dX9_forget 24 rfl) rfl rfl ?_
      refine R_iconst (dX9_forget 25 rfl) rfl ?_
      refine R_putI cgX9 0 (cl0 hS) 12 (Nat.le_of_ble_eq_true rfl) rfl (by decide +kernel) (by decide +kernel) rfl (Or.inl tb_565) (dX9_forget 26 rfl) ?_
      refine R_aload_n (i := 0) (dX9_forget 27 rfl) rfl rfl ?_
      refine R_getR cgX9 0 (cl0 hS) 2 (Nat.le_of_ble_eq_true rfl) rfl (Or.inl tb_555) (dX9_forget 28 rfl) ?_
      refine R_getI cgX0 7 (cl7 hS) 4 (Nat.le_of_ble_eq_true rfl) rfl (Or.inr ⟨_, tb_168⟩) (dX9_forget 29 rfl) ?_
      exact R_iret rfl rfl (Nat.zero_le _) (Nat.zero_le _) (dX9_forget 30 rfl) ⟨congrArg (fun z => some (Sum.inl z)) (Prod.mk.inj (Option.some.inj H)).1, rfl, (Prod.mk.inj (Option.some.inj H)).2⟩
  · have H := ite_F H hc
    refine R_bipush (dX9_forget 4 rfl) rfl rfl ?_
    exact R_iret rfl rfl (Nat.zero_le _) (Nat.zero_le _) (dX9_forget 5 rfl) ⟨congrArg (fun z => some (Sum.inl z)) (Prod.mk.inj (Option.some.inj H)).1, rfl, (Prod.mk.inj (Option.some.inj H)).2⟩
def f_X9_factTold (x1 : Int) (x2 : Int) (M : Mem) : Int :=
  if f_X9_within x1 0 (w32 ((M 7 4) - 1)) = 0 then
    (-5)
  else
    if x2 = 0 then
      rd 12 (M 8) x1
    else if x2 = 1 then
      rd 12 (M 9) x1
    else if x2 = 2 then
      rd 12 (M 10) x1
    else if x2 = 3 then
      rd 12 (M 11) x1
    else
      (-7)
set_option maxHeartbeats 4000000 in
theorem t_X9_factTold (l : Launch) (g : GG) (ad : Nat → Nat) (S : SW) (M : Mem) (hS : q_ag 0 38 ad S) (x1 : Int) (x2 : Int) : CT l g MX9_factTold 2 0 0 S M [.inr (.inr (some (ad 0))), .inl x1, .inl x2] (q_ex S (some (.inl (f_X9_factTold x1 x2 M))) M) := by
  obtain ⟨r, H⟩ : ∃ r, f_X9_factTold x1 x2 M = r := ⟨_, rfl⟩
  rw [H]
  unfold f_X9_factTold at H
  refine CT_of (ls0 := [some (.inr (.inr (some (ad 0)))), some (.inl x1), some (.inl x2)]) (by decide +kernel) (Nat.le_of_ble_eq_true rfl) rfl ?_
  refine R_iload_n (i := 1) (dX9_factTold 0 rfl) rfl rfl ?_
  refine R_iconst (dX9_factTold 1 rfl) rfl ?_
  refine R_aload_n (i := 0) (dX9_factTold 2 rfl) rfl rfl ?_
  refine R_getR cgX9 0 (cl0 hS) 2 (Nat.le_of_ble_eq_true rfl) rfl (Or.inl tb_555) (dX9_factTold 3 rfl) ?_
  refine R_getI cgX0 7 (cl7 hS) 4 (Nat.le_of_ble_eq_true rfl) rfl (Or.inr ⟨_, tb_168⟩) (dX9_factTold 4 rfl) ?_
  refine R_iconst (dX9_factTold 5 rfl) rfl ?_
  refine R_isub (dX9_factTold 6 rfl) ?_
  refine R_cS (st' := [.inl (f_X9_within x1 0 (w32 ((M 7 4) - 1)))]) [.inl x1, .inl 0, .inl (w32 ((M 7 4) - 1))] [] (t_X9_within l g S _   x1 0 (w32 ((M 7 4) - 1))) msX9_within (Or.inl tb_603) ⟨Nat.le_of_ble_eq_true rfl, Nat.le_of_ble_eq_true rfl⟩ (Nat.zero_le _) (Nat.zero_le _) rfl rfl (Nat.le_of_ble_eq_true rfl) rfl (dX9_factTold 7 rfl) ?_
  refine R_if_ne (tgt := 20) (dX9_factTold 8 rfl) (by decide) (fun hc => ?_) (fun hc => ?_)
  · have H := ite_F H hc
    refine R_iload_n (i := 2) (dX9_factTold 11 rfl) rfl rfl ?_
    by_cases hc0 : x2 = 0
    · have H := ite_T H hc0
      refine R_tsIn (c0 := 0) (tgt := 52) (dX9_factTold 12 rfl) hc0 (by decide) (by decide) rfl (by decide) ?_
      refine R_aload_n (i := 0) (dX9_factTold 13 rfl) rfl rfl ?_
      refine R_getR cgX9 0 (cl0 hS) 2 (Nat.le_of_ble_eq_true rfl) rfl (Or.inl tb_555) (dX9_factTold 14 rfl) ?_
      refine R_getR cgX0 7 (cl7 hS) 0 (Nat.le_of_ble_eq_true rfl) rfl (Or.inr ⟨_, tb_160⟩) (dX9_factTold 15 rfl) ?_
      refine R_iload_n (i := 1) (dX9_factTold 16 rfl) rfl rfl ?_
      refine R_cS (st' := [.inl (rd 12 (M 8) x1)]) [.inr (.inr (some (ad 8))), .inl x1] [] (t_at l g S _ 8 (cl8 hS) (Nat.le_of_ble_eq_true rfl) x1) msX9_at (Or.inl tb_663) ⟨Nat.le_of_ble_eq_true rfl, Nat.le_of_ble_eq_true rfl⟩ (Nat.zero_le _) (Nat.zero_le _) rfl rfl (Nat.le_of_ble_eq_true rfl) rfl (dX9_factTold 17 rfl) ?_
      exact R_iret rfl rfl (Nat.zero_le _) (Nat.zero_le _) (dX9_factTold 18 rfl) ⟨congrArg (fun z => some (Sum.inl z)) H, rfl, rfl⟩
    have H := ite_F H hc0
    by_cases hc1 : x2 = 1
    · have H := ite_T H hc1
      refine R_tsIn (c0 := 1) (tgt := 64) (dX9_factTold 12 rfl) hc1 (by decide) (by decide) rfl (by decide) ?_
      refine R_aload_n (i := 0) (dX9_factTold 19 rfl) rfl rfl ?_
      refine R_getR cgX9 0 (cl0 hS) 2 (Nat.le_of_ble_eq_true rfl) rfl (Or.inl tb_555) (dX9_factTold 20 rfl) ?_
      refine R_getR cgX0 7 (cl7 hS) 1 (Nat.le_of_ble_eq_true rfl) rfl (Or.inr ⟨_, tb_162⟩) (dX9_factTold 21 rfl) ?_
      refine R_iload_n (i := 1) (dX9_factTold 22 rfl) rfl rfl ?_
      refine R_cS (st' := [.inl (rd 12 (M 9) x1)]) [.inr (.inr (some (ad 9))), .inl x1] [] (t_at l g S _ 9 (cl9 hS) (Nat.le_of_ble_eq_true rfl) x1) msX9_at (Or.inl tb_663) ⟨Nat.le_of_ble_eq_true rfl, Nat.le_of_ble_eq_true rfl⟩ (Nat.zero_le _) (Nat.zero_le _) rfl rfl (Nat.le_of_ble_eq_true rfl) rfl (dX9_factTold 23 rfl) ?_
      exact R_iret rfl rfl (Nat.zero_le _) (Nat.zero_le _) (dX9_factTold 24 rfl) ⟨congrArg (fun z => some (Sum.inl z)) H, rfl, rfl⟩
    have H := ite_F H hc1
    by_cases hc2 : x2 = 2
    · have H := ite_T H hc2
      refine R_tsIn (c0 := 2) (tgt := 76) (dX9_factTold 12 rfl) hc2 (by decide) (by decide) rfl (by decide) ?_
      refine R_aload_n (i := 0) (dX9_factTold 25 rfl) rfl rfl ?_
      refine R_getR cgX9 0 (cl0 hS) 2 (Nat.le_of_ble_eq_true rfl) rfl (Or.inl tb_555) (dX9_factTold 26 rfl) ?_
      refine R_getR cgX0 7 (cl7 hS) 2 (Nat.le_of_ble_eq_true rfl) rfl (Or.inr ⟨_, tb_164⟩) (dX9_factTold 27 rfl) ?_
      refine R_iload_n (i := 1) (dX9_factTold 28 rfl) rfl rfl ?_
      refine R_cS (st' := [.inl (rd 12 (M 10) x1)]) [.inr (.inr (some (ad 10))), .inl x1] [] (t_at l g S _ 10 (cl10 hS) (Nat.le_of_ble_eq_true rfl) x1) msX9_at (Or.inl tb_663) ⟨Nat.le_of_ble_eq_true rfl, Nat.le_of_ble_eq_true rfl⟩ (Nat.zero_le _) (Nat.zero_le _) rfl rfl (Nat.le_of_ble_eq_true rfl) rfl (dX9_factTold 29 rfl) ?_
      exact R_iret rfl rfl (Nat.zero_le _) (Nat.zero_le _) (dX9_factTold 30 rfl) ⟨congrArg (fun z => some (Sum.inl z)) H, rfl, rfl⟩
    have H := ite_F H hc2
    by_cases hc3 : x2 = 3
    · have H := ite_T H hc3
      refine R_tsIn (c0 := 3) (tgt := 88) (dX9_factTold 12 rfl) hc3 (by decide) (by decide) rfl (by decide) ?_
      refine R_aload_n (i := 0) (dX9_factTold 31 rfl) rfl rfl ?_
      refine R_getR cgX9 0 (cl0 hS) 2 (Nat.le_of_ble_eq_true rfl) rfl (Or.inl tb_555) (dX9_factTold 32 rfl) ?_
      refine R_getR cgX0 7 (cl7 hS) 3 (Nat.le_of_ble_eq_true rfl) rfl (Or.inr ⟨_, tb_166⟩) (dX9_factTold 33 rfl) ?_
      refine R_iload_n (i := 1) (dX9_factTold 34 rfl) rfl rfl ?_
      refine R_cS (st' := [.inl (rd 12 (M 11) x1)]) [.inr (.inr (some (ad 11))), .inl x1] [] (t_at l g S _ 11 (cl11 hS) (Nat.le_of_ble_eq_true rfl) x1) msX9_at (Or.inl tb_663) ⟨Nat.le_of_ble_eq_true rfl, Nat.le_of_ble_eq_true rfl⟩ (Nat.zero_le _) (Nat.zero_le _) rfl rfl (Nat.le_of_ble_eq_true rfl) rfl (dX9_factTold 35 rfl) ?_
      exact R_iret rfl rfl (Nat.zero_le _) (Nat.zero_le _) (dX9_factTold 36 rfl) ⟨congrArg (fun z => some (Sum.inl z)) H, rfl, rfl⟩
    have H := ite_F H hc3
    refine R_tsOut (tgt := 100) (dX9_factTold 12 rfl) (by omega) (by decide) ?_
    refine R_bipush (dX9_factTold 37 rfl) rfl rfl ?_
    exact R_iret rfl rfl (Nat.zero_le _) (Nat.zero_le _) (dX9_factTold 38 rfl) ⟨congrArg (fun z => some (Sum.inl z)) H, rfl, rfl⟩
  · have H := ite_T H hc
    refine R_bipush (dX9_factTold 9 rfl) rfl rfl ?_
    exact R_iret rfl rfl (Nat.zero_le _) (Nat.zero_le _) (dX9_factTold 10 rfl) ⟨congrArg (fun z => some (Sum.inl z)) H, rfl, rfl⟩
def f_X9_fitting (M : Mem) : Option (Int × Mem) :=
  if M 0 12 = 0 then
    some (0, M)
  else
    ob (f_X1_find (M 0 11) M) fun r176 M177 =>
    some (0, (mset M177 0 12 0))
set_option maxHeartbeats 4000000 in
theorem t_X9_fitting (l : Launch) (g : GG) (ad : Nat → Nat) (S : SW) (M : Mem) (hS : q_ag 0 38 ad S) {r : Int} {M' : Mem} (H : f_X9_fitting M = some (r, M')) : CT l g MX9_fitting 6 0 0 S M [.inr (.inr (some (ad 0)))] (q_ex S (some (.inr (.inr (some (ad 21))))) M') := by
  unfold f_X9_fitting at H
  refine CT_of (ls0 := [some (.inr (.inr (some (ad 0))))]) (by decide +kernel) (Nat.le_of_ble_eq_true rfl) rfl ?_
  refine R_aload_n (i := 0) (dX9_fitting 0 rfl) rfl rfl ?_
  refine R_getI cgX9 0 (cl0 hS) 12 (Nat.le_of_ble_eq_true rfl) rfl (Or.inl tb_565) (dX9_fitting 1 rfl) ?_
  refine R_if_eq (tgt := 39) (dX9_fitting 2 rfl) (by decide) (fun hc => ?_) (fun hc => ?_)
  · have H := ite_T H hc
    refine R_aload_n (i := 0) (dX9_fitting 19 rfl) rfl rfl ?_
    refine R_getR cgX9 0 (cl0 hS) 4 (Nat.le_of_ble_eq_true rfl) rfl (Or.inl tb_557) (dX9_fitting 20 rfl) ?_
    exact R_aret rfl (Or.inl ⟨_, rfl⟩) (Nat.zero_le _) (Nat.zero_le _) (dX9_fitting 21 rfl) ⟨rfl, rfl, (Prod.mk.inj (Option.some.inj H)).2⟩
  · have H := ite_F H hc
    refine R_aload_n (i := 0) (dX9_fitting 3 rfl) rfl rfl ?_
    refine R_getR cgX9 0 (cl0 hS) 4 (Nat.le_of_ble_eq_true rfl) rfl (Or.inl tb_557) (dX9_fitting 4 rfl) ?_
    refine R_aload_n (i := 0) (dX9_fitting 5 rfl) rfl rfl ?_
    refine R_getR cgX9 0 (cl0 hS) 0 (Nat.le_of_ble_eq_true rfl) rfl (Or.inl tb_553) (dX9_fitting 6 rfl) ?_
    refine R_aload_n (i := 0) (dX9_fitting 7 rfl) rfl rfl ?_
    refine R_getR cgX9 0 (cl0 hS) 1 (Nat.le_of_ble_eq_true rfl) rfl (Or.inl tb_554) (dX9_fitting 8 rfl) ?_
    refine R_aload_n (i := 0) (dX9_fitting 9 rfl) rfl rfl ?_
    refine R_getR cgX9 0 (cl0 hS) 2 (Nat.le_of_ble_eq_true rfl) rfl (Or.inl tb_555) (dX9_fitting 10 rfl) ?_
    refine R_aload_n (i := 0) (dX9_fitting 11 rfl) rfl rfl ?_
    refine R_getR cgX9 0 (cl0 hS) 3 (Nat.le_of_ble_eq_true rfl) rfl (Or.inl tb_556) (dX9_fitting 12 rfl) ?_
    refine R_aload_n (i := 0) (dX9_fitting 13 rfl) rfl rfl ?_
    refine R_getI cgX9 0 (cl0 hS) 11 (Nat.le_of_ble_eq_true rfl) rfl (Or.inl tb_564) (dX9_fitting 14 rfl) ?_
    obtain ⟨r176, M177, hr, H⟩ := ob_E H
    refine R_cV (st' := []) [.inr (.inr (some (ad 1))), .inr (.inr (some (ad 3))), .inr (.inr (some (ad 7))), .inr (.inr (some (ad 12))), .inl (M 0 11)] [] (t_X1_find l g ad S _ hS   (M 0 11) hr) msX1_find (Or.inl tb_736) (Or.inl ⟨21, 1, _, _, _, (cl21 hS), rfl⟩) ⟨Nat.le_of_ble_eq_true rfl, Nat.le_of_ble_eq_true rfl⟩ (Nat.zero_le _) (Nat.zero_le _) rfl rfl (Nat.le_of_ble_eq_true rfl) rfl (dX9_fitting 15 rfl) ?_
    refine R_aload_n (i := 0) (dX9_fitting 16 rfl) rfl rfl ?_
    refine R_iconst (dX9_fitting 17 rfl) rfl ?_
    refine R_putI cgX9 0 (cl0 hS) 12 (Nat.le_of_ble_eq_true rfl) rfl (by decide +kernel) (by decide +kernel) rfl (Or.inl tb_565) (dX9_fitting 18 rfl) ?_
    refine R_aload_n (i := 0) (dX9_fitting 19 rfl) rfl rfl ?_
    refine R_getR cgX9 0 (cl0 hS) 4 (Nat.le_of_ble_eq_true rfl) rfl (Or.inl tb_557) (dX9_fitting 20 rfl) ?_
    exact R_aret rfl (Or.inl ⟨_, rfl⟩) (Nat.zero_le _) (Nat.zero_le _) (dX9_fitting 21 rfl) ⟨rfl, rfl, (Prod.mk.inj (Option.some.inj H)).2⟩
def f_X9_sets (M : Mem) : Option (Int × Mem) :=
  ob (f_X9_fitting M) fun r178 M179 =>
  some (M179 21 5, M179)
set_option maxHeartbeats 4000000 in
theorem t_X9_sets (l : Launch) (g : GG) (ad : Nat → Nat) (S : SW) (M : Mem) (hS : q_ag 0 38 ad S) {r : Int} {M' : Mem} (H : f_X9_sets M = some (r, M')) : CT l g MX9_sets 7 0 0 S M [.inr (.inr (some (ad 0)))] (q_ex S (some (.inl r)) M') := by
  unfold f_X9_sets at H
  refine CT_of (ls0 := [some (.inr (.inr (some (ad 0))))]) (by decide +kernel) (Nat.le_of_ble_eq_true rfl) rfl ?_
  refine R_aload_n (i := 0) (dX9_sets 0 rfl) rfl rfl ?_
  obtain ⟨r178, M179, hr, H⟩ := ob_E H
  refine R_cV (st' := [.inr (.inr (some (ad 21)))]) [] [] (t_X9_fitting l g ad S _ hS   hr) msX9_fitting (Or.inl tb_732) (Or.inl ⟨0, 9, _, _, _, (cl0 hS), rfl⟩) ⟨Nat.le_of_ble_eq_true rfl, Nat.le_of_ble_eq_true rfl⟩ (Nat.zero_le _) (Nat.zero_le _) rfl rfl (Nat.le_of_ble_eq_true rfl) rfl (dX9_sets 1 rfl) ?_
  refine R_getI cgX1 21 (cl21 hS) 5 (Nat.le_of_ble_eq_true rfl) rfl (Or.inr ⟨_, tb_465⟩) (dX9_sets 2 rfl) ?_
  exact R_iret rfl rfl (Nat.zero_le _) (Nat.zero_le _) (dX9_sets 3 rfl) ⟨congrArg (fun z => some (Sum.inl z)) (Prod.mk.inj (Option.some.inj H)).1, rfl, (Prod.mk.inj (Option.some.inj H)).2⟩
def f_X9_isSign (x0 : Int) : Int :=
  f_X9_within x0 0 5
set_option maxHeartbeats 4000000 in
theorem t_X9_isSign (l : Launch) (g : GG) (ad : Nat → Nat) (S : SW) (M : Mem) (hS : q_ag 0 38 ad S) (x0 : Int) : CT l g MX9_isSign 2 0 0 S M [.inl x0] (q_ex S (some (.inl (f_X9_isSign x0))) M) := by
  obtain ⟨r, H⟩ : ∃ r, f_X9_isSign x0 = r := ⟨_, rfl⟩
  rw [H]
  unfold f_X9_isSign at H
  refine CT_of (ls0 := [some (.inl x0)]) (by decide +kernel) (Nat.le_of_ble_eq_true rfl) rfl ?_
  refine R_iload_n (i := 0) (dX9_isSign 0 rfl) rfl rfl ?_
  refine R_iconst (dX9_isSign 1 rfl) rfl ?_
  refine R_iconst (dX9_isSign 2 rfl) rfl ?_
  refine R_cS (st' := [.inl (f_X9_within x0 0 5)]) [.inl x0, .inl 0, .inl 5] [] (t_X9_within l g S _   x0 0 5) msX9_within (Or.inl tb_603) ⟨Nat.le_of_ble_eq_true rfl, Nat.le_of_ble_eq_true rfl⟩ (Nat.zero_le _) (Nat.zero_le _) rfl rfl (Nat.le_of_ble_eq_true rfl) rfl (dX9_isSign 3 rfl) ?_
  exact R_iret rfl (q_nbz (z_X9_within x0 0 5)) (Nat.zero_le _) (Nat.zero_le _) (dX9_isSign 4 rfl) ⟨congrArg (fun z => some (Sum.inl z)) H, rfl, rfl⟩
theorem z_X9_isSign (x0 : Int) : f_X9_isSign x0 = 0 ∨ f_X9_isSign x0 = 1 := by
  unfold f_X9_isSign
  (repeat' split) <;> first | exact Or.inl rfl | exact Or.inr rfl | exact z_X9_within ..
def f_X9_first (x1 : Int) (M : Mem) : Option (Int × Mem) :=
  if f_X9_isSign x1 = 0 then
    some ((-5), M)
  else
    ob (f_X9_fitting M) fun r180 M181 =>
    if M181 21 5 = 0 then
      some ((-1), M181)
    else
      some (f_X7_partOf (f_X1_tongueOf 0 M181) x1 M181, M181)
set_option maxHeartbeats 4000000 in
theorem t_X9_first (l : Launch) (g : GG) (ad : Nat → Nat) (S : SW) (M : Mem) (hS : q_ag 0 38 ad S) (x1 : Int) {r : Int} {M' : Mem} (H : f_X9_first x1 M = some (r, M')) : CT l g MX9_first 7 0 0 S M [.inr (.inr (some (ad 0))), .inl x1] (q_ex S (some (.inl r)) M') := by
  unfold f_X9_first at H
  refine CT_of (ls0 := [some (.inr (.inr (some (ad 0)))), some (.inl x1), none]) (by decide +kernel) (Nat.le_of_ble_eq_true rfl) rfl ?_
  refine R_iload_n (i := 1) (dX9_first 0 rfl) rfl rfl ?_
  refine R_cS (st' := [.inl (f_X9_isSign x1)]) [.inl x1] [] (t_X9_isSign l g ad S _ hS   x1) msX9_isSign (Or.inl tb_780) ⟨Nat.le_of_ble_eq_true rfl, Nat.le_of_ble_eq_true rfl⟩ (Nat.zero_le _) (Nat.zero_le _) rfl rfl (Nat.le_of_ble_eq_true rfl) rfl (dX9_first 1 rfl) ?_
  refine R_if_ne (tgt := 10) (dX9_first 2 rfl) (by decide) (fun hc => ?_) (fun hc => ?_)
  · have H := ite_F H hc
    refine R_aload_n (i := 0) (dX9_first 5 rfl) rfl rfl ?_
    obtain ⟨r180, M181, hr, H⟩ := ob_E H
    refine R_cV (st' := [.inr (.inr (some (ad 21)))]) [] [] (t_X9_fitting l g ad S _ hS   hr) msX9_fitting (Or.inl tb_732) (Or.inl ⟨0, 9, _, _, _, (cl0 hS), rfl⟩) ⟨Nat.le_of_ble_eq_true rfl, Nat.le_of_ble_eq_true rfl⟩ (Nat.zero_le _) (Nat.zero_le _) rfl rfl (Nat.le_of_ble_eq_true rfl) rfl (dX9_first 6 rfl) ?_
    refine R_astore_n (i := 2) (ls' := [some (.inr (.inr (some (ad 0)))), some (.inl x1), some (.inr (.inr (some (ad 21))))]) (dX9_first 7 rfl) rfl (Nat.le_of_ble_eq_true rfl) (Nat.le_of_ble_eq_true rfl) rfl rfl ?_
    refine R_aload_n (i := 2) (dX9_first 8 rfl) rfl rfl ?_
    refine R_getI cgX1 21 (cl21 hS) 5 (Nat.le_of_ble_eq_true rfl) rfl (Or.inr ⟨_, tb_465⟩) (dX9_first 9 rfl) ?_
    refine R_if_ne (tgt := 26) (dX9_first 10 rfl) (by decide) (fun hc => ?_) (fun hc => ?_)
    · have H := ite_F H hc
      refine R_aload_n (i := 0) (dX9_first 13 rfl) rfl rfl ?_
      refine R_getR cgX9 0 (cl0 hS) 0 (Nat.le_of_ble_eq_true rfl) rfl (Or.inl tb_553) (dX9_first 14 rfl) ?_
      refine R_aload_n (i := 2) (dX9_first 15 rfl) rfl rfl ?_
      refine R_iconst (dX9_first 16 rfl) rfl ?_
      refine R_cV (st' := [.inl (f_X1_tongueOf 0 M181), .inr (.inr (some (ad 1)))]) [.inl 0] [.inr (.inr (some (ad 1)))] (t_X1_tongueOf l g ad S _ hS   0) msX1_tongueOf (Or.inl tb_783) (Or.inl ⟨21, 1, _, _, _, (cl21 hS), rfl⟩) ⟨Nat.le_of_ble_eq_true rfl, Nat.le_of_ble_eq_true rfl⟩ (Nat.zero_le _) (Nat.zero_le _) rfl rfl (Nat.le_of_ble_eq_true rfl) rfl (dX9_first 17 rfl) ?_
      refine R_iload_n (i := 1) (dX9_first 18 rfl) rfl rfl ?_
      refine R_cV (st' := [.inl (f_X7_partOf (f_X1_tongueOf 0 M181) x1 M181)]) [.inl (f_X1_tongueOf 0 M181), .inl x1] [] (t_X7_partOf l g ad S _ (q_ag_sub hS (Nat.le_of_ble_eq_true rfl) (Nat.le_of_ble_eq_true rfl))   (f_X1_tongueOf 0 M181) x1) msX7_partOf (Or.inl tb_787) (Or.inl ⟨1, 7, _, _, _, (cl1 hS), rfl⟩) ⟨Nat.le_of_ble_eq_true rfl, Nat.le_of_ble_eq_true rfl⟩ (Nat.zero_le _) (Nat.zero_le _) rfl rfl (Nat.le_of_ble_eq_true rfl) rfl (dX9_first 19 rfl) ?_
      exact R_iret rfl rfl (Nat.zero_le _) (Nat.zero_le _) (dX9_first 20 rfl) ⟨congrArg (fun z => some (Sum.inl z)) (Prod.mk.inj (Option.some.inj H)).1, rfl, (Prod.mk.inj (Option.some.inj H)).2⟩
    · have H := ite_T H hc
      refine R_iconst (dX9_first 11 rfl) rfl ?_
      refine R_goto (tgt := 39) (dX9_first 12 rfl) (by decide) ?_
      exact R_iret rfl rfl (Nat.zero_le _) (Nat.zero_le _) (dX9_first 20 rfl) ⟨congrArg (fun z => some (Sum.inl z)) (Prod.mk.inj (Option.some.inj H)).1, rfl, (Prod.mk.inj (Option.some.inj H)).2⟩
  · have H := ite_T H hc
    refine R_bipush (dX9_first 3 rfl) rfl rfl ?_
    exact R_iret rfl rfl (Nat.zero_le _) (Nat.zero_le _) (dX9_first 4 rfl) ⟨congrArg (fun z => some (Sum.inl z)) (Prod.mk.inj (Option.some.inj H)).1, rfl, (Prod.mk.inj (Option.some.inj H)).2⟩
def f_X9_isPart (x0 : Int) : Int :=
  f_X9_within x0 0 5
set_option maxHeartbeats 4000000 in
theorem t_X9_isPart (l : Launch) (g : GG) (ad : Nat → Nat) (S : SW) (M : Mem) (hS : q_ag 0 38 ad S) (x0 : Int) : CT l g MX9_isPart 2 0 0 S M [.inl x0] (q_ex S (some (.inl (f_X9_isPart x0))) M) := by
  obtain ⟨r, H⟩ : ∃ r, f_X9_isPart x0 = r := ⟨_, rfl⟩
  rw [H]
  unfold f_X9_isPart at H
  refine CT_of (ls0 := [some (.inl x0)]) (by decide +kernel) (Nat.le_of_ble_eq_true rfl) rfl ?_
  refine R_iload_n (i := 0) (dX9_isPart 0 rfl) rfl rfl ?_
  refine R_iconst (dX9_isPart 1 rfl) rfl ?_
  refine R_iconst (dX9_isPart 2 rfl) rfl ?_
  refine R_cS (st' := [.inl (f_X9_within x0 0 5)]) [.inl x0, .inl 0, .inl 5] [] (t_X9_within l g S _   x0 0 5) msX9_within (Or.inl tb_603) ⟨Nat.le_of_ble_eq_true rfl, Nat.le_of_ble_eq_true rfl⟩ (Nat.zero_le _) (Nat.zero_le _) rfl rfl (Nat.le_of_ble_eq_true rfl) rfl (dX9_isPart 3 rfl) ?_
  exact R_iret rfl (q_nbz (z_X9_within x0 0 5)) (Nat.zero_le _) (Nat.zero_le _) (dX9_isPart 4 rfl) ⟨congrArg (fun z => some (Sum.inl z)) H, rfl, rfl⟩
theorem z_X9_isPart (x0 : Int) : f_X9_isPart x0 = 0 ∨ f_X9_isPart x0 = 1 := by
  unfold f_X9_isPart
  (repeat' split) <;> first | exact Or.inl rfl | exact Or.inr rfl | exact z_X9_within ..
def f_X9_means (x1 : Int) (x2 : Int) (M : Mem) : Option (Int × Mem) :=
  if f_X9_isSign x1 = 0 then
    some ((-5), M)
  else
    if f_X9_isPart x2 = 0 then
      some ((-5), M)
    else
      ob (f_X9_fitting M) fun r182 M183 =>
      some (f_X1_meaning x1 x2 M183, M183)
set_option maxHeartbeats 4000000 in
theorem t_X9_means (l : Launch) (g : GG) (ad : Nat → Nat) (S : SW) (M : Mem) (hS : q_ag 0 38 ad S) (x1 : Int) (x2 : Int) {r : Int} {M' : Mem} (H : f_X9_means x1 x2 M = some (r, M')) : CT l g MX9_means 7 0 0 S M [.inr (.inr (some (ad 0))), .inl x1, .inl x2] (q_ex S (some (.inl r)) M') := by
  unfold f_X9_means at H
  refine CT_of (ls0 := [some (.inr (.inr (some (ad 0)))), some (.inl x1), some (.inl x2)]) (by decide +kernel) (Nat.le_of_ble_eq_true rfl) rfl ?_
  refine R_iload_n (i := 1) (dX9_means 0 rfl) rfl rfl ?_
  refine R_cS (st' := [.inl (f_X9_isSign x1)]) [.inl x1] [] (t_X9_isSign l g ad S _ hS   x1) msX9_isSign (Or.inl tb_780) ⟨Nat.le_of_ble_eq_true rfl, Nat.le_of_ble_eq_true rfl⟩ (Nat.zero_le _) (Nat.zero_le _) rfl rfl (Nat.le_of_ble_eq_true rfl) rfl (dX9_means 1 rfl) ?_
  refine R_if_eq (tgt := 26) (dX9_means 2 rfl) (by decide) (fun hc => ?_) (fun hc => ?_)
  · have H := ite_T H hc
    refine R_bipush (dX9_means 12 rfl) rfl rfl ?_
    exact R_iret rfl rfl (Nat.zero_le _) (Nat.zero_le _) (dX9_means 13 rfl) ⟨congrArg (fun z => some (Sum.inl z)) (Prod.mk.inj (Option.some.inj H)).1, rfl, (Prod.mk.inj (Option.some.inj H)).2⟩
  · have H := ite_F H hc
    refine R_iload_n (i := 2) (dX9_means 3 rfl) rfl rfl ?_
    refine R_cS (st' := [.inl (f_X9_isPart x2)]) [.inl x2] [] (t_X9_isPart l g ad S _ hS   x2) msX9_isPart (Or.inl tb_792) ⟨Nat.le_of_ble_eq_true rfl, Nat.le_of_ble_eq_true rfl⟩ (Nat.zero_le _) (Nat.zero_le _) rfl rfl (Nat.le_of_ble_eq_true rfl) rfl (dX9_means 4 rfl) ?_
    refine R_if_eq (tgt := 26) (dX9_means 5 rfl) (by decide) (fun hc => ?_) (fun hc => ?_)
    · have H := ite_T H hc
      refine R_bipush (dX9_means 12 rfl) rfl rfl ?_
      exact R_iret rfl rfl (Nat.zero_le _) (Nat.zero_le _) (dX9_means 13 rfl) ⟨congrArg (fun z => some (Sum.inl z)) (Prod.mk.inj (Option.some.inj H)).1, rfl, (Prod.mk.inj (Option.some.inj H)).2⟩
    · have H := ite_F H hc
      refine R_aload_n (i := 0) (dX9_means 6 rfl) rfl rfl ?_
      obtain ⟨r182, M183, hr, H⟩ := ob_E H
      refine R_cV (st' := [.inr (.inr (some (ad 21)))]) [] [] (t_X9_fitting l g ad S _ hS   hr) msX9_fitting (Or.inl tb_732) (Or.inl ⟨0, 9, _, _, _, (cl0 hS), rfl⟩) ⟨Nat.le_of_ble_eq_true rfl, Nat.le_of_ble_eq_true rfl⟩ (Nat.zero_le _) (Nat.zero_le _) rfl rfl (Nat.le_of_ble_eq_true rfl) rfl (dX9_means 7 rfl) ?_
      refine R_iload_n (i := 1) (dX9_means 8 rfl) rfl rfl ?_
      refine R_iload_n (i := 2) (dX9_means 9 rfl) rfl rfl ?_
      refine R_cV (st' := [.inl (f_X1_meaning x1 x2 M183)]) [.inl x1, .inl x2] [] (t_X1_meaning l g ad S _ hS   x1 x2) msX1_meaning (Or.inl tb_795) (Or.inl ⟨21, 1, _, _, _, (cl21 hS), rfl⟩) ⟨Nat.le_of_ble_eq_true rfl, Nat.le_of_ble_eq_true rfl⟩ (Nat.zero_le _) (Nat.zero_le _) rfl rfl (Nat.le_of_ble_eq_true rfl) rfl (dX9_means 10 rfl) ?_
      refine R_goto (tgt := 28) (dX9_means 11 rfl) (by decide) ?_
      exact R_iret rfl rfl (Nat.zero_le _) (Nat.zero_le _) (dX9_means 13 rfl) ⟨congrArg (fun z => some (Sum.inl z)) (Prod.mk.inj (Option.some.inj H)).1, rfl, (Prod.mk.inj (Option.some.inj H)).2⟩
def f_X9_sure_L17 (x1 : Int) : Nat → Int → Mem → Option (Int × Mem)
  | 0, _, _ => none
  | n + 1, x3, M =>
    if x3 < 6 then
      if 0 < M 21 5 then
        if f_X1_meaning x1 x3 M = M 21 5 then
          some (x3, M)
        else
          f_X9_sure_L17 x1 n (w32 (x3 + 1)) M
      else
        some ((-1), M)
    else
      some ((-1), M)
set_option maxHeartbeats 4000000 in
theorem t_X9_sure_L17 (l : Launch) (g : GG) (ad : Nat → Nat) (S : SW) (hS : q_ag 0 38 ad S) (x1 : Int) {r : Int} {M' : Mem} : ∀ (n : Nat) (x3 : Int) (M : Mem), f_X9_sure_L17 x1 n x3 M = some (r, M') → RW l g MX9_sure (q_rm 7 0 0) 0 0 (q_ex S (some (.inl r)) M') 17 S M 0 0 [none, some (.inl x1), some (.inr (.inr (some (ad 21)))), some (.inl x3)] [] := by
  intro n
  induction n with
  | zero => intro x3 M H; exact absurd H (by simp [f_X9_sure_L17])
  | succ n ih =>
    intro x3 M H
    rw [f_X9_sure_L17] at H
    refine R_iload_n (i := 3) (dX9_sure 10 rfl) rfl rfl ?_
    refine R_bipush (dX9_sure 11 rfl) rfl rfl ?_
    refine R_icmp_ge (tgt := 51) (dX9_sure 12 rfl) (by decide) (fun hc => ?_) (fun hc => ?_)
    · have H := ite_F H hc
      refine R_iconst (dX9_sure 27 rfl) rfl ?_
      exact R_iret rfl rfl (Nat.zero_le _) (Nat.zero_le _) (dX9_sure 28 rfl) ⟨congrArg (fun z => some (Sum.inl z)) (Prod.mk.inj (Option.some.inj H)).1, rfl, (Prod.mk.inj (Option.some.inj H)).2⟩
    · have H := ite_T H hc
      refine R_aload_n (i := 2) (dX9_sure 13 rfl) rfl rfl ?_
      refine R_getI cgX1 21 (cl21 hS) 5 (Nat.le_of_ble_eq_true rfl) rfl (Or.inr ⟨_, tb_465⟩) (dX9_sure 14 rfl) ?_
      refine R_if_le (tgt := 51) (dX9_sure 15 rfl) (by decide) (fun hc => ?_) (fun hc => ?_)
      · have H := ite_F H hc
        refine R_iconst (dX9_sure 27 rfl) rfl ?_
        exact R_iret rfl rfl (Nat.zero_le _) (Nat.zero_le _) (dX9_sure 28 rfl) ⟨congrArg (fun z => some (Sum.inl z)) (Prod.mk.inj (Option.some.inj H)).1, rfl, (Prod.mk.inj (Option.some.inj H)).2⟩
      · have H := ite_T H hc
        refine R_aload_n (i := 2) (dX9_sure 16 rfl) rfl rfl ?_
        refine R_iload_n (i := 1) (dX9_sure 17 rfl) rfl rfl ?_
        refine R_iload_n (i := 3) (dX9_sure 18 rfl) rfl rfl ?_
        refine R_cV (st' := [.inl (f_X1_meaning x1 x3 M)]) [.inl x1, .inl x3] [] (t_X1_meaning l g ad S _ hS   x1 x3) msX1_meaning (Or.inl tb_795) (Or.inl ⟨21, 1, _, _, _, (cl21 hS), rfl⟩) ⟨Nat.le_of_ble_eq_true rfl, Nat.le_of_ble_eq_true rfl⟩ (Nat.zero_le _) (Nat.zero_le _) rfl rfl (Nat.le_of_ble_eq_true rfl) rfl (dX9_sure 19 rfl) ?_
        refine R_aload_n (i := 2) (dX9_sure 20 rfl) rfl rfl ?_
        refine R_getI cgX1 21 (cl21 hS) 5 (Nat.le_of_ble_eq_true rfl) rfl (Or.inr ⟨_, tb_465⟩) (dX9_sure 21 rfl) ?_
        refine R_icmp_ne (tgt := 45) (dX9_sure 22 rfl) (by decide) (fun hc => ?_) (fun hc => ?_)
        · have H := ite_F H hc
          refine R_iinc (i := 3) (ls' := [none, some (.inl x1), some (.inr (.inr (some (ad 21)))), some (.inl (w32 (x3 + 1)))]) (dX9_sure 25 rfl) rfl (Nat.le_of_ble_eq_true rfl) rfl rfl ?_
          refine R_goto (tgt := 17) (dX9_sure 26 rfl) (by decide) ?_
          exact ih (w32 (x3 + 1)) M H
        · have H := ite_T H hc
          refine R_iload_n (i := 3) (dX9_sure 23 rfl) rfl rfl ?_
          exact R_iret rfl rfl (Nat.zero_le _) (Nat.zero_le _) (dX9_sure 24 rfl) ⟨congrArg (fun z => some (Sum.inl z)) (Prod.mk.inj (Option.some.inj H)).1, rfl, (Prod.mk.inj (Option.some.inj H)).2⟩
def f_X9_sure (x1 : Int) (M : Mem) : Option (Int × Mem) :=
  if f_X9_isSign x1 = 0 then
    some ((-5), M)
  else
    ob (f_X9_fitting M) fun r184 M185 =>
    f_X9_sure_L17
      x1 100000 0 M185
set_option maxHeartbeats 4000000 in
theorem t_X9_sure (l : Launch) (g : GG) (ad : Nat → Nat) (S : SW) (M : Mem) (hS : q_ag 0 38 ad S) (x1 : Int) {r : Int} {M' : Mem} (H : f_X9_sure x1 M = some (r, M')) : CT l g MX9_sure 7 0 0 S M [.inr (.inr (some (ad 0))), .inl x1] (q_ex S (some (.inl r)) M') := by
  unfold f_X9_sure at H
  refine CT_of (ls0 := [some (.inr (.inr (some (ad 0)))), some (.inl x1), none, none]) (by decide +kernel) (Nat.le_of_ble_eq_true rfl) rfl ?_
  refine R_iload_n (i := 1) (dX9_sure 0 rfl) rfl rfl ?_
  refine R_cS (st' := [.inl (f_X9_isSign x1)]) [.inl x1] [] (t_X9_isSign l g ad S _ hS   x1) msX9_isSign (Or.inl tb_780) ⟨Nat.le_of_ble_eq_true rfl, Nat.le_of_ble_eq_true rfl⟩ (Nat.zero_le _) (Nat.zero_le _) rfl rfl (Nat.le_of_ble_eq_true rfl) rfl (dX9_sure 1 rfl) ?_
  refine R_if_ne (tgt := 10) (dX9_sure 2 rfl) (by decide) (fun hc => ?_) (fun hc => ?_)
  · have H := ite_F H hc
    refine R_aload_n (i := 0) (dX9_sure 5 rfl) rfl rfl ?_
    obtain ⟨r184, M185, hr, H⟩ := ob_E H
    refine R_cV (st' := [.inr (.inr (some (ad 21)))]) [] [] (t_X9_fitting l g ad S _ hS   hr) msX9_fitting (Or.inl tb_732) (Or.inl ⟨0, 9, _, _, _, (cl0 hS), rfl⟩) ⟨Nat.le_of_ble_eq_true rfl, Nat.le_of_ble_eq_true rfl⟩ (Nat.zero_le _) (Nat.zero_le _) rfl rfl (Nat.le_of_ble_eq_true rfl) rfl (dX9_sure 6 rfl) ?_
    refine R_astore_n (i := 2) (ls' := [some (.inr (.inr (some (ad 0)))), some (.inl x1), some (.inr (.inr (some (ad 21)))), none]) (dX9_sure 7 rfl) rfl (Nat.le_of_ble_eq_true rfl) (Nat.le_of_ble_eq_true rfl) rfl rfl ?_
    refine R_iconst (dX9_sure 8 rfl) rfl ?_
    refine R_istore_n (i := 3) (ls' := [some (.inr (.inr (some (ad 0)))), some (.inl x1), some (.inr (.inr (some (ad 21)))), some (.inl 0)]) (dX9_sure 9 rfl) rfl (Nat.le_of_ble_eq_true rfl) (Nat.le_of_ble_eq_true rfl) rfl rfl ?_
    refine R_mask [false, true, true, true] rfl ?_
    exact t_X9_sure_L17 l g ad S hS x1  100000 0 M185 H 
  · have H := ite_T H hc
    refine R_bipush (dX9_sure 3 rfl) rfl rfl ?_
    exact R_iret rfl rfl (Nat.zero_le _) (Nat.zero_le _) (dX9_sure 4 rfl) ⟨congrArg (fun z => some (Sum.inl z)) (Prod.mk.inj (Option.some.inj H)).1, rfl, (Prod.mk.inj (Option.some.inj H)).2⟩
def f_X9_doubt_L36 : Nat → Int → Int → Mem → Option (Int × Mem)
  | 0, _, _, _ => none
  | n + 1, x3, x4, M =>
    if x4 < 6 then
      (f_X1_meaningsOf x4 M).bind fun r188 =>
      (f_X1_meaningsOf x3 M).bind fun r189 =>
      if r189 < r188 then
        f_X9_doubt_L36 n x4 (w32 (x4 + 1)) M
      else
        f_X9_doubt_L36 n x3 (w32 (x4 + 1)) M
    else
      some (x3, M)
set_option maxHeartbeats 4000000 in
theorem t_X9_doubt_L36 (l : Launch) (g : GG) (ad : Nat → Nat) (S : SW) (hS : q_ag 0 38 ad S) {r : Int} {M' : Mem} : ∀ (n : Nat) (x3 : Int) (x4 : Int) (M : Mem), f_X9_doubt_L36 n x3 x4 M = some (r, M') → RW l g MX9_doubt (q_rm 7 0 0) 0 0 (q_ex S (some (.inl r)) M') 36 S M 0 0 [none, none, some (.inr (.inr (some (ad 21)))), some (.inl x3), some (.inl x4)] [] := by
  intro n
  induction n with
  | zero => intro x3 x4 M H; exact absurd H (by simp [f_X9_doubt_L36])
  | succ n ih =>
    intro x3 x4 M H
    rw [f_X9_doubt_L36] at H
    refine R_iload (i := 4) (dX9_doubt 22 rfl) rfl ?_
    refine R_bipush (dX9_doubt 23 rfl) rfl rfl ?_
    refine R_icmp_ge (tgt := 66) (dX9_doubt 24 rfl) (by decide) (fun hc => ?_) (fun hc => ?_)
    · have H := ite_F H hc
      refine R_iload_n (i := 3) (dX9_doubt 36 rfl) rfl rfl ?_
      exact R_iret rfl rfl (Nat.zero_le _) (Nat.zero_le _) (dX9_doubt 37 rfl) ⟨congrArg (fun z => some (Sum.inl z)) (Prod.mk.inj (Option.some.inj H)).1, rfl, (Prod.mk.inj (Option.some.inj H)).2⟩
    · have H := ite_T H hc
      refine R_aload_n (i := 2) (dX9_doubt 25 rfl) rfl rfl ?_
      refine R_iload (i := 4) (dX9_doubt 26 rfl) rfl ?_
      obtain ⟨r188, hr, H⟩ := op_E H
      refine R_cV (st' := [.inl r188]) [.inl x4] [] (t_X1_meaningsOf l g ad S _ hS   x4 hr) msX1_meaningsOf (Or.inl tb_807) (Or.inl ⟨21, 1, _, _, _, (cl21 hS), rfl⟩) ⟨Nat.le_of_ble_eq_true rfl, Nat.le_of_ble_eq_true rfl⟩ (Nat.zero_le _) (Nat.zero_le _) rfl rfl (Nat.le_of_ble_eq_true rfl) rfl (dX9_doubt 27 rfl) ?_
      refine R_aload_n (i := 2) (dX9_doubt 28 rfl) rfl rfl ?_
      refine R_iload_n (i := 3) (dX9_doubt 29 rfl) rfl rfl ?_
      obtain ⟨r189, hr, H⟩ := op_E H
      refine R_cV (st' := [.inl r189, .inl r188]) [.inl x3] [.inl r188] (t_X1_meaningsOf l g ad S _ hS   x3 hr) msX1_meaningsOf (Or.inl tb_807) (Or.inl ⟨21, 1, _, _, _, (cl21 hS), rfl⟩) ⟨Nat.le_of_ble_eq_true rfl, Nat.le_of_ble_eq_true rfl⟩ (Nat.zero_le _) (Nat.zero_le _) rfl rfl (Nat.le_of_ble_eq_true rfl) rfl (dX9_doubt 30 rfl) ?_
      refine R_icmp_le (tgt := 60) (dX9_doubt 31 rfl) (by decide) (fun hc => ?_) (fun hc => ?_)
      · have H := ite_F H hc
        refine R_iinc (i := 4) (ls' := [none, none, some (.inr (.inr (some (ad 21)))), some (.inl x3), some (.inl (w32 (x4 + 1)))]) (dX9_doubt 34 rfl) rfl (Nat.le_of_ble_eq_true rfl) rfl rfl ?_
        refine R_goto (tgt := 36) (dX9_doubt 35 rfl) (by decide) ?_
        exact ih x3 (w32 (x4 + 1)) M H
      · have H := ite_T H hc
        refine R_iload (i := 4) (dX9_doubt 32 rfl) rfl ?_
        refine R_istore_n (i := 3) (ls' := [none, none, some (.inr (.inr (some (ad 21)))), some (.inl x4), some (.inl x4)]) (dX9_doubt 33 rfl) rfl (Nat.le_of_ble_eq_true rfl) (Nat.le_of_ble_eq_true rfl) rfl rfl ?_
        refine R_iinc (i := 4) (ls' := [none, none, some (.inr (.inr (some (ad 21)))), some (.inl x4), some (.inl (w32 (x4 + 1)))]) (dX9_doubt 34 rfl) rfl (Nat.le_of_ble_eq_true rfl) rfl rfl ?_
        refine R_goto (tgt := 36) (dX9_doubt 35 rfl) (by decide) ?_
        exact ih x4 (w32 (x4 + 1)) M H
def f_X9_doubt (x1 : Int) (M : Mem) : Option (Int × Mem) :=
  if f_X9_isSign x1 = 0 then
    if x1 = (-1) then
      ob (f_X9_fitting M) fun r191 M192 =>
      if x1 = (-1) then
        f_X9_doubt_L36
          100000 0 1 M192
      else
        (f_X1_meaningsOf x1 M192).bind fun r193 =>
        some (r193, M192)
    else
      some ((-5), M)
  else
    ob (f_X9_fitting M) fun r186 M187 =>
    if x1 = (-1) then
      f_X9_doubt_L36
        100000 0 1 M187
    else
      (f_X1_meaningsOf x1 M187).bind fun r190 =>
      some (r190, M187)
set_option maxHeartbeats 4000000 in
theorem t_X9_doubt (l : Launch) (g : GG) (ad : Nat → Nat) (S : SW) (M : Mem) (hS : q_ag 0 38 ad S) (x1 : Int) {r : Int} {M' : Mem} (H : f_X9_doubt x1 M = some (r, M')) : CT l g MX9_doubt 7 0 0 S M [.inr (.inr (some (ad 0))), .inl x1] (q_ex S (some (.inl r)) M') := by
  unfold f_X9_doubt at H
  refine CT_of (ls0 := [some (.inr (.inr (some (ad 0)))), some (.inl x1), none, none, none]) (by decide +kernel) (Nat.le_of_ble_eq_true rfl) rfl ?_
  refine R_iload_n (i := 1) (dX9_doubt 0 rfl) rfl rfl ?_
  refine R_cS (st' := [.inl (f_X9_isSign x1)]) [.inl x1] [] (t_X9_isSign l g ad S _ hS   x1) msX9_isSign (Or.inl tb_780) ⟨Nat.le_of_ble_eq_true rfl, Nat.le_of_ble_eq_true rfl⟩ (Nat.zero_le _) (Nat.zero_le _) rfl rfl (Nat.le_of_ble_eq_true rfl) rfl (dX9_doubt 1 rfl) ?_
  refine R_if_ne (tgt := 15) (dX9_doubt 2 rfl) (by decide) (fun hc => ?_) (fun hc => ?_)
  · have H := ite_F H hc
    refine R_aload_n (i := 0) (dX9_doubt 8 rfl) rfl rfl ?_
    obtain ⟨r186, M187, hr, H⟩ := ob_E H
    refine R_cV (st' := [.inr (.inr (some (ad 21)))]) [] [] (t_X9_fitting l g ad S _ hS   hr) msX9_fitting (Or.inl tb_732) (Or.inl ⟨0, 9, _, _, _, (cl0 hS), rfl⟩) ⟨Nat.le_of_ble_eq_true rfl, Nat.le_of_ble_eq_true rfl⟩ (Nat.zero_le _) (Nat.zero_le _) rfl rfl (Nat.le_of_ble_eq_true rfl) rfl (dX9_doubt 9 rfl) ?_
    refine R_astore_n (i := 2) (ls' := [some (.inr (.inr (some (ad 0)))), some (.inl x1), some (.inr (.inr (some (ad 21)))), none, none]) (dX9_doubt 10 rfl) rfl (Nat.le_of_ble_eq_true rfl) (Nat.le_of_ble_eq_true rfl) rfl rfl ?_
    refine R_iload_n (i := 1) (dX9_doubt 11 rfl) rfl rfl ?_
    refine R_iconst (dX9_doubt 12 rfl) rfl ?_
    refine R_icmp_eq (tgt := 31) (dX9_doubt 13 rfl) (by decide) (fun hc => ?_) (fun hc => ?_)
    · have H := ite_T H hc
      refine R_iconst (dX9_doubt 18 rfl) rfl ?_
      refine R_istore_n (i := 3) (ls' := [some (.inr (.inr (some (ad 0)))), some (.inl x1), some (.inr (.inr (some (ad 21)))), some (.inl 0), none]) (dX9_doubt 19 rfl) rfl (Nat.le_of_ble_eq_true rfl) (Nat.le_of_ble_eq_true rfl) rfl rfl ?_
      refine R_iconst (dX9_doubt 20 rfl) rfl ?_
      refine R_istore (i := 4) (ls' := [some (.inr (.inr (some (ad 0)))), some (.inl x1), some (.inr (.inr (some (ad 21)))), some (.inl 0), some (.inl 1)]) (dX9_doubt 21 rfl) (Nat.le_of_ble_eq_true rfl) (Nat.le_of_ble_eq_true rfl) rfl rfl ?_
      refine R_mask [false, false, true, true, true] rfl ?_
      exact t_X9_doubt_L36 l g ad S hS  100000 0 1 M187 H 
    · have H := ite_F H hc
      refine R_aload_n (i := 2) (dX9_doubt 14 rfl) rfl rfl ?_
      refine R_iload_n (i := 1) (dX9_doubt 15 rfl) rfl rfl ?_
      obtain ⟨r190, hr, H⟩ := op_E H
      refine R_cV (st' := [.inl r190]) [.inl x1] [] (t_X1_meaningsOf l g ad S _ hS   x1 hr) msX1_meaningsOf (Or.inl tb_807) (Or.inl ⟨21, 1, _, _, _, (cl21 hS), rfl⟩) ⟨Nat.le_of_ble_eq_true rfl, Nat.le_of_ble_eq_true rfl⟩ (Nat.zero_le _) (Nat.zero_le _) rfl rfl (Nat.le_of_ble_eq_true rfl) rfl (dX9_doubt 16 rfl) ?_
      exact R_iret rfl rfl (Nat.zero_le _) (Nat.zero_le _) (dX9_doubt 17 rfl) ⟨congrArg (fun z => some (Sum.inl z)) (Prod.mk.inj (Option.some.inj H)).1, rfl, (Prod.mk.inj (Option.some.inj H)).2⟩
  · have H := ite_T H hc
    refine R_iload_n (i := 1) (dX9_doubt 3 rfl) rfl rfl ?_
    refine R_iconst (dX9_doubt 4 rfl) rfl ?_
    refine R_icmp_eq (tgt := 15) (dX9_doubt 5 rfl) (by decide) (fun hc => ?_) (fun hc => ?_)
    · have H := ite_T H hc
      refine R_aload_n (i := 0) (dX9_doubt 8 rfl) rfl rfl ?_
      obtain ⟨r191, M192, hr, H⟩ := ob_E H
      refine R_cV (st' := [.inr (.inr (some (ad 21)))]) [] [] (t_X9_fitting l g ad S _ hS   hr) msX9_fitting (Or.inl tb_732) (Or.inl ⟨0, 9, _, _, _, (cl0 hS), rfl⟩) ⟨Nat.le_of_ble_eq_true rfl, Nat.le_of_ble_eq_true rfl⟩ (Nat.zero_le _) (Nat.zero_le _) rfl rfl (Nat.le_of_ble_eq_true rfl) rfl (dX9_doubt 9 rfl) ?_
      refine R_astore_n (i := 2) (ls' := [some (.inr (.inr (some (ad 0)))), some (.inl x1), some (.inr (.inr (some (ad 21)))), none, none]) (dX9_doubt 10 rfl) rfl (Nat.le_of_ble_eq_true rfl) (Nat.le_of_ble_eq_true rfl) rfl rfl ?_
      refine R_iload_n (i := 1) (dX9_doubt 11 rfl) rfl rfl ?_
      refine R_iconst (dX9_doubt 12 rfl) rfl ?_
      refine R_icmp_eq (tgt := 31) (dX9_doubt 13 rfl) (by decide) (fun hc => ?_) (fun hc => ?_)
      · have H := ite_T H hc
        refine R_iconst (dX9_doubt 18 rfl) rfl ?_
        refine R_istore_n (i := 3) (ls' := [some (.inr (.inr (some (ad 0)))), some (.inl x1), some (.inr (.inr (some (ad 21)))), some (.inl 0), none]) (dX9_doubt 19 rfl) rfl (Nat.le_of_ble_eq_true rfl) (Nat.le_of_ble_eq_true rfl) rfl rfl ?_
        refine R_iconst (dX9_doubt 20 rfl) rfl ?_
        refine R_istore (i := 4) (ls' := [some (.inr (.inr (some (ad 0)))), some (.inl x1), some (.inr (.inr (some (ad 21)))), some (.inl 0), some (.inl 1)]) (dX9_doubt 21 rfl) (Nat.le_of_ble_eq_true rfl) (Nat.le_of_ble_eq_true rfl) rfl rfl ?_
        refine R_mask [false, false, true, true, true] rfl ?_
        exact t_X9_doubt_L36 l g ad S hS  100000 0 1 M192 H 
      · have H := ite_F H hc
        refine R_aload_n (i := 2) (dX9_doubt 14 rfl) rfl rfl ?_
        refine R_iload_n (i := 1) (dX9_doubt 15 rfl) rfl rfl ?_
        obtain ⟨r193, hr, H⟩ := op_E H
        refine R_cV (st' := [.inl r193]) [.inl x1] [] (t_X1_meaningsOf l g ad S _ hS   x1 hr) msX1_meaningsOf (Or.inl tb_807) (Or.inl ⟨21, 1, _, _, _, (cl21 hS), rfl⟩) ⟨Nat.le_of_ble_eq_true rfl, Nat.le_of_ble_eq_true rfl⟩ (Nat.zero_le _) (Nat.zero_le _) rfl rfl (Nat.le_of_ble_eq_true rfl) rfl (dX9_doubt 16 rfl) ?_
        exact R_iret rfl rfl (Nat.zero_le _) (Nat.zero_le _) (dX9_doubt 17 rfl) ⟨congrArg (fun z => some (Sum.inl z)) (Prod.mk.inj (Option.some.inj H)).1, rfl, (Prod.mk.inj (Option.some.inj H)).2⟩
    · have H := ite_F H hc
      refine R_bipush (dX9_doubt 6 rfl) rfl rfl ?_
      exact R_iret rfl rfl (Nat.zero_le _) (Nat.zero_le _) (dX9_doubt 7 rfl) ⟨congrArg (fun z => some (Sum.inl z)) (Prod.mk.inj (Option.some.inj H)).1, rfl, (Prod.mk.inj (Option.some.inj H)).2⟩
def f_X9_isFractionPart (x0 : Int) : Int :=
  f_X9_within x0 0 1
set_option maxHeartbeats 4000000 in
theorem t_X9_isFractionPart (l : Launch) (g : GG) (ad : Nat → Nat) (S : SW) (M : Mem) (hS : q_ag 0 38 ad S) (x0 : Int) : CT l g MX9_isFractionPart 2 0 0 S M [.inl x0] (q_ex S (some (.inl (f_X9_isFractionPart x0))) M) := by
  obtain ⟨r, H⟩ : ∃ r, f_X9_isFractionPart x0 = r := ⟨_, rfl⟩
  rw [H]
  unfold f_X9_isFractionPart at H
  refine CT_of (ls0 := [some (.inl x0)]) (by decide +kernel) (Nat.le_of_ble_eq_true rfl) rfl ?_
  refine R_iload_n (i := 0) (dX9_isFractionPart 0 rfl) rfl rfl ?_
  refine R_iconst (dX9_isFractionPart 1 rfl) rfl ?_
  refine R_iconst (dX9_isFractionPart 2 rfl) rfl ?_
  refine R_cS (st' := [.inl (f_X9_within x0 0 1)]) [.inl x0, .inl 0, .inl 1] [] (t_X9_within l g S _   x0 0 1) msX9_within (Or.inl tb_603) ⟨Nat.le_of_ble_eq_true rfl, Nat.le_of_ble_eq_true rfl⟩ (Nat.zero_le _) (Nat.zero_le _) rfl rfl (Nat.le_of_ble_eq_true rfl) rfl (dX9_isFractionPart 3 rfl) ?_
  exact R_iret rfl (q_nbz (z_X9_within x0 0 1)) (Nat.zero_le _) (Nat.zero_le _) (dX9_isFractionPart 4 rfl) ⟨congrArg (fun z => some (Sum.inl z)) H, rfl, rfl⟩
theorem z_X9_isFractionPart (x0 : Int) : f_X9_isFractionPart x0 = 0 ∨ f_X9_isFractionPart x0 = 1 := by
  unfold f_X9_isFractionPart
  (repeat' split) <;> first | exact Or.inl rfl | exact Or.inr rfl | exact z_X9_within ..
def f_X9_commonDivisor_L7 : Nat → Int → Int → Int → Option Int
  | 0, _, _, _ => none
  | n + 1, x2, x3, x4 =>
    if x4 < 64 then
      if 0 < x3 then
        if ¬ x3 = 0 then
          f_X9_commonDivisor_L7 n x3 (b_rem x2 x3) (w32 (x4 + 1))
        else none
      else
        some x2
    else
      some x2
set_option maxHeartbeats 4000000 in
theorem t_X9_commonDivisor_L7 (l : Launch) (g : GG) (ad : Nat → Nat) (S : SW) (M : Mem) (hS : q_ag 0 38 ad S) {r : Int} : ∀ (n : Nat) (x2 : Int) (x3 : Int) (x4 : Int), f_X9_commonDivisor_L7 n x2 x3 x4 = some r → RW l g MX9_commonDivisor (q_rm 1 0 0) 0 0 (q_ex S (some (.inl r)) M) 7 S M 0 0 [none, none, some (.inl x2), some (.inl x3), some (.inl x4), none] [] := by
  intro n
  induction n with
  | zero => intro x2 x3 x4 H; exact absurd H (by simp [f_X9_commonDivisor_L7])
  | succ n ih =>
    intro x2 x3 x4 H
    rw [f_X9_commonDivisor_L7] at H
    refine R_iload (i := 4) (dX9_commonDivisor 6 rfl) rfl ?_
    refine R_bipush (dX9_commonDivisor 7 rfl) rfl rfl ?_
    refine R_icmp_ge (tgt := 34) (dX9_commonDivisor 8 rfl) (by decide) (fun hc => ?_) (fun hc => ?_)
    · have H := ite_F H hc
      refine R_iload_n (i := 2) (dX9_commonDivisor 21 rfl) rfl rfl ?_
      exact R_iret rfl rfl (Nat.zero_le _) (Nat.zero_le _) (dX9_commonDivisor 22 rfl) ⟨congrArg (fun z => some (Sum.inl z)) (Option.some.inj H), rfl, rfl⟩
    · have H := ite_T H hc
      refine R_iload_n (i := 3) (dX9_commonDivisor 9 rfl) rfl rfl ?_
      refine R_if_le (tgt := 34) (dX9_commonDivisor 10 rfl) (by decide) (fun hc => ?_) (fun hc => ?_)
      · have H := ite_F H hc
        refine R_iload_n (i := 2) (dX9_commonDivisor 21 rfl) rfl rfl ?_
        exact R_iret rfl rfl (Nat.zero_le _) (Nat.zero_le _) (dX9_commonDivisor 22 rfl) ⟨congrArg (fun z => some (Sum.inl z)) (Option.some.inj H), rfl, rfl⟩
      · have H := ite_T H hc
        refine R_iload_n (i := 2) (dX9_commonDivisor 11 rfl) rfl rfl ?_
        refine R_iload_n (i := 3) (dX9_commonDivisor 12 rfl) rfl rfl ?_
        obtain ⟨hg, H⟩ := ite_G H
        refine R_irem hg (dX9_commonDivisor 13 rfl) ?_
        refine R_istore (i := 5) (ls' := [none, none, some (.inl x2), some (.inl x3), some (.inl x4), some (.inl (b_rem x2 x3))]) (dX9_commonDivisor 14 rfl) (Nat.le_of_ble_eq_true rfl) (Nat.le_of_ble_eq_true rfl) rfl rfl ?_
        refine R_iload_n (i := 3) (dX9_commonDivisor 15 rfl) rfl rfl ?_
        refine R_istore_n (i := 2) (ls' := [none, none, some (.inl x3), some (.inl x3), some (.inl x4), some (.inl (b_rem x2 x3))]) (dX9_commonDivisor 16 rfl) rfl (Nat.le_of_ble_eq_true rfl) (Nat.le_of_ble_eq_true rfl) rfl rfl ?_
        refine R_iload (i := 5) (dX9_commonDivisor 17 rfl) rfl ?_
        refine R_istore_n (i := 3) (ls' := [none, none, some (.inl x3), some (.inl (b_rem x2 x3)), some (.inl x4), some (.inl (b_rem x2 x3))]) (dX9_commonDivisor 18 rfl) rfl (Nat.le_of_ble_eq_true rfl) (Nat.le_of_ble_eq_true rfl) rfl rfl ?_
        refine R_iinc (i := 4) (ls' := [none, none, some (.inl x3), some (.inl (b_rem x2 x3)), some (.inl (w32 (x4 + 1))), some (.inl (b_rem x2 x3))]) (dX9_commonDivisor 19 rfl) rfl (Nat.le_of_ble_eq_true rfl) rfl rfl ?_
        refine R_goto (tgt := 7) (dX9_commonDivisor 20 rfl) (by decide) ?_
        refine R_mask [false, false, true, true, true, false] rfl ?_
        exact ih x3 (b_rem x2 x3) (w32 (x4 + 1)) H
def f_X9_commonDivisor (x0 : Int) (x1 : Int) : Option Int :=
  f_X9_commonDivisor_L7
    100000 x1 x0 0
set_option maxHeartbeats 4000000 in
theorem t_X9_commonDivisor (l : Launch) (g : GG) (ad : Nat → Nat) (S : SW) (M : Mem) (hS : q_ag 0 38 ad S) (x0 : Int) (x1 : Int) {r : Int} (H : f_X9_commonDivisor x0 x1 = some r) : CT l g MX9_commonDivisor 1 0 0 S M [.inl x0, .inl x1] (q_ex S (some (.inl r)) M) := by
  unfold f_X9_commonDivisor at H
  refine CT_of (ls0 := [some (.inl x0), some (.inl x1), none, none, none, none]) (by decide +kernel) (Nat.le_of_ble_eq_true rfl) rfl ?_
  refine R_iload_n (i := 1) (dX9_commonDivisor 0 rfl) rfl rfl ?_
  refine R_istore_n (i := 2) (ls' := [some (.inl x0), some (.inl x1), some (.inl x1), none, none, none]) (dX9_commonDivisor 1 rfl) rfl (Nat.le_of_ble_eq_true rfl) (Nat.le_of_ble_eq_true rfl) rfl rfl ?_
  refine R_iload_n (i := 0) (dX9_commonDivisor 2 rfl) rfl rfl ?_
  refine R_istore_n (i := 3) (ls' := [some (.inl x0), some (.inl x1), some (.inl x1), some (.inl x0), none, none]) (dX9_commonDivisor 3 rfl) rfl (Nat.le_of_ble_eq_true rfl) (Nat.le_of_ble_eq_true rfl) rfl rfl ?_
  refine R_iconst (dX9_commonDivisor 4 rfl) rfl ?_
  refine R_istore (i := 4) (ls' := [some (.inl x0), some (.inl x1), some (.inl x1), some (.inl x0), some (.inl 0), none]) (dX9_commonDivisor 5 rfl) (Nat.le_of_ble_eq_true rfl) (Nat.le_of_ble_eq_true rfl) rfl rfl ?_
  refine R_mask [false, false, true, true, true, false] rfl ?_
  exact t_X9_commonDivisor_L7 l g ad S M hS  100000 x1 x0 0 H 
def f_X9_fraction (x0 : Int) (x1 : Int) (x2 : Int) : Option Int :=
  (f_X9_commonDivisor x0 x1).bind fun r194 =>
  if 0 < x1 then
    if 0 < r194 then
      if x2 = 0 then
        if ¬ r194 = 0 then
          some (b_div x0 r194)
        else none
      else
        if ¬ r194 = 0 then
          some (b_div x1 r194)
        else none
    else
      some (-4611686018427387904)
  else
    some (-4611686018427387904)
set_option maxHeartbeats 4000000 in
theorem t_X9_fraction (l : Launch) (g : GG) (ad : Nat → Nat) (S : SW) (M : Mem) (hS : q_ag 0 38 ad S) (x0 : Int) (x1 : Int) (x2 : Int) {r : Int} (H : f_X9_fraction x0 x1 x2 = some r) : CT l g MX9_fraction 2 0 0 S M [.inl x0, .inl x1, .inl x2] (q_ex S (some (.inr (.inl r))) M) := by
  unfold f_X9_fraction at H
  refine CT_of (ls0 := [some (.inl x0), some (.inl x1), some (.inl x2), none]) (by decide +kernel) (Nat.le_of_ble_eq_true rfl) rfl ?_
  refine R_iload_n (i := 0) (dX9_fraction 0 rfl) rfl rfl ?_
  refine R_iload_n (i := 1) (dX9_fraction 1 rfl) rfl rfl ?_
  obtain ⟨r194, hr, H⟩ := op_E H
  refine R_cS (st' := [.inl r194]) [.inl x0, .inl x1] [] (t_X9_commonDivisor l g ad S _ hS   x0 x1 hr) msX9_commonDivisor (Or.inl tb_823) ⟨Nat.le_of_ble_eq_true rfl, Nat.le_of_ble_eq_true rfl⟩ (Nat.zero_le _) (Nat.zero_le _) rfl rfl (Nat.le_of_ble_eq_true rfl) rfl (dX9_fraction 2 rfl) ?_
  refine R_istore_n (i := 3) (ls' := [some (.inl x0), some (.inl x1), some (.inl x2), some (.inl r194)]) (dX9_fraction 3 rfl) rfl (Nat.le_of_ble_eq_true rfl) (Nat.le_of_ble_eq_true rfl) rfl rfl ?_
  refine R_iload_n (i := 1) (dX9_fraction 4 rfl) rfl rfl ?_
  refine R_if_le (tgt := 14) (dX9_fraction 5 rfl) (by decide) (fun hc => ?_) (fun hc => ?_)
  · have H := ite_F H hc
    refine R_ldc2 (z := (-4611686018427387904)) tb_819 ⟨by decide, by decide⟩ (dX9_fraction 8 rfl) ?_
    exact R_lret rfl (Nat.zero_le _) (Nat.zero_le _) (dX9_fraction 9 rfl) ⟨congrArg (fun z => some (Sum.inr (Sum.inl z))) (Option.some.inj H), rfl, rfl⟩
  · have H := ite_T H hc
    refine R_iload_n (i := 3) (dX9_fraction 6 rfl) rfl rfl ?_
    refine R_if_gt (tgt := 18) (dX9_fraction 7 rfl) (by decide) (fun hc => ?_) (fun hc => ?_)
    · have H := ite_T H hc
      refine R_iload_n (i := 2) (dX9_fraction 10 rfl) rfl rfl ?_
      refine R_if_ne (tgt := 29) (dX9_fraction 11 rfl) (by decide) (fun hc => ?_) (fun hc => ?_)
      · have H := ite_F H hc
        refine R_iload_n (i := 1) (dX9_fraction 17 rfl) rfl rfl ?_
        refine R_iload_n (i := 3) (dX9_fraction 18 rfl) rfl rfl ?_
        obtain ⟨hg, H⟩ := ite_G H
        refine R_idiv hg (dX9_fraction 19 rfl) ?_
        refine R_i2l (dX9_fraction 20 rfl) ?_
        exact R_lret rfl (Nat.zero_le _) (Nat.zero_le _) (dX9_fraction 21 rfl) ⟨congrArg (fun z => some (Sum.inr (Sum.inl z))) (Option.some.inj H), rfl, rfl⟩
      · have H := ite_T H hc
        refine R_iload_n (i := 0) (dX9_fraction 12 rfl) rfl rfl ?_
        refine R_iload_n (i := 3) (dX9_fraction 13 rfl) rfl rfl ?_
        obtain ⟨hg, H⟩ := ite_G H
        refine R_idiv hg (dX9_fraction 14 rfl) ?_
        refine R_i2l (dX9_fraction 15 rfl) ?_
        refine R_goto (tgt := 33) (dX9_fraction 16 rfl) (by decide) ?_
        exact R_lret rfl (Nat.zero_le _) (Nat.zero_le _) (dX9_fraction 21 rfl) ⟨congrArg (fun z => some (Sum.inr (Sum.inl z))) (Option.some.inj H), rfl, rfl⟩
    · have H := ite_F H hc
      refine R_ldc2 (z := (-4611686018427387904)) tb_819 ⟨by decide, by decide⟩ (dX9_fraction 8 rfl) ?_
      exact R_lret rfl (Nat.zero_le _) (Nat.zero_le _) (dX9_fraction 9 rfl) ⟨congrArg (fun z => some (Sum.inr (Sum.inl z))) (Option.some.inj H), rfl, rfl⟩
def f_X9_odds (x1 : Int) (x2 : Int) (x3 : Int) (M : Mem) : Option (Int × Mem) :=
  if f_X9_isSign x1 = 0 then
    some ((-4611686018427387904), M)
  else
    if f_X9_isPart x2 = 0 then
      some ((-4611686018427387904), M)
    else
      if f_X9_isFractionPart x3 = 0 then
        some ((-4611686018427387904), M)
      else
        ob (f_X9_fitting M) fun r195 M196 =>
        (f_X9_fraction (f_X1_meaning x1 x2 M196) (M196 21 5) x3).bind fun r197 =>
        some (r197, M196)
set_option maxHeartbeats 4000000 in
theorem t_X9_odds (l : Launch) (g : GG) (ad : Nat → Nat) (S : SW) (M : Mem) (hS : q_ag 0 38 ad S) (x1 : Int) (x2 : Int) (x3 : Int) {r : Int} {M' : Mem} (H : f_X9_odds x1 x2 x3 M = some (r, M')) : CT l g MX9_odds 7 0 0 S M [.inr (.inr (some (ad 0))), .inl x1, .inl x2, .inl x3] (q_ex S (some (.inr (.inl r))) M') := by
  unfold f_X9_odds at H
  refine CT_of (ls0 := [some (.inr (.inr (some (ad 0)))), some (.inl x1), some (.inl x2), some (.inl x3), none]) (by decide +kernel) (Nat.le_of_ble_eq_true rfl) rfl ?_
  refine R_iload_n (i := 1) (dX9_odds 0 rfl) rfl rfl ?_
  refine R_cS (st' := [.inl (f_X9_isSign x1)]) [.inl x1] [] (t_X9_isSign l g ad S _ hS   x1) msX9_isSign (Or.inl tb_780) ⟨Nat.le_of_ble_eq_true rfl, Nat.le_of_ble_eq_true rfl⟩ (Nat.zero_le _) (Nat.zero_le _) rfl rfl (Nat.le_of_ble_eq_true rfl) rfl (dX9_odds 1 rfl) ?_
  refine R_if_eq (tgt := 21) (dX9_odds 2 rfl) (by decide) (fun hc => ?_) (fun hc => ?_)
  · have H := ite_T H hc
    refine R_ldc2 (z := (-4611686018427387904)) tb_819 ⟨by decide, by decide⟩ (dX9_odds 9 rfl) ?_
    exact R_lret rfl (Nat.zero_le _) (Nat.zero_le _) (dX9_odds 10 rfl) ⟨congrArg (fun z => some (Sum.inr (Sum.inl z))) (Prod.mk.inj (Option.some.inj H)).1, rfl, (Prod.mk.inj (Option.some.inj H)).2⟩
  · have H := ite_F H hc
    refine R_iload_n (i := 2) (dX9_odds 3 rfl) rfl rfl ?_
    refine R_cS (st' := [.inl (f_X9_isPart x2)]) [.inl x2] [] (t_X9_isPart l g ad S _ hS   x2) msX9_isPart (Or.inl tb_792) ⟨Nat.le_of_ble_eq_true rfl, Nat.le_of_ble_eq_true rfl⟩ (Nat.zero_le _) (Nat.zero_le _) rfl rfl (Nat.le_of_ble_eq_true rfl) rfl (dX9_odds 4 rfl) ?_
    refine R_if_eq (tgt := 21) (dX9_odds 5 rfl) (by decide) (fun hc => ?_) (fun hc => ?_)
    · have H := ite_T H hc
      refine R_ldc2 (z := (-4611686018427387904)) tb_819 ⟨by decide, by decide⟩ (dX9_odds 9 rfl) ?_
      exact R_lret rfl (Nat.zero_le _) (Nat.zero_le _) (dX9_odds 10 rfl) ⟨congrArg (fun z => some (Sum.inr (Sum.inl z))) (Prod.mk.inj (Option.some.inj H)).1, rfl, (Prod.mk.inj (Option.some.inj H)).2⟩
    · have H := ite_F H hc
      refine R_iload_n (i := 3) (dX9_odds 6 rfl) rfl rfl ?_
      refine R_cS (st' := [.inl (f_X9_isFractionPart x3)]) [.inl x3] [] (t_X9_isFractionPart l g ad S _ hS   x3) msX9_isFractionPart (Or.inl tb_816) ⟨Nat.le_of_ble_eq_true rfl, Nat.le_of_ble_eq_true rfl⟩ (Nat.zero_le _) (Nat.zero_le _) rfl rfl (Nat.le_of_ble_eq_true rfl) rfl (dX9_odds 7 rfl) ?_
      refine R_if_ne (tgt := 25) (dX9_odds 8 rfl) (by decide) (fun hc => ?_) (fun hc => ?_)
      · have H := ite_F H hc
        refine R_aload_n (i := 0) (dX9_odds 11 rfl) rfl rfl ?_
        obtain ⟨r195, M196, hr, H⟩ := ob_E H
        refine R_cV (st' := [.inr (.inr (some (ad 21)))]) [] [] (t_X9_fitting l g ad S _ hS   hr) msX9_fitting (Or.inl tb_732) (Or.inl ⟨0, 9, _, _, _, (cl0 hS), rfl⟩) ⟨Nat.le_of_ble_eq_true rfl, Nat.le_of_ble_eq_true rfl⟩ (Nat.zero_le _) (Nat.zero_le _) rfl rfl (Nat.le_of_ble_eq_true rfl) rfl (dX9_odds 12 rfl) ?_
        refine R_astore (i := 4) (ls' := [some (.inr (.inr (some (ad 0)))), some (.inl x1), some (.inl x2), some (.inl x3), some (.inr (.inr (some (ad 21))))]) (dX9_odds 13 rfl) (Nat.le_of_ble_eq_true rfl) (Nat.le_of_ble_eq_true rfl) rfl rfl ?_
        refine R_aload (i := 4) (dX9_odds 14 rfl) rfl ?_
        refine R_iload_n (i := 1) (dX9_odds 15 rfl) rfl rfl ?_
        refine R_iload_n (i := 2) (dX9_odds 16 rfl) rfl rfl ?_
        refine R_cV (st' := [.inl (f_X1_meaning x1 x2 M196)]) [.inl x1, .inl x2] [] (t_X1_meaning l g ad S _ hS   x1 x2) msX1_meaning (Or.inl tb_795) (Or.inl ⟨21, 1, _, _, _, (cl21 hS), rfl⟩) ⟨Nat.le_of_ble_eq_true rfl, Nat.le_of_ble_eq_true rfl⟩ (Nat.zero_le _) (Nat.zero_le _) rfl rfl (Nat.le_of_ble_eq_true rfl) rfl (dX9_odds 17 rfl) ?_
        refine R_aload (i := 4) (dX9_odds 18 rfl) rfl ?_
        refine R_getI cgX1 21 (cl21 hS) 5 (Nat.le_of_ble_eq_true rfl) rfl (Or.inr ⟨_, tb_465⟩) (dX9_odds 19 rfl) ?_
        refine R_iload_n (i := 3) (dX9_odds 20 rfl) rfl rfl ?_
        obtain ⟨r197, hr, H⟩ := op_E H
        refine R_cS (st' := [.inr (.inl r197)]) [.inl (f_X1_meaning x1 x2 M196), .inl (M196 21 5), .inl x3] [] (t_X9_fraction l g ad S _ hS   (f_X1_meaning x1 x2 M196) (M196 21 5) x3 hr) msX9_fraction (Or.inl tb_820) ⟨Nat.le_of_ble_eq_true rfl, Nat.le_of_ble_eq_true rfl⟩ (Nat.zero_le _) (Nat.zero_le _) rfl rfl (Nat.le_of_ble_eq_true rfl) rfl (dX9_odds 21 rfl) ?_
        exact R_lret rfl (Nat.zero_le _) (Nat.zero_le _) (dX9_odds 22 rfl) ⟨congrArg (fun z => some (Sum.inr (Sum.inl z))) (Prod.mk.inj (Option.some.inj H)).1, rfl, (Prod.mk.inj (Option.some.inj H)).2⟩
      · have H := ite_T H hc
        refine R_ldc2 (z := (-4611686018427387904)) tb_819 ⟨by decide, by decide⟩ (dX9_odds 9 rfl) ?_
        exact R_lret rfl (Nat.zero_le _) (Nat.zero_le _) (dX9_odds 10 rfl) ⟨congrArg (fun z => some (Sum.inr (Sum.inl z))) (Prod.mk.inj (Option.some.inj H)).1, rfl, (Prod.mk.inj (Option.some.inj H)).2⟩
def f_X9_has (x1 : Int) (x2 : Int) (x3 : Int) (M : Mem) : Option (Int × Mem) :=
  if f_X9_isLine x1 M = 0 then
    some ((-4611686018427387904), M)
  else
    if f_X9_isParts x2 = 0 then
      some ((-4611686018427387904), M)
    else
      if f_X9_isFractionPart x3 = 0 then
        some ((-4611686018427387904), M)
      else
        ob (f_X9_fitting M) fun r198 M199 =>
        (f_X1_withAll x1 x2 M199).bind fun r200 =>
        (f_X9_fraction r200 (M199 21 5) x3).bind fun r201 =>
        some (r201, M199)
set_option maxHeartbeats 4000000 in
theorem t_X9_has (l : Launch) (g : GG) (ad : Nat → Nat) (S : SW) (M : Mem) (hS : q_ag 0 38 ad S) (x1 : Int) (x2 : Int) (x3 : Int) {r : Int} {M' : Mem} (H : f_X9_has x1 x2 x3 M = some (r, M')) : CT l g MX9_has 7 0 0 S M [.inr (.inr (some (ad 0))), .inl x1, .inl x2, .inl x3] (q_ex S (some (.inr (.inl r))) M') := by
  unfold f_X9_has at H
  refine CT_of (ls0 := [some (.inr (.inr (some (ad 0)))), some (.inl x1), some (.inl x2), some (.inl x3), none]) (by decide +kernel) (Nat.le_of_ble_eq_true rfl) rfl ?_
  refine R_aload_n (i := 0) (dX9_has 0 rfl) rfl rfl ?_
  refine R_iload_n (i := 1) (dX9_has 1 rfl) rfl rfl ?_
  refine R_cV (st' := [.inl (f_X9_isLine x1 M)]) [.inl x1] [] (t_X9_isLine l g ad S _ hS   x1) msX9_isLine (Or.inl tb_632) (Or.inl ⟨0, 9, _, _, _, (cl0 hS), rfl⟩) ⟨Nat.le_of_ble_eq_true rfl, Nat.le_of_ble_eq_true rfl⟩ (Nat.zero_le _) (Nat.zero_le _) rfl rfl (Nat.le_of_ble_eq_true rfl) rfl (dX9_has 2 rfl) ?_
  refine R_if_eq (tgt := 22) (dX9_has 3 rfl) (by decide) (fun hc => ?_) (fun hc => ?_)
  · have H := ite_T H hc
    refine R_ldc2 (z := (-4611686018427387904)) tb_819 ⟨by decide, by decide⟩ (dX9_has 10 rfl) ?_
    exact R_lret rfl (Nat.zero_le _) (Nat.zero_le _) (dX9_has 11 rfl) ⟨congrArg (fun z => some (Sum.inr (Sum.inl z))) (Prod.mk.inj (Option.some.inj H)).1, rfl, (Prod.mk.inj (Option.some.inj H)).2⟩
  · have H := ite_F H hc
    refine R_iload_n (i := 2) (dX9_has 4 rfl) rfl rfl ?_
    refine R_cS (st' := [.inl (f_X9_isParts x2)]) [.inl x2] [] (t_X9_isParts l g ad S _ hS   x2) msX9_isParts (Or.inl tb_654) ⟨Nat.le_of_ble_eq_true rfl, Nat.le_of_ble_eq_true rfl⟩ (Nat.zero_le _) (Nat.zero_le _) rfl rfl (Nat.le_of_ble_eq_true rfl) rfl (dX9_has 5 rfl) ?_
    refine R_if_eq (tgt := 22) (dX9_has 6 rfl) (by decide) (fun hc => ?_) (fun hc => ?_)
    · have H := ite_T H hc
      refine R_ldc2 (z := (-4611686018427387904)) tb_819 ⟨by decide, by decide⟩ (dX9_has 10 rfl) ?_
      exact R_lret rfl (Nat.zero_le _) (Nat.zero_le _) (dX9_has 11 rfl) ⟨congrArg (fun z => some (Sum.inr (Sum.inl z))) (Prod.mk.inj (Option.some.inj H)).1, rfl, (Prod.mk.inj (Option.some.inj H)).2⟩
    · have H := ite_F H hc
      refine R_iload_n (i := 3) (dX9_has 7 rfl) rfl rfl ?_
      refine R_cS (st' := [.inl (f_X9_isFractionPart x3)]) [.inl x3] [] (t_X9_isFractionPart l g ad S _ hS   x3) msX9_isFractionPart (Or.inl tb_816) ⟨Nat.le_of_ble_eq_true rfl, Nat.le_of_ble_eq_true rfl⟩ (Nat.zero_le _) (Nat.zero_le _) rfl rfl (Nat.le_of_ble_eq_true rfl) rfl (dX9_has 8 rfl) ?_
      refine R_if_ne (tgt := 26) (dX9_has 9 rfl) (by decide) (fun hc => ?_) (fun hc => ?_)
      · have H := ite_F H hc
        refine R_aload_n (i := 0) (dX9_has 12 rfl) rfl rfl ?_
        obtain ⟨r198, M199, hr, H⟩ := ob_E H
        refine R_cV (st' := [.inr (.inr (some (ad 21)))]) [] [] (t_X9_fitting l g ad S _ hS   hr) msX9_fitting (Or.inl tb_732) (Or.inl ⟨0, 9, _, _, _, (cl0 hS), rfl⟩) ⟨Nat.le_of_ble_eq_true rfl, Nat.le_of_ble_eq_true rfl⟩ (Nat.zero_le _) (Nat.zero_le _) rfl rfl (Nat.le_of_ble_eq_true rfl) rfl (dX9_has 13 rfl) ?_
        refine R_astore (i := 4) (ls' := [some (.inr (.inr (some (ad 0)))), some (.inl x1), some (.inl x2), some (.inl x3), some (.inr (.inr (some (ad 21))))]) (dX9_has 14 rfl) (Nat.le_of_ble_eq_true rfl) (Nat.le_of_ble_eq_true rfl) rfl rfl ?_
        refine R_aload (i := 4) (dX9_has 15 rfl) rfl ?_
        refine R_iload_n (i := 1) (dX9_has 16 rfl) rfl rfl ?_
        refine R_iload_n (i := 2) (dX9_has 17 rfl) rfl rfl ?_
        obtain ⟨r200, hr, H⟩ := op_E H
        refine R_cV (st' := [.inl r200]) [.inl x1, .inl x2] [] (t_X1_withAll l g ad S _ hS   x1 x2 hr) msX1_withAll (Or.inl tb_830) (Or.inl ⟨21, 1, _, _, _, (cl21 hS), rfl⟩) ⟨Nat.le_of_ble_eq_true rfl, Nat.le_of_ble_eq_true rfl⟩ (Nat.zero_le _) (Nat.zero_le _) rfl rfl (Nat.le_of_ble_eq_true rfl) rfl (dX9_has 18 rfl) ?_
        refine R_aload (i := 4) (dX9_has 19 rfl) rfl ?_
        refine R_getI cgX1 21 (cl21 hS) 5 (Nat.le_of_ble_eq_true rfl) rfl (Or.inr ⟨_, tb_465⟩) (dX9_has 20 rfl) ?_
        refine R_iload_n (i := 3) (dX9_has 21 rfl) rfl rfl ?_
        obtain ⟨r201, hr, H⟩ := op_E H
        refine R_cS (st' := [.inr (.inl r201)]) [.inl r200, .inl (M199 21 5), .inl x3] [] (t_X9_fraction l g ad S _ hS   r200 (M199 21 5) x3 hr) msX9_fraction (Or.inl tb_820) ⟨Nat.le_of_ble_eq_true rfl, Nat.le_of_ble_eq_true rfl⟩ (Nat.zero_le _) (Nat.zero_le _) rfl rfl (Nat.le_of_ble_eq_true rfl) rfl (dX9_has 22 rfl) ?_
        exact R_lret rfl (Nat.zero_le _) (Nat.zero_le _) (dX9_has 23 rfl) ⟨congrArg (fun z => some (Sum.inr (Sum.inl z))) (Prod.mk.inj (Option.some.inj H)).1, rfl, (Prod.mk.inj (Option.some.inj H)).2⟩
      · have H := ite_T H hc
        refine R_ldc2 (z := (-4611686018427387904)) tb_819 ⟨by decide, by decide⟩ (dX9_has 10 rfl) ?_
        exact R_lret rfl (Nat.zero_le _) (Nat.zero_le _) (dX9_has 11 rfl) ⟨congrArg (fun z => some (Sum.inr (Sum.inl z))) (Prod.mk.inj (Option.some.inj H)).1, rfl, (Prod.mk.inj (Option.some.inj H)).2⟩
