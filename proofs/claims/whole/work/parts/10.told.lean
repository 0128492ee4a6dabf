def f_X9_put (ci : Nat) (N : Nat) (x1 : Int) (x2 : Int) (M : Mem) : Option (Int × Mem) :=
  if x1 < 0 then
    some (0, M)
  else
    if x1 < (N : Int) then
      if 0 ≤ x1 ∧ x1 < (N : Int) then
        some (0, (mset M ci (x1).toNat x2))
      else none
    else
      some (0, M)
set_option maxHeartbeats 4000000 in
theorem t_X9_put (l : Launch) (g : GG) (S : SW) (M : Mem) (ci : Nat) (N : Nat) {aa : Nat} (hA : S[ci]? = some (aa, .inl N)) (hN : N < 2147483648) (x1 : Int) (x2 : Int) {r : Int} {M' : Mem} (H : f_X9_put ci N x1 x2 M = some (r, M')) : CT l g MX9_put 1 0 0 S M [.inr (.inr (some aa)), .inl x1, .inl x2] (q_ex S none M') := by
  unfold f_X9_put at H
  refine CT_of (ls0 := [some (.inr (.inr (some aa))), some (.inl x1), some (.inl x2)]) (by decide +kernel) (Nat.le_of_ble_eq_true rfl) rfl ?_
  refine R_iload_n (i := 1) (dX9_put 0 rfl) rfl rfl ?_
  refine R_if_lt (tgt := 14) (dX9_put 1 rfl) (by decide) (fun hc => ?_) (fun hc => ?_)
  · have H := ite_T H hc
    exact R_vret rfl (Nat.zero_le _) (Nat.zero_le _) (dX9_put 10 rfl) ⟨rfl, rfl, (Prod.mk.inj (Option.some.inj H)).2⟩
  · have H := ite_F H hc
    refine R_iload_n (i := 1) (dX9_put 2 rfl) rfl rfl ?_
    refine R_aload_n (i := 0) (dX9_put 3 rfl) rfl rfl ?_
    refine R_alen ci hA hN (dX9_put 4 rfl) ?_
    refine R_icmp_ge (tgt := 14) (dX9_put 5 rfl) (by decide) (fun hc => ?_) (fun hc => ?_)
    · have H := ite_F H hc
      exact R_vret rfl (Nat.zero_le _) (Nat.zero_le _) (dX9_put 10 rfl) ⟨rfl, rfl, (Prod.mk.inj (Option.some.inj H)).2⟩
    · have H := ite_T H hc
      refine R_aload_n (i := 0) (dX9_put 6 rfl) rfl rfl ?_
      refine R_iload_n (i := 1) (dX9_put 7 rfl) rfl rfl ?_
      refine R_iload_n (i := 2) (dX9_put 8 rfl) rfl rfl ?_
      obtain ⟨hg, H⟩ := ite_G H
      refine R_iast ci hA hg (dX9_put 9 rfl) ?_
      exact R_vret rfl (Nat.zero_le _) (Nat.zero_le _) (dX9_put 10 rfl) ⟨rfl, rfl, (Prod.mk.inj (Option.some.inj H)).2⟩
theorem f_put_eq (ci N : Nat) (i v : Int) (M : Mem) : f_X9_put ci N i v M = some (0, wr M ci N i v) := by
  unfold f_X9_put wr
  by_cases h1 : i < 0
  · rw [if_pos h1, if_neg (by omega)]
  · rw [if_neg h1]
    by_cases h2 : i < (N : Int)
    · rw [if_pos h2, if_pos (by omega), if_pos (by omega)]
    · rw [if_neg h2, if_neg (by omega)]
theorem t_put (l : Launch) (g : GG) (S : SW) (M : Mem) (ci : Nat) {N aa : Nat} (hA : S[ci]? = some (aa, .inl N)) (hN : N < 2147483648) (i v : Int) : CT l g MX9_put 1 0 0 S M [.inr (.inr (some aa)), .inl i, .inl v] (q_ex S none (wr M ci N i v)) := t_X9_put l g S M ci N hA hN i v (f_put_eq ci N i v M)
def f_X0_add (x1 : Int) (x2 : Int) (x3 : Int) (x4 : Int) (M : Mem) : Option (Int × Mem) :=
  some (M 7 4, (mset (wr (wr (wr (wr M 8 12 (M 7 4) x1) 9 12 (M 7 4) x2) 10 12 (M 7 4) x3) 11 12 (M 7 4) x4) 7 4 (w32 (((wr (wr (wr (wr M 8 12 (M 7 4) x1) 9 12 (M 7 4) x2) 10 12 (M 7 4) x3) 11 12 (M 7 4) x4) 7 4) + 1))))
set_option maxHeartbeats 4000000 in
theorem t_X0_add (l : Launch) (g : GG) (ad : Nat → Nat) (S : SW) (M : Mem) (hS : q_ag 0 38 ad S) (x1 : Int) (x2 : Int) (x3 : Int) (x4 : Int) {r : Int} {M' : Mem} (H : f_X0_add x1 x2 x3 x4 M = some (r, M')) : CT l g MX0_add 2 0 0 S M [.inr (.inr (some (ad 7))), .inl x1, .inl x2, .inl x3, .inl x4] (q_ex S (some (.inl r)) M') := by
  unfold f_X0_add at H
  refine CT_of (ls0 := [some (.inr (.inr (some (ad 7)))), some (.inl x1), some (.inl x2), some (.inl x3), some (.inl x4), none]) (by decide +kernel) (Nat.le_of_ble_eq_true rfl) rfl ?_
  refine R_aload_n (i := 0) (dX0_add 0 rfl) rfl rfl ?_
  refine R_getI cgX0 7 (cl7 hS) 4 (Nat.le_of_ble_eq_true rfl) rfl (Or.inl tb_167) (dX0_add 1 rfl) ?_
  refine R_istore (i := 5) (ls' := [some (.inr (.inr (some (ad 7)))), some (.inl x1), some (.inl x2), some (.inl x3), some (.inl x4), some (.inl (M 7 4))]) (dX0_add 2 rfl) (Nat.le_of_ble_eq_true rfl) (Nat.le_of_ble_eq_true rfl) rfl rfl ?_
  refine R_aload_n (i := 0) (dX0_add 3 rfl) rfl rfl ?_
  refine R_getR cgX0 7 (cl7 hS) 0 (Nat.le_of_ble_eq_true rfl) rfl (Or.inl tb_159) (dX0_add 4 rfl) ?_
  refine R_iload (i := 5) (dX0_add 5 rfl) rfl ?_
  refine R_iload_n (i := 1) (dX0_add 6 rfl) rfl rfl ?_
  refine R_cS (st' := []) [.inr (.inr (some (ad 8))), .inl (M 7 4), .inl x1] [] (t_put l g S _ 8 (cl8 hS) (Nat.le_of_ble_eq_true rfl) (M 7 4) x1) msX9_put (Or.inr ⟨_, tb_719⟩) ⟨Nat.le_of_ble_eq_true rfl, Nat.le_of_ble_eq_true rfl⟩ (Nat.zero_le _) (Nat.zero_le _) rfl rfl (Nat.le_of_ble_eq_true rfl) rfl (dX0_add 7 rfl) ?_
  refine R_aload_n (i := 0) (dX0_add 8 rfl) rfl rfl ?_
  refine R_getR cgX0 7 (cl7 hS) 1 (Nat.le_of_ble_eq_true rfl) rfl (Or.inl tb_161) (dX0_add 9 rfl) ?_
  refine R_iload (i := 5) (dX0_add 10 rfl) rfl ?_
  refine R_iload_n (i := 2) (dX0_add 11 rfl) rfl rfl ?_
  refine R_cS (st' := []) [.inr (.inr (some (ad 9))), .inl (M 7 4), .inl x2] [] (t_put l g S _ 9 (cl9 hS) (Nat.le_of_ble_eq_true rfl) (M 7 4) x2) msX9_put (Or.inr ⟨_, tb_719⟩) ⟨Nat.le_of_ble_eq_true rfl, Nat.le_of_ble_eq_true rfl⟩ (Nat.zero_le _) (Nat.zero_le _) rfl rfl (Nat.le_of_ble_eq_true rfl) rfl (dX0_add 12 rfl) ?_
  refine R_aload_n (i := 0) (dX0_add 13 rfl) rfl rfl ?_
  refine R_getR cgX0 7 (cl7 hS) 2 (Nat.le_of_ble_eq_true rfl) rfl (Or.inl tb_163) (dX0_add 14 rfl) ?_
  refine R_iload (i := 5) (dX0_add 15 rfl) rfl ?_
  refine R_iload_n (i := 3) (dX0_add 16 rfl) rfl rfl ?_
  refine R_cS (st' := []) [.inr (.inr (some (ad 10))), .inl (M 7 4), .inl x3] [] (t_put l g S _ 10 (cl10 hS) (Nat.le_of_ble_eq_true rfl) (M 7 4) x3) msX9_put (Or.inr ⟨_, tb_719⟩) ⟨Nat.le_of_ble_eq_true rfl, Nat.le_of_ble_eq_true rfl⟩ (Nat.zero_le _) (Nat.zero_le _) rfl rfl (Nat.le_of_ble_eq_true rfl) rfl (dX0_add 17 rfl) ?_
  refine R_aload_n (i := 0) (dX0_add 18 rfl) rfl rfl ?_
  refine R_getR cgX0 7 (cl7 hS) 3 (Nat.le_of_ble_eq_true rfl) rfl (Or.inl tb_165) (dX0_add 19 rfl) ?_
  refine R_iload (i := 5) (dX0_add 20 rfl) rfl ?_
  refine R_iload (i := 4) (dX0_add 21 rfl) rfl ?_
  refine R_cS (st' := []) [.inr (.inr (some (ad 11))), .inl (M 7 4), .inl x4] [] (t_put l g S _ 11 (cl11 hS) (Nat.le_of_ble_eq_true rfl) (M 7 4) x4) msX9_put (Or.inr ⟨_, tb_719⟩) ⟨Nat.le_of_ble_eq_true rfl, Nat.le_of_ble_eq_true rfl⟩ (Nat.zero_le _) (Nat.zero_le _) rfl rfl (Nat.le_of_ble_eq_true rfl) rfl (dX0_add 22 rfl) ?_
  refine R_aload_n (i := 0) (dX0_add 23 rfl) rfl rfl ?_
  refine R_dup rfl (dX0_add 24 rfl) ?_
  refine R_getI cgX0 7 (cl7 hS) 4 (Nat.le_of_ble_eq_true rfl) rfl (Or.inl tb_167) (dX0_add 25 rfl) ?_
  refine R_iconst (dX0_add 26 rfl) rfl ?_
  refine R_iadd (dX0_add 27 rfl) ?_
  refine R_putI cgX0 7 (cl7 hS) 4 (Nat.le_of_ble_eq_true rfl) rfl rfl rfl rfl (Or.inl tb_167) (dX0_add 28 rfl) ?_
  refine R_iload (i := 5) (dX0_add 29 rfl) rfl ?_
  exact R_iret rfl rfl (Nat.zero_le _) (Nat.zero_le _) (dX0_add 30 rfl) ⟨congrArg (fun z => some (Sum.inl z)) (Prod.mk.inj (Option.some.inj H)).1, rfl, (Prod.mk.inj (Option.some.inj H)).2⟩
def f_J6_bitCount_0f7a4 (x0 : Int) : Int :=
  b_and (w32 ((w32 ((b_and (w32 ((w32 ((b_and (w32 (x0 - (b_and (b_ushr x0 1) 1431655765))) 858993459) + (b_and (b_ushr (w32 (x0 - (b_and (b_ushr x0 1) 1431655765))) 2) 858993459))) + (b_ushr (w32 ((b_and (w32 (x0 - (b_and (b_ushr x0 1) 1431655765))) 858993459) + (b_and (b_ushr (w32 (x0 - (b_and (b_ushr x0 1) 1431655765))) 2) 858993459))) 4))) 252645135) + (b_ushr (b_and (w32 ((w32 ((b_and (w32 (x0 - (b_and (b_ushr x0 1) 1431655765))) 858993459) + (b_and (b_ushr (w32 (x0 - (b_and (b_ushr x0 1) 1431655765))) 2) 858993459))) + (b_ushr (w32 ((b_and (w32 (x0 - (b_and (b_ushr x0 1) 1431655765))) 858993459) + (b_and (b_ushr (w32 (x0 - (b_and (b_ushr x0 1) 1431655765))) 2) 858993459))) 4))) 252645135) 8))) + (b_ushr (w32 ((b_and (w32 ((w32 ((b_and (w32 (x0 - (b_and (b_ushr x0 1) 1431655765))) 858993459) + (b_and (b_ushr (w32 (x0 - (b_and (b_ushr x0 1) 1431655765))) 2) 858993459))) + (b_ushr (w32 ((b_and (w32 (x0 - (b_and (b_ushr x0 1) 1431655765))) 858993459) + (b_and (b_ushr (w32 (x0 - (b_and (b_ushr x0 1) 1431655765))) 2) 858993459))) 4))) 252645135) + (b_ushr (b_and (w32 ((w32 ((b_and (w32 (x0 - (b_and (b_ushr x0 1) 1431655765))) 858993459) + (b_and (b_ushr (w32 (x0 - (b_and (b_ushr x0 1) 1431655765))) 2) 858993459))) + (b_ushr (w32 ((b_and (w32 (x0 - (b_and (b_ushr x0 1) 1431655765))) 858993459) + (b_and (b_ushr (w32 (x0 - (b_and (b_ushr x0 1) 1431655765))) 2) 858993459))) 4))) 252645135) 8))) 16))) 63
set_option maxHeartbeats 4000000 in
theorem t_J6_bitCount_0f7a4 (l : Launch) (g : GG) (S : SW) (M : Mem) (x0 : Int) : CT l g MJ6_bitCount_0f7a4 1 0 0 S M [.inl x0] (q_ex S (some (.inl (f_J6_bitCount_0f7a4 x0))) M) := by
  obtain ⟨r, H⟩ : ∃ r, f_J6_bitCount_0f7a4 x0 = r := ⟨_, rfl⟩
  rw [H]
  unfold f_J6_bitCount_0f7a4 at H
  refine CT_of (ls0 := [some (.inl x0)]) (by decide +kernel) (Nat.le_of_ble_eq_true rfl) rfl ?_
  refine R_iload_n (i := 0) (dJ6_bitCount_0f7a4 0 rfl) rfl rfl ?_
  refine R_iload_n (i := 0) (dJ6_bitCount_0f7a4 1 rfl) rfl rfl ?_
  refine R_iconst (dJ6_bitCount_0f7a4 2 rfl) rfl ?_
  refine R_iushr (dJ6_bitCount_0f7a4 3 rfl) ?_
  refine R_ldcw (z := 1431655765) tb_607 rfl (dJ6_bitCount_0f7a4 4 rfl) ?_
  refine R_iand (dJ6_bitCount_0f7a4 5 rfl) ?_
  refine R_isub (dJ6_bitCount_0f7a4 6 rfl) ?_
  refine R_istore_n (i := 0) (ls' := [some (.inl (w32 (x0 - (b_and (b_ushr x0 1) 1431655765))))]) (dJ6_bitCount_0f7a4 7 rfl) rfl (Nat.le_of_ble_eq_true rfl) (Nat.le_of_ble_eq_true rfl) rfl rfl ?_
  refine R_iload_n (i := 0) (dJ6_bitCount_0f7a4 8 rfl) rfl rfl ?_
  refine R_ldcw (z := 858993459) tb_608 rfl (dJ6_bitCount_0f7a4 9 rfl) ?_
  refine R_iand (dJ6_bitCount_0f7a4 10 rfl) ?_
  refine R_iload_n (i := 0) (dJ6_bitCount_0f7a4 11 rfl) rfl rfl ?_
  refine R_iconst (dJ6_bitCount_0f7a4 12 rfl) rfl ?_
  refine R_iushr (dJ6_bitCount_0f7a4 13 rfl) ?_
  refine R_ldcw (z := 858993459) tb_608 rfl (dJ6_bitCount_0f7a4 14 rfl) ?_
  refine R_iand (dJ6_bitCount_0f7a4 15 rfl) ?_
  refine R_iadd (dJ6_bitCount_0f7a4 16 rfl) ?_
  refine R_istore_n (i := 0) (ls' := [some (.inl (w32 ((b_and (w32 (x0 - (b_and (b_ushr x0 1) 1431655765))) 858993459) + (b_and (b_ushr (w32 (x0 - (b_and (b_ushr x0 1) 1431655765))) 2) 858993459))))]) (dJ6_bitCount_0f7a4 17 rfl) rfl (Nat.le_of_ble_eq_true rfl) (Nat.le_of_ble_eq_true rfl) rfl rfl ?_
  refine R_iload_n (i := 0) (dJ6_bitCount_0f7a4 18 rfl) rfl rfl ?_
  refine R_iload_n (i := 0) (dJ6_bitCount_0f7a4 19 rfl) rfl rfl ?_
  refine R_iconst (dJ6_bitCount_0f7a4 20 rfl) rfl ?_
  refine R_iushr (dJ6_bitCount_0f7a4 21 rfl) ?_
  refine R_iadd (dJ6_bitCount_0f7a4 22 rfl) ?_
  refine R_ldcw (z := 252645135) tb_609 rfl (dJ6_bitCount_0f7a4 23 rfl) ?_
  refine R_iand (dJ6_bitCount_0f7a4 24 rfl) ?_
  refine R_istore_n (i := 0) (ls' := [some (.inl (b_and (w32 ((w32 ((b_and (w32 (x0 - (b_and (b_ushr x0 1) 1431655765))) 858993459) + (b_and (b_ushr (w32 (x0 - (b_and (b_ushr x0 1) 1431655765))) 2) 858993459))) + (b_ushr (w32 ((b_and (w32 (x0 - (b_and (b_ushr x0 1) 1431655765))) 858993459) + (b_and (b_ushr (w32 (x0 - (b_and (b_ushr x0 1) 1431655765))) 2) 858993459))) 4))) 252645135))]) (dJ6_bitCount_0f7a4 25 rfl) rfl (Nat.le_of_ble_eq_true rfl) (Nat.le_of_ble_eq_true rfl) rfl rfl ?_
  refine R_iload_n (i := 0) (dJ6_bitCount_0f7a4 26 rfl) rfl rfl ?_
  refine R_iload_n (i := 0) (dJ6_bitCount_0f7a4 27 rfl) rfl rfl ?_
  refine R_bipush (dJ6_bitCount_0f7a4 28 rfl) rfl rfl ?_
  refine R_iushr (dJ6_bitCount_0f7a4 29 rfl) ?_
  refine R_iadd (dJ6_bitCount_0f7a4 30 rfl) ?_
  refine R_istore_n (i := 0) (ls' := [some (.inl (w32 ((b_and (w32 ((w32 ((b_and (w32 (x0 - (b_and (b_ushr x0 1) 1431655765))) 858993459) + (b_and (b_ushr (w32 (x0 - (b_and (b_ushr x0 1) 1431655765))) 2) 858993459))) + (b_ushr (w32 ((b_and (w32 (x0 - (b_and (b_ushr x0 1) 1431655765))) 858993459) + (b_and (b_ushr (w32 (x0 - (b_and (b_ushr x0 1) 1431655765))) 2) 858993459))) 4))) 252645135) + (b_ushr (b_and (w32 ((w32 ((b_and (w32 (x0 - (b_and (b_ushr x0 1) 1431655765))) 858993459) + (b_and (b_ushr (w32 (x0 - (b_and (b_ushr x0 1) 1431655765))) 2) 858993459))) + (b_ushr (w32 ((b_and (w32 (x0 - (b_and (b_ushr x0 1) 1431655765))) 858993459) + (b_and (b_ushr (w32 (x0 - (b_and (b_ushr x0 1) 1431655765))) 2) 858993459))) 4))) 252645135) 8))))]) (dJ6_bitCount_0f7a4 31 rfl) rfl (Nat.le_of_ble_eq_true rfl) (Nat.le_of_ble_eq_true rfl) rfl rfl ?_
  refine R_iload_n (i := 0) (dJ6_bitCount_0f7a4 32 rfl) rfl rfl ?_
  refine R_iload_n (i := 0) (dJ6_bitCount_0f7a4 33 rfl) rfl rfl ?_
  refine R_bipush (dJ6_bitCount_0f7a4 34 rfl) rfl rfl ?_
  refine R_iushr (dJ6_bitCount_0f7a4 35 rfl) ?_
  refine R_iadd (dJ6_bitCount_0f7a4 36 rfl) ?_
  refine R_istore_n (i := 0) (ls' := [some (.inl (w32 ((w32 ((b_and (w32 ((w32 ((b_and (w32 (x0 - (b_and (b_ushr x0 1) 1431655765))) 858993459) + (b_and (b_ushr (w32 (x0 - (b_and (b_ushr x0 1) 1431655765))) 2) 858993459))) + (b_ushr (w32 ((b_and (w32 (x0 - (b_and (b_ushr x0 1) 1431655765))) 858993459) + (b_and (b_ushr (w32 (x0 - (b_and (b_ushr x0 1) 1431655765))) 2) 858993459))) 4))) 252645135) + (b_ushr (b_and (w32 ((w32 ((b_and (w32 (x0 - (b_and (b_ushr x0 1) 1431655765))) 858993459) + (b_and (b_ushr (w32 (x0 - (b_and (b_ushr x0 1) 1431655765))) 2) 858993459))) + (b_ushr (w32 ((b_and (w32 (x0 - (b_and (b_ushr x0 1) 1431655765))) 858993459) + (b_and (b_ushr (w32 (x0 - (b_and (b_ushr x0 1) 1431655765))) 2) 858993459))) 4))) 252645135) 8))) + (b_ushr (w32 ((b_and (w32 ((w32 ((b_and (w32 (x0 - (b_and (b_ushr x0 1) 1431655765))) 858993459) + (b_and (b_ushr (w32 (x0 - (b_and (b_ushr x0 1) 1431655765))) 2) 858993459))) + (b_ushr (w32 ((b_and (w32 (x0 - (b_and (b_ushr x0 1) 1431655765))) 858993459) + (b_and (b_ushr (w32 (x0 - (b_and (b_ushr x0 1) 1431655765))) 2) 858993459))) 4))) 252645135) + (b_ushr (b_and (w32 ((w32 ((b_and (w32 (x0 - (b_and (b_ushr x0 1) 1431655765))) 858993459) + (b_and (b_ushr (w32 (x0 - (b_and (b_ushr x0 1) 1431655765))) 2) 858993459))) + (b_ushr (w32 ((b_and (w32 (x0 - (b_and (b_ushr x0 1) 1431655765))) 858993459) + (b_and (b_ushr (w32 (x0 - (b_and (b_ushr x0 1) 1431655765))) 2) 858993459))) 4))) 252645135) 8))) 16))))]) (dJ6_bitCount_0f7a4 37 rfl) rfl (Nat.le_of_ble_eq_true rfl) (Nat.le_of_ble_eq_true rfl) rfl rfl ?_
  refine R_iload_n (i := 0) (dJ6_bitCount_0f7a4 38 rfl) rfl rfl ?_
  refine R_bipush (dJ6_bitCount_0f7a4 39 rfl) rfl rfl ?_
  refine R_iand (dJ6_bitCount_0f7a4 40 rfl) ?_
  exact R_iret rfl rfl (Nat.zero_le _) (Nat.zero_le _) (dJ6_bitCount_0f7a4 41 rfl) ⟨congrArg (fun z => some (Sum.inl z)) H, rfl, rfl⟩
def f_X0_holds (x0 : Int) (x1 : Int) (x2 : Int) (x3 : Int) (x4 : Int) : Int :=
  if x0 = 1 then
    if x3 = x1 then
      1
    else
      0
  else if x0 = 2 then
    if b_and x3 x1 = x1 then
      1
    else
      0
  else if x0 = 3 then
    if b_and x3 x1 = x1 then
      1
    else
      if f_J6_bitCount_0f7a4 (b_and x3 x1) < x2 then
        0
      else
        1
  else if x0 = 4 then
    if b_and x3 x4 = x1 then
      1
    else
      0
  else if x0 = 5 then
    if b_and x3 x1 = 0 then
      1
    else
      0
  else
    1
set_option maxHeartbeats 4000000 in
theorem t_X0_holds (l : Launch) (g : GG) (ad : Nat → Nat) (S : SW) (M : Mem) (hS : q_ag 0 38 ad S) (x0 : Int) (x1 : Int) (x2 : Int) (x3 : Int) (x4 : Int) : CT l g MX0_holds 2 0 0 S M [.inl x0, .inl x1, .inl x2, .inl x3, .inl x4] (q_ex S (some (.inl (f_X0_holds x0 x1 x2 x3 x4))) M) := by
  obtain ⟨r, H⟩ : ∃ r, f_X0_holds x0 x1 x2 x3 x4 = r := ⟨_, rfl⟩
  rw [H]
  unfold f_X0_holds at H
  refine CT_of (ls0 := [some (.inl x0), some (.inl x1), some (.inl x2), some (.inl x3), some (.inl x4), none]) (by decide +kernel) (Nat.le_of_ble_eq_true rfl) rfl ?_
  refine R_iload_n (i := 3) (dX0_holds 0 rfl) rfl rfl ?_
  refine R_iload_n (i := 1) (dX0_holds 1 rfl) rfl rfl ?_
  refine R_iand (dX0_holds 2 rfl) ?_
  refine R_istore (i := 5) (ls' := [some (.inl x0), some (.inl x1), some (.inl x2), some (.inl x3), some (.inl x4), some (.inl (b_and x3 x1))]) (dX0_holds 3 rfl) (Nat.le_of_ble_eq_true rfl) (Nat.le_of_ble_eq_true rfl) rfl rfl ?_
  refine R_iload_n (i := 0) (dX0_holds 4 rfl) rfl rfl ?_
  by_cases hc1 : x0 = 1
  · have H := ite_T H hc1
    refine R_tsIn (c0 := 1) (tgt := 40) (dX0_holds 5 rfl) hc1 (by decide) (by decide) rfl (by decide) ?_
    refine R_iload_n (i := 3) (dX0_holds 6 rfl) rfl rfl ?_
    refine R_iload_n (i := 1) (dX0_holds 7 rfl) rfl rfl ?_
    refine R_icmp_ne (tgt := 49) (dX0_holds 8 rfl) (by decide) (fun hc => ?_) (fun hc => ?_)
    · have H := ite_F H hc
      refine R_iconst (dX0_holds 11 rfl) rfl ?_
      exact R_iret rfl (by decide +kernel) (Nat.zero_le _) (Nat.zero_le _) (dX0_holds 12 rfl) ⟨congrArg (fun z => some (Sum.inl z)) H, rfl, rfl⟩
    · have H := ite_T H hc
      refine R_iconst (dX0_holds 9 rfl) rfl ?_
      refine R_goto (tgt := 50) (dX0_holds 10 rfl) (by decide) ?_
      exact R_iret rfl (by decide +kernel) (Nat.zero_le _) (Nat.zero_le _) (dX0_holds 12 rfl) ⟨congrArg (fun z => some (Sum.inl z)) H, rfl, rfl⟩
  have H := ite_F H hc1
  by_cases hc2 : x0 = 2
  · have H := ite_T H hc2
    refine R_tsIn (c0 := 2) (tgt := 51) (dX0_holds 5 rfl) hc2 (by decide) (by decide) rfl (by decide) ?_
    refine R_iload (i := 5) (dX0_holds 13 rfl) rfl ?_
    refine R_iload_n (i := 1) (dX0_holds 14 rfl) rfl rfl ?_
    refine R_icmp_ne (tgt := 61) (dX0_holds 15 rfl) (by decide) (fun hc => ?_) (fun hc => ?_)
    · have H := ite_F H hc
      refine R_iconst (dX0_holds 18 rfl) rfl ?_
      exact R_iret rfl (by decide +kernel) (Nat.zero_le _) (Nat.zero_le _) (dX0_holds 19 rfl) ⟨congrArg (fun z => some (Sum.inl z)) H, rfl, rfl⟩
    · have H := ite_T H hc
      refine R_iconst (dX0_holds 16 rfl) rfl ?_
      refine R_goto (tgt := 62) (dX0_holds 17 rfl) (by decide) ?_
      exact R_iret rfl (by decide +kernel) (Nat.zero_le _) (Nat.zero_le _) (dX0_holds 19 rfl) ⟨congrArg (fun z => some (Sum.inl z)) H, rfl, rfl⟩
  have H := ite_F H hc2
  by_cases hc3 : x0 = 3
  · have H := ite_T H hc3
    refine R_tsIn (c0 := 3) (tgt := 63) (dX0_holds 5 rfl) hc3 (by decide) (by decide) rfl (by decide) ?_
    refine R_iload (i := 5) (dX0_holds 20 rfl) rfl ?_
    refine R_iload_n (i := 1) (dX0_holds 21 rfl) rfl rfl ?_
    refine R_icmp_eq (tgt := 78) (dX0_holds 22 rfl) (by decide) (fun hc => ?_) (fun hc => ?_)
    · have H := ite_T H hc
      refine R_iconst (dX0_holds 27 rfl) rfl ?_
      refine R_goto (tgt := 83) (dX0_holds 28 rfl) (by decide) ?_
      exact R_iret rfl (by decide +kernel) (Nat.zero_le _) (Nat.zero_le _) (dX0_holds 30 rfl) ⟨congrArg (fun z => some (Sum.inl z)) H, rfl, rfl⟩
    · have H := ite_F H hc
      refine R_iload (i := 5) (dX0_holds 23 rfl) rfl ?_
      refine R_cS (st' := [.inl (f_J6_bitCount_0f7a4 (b_and x3 x1))]) [.inl (b_and x3 x1)] [] (t_J6_bitCount_0f7a4 l g S _   (b_and x3 x1)) msJ6_bitCount_0f7a4 (Or.inl tb_770) ⟨Nat.le_of_ble_eq_true rfl, Nat.le_of_ble_eq_true rfl⟩ (Nat.zero_le _) (Nat.zero_le _) rfl rfl (Nat.le_of_ble_eq_true rfl) rfl (dX0_holds 24 rfl) ?_
      refine R_iload_n (i := 2) (dX0_holds 25 rfl) rfl rfl ?_
      refine R_icmp_lt (tgt := 82) (dX0_holds 26 rfl) (by decide) (fun hc => ?_) (fun hc => ?_)
      · have H := ite_T H hc
        refine R_iconst (dX0_holds 29 rfl) rfl ?_
        exact R_iret rfl (by decide +kernel) (Nat.zero_le _) (Nat.zero_le _) (dX0_holds 30 rfl) ⟨congrArg (fun z => some (Sum.inl z)) H, rfl, rfl⟩
      · have H := ite_F H hc
        refine R_iconst (dX0_holds 27 rfl) rfl ?_
        refine R_goto (tgt := 83) (dX0_holds 28 rfl) (by decide) ?_
        exact R_iret rfl (by decide +kernel) (Nat.zero_le _) (Nat.zero_le _) (dX0_holds 30 rfl) ⟨congrArg (fun z => some (Sum.inl z)) H, rfl, rfl⟩
  have H := ite_F H hc3
  by_cases hc4 : x0 = 4
  · have H := ite_T H hc4
    refine R_tsIn (c0 := 4) (tgt := 84) (dX0_holds 5 rfl) hc4 (by decide) (by decide) rfl (by decide) ?_
    refine R_iload_n (i := 3) (dX0_holds 31 rfl) rfl rfl ?_
    refine R_iload (i := 4) (dX0_holds 32 rfl) rfl ?_
    refine R_iand (dX0_holds 33 rfl) ?_
    refine R_iload_n (i := 1) (dX0_holds 34 rfl) rfl rfl ?_
    refine R_icmp_ne (tgt := 96) (dX0_holds 35 rfl) (by decide) (fun hc => ?_) (fun hc => ?_)
    · have H := ite_F H hc
      refine R_iconst (dX0_holds 38 rfl) rfl ?_
      exact R_iret rfl (by decide +kernel) (Nat.zero_le _) (Nat.zero_le _) (dX0_holds 39 rfl) ⟨congrArg (fun z => some (Sum.inl z)) H, rfl, rfl⟩
    · have H := ite_T H hc
      refine R_iconst (dX0_holds 36 rfl) rfl ?_
      refine R_goto (tgt := 97) (dX0_holds 37 rfl) (by decide) ?_
      exact R_iret rfl (by decide +kernel) (Nat.zero_le _) (Nat.zero_le _) (dX0_holds 39 rfl) ⟨congrArg (fun z => some (Sum.inl z)) H, rfl, rfl⟩
  have H := ite_F H hc4
  by_cases hc5 : x0 = 5
  · have H := ite_T H hc5
    refine R_tsIn (c0 := 5) (tgt := 98) (dX0_holds 5 rfl) hc5 (by decide) (by decide) rfl (by decide) ?_
    refine R_iload (i := 5) (dX0_holds 40 rfl) rfl ?_
    refine R_if_ne (tgt := 107) (dX0_holds 41 rfl) (by decide) (fun hc => ?_) (fun hc => ?_)
    · have H := ite_F H hc
      refine R_iconst (dX0_holds 44 rfl) rfl ?_
      exact R_iret rfl (by decide +kernel) (Nat.zero_le _) (Nat.zero_le _) (dX0_holds 45 rfl) ⟨congrArg (fun z => some (Sum.inl z)) H, rfl, rfl⟩
    · have H := ite_T H hc
      refine R_iconst (dX0_holds 42 rfl) rfl ?_
      refine R_goto (tgt := 108) (dX0_holds 43 rfl) (by decide) ?_
      exact R_iret rfl (by decide +kernel) (Nat.zero_le _) (Nat.zero_le _) (dX0_holds 45 rfl) ⟨congrArg (fun z => some (Sum.inl z)) H, rfl, rfl⟩
  have H := ite_F H hc5
  refine R_tsOut (tgt := 109) (dX0_holds 5 rfl) (by omega) (by decide) ?_
  refine R_iconst (dX0_holds 46 rfl) rfl ?_
  exact R_iret rfl (by decide +kernel) (Nat.zero_le _) (Nat.zero_le _) (dX0_holds 47 rfl) ⟨congrArg (fun z => some (Sum.inl z)) H, rfl, rfl⟩
theorem z_X0_holds (x0 : Int) (x1 : Int) (x2 : Int) (x3 : Int) (x4 : Int) : f_X0_holds x0 x1 x2 x3 x4 = 0 ∨ f_X0_holds x0 x1 x2 x3 x4 = 1 := by
  unfold f_X0_holds
  (repeat' split) <;> first | exact Or.inl rfl | exact Or.inr rfl | exact z_J6_bitCount_0f7a4 ..
def f_X9_at (ci : Nat) (N : Nat) (x1 : Int) (M : Mem) : Option Int :=
  if x1 < 0 then
    some 0
  else
    if x1 < (N : Int) then
      if 0 ≤ x1 ∧ x1 < (N : Int) then
        some (M ci (x1).toNat)
      else none
    else
      some 0
set_option maxHeartbeats 4000000 in
theorem t_X9_at (l : Launch) (g : GG) (S : SW) (M : Mem) (ci : Nat) (N : Nat) {aa : Nat} (hA : S[ci]? = some (aa, .inl N)) (hN : N < 2147483648) (x1 : Int) {r : Int} (H : f_X9_at ci N x1 M = some r) : CT l g MX9_at 1 0 0 S M [.inr (.inr (some aa)), .inl x1] (q_ex S (some (.inl r)) M) := by
  unfold f_X9_at at H
  refine CT_of (ls0 := [some (.inr (.inr (some aa))), some (.inl x1)]) (by decide +kernel) (Nat.le_of_ble_eq_true rfl) rfl ?_
  refine R_iload_n (i := 1) (dX9_at 0 rfl) rfl rfl ?_
  refine R_if_lt (tgt := 16) (dX9_at 1 rfl) (by decide) (fun hc => ?_) (fun hc => ?_)
  · have H := ite_T H hc
    refine R_iconst (dX9_at 10 rfl) rfl ?_
    exact R_iret rfl rfl (Nat.zero_le _) (Nat.zero_le _) (dX9_at 11 rfl) ⟨congrArg (fun z => some (Sum.inl z)) (Option.some.inj H), rfl, rfl⟩
  · have H := ite_F H hc
    refine R_iload_n (i := 1) (dX9_at 2 rfl) rfl rfl ?_
    refine R_aload_n (i := 0) (dX9_at 3 rfl) rfl rfl ?_
    refine R_alen ci hA hN (dX9_at 4 rfl) ?_
    refine R_icmp_ge (tgt := 16) (dX9_at 5 rfl) (by decide) (fun hc => ?_) (fun hc => ?_)
    · have H := ite_F H hc
      refine R_iconst (dX9_at 10 rfl) rfl ?_
      exact R_iret rfl rfl (Nat.zero_le _) (Nat.zero_le _) (dX9_at 11 rfl) ⟨congrArg (fun z => some (Sum.inl z)) (Option.some.inj H), rfl, rfl⟩
    · have H := ite_T H hc
      refine R_aload_n (i := 0) (dX9_at 6 rfl) rfl rfl ?_
      refine R_iload_n (i := 1) (dX9_at 7 rfl) rfl rfl ?_
      obtain ⟨hg, H⟩ := ite_G H
      refine R_iald ci hA hg (dX9_at 8 rfl) ?_
      refine R_goto (tgt := 17) (dX9_at 9 rfl) (by decide) ?_
      exact R_iret rfl rfl (Nat.zero_le _) (Nat.zero_le _) (dX9_at 11 rfl) ⟨congrArg (fun z => some (Sum.inl z)) (Option.some.inj H), rfl, rfl⟩
def f_X9_atF (g : GG) (fj : Nat) (x1 : Int) (M : Mem) : Option Int :=
  if x1 < 0 then
    some 0
  else
    if x1 < (q_fl g fj : Int) then
      if 0 ≤ x1 ∧ x1 < (q_fl g fj : Int) then
        some (q_ff g fj (x1).toNat)
      else none
    else
      some 0
set_option maxHeartbeats 4000000 in
theorem t_X9_atF (l : Launch) (g : GG) (S : SW) (M : Mem) (fj : Nat) (hfj : fj < 3) (x1 : Int) {r : Int} (H : f_X9_atF g fj x1 M = some r) : CT l g MX9_at 1 0 0 S M [.inr (.inr (some (g.2.2.2.1 fj))), .inl x1] (q_ex S (some (.inl r)) M) := by
  unfold f_X9_atF at H
  refine CT_of (ls0 := [some (.inr (.inr (some (g.2.2.2.1 fj)))), some (.inl x1)]) (by decide +kernel) (Nat.le_of_ble_eq_true rfl) rfl ?_
  refine R_iload_n (i := 1) (dX9_at 0 rfl) rfl rfl ?_
  refine R_if_lt (tgt := 16) (dX9_at 1 rfl) (by decide) (fun hc => ?_) (fun hc => ?_)
  · have H := ite_T H hc
    refine R_iconst (dX9_at 10 rfl) rfl ?_
    exact R_iret rfl rfl (Nat.zero_le _) (Nat.zero_le _) (dX9_at 11 rfl) ⟨congrArg (fun z => some (Sum.inl z)) (Option.some.inj H), rfl, rfl⟩
  · have H := ite_F H hc
    refine R_iload_n (i := 1) (dX9_at 2 rfl) rfl rfl ?_
    refine R_aload_n (i := 0) (dX9_at 3 rfl) rfl rfl ?_
    refine R_alenF fj hfj (dX9_at 4 rfl) ?_
    refine R_icmp_ge (tgt := 16) (dX9_at 5 rfl) (by decide) (fun hc => ?_) (fun hc => ?_)
    · have H := ite_F H hc
      refine R_iconst (dX9_at 10 rfl) rfl ?_
      exact R_iret rfl rfl (Nat.zero_le _) (Nat.zero_le _) (dX9_at 11 rfl) ⟨congrArg (fun z => some (Sum.inl z)) (Option.some.inj H), rfl, rfl⟩
    · have H := ite_T H hc
      refine R_aload_n (i := 0) (dX9_at 6 rfl) rfl rfl ?_
      refine R_iload_n (i := 1) (dX9_at 7 rfl) rfl rfl ?_
      obtain ⟨hg, H⟩ := ite_G H
      refine R_ialdF fj hfj hg (dX9_at 8 rfl) ?_
      refine R_goto (tgt := 17) (dX9_at 9 rfl) (by decide) ?_
      exact R_iret rfl rfl (Nat.zero_le _) (Nat.zero_le _) (dX9_at 11 rfl) ⟨congrArg (fun z => some (Sum.inl z)) (Option.some.inj H), rfl, rfl⟩
/-- a place of a row, 0 outside -/
theorem f_at_eq (ci N : Nat) (i : Int) (M : Mem) : f_X9_at ci N i M = some (rd N (M ci) i) := by
  unfold f_X9_at rd
  by_cases h1 : i < 0
  · rw [if_pos h1, if_neg (by omega)]
  · rw [if_neg h1]
    by_cases h2 : i < (N : Int)
    · rw [if_pos h2, if_pos (by omega), if_pos (by omega)]
    · rw [if_neg h2, if_neg (by omega)]
theorem t_at (l : Launch) (g : GG) (S : SW) (M : Mem) (ci : Nat) {N aa : Nat} (hA : S[ci]? = some (aa, .inl N)) (hN : N < 2147483648) (i : Int) : CT l g MX9_at 1 0 0 S M [.inr (.inr (some aa)), .inl i] (q_ex S (some (.inl (rd N (M ci) i))) M) := t_X9_at l g S M ci N hA hN i (f_at_eq ci N i M)
theorem f_atF_eq (g : GG) (j : Nat) (i : Int) (M : Mem) : f_X9_atF g j i M = some (rd (q_fl g j) (q_ff g j) i) := by
  unfold f_X9_atF rd
  by_cases h1 : i < 0
  · rw [if_pos h1, if_neg (by omega)]
  · rw [if_neg h1]
    by_cases h2 : i < (q_fl g j : Int)
    · rw [if_pos h2, if_pos (by omega), if_pos (by omega)]
    · rw [if_neg h2, if_neg (by omega)]
theorem t_atT (l : Launch) (g : GG) (S : SW) (M : Mem) (i : Int) : CT l g MX9_at 1 0 0 S M [.inr (.inr (some (g.2.2.2.1 1))), .inl i] (q_ex S (some (.inl (rd 6 frT i))) M) := t_X9_atF l g S M 1 (by decide) i (f_atF_eq g 1 i M)
theorem t_atK (l : Launch) (g : GG) (S : SW) (M : Mem) (i : Int) : CT l g MX9_at 1 0 0 S M [.inr (.inr (some (g.2.2.2.1 2))), .inl i] (q_ex S (some (.inl (rd 6 frK i))) M) := t_X9_atF l g S M 2 (by decide) i (f_atF_eq g 2 i M)
def f_X3_had (x1 : Int) (x2 : Int) (M : Mem) : Int :=
  rd 7200 (M 6) (w32 ((w32 (x1 * 720)) + x2))
set_option maxHeartbeats 4000000 in
theorem t_X3_had (l : Launch) (g : GG) (ad : Nat → Nat) (S : SW) (M : Mem) (hS : q_ag 0 38 ad S) (x1 : Int) (x2 : Int) : CT l g MX3_had 2 0 0 S M [.inr (.inr (some (ad 3))), .inl x1, .inl x2] (q_ex S (some (.inl (f_X3_had x1 x2 M))) M) := by
  obtain ⟨r, H⟩ : ∃ r, f_X3_had x1 x2 M = r := ⟨_, rfl⟩
  rw [H]
  unfold f_X3_had at H
  refine CT_of (ls0 := [some (.inr (.inr (some (ad 3)))), some (.inl x1), some (.inl x2)]) (by decide +kernel) (Nat.le_of_ble_eq_true rfl) rfl ?_
  refine R_aload_n (i := 0) (dX3_had 0 rfl) rfl rfl ?_
  refine R_getR cgX3 3 (cl3 hS) 2 (Nat.le_of_ble_eq_true rfl) rfl (Or.inl tb_139) (dX3_had 1 rfl) ?_
  refine R_iload_n (i := 1) (dX3_had 2 rfl) rfl rfl ?_
  refine R_sipush (dX3_had 3 rfl) rfl rfl ?_
  refine R_imul (dX3_had 4 rfl) ?_
  refine R_iload_n (i := 2) (dX3_had 5 rfl) rfl rfl ?_
  refine R_iadd (dX3_had 6 rfl) ?_
  refine R_cS (st' := [.inl (rd 7200 (M 6) (w32 ((w32 (x1 * 720)) + x2)))]) [.inr (.inr (some (ad 6))), .inl (w32 ((w32 (x1 * 720)) + x2))] [] (t_at l g S _ 6 (cl6 hS) (Nat.le_of_ble_eq_true rfl) (w32 ((w32 (x1 * 720)) + x2))) msX9_at (Or.inr ⟨_, tb_640⟩) ⟨Nat.le_of_ble_eq_true rfl, Nat.le_of_ble_eq_true rfl⟩ (Nat.zero_le _) (Nat.zero_le _) rfl rfl (Nat.le_of_ble_eq_true rfl) rfl (dX3_had 7 rfl) ?_
  exact R_iret rfl rfl (Nat.zero_le _) (Nat.zero_le _) (dX3_had 8 rfl) ⟨congrArg (fun z => some (Sum.inl z)) H, rfl, rfl⟩
def f_X0_brokenIn_L5 (x2 : Int) (M : Mem) : Nat → Int → Int → Option Int
  | 0, _, _ => none
  | n + 1, x3, x4 =>
    if x4 < M 7 4 then
      if f_X0_holds (rd 12 (M 8) x4) (rd 12 (M 10) x4) (rd 12 (M 11) x4) (f_X3_had (rd 12 (M 9) x4) x2 M) (f_X3_had (rd 12 (M 11) x4) x2 M) = 0 then
        f_X0_brokenIn_L5 x2 M n (b_or x3 (b_shl 1 x4)) (w32 (x4 + 1))
      else
        f_X0_brokenIn_L5 x2 M n x3 (w32 (x4 + 1))
    else
      some x3
set_option maxHeartbeats 4000000 in
theorem t_X0_brokenIn_L5 (l : Launch) (g : GG) (ad : Nat → Nat) (S : SW) (M : Mem) (hS : q_ag 0 38 ad S) (x2 : Int) {r : Int} : ∀ (n : Nat) (x3 : Int) (x4 : Int), f_X0_brokenIn_L5 x2 M n x3 x4 = some r → RW l g MX0_brokenIn (q_rm 3 0 0) 0 0 (q_ex S (some (.inl r)) M) 5 S M 0 0 [some (.inr (.inr (some (ad 7)))), some (.inr (.inr (some (ad 3)))), some (.inl x2), some (.inl x3), some (.inl x4), none, none] [] := by
  intro n
  induction n with
  | zero => intro x3 x4 H; exact absurd H (by simp [f_X0_brokenIn_L5])
  | succ n ih =>
    intro x3 x4 H
    rw [f_X0_brokenIn_L5] at H
    refine R_iload (i := 4) (dX0_brokenIn 4 rfl) rfl ?_
    refine R_aload_n (i := 0) (dX0_brokenIn 5 rfl) rfl rfl ?_
    refine R_getI cgX0 7 (cl7 hS) 4 (Nat.le_of_ble_eq_true rfl) rfl (Or.inl tb_167) (dX0_brokenIn 6 rfl) ?_
    refine R_icmp_ge (tgt := 89) (dX0_brokenIn 7 rfl) (by decide) (fun hc => ?_) (fun hc => ?_)
    · have H := ite_F H hc
      refine R_iload_n (i := 3) (dX0_brokenIn 45 rfl) rfl rfl ?_
      exact R_iret rfl rfl (Nat.zero_le _) (Nat.zero_le _) (dX0_brokenIn 46 rfl) ⟨congrArg (fun z => some (Sum.inl z)) (Option.some.inj H), rfl, rfl⟩
    · have H := ite_T H hc
      refine R_aload_n (i := 0) (dX0_brokenIn 8 rfl) rfl rfl ?_
      refine R_getR cgX0 7 (cl7 hS) 3 (Nat.le_of_ble_eq_true rfl) rfl (Or.inl tb_165) (dX0_brokenIn 9 rfl) ?_
      refine R_iload (i := 4) (dX0_brokenIn 10 rfl) rfl ?_
      refine R_cS (st' := [.inl (rd 12 (M 11) x4)]) [.inr (.inr (some (ad 11))), .inl x4] [] (t_at l g S _ 11 (cl11 hS) (Nat.le_of_ble_eq_true rfl) x4) msX9_at (Or.inr ⟨_, tb_765⟩) ⟨Nat.le_of_ble_eq_true rfl, Nat.le_of_ble_eq_true rfl⟩ (Nat.zero_le _) (Nat.zero_le _) rfl rfl (Nat.le_of_ble_eq_true rfl) rfl (dX0_brokenIn 11 rfl) ?_
      refine R_istore (i := 5) (ls' := [some (.inr (.inr (some (ad 7)))), some (.inr (.inr (some (ad 3)))), some (.inl x2), some (.inl x3), some (.inl x4), some (.inl (rd 12 (M 11) x4)), none]) (dX0_brokenIn 12 rfl) (Nat.le_of_ble_eq_true rfl) (Nat.le_of_ble_eq_true rfl) rfl rfl ?_
      refine R_aload_n (i := 1) (dX0_brokenIn 13 rfl) rfl rfl ?_
      refine R_aload_n (i := 0) (dX0_brokenIn 14 rfl) rfl rfl ?_
      refine R_getR cgX0 7 (cl7 hS) 1 (Nat.le_of_ble_eq_true rfl) rfl (Or.inl tb_161) (dX0_brokenIn 15 rfl) ?_
      refine R_iload (i := 4) (dX0_brokenIn 16 rfl) rfl ?_
      refine R_cS (st' := [.inl (rd 12 (M 9) x4), .inr (.inr (some (ad 3)))]) [.inr (.inr (some (ad 9))), .inl x4] [.inr (.inr (some (ad 3)))] (t_at l g S _ 9 (cl9 hS) (Nat.le_of_ble_eq_true rfl) x4) msX9_at (Or.inr ⟨_, tb_765⟩) ⟨Nat.le_of_ble_eq_true rfl, Nat.le_of_ble_eq_true rfl⟩ (Nat.zero_le _) (Nat.zero_le _) rfl rfl (Nat.le_of_ble_eq_true rfl) rfl (dX0_brokenIn 17 rfl) ?_
      refine R_iload_n (i := 2) (dX0_brokenIn 18 rfl) rfl rfl ?_
      refine R_cV (st' := [.inl (f_X3_had (rd 12 (M 9) x4) x2 M)]) [.inl (rd 12 (M 9) x4), .inl x2] [] (t_X3_had l g ad S _ hS   (rd 12 (M 9) x4) x2) msX3_had (Or.inl tb_766) (Or.inl ⟨3, 3, _, _, _, (cl3 hS), rfl⟩) ⟨Nat.le_of_ble_eq_true rfl, Nat.le_of_ble_eq_true rfl⟩ (Nat.zero_le _) (Nat.zero_le _) rfl rfl (Nat.le_of_ble_eq_true rfl) rfl (dX0_brokenIn 19 rfl) ?_
      refine R_istore (i := 6) (ls' := [some (.inr (.inr (some (ad 7)))), some (.inr (.inr (some (ad 3)))), some (.inl x2), some (.inl x3), some (.inl x4), some (.inl (rd 12 (M 11) x4)), some (.inl (f_X3_had (rd 12 (M 9) x4) x2 M))]) (dX0_brokenIn 20 rfl) (Nat.le_of_ble_eq_true rfl) (Nat.le_of_ble_eq_true rfl) rfl rfl ?_
      refine R_aload_n (i := 0) (dX0_brokenIn 21 rfl) rfl rfl ?_
      refine R_getR cgX0 7 (cl7 hS) 0 (Nat.le_of_ble_eq_true rfl) rfl (Or.inl tb_159) (dX0_brokenIn 22 rfl) ?_
      refine R_iload (i := 4) (dX0_brokenIn 23 rfl) rfl ?_
      refine R_cS (st' := [.inl (rd 12 (M 8) x4)]) [.inr (.inr (some (ad 8))), .inl x4] [] (t_at l g S _ 8 (cl8 hS) (Nat.le_of_ble_eq_true rfl) x4) msX9_at (Or.inr ⟨_, tb_765⟩) ⟨Nat.le_of_ble_eq_true rfl, Nat.le_of_ble_eq_true rfl⟩ (Nat.zero_le _) (Nat.zero_le _) rfl rfl (Nat.le_of_ble_eq_true rfl) rfl (dX0_brokenIn 24 rfl) ?_
      refine R_aload_n (i := 0) (dX0_brokenIn 25 rfl) rfl rfl ?_
      refine R_getR cgX0 7 (cl7 hS) 2 (Nat.le_of_ble_eq_true rfl) rfl (Or.inl tb_163) (dX0_brokenIn 26 rfl) ?_
      refine R_iload (i := 4) (dX0_brokenIn 27 rfl) rfl ?_
      refine R_cS (st' := [.inl (rd 12 (M 10) x4), .inl (rd 12 (M 8) x4)]) [.inr (.inr (some (ad 10))), .inl x4] [.inl (rd 12 (M 8) x4)] (t_at l g S _ 10 (cl10 hS) (Nat.le_of_ble_eq_true rfl) x4) msX9_at (Or.inr ⟨_, tb_765⟩) ⟨Nat.le_of_ble_eq_true rfl, Nat.le_of_ble_eq_true rfl⟩ (Nat.zero_le _) (Nat.zero_le _) rfl rfl (Nat.le_of_ble_eq_true rfl) rfl (dX0_brokenIn 28 rfl) ?_
      refine R_iload (i := 5) (dX0_brokenIn 29 rfl) rfl ?_
      refine R_iload (i := 6) (dX0_brokenIn 30 rfl) rfl ?_
      refine R_aload_n (i := 1) (dX0_brokenIn 31 rfl) rfl rfl ?_
      refine R_iload (i := 5) (dX0_brokenIn 32 rfl) rfl ?_
      refine R_iload_n (i := 2) (dX0_brokenIn 33 rfl) rfl rfl ?_
      refine R_cV (st' := [.inl (f_X3_had (rd 12 (M 11) x4) x2 M), .inl (f_X3_had (rd 12 (M 9) x4) x2 M), .inl (rd 12 (M 11) x4), .inl (rd 12 (M 10) x4), .inl (rd 12 (M 8) x4)]) [.inl (rd 12 (M 11) x4), .inl x2] [.inl (f_X3_had (rd 12 (M 9) x4) x2 M), .inl (rd 12 (M 11) x4), .inl (rd 12 (M 10) x4), .inl (rd 12 (M 8) x4)] (t_X3_had l g ad S _ hS   (rd 12 (M 11) x4) x2) msX3_had (Or.inl tb_766) (Or.inl ⟨3, 3, _, _, _, (cl3 hS), rfl⟩) ⟨Nat.le_of_ble_eq_true rfl, Nat.le_of_ble_eq_true rfl⟩ (Nat.zero_le _) (Nat.zero_le _) rfl rfl (Nat.le_of_ble_eq_true rfl) rfl (dX0_brokenIn 34 rfl) ?_
      refine R_cS (st' := [.inl (f_X0_holds (rd 12 (M 8) x4) (rd 12 (M 10) x4) (rd 12 (M 11) x4) (f_X3_had (rd 12 (M 9) x4) x2 M) (f_X3_had (rd 12 (M 11) x4) x2 M))]) [.inl (rd 12 (M 8) x4), .inl (rd 12 (M 10) x4), .inl (rd 12 (M 11) x4), .inl (f_X3_had (rd 12 (M 9) x4) x2 M), .inl (f_X3_had (rd 12 (M 11) x4) x2 M)] [] (t_X0_holds l g ad S _ hS   (rd 12 (M 8) x4) (rd 12 (M 10) x4) (rd 12 (M 11) x4) (f_X3_had (rd 12 (M 9) x4) x2 M) (f_X3_had (rd 12 (M 11) x4) x2 M)) msX0_holds (Or.inl tb_767) ⟨Nat.le_of_ble_eq_true rfl, Nat.le_of_ble_eq_true rfl⟩ (Nat.zero_le _) (Nat.zero_le _) rfl rfl (Nat.le_of_ble_eq_true rfl) rfl (dX0_brokenIn 35 rfl) ?_
      refine R_if_ne (tgt := 83) (dX0_brokenIn 36 rfl) (by decide) (fun hc => ?_) (fun hc => ?_)
      · have H := ite_F H hc
        refine R_iinc (i := 4) (ls' := [some (.inr (.inr (some (ad 7)))), some (.inr (.inr (some (ad 3)))), some (.inl x2), some (.inl x3), some (.inl (w32 (x4 + 1))), some (.inl (rd 12 (M 11) x4)), some (.inl (f_X3_had (rd 12 (M 9) x4) x2 M))]) (dX0_brokenIn 43 rfl) rfl (Nat.le_of_ble_eq_true rfl) rfl rfl ?_
        refine R_goto (tgt := 5) (dX0_brokenIn 44 rfl) (by decide) ?_
        refine R_mask [true, true, true, true, true, false, false] rfl ?_
        exact ih x3 (w32 (x4 + 1)) H
      · have H := ite_T H hc
        refine R_iload_n (i := 3) (dX0_brokenIn 37 rfl) rfl rfl ?_
        refine R_iconst (dX0_brokenIn 38 rfl) rfl ?_
        refine R_iload (i := 4) (dX0_brokenIn 39 rfl) rfl ?_
        refine R_ishl (dX0_brokenIn 40 rfl) ?_
        refine R_ior (dX0_brokenIn 41 rfl) ?_
        refine R_istore_n (i := 3) (ls' := [some (.inr (.inr (some (ad 7)))), some (.inr (.inr (some (ad 3)))), some (.inl x2), some (.inl (b_or x3 (b_shl 1 x4))), some (.inl x4), some (.inl (rd 12 (M 11) x4)), some (.inl (f_X3_had (rd 12 (M 9) x4) x2 M))]) (dX0_brokenIn 42 rfl) rfl (Nat.le_of_ble_eq_true rfl) (Nat.le_of_ble_eq_true rfl) rfl rfl ?_
        refine R_iinc (i := 4) (ls' := [some (.inr (.inr (some (ad 7)))), some (.inr (.inr (some (ad 3)))), some (.inl x2), some (.inl (b_or x3 (b_shl 1 x4))), some (.inl (w32 (x4 + 1))), some (.inl (rd 12 (M 11) x4)), some (.inl (f_X3_had (rd 12 (M 9) x4) x2 M))]) (dX0_brokenIn 43 rfl) rfl (Nat.le_of_ble_eq_true rfl) rfl rfl ?_
        refine R_goto (tgt := 5) (dX0_brokenIn 44 rfl) (by decide) ?_
        refine R_mask [true, true, true, true, true, false, false] rfl ?_
        exact ih (b_or x3 (b_shl 1 x4)) (w32 (x4 + 1)) H
def f_X0_brokenIn (x2 : Int) (M : Mem) : Option Int :=
  f_X0_brokenIn_L5
    x2 M 100000 0 0
set_option maxHeartbeats 4000000 in
theorem t_X0_brokenIn (l : Launch) (g : GG) (ad : Nat → Nat) (S : SW) (M : Mem) (hS : q_ag 0 38 ad S) (x2 : Int) {r : Int} (H : f_X0_brokenIn x2 M = some r) : CT l g MX0_brokenIn 3 0 0 S M [.inr (.inr (some (ad 7))), .inr (.inr (some (ad 3))), .inl x2] (q_ex S (some (.inl r)) M) := by
  unfold f_X0_brokenIn at H
  refine CT_of (ls0 := [some (.inr (.inr (some (ad 7)))), some (.inr (.inr (some (ad 3)))), some (.inl x2), none, none, none, none]) (by decide +kernel) (Nat.le_of_ble_eq_true rfl) rfl ?_
  refine R_iconst (dX0_brokenIn 0 rfl) rfl ?_
  refine R_istore_n (i := 3) (ls' := [some (.inr (.inr (some (ad 7)))), some (.inr (.inr (some (ad 3)))), some (.inl x2), some (.inl 0), none, none, none]) (dX0_brokenIn 1 rfl) rfl (Nat.le_of_ble_eq_true rfl) (Nat.le_of_ble_eq_true rfl) rfl rfl ?_
  refine R_iconst (dX0_brokenIn 2 rfl) rfl ?_
  refine R_istore (i := 4) (ls' := [some (.inr (.inr (some (ad 7)))), some (.inr (.inr (some (ad 3)))), some (.inl x2), some (.inl 0), some (.inl 0), none, none]) (dX0_brokenIn 3 rfl) (Nat.le_of_ble_eq_true rfl) (Nat.le_of_ble_eq_true rfl) rfl rfl ?_
  exact t_X0_brokenIn_L5 l g ad S M hS x2  100000 0 0 H 
def f_X0_isOne_L4 (x1 : Int) (M : Mem) : Nat → Int → Int → Option Int
  | 0, _, _ => none
  | n + 1, x2, x3 =>
    if x3 < 6 then
      if x2 < 0 then
        some 0
      else
        if x2 = x1 then
          some 1
        else
          f_X0_isOne_L4 x1 M n (rd 6 frK x2) (w32 (x3 + 1))
    else
      some 0
set_option maxHeartbeats 4000000 in
theorem t_X0_isOne_L4 (l : Launch) (g : GG) (ad : Nat → Nat) (S : SW) (M : Mem) (hS : q_ag 0 38 ad S) (x1 : Int) {r : Int} : ∀ (n : Nat) (x2 : Int) (x3 : Int), f_X0_isOne_L4 x1 M n x2 x3 = some r → RW l g MX0_isOne (q_rm 2 0 0) 0 0 (q_ex S (some (.inl r)) M) 4 S M 0 0 [none, some (.inl x1), some (.inl x2), some (.inl x3)] [] := by
  intro n
  induction n with
  | zero => intro x2 x3 H; exact absurd H (by simp [f_X0_isOne_L4])
  | succ n ih =>
    intro x2 x3 H
    rw [f_X0_isOne_L4] at H
    refine R_iload_n (i := 3) (dX0_isOne 4 rfl) rfl rfl ?_
    refine R_gets sel_K trivial (Or.inr ⟨_, tb_1067⟩) (dX0_isOne 5 rfl) ?_
    refine R_alenF 2 (by decide) (dX0_isOne 6 rfl) ?_
    refine R_icmp_ge (tgt := 37) (dX0_isOne 7 rfl) (by decide) (fun hc => ?_) (fun hc => ?_)
    · have H := ite_F H hc
      refine R_iconst (dX0_isOne 21 rfl) rfl ?_
      exact R_iret rfl (by decide +kernel) (Nat.zero_le _) (Nat.zero_le _) (dX0_isOne 22 rfl) ⟨congrArg (fun z => some (Sum.inl z)) (Option.some.inj H), rfl, rfl⟩
    · have H := ite_T H hc
      refine R_iload_n (i := 2) (dX0_isOne 8 rfl) rfl rfl ?_
      refine R_if_lt (tgt := 37) (dX0_isOne 9 rfl) (by decide) (fun hc => ?_) (fun hc => ?_)
      · have H := ite_T H hc
        refine R_iconst (dX0_isOne 21 rfl) rfl ?_
        exact R_iret rfl (by decide +kernel) (Nat.zero_le _) (Nat.zero_le _) (dX0_isOne 22 rfl) ⟨congrArg (fun z => some (Sum.inl z)) (Option.some.inj H), rfl, rfl⟩
      · have H := ite_F H hc
        refine R_iload_n (i := 2) (dX0_isOne 10 rfl) rfl rfl ?_
        refine R_iload_n (i := 1) (dX0_isOne 11 rfl) rfl rfl ?_
        refine R_icmp_ne (tgt := 23) (dX0_isOne 12 rfl) (by decide) (fun hc => ?_) (fun hc => ?_)
        · have H := ite_F H hc
          refine R_gets sel_K trivial (Or.inr ⟨_, tb_1067⟩) (dX0_isOne 15 rfl) ?_
          refine R_iload_n (i := 2) (dX0_isOne 16 rfl) rfl rfl ?_
          refine R_cS (st' := [.inl (rd 6 frK x2)]) [.inr (.inr (some (g.2.2.2.1 2))), .inl x2] [] (t_atK l g S _ x2) msX9_at (Or.inr ⟨_, tb_765⟩) ⟨Nat.le_of_ble_eq_true rfl, Nat.le_of_ble_eq_true rfl⟩ (Nat.zero_le _) (Nat.zero_le _) rfl rfl (Nat.le_of_ble_eq_true rfl) rfl (dX0_isOne 17 rfl) ?_
          refine R_istore_n (i := 2) (ls' := [none, some (.inl x1), some (.inl (rd 6 frK x2)), some (.inl x3)]) (dX0_isOne 18 rfl) rfl (Nat.le_of_ble_eq_true rfl) (Nat.le_of_ble_eq_true rfl) rfl rfl ?_
          refine R_iinc (i := 3) (ls' := [none, some (.inl x1), some (.inl (rd 6 frK x2)), some (.inl (w32 (x3 + 1)))]) (dX0_isOne 19 rfl) rfl (Nat.le_of_ble_eq_true rfl) rfl rfl ?_
          refine R_goto (tgt := 4) (dX0_isOne 20 rfl) (by decide) ?_
          exact ih (rd 6 frK x2) (w32 (x3 + 1)) H
        · have H := ite_T H hc
          refine R_iconst (dX0_isOne 13 rfl) rfl ?_
          exact R_iret rfl (by decide +kernel) (Nat.zero_le _) (Nat.zero_le _) (dX0_isOne 14 rfl) ⟨congrArg (fun z => some (Sum.inl z)) (Option.some.inj H), rfl, rfl⟩
def f_X0_isOne (x0 : Int) (x1 : Int) (M : Mem) : Option Int :=
  f_X0_isOne_L4
    x1 M 100000 x0 0
set_option maxHeartbeats 4000000 in
theorem t_X0_isOne (l : Launch) (g : GG) (ad : Nat → Nat) (S : SW) (M : Mem) (hS : q_ag 0 38 ad S) (x0 : Int) (x1 : Int) {r : Int} (H : f_X0_isOne x0 x1 M = some r) : CT l g MX0_isOne 2 0 0 S M [.inl x0, .inl x1] (q_ex S (some (.inl r)) M) := by
  unfold f_X0_isOne at H
  refine CT_of (ls0 := [some (.inl x0), some (.inl x1), none, none]) (by decide +kernel) (Nat.le_of_ble_eq_true rfl) rfl ?_
  refine R_iload_n (i := 0) (dX0_isOne 0 rfl) rfl rfl ?_
  refine R_istore_n (i := 2) (ls' := [some (.inl x0), some (.inl x1), some (.inl x0), none]) (dX0_isOne 1 rfl) rfl (Nat.le_of_ble_eq_true rfl) (Nat.le_of_ble_eq_true rfl) rfl rfl ?_
  refine R_iconst (dX0_isOne 2 rfl) rfl ?_
  refine R_istore_n (i := 3) (ls' := [some (.inl x0), some (.inl x1), some (.inl x0), some (.inl 0)]) (dX0_isOne 3 rfl) rfl (Nat.le_of_ble_eq_true rfl) (Nat.le_of_ble_eq_true rfl) rfl rfl ?_
  refine R_mask [false, true, true, true] rfl ?_
  exact t_X0_isOne_L4 l g ad S M hS x1  100000 x0 0 H 
def f_X1_clear_L2 (ci : Nat) (N : Nat) : Nat → Int → Mem → Option (Int × Mem)
  | 0, _, _ => none
  | n + 1, x1, M =>
    if x1 < (N : Int) then
      if 0 ≤ x1 ∧ x1 < (N : Int) then
        f_X1_clear_L2 ci N n (w32 (x1 + 1)) (mset M ci (x1).toNat 0)
      else none
    else
      some (0, M)
set_option maxHeartbeats 4000000 in
theorem t_X1_clear_L2 (l : Launch) (g : GG) (S : SW) (ci : Nat) (N : Nat) {aa : Nat} (hA : S[ci]? = some (aa, .inl N)) (hN : N < 2147483648) {r : Int} {M' : Mem} : ∀ (n : Nat) (x1 : Int) (M : Mem), f_X1_clear_L2 ci N n x1 M = some (r, M') → RW l g MX1_clear (q_rm 1 0 0) 0 0 (q_ex S none M') 2 S M 0 0 [some (.inr (.inr (some aa))), some (.inl x1)] [] := by
  intro n
  induction n with
  | zero => intro x1 M H; exact absurd H (by simp [f_X1_clear_L2])
  | succ n ih =>
    intro x1 M H
    rw [f_X1_clear_L2] at H
    refine R_iload_n (i := 1) (dX1_clear 2 rfl) rfl rfl ?_
    refine R_aload_n (i := 0) (dX1_clear 3 rfl) rfl rfl ?_
    refine R_alen ci hA hN (dX1_clear 4 rfl) ?_
    refine R_icmp_ge (tgt := 18) (dX1_clear 5 rfl) (by decide) (fun hc => ?_) (fun hc => ?_)
    · have H := ite_F H hc
      exact R_vret rfl (Nat.zero_le _) (Nat.zero_le _) (dX1_clear 12 rfl) ⟨rfl, rfl, (Prod.mk.inj (Option.some.inj H)).2⟩
    · have H := ite_T H hc
      refine R_aload_n (i := 0) (dX1_clear 6 rfl) rfl rfl ?_
      refine R_iload_n (i := 1) (dX1_clear 7 rfl) rfl rfl ?_
      refine R_iconst (dX1_clear 8 rfl) rfl ?_
      obtain ⟨hg, H⟩ := ite_G H
      refine R_iast ci hA hg (dX1_clear 9 rfl) ?_
      refine R_iinc (i := 1) (ls' := [some (.inr (.inr (some aa))), some (.inl (w32 (x1 + 1)))]) (dX1_clear 10 rfl) rfl (Nat.le_of_ble_eq_true rfl) rfl rfl ?_
      refine R_goto (tgt := 2) (dX1_clear 11 rfl) (by decide) ?_
      exact ih (w32 (x1 + 1)) (mset M ci (x1).toNat 0) H
def f_X1_clear (ci : Nat) (N : Nat) (M : Mem) : Option (Int × Mem) :=
  f_X1_clear_L2
    ci N 100000 0 M
set_option maxHeartbeats 4000000 in
theorem t_X1_clear (l : Launch) (g : GG) (S : SW) (M : Mem) (ci : Nat) (N : Nat) {aa : Nat} (hA : S[ci]? = some (aa, .inl N)) (hN : N < 2147483648) {r : Int} {M' : Mem} (H : f_X1_clear ci N M = some (r, M')) : CT l g MX1_clear 1 0 0 S M [.inr (.inr (some aa))] (q_ex S none M') := by
  unfold f_X1_clear at H
  refine CT_of (ls0 := [some (.inr (.inr (some aa))), none]) (by decide +kernel) (Nat.le_of_ble_eq_true rfl) rfl ?_
  refine R_iconst (dX1_clear 0 rfl) rfl ?_
  refine R_istore_n (i := 1) (ls' := [some (.inr (.inr (some aa))), some (.inl 0)]) (dX1_clear 1 rfl) rfl (Nat.le_of_ble_eq_true rfl) (Nat.le_of_ble_eq_true rfl) rfl rfl ?_
  exact t_X1_clear_L2 l g S ci N hA hN  100000 0 M H 
def f_X3_signsOf (x1 : Int) (M : Mem) : Int :=
  rd 10 (M 4) x1
set_option maxHeartbeats 4000000 in
theorem t_X3_signsOf (l : Launch) (g : GG) (ad : Nat → Nat) (S : SW) (M : Mem) (hS : q_ag 0 38 ad S) (x1 : Int) : CT l g MX3_signsOf 2 0 0 S M [.inr (.inr (some (ad 3))), .inl x1] (q_ex S (some (.inl (f_X3_signsOf x1 M))) M) := by
  obtain ⟨r, H⟩ : ∃ r, f_X3_signsOf x1 M = r := ⟨_, rfl⟩
  rw [H]
  unfold f_X3_signsOf at H
  refine CT_of (ls0 := [some (.inr (.inr (some (ad 3)))), some (.inl x1)]) (by decide +kernel) (Nat.le_of_ble_eq_true rfl) rfl ?_
  refine R_aload_n (i := 0) (dX3_signsOf 0 rfl) rfl rfl ?_
  refine R_getR cgX3 3 (cl3 hS) 0 (Nat.le_of_ble_eq_true rfl) rfl (Or.inl tb_136) (dX3_signsOf 1 rfl) ?_
  refine R_iload_n (i := 1) (dX3_signsOf 2 rfl) rfl rfl ?_
  refine R_cS (st' := [.inl (rd 10 (M 4) x1)]) [.inr (.inr (some (ad 4))), .inl x1] [] (t_at l g S _ 4 (cl4 hS) (Nat.le_of_ble_eq_true rfl) x1) msX9_at (Or.inr ⟨_, tb_640⟩) ⟨Nat.le_of_ble_eq_true rfl, Nat.le_of_ble_eq_true rfl⟩ (Nat.zero_le _) (Nat.zero_le _) rfl rfl (Nat.le_of_ble_eq_true rfl) rfl (dX3_signsOf 3 rfl) ?_
  exact R_iret rfl rfl (Nat.zero_le _) (Nat.zero_le _) (dX3_signsOf 4 rfl) ⟨congrArg (fun z => some (Sum.inl z)) H, rfl, rfl⟩
def f_X3_priceOf (x1 : Int) (M : Mem) : Int :=
  rd 10 (M 5) x1
set_option maxHeartbeats 4000000 in
theorem t_X3_priceOf (l : Launch) (g : GG) (ad : Nat → Nat) (S : SW) (M : Mem) (hS : q_ag 0 38 ad S) (x1 : Int) : CT l g MX3_priceOf 2 0 0 S M [.inr (.inr (some (ad 3))), .inl x1] (q_ex S (some (.inl (f_X3_priceOf x1 M))) M) := by
  obtain ⟨r, H⟩ : ∃ r, f_X3_priceOf x1 M = r := ⟨_, rfl⟩
  rw [H]
  unfold f_X3_priceOf at H
  refine CT_of (ls0 := [some (.inr (.inr (some (ad 3)))), some (.inl x1)]) (by decide +kernel) (Nat.le_of_ble_eq_true rfl) rfl ?_
  refine R_aload_n (i := 0) (dX3_priceOf 0 rfl) rfl rfl ?_
  refine R_getR cgX3 3 (cl3 hS) 1 (Nat.le_of_ble_eq_true rfl) rfl (Or.inl tb_137) (dX3_priceOf 1 rfl) ?_
  refine R_iload_n (i := 1) (dX3_priceOf 2 rfl) rfl rfl ?_
  refine R_cS (st' := [.inl (rd 10 (M 5) x1)]) [.inr (.inr (some (ad 5))), .inl x1] [] (t_at l g S _ 5 (cl5 hS) (Nat.le_of_ble_eq_true rfl) x1) msX9_at (Or.inr ⟨_, tb_640⟩) ⟨Nat.le_of_ble_eq_true rfl, Nat.le_of_ble_eq_true rfl⟩ (Nat.zero_le _) (Nat.zero_le _) rfl rfl (Nat.le_of_ble_eq_true rfl) rfl (dX3_priceOf 3 rfl) ?_
  exact R_iret rfl rfl (Nat.zero_le _) (Nat.zero_le _) (dX3_priceOf 4 rfl) ⟨congrArg (fun z => some (Sum.inl z)) H, rfl, rfl⟩
def f_X6_joined (x0 : Int) (x1 : Int) (x2 : Int) : Int :=
  if x0 = 42 then
    w32 (x1 * x2)
  else if x0 = 43 then
    w32 (x1 + x2)
  else if x0 = 45 then
    w32 (x1 - x2)
  else if x0 = 60 then
    if x1 < x2 then
      1
    else
      0
  else if x0 = 61 then
    if x1 = x2 then
      1
    else
      0
  else if x0 = 260 then
    if x1 = 0 then
      0
    else
      if x2 = 0 then
        0
      else
        1
  else
    if x1 = 0 then
      if x2 = 0 then
        0
      else
        1
    else
      1
set_option maxHeartbeats 4000000 in
theorem t_X6_joined (l : Launch) (g : GG) (ad : Nat → Nat) (S : SW) (M : Mem) (hS : q_ag 12 21 ad S) (x0 : Int) (x1 : Int) (x2 : Int) : CT l g MX6_joined 1 0 0 S M [.inl x0, .inl x1, .inl x2] (q_ex S (some (.inl (f_X6_joined x0 x1 x2))) M) := by
  obtain ⟨r, H⟩ : ∃ r, f_X6_joined x0 x1 x2 = r := ⟨_, rfl⟩
  rw [H]
  unfold f_X6_joined at H
  refine CT_of (ls0 := [some (.inl x0), some (.inl x1), some (.inl x2)]) (by decide +kernel) (Nat.le_of_ble_eq_true rfl) rfl ?_
  refine R_iload_n (i := 0) (dX6_joined 0 rfl) rfl rfl ?_
  by_cases hc42 : x0 = 42
  · have H := ite_T H hc42
    refine R_lookup (tgt := 60) (dX6_joined 1 rfl) (by decide) (off := 59) (by rw [hc42]; rfl) (by decide) ?_
    refine R_iload_n (i := 1) (dX6_joined 2 rfl) rfl rfl ?_
    refine R_iload_n (i := 2) (dX6_joined 3 rfl) rfl rfl ?_
    refine R_imul (dX6_joined 4 rfl) ?_
    exact R_iret rfl rfl (Nat.zero_le _) (Nat.zero_le _) (dX6_joined 5 rfl) ⟨congrArg (fun z => some (Sum.inl z)) H, rfl, rfl⟩
  have H := ite_F H hc42
  by_cases hc43 : x0 = 43
  · have H := ite_T H hc43
    refine R_lookup (tgt := 64) (dX6_joined 1 rfl) (by decide) (off := 63) (by rw [hc43]; rfl) (by decide) ?_
    refine R_iload_n (i := 1) (dX6_joined 6 rfl) rfl rfl ?_
    refine R_iload_n (i := 2) (dX6_joined 7 rfl) rfl rfl ?_
    refine R_iadd (dX6_joined 8 rfl) ?_
    exact R_iret rfl rfl (Nat.zero_le _) (Nat.zero_le _) (dX6_joined 9 rfl) ⟨congrArg (fun z => some (Sum.inl z)) H, rfl, rfl⟩
  have H := ite_F H hc43
  by_cases hc45 : x0 = 45
  · have H := ite_T H hc45
    refine R_lookup (tgt := 68) (dX6_joined 1 rfl) (by decide) (off := 67) (by rw [hc45]; rfl) (by decide) ?_
    refine R_iload_n (i := 1) (dX6_joined 10 rfl) rfl rfl ?_
    refine R_iload_n (i := 2) (dX6_joined 11 rfl) rfl rfl ?_
    refine R_isub (dX6_joined 12 rfl) ?_
    exact R_iret rfl rfl (Nat.zero_le _) (Nat.zero_le _) (dX6_joined 13 rfl) ⟨congrArg (fun z => some (Sum.inl z)) H, rfl, rfl⟩
  have H := ite_F H hc45
  by_cases hc60 : x0 = 60
  · have H := ite_T H hc60
    refine R_lookup (tgt := 72) (dX6_joined 1 rfl) (by decide) (off := 71) (by rw [hc60]; rfl) (by decide) ?_
    refine R_iload_n (i := 1) (dX6_joined 14 rfl) rfl rfl ?_
    refine R_iload_n (i := 2) (dX6_joined 15 rfl) rfl rfl ?_
    refine R_icmp_ge (tgt := 81) (dX6_joined 16 rfl) (by decide) (fun hc => ?_) (fun hc => ?_)
    · have H := ite_F H hc
      refine R_iconst (dX6_joined 19 rfl) rfl ?_
      exact R_iret rfl rfl (Nat.zero_le _) (Nat.zero_le _) (dX6_joined 20 rfl) ⟨congrArg (fun z => some (Sum.inl z)) H, rfl, rfl⟩
    · have H := ite_T H hc
      refine R_iconst (dX6_joined 17 rfl) rfl ?_
      refine R_goto (tgt := 82) (dX6_joined 18 rfl) (by decide) ?_
      exact R_iret rfl rfl (Nat.zero_le _) (Nat.zero_le _) (dX6_joined 20 rfl) ⟨congrArg (fun z => some (Sum.inl z)) H, rfl, rfl⟩
  have H := ite_F H hc60
  by_cases hc61 : x0 = 61
  · have H := ite_T H hc61
    refine R_lookup (tgt := 83) (dX6_joined 1 rfl) (by decide) (off := 82) (by rw [hc61]; rfl) (by decide) ?_
    refine R_iload_n (i := 1) (dX6_joined 21 rfl) rfl rfl ?_
    refine R_iload_n (i := 2) (dX6_joined 22 rfl) rfl rfl ?_
    refine R_icmp_ne (tgt := 92) (dX6_joined 23 rfl) (by decide) (fun hc => ?_) (fun hc => ?_)
    · have H := ite_F H hc
      refine R_iconst (dX6_joined 26 rfl) rfl ?_
      exact R_iret rfl rfl (Nat.zero_le _) (Nat.zero_le _) (dX6_joined 27 rfl) ⟨congrArg (fun z => some (Sum.inl z)) H, rfl, rfl⟩
    · have H := ite_T H hc
      refine R_iconst (dX6_joined 24 rfl) rfl ?_
      refine R_goto (tgt := 93) (dX6_joined 25 rfl) (by decide) ?_
      exact R_iret rfl rfl (Nat.zero_le _) (Nat.zero_le _) (dX6_joined 27 rfl) ⟨congrArg (fun z => some (Sum.inl z)) H, rfl, rfl⟩
  have H := ite_F H hc61
  by_cases hc260 : x0 = 260
  · have H := ite_T H hc260
    refine R_lookup (tgt := 94) (dX6_joined 1 rfl) (by decide) (off := 93) (by rw [hc260]; rfl) (by decide) ?_
    refine R_iload_n (i := 1) (dX6_joined 28 rfl) rfl rfl ?_
    refine R_if_eq (tgt := 106) (dX6_joined 29 rfl) (by decide) (fun hc => ?_) (fun hc => ?_)
    · have H := ite_T H hc
      refine R_iconst (dX6_joined 34 rfl) rfl ?_
      exact R_iret rfl rfl (Nat.zero_le _) (Nat.zero_le _) (dX6_joined 35 rfl) ⟨congrArg (fun z => some (Sum.inl z)) H, rfl, rfl⟩
    · have H := ite_F H hc
      refine R_iload_n (i := 2) (dX6_joined 30 rfl) rfl rfl ?_
      refine R_if_eq (tgt := 106) (dX6_joined 31 rfl) (by decide) (fun hc => ?_) (fun hc => ?_)
      · have H := ite_T H hc
        refine R_iconst (dX6_joined 34 rfl) rfl ?_
        exact R_iret rfl rfl (Nat.zero_le _) (Nat.zero_le _) (dX6_joined 35 rfl) ⟨congrArg (fun z => some (Sum.inl z)) H, rfl, rfl⟩
      · have H := ite_F H hc
        refine R_iconst (dX6_joined 32 rfl) rfl ?_
        refine R_goto (tgt := 107) (dX6_joined 33 rfl) (by decide) ?_
        exact R_iret rfl rfl (Nat.zero_le _) (Nat.zero_le _) (dX6_joined 35 rfl) ⟨congrArg (fun z => some (Sum.inl z)) H, rfl, rfl⟩
  have H := ite_F H hc260
  refine R_lookup (tgt := 108) (dX6_joined 1 rfl) (by decide) (off := 107) (by show Op.lookupswitch.offset [(42, 59), (43, 63), (45, 67), (60, 71), (61, 82), (260, 93)] 107 (x0) = 107; simp only [Op.lookupswitch.offset_cons, Op.lookupswitch.offset_nil]; rw [if_neg (fun q => hc42 q.symm), if_neg (fun q => hc43 q.symm), if_neg (fun q => hc45 q.symm), if_neg (fun q => hc60 q.symm), if_neg (fun q => hc61 q.symm), if_neg (fun q => hc260 q.symm)]) (by decide) ?_
  refine R_iload_n (i := 1) (dX6_joined 36 rfl) rfl rfl ?_
  refine R_if_ne (tgt := 116) (dX6_joined 37 rfl) (by decide) (fun hc => ?_) (fun hc => ?_)
  · have H := ite_F H hc
    refine R_iconst (dX6_joined 40 rfl) rfl ?_
    refine R_goto (tgt := 121) (dX6_joined 41 rfl) (by decide) ?_
    exact R_iret rfl rfl (Nat.zero_le _) (Nat.zero_le _) (dX6_joined 43 rfl) ⟨congrArg (fun z => some (Sum.inl z)) H, rfl, rfl⟩
  · have H := ite_T H hc
    refine R_iload_n (i := 2) (dX6_joined 38 rfl) rfl rfl ?_
    refine R_if_eq (tgt := 120) (dX6_joined 39 rfl) (by decide) (fun hc => ?_) (fun hc => ?_)
    · have H := ite_T H hc
      refine R_iconst (dX6_joined 42 rfl) rfl ?_
      exact R_iret rfl rfl (Nat.zero_le _) (Nat.zero_le _) (dX6_joined 43 rfl) ⟨congrArg (fun z => some (Sum.inl z)) H, rfl, rfl⟩
    · have H := ite_F H hc
      refine R_iconst (dX6_joined 40 rfl) rfl ?_
      refine R_goto (tgt := 121) (dX6_joined 41 rfl) (by decide) ?_
      exact R_iret rfl rfl (Nat.zero_le _) (Nat.zero_le _) (dX6_joined 43 rfl) ⟨congrArg (fun z => some (Sum.inl z)) H, rfl, rfl⟩
def f_X6_valueOf_L43 (K230 : Mem → Option (Int × Mem)) (x1 : Int) (x4 : Int) : Nat → Int → Int → Mem → Option (Int × Mem)
  | 0, _, _, _ => none
  | n + 1, x5, x6, M =>
    if x6 < x4 then
      if rd 960 (M 17) (w32 ((w32 (x1 * 160)) + x6)) < 300 then
        if rd 960 (M 17) (w32 ((w32 (x1 * 160)) + x6)) = 261 then
          if rd 31 (M 19) x5 = 0 then
            f_X6_valueOf_L43 K230 x1 x4 n x5 (w32 (x6 + 1)) (wr M 19 31 x5 1)
          else
            f_X6_valueOf_L43 K230 x1 x4 n x5 (w32 (x6 + 1)) (wr M 19 31 x5 0)
        else
          if rd 960 (M 17) (w32 ((w32 (x1 * 160)) + x6)) = 262 then
            f_X6_valueOf_L43 K230 x1 x4 n x5 (w32 (x6 + 1)) (wr M 19 31 x5 (w32 (-(rd 31 (M 19) x5))))
          else
            f_X6_valueOf_L43 K230 x1 x4 n (w32 (x5 + (-1))) (w32 (x6 + 1)) (wr M 19 31 (w32 (x5 + (-1))) (f_X6_joined (rd 960 (M 17) (w32 ((w32 (x1 * 160)) + x6))) (rd 31 (M 19) (w32 (x5 + (-1)))) (rd 31 (M 19) (w32 ((w32 (x5 + (-1))) + 1)))))
      else
        if rd 960 (M 17) (w32 ((w32 (x1 * 160)) + x6)) < 1000 then
          f_X6_valueOf_L43 K230 x1 x4 n (w32 (x5 + 1)) (w32 (x6 + 1)) (wr M 19 31 (w32 (x5 + 1)) (rd 6 (M 20) (w32 ((rd 960 (M 17) (w32 ((w32 (x1 * 160)) + x6))) - 300))))
        else
          f_X6_valueOf_L43 K230 x1 x4 n (w32 (x5 + 1)) (w32 (x6 + 1)) (wr M 19 31 (w32 (x5 + 1)) (w32 ((rd 960 (M 17) (w32 ((w32 (x1 * 160)) + x6))) - 1000)))
    else
      K230 M
set_option maxHeartbeats 4000000 in
theorem t_X6_valueOf_L43 (l : Launch) (g : GG) (ad : Nat → Nat) (S : SW) (hS : q_ag 12 21 ad S) (x1 : Int) (x4 : Int) {K230 : Mem → Option (Int × Mem)} {r : Int} {M' : Mem} : ∀ (n : Nat) (x5 : Int) (x6 : Int) (M : Mem), f_X6_valueOf_L43 K230 x1 x4 n x5 x6 M = some (r, M') → (∀ (M1 : Mem), K230 M1 = some (r, M') → RW l g MX6_valueOf (q_rm 2 0 0) 0 0 (q_ex S (some (.inl r)) M') 230 S M1 0 0 [some (.inr (.inr (some (ad 12)))), none, none, none, none, none, none, none] []) → RW l g MX6_valueOf (q_rm 2 0 0) 0 0 (q_ex S (some (.inl r)) M') 43 S M 0 0 [some (.inr (.inr (some (ad 12)))), some (.inl x1), none, none, some (.inl x4), some (.inl x5), some (.inl x6), none] [] := by
  intro n
  induction n with
  | zero => intro x5 x6 M H; exact absurd H (by simp [f_X6_valueOf_L43])
  | succ n ih =>
    intro x5 x6 M H hK230
    rw [f_X6_valueOf_L43] at H
    refine R_iload (i := 6) (dX6_valueOf_0 28 rfl) rfl ?_
    refine R_iload (i := 4) (dX6_valueOf_0 29 rfl) rfl ?_
    refine R_icmp_ge (tgt := 230) (dX6_valueOf_0 30 rfl) (by decide) (fun hc => ?_) (fun hc => ?_)
    · have H := ite_F H hc
      refine R_mask [true, false, false, false, false, false, false, false] rfl ?_
      exact hK230 M H
    · have H := ite_T H hc
      refine R_aload_n (i := 0) (dX6_valueOf_0 31 rfl) rfl rfl ?_
      refine R_getR cgX6 12 (cl12 hS) 1 (Nat.le_of_ble_eq_true rfl) rfl (Or.inl tb_427) (dX6_valueOf_0 32 rfl) ?_
      refine R_iload_n (i := 1) (dX6_valueOf_0 33 rfl) rfl rfl ?_
      refine R_sipush (dX6_valueOf_0 34 rfl) rfl rfl ?_
      refine R_imul (dX6_valueOf_0 35 rfl) ?_
      refine R_iload (i := 6) (dX6_valueOf_0 36 rfl) rfl ?_
      refine R_iadd (dX6_valueOf_0 37 rfl) ?_
      refine R_cS (st' := [.inl (rd 960 (M 17) (w32 ((w32 (x1 * 160)) + x6)))]) [.inr (.inr (some (ad 17))), .inl (w32 ((w32 (x1 * 160)) + x6))] [] (t_at l g S _ 17 (cl17 hS) (Nat.le_of_ble_eq_true rfl) (w32 ((w32 (x1 * 160)) + x6))) msX9_at (Or.inr ⟨_, tb_387⟩) ⟨Nat.le_of_ble_eq_true rfl, Nat.le_of_ble_eq_true rfl⟩ (Nat.zero_le _) (Nat.zero_le _) rfl rfl (Nat.le_of_ble_eq_true rfl) rfl (dX6_valueOf_0 38 rfl) ?_
      refine R_istore (i := 7) (ls' := [some (.inr (.inr (some (ad 12)))), some (.inl x1), none, none, some (.inl x4), some (.inl x5), some (.inl x6), some (.inl (rd 960 (M 17) (w32 ((w32 (x1 * 160)) + x6))))]) (dX6_valueOf_0 39 rfl) (Nat.le_of_ble_eq_true rfl) (Nat.le_of_ble_eq_true rfl) rfl rfl ?_
      refine R_iload (i := 7) (dX6_valueOf_0 40 rfl) rfl ?_
      refine R_sipush (dX6_valueOf_0 41 rfl) rfl rfl ?_
      refine R_icmp_lt (tgt := 120) (dX6_valueOf_0 42 rfl) (by decide) (fun hc => ?_) (fun hc => ?_)
      · have H := ite_T H hc
        refine R_iload (i := 7) (dX6_valueOf_1 2 rfl) rfl ?_
        refine R_sipush (dX6_valueOf_1 3 rfl) rfl rfl ?_
        refine R_icmp_ne (tgt := 157) (dX6_valueOf_1 4 rfl) (by decide) (fun hc => ?_) (fun hc => ?_)
        · have H := ite_F H hc
          refine R_iload (i := 7) (dX6_valueOf_1 18 rfl) rfl ?_
          refine R_sipush (dX6_valueOf_1 19 rfl) rfl rfl ?_
          refine R_icmp_ne (tgt := 187) (dX6_valueOf_1 20 rfl) (by decide) (fun hc => ?_) (fun hc => ?_)
          · have H := ite_F H hc
            refine R_iinc (i := 5) (ls' := [some (.inr (.inr (some (ad 12)))), some (.inl x1), none, none, some (.inl x4), some (.inl (w32 (x5 + (-1)))), some (.inl x6), some (.inl (rd 960 (M 17) (w32 ((w32 (x1 * 160)) + x6))))]) (dX6_valueOf_1 31 rfl) rfl (Nat.le_of_ble_eq_true rfl) rfl rfl ?_
            refine R_aload_n (i := 0) (dX6_valueOf_1 32 rfl) rfl rfl ?_
            refine R_getR cgX6 12 (cl12 hS) 3 (Nat.le_of_ble_eq_true rfl) rfl (Or.inl tb_429) (dX6_valueOf_1 33 rfl) ?_
            refine R_iload (i := 5) (dX6_valueOf_1 34 rfl) rfl ?_
            refine R_iload (i := 7) (dX6_valueOf_1 35 rfl) rfl ?_
            refine R_aload_n (i := 0) (dX6_valueOf_1 36 rfl) rfl rfl ?_
            refine R_getR cgX6 12 (cl12 hS) 3 (Nat.le_of_ble_eq_true rfl) rfl (Or.inl tb_429) (dX6_valueOf_1 37 rfl) ?_
            refine R_iload (i := 5) (dX6_valueOf_1 38 rfl) rfl ?_
            refine R_cS (st' := [.inl (rd 31 (M 19) (w32 (x5 + (-1)))), .inl (rd 960 (M 17) (w32 ((w32 (x1 * 160)) + x6))), .inl (w32 (x5 + (-1))), .inr (.inr (some (ad 19)))]) [.inr (.inr (some (ad 19))), .inl (w32 (x5 + (-1)))] [.inl (rd 960 (M 17) (w32 ((w32 (x1 * 160)) + x6))), .inl (w32 (x5 + (-1))), .inr (.inr (some (ad 19)))] (t_at l g S _ 19 (cl19 hS) (Nat.le_of_ble_eq_true rfl) (w32 (x5 + (-1)))) msX9_at (Or.inr ⟨_, tb_387⟩) ⟨Nat.le_of_ble_eq_true rfl, Nat.le_of_ble_eq_true rfl⟩ (Nat.zero_le _) (Nat.zero_le _) rfl rfl (Nat.le_of_ble_eq_true rfl) rfl (dX6_valueOf_1 39 rfl) ?_
            refine R_aload_n (i := 0) (dX6_valueOf_1 40 rfl) rfl rfl ?_
            refine R_getR cgX6 12 (cl12 hS) 3 (Nat.le_of_ble_eq_true rfl) rfl (Or.inl tb_429) (dX6_valueOf_1 41 rfl) ?_
            refine R_iload (i := 5) (dX6_valueOf_1 42 rfl) rfl ?_
            refine R_iconst (dX6_valueOf_1 43 rfl) rfl ?_
            refine R_iadd (dX6_valueOf_1 44 rfl) ?_
            refine R_cS (st' := [.inl (rd 31 (M 19) (w32 ((w32 (x5 + (-1))) + 1))), .inl (rd 31 (M 19) (w32 (x5 + (-1)))), .inl (rd 960 (M 17) (w32 ((w32 (x1 * 160)) + x6))), .inl (w32 (x5 + (-1))), .inr (.inr (some (ad 19)))]) [.inr (.inr (some (ad 19))), .inl (w32 ((w32 (x5 + (-1))) + 1))] [.inl (rd 31 (M 19) (w32 (x5 + (-1)))), .inl (rd 960 (M 17) (w32 ((w32 (x1 * 160)) + x6))), .inl (w32 (x5 + (-1))), .inr (.inr (some (ad 19)))] (t_at l g S _ 19 (cl19 hS) (Nat.le_of_ble_eq_true rfl) (w32 ((w32 (x5 + (-1))) + 1))) msX9_at (Or.inr ⟨_, tb_387⟩) ⟨Nat.le_of_ble_eq_true rfl, Nat.le_of_ble_eq_true rfl⟩ (Nat.zero_le _) (Nat.zero_le _) rfl rfl (Nat.le_of_ble_eq_true rfl) rfl (dX6_valueOf_1 45 rfl) ?_
            refine R_cS (st' := [.inl (f_X6_joined (rd 960 (M 17) (w32 ((w32 (x1 * 160)) + x6))) (rd 31 (M 19) (w32 (x5 + (-1)))) (rd 31 (M 19) (w32 ((w32 (x5 + (-1))) + 1)))), .inl (w32 (x5 + (-1))), .inr (.inr (some (ad 19)))]) [.inl (rd 960 (M 17) (w32 ((w32 (x1 * 160)) + x6))), .inl (rd 31 (M 19) (w32 (x5 + (-1)))), .inl (rd 31 (M 19) (w32 ((w32 (x5 + (-1))) + 1)))] [.inl (w32 (x5 + (-1))), .inr (.inr (some (ad 19)))] (t_X6_joined l g ad S _ hS   (rd 960 (M 17) (w32 ((w32 (x1 * 160)) + x6))) (rd 31 (M 19) (w32 (x5 + (-1)))) (rd 31 (M 19) (w32 ((w32 (x5 + (-1))) + 1)))) msX6_joined (Or.inl tb_702) ⟨Nat.le_of_ble_eq_true rfl, Nat.le_of_ble_eq_true rfl⟩ (Nat.zero_le _) (Nat.zero_le _) rfl rfl (Nat.le_of_ble_eq_true rfl) rfl (dX6_valueOf_1 46 rfl) ?_
            refine R_cS (st' := []) [.inr (.inr (some (ad 19))), .inl (w32 (x5 + (-1))), .inl (f_X6_joined (rd 960 (M 17) (w32 ((w32 (x1 * 160)) + x6))) (rd 31 (M 19) (w32 (x5 + (-1)))) (rd 31 (M 19) (w32 ((w32 (x5 + (-1))) + 1))))] [] (t_put l g S _ 19 (cl19 hS) (Nat.le_of_ble_eq_true rfl) (w32 (x5 + (-1))) (f_X6_joined (rd 960 (M 17) (w32 ((w32 (x1 * 160)) + x6))) (rd 31 (M 19) (w32 (x5 + (-1)))) (rd 31 (M 19) (w32 ((w32 (x5 + (-1))) + 1))))) msX9_put (Or.inr ⟨_, tb_420⟩) ⟨Nat.le_of_ble_eq_true rfl, Nat.le_of_ble_eq_true rfl⟩ (Nat.zero_le _) (Nat.zero_le _) rfl rfl (Nat.le_of_ble_eq_true rfl) rfl (dX6_valueOf_1 47 rfl) ?_
            refine R_iinc (i := 6) (ls' := [some (.inr (.inr (some (ad 12)))), some (.inl x1), none, none, some (.inl x4), some (.inl (w32 (x5 + (-1)))), some (.inl (w32 (x6 + 1))), some (.inl (rd 960 (M 17) (w32 ((w32 (x1 * 160)) + x6))))]) (dX6_valueOf_1 48 rfl) rfl (Nat.le_of_ble_eq_true rfl) rfl rfl ?_
            refine R_goto (tgt := 43) (dX6_valueOf_1 49 rfl) (by decide) ?_
            refine R_mask [true, true, false, false, true, true, true, false] rfl ?_
            exact ih (w32 (x5 + (-1))) (w32 (x6 + 1)) (wr M 19 31 (w32 (x5 + (-1))) (f_X6_joined (rd 960 (M 17) (w32 ((w32 (x1 * 160)) + x6))) (rd 31 (M 19) (w32 (x5 + (-1)))) (rd 31 (M 19) (w32 ((w32 (x5 + (-1))) + 1))))) H hK230
          · have H := ite_T H hc
            refine R_aload_n (i := 0) (dX6_valueOf_1 21 rfl) rfl rfl ?_
            refine R_getR cgX6 12 (cl12 hS) 3 (Nat.le_of_ble_eq_true rfl) rfl (Or.inl tb_429) (dX6_valueOf_1 22 rfl) ?_
            refine R_iload (i := 5) (dX6_valueOf_1 23 rfl) rfl ?_
            refine R_aload_n (i := 0) (dX6_valueOf_1 24 rfl) rfl rfl ?_
            refine R_getR cgX6 12 (cl12 hS) 3 (Nat.le_of_ble_eq_true rfl) rfl (Or.inl tb_429) (dX6_valueOf_1 25 rfl) ?_
            refine R_iload (i := 5) (dX6_valueOf_1 26 rfl) rfl ?_
            refine R_cS (st' := [.inl (rd 31 (M 19) x5), .inl x5, .inr (.inr (some (ad 19)))]) [.inr (.inr (some (ad 19))), .inl x5] [.inl x5, .inr (.inr (some (ad 19)))] (t_at l g S _ 19 (cl19 hS) (Nat.le_of_ble_eq_true rfl) x5) msX9_at (Or.inr ⟨_, tb_387⟩) ⟨Nat.le_of_ble_eq_true rfl, Nat.le_of_ble_eq_true rfl⟩ (Nat.zero_le _) (Nat.zero_le _) rfl rfl (Nat.le_of_ble_eq_true rfl) rfl (dX6_valueOf_1 27 rfl) ?_
            refine R_ineg (dX6_valueOf_1 28 rfl) ?_
            refine R_cS (st' := []) [.inr (.inr (some (ad 19))), .inl x5, .inl (w32 (-(rd 31 (M 19) x5)))] [] (t_put l g S _ 19 (cl19 hS) (Nat.le_of_ble_eq_true rfl) x5 (w32 (-(rd 31 (M 19) x5)))) msX9_put (Or.inr ⟨_, tb_420⟩) ⟨Nat.le_of_ble_eq_true rfl, Nat.le_of_ble_eq_true rfl⟩ (Nat.zero_le _) (Nat.zero_le _) rfl rfl (Nat.le_of_ble_eq_true rfl) rfl (dX6_valueOf_1 29 rfl) ?_
            refine R_goto (tgt := 224) (dX6_valueOf_1 30 rfl) (by decide) ?_
            refine R_iinc (i := 6) (ls' := [some (.inr (.inr (some (ad 12)))), some (.inl x1), none, none, some (.inl x4), some (.inl x5), some (.inl (w32 (x6 + 1))), some (.inl (rd 960 (M 17) (w32 ((w32 (x1 * 160)) + x6))))]) (dX6_valueOf_1 48 rfl) rfl (Nat.le_of_ble_eq_true rfl) rfl rfl ?_
            refine R_goto (tgt := 43) (dX6_valueOf_1 49 rfl) (by decide) ?_
            refine R_mask [true, true, false, false, true, true, true, false] rfl ?_
            exact ih x5 (w32 (x6 + 1)) (wr M 19 31 x5 (w32 (-(rd 31 (M 19) x5)))) H hK230
        · have H := ite_T H hc
          refine R_aload_n (i := 0) (dX6_valueOf_1 5 rfl) rfl rfl ?_
          refine R_getR cgX6 12 (cl12 hS) 3 (Nat.le_of_ble_eq_true rfl) rfl (Or.inl tb_429) (dX6_valueOf_1 6 rfl) ?_
          refine R_iload (i := 5) (dX6_valueOf_1 7 rfl) rfl ?_
          refine R_aload_n (i := 0) (dX6_valueOf_1 8 rfl) rfl rfl ?_
          refine R_getR cgX6 12 (cl12 hS) 3 (Nat.le_of_ble_eq_true rfl) rfl (Or.inl tb_429) (dX6_valueOf_1 9 rfl) ?_
          refine R_iload (i := 5) (dX6_valueOf_1 10 rfl) rfl ?_
          refine R_cS (st' := [.inl (rd 31 (M 19) x5), .inl x5, .inr (.inr (some (ad 19)))]) [.inr (.inr (some (ad 19))), .inl x5] [.inl x5, .inr (.inr (some (ad 19)))] (t_at l g S _ 19 (cl19 hS) (Nat.le_of_ble_eq_true rfl) x5) msX9_at (Or.inr ⟨_, tb_387⟩) ⟨Nat.le_of_ble_eq_true rfl, Nat.le_of_ble_eq_true rfl⟩ (Nat.zero_le _) (Nat.zero_le _) rfl rfl (Nat.le_of_ble_eq_true rfl) rfl (dX6_valueOf_1 11 rfl) ?_
          refine R_if_ne (tgt := 150) (dX6_valueOf_1 12 rfl) (by decide) (fun hc => ?_) (fun hc => ?_)
          · have H := ite_F H hc
            refine R_iconst (dX6_valueOf_1 15 rfl) rfl ?_
            refine R_cS (st' := []) [.inr (.inr (some (ad 19))), .inl x5, .inl 0] [] (t_put l g S _ 19 (cl19 hS) (Nat.le_of_ble_eq_true rfl) x5 0) msX9_put (Or.inr ⟨_, tb_420⟩) ⟨Nat.le_of_ble_eq_true rfl, Nat.le_of_ble_eq_true rfl⟩ (Nat.zero_le _) (Nat.zero_le _) rfl rfl (Nat.le_of_ble_eq_true rfl) rfl (dX6_valueOf_1 16 rfl) ?_
            refine R_goto (tgt := 224) (dX6_valueOf_1 17 rfl) (by decide) ?_
            refine R_iinc (i := 6) (ls' := [some (.inr (.inr (some (ad 12)))), some (.inl x1), none, none, some (.inl x4), some (.inl x5), some (.inl (w32 (x6 + 1))), some (.inl (rd 960 (M 17) (w32 ((w32 (x1 * 160)) + x6))))]) (dX6_valueOf_1 48 rfl) rfl (Nat.le_of_ble_eq_true rfl) rfl rfl ?_
            refine R_goto (tgt := 43) (dX6_valueOf_1 49 rfl) (by decide) ?_
            refine R_mask [true, true, false, false, true, true, true, false] rfl ?_
            exact ih x5 (w32 (x6 + 1)) (wr M 19 31 x5 0) H hK230
          · have H := ite_T H hc
            refine R_iconst (dX6_valueOf_1 13 rfl) rfl ?_
            refine R_goto (tgt := 151) (dX6_valueOf_1 14 rfl) (by decide) ?_
            refine R_cS (st' := []) [.inr (.inr (some (ad 19))), .inl x5, .inl 1] [] (t_put l g S _ 19 (cl19 hS) (Nat.le_of_ble_eq_true rfl) x5 1) msX9_put (Or.inr ⟨_, tb_420⟩) ⟨Nat.le_of_ble_eq_true rfl, Nat.le_of_ble_eq_true rfl⟩ (Nat.zero_le _) (Nat.zero_le _) rfl rfl (Nat.le_of_ble_eq_true rfl) rfl (dX6_valueOf_1 16 rfl) ?_
            refine R_goto (tgt := 224) (dX6_valueOf_1 17 rfl) (by decide) ?_
            refine R_iinc (i := 6) (ls' := [some (.inr (.inr (some (ad 12)))), some (.inl x1), none, none, some (.inl x4), some (.inl x5), some (.inl (w32 (x6 + 1))), some (.inl (rd 960 (M 17) (w32 ((w32 (x1 * 160)) + x6))))]) (dX6_valueOf_1 48 rfl) rfl (Nat.le_of_ble_eq_true rfl) rfl rfl ?_
            refine R_goto (tgt := 43) (dX6_valueOf_1 49 rfl) (by decide) ?_
            refine R_mask [true, true, false, false, true, true, true, false] rfl ?_
            exact ih x5 (w32 (x6 + 1)) (wr M 19 31 x5 1) H hK230
      · have H := ite_F H hc
        refine R_iinc (i := 5) (ls' := [some (.inr (.inr (some (ad 12)))), some (.inl x1), none, none, some (.inl x4), some (.inl (w32 (x5 + 1))), some (.inl x6), some (.inl (rd 960 (M 17) (w32 ((w32 (x1 * 160)) + x6))))]) (dX6_valueOf_0 43 rfl) rfl (Nat.le_of_ble_eq_true rfl) rfl rfl ?_
        refine R_aload_n (i := 0) (dX6_valueOf_0 44 rfl) rfl rfl ?_
        refine R_getR cgX6 12 (cl12 hS) 3 (Nat.le_of_ble_eq_true rfl) rfl (Or.inl tb_429) (dX6_valueOf_0 45 rfl) ?_
        refine R_iload (i := 5) (dX6_valueOf_0 46 rfl) rfl ?_
        refine R_iload (i := 7) (dX6_valueOf_0 47 rfl) rfl ?_
        refine R_sipush (dX6_valueOf_0 48 rfl) rfl rfl ?_
        refine R_icmp_lt (tgt := 101) (dX6_valueOf_0 49 rfl) (by decide) (fun hc => ?_) (fun hc => ?_)
        · have H := ite_T H hc
          refine R_aload_n (i := 0) (dX6_valueOf_0 54 rfl) rfl rfl ?_
          refine R_getR cgX6 12 (cl12 hS) 4 (Nat.le_of_ble_eq_true rfl) rfl (Or.inl tb_430) (dX6_valueOf_0 55 rfl) ?_
          refine R_iload (i := 7) (dX6_valueOf_0 56 rfl) rfl ?_
          refine R_sipush (dX6_valueOf_0 57 rfl) rfl rfl ?_
          refine R_isub (dX6_valueOf_0 58 rfl) ?_
          refine R_cS (st' := [.inl (rd 6 (M 20) (w32 ((rd 960 (M 17) (w32 ((w32 (x1 * 160)) + x6))) - 300))), .inl (w32 (x5 + 1)), .inr (.inr (some (ad 19)))]) [.inr (.inr (some (ad 20))), .inl (w32 ((rd 960 (M 17) (w32 ((w32 (x1 * 160)) + x6))) - 300))] [.inl (w32 (x5 + 1)), .inr (.inr (some (ad 19)))] (t_at l g S _ 20 (cl20 hS) (Nat.le_of_ble_eq_true rfl) (w32 ((rd 960 (M 17) (w32 ((w32 (x1 * 160)) + x6))) - 300))) msX9_at (Or.inr ⟨_, tb_387⟩) ⟨Nat.le_of_ble_eq_true rfl, Nat.le_of_ble_eq_true rfl⟩ (Nat.zero_le _) (Nat.zero_le _) rfl rfl (Nat.le_of_ble_eq_true rfl) rfl (dX6_valueOf_0 59 rfl) ?_
          refine R_cS (st' := []) [.inr (.inr (some (ad 19))), .inl (w32 (x5 + 1)), .inl (rd 6 (M 20) (w32 ((rd 960 (M 17) (w32 ((w32 (x1 * 160)) + x6))) - 300)))] [] (t_put l g S _ 19 (cl19 hS) (Nat.le_of_ble_eq_true rfl) (w32 (x5 + 1)) (rd 6 (M 20) (w32 ((rd 960 (M 17) (w32 ((w32 (x1 * 160)) + x6))) - 300)))) msX9_put (Or.inr ⟨_, tb_420⟩) ⟨Nat.le_of_ble_eq_true rfl, Nat.le_of_ble_eq_true rfl⟩ (Nat.zero_le _) (Nat.zero_le _) rfl rfl (Nat.le_of_ble_eq_true rfl) rfl (dX6_valueOf_1 0 rfl) ?_
          refine R_goto (tgt := 224) (dX6_valueOf_1 1 rfl) (by decide) ?_
          refine R_iinc (i := 6) (ls' := [some (.inr (.inr (some (ad 12)))), some (.inl x1), none, none, some (.inl x4), some (.inl (w32 (x5 + 1))), some (.inl (w32 (x6 + 1))), some (.inl (rd 960 (M 17) (w32 ((w32 (x1 * 160)) + x6))))]) (dX6_valueOf_1 48 rfl) rfl (Nat.le_of_ble_eq_true rfl) rfl rfl ?_
          refine R_goto (tgt := 43) (dX6_valueOf_1 49 rfl) (by decide) ?_
          refine R_mask [true, true, false, false, true, true, true, false] rfl ?_
          exact ih (w32 (x5 + 1)) (w32 (x6 + 1)) (wr M 19 31 (w32 (x5 + 1)) (rd 6 (M 20) (w32 ((rd 960 (M 17) (w32 ((w32 (x1 * 160)) + x6))) - 300)))) H hK230
        · have H := ite_F H hc
          refine R_iload (i := 7) (dX6_valueOf_0 50 rfl) rfl ?_
          refine R_sipush (dX6_valueOf_0 51 rfl) rfl rfl ?_
          refine R_isub (dX6_valueOf_0 52 rfl) ?_
          refine R_goto (tgt := 114) (dX6_valueOf_0 53 rfl) (by decide) ?_
          refine R_cS (st' := []) [.inr (.inr (some (ad 19))), .inl (w32 (x5 + 1)), .inl (w32 ((rd 960 (M 17) (w32 ((w32 (x1 * 160)) + x6))) - 1000))] [] (t_put l g S _ 19 (cl19 hS) (Nat.le_of_ble_eq_true rfl) (w32 (x5 + 1)) (w32 ((rd 960 (M 17) (w32 ((w32 (x1 * 160)) + x6))) - 1000))) msX9_put (Or.inr ⟨_, tb_420⟩) ⟨Nat.le_of_ble_eq_true rfl, Nat.le_of_ble_eq_true rfl⟩ (Nat.zero_le _) (Nat.zero_le _) rfl rfl (Nat.le_of_ble_eq_true rfl) rfl (dX6_valueOf_1 0 rfl) ?_
          refine R_goto (tgt := 224) (dX6_valueOf_1 1 rfl) (by decide) ?_
          refine R_iinc (i := 6) (ls' := [some (.inr (.inr (some (ad 12)))), some (.inl x1), none, none, some (.inl x4), some (.inl (w32 (x5 + 1))), some (.inl (w32 (x6 + 1))), some (.inl (rd 960 (M 17) (w32 ((w32 (x1 * 160)) + x6))))]) (dX6_valueOf_1 48 rfl) rfl (Nat.le_of_ble_eq_true rfl) rfl rfl ?_
          refine R_goto (tgt := 43) (dX6_valueOf_1 49 rfl) (by decide) ?_
          refine R_mask [true, true, false, false, true, true, true, false] rfl ?_
          exact ih (w32 (x5 + 1)) (w32 (x6 + 1)) (wr M 19 31 (w32 (x5 + 1)) (w32 ((rd 960 (M 17) (w32 ((w32 (x1 * 160)) + x6))) - 1000))) H hK230
def f_X6_valueOf (x1 : Int) (x2 : Int) (M : Mem) : Option (Int × Mem) :=
  if x2 = 0 then
    f_X6_valueOf_L43
      (fun M2 =>
        some (rd 31 (M2 19) 0, M2)
      )
      x1 (rd 18 (M 18) (w32 ((w32 (x1 * 3)) + x2))) 100000 (-1) 0 M
  else
    f_X6_valueOf_L43
      (fun M1 =>
        some (rd 31 (M1 19) 0, M1)
      )
      x1 (rd 18 (M 18) (w32 ((w32 (x1 * 3)) + x2))) 100000 (-1) (rd 18 (M 18) (w32 ((w32 ((w32 (x1 * 3)) + x2)) - 1))) M
set_option maxHeartbeats 4000000 in
theorem t_X6_valueOf (l : Launch) (g : GG) (ad : Nat → Nat) (S : SW) (M : Mem) (hS : q_ag 12 21 ad S) (x1 : Int) (x2 : Int) {r : Int} {M' : Mem} (H : f_X6_valueOf x1 x2 M = some (r, M')) : CT l g MX6_valueOf 2 0 0 S M [.inr (.inr (some (ad 12))), .inl x1, .inl x2] (q_ex S (some (.inl r)) M') := by
  unfold f_X6_valueOf at H
  refine CT_of (ls0 := [some (.inr (.inr (some (ad 12)))), some (.inl x1), some (.inl x2), none, none, none, none, none]) (by decide +kernel) (Nat.le_of_ble_eq_true rfl) rfl ?_
  refine R_iload_n (i := 2) (dX6_valueOf_0 0 rfl) rfl rfl ?_
  refine R_if_ne (tgt := 8) (dX6_valueOf_0 1 rfl) (by decide) (fun hc => ?_) (fun hc => ?_)
  · have H := ite_F H hc
    refine R_aload_n (i := 0) (dX6_valueOf_0 4 rfl) rfl rfl ?_
    refine R_getR cgX6 12 (cl12 hS) 2 (Nat.le_of_ble_eq_true rfl) rfl (Or.inl tb_428) (dX6_valueOf_0 5 rfl) ?_
    refine R_iload_n (i := 1) (dX6_valueOf_0 6 rfl) rfl rfl ?_
    refine R_iconst (dX6_valueOf_0 7 rfl) rfl ?_
    refine R_imul (dX6_valueOf_0 8 rfl) ?_
    refine R_iload_n (i := 2) (dX6_valueOf_0 9 rfl) rfl rfl ?_
    refine R_iadd (dX6_valueOf_0 10 rfl) ?_
    refine R_iconst (dX6_valueOf_0 11 rfl) rfl ?_
    refine R_isub (dX6_valueOf_0 12 rfl) ?_
    refine R_cS (st' := [.inl (rd 18 (M 18) (w32 ((w32 ((w32 (x1 * 3)) + x2)) - 1)))]) [.inr (.inr (some (ad 18))), .inl (w32 ((w32 ((w32 (x1 * 3)) + x2)) - 1))] [] (t_at l g S _ 18 (cl18 hS) (Nat.le_of_ble_eq_true rfl) (w32 ((w32 ((w32 (x1 * 3)) + x2)) - 1))) msX9_at (Or.inr ⟨_, tb_387⟩) ⟨Nat.le_of_ble_eq_true rfl, Nat.le_of_ble_eq_true rfl⟩ (Nat.zero_le _) (Nat.zero_le _) rfl rfl (Nat.le_of_ble_eq_true rfl) rfl (dX6_valueOf_0 13 rfl) ?_
    refine R_istore_n (i := 3) (ls' := [some (.inr (.inr (some (ad 12)))), some (.inl x1), some (.inl x2), some (.inl (rd 18 (M 18) (w32 ((w32 ((w32 (x1 * 3)) + x2)) - 1)))), none, none, none, none]) (dX6_valueOf_0 14 rfl) rfl (Nat.le_of_ble_eq_true rfl) (Nat.le_of_ble_eq_true rfl) rfl rfl ?_
    refine R_aload_n (i := 0) (dX6_valueOf_0 15 rfl) rfl rfl ?_
    refine R_getR cgX6 12 (cl12 hS) 2 (Nat.le_of_ble_eq_true rfl) rfl (Or.inl tb_428) (dX6_valueOf_0 16 rfl) ?_
    refine R_iload_n (i := 1) (dX6_valueOf_0 17 rfl) rfl rfl ?_
    refine R_iconst (dX6_valueOf_0 18 rfl) rfl ?_
    refine R_imul (dX6_valueOf_0 19 rfl) ?_
    refine R_iload_n (i := 2) (dX6_valueOf_0 20 rfl) rfl rfl ?_
    refine R_iadd (dX6_valueOf_0 21 rfl) ?_
    refine R_cS (st' := [.inl (rd 18 (M 18) (w32 ((w32 (x1 * 3)) + x2)))]) [.inr (.inr (some (ad 18))), .inl (w32 ((w32 (x1 * 3)) + x2))] [] (t_at l g S _ 18 (cl18 hS) (Nat.le_of_ble_eq_true rfl) (w32 ((w32 (x1 * 3)) + x2))) msX9_at (Or.inr ⟨_, tb_387⟩) ⟨Nat.le_of_ble_eq_true rfl, Nat.le_of_ble_eq_true rfl⟩ (Nat.zero_le _) (Nat.zero_le _) rfl rfl (Nat.le_of_ble_eq_true rfl) rfl (dX6_valueOf_0 22 rfl) ?_
    refine R_istore (i := 4) (ls' := [some (.inr (.inr (some (ad 12)))), some (.inl x1), some (.inl x2), some (.inl (rd 18 (M 18) (w32 ((w32 ((w32 (x1 * 3)) + x2)) - 1)))), some (.inl (rd 18 (M 18) (w32 ((w32 (x1 * 3)) + x2)))), none, none, none]) (dX6_valueOf_0 23 rfl) (Nat.le_of_ble_eq_true rfl) (Nat.le_of_ble_eq_true rfl) rfl rfl ?_
    refine R_iconst (dX6_valueOf_0 24 rfl) rfl ?_
    refine R_istore (i := 5) (ls' := [some (.inr (.inr (some (ad 12)))), some (.inl x1), some (.inl x2), some (.inl (rd 18 (M 18) (w32 ((w32 ((w32 (x1 * 3)) + x2)) - 1)))), some (.inl (rd 18 (M 18) (w32 ((w32 (x1 * 3)) + x2)))), some (.inl (-1)), none, none]) (dX6_valueOf_0 25 rfl) (Nat.le_of_ble_eq_true rfl) (Nat.le_of_ble_eq_true rfl) rfl rfl ?_
    refine R_iload_n (i := 3) (dX6_valueOf_0 26 rfl) rfl rfl ?_
    refine R_istore (i := 6) (ls' := [some (.inr (.inr (some (ad 12)))), some (.inl x1), some (.inl x2), some (.inl (rd 18 (M 18) (w32 ((w32 ((w32 (x1 * 3)) + x2)) - 1)))), some (.inl (rd 18 (M 18) (w32 ((w32 (x1 * 3)) + x2)))), some (.inl (-1)), some (.inl (rd 18 (M 18) (w32 ((w32 ((w32 (x1 * 3)) + x2)) - 1)))), none]) (dX6_valueOf_0 27 rfl) (Nat.le_of_ble_eq_true rfl) (Nat.le_of_ble_eq_true rfl) rfl rfl ?_
    refine R_mask [true, true, false, false, true, true, true, false] rfl ?_
    refine t_X6_valueOf_L43 l g ad S hS x1 (rd 18 (M 18) (w32 ((w32 (x1 * 3)) + x2)))  100000 (-1) (rd 18 (M 18) (w32 ((w32 ((w32 (x1 * 3)) + x2)) - 1))) M H (fun M1 H => ?_)
    refine R_aload_n (i := 0) (dX6_valueOf_1 50 rfl) rfl rfl ?_
    refine R_getR cgX6 12 (cl12 hS) 3 (Nat.le_of_ble_eq_true rfl) rfl (Or.inl tb_429) (dX6_valueOf_1 51 rfl) ?_
    refine R_iconst (dX6_valueOf_1 52 rfl) rfl ?_
    refine R_cS (st' := [.inl (rd 31 (M1 19) 0)]) [.inr (.inr (some (ad 19))), .inl 0] [] (t_at l g S _ 19 (cl19 hS) (Nat.le_of_ble_eq_true rfl) 0) msX9_at (Or.inr ⟨_, tb_387⟩) ⟨Nat.le_of_ble_eq_true rfl, Nat.le_of_ble_eq_true rfl⟩ (Nat.zero_le _) (Nat.zero_le _) rfl rfl (Nat.le_of_ble_eq_true rfl) rfl (dX6_valueOf_1 53 rfl) ?_
    exact R_iret rfl rfl (Nat.zero_le _) (Nat.zero_le _) (dX6_valueOf_1 54 rfl) ⟨congrArg (fun z => some (Sum.inl z)) (Prod.mk.inj (Option.some.inj H)).1, rfl, (Prod.mk.inj (Option.some.inj H)).2⟩
  · have H := ite_T H hc
    refine R_iconst (dX6_valueOf_0 2 rfl) rfl ?_
    refine R_goto (tgt := 22) (dX6_valueOf_0 3 rfl) (by decide) ?_
    refine R_istore_n (i := 3) (ls' := [some (.inr (.inr (some (ad 12)))), some (.inl x1), some (.inl x2), some (.inl 0), none, none, none, none]) (dX6_valueOf_0 14 rfl) rfl (Nat.le_of_ble_eq_true rfl) (Nat.le_of_ble_eq_true rfl) rfl rfl ?_
    refine R_aload_n (i := 0) (dX6_valueOf_0 15 rfl) rfl rfl ?_
    refine R_getR cgX6 12 (cl12 hS) 2 (Nat.le_of_ble_eq_true rfl) rfl (Or.inl tb_428) (dX6_valueOf_0 16 rfl) ?_
    refine R_iload_n (i := 1) (dX6_valueOf_0 17 rfl) rfl rfl ?_
    refine R_iconst (dX6_valueOf_0 18 rfl) rfl ?_
    refine R_imul (dX6_valueOf_0 19 rfl) ?_
    refine R_iload_n (i := 2) (dX6_valueOf_0 20 rfl) rfl rfl ?_
    refine R_iadd (dX6_valueOf_0 21 rfl) ?_
    refine R_cS (st' := [.inl (rd 18 (M 18) (w32 ((w32 (x1 * 3)) + x2)))]) [.inr (.inr (some (ad 18))), .inl (w32 ((w32 (x1 * 3)) + x2))] [] (t_at l g S _ 18 (cl18 hS) (Nat.le_of_ble_eq_true rfl) (w32 ((w32 (x1 * 3)) + x2))) msX9_at (Or.inr ⟨_, tb_387⟩) ⟨Nat.le_of_ble_eq_true rfl, Nat.le_of_ble_eq_true rfl⟩ (Nat.zero_le _) (Nat.zero_le _) rfl rfl (Nat.le_of_ble_eq_true rfl) rfl (dX6_valueOf_0 22 rfl) ?_
    refine R_istore (i := 4) (ls' := [some (.inr (.inr (some (ad 12)))), some (.inl x1), some (.inl x2), some (.inl 0), some (.inl (rd 18 (M 18) (w32 ((w32 (x1 * 3)) + x2)))), none, none, none]) (dX6_valueOf_0 23 rfl) (Nat.le_of_ble_eq_true rfl) (Nat.le_of_ble_eq_true rfl) rfl rfl ?_
    refine R_iconst (dX6_valueOf_0 24 rfl) rfl ?_
    refine R_istore (i := 5) (ls' := [some (.inr (.inr (some (ad 12)))), some (.inl x1), some (.inl x2), some (.inl 0), some (.inl (rd 18 (M 18) (w32 ((w32 (x1 * 3)) + x2)))), some (.inl (-1)), none, none]) (dX6_valueOf_0 25 rfl) (Nat.le_of_ble_eq_true rfl) (Nat.le_of_ble_eq_true rfl) rfl rfl ?_
    refine R_iload_n (i := 3) (dX6_valueOf_0 26 rfl) rfl rfl ?_
    refine R_istore (i := 6) (ls' := [some (.inr (.inr (some (ad 12)))), some (.inl x1), some (.inl x2), some (.inl 0), some (.inl (rd 18 (M 18) (w32 ((w32 (x1 * 3)) + x2)))), some (.inl (-1)), some (.inl 0), none]) (dX6_valueOf_0 27 rfl) (Nat.le_of_ble_eq_true rfl) (Nat.le_of_ble_eq_true rfl) rfl rfl ?_
    refine R_mask [true, true, false, false, true, true, true, false] rfl ?_
    refine t_X6_valueOf_L43 l g ad S hS x1 (rd 18 (M 18) (w32 ((w32 (x1 * 3)) + x2)))  100000 (-1) 0 M H (fun M2 H => ?_)
    refine R_aload_n (i := 0) (dX6_valueOf_1 50 rfl) rfl rfl ?_
    refine R_getR cgX6 12 (cl12 hS) 3 (Nat.le_of_ble_eq_true rfl) rfl (Or.inl tb_429) (dX6_valueOf_1 51 rfl) ?_
    refine R_iconst (dX6_valueOf_1 52 rfl) rfl ?_
    refine R_cS (st' := [.inl (rd 31 (M2 19) 0)]) [.inr (.inr (some (ad 19))), .inl 0] [] (t_at l g S _ 19 (cl19 hS) (Nat.le_of_ble_eq_true rfl) 0) msX9_at (Or.inr ⟨_, tb_387⟩) ⟨Nat.le_of_ble_eq_true rfl, Nat.le_of_ble_eq_true rfl⟩ (Nat.zero_le _) (Nat.zero_le _) rfl rfl (Nat.le_of_ble_eq_true rfl) rfl (dX6_valueOf_1 53 rfl) ?_
    exact R_iret rfl rfl (Nat.zero_le _) (Nat.zero_le _) (dX6_valueOf_1 54 rfl) ⟨congrArg (fun z => some (Sum.inl z)) (Prod.mk.inj (Option.some.inj H)).1, rfl, (Prod.mk.inj (Option.some.inj H)).2⟩
def f_X6_says (x1 : Int) (x2 : Int) (x3 : Int) (x4 : Int) (x5 : Int) (x6 : Int) (x7 : Int) (M : Mem) : Option (Int × Mem) :=
  ob (f_X6_valueOf x1 x2 (wr (wr (wr (wr (wr (wr M 20 6 0 x3) 20 6 1 x4) 20 6 2 x5) 20 6 3 (f_J6_bitCount_0f7a4 x4)) 20 6 4 x6) 20 6 5 x7)) fun r3 M4 =>
  if x2 = 0 then
    if r3 = 0 then
      some (0, M4)
    else
      some (1, M4)
  else
    if x2 = 1 then
      some ((if 0 < (if r3 < 99 then r3 else 99) then (if r3 < 99 then r3 else 99) else 0), M4)
    else
      some ((if 0 < (if r3 < 999 then r3 else 999) then (if r3 < 999 then r3 else 999) else 0), M4)
set_option maxHeartbeats 4000000 in
theorem t_X6_says (l : Launch) (g : GG) (ad : Nat → Nat) (S : SW) (M : Mem) (hS : q_ag 12 21 ad S) (x1 : Int) (x2 : Int) (x3 : Int) (x4 : Int) (x5 : Int) (x6 : Int) (x7 : Int) {r : Int} {M' : Mem} (H : f_X6_says x1 x2 x3 x4 x5 x6 x7 M = some (r, M')) : CT l g MX6_says 3 0 0 S M [.inr (.inr (some (ad 12))), .inl x1, .inl x2, .inl x3, .inl x4, .inl x5, .inl x6, .inl x7] (q_ex S (some (.inl r)) M') := by
  unfold f_X6_says at H
  refine CT_of (ls0 := [some (.inr (.inr (some (ad 12)))), some (.inl x1), some (.inl x2), some (.inl x3), some (.inl x4), some (.inl x5), some (.inl x6), some (.inl x7), none]) (by decide +kernel) (Nat.le_of_ble_eq_true rfl) rfl ?_
  refine R_aload_n (i := 0) (dX6_says 0 rfl) rfl rfl ?_
  refine R_getR cgX6 12 (cl12 hS) 4 (Nat.le_of_ble_eq_true rfl) rfl (Or.inl tb_430) (dX6_says 1 rfl) ?_
  refine R_iconst (dX6_says 2 rfl) rfl ?_
  refine R_iload_n (i := 3) (dX6_says 3 rfl) rfl rfl ?_
  refine R_cS (st' := []) [.inr (.inr (some (ad 20))), .inl 0, .inl x3] [] (t_put l g S _ 20 (cl20 hS) (Nat.le_of_ble_eq_true rfl) 0 x3) msX9_put (Or.inr ⟨_, tb_420⟩) ⟨Nat.le_of_ble_eq_true rfl, Nat.le_of_ble_eq_true rfl⟩ (Nat.zero_le _) (Nat.zero_le _) rfl rfl (Nat.le_of_ble_eq_true rfl) rfl (dX6_says 4 rfl) ?_
  refine R_aload_n (i := 0) (dX6_says 5 rfl) rfl rfl ?_
  refine R_getR cgX6 12 (cl12 hS) 4 (Nat.le_of_ble_eq_true rfl) rfl (Or.inl tb_430) (dX6_says 6 rfl) ?_
  refine R_iconst (dX6_says 7 rfl) rfl ?_
  refine R_iload (i := 4) (dX6_says 8 rfl) rfl ?_
  refine R_cS (st' := []) [.inr (.inr (some (ad 20))), .inl 1, .inl x4] [] (t_put l g S _ 20 (cl20 hS) (Nat.le_of_ble_eq_true rfl) 1 x4) msX9_put (Or.inr ⟨_, tb_420⟩) ⟨Nat.le_of_ble_eq_true rfl, Nat.le_of_ble_eq_true rfl⟩ (Nat.zero_le _) (Nat.zero_le _) rfl rfl (Nat.le_of_ble_eq_true rfl) rfl (dX6_says 9 rfl) ?_
  refine R_aload_n (i := 0) (dX6_says 10 rfl) rfl rfl ?_
  refine R_getR cgX6 12 (cl12 hS) 4 (Nat.le_of_ble_eq_true rfl) rfl (Or.inl tb_430) (dX6_says 11 rfl) ?_
  refine R_iconst (dX6_says 12 rfl) rfl ?_
  refine R_iload (i := 5) (dX6_says 13 rfl) rfl ?_
  refine R_cS (st' := []) [.inr (.inr (some (ad 20))), .inl 2, .inl x5] [] (t_put l g S _ 20 (cl20 hS) (Nat.le_of_ble_eq_true rfl) 2 x5) msX9_put (Or.inr ⟨_, tb_420⟩) ⟨Nat.le_of_ble_eq_true rfl, Nat.le_of_ble_eq_true rfl⟩ (Nat.zero_le _) (Nat.zero_le _) rfl rfl (Nat.le_of_ble_eq_true rfl) rfl (dX6_says 14 rfl) ?_
  refine R_aload_n (i := 0) (dX6_says 15 rfl) rfl rfl ?_
  refine R_getR cgX6 12 (cl12 hS) 4 (Nat.le_of_ble_eq_true rfl) rfl (Or.inl tb_430) (dX6_says 16 rfl) ?_
  refine R_iconst (dX6_says 17 rfl) rfl ?_
  refine R_iload (i := 4) (dX6_says 18 rfl) rfl ?_
  refine R_cS (st' := [.inl (f_J6_bitCount_0f7a4 x4), .inl 3, .inr (.inr (some (ad 20)))]) [.inl x4] [.inl 3, .inr (.inr (some (ad 20)))] (t_J6_bitCount_0f7a4 l g S _   x4) msJ6_bitCount_0f7a4 (Or.inl tb_697) ⟨Nat.le_of_ble_eq_true rfl, Nat.le_of_ble_eq_true rfl⟩ (Nat.zero_le _) (Nat.zero_le _) rfl rfl (Nat.le_of_ble_eq_true rfl) rfl (dX6_says 19 rfl) ?_
  refine R_cS (st' := []) [.inr (.inr (some (ad 20))), .inl 3, .inl (f_J6_bitCount_0f7a4 x4)] [] (t_put l g S _ 20 (cl20 hS) (Nat.le_of_ble_eq_true rfl) 3 (f_J6_bitCount_0f7a4 x4)) msX9_put (Or.inr ⟨_, tb_420⟩) ⟨Nat.le_of_ble_eq_true rfl, Nat.le_of_ble_eq_true rfl⟩ (Nat.zero_le _) (Nat.zero_le _) rfl rfl (Nat.le_of_ble_eq_true rfl) rfl (dX6_says 20 rfl) ?_
  refine R_aload_n (i := 0) (dX6_says 21 rfl) rfl rfl ?_
  refine R_getR cgX6 12 (cl12 hS) 4 (Nat.le_of_ble_eq_true rfl) rfl (Or.inl tb_430) (dX6_says 22 rfl) ?_
  refine R_iconst (dX6_says 23 rfl) rfl ?_
  refine R_iload (i := 6) (dX6_says 24 rfl) rfl ?_
  refine R_cS (st' := []) [.inr (.inr (some (ad 20))), .inl 4, .inl x6] [] (t_put l g S _ 20 (cl20 hS) (Nat.le_of_ble_eq_true rfl) 4 x6) msX9_put (Or.inr ⟨_, tb_420⟩) ⟨Nat.le_of_ble_eq_true rfl, Nat.le_of_ble_eq_true rfl⟩ (Nat.zero_le _) (Nat.zero_le _) rfl rfl (Nat.le_of_ble_eq_true rfl) rfl (dX6_says 25 rfl) ?_
  refine R_aload_n (i := 0) (dX6_says 26 rfl) rfl rfl ?_
  refine R_getR cgX6 12 (cl12 hS) 4 (Nat.le_of_ble_eq_true rfl) rfl (Or.inl tb_430) (dX6_says 27 rfl) ?_
  refine R_iconst (dX6_says 28 rfl) rfl ?_
  refine R_iload (i := 7) (dX6_says 29 rfl) rfl ?_
  refine R_cS (st' := []) [.inr (.inr (some (ad 20))), .inl 5, .inl x7] [] (t_put l g S _ 20 (cl20 hS) (Nat.le_of_ble_eq_true rfl) 5 x7) msX9_put (Or.inr ⟨_, tb_420⟩) ⟨Nat.le_of_ble_eq_true rfl, Nat.le_of_ble_eq_true rfl⟩ (Nat.zero_le _) (Nat.zero_le _) rfl rfl (Nat.le_of_ble_eq_true rfl) rfl (dX6_says 30 rfl) ?_
  refine R_aload_n (i := 0) (dX6_says 31 rfl) rfl rfl ?_
  refine R_iload_n (i := 1) (dX6_says 32 rfl) rfl rfl ?_
  refine R_iload_n (i := 2) (dX6_says 33 rfl) rfl rfl ?_
  obtain ⟨r3, M4, hr, H⟩ := ob_E H
  refine R_cV (st' := [.inl r3]) [.inl x1, .inl x2] [] (t_X6_valueOf l g ad S _ hS   x1 x2 hr) msX6_valueOf (Or.inl tb_698) (Or.inl ⟨12, 6, _, _, _, (cl12 hS), rfl⟩) ⟨Nat.le_of_ble_eq_true rfl, Nat.le_of_ble_eq_true rfl⟩ (Nat.zero_le _) (Nat.zero_le _) rfl rfl (Nat.le_of_ble_eq_true rfl) rfl (dX6_says 34 rfl) ?_
  refine R_istore (i := 8) (ls' := [some (.inr (.inr (some (ad 12)))), some (.inl x1), some (.inl x2), some (.inl x3), some (.inl x4), some (.inl x5), some (.inl x6), some (.inl x7), some (.inl r3)]) (dX6_says 35 rfl) (Nat.le_of_ble_eq_true rfl) (Nat.le_of_ble_eq_true rfl) rfl rfl ?_
  refine R_iload_n (i := 2) (dX6_says 36 rfl) rfl rfl ?_
  refine R_if_ne (tgt := 85) (dX6_says 37 rfl) (by decide) (fun hc => ?_) (fun hc => ?_)
  · have H := ite_F H hc
    refine R_iconst (dX6_says 44 rfl) rfl ?_
    refine R_iload_n (i := 2) (dX6_says 45 rfl) rfl rfl ?_
    refine R_iconst (dX6_says 46 rfl) rfl ?_
    refine R_icmp_ne (tgt := 96) (dX6_says 47 rfl) (by decide) (fun hc => ?_) (fun hc => ?_)
    · have H := ite_F H hc
      refine R_sipush (dX6_says 50 rfl) rfl rfl ?_
      refine R_iload (i := 8) (dX6_says 51 rfl) rfl ?_
      refine R_mmin tb_705 tb_335 tb_72 tb_336 (Nat.le_of_ble_eq_true rfl) (Nat.le_of_ble_eq_true rfl) (Nat.le_of_ble_eq_true rfl) (Nat.zero_le _) (Nat.zero_le _) (dX6_says 52 rfl) ?_
      refine R_mmax tb_706 tb_113 tb_72 tb_114 (Nat.le_of_ble_eq_true rfl) (Nat.le_of_ble_eq_true rfl) (Nat.le_of_ble_eq_true rfl) (Nat.zero_le _) (Nat.zero_le _) (dX6_says 53 rfl) ?_
      exact R_iret rfl rfl (Nat.zero_le _) (Nat.zero_le _) (dX6_says 54 rfl) ⟨congrArg (fun z => some (Sum.inl z)) (Prod.mk.inj (Option.some.inj H)).1, rfl, (Prod.mk.inj (Option.some.inj H)).2⟩
    · have H := ite_T H hc
      refine R_bipush (dX6_says 48 rfl) rfl rfl ?_
      refine R_goto (tgt := 99) (dX6_says 49 rfl) (by decide) ?_
      refine R_iload (i := 8) (dX6_says 51 rfl) rfl ?_
      refine R_mmin tb_705 tb_335 tb_72 tb_336 (Nat.le_of_ble_eq_true rfl) (Nat.le_of_ble_eq_true rfl) (Nat.le_of_ble_eq_true rfl) (Nat.zero_le _) (Nat.zero_le _) (dX6_says 52 rfl) ?_
      refine R_mmax tb_706 tb_113 tb_72 tb_114 (Nat.le_of_ble_eq_true rfl) (Nat.le_of_ble_eq_true rfl) (Nat.le_of_ble_eq_true rfl) (Nat.zero_le _) (Nat.zero_le _) (dX6_says 53 rfl) ?_
      exact R_iret rfl rfl (Nat.zero_le _) (Nat.zero_le _) (dX6_says 54 rfl) ⟨congrArg (fun z => some (Sum.inl z)) (Prod.mk.inj (Option.some.inj H)).1, rfl, (Prod.mk.inj (Option.some.inj H)).2⟩
  · have H := ite_T H hc
    refine R_iload (i := 8) (dX6_says 38 rfl) rfl ?_
    refine R_if_eq (tgt := 83) (dX6_says 39 rfl) (by decide) (fun hc => ?_) (fun hc => ?_)
    · have H := ite_T H hc
      refine R_iconst (dX6_says 42 rfl) rfl ?_
      exact R_iret rfl rfl (Nat.zero_le _) (Nat.zero_le _) (dX6_says 43 rfl) ⟨congrArg (fun z => some (Sum.inl z)) (Prod.mk.inj (Option.some.inj H)).1, rfl, (Prod.mk.inj (Option.some.inj H)).2⟩
    · have H := ite_F H hc
      refine R_iconst (dX6_says 40 rfl) rfl ?_
      refine R_goto (tgt := 84) (dX6_says 41 rfl) (by decide) ?_
      exact R_iret rfl rfl (Nat.zero_le _) (Nat.zero_le _) (dX6_says 43 rfl) ⟨congrArg (fun z => some (Sum.inl z)) (Prod.mk.inj (Option.some.inj H)).1, rfl, (Prod.mk.inj (Option.some.inj H)).2⟩
def f_X1_allow_L34 (K86 : Mem → Option (Int × Mem)) (x3 : Int) (x4 : Int) (x5 : Int) (x6 : Int) : Nat → Int → Mem → Option (Int × Mem)
  | 0, _, _ => none
  | n + 1, x7, M =>
    if x7 < 64 then
      if f_J6_bitCount_0f7a4 x7 = x5 then
        ob (f_X6_says x3 0 x6 x7 x4 0 0 M) fun r5 M6 =>
        f_X1_allow_L34 K86 x3 x4 x5 x6 n (w32 (x7 + 1)) (wr M6 25 640 (w32 ((w32 (x4 * 64)) + x7)) r5)
      else
        f_X1_allow_L34 K86 x3 x4 x5 x6 n (w32 (x7 + 1)) M
    else
      K86 M
set_option maxHeartbeats 4000000 in
theorem t_X1_allow_L34 (l : Launch) (g : GG) (ad : Nat → Nat) (S : SW) (hS : q_ag 0 38 ad S) (x3 : Int) (x4 : Int) (x5 : Int) (x6 : Int) {K86 : Mem → Option (Int × Mem)} {r : Int} {M' : Mem} : ∀ (n : Nat) (x7 : Int) (M : Mem), f_X1_allow_L34 K86 x3 x4 x5 x6 n x7 M = some (r, M') → (∀ (M1 : Mem), K86 M1 = some (r, M') → RW l g MX1_allow (q_rm 4 0 0) 0 0 (q_ex S none M') 86 S M1 0 0 [some (.inr (.inr (some (ad 21)))), some (.inr (.inr (some (ad 3)))), some (.inr (.inr (some (ad 12)))), some (.inl x3), some (.inl x4), none, none, none] []) → RW l g MX1_allow (q_rm 4 0 0) 0 0 (q_ex S none M') 34 S M 0 0 [some (.inr (.inr (some (ad 21)))), some (.inr (.inr (some (ad 3)))), some (.inr (.inr (some (ad 12)))), some (.inl x3), some (.inl x4), some (.inl x5), some (.inl x6), some (.inl x7)] [] := by
  intro n
  induction n with
  | zero => intro x7 M H; exact absurd H (by simp [f_X1_allow_L34])
  | succ n ih =>
    intro x7 M H hK86
    rw [f_X1_allow_L34] at H
    refine R_iload (i := 7) (dX1_allow 17 rfl) rfl ?_
    refine R_bipush (dX1_allow 18 rfl) rfl rfl ?_
    refine R_icmp_ge (tgt := 86) (dX1_allow 19 rfl) (by decide) (fun hc => ?_) (fun hc => ?_)
    · have H := ite_F H hc
      refine R_mask [true, true, true, true, true, false, false, false] rfl ?_
      exact hK86 M H
    · have H := ite_T H hc
      refine R_iload (i := 7) (dX1_allow 20 rfl) rfl ?_
      refine R_cS (st' := [.inl (f_J6_bitCount_0f7a4 x7)]) [.inl x7] [] (t_J6_bitCount_0f7a4 l g S _   x7) msJ6_bitCount_0f7a4 (Or.inl tb_748) ⟨Nat.le_of_ble_eq_true rfl, Nat.le_of_ble_eq_true rfl⟩ (Nat.zero_le _) (Nat.zero_le _) rfl rfl (Nat.le_of_ble_eq_true rfl) rfl (dX1_allow 21 rfl) ?_
      refine R_iload (i := 5) (dX1_allow 22 rfl) rfl ?_
      refine R_icmp_ne (tgt := 80) (dX1_allow 23 rfl) (by decide) (fun hc => ?_) (fun hc => ?_)
      · have H := ite_F H hc
        refine R_iinc (i := 7) (ls' := [some (.inr (.inr (some (ad 21)))), some (.inr (.inr (some (ad 3)))), some (.inr (.inr (some (ad 12)))), some (.inl x3), some (.inl x4), some (.inl x5), some (.inl x6), some (.inl (w32 (x7 + 1)))]) (dX1_allow 41 rfl) rfl (Nat.le_of_ble_eq_true rfl) rfl rfl ?_
        refine R_goto (tgt := 34) (dX1_allow 42 rfl) (by decide) ?_
        exact ih (w32 (x7 + 1)) M H hK86
      · have H := ite_T H hc
        refine R_aload_n (i := 0) (dX1_allow 24 rfl) rfl rfl ?_
        refine R_getR cgX1 21 (cl21 hS) 3 (Nat.le_of_ble_eq_true rfl) rfl (Or.inl tb_462) (dX1_allow 25 rfl) ?_
        refine R_iload (i := 4) (dX1_allow 26 rfl) rfl ?_
        refine R_bipush (dX1_allow 27 rfl) rfl rfl ?_
        refine R_imul (dX1_allow 28 rfl) ?_
        refine R_iload (i := 7) (dX1_allow 29 rfl) rfl ?_
        refine R_iadd (dX1_allow 30 rfl) ?_
        refine R_aload_n (i := 2) (dX1_allow 31 rfl) rfl rfl ?_
        refine R_iload_n (i := 3) (dX1_allow 32 rfl) rfl rfl ?_
        refine R_iconst (dX1_allow 33 rfl) rfl ?_
        refine R_iload (i := 6) (dX1_allow 34 rfl) rfl ?_
        refine R_iload (i := 7) (dX1_allow 35 rfl) rfl ?_
        refine R_iload (i := 4) (dX1_allow 36 rfl) rfl ?_
        refine R_iconst (dX1_allow 37 rfl) rfl ?_
        refine R_iconst (dX1_allow 38 rfl) rfl ?_
        obtain ⟨r5, M6, hr, H⟩ := ob_E H
        refine R_cV (st' := [.inl r5, .inl (w32 ((w32 (x4 * 64)) + x7)), .inr (.inr (some (ad 25)))]) [.inl x3, .inl 0, .inl x6, .inl x7, .inl x4, .inl 0, .inl 0] [.inl (w32 ((w32 (x4 * 64)) + x7)), .inr (.inr (some (ad 25)))] (t_X6_says l g ad S _ (q_ag_sub hS (Nat.le_of_ble_eq_true rfl) (Nat.le_of_ble_eq_true rfl))   x3 0 x6 x7 x4 0 0 hr) msX6_says (Or.inl tb_750) (Or.inl ⟨12, 6, _, _, _, (cl12 hS), rfl⟩) ⟨Nat.le_of_ble_eq_true rfl, Nat.le_of_ble_eq_true rfl⟩ (Nat.zero_le _) (Nat.zero_le _) rfl rfl (Nat.le_of_ble_eq_true rfl) rfl (dX1_allow 39 rfl) ?_
        refine R_cS (st' := []) [.inr (.inr (some (ad 25))), .inl (w32 ((w32 (x4 * 64)) + x7)), .inl r5] [] (t_put l g S _ 25 (cl25 hS) (Nat.le_of_ble_eq_true rfl) (w32 ((w32 (x4 * 64)) + x7)) r5) msX9_put (Or.inr ⟨_, tb_751⟩) ⟨Nat.le_of_ble_eq_true rfl, Nat.le_of_ble_eq_true rfl⟩ (Nat.zero_le _) (Nat.zero_le _) rfl rfl (Nat.le_of_ble_eq_true rfl) rfl (dX1_allow 40 rfl) ?_
        refine R_iinc (i := 7) (ls' := [some (.inr (.inr (some (ad 21)))), some (.inr (.inr (some (ad 3)))), some (.inr (.inr (some (ad 12)))), some (.inl x3), some (.inl x4), some (.inl x5), some (.inl x6), some (.inl (w32 (x7 + 1)))]) (dX1_allow 41 rfl) rfl (Nat.le_of_ble_eq_true rfl) rfl rfl ?_
        refine R_goto (tgt := 34) (dX1_allow 42 rfl) (by decide) ?_
        exact ih (w32 (x7 + 1)) (wr M6 25 640 (w32 ((w32 (x4 * 64)) + x7)) r5) H hK86
def f_X1_allow_L3 (x3 : Int) : Nat → Int → Mem → Option (Int × Mem)
  | 0, _, _ => none
  | n + 1, x4, M =>
    if x4 < M 3 3 then
      f_X1_allow_L34
        (fun M7 =>
          f_X1_allow_L3 x3 n (w32 (x4 + 1)) M7
        )
        x3 x4 (f_J6_bitCount_0f7a4 (f_X3_signsOf x4 M)) (f_X3_priceOf x4 M) 100000 0 M
    else
      some (0, M)
set_option maxHeartbeats 4000000 in
theorem t_X1_allow_L3 (l : Launch) (g : GG) (ad : Nat → Nat) (S : SW) (hS : q_ag 0 38 ad S) (x3 : Int) {r : Int} {M' : Mem} : ∀ (n : Nat) (x4 : Int) (M : Mem), f_X1_allow_L3 x3 n x4 M = some (r, M') → RW l g MX1_allow (q_rm 4 0 0) 0 0 (q_ex S none M') 3 S M 0 0 [some (.inr (.inr (some (ad 21)))), some (.inr (.inr (some (ad 3)))), some (.inr (.inr (some (ad 12)))), some (.inl x3), some (.inl x4), none, none, none] [] := by
  intro n
  induction n with
  | zero => intro x4 M H; exact absurd H (by simp [f_X1_allow_L3])
  | succ n ih =>
    intro x4 M H
    rw [f_X1_allow_L3] at H
    refine R_iload (i := 4) (dX1_allow 2 rfl) rfl ?_
    refine R_aload_n (i := 1) (dX1_allow 3 rfl) rfl rfl ?_
    refine R_getI cgX3 3 (cl3 hS) 3 (Nat.le_of_ble_eq_true rfl) rfl (Or.inr ⟨_, tb_143⟩) (dX1_allow 4 rfl) ?_
    refine R_icmp_ge (tgt := 92) (dX1_allow 5 rfl) (by decide) (fun hc => ?_) (fun hc => ?_)
    · have H := ite_F H hc
      exact R_vret rfl (Nat.zero_le _) (Nat.zero_le _) (dX1_allow 45 rfl) ⟨rfl, rfl, (Prod.mk.inj (Option.some.inj H)).2⟩
    · have H := ite_T H hc
      refine R_aload_n (i := 1) (dX1_allow 6 rfl) rfl rfl ?_
      refine R_iload (i := 4) (dX1_allow 7 rfl) rfl ?_
      refine R_cV (st' := [.inl (f_X3_signsOf x4 M)]) [.inl x4] [] (t_X3_signsOf l g ad S _ hS   x4) msX3_signsOf (Or.inl tb_747) (Or.inl ⟨3, 3, _, _, _, (cl3 hS), rfl⟩) ⟨Nat.le_of_ble_eq_true rfl, Nat.le_of_ble_eq_true rfl⟩ (Nat.zero_le _) (Nat.zero_le _) rfl rfl (Nat.le_of_ble_eq_true rfl) rfl (dX1_allow 8 rfl) ?_
      refine R_cS (st' := [.inl (f_J6_bitCount_0f7a4 (f_X3_signsOf x4 M))]) [.inl (f_X3_signsOf x4 M)] [] (t_J6_bitCount_0f7a4 l g S _   (f_X3_signsOf x4 M)) msJ6_bitCount_0f7a4 (Or.inl tb_748) ⟨Nat.le_of_ble_eq_true rfl, Nat.le_of_ble_eq_true rfl⟩ (Nat.zero_le _) (Nat.zero_le _) rfl rfl (Nat.le_of_ble_eq_true rfl) rfl (dX1_allow 9 rfl) ?_
      refine R_istore (i := 5) (ls' := [some (.inr (.inr (some (ad 21)))), some (.inr (.inr (some (ad 3)))), some (.inr (.inr (some (ad 12)))), some (.inl x3), some (.inl x4), some (.inl (f_J6_bitCount_0f7a4 (f_X3_signsOf x4 M))), none, none]) (dX1_allow 10 rfl) (Nat.le_of_ble_eq_true rfl) (Nat.le_of_ble_eq_true rfl) rfl rfl ?_
      refine R_aload_n (i := 1) (dX1_allow 11 rfl) rfl rfl ?_
      refine R_iload (i := 4) (dX1_allow 12 rfl) rfl ?_
      refine R_cV (st' := [.inl (f_X3_priceOf x4 M)]) [.inl x4] [] (t_X3_priceOf l g ad S _ hS   x4) msX3_priceOf (Or.inl tb_749) (Or.inl ⟨3, 3, _, _, _, (cl3 hS), rfl⟩) ⟨Nat.le_of_ble_eq_true rfl, Nat.le_of_ble_eq_true rfl⟩ (Nat.zero_le _) (Nat.zero_le _) rfl rfl (Nat.le_of_ble_eq_true rfl) rfl (dX1_allow 13 rfl) ?_
      refine R_istore (i := 6) (ls' := [some (.inr (.inr (some (ad 21)))), some (.inr (.inr (some (ad 3)))), some (.inr (.inr (some (ad 12)))), some (.inl x3), some (.inl x4), some (.inl (f_J6_bitCount_0f7a4 (f_X3_signsOf x4 M))), some (.inl (f_X3_priceOf x4 M)), none]) (dX1_allow 14 rfl) (Nat.le_of_ble_eq_true rfl) (Nat.le_of_ble_eq_true rfl) rfl rfl ?_
      refine R_iconst (dX1_allow 15 rfl) rfl ?_
      refine R_istore (i := 7) (ls' := [some (.inr (.inr (some (ad 21)))), some (.inr (.inr (some (ad 3)))), some (.inr (.inr (some (ad 12)))), some (.inl x3), some (.inl x4), some (.inl (f_J6_bitCount_0f7a4 (f_X3_signsOf x4 M))), some (.inl (f_X3_priceOf x4 M)), some (.inl 0)]) (dX1_allow 16 rfl) (Nat.le_of_ble_eq_true rfl) (Nat.le_of_ble_eq_true rfl) rfl rfl ?_
      refine t_X1_allow_L34 l g ad S hS x3 x4 (f_J6_bitCount_0f7a4 (f_X3_signsOf x4 M)) (f_X3_priceOf x4 M)  100000 0 M H (fun M7 H => ?_)
      refine R_iinc (i := 4) (ls' := [some (.inr (.inr (some (ad 21)))), some (.inr (.inr (some (ad 3)))), some (.inr (.inr (some (ad 12)))), some (.inl x3), some (.inl (w32 (x4 + 1))), none, none, none]) (dX1_allow 43 rfl) rfl (Nat.le_of_ble_eq_true rfl) rfl rfl ?_
      refine R_goto (tgt := 3) (dX1_allow 44 rfl) (by decide) ?_
      exact ih (w32 (x4 + 1)) M7 H
def f_X1_allow (x3 : Int) (M : Mem) : Option (Int × Mem) :=
  f_X1_allow_L3
    x3 100000 0 M
set_option maxHeartbeats 4000000 in
theorem t_X1_allow (l : Launch) (g : GG) (ad : Nat → Nat) (S : SW) (M : Mem) (hS : q_ag 0 38 ad S) (x3 : Int) {r : Int} {M' : Mem} (H : f_X1_allow x3 M = some (r, M')) : CT l g MX1_allow 4 0 0 S M [.inr (.inr (some (ad 21))), .inr (.inr (some (ad 3))), .inr (.inr (some (ad 12))), .inl x3] (q_ex S none M') := by
  unfold f_X1_allow at H
  refine CT_of (ls0 := [some (.inr (.inr (some (ad 21)))), some (.inr (.inr (some (ad 3)))), some (.inr (.inr (some (ad 12)))), some (.inl x3), none, none, none, none]) (by decide +kernel) (Nat.le_of_ble_eq_true rfl) rfl ?_
  refine R_iconst (dX1_allow 0 rfl) rfl ?_
  refine R_istore (i := 4) (ls' := [some (.inr (.inr (some (ad 21)))), some (.inr (.inr (some (ad 3)))), some (.inr (.inr (some (ad 12)))), some (.inl x3), some (.inl 0), none, none, none]) (dX1_allow 1 rfl) (Nat.le_of_ble_eq_true rfl) (Nat.le_of_ble_eq_true rfl) rfl rfl ?_
  exact t_X1_allow_L3 l g ad S hS x3  100000 0 M H 
def f_X1_isLawful_L2 (x2 : Int) (M : Mem) : Nat → Int → Option Int
  | 0, _ => none
  | n + 1, x3 =>
    if x3 < M 3 3 then
      if rd 640 (M 25) (w32 ((w32 (x3 * 64)) + (f_X3_had x3 x2 M))) = 0 then
        some 0
      else
        f_X1_isLawful_L2 x2 M n (w32 (x3 + 1))
    else
      some 1
set_option maxHeartbeats 4000000 in
theorem t_X1_isLawful_L2 (l : Launch) (g : GG) (ad : Nat → Nat) (S : SW) (M : Mem) (hS : q_ag 0 38 ad S) (x2 : Int) {r : Int} : ∀ (n : Nat) (x3 : Int), f_X1_isLawful_L2 x2 M n x3 = some r → RW l g MX1_isLawful (q_rm 3 0 0) 0 0 (q_ex S (some (.inl r)) M) 2 S M 0 0 [some (.inr (.inr (some (ad 21)))), some (.inr (.inr (some (ad 3)))), some (.inl x2), some (.inl x3)] [] := by
  intro n
  induction n with
  | zero => intro x3 H; exact absurd H (by simp [f_X1_isLawful_L2])
  | succ n ih =>
    intro x3 H
    rw [f_X1_isLawful_L2] at H
    refine R_iload_n (i := 3) (dX1_isLawful 2 rfl) rfl rfl ?_
    refine R_aload_n (i := 1) (dX1_isLawful 3 rfl) rfl rfl ?_
    refine R_getI cgX3 3 (cl3 hS) 3 (Nat.le_of_ble_eq_true rfl) rfl (Or.inr ⟨_, tb_143⟩) (dX1_isLawful 4 rfl) ?_
    refine R_icmp_ge (tgt := 39) (dX1_isLawful 5 rfl) (by decide) (fun hc => ?_) (fun hc => ?_)
    · have H := ite_F H hc
      refine R_iconst (dX1_isLawful 22 rfl) rfl ?_
      exact R_iret rfl (by decide +kernel) (Nat.zero_le _) (Nat.zero_le _) (dX1_isLawful 23 rfl) ⟨congrArg (fun z => some (Sum.inl z)) (Option.some.inj H), rfl, rfl⟩
    · have H := ite_T H hc
      refine R_aload_n (i := 0) (dX1_isLawful 6 rfl) rfl rfl ?_
      refine R_getR cgX1 21 (cl21 hS) 3 (Nat.le_of_ble_eq_true rfl) rfl (Or.inl tb_462) (dX1_isLawful 7 rfl) ?_
      refine R_iload_n (i := 3) (dX1_isLawful 8 rfl) rfl rfl ?_
      refine R_bipush (dX1_isLawful 9 rfl) rfl rfl ?_
      refine R_imul (dX1_isLawful 10 rfl) ?_
      refine R_aload_n (i := 1) (dX1_isLawful 11 rfl) rfl rfl ?_
      refine R_iload_n (i := 3) (dX1_isLawful 12 rfl) rfl rfl ?_
      refine R_iload_n (i := 2) (dX1_isLawful 13 rfl) rfl rfl ?_
      refine R_cV (st' := [.inl (f_X3_had x3 x2 M), .inl (w32 (x3 * 64)), .inr (.inr (some (ad 25)))]) [.inl x3, .inl x2] [.inl (w32 (x3 * 64)), .inr (.inr (some (ad 25)))] (t_X3_had l g ad S _ hS   x3 x2) msX3_had (Or.inl tb_756) (Or.inl ⟨3, 3, _, _, _, (cl3 hS), rfl⟩) ⟨Nat.le_of_ble_eq_true rfl, Nat.le_of_ble_eq_true rfl⟩ (Nat.zero_le _) (Nat.zero_le _) rfl rfl (Nat.le_of_ble_eq_true rfl) rfl (dX1_isLawful 14 rfl) ?_
      refine R_iadd (dX1_isLawful 15 rfl) ?_
      refine R_cS (st' := [.inl (rd 640 (M 25) (w32 ((w32 (x3 * 64)) + (f_X3_had x3 x2 M))))]) [.inr (.inr (some (ad 25))), .inl (w32 ((w32 (x3 * 64)) + (f_X3_had x3 x2 M)))] [] (t_at l g S _ 25 (cl25 hS) (Nat.le_of_ble_eq_true rfl) (w32 ((w32 (x3 * 64)) + (f_X3_had x3 x2 M)))) msX9_at (Or.inr ⟨_, tb_760⟩) ⟨Nat.le_of_ble_eq_true rfl, Nat.le_of_ble_eq_true rfl⟩ (Nat.zero_le _) (Nat.zero_le _) rfl rfl (Nat.le_of_ble_eq_true rfl) rfl (dX1_isLawful 16 rfl) ?_
      refine R_if_ne (tgt := 33) (dX1_isLawful 17 rfl) (by decide) (fun hc => ?_) (fun hc => ?_)
      · have H := ite_F H hc
        refine R_iinc (i := 3) (ls' := [some (.inr (.inr (some (ad 21)))), some (.inr (.inr (some (ad 3)))), some (.inl x2), some (.inl (w32 (x3 + 1)))]) (dX1_isLawful 20 rfl) rfl (Nat.le_of_ble_eq_true rfl) rfl rfl ?_
        refine R_goto (tgt := 2) (dX1_isLawful 21 rfl) (by decide) ?_
        exact ih (w32 (x3 + 1)) H
      · have H := ite_T H hc
        refine R_iconst (dX1_isLawful 18 rfl) rfl ?_
        exact R_iret rfl (by decide +kernel) (Nat.zero_le _) (Nat.zero_le _) (dX1_isLawful 19 rfl) ⟨congrArg (fun z => some (Sum.inl z)) (Option.some.inj H), rfl, rfl⟩
def f_X1_isLawful (x2 : Int) (M : Mem) : Option Int :=
  f_X1_isLawful_L2
    x2 M 100000 0
set_option maxHeartbeats 4000000 in
theorem t_X1_isLawful (l : Launch) (g : GG) (ad : Nat → Nat) (S : SW) (M : Mem) (hS : q_ag 0 38 ad S) (x2 : Int) {r : Int} (H : f_X1_isLawful x2 M = some r) : CT l g MX1_isLawful 3 0 0 S M [.inr (.inr (some (ad 21))), .inr (.inr (some (ad 3))), .inl x2] (q_ex S (some (.inl r)) M) := by
  unfold f_X1_isLawful at H
  refine CT_of (ls0 := [some (.inr (.inr (some (ad 21)))), some (.inr (.inr (some (ad 3)))), some (.inl x2), none]) (by decide +kernel) (Nat.le_of_ble_eq_true rfl) rfl ?_
  refine R_iconst (dX1_isLawful 0 rfl) rfl ?_
  refine R_istore_n (i := 3) (ls' := [some (.inr (.inr (some (ad 21)))), some (.inr (.inr (some (ad 3)))), some (.inl x2), some (.inl 0)]) (dX1_isLawful 1 rfl) rfl (Nat.le_of_ble_eq_true rfl) (Nat.le_of_ble_eq_true rfl) rfl rfl ?_
  exact t_X1_isLawful_L2 l g ad S M hS x2  100000 0 H 
def f_X7_partOf (x1 : Int) (x2 : Int) (M : Mem) : Int :=
  rd 4320 (M 2) (w32 ((w32 (x1 * 6)) + x2))
set_option maxHeartbeats 4000000 in
theorem t_X7_partOf (l : Launch) (g : GG) (ad : Nat → Nat) (S : SW) (M : Mem) (hS : q_ag 1 3 ad S) (x1 : Int) (x2 : Int) : CT l g MX7_partOf 2 0 0 S M [.inr (.inr (some (ad 1))), .inl x1, .inl x2] (q_ex S (some (.inl (f_X7_partOf x1 x2 M))) M) := by
  obtain ⟨r, H⟩ : ∃ r, f_X7_partOf x1 x2 M = r := ⟨_, rfl⟩
  rw [H]
  unfold f_X7_partOf at H
  refine CT_of (ls0 := [some (.inr (.inr (some (ad 1)))), some (.inl x1), some (.inl x2)]) (by decide +kernel) (Nat.le_of_ble_eq_true rfl) rfl ?_
  refine R_aload_n (i := 0) (dX7_partOf 0 rfl) rfl rfl ?_
  refine R_getR cgX7 1 (cl1 hS) 0 (Nat.le_of_ble_eq_true rfl) rfl (Or.inl tb_125) (dX7_partOf 1 rfl) ?_
  refine R_iload_n (i := 1) (dX7_partOf 2 rfl) rfl rfl ?_
  refine R_bipush (dX7_partOf 3 rfl) rfl rfl ?_
  refine R_imul (dX7_partOf 4 rfl) ?_
  refine R_iload_n (i := 2) (dX7_partOf 5 rfl) rfl rfl ?_
  refine R_iadd (dX7_partOf 6 rfl) ?_
  refine R_cS (st' := [.inl (rd 4320 (M 2) (w32 ((w32 (x1 * 6)) + x2)))]) [.inr (.inr (some (ad 2))), .inl (w32 ((w32 (x1 * 6)) + x2))] [] (t_at l g S _ 2 (cl2 hS) (Nat.le_of_ble_eq_true rfl) (w32 ((w32 (x1 * 6)) + x2))) msX9_at (Or.inr ⟨_, tb_109⟩) ⟨Nat.le_of_ble_eq_true rfl, Nat.le_of_ble_eq_true rfl⟩ (Nat.zero_le _) (Nat.zero_le _) rfl rfl (Nat.le_of_ble_eq_true rfl) rfl (dX7_partOf 7 rfl) ?_
  exact R_iret rfl rfl (Nat.zero_le _) (Nat.zero_le _) (dX7_partOf 8 rfl) ⟨congrArg (fun z => some (Sum.inl z)) H, rfl, rfl⟩
def f_X1_take_L25 (K73 : Mem → Option (Int × Mem)) (x3 : Int) : Nat → Int → Mem → Option (Int × Mem)
  | 0, _, _ => none
  | n + 1, x4, M =>
    if x4 < 6 then
      f_X1_take_L25 K73 x3 n (w32 (x4 + 1)) (wr M 23 36 (w32 ((w32 (x4 * 6)) + (f_X7_partOf x3 x4 M))) (w32 ((rd 36 (M 23) (w32 ((w32 (x4 * 6)) + (f_X7_partOf x3 x4 M)))) + 1)))
    else
      K73 M
set_option maxHeartbeats 4000000 in
theorem t_X1_take_L25 (l : Launch) (g : GG) (ad : Nat → Nat) (S : SW) (hS : q_ag 0 38 ad S) (x3 : Int) {K73 : Mem → Option (Int × Mem)} {r : Int} {M' : Mem} : ∀ (n : Nat) (x4 : Int) (M : Mem), f_X1_take_L25 K73 x3 n x4 M = some (r, M') → (∀ (M1 : Mem), K73 M1 = some (r, M') → RW l g MX1_take (q_rm 3 0 0) 0 0 (q_ex S none M') 73 S M1 0 0 [some (.inr (.inr (some (ad 21)))), none, some (.inr (.inr (some (ad 3)))), some (.inl x3), none, none] []) → RW l g MX1_take (q_rm 3 0 0) 0 0 (q_ex S none M') 25 S M 0 0 [some (.inr (.inr (some (ad 21)))), some (.inr (.inr (some (ad 1)))), some (.inr (.inr (some (ad 3)))), some (.inl x3), some (.inl x4), none] [] := by
  intro n
  induction n with
  | zero => intro x4 M H; exact absurd H (by simp [f_X1_take_L25])
  | succ n ih =>
    intro x4 M H hK73
    rw [f_X1_take_L25] at H
    refine R_iload (i := 4) (dX1_take_0 14 rfl) rfl ?_
    refine R_bipush (dX1_take_0 15 rfl) rfl rfl ?_
    refine R_icmp_ge (tgt := 73) (dX1_take_0 16 rfl) (by decide) (fun hc => ?_) (fun hc => ?_)
    · have H := ite_F H hc
      refine R_mask [true, false, true, true, false, false] rfl ?_
      exact hK73 M H
    · have H := ite_T H hc
      refine R_iload (i := 4) (dX1_take_0 17 rfl) rfl ?_
      refine R_bipush (dX1_take_0 18 rfl) rfl rfl ?_
      refine R_imul (dX1_take_0 19 rfl) ?_
      refine R_aload_n (i := 1) (dX1_take_0 20 rfl) rfl rfl ?_
      refine R_iload_n (i := 3) (dX1_take_0 21 rfl) rfl rfl ?_
      refine R_iload (i := 4) (dX1_take_0 22 rfl) rfl ?_
      refine R_cV (st' := [.inl (f_X7_partOf x3 x4 M), .inl (w32 (x4 * 6))]) [.inl x3, .inl x4] [.inl (w32 (x4 * 6))] (t_X7_partOf l g ad S _ (q_ag_sub hS (Nat.le_of_ble_eq_true rfl) (Nat.le_of_ble_eq_true rfl))   x3 x4) msX7_partOf (Or.inl tb_775) (Or.inl ⟨1, 7, _, _, _, (cl1 hS), rfl⟩) ⟨Nat.le_of_ble_eq_true rfl, Nat.le_of_ble_eq_true rfl⟩ (Nat.zero_le _) (Nat.zero_le _) rfl rfl (Nat.le_of_ble_eq_true rfl) rfl (dX1_take_0 23 rfl) ?_
      refine R_iadd (dX1_take_0 24 rfl) ?_
      refine R_istore (i := 5) (ls' := [some (.inr (.inr (some (ad 21)))), some (.inr (.inr (some (ad 1)))), some (.inr (.inr (some (ad 3)))), some (.inl x3), some (.inl x4), some (.inl (w32 ((w32 (x4 * 6)) + (f_X7_partOf x3 x4 M))))]) (dX1_take_0 25 rfl) (Nat.le_of_ble_eq_true rfl) (Nat.le_of_ble_eq_true rfl) rfl rfl ?_
      refine R_aload_n (i := 0) (dX1_take_0 26 rfl) rfl rfl ?_
      refine R_getR cgX1 21 (cl21 hS) 1 (Nat.le_of_ble_eq_true rfl) rfl (Or.inl tb_460) (dX1_take_0 27 rfl) ?_
      refine R_iload (i := 5) (dX1_take_0 28 rfl) rfl ?_
      refine R_aload_n (i := 0) (dX1_take_0 29 rfl) rfl rfl ?_
      refine R_getR cgX1 21 (cl21 hS) 1 (Nat.le_of_ble_eq_true rfl) rfl (Or.inl tb_460) (dX1_take_0 30 rfl) ?_
      refine R_iload (i := 5) (dX1_take_0 31 rfl) rfl ?_
      refine R_cS (st' := [.inl (rd 36 (M 23) (w32 ((w32 (x4 * 6)) + (f_X7_partOf x3 x4 M)))), .inl (w32 ((w32 (x4 * 6)) + (f_X7_partOf x3 x4 M))), .inr (.inr (some (ad 23)))]) [.inr (.inr (some (ad 23))), .inl (w32 ((w32 (x4 * 6)) + (f_X7_partOf x3 x4 M)))] [.inl (w32 ((w32 (x4 * 6)) + (f_X7_partOf x3 x4 M))), .inr (.inr (some (ad 23)))] (t_at l g S _ 23 (cl23 hS) (Nat.le_of_ble_eq_true rfl) (w32 ((w32 (x4 * 6)) + (f_X7_partOf x3 x4 M)))) msX9_at (Or.inr ⟨_, tb_760⟩) ⟨Nat.le_of_ble_eq_true rfl, Nat.le_of_ble_eq_true rfl⟩ (Nat.zero_le _) (Nat.zero_le _) rfl rfl (Nat.le_of_ble_eq_true rfl) rfl (dX1_take_0 32 rfl) ?_
      refine R_iconst (dX1_take_0 33 rfl) rfl ?_
      refine R_iadd (dX1_take_0 34 rfl) ?_
      refine R_cS (st' := []) [.inr (.inr (some (ad 23))), .inl (w32 ((w32 (x4 * 6)) + (f_X7_partOf x3 x4 M))), .inl (w32 ((rd 36 (M 23) (w32 ((w32 (x4 * 6)) + (f_X7_partOf x3 x4 M)))) + 1))] [] (t_put l g S _ 23 (cl23 hS) (Nat.le_of_ble_eq_true rfl) (w32 ((w32 (x4 * 6)) + (f_X7_partOf x3 x4 M))) (w32 ((rd 36 (M 23) (w32 ((w32 (x4 * 6)) + (f_X7_partOf x3 x4 M)))) + 1))) msX9_put (Or.inr ⟨_, tb_751⟩) ⟨Nat.le_of_ble_eq_true rfl, Nat.le_of_ble_eq_true rfl⟩ (Nat.zero_le _) (Nat.zero_le _) rfl rfl (Nat.le_of_ble_eq_true rfl) rfl (dX1_take_0 35 rfl) ?_
      refine R_iinc (i := 4) (ls' := [some (.inr (.inr (some (ad 21)))), some (.inr (.inr (some (ad 1)))), some (.inr (.inr (some (ad 3)))), some (.inl x3), some (.inl (w32 (x4 + 1))), some (.inl (w32 ((w32 (x4 * 6)) + (f_X7_partOf x3 x4 M))))]) (dX1_take_0 36 rfl) rfl (Nat.le_of_ble_eq_true rfl) rfl rfl ?_
      refine R_goto (tgt := 25) (dX1_take_0 37 rfl) (by decide) ?_
      refine R_mask [true, true, true, true, true, false] rfl ?_
      exact ih (w32 (x4 + 1)) (wr M 23 36 (w32 ((w32 (x4 * 6)) + (f_X7_partOf x3 x4 M))) (w32 ((rd 36 (M 23) (w32 ((w32 (x4 * 6)) + (f_X7_partOf x3 x4 M)))) + 1))) H hK73
def f_X1_take_L76 (x3 : Int) : Nat → Int → Mem → Option (Int × Mem)
  | 0, _, _ => none
  | n + 1, x4, M =>
    if x4 < M 3 3 then
      f_X1_take_L76 x3 n (w32 (x4 + 1)) (wr M 24 640 (w32 ((w32 (x4 * 64)) + (f_X3_had x4 x3 M))) (w32 ((rd 640 (M 24) (w32 ((w32 (x4 * 64)) + (f_X3_had x4 x3 M)))) + 1)))
    else
      some (0, M)
set_option maxHeartbeats 4000000 in
theorem t_X1_take_L76 (l : Launch) (g : GG) (ad : Nat → Nat) (S : SW) (hS : q_ag 0 38 ad S) (x3 : Int) {r : Int} {M' : Mem} : ∀ (n : Nat) (x4 : Int) (M : Mem), f_X1_take_L76 x3 n x4 M = some (r, M') → RW l g MX1_take (q_rm 3 0 0) 0 0 (q_ex S none M') 76 S M 0 0 [some (.inr (.inr (some (ad 21)))), none, some (.inr (.inr (some (ad 3)))), some (.inl x3), some (.inl x4), none] [] := by
  intro n
  induction n with
  | zero => intro x4 M H; exact absurd H (by simp [f_X1_take_L76])
  | succ n ih =>
    intro x4 M H
    rw [f_X1_take_L76] at H
    refine R_iload (i := 4) (dX1_take_0 40 rfl) rfl ?_
    refine R_aload_n (i := 2) (dX1_take_0 41 rfl) rfl rfl ?_
    refine R_getI cgX3 3 (cl3 hS) 3 (Nat.le_of_ble_eq_true rfl) rfl (Or.inr ⟨_, tb_143⟩) (dX1_take_0 42 rfl) ?_
    refine R_icmp_ge (tgt := 126) (dX1_take_0 43 rfl) (by decide) (fun hc => ?_) (fun hc => ?_)
    · have H := ite_F H hc
      exact R_vret rfl (Nat.zero_le _) (Nat.zero_le _) (dX1_take_1 5 rfl) ⟨rfl, rfl, (Prod.mk.inj (Option.some.inj H)).2⟩
    · have H := ite_T H hc
      refine R_iload (i := 4) (dX1_take_0 44 rfl) rfl ?_
      refine R_bipush (dX1_take_0 45 rfl) rfl rfl ?_
      refine R_imul (dX1_take_0 46 rfl) ?_
      refine R_aload_n (i := 2) (dX1_take_0 47 rfl) rfl rfl ?_
      refine R_iload (i := 4) (dX1_take_0 48 rfl) rfl ?_
      refine R_iload_n (i := 3) (dX1_take_0 49 rfl) rfl rfl ?_
      refine R_cV (st' := [.inl (f_X3_had x4 x3 M), .inl (w32 (x4 * 64))]) [.inl x4, .inl x3] [.inl (w32 (x4 * 64))] (t_X3_had l g ad S _ hS   x4 x3) msX3_had (Or.inl tb_756) (Or.inl ⟨3, 3, _, _, _, (cl3 hS), rfl⟩) ⟨Nat.le_of_ble_eq_true rfl, Nat.le_of_ble_eq_true rfl⟩ (Nat.zero_le _) (Nat.zero_le _) rfl rfl (Nat.le_of_ble_eq_true rfl) rfl (dX1_take_0 50 rfl) ?_
      refine R_iadd (dX1_take_0 51 rfl) ?_
      refine R_istore (i := 5) (ls' := [some (.inr (.inr (some (ad 21)))), none, some (.inr (.inr (some (ad 3)))), some (.inl x3), some (.inl x4), some (.inl (w32 ((w32 (x4 * 64)) + (f_X3_had x4 x3 M))))]) (dX1_take_0 52 rfl) (Nat.le_of_ble_eq_true rfl) (Nat.le_of_ble_eq_true rfl) rfl rfl ?_
      refine R_aload_n (i := 0) (dX1_take_0 53 rfl) rfl rfl ?_
      refine R_getR cgX1 21 (cl21 hS) 2 (Nat.le_of_ble_eq_true rfl) rfl (Or.inl tb_461) (dX1_take_0 54 rfl) ?_
      refine R_iload (i := 5) (dX1_take_0 55 rfl) rfl ?_
      refine R_aload_n (i := 0) (dX1_take_0 56 rfl) rfl rfl ?_
      refine R_getR cgX1 21 (cl21 hS) 2 (Nat.le_of_ble_eq_true rfl) rfl (Or.inl tb_461) (dX1_take_0 57 rfl) ?_
      refine R_iload (i := 5) (dX1_take_0 58 rfl) rfl ?_
      refine R_cS (st' := [.inl (rd 640 (M 24) (w32 ((w32 (x4 * 64)) + (f_X3_had x4 x3 M)))), .inl (w32 ((w32 (x4 * 64)) + (f_X3_had x4 x3 M))), .inr (.inr (some (ad 24)))]) [.inr (.inr (some (ad 24))), .inl (w32 ((w32 (x4 * 64)) + (f_X3_had x4 x3 M)))] [.inl (w32 ((w32 (x4 * 64)) + (f_X3_had x4 x3 M))), .inr (.inr (some (ad 24)))] (t_at l g S _ 24 (cl24 hS) (Nat.le_of_ble_eq_true rfl) (w32 ((w32 (x4 * 64)) + (f_X3_had x4 x3 M)))) msX9_at (Or.inr ⟨_, tb_760⟩) ⟨Nat.le_of_ble_eq_true rfl, Nat.le_of_ble_eq_true rfl⟩ (Nat.zero_le _) (Nat.zero_le _) rfl rfl (Nat.le_of_ble_eq_true rfl) rfl (dX1_take_0 59 rfl) ?_
      refine R_iconst (dX1_take_1 0 rfl) rfl ?_
      refine R_iadd (dX1_take_1 1 rfl) ?_
      refine R_cS (st' := []) [.inr (.inr (some (ad 24))), .inl (w32 ((w32 (x4 * 64)) + (f_X3_had x4 x3 M))), .inl (w32 ((rd 640 (M 24) (w32 ((w32 (x4 * 64)) + (f_X3_had x4 x3 M)))) + 1))] [] (t_put l g S _ 24 (cl24 hS) (Nat.le_of_ble_eq_true rfl) (w32 ((w32 (x4 * 64)) + (f_X3_had x4 x3 M))) (w32 ((rd 640 (M 24) (w32 ((w32 (x4 * 64)) + (f_X3_had x4 x3 M)))) + 1))) msX9_put (Or.inr ⟨_, tb_751⟩) ⟨Nat.le_of_ble_eq_true rfl, Nat.le_of_ble_eq_true rfl⟩ (Nat.zero_le _) (Nat.zero_le _) rfl rfl (Nat.le_of_ble_eq_true rfl) rfl (dX1_take_1 2 rfl) ?_
      refine R_iinc (i := 4) (ls' := [some (.inr (.inr (some (ad 21)))), none, some (.inr (.inr (some (ad 3)))), some (.inl x3), some (.inl (w32 (x4 + 1))), some (.inl (w32 ((w32 (x4 * 64)) + (f_X3_had x4 x3 M))))]) (dX1_take_1 3 rfl) rfl (Nat.le_of_ble_eq_true rfl) rfl rfl ?_
      refine R_goto (tgt := 76) (dX1_take_1 4 rfl) (by decide) ?_
      refine R_mask [true, false, true, true, true, false] rfl ?_
      exact ih (w32 (x4 + 1)) (wr M 24 640 (w32 ((w32 (x4 * 64)) + (f_X3_had x4 x3 M))) (w32 ((rd 640 (M 24) (w32 ((w32 (x4 * 64)) + (f_X3_had x4 x3 M)))) + 1))) H
def f_X1_take (x3 : Int) (M : Mem) : Option (Int × Mem) :=
  f_X1_take_L25
    (fun M8 =>
      f_X1_take_L76
        x3 100000 0 M8
    )
    x3 100000 0 (mset (wr M 22 720 (M 21 5) x3) 21 5 (w32 (((wr M 22 720 (M 21 5) x3) 21 5) + 1)))
set_option maxHeartbeats 4000000 in
theorem t_X1_take (l : Launch) (g : GG) (ad : Nat → Nat) (S : SW) (M : Mem) (hS : q_ag 0 38 ad S) (x3 : Int) {r : Int} {M' : Mem} (H : f_X1_take x3 M = some (r, M')) : CT l g MX1_take 3 0 0 S M [.inr (.inr (some (ad 21))), .inr (.inr (some (ad 1))), .inr (.inr (some (ad 3))), .inl x3] (q_ex S none M') := by
  unfold f_X1_take at H
  refine CT_of (ls0 := [some (.inr (.inr (some (ad 21)))), some (.inr (.inr (some (ad 1)))), some (.inr (.inr (some (ad 3)))), some (.inl x3), none, none]) (by decide +kernel) (Nat.le_of_ble_eq_true rfl) rfl ?_
  refine R_aload_n (i := 0) (dX1_take_0 0 rfl) rfl rfl ?_
  refine R_getR cgX1 21 (cl21 hS) 0 (Nat.le_of_ble_eq_true rfl) rfl (Or.inl tb_459) (dX1_take_0 1 rfl) ?_
  refine R_aload_n (i := 0) (dX1_take_0 2 rfl) rfl rfl ?_
  refine R_getI cgX1 21 (cl21 hS) 5 (Nat.le_of_ble_eq_true rfl) rfl (Or.inl tb_464) (dX1_take_0 3 rfl) ?_
  refine R_iload_n (i := 3) (dX1_take_0 4 rfl) rfl rfl ?_
  refine R_cS (st' := []) [.inr (.inr (some (ad 22))), .inl (M 21 5), .inl x3] [] (t_put l g S _ 22 (cl22 hS) (Nat.le_of_ble_eq_true rfl) (M 21 5) x3) msX9_put (Or.inr ⟨_, tb_751⟩) ⟨Nat.le_of_ble_eq_true rfl, Nat.le_of_ble_eq_true rfl⟩ (Nat.zero_le _) (Nat.zero_le _) rfl rfl (Nat.le_of_ble_eq_true rfl) rfl (dX1_take_0 5 rfl) ?_
  refine R_aload_n (i := 0) (dX1_take_0 6 rfl) rfl rfl ?_
  refine R_dup rfl (dX1_take_0 7 rfl) ?_
  refine R_getI cgX1 21 (cl21 hS) 5 (Nat.le_of_ble_eq_true rfl) rfl (Or.inl tb_464) (dX1_take_0 8 rfl) ?_
  refine R_iconst (dX1_take_0 9 rfl) rfl ?_
  refine R_iadd (dX1_take_0 10 rfl) ?_
  refine R_putI cgX1 21 (cl21 hS) 5 (Nat.le_of_ble_eq_true rfl) rfl rfl rfl rfl (Or.inl tb_464) (dX1_take_0 11 rfl) ?_
  refine R_iconst (dX1_take_0 12 rfl) rfl ?_
  refine R_istore (i := 4) (ls' := [some (.inr (.inr (some (ad 21)))), some (.inr (.inr (some (ad 1)))), some (.inr (.inr (some (ad 3)))), some (.inl x3), some (.inl 0), none]) (dX1_take_0 13 rfl) (Nat.le_of_ble_eq_true rfl) (Nat.le_of_ble_eq_true rfl) rfl rfl ?_
  refine t_X1_take_L25 l g ad S hS x3  100000 0 (mset (wr M 22 720 (M 21 5) x3) 21 5 (w32 (((wr M 22 720 (M 21 5) x3) 21 5) + 1))) H (fun M8 H => ?_)
  refine R_iconst (dX1_take_0 38 rfl) rfl ?_
  refine R_istore (i := 4) (ls' := [some (.inr (.inr (some (ad 21)))), none, some (.inr (.inr (some (ad 3)))), some (.inl x3), some (.inl 0), none]) (dX1_take_0 39 rfl) (Nat.le_of_ble_eq_true rfl) (Nat.le_of_ble_eq_true rfl) rfl rfl ?_
  exact t_X1_take_L76 l g ad S hS x3  100000 0 M8 H 
def f_X1_find_L36 : Nat → Int → Mem → Option (Int × Mem)
  | 0, _, _ => none
  | n + 1, x6, M =>
    if x6 < 720 then
      (f_X1_isLawful x6 M).bind fun r15 =>
      if r15 = 0 then
        if f_J6_bitCount_0f7a4 (-1) = 1 then
          f_X1_find_L36 n (w32 (x6 + 1)) (mset M 21 6 (b_or (M 21 6) (-1)))
        else
          f_X1_find_L36 n (w32 (x6 + 1)) M
      else
        (f_X0_brokenIn x6 M).bind fun r16 =>
        if r16 = 0 then
          ob (f_X1_take x6 M) fun r17 M18 =>
          f_X1_find_L36 n (w32 (x6 + 1)) M18
        else
          if f_J6_bitCount_0f7a4 r16 = 1 then
            f_X1_find_L36 n (w32 (x6 + 1)) (mset M 21 6 (b_or (M 21 6) r16))
          else
            f_X1_find_L36 n (w32 (x6 + 1)) M
    else
      some (0, M)
set_option maxHeartbeats 4000000 in
theorem t_X1_find_L36 (l : Launch) (g : GG) (ad : Nat → Nat) (S : SW) (hS : q_ag 0 38 ad S) {r : Int} {M' : Mem} : ∀ (n : Nat) (x6 : Int) (M : Mem), f_X1_find_L36 n x6 M = some (r, M') → RW l g MX1_find (q_rm 5 0 0) 0 0 (q_ex S none M') 36 S M 0 0 [some (.inr (.inr (some (ad 21)))), some (.inr (.inr (some (ad 1)))), some (.inr (.inr (some (ad 3)))), some (.inr (.inr (some (ad 7)))), none, none, some (.inl x6), none] [] := by
  intro n
  induction n with
  | zero => intro x6 M H; exact absurd H (by simp [f_X1_find_L36])
  | succ n ih =>
    intro x6 M H
    rw [f_X1_find_L36] at H
    refine R_iload (i := 6) (dX1_find 19 rfl) rfl ?_
    refine R_sipush (dX1_find 20 rfl) rfl rfl ?_
    refine R_icmp_ge (tgt := 109) (dX1_find 21 rfl) (by decide) (fun hc => ?_) (fun hc => ?_)
    · have H := ite_F H hc
      exact R_vret rfl (Nat.zero_le _) (Nat.zero_le _) (dX1_find 54 rfl) ⟨rfl, rfl, (Prod.mk.inj (Option.some.inj H)).2⟩
    · have H := ite_T H hc
      refine R_aload_n (i := 0) (dX1_find 22 rfl) rfl rfl ?_
      refine R_aload_n (i := 2) (dX1_find 23 rfl) rfl rfl ?_
      refine R_iload (i := 6) (dX1_find 24 rfl) rfl ?_
      obtain ⟨r15, hr, H⟩ := op_E H
      refine R_cV (st' := [.inl r15]) [.inr (.inr (some (ad 3))), .inl x6] [] (t_X1_isLawful l g ad S _ hS   x6 hr) msX1_isLawful (Or.inl tb_752) (Or.inl ⟨21, 1, _, _, _, (cl21 hS), rfl⟩) ⟨Nat.le_of_ble_eq_true rfl, Nat.le_of_ble_eq_true rfl⟩ (Nat.zero_le _) (Nat.zero_le _) rfl rfl (Nat.le_of_ble_eq_true rfl) rfl (dX1_find 25 rfl) ?_
      refine R_if_eq (tgt := 64) (dX1_find 26 rfl) (by decide) (fun hc => ?_) (fun hc => ?_)
      · have H := ite_T H hc
        refine R_iconst (dX1_find 32 rfl) rfl ?_
        refine R_istore (i := 7) (ls' := [some (.inr (.inr (some (ad 21)))), some (.inr (.inr (some (ad 1)))), some (.inr (.inr (some (ad 3)))), some (.inr (.inr (some (ad 7)))), none, none, some (.inl x6), some (.inl (-1))]) (dX1_find 33 rfl) (Nat.le_of_ble_eq_true rfl) (Nat.le_of_ble_eq_true rfl) rfl rfl ?_
        refine R_iload (i := 7) (dX1_find 34 rfl) rfl ?_
        refine R_if_ne (tgt := 83) (dX1_find 35 rfl) (by decide) (fun _ => ?_) (fun hc => absurd hc (by decide))
        refine R_iload (i := 7) (dX1_find 42 rfl) rfl ?_
        refine R_cS (st' := [.inl (f_J6_bitCount_0f7a4 (-1))]) [.inl (-1)] [] (t_J6_bitCount_0f7a4 l g S _   (-1)) msJ6_bitCount_0f7a4 (Or.inl tb_748) ⟨Nat.le_of_ble_eq_true rfl, Nat.le_of_ble_eq_true rfl⟩ (Nat.zero_le _) (Nat.zero_le _) rfl rfl (Nat.le_of_ble_eq_true rfl) rfl (dX1_find 43 rfl) ?_
        refine R_iconst (dX1_find 44 rfl) rfl ?_
        refine R_icmp_ne (tgt := 103) (dX1_find 45 rfl) (by decide) (fun hc => ?_) (fun hc => ?_)
        · have H := ite_F H hc
          refine R_iinc (i := 6) (ls' := [some (.inr (.inr (some (ad 21)))), some (.inr (.inr (some (ad 1)))), some (.inr (.inr (some (ad 3)))), some (.inr (.inr (some (ad 7)))), none, none, some (.inl (w32 (x6 + 1))), some (.inl (-1))]) (dX1_find 52 rfl) rfl (Nat.le_of_ble_eq_true rfl) rfl rfl ?_
          refine R_goto (tgt := 36) (dX1_find 53 rfl) (by decide) ?_
          refine R_mask [true, true, true, true, false, false, true, false] rfl ?_
          exact ih (w32 (x6 + 1)) M H
        · have H := ite_T H hc
          refine R_aload_n (i := 0) (dX1_find 46 rfl) rfl rfl ?_
          refine R_dup rfl (dX1_find 47 rfl) ?_
          refine R_getI cgX1 21 (cl21 hS) 6 (Nat.le_of_ble_eq_true rfl) rfl (Or.inl tb_466) (dX1_find 48 rfl) ?_
          refine R_iload (i := 7) (dX1_find 49 rfl) rfl ?_
          refine R_ior (dX1_find 50 rfl) ?_
          refine R_putI cgX1 21 (cl21 hS) 6 (Nat.le_of_ble_eq_true rfl) rfl rfl rfl rfl (Or.inl tb_466) (dX1_find 51 rfl) ?_
          refine R_iinc (i := 6) (ls' := [some (.inr (.inr (some (ad 21)))), some (.inr (.inr (some (ad 1)))), some (.inr (.inr (some (ad 3)))), some (.inr (.inr (some (ad 7)))), none, none, some (.inl (w32 (x6 + 1))), some (.inl (-1))]) (dX1_find 52 rfl) rfl (Nat.le_of_ble_eq_true rfl) rfl rfl ?_
          refine R_goto (tgt := 36) (dX1_find 53 rfl) (by decide) ?_
          refine R_mask [true, true, true, true, false, false, true, false] rfl ?_
          exact ih (w32 (x6 + 1)) (mset M 21 6 (b_or (M 21 6) (-1))) H
      · have H := ite_F H hc
        refine R_aload_n (i := 3) (dX1_find 27 rfl) rfl rfl ?_
        refine R_aload_n (i := 2) (dX1_find 28 rfl) rfl rfl ?_
        refine R_iload (i := 6) (dX1_find 29 rfl) rfl ?_
        obtain ⟨r16, hr, H⟩ := op_E H
        refine R_cV (st' := [.inl r16]) [.inr (.inr (some (ad 3))), .inl x6] [] (t_X0_brokenIn l g ad S _ hS   x6 hr) msX0_brokenIn (Or.inl tb_761) (Or.inl ⟨7, 0, _, _, _, (cl7 hS), rfl⟩) ⟨Nat.le_of_ble_eq_true rfl, Nat.le_of_ble_eq_true rfl⟩ (Nat.zero_le _) (Nat.zero_le _) rfl rfl (Nat.le_of_ble_eq_true rfl) rfl (dX1_find 30 rfl) ?_
        refine R_goto (tgt := 65) (dX1_find 31 rfl) (by decide) ?_
        refine R_istore (i := 7) (ls' := [some (.inr (.inr (some (ad 21)))), some (.inr (.inr (some (ad 1)))), some (.inr (.inr (some (ad 3)))), some (.inr (.inr (some (ad 7)))), none, none, some (.inl x6), some (.inl r16)]) (dX1_find 33 rfl) (Nat.le_of_ble_eq_true rfl) (Nat.le_of_ble_eq_true rfl) rfl rfl ?_
        refine R_iload (i := 7) (dX1_find 34 rfl) rfl ?_
        refine R_if_ne (tgt := 83) (dX1_find 35 rfl) (by decide) (fun hc => ?_) (fun hc => ?_)
        · have H := ite_F H hc
          refine R_iload (i := 7) (dX1_find 42 rfl) rfl ?_
          refine R_cS (st' := [.inl (f_J6_bitCount_0f7a4 r16)]) [.inl r16] [] (t_J6_bitCount_0f7a4 l g S _   r16) msJ6_bitCount_0f7a4 (Or.inl tb_748) ⟨Nat.le_of_ble_eq_true rfl, Nat.le_of_ble_eq_true rfl⟩ (Nat.zero_le _) (Nat.zero_le _) rfl rfl (Nat.le_of_ble_eq_true rfl) rfl (dX1_find 43 rfl) ?_
          refine R_iconst (dX1_find 44 rfl) rfl ?_
          refine R_icmp_ne (tgt := 103) (dX1_find 45 rfl) (by decide) (fun hc => ?_) (fun hc => ?_)
          · have H := ite_F H hc
            refine R_iinc (i := 6) (ls' := [some (.inr (.inr (some (ad 21)))), some (.inr (.inr (some (ad 1)))), some (.inr (.inr (some (ad 3)))), some (.inr (.inr (some (ad 7)))), none, none, some (.inl (w32 (x6 + 1))), some (.inl r16)]) (dX1_find 52 rfl) rfl (Nat.le_of_ble_eq_true rfl) rfl rfl ?_
            refine R_goto (tgt := 36) (dX1_find 53 rfl) (by decide) ?_
            refine R_mask [true, true, true, true, false, false, true, false] rfl ?_
            exact ih (w32 (x6 + 1)) M H
          · have H := ite_T H hc
            refine R_aload_n (i := 0) (dX1_find 46 rfl) rfl rfl ?_
            refine R_dup rfl (dX1_find 47 rfl) ?_
            refine R_getI cgX1 21 (cl21 hS) 6 (Nat.le_of_ble_eq_true rfl) rfl (Or.inl tb_466) (dX1_find 48 rfl) ?_
            refine R_iload (i := 7) (dX1_find 49 rfl) rfl ?_
            refine R_ior (dX1_find 50 rfl) ?_
            refine R_putI cgX1 21 (cl21 hS) 6 (Nat.le_of_ble_eq_true rfl) rfl rfl rfl rfl (Or.inl tb_466) (dX1_find 51 rfl) ?_
            refine R_iinc (i := 6) (ls' := [some (.inr (.inr (some (ad 21)))), some (.inr (.inr (some (ad 1)))), some (.inr (.inr (some (ad 3)))), some (.inr (.inr (some (ad 7)))), none, none, some (.inl (w32 (x6 + 1))), some (.inl r16)]) (dX1_find 52 rfl) rfl (Nat.le_of_ble_eq_true rfl) rfl rfl ?_
            refine R_goto (tgt := 36) (dX1_find 53 rfl) (by decide) ?_
            refine R_mask [true, true, true, true, false, false, true, false] rfl ?_
            exact ih (w32 (x6 + 1)) (mset M 21 6 (b_or (M 21 6) r16)) H
        · have H := ite_T H hc
          refine R_aload_n (i := 0) (dX1_find 36 rfl) rfl rfl ?_
          refine R_aload_n (i := 1) (dX1_find 37 rfl) rfl rfl ?_
          refine R_aload_n (i := 2) (dX1_find 38 rfl) rfl rfl ?_
          refine R_iload (i := 6) (dX1_find 39 rfl) rfl ?_
          obtain ⟨r17, M18, hr, H⟩ := ob_E H
          refine R_cV (st' := []) [.inr (.inr (some (ad 1))), .inr (.inr (some (ad 3))), .inl x6] [] (t_X1_take l g ad S _ hS   x6 hr) msX1_take (Or.inl tb_771) (Or.inl ⟨21, 1, _, _, _, (cl21 hS), rfl⟩) ⟨Nat.le_of_ble_eq_true rfl, Nat.le_of_ble_eq_true rfl⟩ (Nat.zero_le _) (Nat.zero_le _) rfl rfl (Nat.le_of_ble_eq_true rfl) rfl (dX1_find 40 rfl) ?_
          refine R_goto (tgt := 103) (dX1_find 41 rfl) (by decide) ?_
          refine R_iinc (i := 6) (ls' := [some (.inr (.inr (some (ad 21)))), some (.inr (.inr (some (ad 1)))), some (.inr (.inr (some (ad 3)))), some (.inr (.inr (some (ad 7)))), none, none, some (.inl (w32 (x6 + 1))), some (.inl r16)]) (dX1_find 52 rfl) rfl (Nat.le_of_ble_eq_true rfl) rfl rfl ?_
          refine R_goto (tgt := 36) (dX1_find 53 rfl) (by decide) ?_
          refine R_mask [true, true, true, true, false, false, true, false] rfl ?_
          exact ih (w32 (x6 + 1)) M18 H
def f_X1_find (x5 : Int) (M : Mem) : Option (Int × Mem) :=
  ob (f_X1_clear 23 36 (mset (mset M 21 5 0) 21 6 0)) fun r9 M10 =>
  ob (f_X1_clear 24 640 M10) fun r11 M12 =>
  ob (f_X1_allow x5 M12) fun r13 M14 =>
  f_X1_find_L36
    100000 0 M14
set_option maxHeartbeats 4000000 in
theorem t_X1_find (l : Launch) (g : GG) (ad : Nat → Nat) (S : SW) (M : Mem) (hS : q_ag 0 38 ad S) (x5 : Int) {r : Int} {M' : Mem} (H : f_X1_find x5 M = some (r, M')) : CT l g MX1_find 5 0 0 S M [.inr (.inr (some (ad 21))), .inr (.inr (some (ad 1))), .inr (.inr (some (ad 3))), .inr (.inr (some (ad 7))), .inr (.inr (some (ad 12))), .inl x5] (q_ex S none M') := by
  unfold f_X1_find at H
  refine CT_of (ls0 := [some (.inr (.inr (some (ad 21)))), some (.inr (.inr (some (ad 1)))), some (.inr (.inr (some (ad 3)))), some (.inr (.inr (some (ad 7)))), some (.inr (.inr (some (ad 12)))), some (.inl x5), none, none]) (by decide +kernel) (Nat.le_of_ble_eq_true rfl) rfl ?_
  refine R_aload_n (i := 0) (dX1_find 0 rfl) rfl rfl ?_
  refine R_iconst (dX1_find 1 rfl) rfl ?_
  refine R_putI cgX1 21 (cl21 hS) 5 (Nat.le_of_ble_eq_true rfl) rfl rfl rfl rfl (Or.inl tb_464) (dX1_find 2 rfl) ?_
  refine R_aload_n (i := 0) (dX1_find 3 rfl) rfl rfl ?_
  refine R_iconst (dX1_find 4 rfl) rfl ?_
  refine R_putI cgX1 21 (cl21 hS) 6 (Nat.le_of_ble_eq_true rfl) rfl rfl rfl rfl (Or.inl tb_466) (dX1_find 5 rfl) ?_
  refine R_aload_n (i := 0) (dX1_find 6 rfl) rfl rfl ?_
  refine R_getR cgX1 21 (cl21 hS) 1 (Nat.le_of_ble_eq_true rfl) rfl (Or.inl tb_460) (dX1_find 7 rfl) ?_
  obtain ⟨r9, M10, hr, H⟩ := ob_E H
  refine R_cS (st' := []) [.inr (.inr (some (ad 23)))] [] (t_X1_clear l g S _  23 36 (cl23 hS) (Nat.le_of_ble_eq_true rfl)  hr) msX1_clear (Or.inl tb_740) ⟨Nat.le_of_ble_eq_true rfl, Nat.le_of_ble_eq_true rfl⟩ (Nat.zero_le _) (Nat.zero_le _) rfl rfl (Nat.le_of_ble_eq_true rfl) rfl (dX1_find 8 rfl) ?_
  refine R_aload_n (i := 0) (dX1_find 9 rfl) rfl rfl ?_
  refine R_getR cgX1 21 (cl21 hS) 2 (Nat.le_of_ble_eq_true rfl) rfl (Or.inl tb_461) (dX1_find 10 rfl) ?_
  obtain ⟨r11, M12, hr, H⟩ := ob_E H
  refine R_cS (st' := []) [.inr (.inr (some (ad 24)))] [] (t_X1_clear l g S _  24 640 (cl24 hS) (Nat.le_of_ble_eq_true rfl)  hr) msX1_clear (Or.inl tb_740) ⟨Nat.le_of_ble_eq_true rfl, Nat.le_of_ble_eq_true rfl⟩ (Nat.zero_le _) (Nat.zero_le _) rfl rfl (Nat.le_of_ble_eq_true rfl) rfl (dX1_find 11 rfl) ?_
  refine R_aload_n (i := 0) (dX1_find 12 rfl) rfl rfl ?_
  refine R_aload_n (i := 2) (dX1_find 13 rfl) rfl rfl ?_
  refine R_aload (i := 4) (dX1_find 14 rfl) rfl ?_
  refine R_iload (i := 5) (dX1_find 15 rfl) rfl ?_
  obtain ⟨r13, M14, hr, H⟩ := ob_E H
  refine R_cV (st' := []) [.inr (.inr (some (ad 3))), .inr (.inr (some (ad 12))), .inl x5] [] (t_X1_allow l g ad S _ hS   x5 hr) msX1_allow (Or.inl tb_743) (Or.inl ⟨21, 1, _, _, _, (cl21 hS), rfl⟩) ⟨Nat.le_of_ble_eq_true rfl, Nat.le_of_ble_eq_true rfl⟩ (Nat.zero_le _) (Nat.zero_le _) rfl rfl (Nat.le_of_ble_eq_true rfl) rfl (dX1_find 16 rfl) ?_
  refine R_iconst (dX1_find 17 rfl) rfl ?_
  refine R_istore (i := 6) (ls' := [some (.inr (.inr (some (ad 21)))), some (.inr (.inr (some (ad 1)))), some (.inr (.inr (some (ad 3)))), some (.inr (.inr (some (ad 7)))), some (.inr (.inr (some (ad 12)))), some (.inl x5), some (.inl 0), none]) (dX1_find 18 rfl) (Nat.le_of_ble_eq_true rfl) (Nat.le_of_ble_eq_true rfl) rfl rfl ?_
  refine R_mask [true, true, true, true, false, false, true, false] rfl ?_
  exact t_X1_find_L36 l g ad S hS  100000 0 M14 H 
def f_X1_anyBy_L11 : Nat → Int → Mem → Option (Int × Mem)
  | 0, _, _ => none
  | n + 1, x5, M =>
    if x5 < 720 then
      (f_X1_isLawful x5 M).bind fun r21 =>
      if r21 = 0 then
        f_X1_anyBy_L11 n (w32 (x5 + 1)) M
      else
        (f_X0_brokenIn x5 M).bind fun r22 =>
        if r22 = 0 then
          some (1, M)
        else
          f_X1_anyBy_L11 n (w32 (x5 + 1)) M
    else
      some (0, M)
set_option maxHeartbeats 4000000 in
theorem t_X1_anyBy_L11 (l : Launch) (g : GG) (ad : Nat → Nat) (S : SW) (hS : q_ag 0 38 ad S) {r : Int} {M' : Mem} : ∀ (n : Nat) (x5 : Int) (M : Mem), f_X1_anyBy_L11 n x5 M = some (r, M') → RW l g MX1_anyBy (q_rm 5 0 0) 0 0 (q_ex S (some (.inl r)) M') 11 S M 0 0 [some (.inr (.inr (some (ad 21)))), some (.inr (.inr (some (ad 3)))), some (.inr (.inr (some (ad 7)))), none, none, some (.inl x5)] [] := by
  intro n
  induction n with
  | zero => intro x5 M H; exact absurd H (by simp [f_X1_anyBy_L11])
  | succ n ih =>
    intro x5 M H
    rw [f_X1_anyBy_L11] at H
    refine R_iload (i := 5) (dX1_anyBy 7 rfl) rfl ?_
    refine R_sipush (dX1_anyBy 8 rfl) rfl rfl ?_
    refine R_icmp_ge (tgt := 47) (dX1_anyBy 9 rfl) (by decide) (fun hc => ?_) (fun hc => ?_)
    · have H := ite_F H hc
      refine R_iconst (dX1_anyBy 24 rfl) rfl ?_
      exact R_iret rfl (by decide +kernel) (Nat.zero_le _) (Nat.zero_le _) (dX1_anyBy 25 rfl) ⟨congrArg (fun z => some (Sum.inl z)) (Prod.mk.inj (Option.some.inj H)).1, rfl, (Prod.mk.inj (Option.some.inj H)).2⟩
    · have H := ite_T H hc
      refine R_aload_n (i := 0) (dX1_anyBy 10 rfl) rfl rfl ?_
      refine R_aload_n (i := 1) (dX1_anyBy 11 rfl) rfl rfl ?_
      refine R_iload (i := 5) (dX1_anyBy 12 rfl) rfl ?_
      obtain ⟨r21, hr, H⟩ := op_E H
      refine R_cV (st' := [.inl r21]) [.inr (.inr (some (ad 3))), .inl x5] [] (t_X1_isLawful l g ad S _ hS   x5 hr) msX1_isLawful (Or.inl tb_752) (Or.inl ⟨21, 1, _, _, _, (cl21 hS), rfl⟩) ⟨Nat.le_of_ble_eq_true rfl, Nat.le_of_ble_eq_true rfl⟩ (Nat.zero_le _) (Nat.zero_le _) rfl rfl (Nat.le_of_ble_eq_true rfl) rfl (dX1_anyBy 13 rfl) ?_
      refine R_if_eq (tgt := 41) (dX1_anyBy 14 rfl) (by decide) (fun hc => ?_) (fun hc => ?_)
      · have H := ite_T H hc
        refine R_iinc (i := 5) (ls' := [some (.inr (.inr (some (ad 21)))), some (.inr (.inr (some (ad 3)))), some (.inr (.inr (some (ad 7)))), none, none, some (.inl (w32 (x5 + 1)))]) (dX1_anyBy 22 rfl) rfl (Nat.le_of_ble_eq_true rfl) rfl rfl ?_
        refine R_goto (tgt := 11) (dX1_anyBy 23 rfl) (by decide) ?_
        exact ih (w32 (x5 + 1)) M H
      · have H := ite_F H hc
        refine R_aload_n (i := 2) (dX1_anyBy 15 rfl) rfl rfl ?_
        refine R_aload_n (i := 1) (dX1_anyBy 16 rfl) rfl rfl ?_
        refine R_iload (i := 5) (dX1_anyBy 17 rfl) rfl ?_
        obtain ⟨r22, hr, H⟩ := op_E H
        refine R_cV (st' := [.inl r22]) [.inr (.inr (some (ad 3))), .inl x5] [] (t_X0_brokenIn l g ad S _ hS   x5 hr) msX0_brokenIn (Or.inl tb_761) (Or.inl ⟨7, 0, _, _, _, (cl7 hS), rfl⟩) ⟨Nat.le_of_ble_eq_true rfl, Nat.le_of_ble_eq_true rfl⟩ (Nat.zero_le _) (Nat.zero_le _) rfl rfl (Nat.le_of_ble_eq_true rfl) rfl (dX1_anyBy 18 rfl) ?_
        refine R_if_ne (tgt := 41) (dX1_anyBy 19 rfl) (by decide) (fun hc => ?_) (fun hc => ?_)
        · have H := ite_F H hc
          refine R_iinc (i := 5) (ls' := [some (.inr (.inr (some (ad 21)))), some (.inr (.inr (some (ad 3)))), some (.inr (.inr (some (ad 7)))), none, none, some (.inl (w32 (x5 + 1)))]) (dX1_anyBy 22 rfl) rfl (Nat.le_of_ble_eq_true rfl) rfl rfl ?_
          refine R_goto (tgt := 11) (dX1_anyBy 23 rfl) (by decide) ?_
          exact ih (w32 (x5 + 1)) M H
        · have H := ite_T H hc
          refine R_iconst (dX1_anyBy 20 rfl) rfl ?_
          exact R_iret rfl (by decide +kernel) (Nat.zero_le _) (Nat.zero_le _) (dX1_anyBy 21 rfl) ⟨congrArg (fun z => some (Sum.inl z)) (Prod.mk.inj (Option.some.inj H)).1, rfl, (Prod.mk.inj (Option.some.inj H)).2⟩
def f_X1_anyBy (x4 : Int) (M : Mem) : Option (Int × Mem) :=
  ob (f_X1_allow x4 M) fun r19 M20 =>
  f_X1_anyBy_L11
    100000 0 M20
set_option maxHeartbeats 4000000 in
theorem t_X1_anyBy (l : Launch) (g : GG) (ad : Nat → Nat) (S : SW) (M : Mem) (hS : q_ag 0 38 ad S) (x4 : Int) {r : Int} {M' : Mem} (H : f_X1_anyBy x4 M = some (r, M')) : CT l g MX1_anyBy 5 0 0 S M [.inr (.inr (some (ad 21))), .inr (.inr (some (ad 3))), .inr (.inr (some (ad 7))), .inr (.inr (some (ad 12))), .inl x4] (q_ex S (some (.inl r)) M') := by
  unfold f_X1_anyBy at H
  refine CT_of (ls0 := [some (.inr (.inr (some (ad 21)))), some (.inr (.inr (some (ad 3)))), some (.inr (.inr (some (ad 7)))), some (.inr (.inr (some (ad 12)))), some (.inl x4), none]) (by decide +kernel) (Nat.le_of_ble_eq_true rfl) rfl ?_
  refine R_aload_n (i := 0) (dX1_anyBy 0 rfl) rfl rfl ?_
  refine R_aload_n (i := 1) (dX1_anyBy 1 rfl) rfl rfl ?_
  refine R_aload_n (i := 3) (dX1_anyBy 2 rfl) rfl rfl ?_
  refine R_iload (i := 4) (dX1_anyBy 3 rfl) rfl ?_
  obtain ⟨r19, M20, hr, H⟩ := ob_E H
  refine R_cV (st' := []) [.inr (.inr (some (ad 3))), .inr (.inr (some (ad 12))), .inl x4] [] (t_X1_allow l g ad S _ hS   x4 hr) msX1_allow (Or.inl tb_743) (Or.inl ⟨21, 1, _, _, _, (cl21 hS), rfl⟩) ⟨Nat.le_of_ble_eq_true rfl, Nat.le_of_ble_eq_true rfl⟩ (Nat.zero_le _) (Nat.zero_le _) rfl rfl (Nat.le_of_ble_eq_true rfl) rfl (dX1_anyBy 4 rfl) ?_
  refine R_iconst (dX1_anyBy 5 rfl) rfl ?_
  refine R_istore (i := 5) (ls' := [some (.inr (.inr (some (ad 21)))), some (.inr (.inr (some (ad 3)))), some (.inr (.inr (some (ad 7)))), some (.inr (.inr (some (ad 12)))), some (.inl x4), some (.inl 0)]) (dX1_anyBy 6 rfl) (Nat.le_of_ble_eq_true rfl) (Nat.le_of_ble_eq_true rfl) rfl rfl ?_
  refine R_mask [true, true, true, false, false, true] rfl ?_
  exact t_X1_anyBy_L11 l g ad S hS  100000 0 M20 H 
def f_X1_tongueOf (x1 : Int) (M : Mem) : Int :=
  rd 720 (M 22) x1
set_option maxHeartbeats 4000000 in
theorem t_X1_tongueOf (l : Launch) (g : GG) (ad : Nat → Nat) (S : SW) (M : Mem) (hS : q_ag 0 38 ad S) (x1 : Int) : CT l g MX1_tongueOf 2 0 0 S M [.inr (.inr (some (ad 21))), .inl x1] (q_ex S (some (.inl (f_X1_tongueOf x1 M))) M) := by
  obtain ⟨r, H⟩ : ∃ r, f_X1_tongueOf x1 M = r := ⟨_, rfl⟩
  rw [H]
  unfold f_X1_tongueOf at H
  refine CT_of (ls0 := [some (.inr (.inr (some (ad 21)))), some (.inl x1)]) (by decide +kernel) (Nat.le_of_ble_eq_true rfl) rfl ?_
  refine R_aload_n (i := 0) (dX1_tongueOf 0 rfl) rfl rfl ?_
  refine R_getR cgX1 21 (cl21 hS) 0 (Nat.le_of_ble_eq_true rfl) rfl (Or.inl tb_459) (dX1_tongueOf 1 rfl) ?_
  refine R_iload_n (i := 1) (dX1_tongueOf 2 rfl) rfl rfl ?_
  refine R_cS (st' := [.inl (rd 720 (M 22) x1)]) [.inr (.inr (some (ad 22))), .inl x1] [] (t_at l g S _ 22 (cl22 hS) (Nat.le_of_ble_eq_true rfl) x1) msX9_at (Or.inr ⟨_, tb_760⟩) ⟨Nat.le_of_ble_eq_true rfl, Nat.le_of_ble_eq_true rfl⟩ (Nat.zero_le _) (Nat.zero_le _) rfl rfl (Nat.le_of_ble_eq_true rfl) rfl (dX1_tongueOf 3 rfl) ?_
  exact R_iret rfl rfl (Nat.zero_le _) (Nat.zero_le _) (dX1_tongueOf 4 rfl) ⟨congrArg (fun z => some (Sum.inl z)) H, rfl, rfl⟩
def f_X1_meaning (x1 : Int) (x2 : Int) (M : Mem) : Int :=
  rd 36 (M 23) (w32 ((w32 (x1 * 6)) + x2))
set_option maxHeartbeats 4000000 in
theorem t_X1_meaning (l : Launch) (g : GG) (ad : Nat → Nat) (S : SW) (M : Mem) (hS : q_ag 0 38 ad S) (x1 : Int) (x2 : Int) : CT l g MX1_meaning 2 0 0 S M [.inr (.inr (some (ad 21))), .inl x1, .inl x2] (q_ex S (some (.inl (f_X1_meaning x1 x2 M))) M) := by
  obtain ⟨r, H⟩ : ∃ r, f_X1_meaning x1 x2 M = r := ⟨_, rfl⟩
  rw [H]
  unfold f_X1_meaning at H
  refine CT_of (ls0 := [some (.inr (.inr (some (ad 21)))), some (.inl x1), some (.inl x2)]) (by decide +kernel) (Nat.le_of_ble_eq_true rfl) rfl ?_
  refine R_aload_n (i := 0) (dX1_meaning 0 rfl) rfl rfl ?_
  refine R_getR cgX1 21 (cl21 hS) 1 (Nat.le_of_ble_eq_true rfl) rfl (Or.inl tb_460) (dX1_meaning 1 rfl) ?_
  refine R_iload_n (i := 1) (dX1_meaning 2 rfl) rfl rfl ?_
  refine R_bipush (dX1_meaning 3 rfl) rfl rfl ?_
  refine R_imul (dX1_meaning 4 rfl) ?_
  refine R_iload_n (i := 2) (dX1_meaning 5 rfl) rfl rfl ?_
  refine R_iadd (dX1_meaning 6 rfl) ?_
  refine R_cS (st' := [.inl (rd 36 (M 23) (w32 ((w32 (x1 * 6)) + x2)))]) [.inr (.inr (some (ad 23))), .inl (w32 ((w32 (x1 * 6)) + x2))] [] (t_at l g S _ 23 (cl23 hS) (Nat.le_of_ble_eq_true rfl) (w32 ((w32 (x1 * 6)) + x2))) msX9_at (Or.inr ⟨_, tb_760⟩) ⟨Nat.le_of_ble_eq_true rfl, Nat.le_of_ble_eq_true rfl⟩ (Nat.zero_le _) (Nat.zero_le _) rfl rfl (Nat.le_of_ble_eq_true rfl) rfl (dX1_meaning 7 rfl) ?_
  exact R_iret rfl rfl (Nat.zero_le _) (Nat.zero_le _) (dX1_meaning 8 rfl) ⟨congrArg (fun z => some (Sum.inl z)) H, rfl, rfl⟩
def f_X1_meaningsOf_L4 (x1 : Int) (M : Mem) : Nat → Int → Int → Option Int
  | 0, _, _ => none
  | n + 1, x2, x3 =>
    if x3 < 6 then
      if 0 < f_X1_meaning x1 x3 M then
        f_X1_meaningsOf_L4 x1 M n (w32 (x2 + 1)) (w32 (x3 + 1))
      else
        f_X1_meaningsOf_L4 x1 M n x2 (w32 (x3 + 1))
    else
      some x2
set_option maxHeartbeats 4000000 in
theorem t_X1_meaningsOf_L4 (l : Launch) (g : GG) (ad : Nat → Nat) (S : SW) (M : Mem) (hS : q_ag 0 38 ad S) (x1 : Int) {r : Int} : ∀ (n : Nat) (x2 : Int) (x3 : Int), f_X1_meaningsOf_L4 x1 M n x2 x3 = some r → RW l g MX1_meaningsOf (q_rm 3 0 0) 0 0 (q_ex S (some (.inl r)) M) 4 S M 0 0 [some (.inr (.inr (some (ad 21)))), some (.inl x1), some (.inl x2), some (.inl x3)] [] := by
  intro n
  induction n with
  | zero => intro x2 x3 H; exact absurd H (by simp [f_X1_meaningsOf_L4])
  | succ n ih =>
    intro x2 x3 H
    rw [f_X1_meaningsOf_L4] at H
    refine R_iload_n (i := 3) (dX1_meaningsOf 4 rfl) rfl rfl ?_
    refine R_bipush (dX1_meaningsOf 5 rfl) rfl rfl ?_
    refine R_icmp_ge (tgt := 28) (dX1_meaningsOf 6 rfl) (by decide) (fun hc => ?_) (fun hc => ?_)
    · have H := ite_F H hc
      refine R_iload_n (i := 2) (dX1_meaningsOf 15 rfl) rfl rfl ?_
      exact R_iret rfl rfl (Nat.zero_le _) (Nat.zero_le _) (dX1_meaningsOf 16 rfl) ⟨congrArg (fun z => some (Sum.inl z)) (Option.some.inj H), rfl, rfl⟩
    · have H := ite_T H hc
      refine R_aload_n (i := 0) (dX1_meaningsOf 7 rfl) rfl rfl ?_
      refine R_iload_n (i := 1) (dX1_meaningsOf 8 rfl) rfl rfl ?_
      refine R_iload_n (i := 3) (dX1_meaningsOf 9 rfl) rfl rfl ?_
      refine R_cV (st' := [.inl (f_X1_meaning x1 x3 M)]) [.inl x1, .inl x3] [] (t_X1_meaning l g ad S _ hS   x1 x3) msX1_meaning (Or.inl tb_811) (Or.inl ⟨21, 1, _, _, _, (cl21 hS), rfl⟩) ⟨Nat.le_of_ble_eq_true rfl, Nat.le_of_ble_eq_true rfl⟩ (Nat.zero_le _) (Nat.zero_le _) rfl rfl (Nat.le_of_ble_eq_true rfl) rfl (dX1_meaningsOf 10 rfl) ?_
      refine R_if_le (tgt := 22) (dX1_meaningsOf 11 rfl) (by decide) (fun hc => ?_) (fun hc => ?_)
      · have H := ite_F H hc
        refine R_iinc (i := 3) (ls' := [some (.inr (.inr (some (ad 21)))), some (.inl x1), some (.inl x2), some (.inl (w32 (x3 + 1)))]) (dX1_meaningsOf 13 rfl) rfl (Nat.le_of_ble_eq_true rfl) rfl rfl ?_
        refine R_goto (tgt := 4) (dX1_meaningsOf 14 rfl) (by decide) ?_
        exact ih x2 (w32 (x3 + 1)) H
      · have H := ite_T H hc
        refine R_iinc (i := 2) (ls' := [some (.inr (.inr (some (ad 21)))), some (.inl x1), some (.inl (w32 (x2 + 1))), some (.inl x3)]) (dX1_meaningsOf 12 rfl) rfl (Nat.le_of_ble_eq_true rfl) rfl rfl ?_
        refine R_iinc (i := 3) (ls' := [some (.inr (.inr (some (ad 21)))), some (.inl x1), some (.inl (w32 (x2 + 1))), some (.inl (w32 (x3 + 1)))]) (dX1_meaningsOf 13 rfl) rfl (Nat.le_of_ble_eq_true rfl) rfl rfl ?_
        refine R_goto (tgt := 4) (dX1_meaningsOf 14 rfl) (by decide) ?_
        exact ih (w32 (x2 + 1)) (w32 (x3 + 1)) H
def f_X1_meaningsOf (x1 : Int) (M : Mem) : Option Int :=
  f_X1_meaningsOf_L4
    x1 M 100000 0 0
set_option maxHeartbeats 4000000 in
theorem t_X1_meaningsOf (l : Launch) (g : GG) (ad : Nat → Nat) (S : SW) (M : Mem) (hS : q_ag 0 38 ad S) (x1 : Int) {r : Int} (H : f_X1_meaningsOf x1 M = some r) : CT l g MX1_meaningsOf 3 0 0 S M [.inr (.inr (some (ad 21))), .inl x1] (q_ex S (some (.inl r)) M) := by
  unfold f_X1_meaningsOf at H
  refine CT_of (ls0 := [some (.inr (.inr (some (ad 21)))), some (.inl x1), none, none]) (by decide +kernel) (Nat.le_of_ble_eq_true rfl) rfl ?_
  refine R_iconst (dX1_meaningsOf 0 rfl) rfl ?_
  refine R_istore_n (i := 2) (ls' := [some (.inr (.inr (some (ad 21)))), some (.inl x1), some (.inl 0), none]) (dX1_meaningsOf 1 rfl) rfl (Nat.le_of_ble_eq_true rfl) (Nat.le_of_ble_eq_true rfl) rfl rfl ?_
  refine R_iconst (dX1_meaningsOf 2 rfl) rfl ?_
  refine R_istore_n (i := 3) (ls' := [some (.inr (.inr (some (ad 21)))), some (.inl x1), some (.inl 0), some (.inl 0)]) (dX1_meaningsOf 3 rfl) rfl (Nat.le_of_ble_eq_true rfl) (Nat.le_of_ble_eq_true rfl) rfl rfl ?_
  exact t_X1_meaningsOf_L4 l g ad S M hS x1  100000 0 0 H 
def f_X1_having (x1 : Int) (x2 : Int) (M : Mem) : Int :=
  rd 640 (M 24) (w32 ((w32 (x1 * 64)) + x2))
set_option maxHeartbeats 4000000 in
theorem t_X1_having (l : Launch) (g : GG) (ad : Nat → Nat) (S : SW) (M : Mem) (hS : q_ag 0 38 ad S) (x1 : Int) (x2 : Int) : CT l g MX1_having 2 0 0 S M [.inr (.inr (some (ad 21))), .inl x1, .inl x2] (q_ex S (some (.inl (f_X1_having x1 x2 M))) M) := by
  obtain ⟨r, H⟩ : ∃ r, f_X1_having x1 x2 M = r := ⟨_, rfl⟩
  rw [H]
  unfold f_X1_having at H
  refine CT_of (ls0 := [some (.inr (.inr (some (ad 21)))), some (.inl x1), some (.inl x2)]) (by decide +kernel) (Nat.le_of_ble_eq_true rfl) rfl ?_
  refine R_aload_n (i := 0) (dX1_having 0 rfl) rfl rfl ?_
  refine R_getR cgX1 21 (cl21 hS) 2 (Nat.le_of_ble_eq_true rfl) rfl (Or.inl tb_461) (dX1_having 1 rfl) ?_
  refine R_iload_n (i := 1) (dX1_having 2 rfl) rfl rfl ?_
  refine R_bipush (dX1_having 3 rfl) rfl rfl ?_
  refine R_imul (dX1_having 4 rfl) ?_
  refine R_iload_n (i := 2) (dX1_having 5 rfl) rfl rfl ?_
  refine R_iadd (dX1_having 6 rfl) ?_
  refine R_cS (st' := [.inl (rd 640 (M 24) (w32 ((w32 (x1 * 64)) + x2)))]) [.inr (.inr (some (ad 24))), .inl (w32 ((w32 (x1 * 64)) + x2))] [] (t_at l g S _ 24 (cl24 hS) (Nat.le_of_ble_eq_true rfl) (w32 ((w32 (x1 * 64)) + x2))) msX9_at (Or.inr ⟨_, tb_760⟩) ⟨Nat.le_of_ble_eq_true rfl, Nat.le_of_ble_eq_true rfl⟩ (Nat.zero_le _) (Nat.zero_le _) rfl rfl (Nat.le_of_ble_eq_true rfl) rfl (dX1_having 7 rfl) ?_
  exact R_iret rfl rfl (Nat.zero_le _) (Nat.zero_le _) (dX1_having 8 rfl) ⟨congrArg (fun z => some (Sum.inl z)) H, rfl, rfl⟩
def f_X1_withAll_L5 (x1 : Int) (x2 : Int) (M : Mem) : Nat → Int → Int → Option Int
  | 0, _, _ => none
  | n + 1, x3, x4 =>
    if x4 < 64 then
      if b_and x4 x2 = x2 then
        f_X1_withAll_L5 x1 x2 M n (w32 (x3 + (f_X1_having x1 x4 M))) (w32 (x4 + 1))
      else
        f_X1_withAll_L5 x1 x2 M n x3 (w32 (x4 + 1))
    else
      some x3
set_option maxHeartbeats 4000000 in
theorem t_X1_withAll_L5 (l : Launch) (g : GG) (ad : Nat → Nat) (S : SW) (M : Mem) (hS : q_ag 0 38 ad S) (x1 : Int) (x2 : Int) {r : Int} : ∀ (n : Nat) (x3 : Int) (x4 : Int), f_X1_withAll_L5 x1 x2 M n x3 x4 = some r → RW l g MX1_withAll (q_rm 3 0 0) 0 0 (q_ex S (some (.inl r)) M) 5 S M 0 0 [some (.inr (.inr (some (ad 21)))), some (.inl x1), some (.inl x2), some (.inl x3), some (.inl x4)] [] := by
  intro n
  induction n with
  | zero => intro x3 x4 H; exact absurd H (by simp [f_X1_withAll_L5])
  | succ n ih =>
    intro x3 x4 H
    rw [f_X1_withAll_L5] at H
    refine R_iload (i := 4) (dX1_withAll 4 rfl) rfl ?_
    refine R_bipush (dX1_withAll 5 rfl) rfl rfl ?_
    refine R_icmp_ge (tgt := 36) (dX1_withAll 6 rfl) (by decide) (fun hc => ?_) (fun hc => ?_)
    · have H := ite_F H hc
      refine R_iload_n (i := 3) (dX1_withAll 21 rfl) rfl rfl ?_
      exact R_iret rfl rfl (Nat.zero_le _) (Nat.zero_le _) (dX1_withAll 22 rfl) ⟨congrArg (fun z => some (Sum.inl z)) (Option.some.inj H), rfl, rfl⟩
    · have H := ite_T H hc
      refine R_iload (i := 4) (dX1_withAll 7 rfl) rfl ?_
      refine R_iload_n (i := 2) (dX1_withAll 8 rfl) rfl rfl ?_
      refine R_iand (dX1_withAll 9 rfl) ?_
      refine R_iload_n (i := 2) (dX1_withAll 10 rfl) rfl rfl ?_
      refine R_icmp_ne (tgt := 30) (dX1_withAll 11 rfl) (by decide) (fun hc => ?_) (fun hc => ?_)
      · have H := ite_F H hc
        refine R_iinc (i := 4) (ls' := [some (.inr (.inr (some (ad 21)))), some (.inl x1), some (.inl x2), some (.inl x3), some (.inl (w32 (x4 + 1)))]) (dX1_withAll 19 rfl) rfl (Nat.le_of_ble_eq_true rfl) rfl rfl ?_
        refine R_goto (tgt := 5) (dX1_withAll 20 rfl) (by decide) ?_
        exact ih x3 (w32 (x4 + 1)) H
      · have H := ite_T H hc
        refine R_iload_n (i := 3) (dX1_withAll 12 rfl) rfl rfl ?_
        refine R_aload_n (i := 0) (dX1_withAll 13 rfl) rfl rfl ?_
        refine R_iload_n (i := 1) (dX1_withAll 14 rfl) rfl rfl ?_
        refine R_iload (i := 4) (dX1_withAll 15 rfl) rfl ?_
        refine R_cV (st' := [.inl (f_X1_having x1 x4 M), .inl x3]) [.inl x1, .inl x4] [.inl x3] (t_X1_having l g ad S _ hS   x1 x4) msX1_having (Or.inl tb_834) (Or.inl ⟨21, 1, _, _, _, (cl21 hS), rfl⟩) ⟨Nat.le_of_ble_eq_true rfl, Nat.le_of_ble_eq_true rfl⟩ (Nat.zero_le _) (Nat.zero_le _) rfl rfl (Nat.le_of_ble_eq_true rfl) rfl (dX1_withAll 16 rfl) ?_
        refine R_iadd (dX1_withAll 17 rfl) ?_
        refine R_istore_n (i := 3) (ls' := [some (.inr (.inr (some (ad 21)))), some (.inl x1), some (.inl x2), some (.inl (w32 (x3 + (f_X1_having x1 x4 M)))), some (.inl x4)]) (dX1_withAll 18 rfl) rfl (Nat.le_of_ble_eq_true rfl) (Nat.le_of_ble_eq_true rfl) rfl rfl ?_
        refine R_iinc (i := 4) (ls' := [some (.inr (.inr (some (ad 21)))), some (.inl x1), some (.inl x2), some (.inl (w32 (x3 + (f_X1_having x1 x4 M)))), some (.inl (w32 (x4 + 1)))]) (dX1_withAll 19 rfl) rfl (Nat.le_of_ble_eq_true rfl) rfl rfl ?_
        refine R_goto (tgt := 5) (dX1_withAll 20 rfl) (by decide) ?_
        exact ih (w32 (x3 + (f_X1_having x1 x4 M))) (w32 (x4 + 1)) H
def f_X1_withAll (x1 : Int) (x2 : Int) (M : Mem) : Option Int :=
  f_X1_withAll_L5
    x1 x2 M 100000 0 0
set_option maxHeartbeats 4000000 in
theorem t_X1_withAll (l : Launch) (g : GG) (ad : Nat → Nat) (S : SW) (M : Mem) (hS : q_ag 0 38 ad S) (x1 : Int) (x2 : Int) {r : Int} (H : f_X1_withAll x1 x2 M = some r) : CT l g MX1_withAll 3 0 0 S M [.inr (.inr (some (ad 21))), .inl x1, .inl x2] (q_ex S (some (.inl r)) M) := by
  unfold f_X1_withAll at H
  refine CT_of (ls0 := [some (.inr (.inr (some (ad 21)))), some (.inl x1), some (.inl x2), none, none]) (by decide +kernel) (Nat.le_of_ble_eq_true rfl) rfl ?_
  refine R_iconst (dX1_withAll 0 rfl) rfl ?_
  refine R_istore_n (i := 3) (ls' := [some (.inr (.inr (some (ad 21)))), some (.inl x1), some (.inl x2), some (.inl 0), none]) (dX1_withAll 1 rfl) rfl (Nat.le_of_ble_eq_true rfl) (Nat.le_of_ble_eq_true rfl) rfl rfl ?_
  refine R_iconst (dX1_withAll 2 rfl) rfl ?_
  refine R_istore (i := 4) (ls' := [some (.inr (.inr (some (ad 21)))), some (.inl x1), some (.inl x2), some (.inl 0), some (.inl 0)]) (dX1_withAll 3 rfl) (Nat.le_of_ble_eq_true rfl) (Nat.le_of_ble_eq_true rfl) rfl rfl ?_
  exact t_X1_withAll_L5 l g ad S M hS x1 x2  100000 0 0 H 
def f_X1_withAny_L5 (x1 : Int) (x2 : Int) (M : Mem) : Nat → Int → Int → Option Int
  | 0, _, _ => none
  | n + 1, x3, x4 =>
    if x4 < 64 then
      if b_and x4 x2 = 0 then
        f_X1_withAny_L5 x1 x2 M n x3 (w32 (x4 + 1))
      else
        f_X1_withAny_L5 x1 x2 M n (w32 (x3 + (f_X1_having x1 x4 M))) (w32 (x4 + 1))
    else
      some x3
set_option maxHeartbeats 4000000 in
theorem t_X1_withAny_L5 (l : Launch) (g : GG) (ad : Nat → Nat) (S : SW) (M : Mem) (hS : q_ag 0 38 ad S) (x1 : Int) (x2 : Int) {r : Int} : ∀ (n : Nat) (x3 : Int) (x4 : Int), f_X1_withAny_L5 x1 x2 M n x3 x4 = some r → RW l g MX1_withAny (q_rm 3 0 0) 0 0 (q_ex S (some (.inl r)) M) 5 S M 0 0 [some (.inr (.inr (some (ad 21)))), some (.inl x1), some (.inl x2), some (.inl x3), some (.inl x4)] [] := by
  intro n
  induction n with
  | zero => intro x3 x4 H; exact absurd H (by simp [f_X1_withAny_L5])
  | succ n ih =>
    intro x3 x4 H
    rw [f_X1_withAny_L5] at H
    refine R_iload (i := 4) (dX1_withAny 4 rfl) rfl ?_
    refine R_bipush (dX1_withAny 5 rfl) rfl rfl ?_
    refine R_icmp_ge (tgt := 35) (dX1_withAny 6 rfl) (by decide) (fun hc => ?_) (fun hc => ?_)
    · have H := ite_F H hc
      refine R_iload_n (i := 3) (dX1_withAny 20 rfl) rfl rfl ?_
      exact R_iret rfl rfl (Nat.zero_le _) (Nat.zero_le _) (dX1_withAny 21 rfl) ⟨congrArg (fun z => some (Sum.inl z)) (Option.some.inj H), rfl, rfl⟩
    · have H := ite_T H hc
      refine R_iload (i := 4) (dX1_withAny 7 rfl) rfl ?_
      refine R_iload_n (i := 2) (dX1_withAny 8 rfl) rfl rfl ?_
      refine R_iand (dX1_withAny 9 rfl) ?_
      refine R_if_eq (tgt := 29) (dX1_withAny 10 rfl) (by decide) (fun hc => ?_) (fun hc => ?_)
      · have H := ite_T H hc
        refine R_iinc (i := 4) (ls' := [some (.inr (.inr (some (ad 21)))), some (.inl x1), some (.inl x2), some (.inl x3), some (.inl (w32 (x4 + 1)))]) (dX1_withAny 18 rfl) rfl (Nat.le_of_ble_eq_true rfl) rfl rfl ?_
        refine R_goto (tgt := 5) (dX1_withAny 19 rfl) (by decide) ?_
        exact ih x3 (w32 (x4 + 1)) H
      · have H := ite_F H hc
        refine R_iload_n (i := 3) (dX1_withAny 11 rfl) rfl rfl ?_
        refine R_aload_n (i := 0) (dX1_withAny 12 rfl) rfl rfl ?_
        refine R_iload_n (i := 1) (dX1_withAny 13 rfl) rfl rfl ?_
        refine R_iload (i := 4) (dX1_withAny 14 rfl) rfl ?_
        refine R_cV (st' := [.inl (f_X1_having x1 x4 M), .inl x3]) [.inl x1, .inl x4] [.inl x3] (t_X1_having l g ad S _ hS   x1 x4) msX1_having (Or.inl tb_834) (Or.inl ⟨21, 1, _, _, _, (cl21 hS), rfl⟩) ⟨Nat.le_of_ble_eq_true rfl, Nat.le_of_ble_eq_true rfl⟩ (Nat.zero_le _) (Nat.zero_le _) rfl rfl (Nat.le_of_ble_eq_true rfl) rfl (dX1_withAny 15 rfl) ?_
        refine R_iadd (dX1_withAny 16 rfl) ?_
        refine R_istore_n (i := 3) (ls' := [some (.inr (.inr (some (ad 21)))), some (.inl x1), some (.inl x2), some (.inl (w32 (x3 + (f_X1_having x1 x4 M)))), some (.inl x4)]) (dX1_withAny 17 rfl) rfl (Nat.le_of_ble_eq_true rfl) (Nat.le_of_ble_eq_true rfl) rfl rfl ?_
        refine R_iinc (i := 4) (ls' := [some (.inr (.inr (some (ad 21)))), some (.inl x1), some (.inl x2), some (.inl (w32 (x3 + (f_X1_having x1 x4 M)))), some (.inl (w32 (x4 + 1)))]) (dX1_withAny 18 rfl) rfl (Nat.le_of_ble_eq_true rfl) rfl rfl ?_
        refine R_goto (tgt := 5) (dX1_withAny 19 rfl) (by decide) ?_
        exact ih (w32 (x3 + (f_X1_having x1 x4 M))) (w32 (x4 + 1)) H
def f_X1_withAny (x1 : Int) (x2 : Int) (M : Mem) : Option Int :=
  f_X1_withAny_L5
    x1 x2 M 100000 0 0
set_option maxHeartbeats 4000000 in
theorem t_X1_withAny (l : Launch) (g : GG) (ad : Nat → Nat) (S : SW) (M : Mem) (hS : q_ag 0 38 ad S) (x1 : Int) (x2 : Int) {r : Int} (H : f_X1_withAny x1 x2 M = some r) : CT l g MX1_withAny 3 0 0 S M [.inr (.inr (some (ad 21))), .inl x1, .inl x2] (q_ex S (some (.inl r)) M) := by
  unfold f_X1_withAny at H
  refine CT_of (ls0 := [some (.inr (.inr (some (ad 21)))), some (.inl x1), some (.inl x2), none, none]) (by decide +kernel) (Nat.le_of_ble_eq_true rfl) rfl ?_
  refine R_iconst (dX1_withAny 0 rfl) rfl ?_
  refine R_istore_n (i := 3) (ls' := [some (.inr (.inr (some (ad 21)))), some (.inl x1), some (.inl x2), some (.inl 0), none]) (dX1_withAny 1 rfl) rfl (Nat.le_of_ble_eq_true rfl) (Nat.le_of_ble_eq_true rfl) rfl rfl ?_
  refine R_iconst (dX1_withAny 2 rfl) rfl ?_
  refine R_istore (i := 4) (ls' := [some (.inr (.inr (some (ad 21)))), some (.inl x1), some (.inl x2), some (.inl 0), some (.inl 0)]) (dX1_withAny 3 rfl) (Nat.le_of_ble_eq_true rfl) (Nat.le_of_ble_eq_true rfl) rfl rfl ?_
  exact t_X1_withAny_L5 l g ad S M hS x1 x2  100000 0 0 H 
def f_X1_partsInAll_L5 (x1 : Int) (M : Mem) : Nat → Int → Int → Option Int
  | 0, _, _ => none
  | n + 1, x2, x3 =>
    if x3 < 64 then
      if 0 < f_X1_having x1 x3 M then
        f_X1_partsInAll_L5 x1 M n (b_and x2 x3) (w32 (x3 + 1))
      else
        f_X1_partsInAll_L5 x1 M n x2 (w32 (x3 + 1))
    else
      some x2
set_option maxHeartbeats 4000000 in
theorem t_X1_partsInAll_L5 (l : Launch) (g : GG) (ad : Nat → Nat) (S : SW) (M : Mem) (hS : q_ag 0 38 ad S) (x1 : Int) {r : Int} : ∀ (n : Nat) (x2 : Int) (x3 : Int), f_X1_partsInAll_L5 x1 M n x2 x3 = some r → RW l g MX1_partsInAll (q_rm 3 0 0) 0 0 (q_ex S (some (.inl r)) M) 5 S M 0 0 [some (.inr (.inr (some (ad 21)))), some (.inl x1), some (.inl x2), some (.inl x3)] [] := by
  intro n
  induction n with
  | zero => intro x2 x3 H; exact absurd H (by simp [f_X1_partsInAll_L5])
  | succ n ih =>
    intro x2 x3 H
    rw [f_X1_partsInAll_L5] at H
    refine R_iload_n (i := 3) (dX1_partsInAll 4 rfl) rfl rfl ?_
    refine R_bipush (dX1_partsInAll 5 rfl) rfl rfl ?_
    refine R_icmp_ge (tgt := 30) (dX1_partsInAll 6 rfl) (by decide) (fun hc => ?_) (fun hc => ?_)
    · have H := ite_F H hc
      refine R_iload_n (i := 2) (dX1_partsInAll 18 rfl) rfl rfl ?_
      exact R_iret rfl rfl (Nat.zero_le _) (Nat.zero_le _) (dX1_partsInAll 19 rfl) ⟨congrArg (fun z => some (Sum.inl z)) (Option.some.inj H), rfl, rfl⟩
    · have H := ite_T H hc
      refine R_aload_n (i := 0) (dX1_partsInAll 7 rfl) rfl rfl ?_
      refine R_iload_n (i := 1) (dX1_partsInAll 8 rfl) rfl rfl ?_
      refine R_iload_n (i := 3) (dX1_partsInAll 9 rfl) rfl rfl ?_
      refine R_cV (st' := [.inl (f_X1_having x1 x3 M)]) [.inl x1, .inl x3] [] (t_X1_having l g ad S _ hS   x1 x3) msX1_having (Or.inl tb_834) (Or.inl ⟨21, 1, _, _, _, (cl21 hS), rfl⟩) ⟨Nat.le_of_ble_eq_true rfl, Nat.le_of_ble_eq_true rfl⟩ (Nat.zero_le _) (Nat.zero_le _) rfl rfl (Nat.le_of_ble_eq_true rfl) rfl (dX1_partsInAll 10 rfl) ?_
      refine R_if_le (tgt := 24) (dX1_partsInAll 11 rfl) (by decide) (fun hc => ?_) (fun hc => ?_)
      · have H := ite_F H hc
        refine R_iinc (i := 3) (ls' := [some (.inr (.inr (some (ad 21)))), some (.inl x1), some (.inl x2), some (.inl (w32 (x3 + 1)))]) (dX1_partsInAll 16 rfl) rfl (Nat.le_of_ble_eq_true rfl) rfl rfl ?_
        refine R_goto (tgt := 5) (dX1_partsInAll 17 rfl) (by decide) ?_
        exact ih x2 (w32 (x3 + 1)) H
      · have H := ite_T H hc
        refine R_iload_n (i := 2) (dX1_partsInAll 12 rfl) rfl rfl ?_
        refine R_iload_n (i := 3) (dX1_partsInAll 13 rfl) rfl rfl ?_
        refine R_iand (dX1_partsInAll 14 rfl) ?_
        refine R_istore_n (i := 2) (ls' := [some (.inr (.inr (some (ad 21)))), some (.inl x1), some (.inl (b_and x2 x3)), some (.inl x3)]) (dX1_partsInAll 15 rfl) rfl (Nat.le_of_ble_eq_true rfl) (Nat.le_of_ble_eq_true rfl) rfl rfl ?_
        refine R_iinc (i := 3) (ls' := [some (.inr (.inr (some (ad 21)))), some (.inl x1), some (.inl (b_and x2 x3)), some (.inl (w32 (x3 + 1)))]) (dX1_partsInAll 16 rfl) rfl (Nat.le_of_ble_eq_true rfl) rfl rfl ?_
        refine R_goto (tgt := 5) (dX1_partsInAll 17 rfl) (by decide) ?_
        exact ih (b_and x2 x3) (w32 (x3 + 1)) H
def f_X1_partsInAll (x1 : Int) (M : Mem) : Option Int :=
  f_X1_partsInAll_L5
    x1 M 100000 63 0
set_option maxHeartbeats 4000000 in
theorem t_X1_partsInAll (l : Launch) (g : GG) (ad : Nat → Nat) (S : SW) (M : Mem) (hS : q_ag 0 38 ad S) (x1 : Int) {r : Int} (H : f_X1_partsInAll x1 M = some r) : CT l g MX1_partsInAll 3 0 0 S M [.inr (.inr (some (ad 21))), .inl x1] (q_ex S (some (.inl r)) M) := by
  unfold f_X1_partsInAll at H
  refine CT_of (ls0 := [some (.inr (.inr (some (ad 21)))), some (.inl x1), none, none]) (by decide +kernel) (Nat.le_of_ble_eq_true rfl) rfl ?_
  refine R_bipush (dX1_partsInAll 0 rfl) rfl rfl ?_
  refine R_istore_n (i := 2) (ls' := [some (.inr (.inr (some (ad 21)))), some (.inl x1), some (.inl 63), none]) (dX1_partsInAll 1 rfl) rfl (Nat.le_of_ble_eq_true rfl) (Nat.le_of_ble_eq_true rfl) rfl rfl ?_
  refine R_iconst (dX1_partsInAll 2 rfl) rfl ?_
  refine R_istore_n (i := 3) (ls' := [some (.inr (.inr (some (ad 21)))), some (.inl x1), some (.inl 63), some (.inl 0)]) (dX1_partsInAll 3 rfl) rfl (Nat.le_of_ble_eq_true rfl) (Nat.le_of_ble_eq_true rfl) rfl rfl ?_
  exact t_X1_partsInAll_L5 l g ad S M hS x1  100000 63 0 H 
def f_X1_partsInAny_L4 (x1 : Int) (M : Mem) : Nat → Int → Int → Option Int
  | 0, _, _ => none
  | n + 1, x2, x3 =>
    if x3 < 64 then
      if 0 < f_X1_having x1 x3 M then
        f_X1_partsInAny_L4 x1 M n (b_or x2 x3) (w32 (x3 + 1))
      else
        f_X1_partsInAny_L4 x1 M n x2 (w32 (x3 + 1))
    else
      some x2
set_option maxHeartbeats 4000000 in
theorem t_X1_partsInAny_L4 (l : Launch) (g : GG) (ad : Nat → Nat) (S : SW) (M : Mem) (hS : q_ag 0 38 ad S) (x1 : Int) {r : Int} : ∀ (n : Nat) (x2 : Int) (x3 : Int), f_X1_partsInAny_L4 x1 M n x2 x3 = some r → RW l g MX1_partsInAny (q_rm 3 0 0) 0 0 (q_ex S (some (.inl r)) M) 4 S M 0 0 [some (.inr (.inr (some (ad 21)))), some (.inl x1), some (.inl x2), some (.inl x3)] [] := by
  intro n
  induction n with
  | zero => intro x2 x3 H; exact absurd H (by simp [f_X1_partsInAny_L4])
  | succ n ih =>
    intro x2 x3 H
    rw [f_X1_partsInAny_L4] at H
    refine R_iload_n (i := 3) (dX1_partsInAny 4 rfl) rfl rfl ?_
    refine R_bipush (dX1_partsInAny 5 rfl) rfl rfl ?_
    refine R_icmp_ge (tgt := 29) (dX1_partsInAny 6 rfl) (by decide) (fun hc => ?_) (fun hc => ?_)
    · have H := ite_F H hc
      refine R_iload_n (i := 2) (dX1_partsInAny 18 rfl) rfl rfl ?_
      exact R_iret rfl rfl (Nat.zero_le _) (Nat.zero_le _) (dX1_partsInAny 19 rfl) ⟨congrArg (fun z => some (Sum.inl z)) (Option.some.inj H), rfl, rfl⟩
    · have H := ite_T H hc
      refine R_aload_n (i := 0) (dX1_partsInAny 7 rfl) rfl rfl ?_
      refine R_iload_n (i := 1) (dX1_partsInAny 8 rfl) rfl rfl ?_
      refine R_iload_n (i := 3) (dX1_partsInAny 9 rfl) rfl rfl ?_
      refine R_cV (st' := [.inl (f_X1_having x1 x3 M)]) [.inl x1, .inl x3] [] (t_X1_having l g ad S _ hS   x1 x3) msX1_having (Or.inl tb_834) (Or.inl ⟨21, 1, _, _, _, (cl21 hS), rfl⟩) ⟨Nat.le_of_ble_eq_true rfl, Nat.le_of_ble_eq_true rfl⟩ (Nat.zero_le _) (Nat.zero_le _) rfl rfl (Nat.le_of_ble_eq_true rfl) rfl (dX1_partsInAny 10 rfl) ?_
      refine R_if_le (tgt := 23) (dX1_partsInAny 11 rfl) (by decide) (fun hc => ?_) (fun hc => ?_)
      · have H := ite_F H hc
        refine R_iinc (i := 3) (ls' := [some (.inr (.inr (some (ad 21)))), some (.inl x1), some (.inl x2), some (.inl (w32 (x3 + 1)))]) (dX1_partsInAny 16 rfl) rfl (Nat.le_of_ble_eq_true rfl) rfl rfl ?_
        refine R_goto (tgt := 4) (dX1_partsInAny 17 rfl) (by decide) ?_
        exact ih x2 (w32 (x3 + 1)) H
      · have H := ite_T H hc
        refine R_iload_n (i := 2) (dX1_partsInAny 12 rfl) rfl rfl ?_
        refine R_iload_n (i := 3) (dX1_partsInAny 13 rfl) rfl rfl ?_
        refine R_ior (dX1_partsInAny 14 rfl) ?_
        refine R_istore_n (i := 2) (ls' := [some (.inr (.inr (some (ad 21)))), some (.inl x1), some (.inl (b_or x2 x3)), some (.inl x3)]) (dX1_partsInAny 15 rfl) rfl (Nat.le_of_ble_eq_true rfl) (Nat.le_of_ble_eq_true rfl) rfl rfl ?_
        refine R_iinc (i := 3) (ls' := [some (.inr (.inr (some (ad 21)))), some (.inl x1), some (.inl (b_or x2 x3)), some (.inl (w32 (x3 + 1)))]) (dX1_partsInAny 16 rfl) rfl (Nat.le_of_ble_eq_true rfl) rfl rfl ?_
        refine R_goto (tgt := 4) (dX1_partsInAny 17 rfl) (by decide) ?_
        exact ih (b_or x2 x3) (w32 (x3 + 1)) H
def f_X1_partsInAny (x1 : Int) (M : Mem) : Option Int :=
  f_X1_partsInAny_L4
    x1 M 100000 0 0
set_option maxHeartbeats 4000000 in
theorem t_X1_partsInAny (l : Launch) (g : GG) (ad : Nat → Nat) (S : SW) (M : Mem) (hS : q_ag 0 38 ad S) (x1 : Int) {r : Int} (H : f_X1_partsInAny x1 M = some r) : CT l g MX1_partsInAny 3 0 0 S M [.inr (.inr (some (ad 21))), .inl x1] (q_ex S (some (.inl r)) M) := by
  unfold f_X1_partsInAny at H
  refine CT_of (ls0 := [some (.inr (.inr (some (ad 21)))), some (.inl x1), none, none]) (by decide +kernel) (Nat.le_of_ble_eq_true rfl) rfl ?_
  refine R_iconst (dX1_partsInAny 0 rfl) rfl ?_
  refine R_istore_n (i := 2) (ls' := [some (.inr (.inr (some (ad 21)))), some (.inl x1), some (.inl 0), none]) (dX1_partsInAny 1 rfl) rfl (Nat.le_of_ble_eq_true rfl) (Nat.le_of_ble_eq_true rfl) rfl rfl ?_
  refine R_iconst (dX1_partsInAny 2 rfl) rfl ?_
  refine R_istore_n (i := 3) (ls' := [some (.inr (.inr (some (ad 21)))), some (.inl x1), some (.inl 0), some (.inl 0)]) (dX1_partsInAny 3 rfl) rfl (Nat.le_of_ble_eq_true rfl) (Nat.le_of_ble_eq_true rfl) rfl rfl ?_
  exact t_X1_partsInAny_L4 l g ad S M hS x1  100000 0 0 H 
def f_X1_squares_L13 (x2 : Int) (x3 : Int) : Nat → Int → Int → Mem → Option (Int × Mem)
  | 0, _, _, _ => none
  | n + 1, x4, x5, M =>
    if x5 < M 21 5 then
      f_X1_squares_L13 x2 x3 n (w32 (x4 + (w32 ((w32 (2 * (w32 ((rd 4096 (M 26) (w32 ((w32 ((f_X3_had x2 (f_X1_tongueOf x5 M) M) * 64)) + (f_X3_had x3 (f_X1_tongueOf x5 M) M)))) + 1)))) - 1)))) (w32 (x5 + 1)) (wr M 26 4096 (w32 ((w32 ((f_X3_had x2 (f_X1_tongueOf x5 M) M) * 64)) + (f_X3_had x3 (f_X1_tongueOf x5 M) M))) (w32 ((rd 4096 (M 26) (w32 ((w32 ((f_X3_had x2 (f_X1_tongueOf x5 M) M) * 64)) + (f_X3_had x3 (f_X1_tongueOf x5 M) M)))) + 1)))
    else
      some (x4, M)
set_option maxHeartbeats 4000000 in
theorem t_X1_squares_L13 (l : Launch) (g : GG) (ad : Nat → Nat) (S : SW) (hS : q_ag 0 38 ad S) (x2 : Int) (x3 : Int) {r : Int} {M' : Mem} : ∀ (n : Nat) (x4 : Int) (x5 : Int) (M : Mem), f_X1_squares_L13 x2 x3 n x4 x5 M = some (r, M') → RW l g MX1_squares (q_rm 3 0 0) 0 0 (q_ex S (some (.inl r)) M') 13 S M 0 0 [some (.inr (.inr (some (ad 21)))), some (.inr (.inr (some (ad 3)))), some (.inl x2), some (.inl x3), some (.inl x4), some (.inl x5), none, none, none] [] := by
  intro n
  induction n with
  | zero => intro x4 x5 M H; exact absurd H (by simp [f_X1_squares_L13])
  | succ n ih =>
    intro x4 x5 M H
    rw [f_X1_squares_L13] at H
    refine R_iload (i := 5) (dX1_squares 7 rfl) rfl ?_
    refine R_aload_n (i := 0) (dX1_squares 8 rfl) rfl rfl ?_
    refine R_getI cgX1 21 (cl21 hS) 5 (Nat.le_of_ble_eq_true rfl) rfl (Or.inl tb_464) (dX1_squares 9 rfl) ?_
    refine R_icmp_ge (tgt := 91) (dX1_squares 10 rfl) (by decide) (fun hc => ?_) (fun hc => ?_)
    · have H := ite_F H hc
      refine R_iload (i := 4) (dX1_squares 49 rfl) rfl ?_
      exact R_iret rfl rfl (Nat.zero_le _) (Nat.zero_le _) (dX1_squares 50 rfl) ⟨congrArg (fun z => some (Sum.inl z)) (Prod.mk.inj (Option.some.inj H)).1, rfl, (Prod.mk.inj (Option.some.inj H)).2⟩
    · have H := ite_T H hc
      refine R_aload_n (i := 0) (dX1_squares 11 rfl) rfl rfl ?_
      refine R_iload (i := 5) (dX1_squares 12 rfl) rfl ?_
      refine R_cV (st' := [.inl (f_X1_tongueOf x5 M)]) [.inl x5] [] (t_X1_tongueOf l g ad S _ hS   x5) msX1_tongueOf (Or.inl tb_934) (Or.inl ⟨21, 1, _, _, _, (cl21 hS), rfl⟩) ⟨Nat.le_of_ble_eq_true rfl, Nat.le_of_ble_eq_true rfl⟩ (Nat.zero_le _) (Nat.zero_le _) rfl rfl (Nat.le_of_ble_eq_true rfl) rfl (dX1_squares 13 rfl) ?_
      refine R_istore (i := 6) (ls' := [some (.inr (.inr (some (ad 21)))), some (.inr (.inr (some (ad 3)))), some (.inl x2), some (.inl x3), some (.inl x4), some (.inl x5), some (.inl (f_X1_tongueOf x5 M)), none, none]) (dX1_squares 14 rfl) (Nat.le_of_ble_eq_true rfl) (Nat.le_of_ble_eq_true rfl) rfl rfl ?_
      refine R_aload_n (i := 1) (dX1_squares 15 rfl) rfl rfl ?_
      refine R_iload_n (i := 2) (dX1_squares 16 rfl) rfl rfl ?_
      refine R_iload (i := 6) (dX1_squares 17 rfl) rfl ?_
      refine R_cV (st' := [.inl (f_X3_had x2 (f_X1_tongueOf x5 M) M)]) [.inl x2, .inl (f_X1_tongueOf x5 M)] [] (t_X3_had l g ad S _ hS   x2 (f_X1_tongueOf x5 M)) msX3_had (Or.inl tb_756) (Or.inl ⟨3, 3, _, _, _, (cl3 hS), rfl⟩) ⟨Nat.le_of_ble_eq_true rfl, Nat.le_of_ble_eq_true rfl⟩ (Nat.zero_le _) (Nat.zero_le _) rfl rfl (Nat.le_of_ble_eq_true rfl) rfl (dX1_squares 18 rfl) ?_
      refine R_bipush (dX1_squares 19 rfl) rfl rfl ?_
      refine R_imul (dX1_squares 20 rfl) ?_
      refine R_aload_n (i := 1) (dX1_squares 21 rfl) rfl rfl ?_
      refine R_iload_n (i := 3) (dX1_squares 22 rfl) rfl rfl ?_
      refine R_iload (i := 6) (dX1_squares 23 rfl) rfl ?_
      refine R_cV (st' := [.inl (f_X3_had x3 (f_X1_tongueOf x5 M) M), .inl (w32 ((f_X3_had x2 (f_X1_tongueOf x5 M) M) * 64))]) [.inl x3, .inl (f_X1_tongueOf x5 M)] [.inl (w32 ((f_X3_had x2 (f_X1_tongueOf x5 M) M) * 64))] (t_X3_had l g ad S _ hS   x3 (f_X1_tongueOf x5 M)) msX3_had (Or.inl tb_756) (Or.inl ⟨3, 3, _, _, _, (cl3 hS), rfl⟩) ⟨Nat.le_of_ble_eq_true rfl, Nat.le_of_ble_eq_true rfl⟩ (Nat.zero_le _) (Nat.zero_le _) rfl rfl (Nat.le_of_ble_eq_true rfl) rfl (dX1_squares 24 rfl) ?_
      refine R_iadd (dX1_squares 25 rfl) ?_
      refine R_istore (i := 7) (ls' := [some (.inr (.inr (some (ad 21)))), some (.inr (.inr (some (ad 3)))), some (.inl x2), some (.inl x3), some (.inl x4), some (.inl x5), some (.inl (f_X1_tongueOf x5 M)), some (.inl (w32 ((w32 ((f_X3_had x2 (f_X1_tongueOf x5 M) M) * 64)) + (f_X3_had x3 (f_X1_tongueOf x5 M) M)))), none]) (dX1_squares 26 rfl) (Nat.le_of_ble_eq_true rfl) (Nat.le_of_ble_eq_true rfl) rfl rfl ?_
      refine R_aload_n (i := 0) (dX1_squares 27 rfl) rfl rfl ?_
      refine R_getR cgX1 21 (cl21 hS) 4 (Nat.le_of_ble_eq_true rfl) rfl (Or.inl tb_463) (dX1_squares 28 rfl) ?_
      refine R_iload (i := 7) (dX1_squares 29 rfl) rfl ?_
      refine R_cS (st' := [.inl (rd 4096 (M 26) (w32 ((w32 ((f_X3_had x2 (f_X1_tongueOf x5 M) M) * 64)) + (f_X3_had x3 (f_X1_tongueOf x5 M) M))))]) [.inr (.inr (some (ad 26))), .inl (w32 ((w32 ((f_X3_had x2 (f_X1_tongueOf x5 M) M) * 64)) + (f_X3_had x3 (f_X1_tongueOf x5 M) M)))] [] (t_at l g S _ 26 (cl26 hS) (Nat.le_of_ble_eq_true rfl) (w32 ((w32 ((f_X3_had x2 (f_X1_tongueOf x5 M) M) * 64)) + (f_X3_had x3 (f_X1_tongueOf x5 M) M)))) msX9_at (Or.inr ⟨_, tb_760⟩) ⟨Nat.le_of_ble_eq_true rfl, Nat.le_of_ble_eq_true rfl⟩ (Nat.zero_le _) (Nat.zero_le _) rfl rfl (Nat.le_of_ble_eq_true rfl) rfl (dX1_squares 30 rfl) ?_
      refine R_iconst (dX1_squares 31 rfl) rfl ?_
      refine R_iadd (dX1_squares 32 rfl) ?_
      refine R_istore (i := 8) (ls' := [some (.inr (.inr (some (ad 21)))), some (.inr (.inr (some (ad 3)))), some (.inl x2), some (.inl x3), some (.inl x4), some (.inl x5), some (.inl (f_X1_tongueOf x5 M)), some (.inl (w32 ((w32 ((f_X3_had x2 (f_X1_tongueOf x5 M) M) * 64)) + (f_X3_had x3 (f_X1_tongueOf x5 M) M)))), some (.inl (w32 ((rd 4096 (M 26) (w32 ((w32 ((f_X3_had x2 (f_X1_tongueOf x5 M) M) * 64)) + (f_X3_had x3 (f_X1_tongueOf x5 M) M)))) + 1)))]) (dX1_squares 33 rfl) (Nat.le_of_ble_eq_true rfl) (Nat.le_of_ble_eq_true rfl) rfl rfl ?_
      refine R_aload_n (i := 0) (dX1_squares 34 rfl) rfl rfl ?_
      refine R_getR cgX1 21 (cl21 hS) 4 (Nat.le_of_ble_eq_true rfl) rfl (Or.inl tb_463) (dX1_squares 35 rfl) ?_
      refine R_iload (i := 7) (dX1_squares 36 rfl) rfl ?_
      refine R_iload (i := 8) (dX1_squares 37 rfl) rfl ?_
      refine R_cS (st' := []) [.inr (.inr (some (ad 26))), .inl (w32 ((w32 ((f_X3_had x2 (f_X1_tongueOf x5 M) M) * 64)) + (f_X3_had x3 (f_X1_tongueOf x5 M) M))), .inl (w32 ((rd 4096 (M 26) (w32 ((w32 ((f_X3_had x2 (f_X1_tongueOf x5 M) M) * 64)) + (f_X3_had x3 (f_X1_tongueOf x5 M) M)))) + 1))] [] (t_put l g S _ 26 (cl26 hS) (Nat.le_of_ble_eq_true rfl) (w32 ((w32 ((f_X3_had x2 (f_X1_tongueOf x5 M) M) * 64)) + (f_X3_had x3 (f_X1_tongueOf x5 M) M))) (w32 ((rd 4096 (M 26) (w32 ((w32 ((f_X3_had x2 (f_X1_tongueOf x5 M) M) * 64)) + (f_X3_had x3 (f_X1_tongueOf x5 M) M)))) + 1))) msX9_put (Or.inr ⟨_, tb_751⟩) ⟨Nat.le_of_ble_eq_true rfl, Nat.le_of_ble_eq_true rfl⟩ (Nat.zero_le _) (Nat.zero_le _) rfl rfl (Nat.le_of_ble_eq_true rfl) rfl (dX1_squares 38 rfl) ?_
      refine R_iload (i := 4) (dX1_squares 39 rfl) rfl ?_
      refine R_iconst (dX1_squares 40 rfl) rfl ?_
      refine R_iload (i := 8) (dX1_squares 41 rfl) rfl ?_
      refine R_imul (dX1_squares 42 rfl) ?_
      refine R_iconst (dX1_squares 43 rfl) rfl ?_
      refine R_isub (dX1_squares 44 rfl) ?_
      refine R_iadd (dX1_squares 45 rfl) ?_
      refine R_istore (i := 4) (ls' := [some (.inr (.inr (some (ad 21)))), some (.inr (.inr (some (ad 3)))), some (.inl x2), some (.inl x3), some (.inl (w32 (x4 + (w32 ((w32 (2 * (w32 ((rd 4096 (M 26) (w32 ((w32 ((f_X3_had x2 (f_X1_tongueOf x5 M) M) * 64)) + (f_X3_had x3 (f_X1_tongueOf x5 M) M)))) + 1)))) - 1))))), some (.inl x5), some (.inl (f_X1_tongueOf x5 M)), some (.inl (w32 ((w32 ((f_X3_had x2 (f_X1_tongueOf x5 M) M) * 64)) + (f_X3_had x3 (f_X1_tongueOf x5 M) M)))), some (.inl (w32 ((rd 4096 (M 26) (w32 ((w32 ((f_X3_had x2 (f_X1_tongueOf x5 M) M) * 64)) + (f_X3_had x3 (f_X1_tongueOf x5 M) M)))) + 1)))]) (dX1_squares 46 rfl) (Nat.le_of_ble_eq_true rfl) (Nat.le_of_ble_eq_true rfl) rfl rfl ?_
      refine R_iinc (i := 5) (ls' := [some (.inr (.inr (some (ad 21)))), some (.inr (.inr (some (ad 3)))), some (.inl x2), some (.inl x3), some (.inl (w32 (x4 + (w32 ((w32 (2 * (w32 ((rd 4096 (M 26) (w32 ((w32 ((f_X3_had x2 (f_X1_tongueOf x5 M) M) * 64)) + (f_X3_had x3 (f_X1_tongueOf x5 M) M)))) + 1)))) - 1))))), some (.inl (w32 (x5 + 1))), some (.inl (f_X1_tongueOf x5 M)), some (.inl (w32 ((w32 ((f_X3_had x2 (f_X1_tongueOf x5 M) M) * 64)) + (f_X3_had x3 (f_X1_tongueOf x5 M) M)))), some (.inl (w32 ((rd 4096 (M 26) (w32 ((w32 ((f_X3_had x2 (f_X1_tongueOf x5 M) M) * 64)) + (f_X3_had x3 (f_X1_tongueOf x5 M) M)))) + 1)))]) (dX1_squares 47 rfl) rfl (Nat.le_of_ble_eq_true rfl) rfl rfl ?_
      refine R_goto (tgt := 13) (dX1_squares 48 rfl) (by decide) ?_
      refine R_mask [true, true, true, true, true, true, false, false, false] rfl ?_
      exact ih (w32 (x4 + (w32 ((w32 (2 * (w32 ((rd 4096 (M 26) (w32 ((w32 ((f_X3_had x2 (f_X1_tongueOf x5 M) M) * 64)) + (f_X3_had x3 (f_X1_tongueOf x5 M) M)))) + 1)))) - 1)))) (w32 (x5 + 1)) (wr M 26 4096 (w32 ((w32 ((f_X3_had x2 (f_X1_tongueOf x5 M) M) * 64)) + (f_X3_had x3 (f_X1_tongueOf x5 M) M))) (w32 ((rd 4096 (M 26) (w32 ((w32 ((f_X3_had x2 (f_X1_tongueOf x5 M) M) * 64)) + (f_X3_had x3 (f_X1_tongueOf x5 M) M)))) + 1))) H
def f_X1_squares (x2 : Int) (x3 : Int) (M : Mem) : Option (Int × Mem) :=
  ob (f_X1_clear 26 4096 M) fun r23 M24 =>
  f_X1_squares_L13
    x2 x3 100000 0 0 M24
set_option maxHeartbeats 4000000 in
theorem t_X1_squares (l : Launch) (g : GG) (ad : Nat → Nat) (S : SW) (M : Mem) (hS : q_ag 0 38 ad S) (x2 : Int) (x3 : Int) {r : Int} {M' : Mem} (H : f_X1_squares x2 x3 M = some (r, M')) : CT l g MX1_squares 3 0 0 S M [.inr (.inr (some (ad 21))), .inr (.inr (some (ad 3))), .inl x2, .inl x3] (q_ex S (some (.inl r)) M') := by
  unfold f_X1_squares at H
  refine CT_of (ls0 := [some (.inr (.inr (some (ad 21)))), some (.inr (.inr (some (ad 3)))), some (.inl x2), some (.inl x3), none, none, none, none, none]) (by decide +kernel) (Nat.le_of_ble_eq_true rfl) rfl ?_
  refine R_aload_n (i := 0) (dX1_squares 0 rfl) rfl rfl ?_
  refine R_getR cgX1 21 (cl21 hS) 4 (Nat.le_of_ble_eq_true rfl) rfl (Or.inl tb_463) (dX1_squares 1 rfl) ?_
  obtain ⟨r23, M24, hr, H⟩ := ob_E H
  refine R_cS (st' := []) [.inr (.inr (some (ad 26)))] [] (t_X1_clear l g S _  26 4096 (cl26 hS) (Nat.le_of_ble_eq_true rfl)  hr) msX1_clear (Or.inl tb_740) ⟨Nat.le_of_ble_eq_true rfl, Nat.le_of_ble_eq_true rfl⟩ (Nat.zero_le _) (Nat.zero_le _) rfl rfl (Nat.le_of_ble_eq_true rfl) rfl (dX1_squares 2 rfl) ?_
  refine R_iconst (dX1_squares 3 rfl) rfl ?_
  refine R_istore (i := 4) (ls' := [some (.inr (.inr (some (ad 21)))), some (.inr (.inr (some (ad 3)))), some (.inl x2), some (.inl x3), some (.inl 0), none, none, none, none]) (dX1_squares 4 rfl) (Nat.le_of_ble_eq_true rfl) (Nat.le_of_ble_eq_true rfl) rfl rfl ?_
  refine R_iconst (dX1_squares 5 rfl) rfl ?_
  refine R_istore (i := 5) (ls' := [some (.inr (.inr (some (ad 21)))), some (.inr (.inr (some (ad 3)))), some (.inl x2), some (.inl x3), some (.inl 0), some (.inl 0), none, none, none]) (dX1_squares 6 rfl) (Nat.le_of_ble_eq_true rfl) (Nat.le_of_ble_eq_true rfl) rfl rfl ?_
  exact t_X1_squares_L13 l g ad S hS x2 x3  100000 0 0 M24 H 
def f_X1_drawnBy (x1 : Int) (M : Mem) : Option Int :=
  if 0 < M 21 5 then
    if ¬ M 21 5 = 0 then
      some (f_X1_tongueOf (w32 (b_lrem (b_lrem (w64 ((w64 (x1 + 1)) * 48271)) 2147483647) (M 21 5))) M)
    else none
  else
    some 0
set_option maxHeartbeats 4000000 in
theorem t_X1_drawnBy (l : Launch) (g : GG) (ad : Nat → Nat) (S : SW) (M : Mem) (hS : q_ag 0 38 ad S) (x1 : Int) {r : Int} (H : f_X1_drawnBy x1 M = some r) : CT l g MX1_drawnBy 3 0 0 S M [.inr (.inr (some (ad 21))), .inl x1] (q_ex S (some (.inl r)) M) := by
  unfold f_X1_drawnBy at H
  refine CT_of (ls0 := [some (.inr (.inr (some (ad 21)))), some (.inl x1), none, none]) (by decide +kernel) (Nat.le_of_ble_eq_true rfl) rfl ?_
  refine R_iload_n (i := 1) (dX1_drawnBy 0 rfl) rfl rfl ?_
  refine R_i2l (dX1_drawnBy 1 rfl) ?_
  refine R_lconst (z := 1) (dX1_drawnBy 2 rfl) rfl rfl ?_
  refine R_ladd (dX1_drawnBy 3 rfl) ?_
  refine R_ldc2 (z := 48271) tb_1022 ⟨by decide, by decide⟩ (dX1_drawnBy 4 rfl) ?_
  refine R_lmul (dX1_drawnBy 5 rfl) ?_
  refine R_ldc2 (z := 2147483647) tb_1023 ⟨by decide, by decide⟩ (dX1_drawnBy 6 rfl) ?_
  refine R_lrem (by decide) (dX1_drawnBy 7 rfl) ?_
  refine R_lstore_n (i := 2) (ls' := [some (.inr (.inr (some (ad 21)))), some (.inl x1), some (.inr (.inl (b_lrem (w64 ((w64 (x1 + 1)) * 48271)) 2147483647))), none]) (dX1_drawnBy 8 rfl) rfl (Nat.le_of_ble_eq_true rfl) (Nat.le_of_ble_eq_true rfl) rfl rfl ?_
  refine R_aload_n (i := 0) (dX1_drawnBy 9 rfl) rfl rfl ?_
  refine R_getI cgX1 21 (cl21 hS) 5 (Nat.le_of_ble_eq_true rfl) rfl (Or.inl tb_464) (dX1_drawnBy 10 rfl) ?_
  refine R_if_le (tgt := 35) (dX1_drawnBy 11 rfl) (by decide) (fun hc => ?_) (fun hc => ?_)
  · have H := ite_F H hc
    refine R_iconst (dX1_drawnBy 21 rfl) rfl ?_
    exact R_iret rfl rfl (Nat.zero_le _) (Nat.zero_le _) (dX1_drawnBy 22 rfl) ⟨congrArg (fun z => some (Sum.inl z)) (Option.some.inj H), rfl, rfl⟩
  · have H := ite_T H hc
    refine R_aload_n (i := 0) (dX1_drawnBy 12 rfl) rfl rfl ?_
    refine R_lload_n (i := 2) (dX1_drawnBy 13 rfl) rfl rfl ?_
    refine R_aload_n (i := 0) (dX1_drawnBy 14 rfl) rfl rfl ?_
    refine R_getI cgX1 21 (cl21 hS) 5 (Nat.le_of_ble_eq_true rfl) rfl (Or.inl tb_464) (dX1_drawnBy 15 rfl) ?_
    refine R_i2l (dX1_drawnBy 16 rfl) ?_
    obtain ⟨hg, H⟩ := ite_G H
    refine R_lrem hg (dX1_drawnBy 17 rfl) ?_
    refine R_l2i (dX1_drawnBy 18 rfl) ?_
    refine R_cV (st' := [.inl (f_X1_tongueOf (w32 (b_lrem (b_lrem (w64 ((w64 (x1 + 1)) * 48271)) 2147483647) (M 21 5))) M)]) [.inl (w32 (b_lrem (b_lrem (w64 ((w64 (x1 + 1)) * 48271)) 2147483647) (M 21 5)))] [] (t_X1_tongueOf l g ad S _ hS   (w32 (b_lrem (b_lrem (w64 ((w64 (x1 + 1)) * 48271)) 2147483647) (M 21 5)))) msX1_tongueOf (Or.inl tb_934) (Or.inl ⟨21, 1, _, _, _, (cl21 hS), rfl⟩) ⟨Nat.le_of_ble_eq_true rfl, Nat.le_of_ble_eq_true rfl⟩ (Nat.zero_le _) (Nat.zero_le _) rfl rfl (Nat.le_of_ble_eq_true rfl) rfl (dX1_drawnBy 19 rfl) ?_
    refine R_goto (tgt := 36) (dX1_drawnBy 20 rfl) (by decide) ?_
    exact R_iret rfl rfl (Nat.zero_le _) (Nat.zero_le _) (dX1_drawnBy 22 rfl) ⟨congrArg (fun z => some (Sum.inl z)) (Option.some.inj H), rfl, rfl⟩
def f_X9_within (x0 : Int) (x1 : Int) (x2 : Int) : Int :=
  if x0 < x1 then
    0
  else
    if x2 < x0 then
      0
    else
      1
set_option maxHeartbeats 4000000 in
theorem t_X9_within (l : Launch) (g : GG) (S : SW) (M : Mem) (x0 : Int) (x1 : Int) (x2 : Int) : CT l g MX9_within 1 0 0 S M [.inl x0, .inl x1, .inl x2] (q_ex S (some (.inl (f_X9_within x0 x1 x2))) M) := by
  obtain ⟨r, H⟩ : ∃ r, f_X9_within x0 x1 x2 = r := ⟨_, rfl⟩
  rw [H]
  unfold f_X9_within at H
  refine CT_of (ls0 := [some (.inl x0), some (.inl x1), some (.inl x2)]) (by decide +kernel) (Nat.le_of_ble_eq_true rfl) rfl ?_
  refine R_iload_n (i := 0) (dX9_within 0 rfl) rfl rfl ?_
  refine R_iload_n (i := 1) (dX9_within 1 rfl) rfl rfl ?_
  refine R_icmp_lt (tgt := 14) (dX9_within 2 rfl) (by decide) (fun hc => ?_) (fun hc => ?_)
  · have H := ite_T H hc
    refine R_iconst (dX9_within 8 rfl) rfl ?_
    exact R_iret rfl (by decide +kernel) (Nat.zero_le _) (Nat.zero_le _) (dX9_within 9 rfl) ⟨congrArg (fun z => some (Sum.inl z)) H, rfl, rfl⟩
  · have H := ite_F H hc
    refine R_iload_n (i := 0) (dX9_within 3 rfl) rfl rfl ?_
    refine R_iload_n (i := 2) (dX9_within 4 rfl) rfl rfl ?_
    refine R_icmp_gt (tgt := 14) (dX9_within 5 rfl) (by decide) (fun hc => ?_) (fun hc => ?_)
    · have H := ite_T H hc
      refine R_iconst (dX9_within 8 rfl) rfl ?_
      exact R_iret rfl (by decide +kernel) (Nat.zero_le _) (Nat.zero_le _) (dX9_within 9 rfl) ⟨congrArg (fun z => some (Sum.inl z)) H, rfl, rfl⟩
    · have H := ite_F H hc
      refine R_iconst (dX9_within 6 rfl) rfl ?_
      refine R_goto (tgt := 15) (dX9_within 7 rfl) (by decide) ?_
      exact R_iret rfl (by decide +kernel) (Nat.zero_le _) (Nat.zero_le _) (dX9_within 9 rfl) ⟨congrArg (fun z => some (Sum.inl z)) H, rfl, rfl⟩
theorem z_X9_within (x0 : Int) (x1 : Int) (x2 : Int) : f_X9_within x0 x1 x2 = 0 ∨ f_X9_within x0 x1 x2 = 1 := by
  unfold f_X9_within
  (repeat' split) <;> first | exact Or.inl rfl | exact Or.inr rfl
def f_X9_isParts (x0 : Int) : Int :=
  f_X9_within x0 0 63
set_option maxHeartbeats 4000000 in
theorem t_X9_isParts (l : Launch) (g : GG) (ad : Nat → Nat) (S : SW) (M : Mem) (hS : q_ag 0 38 ad S) (x0 : Int) : CT l g MX9_isParts 2 0 0 S M [.inl x0] (q_ex S (some (.inl (f_X9_isParts x0))) M) := by
  obtain ⟨r, H⟩ : ∃ r, f_X9_isParts x0 = r := ⟨_, rfl⟩
  rw [H]
  unfold f_X9_isParts at H
  refine CT_of (ls0 := [some (.inl x0)]) (by decide +kernel) (Nat.le_of_ble_eq_true rfl) rfl ?_
  refine R_iload_n (i := 0) (dX9_isParts 0 rfl) rfl rfl ?_
  refine R_iconst (dX9_isParts 1 rfl) rfl ?_
  refine R_bipush (dX9_isParts 2 rfl) rfl rfl ?_
  refine R_cS (st' := [.inl (f_X9_within x0 0 63)]) [.inl x0, .inl 0, .inl 63] [] (t_X9_within l g S _   x0 0 63) msX9_within (Or.inl tb_603) ⟨Nat.le_of_ble_eq_true rfl, Nat.le_of_ble_eq_true rfl⟩ (Nat.zero_le _) (Nat.zero_le _) rfl rfl (Nat.le_of_ble_eq_true rfl) rfl (dX9_isParts 3 rfl) ?_
  exact R_iret rfl (q_nbz (z_X9_within x0 0 63)) (Nat.zero_le _) (Nat.zero_le _) (dX9_isParts 4 rfl) ⟨congrArg (fun z => some (Sum.inl z)) H, rfl, rfl⟩
theorem z_X9_isParts (x0 : Int) : f_X9_isParts x0 = 0 ∨ f_X9_isParts x0 = 1 := by
  unfold f_X9_isParts
  (repeat' split) <;> first | exact Or.inl rfl | exact Or.inr rfl | exact z_X9_within ..
def f_X3_mayStand (x0 : Int) (x1 : Int) : Int :=
  if f_X9_isParts x0 = 0 then
    0
  else
    if f_X9_within (f_J6_bitCount_0f7a4 x0) 1 3 = 0 then
      0
    else
      if f_X9_within x1 1 99 = 0 then
        0
      else
        1
set_option maxHeartbeats 4000000 in
theorem t_X3_mayStand (l : Launch) (g : GG) (ad : Nat → Nat) (S : SW) (M : Mem) (hS : q_ag 0 38 ad S) (x0 : Int) (x1 : Int) : CT l g MX3_mayStand 3 0 0 S M [.inl x0, .inl x1] (q_ex S (some (.inl (f_X3_mayStand x0 x1))) M) := by
  obtain ⟨r, H⟩ : ∃ r, f_X3_mayStand x0 x1 = r := ⟨_, rfl⟩
  rw [H]
  unfold f_X3_mayStand at H
  refine CT_of (ls0 := [some (.inl x0), some (.inl x1)]) (by decide +kernel) (Nat.le_of_ble_eq_true rfl) rfl ?_
  refine R_iload_n (i := 0) (dX3_mayStand 0 rfl) rfl rfl ?_
  refine R_cS (st' := [.inl (f_X9_isParts x0)]) [.inl x0] [] (t_X9_isParts l g ad S _ hS   x0) msX9_isParts (Or.inr ⟨_, tb_600⟩) ⟨Nat.le_of_ble_eq_true rfl, Nat.le_of_ble_eq_true rfl⟩ (Nat.zero_le _) (Nat.zero_le _) rfl rfl (Nat.le_of_ble_eq_true rfl) rfl (dX3_mayStand 1 rfl) ?_
  refine R_if_eq (tgt := 33) (dX3_mayStand 2 rfl) (by decide) (fun hc => ?_) (fun hc => ?_)
  · have H := ite_T H hc
    refine R_iconst (dX3_mayStand 16 rfl) rfl ?_
    exact R_iret rfl (by decide +kernel) (Nat.zero_le _) (Nat.zero_le _) (dX3_mayStand 17 rfl) ⟨congrArg (fun z => some (Sum.inl z)) H, rfl, rfl⟩
  · have H := ite_F H hc
    refine R_iload_n (i := 0) (dX3_mayStand 3 rfl) rfl rfl ?_
    refine R_cS (st' := [.inl (f_J6_bitCount_0f7a4 x0)]) [.inl x0] [] (t_J6_bitCount_0f7a4 l g S _   x0) msJ6_bitCount_0f7a4 (Or.inl tb_604) ⟨Nat.le_of_ble_eq_true rfl, Nat.le_of_ble_eq_true rfl⟩ (Nat.zero_le _) (Nat.zero_le _) rfl rfl (Nat.le_of_ble_eq_true rfl) rfl (dX3_mayStand 4 rfl) ?_
    refine R_iconst (dX3_mayStand 5 rfl) rfl ?_
    refine R_iconst (dX3_mayStand 6 rfl) rfl ?_
    refine R_cS (st' := [.inl (f_X9_within (f_J6_bitCount_0f7a4 x0) 1 3)]) [.inl (f_J6_bitCount_0f7a4 x0), .inl 1, .inl 3] [] (t_X9_within l g S _   (f_J6_bitCount_0f7a4 x0) 1 3) msX9_within (Or.inr ⟨_, tb_610⟩) ⟨Nat.le_of_ble_eq_true rfl, Nat.le_of_ble_eq_true rfl⟩ (Nat.zero_le _) (Nat.zero_le _) rfl rfl (Nat.le_of_ble_eq_true rfl) rfl (dX3_mayStand 7 rfl) ?_
    refine R_if_eq (tgt := 33) (dX3_mayStand 8 rfl) (by decide) (fun hc => ?_) (fun hc => ?_)
    · have H := ite_T H hc
      refine R_iconst (dX3_mayStand 16 rfl) rfl ?_
      exact R_iret rfl (by decide +kernel) (Nat.zero_le _) (Nat.zero_le _) (dX3_mayStand 17 rfl) ⟨congrArg (fun z => some (Sum.inl z)) H, rfl, rfl⟩
    · have H := ite_F H hc
      refine R_iload_n (i := 1) (dX3_mayStand 9 rfl) rfl rfl ?_
      refine R_iconst (dX3_mayStand 10 rfl) rfl ?_
      refine R_bipush (dX3_mayStand 11 rfl) rfl rfl ?_
      refine R_cS (st' := [.inl (f_X9_within x1 1 99)]) [.inl x1, .inl 1, .inl 99] [] (t_X9_within l g S _   x1 1 99) msX9_within (Or.inr ⟨_, tb_610⟩) ⟨Nat.le_of_ble_eq_true rfl, Nat.le_of_ble_eq_true rfl⟩ (Nat.zero_le _) (Nat.zero_le _) rfl rfl (Nat.le_of_ble_eq_true rfl) rfl (dX3_mayStand 12 rfl) ?_
      refine R_if_eq (tgt := 33) (dX3_mayStand 13 rfl) (by decide) (fun hc => ?_) (fun hc => ?_)
      · have H := ite_T H hc
        refine R_iconst (dX3_mayStand 16 rfl) rfl ?_
        exact R_iret rfl (by decide +kernel) (Nat.zero_le _) (Nat.zero_le _) (dX3_mayStand 17 rfl) ⟨congrArg (fun z => some (Sum.inl z)) H, rfl, rfl⟩
      · have H := ite_F H hc
        refine R_iconst (dX3_mayStand 14 rfl) rfl ?_
        refine R_goto (tgt := 34) (dX3_mayStand 15 rfl) (by decide) ?_
        exact R_iret rfl (by decide +kernel) (Nat.zero_le _) (Nat.zero_le _) (dX3_mayStand 17 rfl) ⟨congrArg (fun z => some (Sum.inl z)) H, rfl, rfl⟩
theorem z_X3_mayStand (x0 : Int) (x1 : Int) : f_X3_mayStand x0 x1 = 0 ∨ f_X3_mayStand x0 x1 = 1 := by
  unfold f_X3_mayStand
  (repeat' split) <;> first | exact Or.inl rfl | exact Or.inr rfl | exact z_J6_bitCount_0f7a4 .. | exact z_X9_isParts .. | exact z_X9_within ..
def f_X7_partsOf_L5 (x1 : Int) (x2 : Int) (M : Mem) : Nat → Int → Int → Option Int
  | 0, _, _ => none
  | n + 1, x3, x4 =>
    if x4 < 6 then
      if b_and (b_shr x2 x4) 1 = 0 then
        f_X7_partsOf_L5 x1 x2 M n x3 (w32 (x4 + 1))
      else
        f_X7_partsOf_L5 x1 x2 M n (b_or x3 (b_shl 1 (f_X7_partOf x1 x4 M))) (w32 (x4 + 1))
    else
      some x3
set_option maxHeartbeats 4000000 in
theorem t_X7_partsOf_L5 (l : Launch) (g : GG) (ad : Nat → Nat) (S : SW) (M : Mem) (hS : q_ag 1 3 ad S) (x1 : Int) (x2 : Int) {r : Int} : ∀ (n : Nat) (x3 : Int) (x4 : Int), f_X7_partsOf_L5 x1 x2 M n x3 x4 = some r → RW l g MX7_partsOf (q_rm 3 0 0) 0 0 (q_ex S (some (.inl r)) M) 5 S M 0 0 [some (.inr (.inr (some (ad 1)))), some (.inl x1), some (.inl x2), some (.inl x3), some (.inl x4)] [] := by
  intro n
  induction n with
  | zero => intro x3 x4 H; exact absurd H (by simp [f_X7_partsOf_L5])
  | succ n ih =>
    intro x3 x4 H
    rw [f_X7_partsOf_L5] at H
    refine R_iload (i := 4) (dX7_partsOf 4 rfl) rfl ?_
    refine R_bipush (dX7_partsOf 5 rfl) rfl rfl ?_
    refine R_icmp_ge (tgt := 39) (dX7_partsOf 6 rfl) (by decide) (fun hc => ?_) (fun hc => ?_)
    · have H := ite_F H hc
      refine R_iload_n (i := 3) (dX7_partsOf 24 rfl) rfl rfl ?_
      exact R_iret rfl rfl (Nat.zero_le _) (Nat.zero_le _) (dX7_partsOf 25 rfl) ⟨congrArg (fun z => some (Sum.inl z)) (Option.some.inj H), rfl, rfl⟩
    · have H := ite_T H hc
      refine R_iload_n (i := 2) (dX7_partsOf 7 rfl) rfl rfl ?_
      refine R_iload (i := 4) (dX7_partsOf 8 rfl) rfl ?_
      refine R_ishr (dX7_partsOf 9 rfl) ?_
      refine R_iconst (dX7_partsOf 10 rfl) rfl ?_
      refine R_iand (dX7_partsOf 11 rfl) ?_
      refine R_if_eq (tgt := 33) (dX7_partsOf 12 rfl) (by decide) (fun hc => ?_) (fun hc => ?_)
      · have H := ite_T H hc
        refine R_iinc (i := 4) (ls' := [some (.inr (.inr (some (ad 1)))), some (.inl x1), some (.inl x2), some (.inl x3), some (.inl (w32 (x4 + 1)))]) (dX7_partsOf 22 rfl) rfl (Nat.le_of_ble_eq_true rfl) rfl rfl ?_
        refine R_goto (tgt := 5) (dX7_partsOf 23 rfl) (by decide) ?_
        exact ih x3 (w32 (x4 + 1)) H
      · have H := ite_F H hc
        refine R_iload_n (i := 3) (dX7_partsOf 13 rfl) rfl rfl ?_
        refine R_iconst (dX7_partsOf 14 rfl) rfl ?_
        refine R_aload_n (i := 0) (dX7_partsOf 15 rfl) rfl rfl ?_
        refine R_iload_n (i := 1) (dX7_partsOf 16 rfl) rfl rfl ?_
        refine R_iload (i := 4) (dX7_partsOf 17 rfl) rfl ?_
        refine R_cV (st' := [.inl (f_X7_partOf x1 x4 M), .inl 1, .inl x3]) [.inl x1, .inl x4] [.inl 1, .inl x3] (t_X7_partOf l g ad S _ hS   x1 x4) msX7_partOf (Or.inl tb_624) (Or.inl ⟨1, 7, _, _, _, (cl1 hS), rfl⟩) ⟨Nat.le_of_ble_eq_true rfl, Nat.le_of_ble_eq_true rfl⟩ (Nat.zero_le _) (Nat.zero_le _) rfl rfl (Nat.le_of_ble_eq_true rfl) rfl (dX7_partsOf 18 rfl) ?_
        refine R_ishl (dX7_partsOf 19 rfl) ?_
        refine R_ior (dX7_partsOf 20 rfl) ?_
        refine R_istore_n (i := 3) (ls' := [some (.inr (.inr (some (ad 1)))), some (.inl x1), some (.inl x2), some (.inl (b_or x3 (b_shl 1 (f_X7_partOf x1 x4 M)))), some (.inl x4)]) (dX7_partsOf 21 rfl) rfl (Nat.le_of_ble_eq_true rfl) (Nat.le_of_ble_eq_true rfl) rfl rfl ?_
        refine R_iinc (i := 4) (ls' := [some (.inr (.inr (some (ad 1)))), some (.inl x1), some (.inl x2), some (.inl (b_or x3 (b_shl 1 (f_X7_partOf x1 x4 M)))), some (.inl (w32 (x4 + 1)))]) (dX7_partsOf 22 rfl) rfl (Nat.le_of_ble_eq_true rfl) rfl rfl ?_
        refine R_goto (tgt := 5) (dX7_partsOf 23 rfl) (by decide) ?_
        exact ih (b_or x3 (b_shl 1 (f_X7_partOf x1 x4 M))) (w32 (x4 + 1)) H
def f_X7_partsOf (x1 : Int) (x2 : Int) (M : Mem) : Option Int :=
  f_X7_partsOf_L5
    x1 x2 M 100000 0 0
set_option maxHeartbeats 4000000 in
theorem t_X7_partsOf (l : Launch) (g : GG) (ad : Nat → Nat) (S : SW) (M : Mem) (hS : q_ag 1 3 ad S) (x1 : Int) (x2 : Int) {r : Int} (H : f_X7_partsOf x1 x2 M = some r) : CT l g MX7_partsOf 3 0 0 S M [.inr (.inr (some (ad 1))), .inl x1, .inl x2] (q_ex S (some (.inl r)) M) := by
  unfold f_X7_partsOf at H
  refine CT_of (ls0 := [some (.inr (.inr (some (ad 1)))), some (.inl x1), some (.inl x2), none, none]) (by decide +kernel) (Nat.le_of_ble_eq_true rfl) rfl ?_
  refine R_iconst (dX7_partsOf 0 rfl) rfl ?_
  refine R_istore_n (i := 3) (ls' := [some (.inr (.inr (some (ad 1)))), some (.inl x1), some (.inl x2), some (.inl 0), none]) (dX7_partsOf 1 rfl) rfl (Nat.le_of_ble_eq_true rfl) (Nat.le_of_ble_eq_true rfl) rfl rfl ?_
  refine R_iconst (dX7_partsOf 2 rfl) rfl ?_
  refine R_istore (i := 4) (ls' := [some (.inr (.inr (some (ad 1)))), some (.inl x1), some (.inl x2), some (.inl 0), some (.inl 0)]) (dX7_partsOf 3 rfl) (Nat.le_of_ble_eq_true rfl) (Nat.le_of_ble_eq_true rfl) rfl rfl ?_
  exact t_X7_partsOf_L5 l g ad S M hS x1 x2  100000 0 0 H 
def f_X3_add_L29 (x2 : Int) (x4 : Int) : Nat → Int → Mem → Option (Int × Mem)
  | 0, _, _ => none
  | n + 1, x5, M =>
    if x5 < 720 then
      (f_X7_partsOf x5 x2 M).bind fun r25 =>
      f_X3_add_L29 x2 x4 n (w32 (x5 + 1)) (wr M 6 7200 (w32 ((w32 (x4 * 720)) + x5)) r25)
    else
      some (x4, (mset M 3 3 (w32 ((M 3 3) + 1))))
set_option maxHeartbeats 4000000 in
theorem t_X3_add_L29 (l : Launch) (g : GG) (ad : Nat → Nat) (S : SW) (hS : q_ag 0 38 ad S) (x2 : Int) (x4 : Int) {r : Int} {M' : Mem} : ∀ (n : Nat) (x5 : Int) (M : Mem), f_X3_add_L29 x2 x4 n x5 M = some (r, M') → RW l g MX3_add (q_rm 4 0 0) 0 0 (q_ex S (some (.inl r)) M') 29 S M 0 0 [some (.inr (.inr (some (ad 3)))), some (.inr (.inr (some (ad 1)))), some (.inl x2), none, some (.inl x4), some (.inl x5)] [] := by
  intro n
  induction n with
  | zero => intro x5 M H; exact absurd H (by simp [f_X3_add_L29])
  | succ n ih =>
    intro x5 M H
    rw [f_X3_add_L29] at H
    refine R_iload (i := 5) (dX3_add 15 rfl) rfl ?_
    refine R_sipush (dX3_add 16 rfl) rfl rfl ?_
    refine R_icmp_ge (tgt := 66) (dX3_add 17 rfl) (by decide) (fun hc => ?_) (fun hc => ?_)
    · have H := ite_F H hc
      refine R_aload_n (i := 0) (dX3_add 32 rfl) rfl rfl ?_
      refine R_dup rfl (dX3_add 33 rfl) ?_
      refine R_getI cgX3 3 (cl3 hS) 3 (Nat.le_of_ble_eq_true rfl) rfl (Or.inl tb_141) (dX3_add 34 rfl) ?_
      refine R_iconst (dX3_add 35 rfl) rfl ?_
      refine R_iadd (dX3_add 36 rfl) ?_
      refine R_putI cgX3 3 (cl3 hS) 3 (Nat.le_of_ble_eq_true rfl) rfl rfl rfl rfl (Or.inl tb_141) (dX3_add 37 rfl) ?_
      refine R_iload (i := 4) (dX3_add 38 rfl) rfl ?_
      exact R_iret rfl rfl (Nat.zero_le _) (Nat.zero_le _) (dX3_add 39 rfl) ⟨congrArg (fun z => some (Sum.inl z)) (Prod.mk.inj (Option.some.inj H)).1, rfl, (Prod.mk.inj (Option.some.inj H)).2⟩
    · have H := ite_T H hc
      refine R_aload_n (i := 0) (dX3_add 18 rfl) rfl rfl ?_
      refine R_getR cgX3 3 (cl3 hS) 2 (Nat.le_of_ble_eq_true rfl) rfl (Or.inl tb_139) (dX3_add 19 rfl) ?_
      refine R_iload (i := 4) (dX3_add 20 rfl) rfl ?_
      refine R_sipush (dX3_add 21 rfl) rfl rfl ?_
      refine R_imul (dX3_add 22 rfl) ?_
      refine R_iload (i := 5) (dX3_add 23 rfl) rfl ?_
      refine R_iadd (dX3_add 24 rfl) ?_
      refine R_aload_n (i := 1) (dX3_add 25 rfl) rfl rfl ?_
      refine R_iload (i := 5) (dX3_add 26 rfl) rfl ?_
      refine R_iload_n (i := 2) (dX3_add 27 rfl) rfl rfl ?_
      obtain ⟨r25, hr, H⟩ := op_E H
      refine R_cV (st' := [.inl r25, .inl (w32 ((w32 (x4 * 720)) + x5)), .inr (.inr (some (ad 6)))]) [.inl x5, .inl x2] [.inl (w32 ((w32 (x4 * 720)) + x5)), .inr (.inr (some (ad 6)))] (t_X7_partsOf l g ad S _ (q_ag_sub hS (Nat.le_of_ble_eq_true rfl) (Nat.le_of_ble_eq_true rfl))   x5 x2 hr) msX7_partsOf (Or.inl tb_620) (Or.inl ⟨1, 7, _, _, _, (cl1 hS), rfl⟩) ⟨Nat.le_of_ble_eq_true rfl, Nat.le_of_ble_eq_true rfl⟩ (Nat.zero_le _) (Nat.zero_le _) rfl rfl (Nat.le_of_ble_eq_true rfl) rfl (dX3_add 28 rfl) ?_
      refine R_cS (st' := []) [.inr (.inr (some (ad 6))), .inl (w32 ((w32 (x4 * 720)) + x5)), .inl r25] [] (t_put l g S _ 6 (cl6 hS) (Nat.le_of_ble_eq_true rfl) (w32 ((w32 (x4 * 720)) + x5)) r25) msX9_put (Or.inr ⟨_, tb_619⟩) ⟨Nat.le_of_ble_eq_true rfl, Nat.le_of_ble_eq_true rfl⟩ (Nat.zero_le _) (Nat.zero_le _) rfl rfl (Nat.le_of_ble_eq_true rfl) rfl (dX3_add 29 rfl) ?_
      refine R_iinc (i := 5) (ls' := [some (.inr (.inr (some (ad 3)))), some (.inr (.inr (some (ad 1)))), some (.inl x2), none, some (.inl x4), some (.inl (w32 (x5 + 1)))]) (dX3_add 30 rfl) rfl (Nat.le_of_ble_eq_true rfl) rfl rfl ?_
      refine R_goto (tgt := 29) (dX3_add 31 rfl) (by decide) ?_
      exact ih (w32 (x5 + 1)) (wr M 6 7200 (w32 ((w32 (x4 * 720)) + x5)) r25) H
def f_X3_add (x2 : Int) (x3 : Int) (M : Mem) : Option (Int × Mem) :=
  f_X3_add_L29
    x2 (M 3 3) 100000 0 (wr (wr M 4 10 (M 3 3) x2) 5 10 (M 3 3) x3)
set_option maxHeartbeats 4000000 in
theorem t_X3_add (l : Launch) (g : GG) (ad : Nat → Nat) (S : SW) (M : Mem) (hS : q_ag 0 38 ad S) (x2 : Int) (x3 : Int) {r : Int} {M' : Mem} (H : f_X3_add x2 x3 M = some (r, M')) : CT l g MX3_add 4 0 0 S M [.inr (.inr (some (ad 3))), .inr (.inr (some (ad 1))), .inl x2, .inl x3] (q_ex S (some (.inl r)) M') := by
  unfold f_X3_add at H
  refine CT_of (ls0 := [some (.inr (.inr (some (ad 3)))), some (.inr (.inr (some (ad 1)))), some (.inl x2), some (.inl x3), none, none]) (by decide +kernel) (Nat.le_of_ble_eq_true rfl) rfl ?_
  refine R_aload_n (i := 0) (dX3_add 0 rfl) rfl rfl ?_
  refine R_getI cgX3 3 (cl3 hS) 3 (Nat.le_of_ble_eq_true rfl) rfl (Or.inl tb_141) (dX3_add 1 rfl) ?_
  refine R_istore (i := 4) (ls' := [some (.inr (.inr (some (ad 3)))), some (.inr (.inr (some (ad 1)))), some (.inl x2), some (.inl x3), some (.inl (M 3 3)), none]) (dX3_add 2 rfl) (Nat.le_of_ble_eq_true rfl) (Nat.le_of_ble_eq_true rfl) rfl rfl ?_
  refine R_aload_n (i := 0) (dX3_add 3 rfl) rfl rfl ?_
  refine R_getR cgX3 3 (cl3 hS) 0 (Nat.le_of_ble_eq_true rfl) rfl (Or.inl tb_136) (dX3_add 4 rfl) ?_
  refine R_iload (i := 4) (dX3_add 5 rfl) rfl ?_
  refine R_iload_n (i := 2) (dX3_add 6 rfl) rfl rfl ?_
  refine R_cS (st' := []) [.inr (.inr (some (ad 4))), .inl (M 3 3), .inl x2] [] (t_put l g S _ 4 (cl4 hS) (Nat.le_of_ble_eq_true rfl) (M 3 3) x2) msX9_put (Or.inr ⟨_, tb_619⟩) ⟨Nat.le_of_ble_eq_true rfl, Nat.le_of_ble_eq_true rfl⟩ (Nat.zero_le _) (Nat.zero_le _) rfl rfl (Nat.le_of_ble_eq_true rfl) rfl (dX3_add 7 rfl) ?_
  refine R_aload_n (i := 0) (dX3_add 8 rfl) rfl rfl ?_
  refine R_getR cgX3 3 (cl3 hS) 1 (Nat.le_of_ble_eq_true rfl) rfl (Or.inl tb_137) (dX3_add 9 rfl) ?_
  refine R_iload (i := 4) (dX3_add 10 rfl) rfl ?_
  refine R_iload_n (i := 3) (dX3_add 11 rfl) rfl rfl ?_
  refine R_cS (st' := []) [.inr (.inr (some (ad 5))), .inl (M 3 3), .inl x3] [] (t_put l g S _ 5 (cl5 hS) (Nat.le_of_ble_eq_true rfl) (M 3 3) x3) msX9_put (Or.inr ⟨_, tb_619⟩) ⟨Nat.le_of_ble_eq_true rfl, Nat.le_of_ble_eq_true rfl⟩ (Nat.zero_le _) (Nat.zero_le _) rfl rfl (Nat.le_of_ble_eq_true rfl) rfl (dX3_add 12 rfl) ?_
  refine R_iconst (dX3_add 13 rfl) rfl ?_
  refine R_istore (i := 5) (ls' := [some (.inr (.inr (some (ad 3)))), some (.inr (.inr (some (ad 1)))), some (.inl x2), some (.inl x3), some (.inl (M 3 3)), some (.inl 0)]) (dX3_add 14 rfl) (Nat.le_of_ble_eq_true rfl) (Nat.le_of_ble_eq_true rfl) rfl rfl ?_
  refine R_mask [true, true, true, false, true, true] rfl ?_
  exact t_X3_add_L29 l g ad S hS x2 (M 3 3)  100000 0 (wr (wr M 4 10 (M 3 3) x2) 5 10 (M 3 3) x3) H 
def f_X3_everyLine (M : Mem) : Int :=
  w32 ((b_shl 1 (M 3 3)) - 1)
set_option maxHeartbeats 4000000 in
theorem t_X3_everyLine (l : Launch) (g : GG) (ad : Nat → Nat) (S : SW) (M : Mem) (hS : q_ag 0 38 ad S) : CT l g MX3_everyLine 1 0 0 S M [.inr (.inr (some (ad 3)))] (q_ex S (some (.inl (f_X3_everyLine M))) M) := by
  obtain ⟨r, H⟩ : ∃ r, f_X3_everyLine M = r := ⟨_, rfl⟩
  rw [H]
  unfold f_X3_everyLine at H
  refine CT_of (ls0 := [some (.inr (.inr (some (ad 3))))]) (by decide +kernel) (Nat.le_of_ble_eq_true rfl) rfl ?_
  refine R_iconst (dX3_everyLine 0 rfl) rfl ?_
  refine R_aload_n (i := 0) (dX3_everyLine 1 rfl) rfl rfl ?_
  refine R_getI cgX3 3 (cl3 hS) 3 (Nat.le_of_ble_eq_true rfl) rfl (Or.inl tb_141) (dX3_everyLine 2 rfl) ?_
  refine R_ishl (dX3_everyLine 3 rfl) ?_
  refine R_iconst (dX3_everyLine 4 rfl) rfl ?_
  refine R_isub (dX3_everyLine 5 rfl) ?_
  exact R_iret rfl rfl (Nat.zero_le _) (Nat.zero_le _) (dX3_everyLine 6 rfl) ⟨congrArg (fun z => some (Sum.inl z)) H, rfl, rfl⟩
def f_X3_pricesOf_L4 (x1 : Int) (M : Mem) : Nat → Int → Int → Option Int
  | 0, _, _ => none
  | n + 1, x2, x3 =>
    if x3 < M 3 3 then
      if b_and (b_shr x1 x3) 1 = 0 then
        f_X3_pricesOf_L4 x1 M n x2 (w32 (x3 + 1))
      else
        f_X3_pricesOf_L4 x1 M n (w32 (x2 + (f_X3_priceOf x3 M))) (w32 (x3 + 1))
    else
      some x2
set_option maxHeartbeats 4000000 in
theorem t_X3_pricesOf_L4 (l : Launch) (g : GG) (ad : Nat → Nat) (S : SW) (M : Mem) (hS : q_ag 0 38 ad S) (x1 : Int) {r : Int} : ∀ (n : Nat) (x2 : Int) (x3 : Int), f_X3_pricesOf_L4 x1 M n x2 x3 = some r → RW l g MX3_pricesOf (q_rm 3 0 0) 0 0 (q_ex S (some (.inl r)) M) 4 S M 0 0 [some (.inr (.inr (some (ad 3)))), some (.inl x1), some (.inl x2), some (.inl x3)] [] := by
  intro n
  induction n with
  | zero => intro x2 x3 H; exact absurd H (by simp [f_X3_pricesOf_L4])
  | succ n ih =>
    intro x2 x3 H
    rw [f_X3_pricesOf_L4] at H
    refine R_iload_n (i := 3) (dX3_pricesOf 4 rfl) rfl rfl ?_
    refine R_aload_n (i := 0) (dX3_pricesOf 5 rfl) rfl rfl ?_
    refine R_getI cgX3 3 (cl3 hS) 3 (Nat.le_of_ble_eq_true rfl) rfl (Or.inl tb_141) (dX3_pricesOf 6 rfl) ?_
    refine R_icmp_ge (tgt := 34) (dX3_pricesOf 7 rfl) (by decide) (fun hc => ?_) (fun hc => ?_)
    · have H := ite_F H hc
      refine R_iload_n (i := 2) (dX3_pricesOf 22 rfl) rfl rfl ?_
      exact R_iret rfl rfl (Nat.zero_le _) (Nat.zero_le _) (dX3_pricesOf 23 rfl) ⟨congrArg (fun z => some (Sum.inl z)) (Option.some.inj H), rfl, rfl⟩
    · have H := ite_T H hc
      refine R_iload_n (i := 1) (dX3_pricesOf 8 rfl) rfl rfl ?_
      refine R_iload_n (i := 3) (dX3_pricesOf 9 rfl) rfl rfl ?_
      refine R_ishr (dX3_pricesOf 10 rfl) ?_
      refine R_iconst (dX3_pricesOf 11 rfl) rfl ?_
      refine R_iand (dX3_pricesOf 12 rfl) ?_
      refine R_if_eq (tgt := 28) (dX3_pricesOf 13 rfl) (by decide) (fun hc => ?_) (fun hc => ?_)
      · have H := ite_T H hc
        refine R_iinc (i := 3) (ls' := [some (.inr (.inr (some (ad 3)))), some (.inl x1), some (.inl x2), some (.inl (w32 (x3 + 1)))]) (dX3_pricesOf 20 rfl) rfl (Nat.le_of_ble_eq_true rfl) rfl rfl ?_
        refine R_goto (tgt := 4) (dX3_pricesOf 21 rfl) (by decide) ?_
        exact ih x2 (w32 (x3 + 1)) H
      · have H := ite_F H hc
        refine R_iload_n (i := 2) (dX3_pricesOf 14 rfl) rfl rfl ?_
        refine R_aload_n (i := 0) (dX3_pricesOf 15 rfl) rfl rfl ?_
        refine R_iload_n (i := 3) (dX3_pricesOf 16 rfl) rfl rfl ?_
        refine R_cV (st' := [.inl (f_X3_priceOf x3 M), .inl x2]) [.inl x3] [.inl x2] (t_X3_priceOf l g ad S _ hS   x3) msX3_priceOf (Or.inl tb_963) (Or.inl ⟨3, 3, _, _, _, (cl3 hS), rfl⟩) ⟨Nat.le_of_ble_eq_true rfl, Nat.le_of_ble_eq_true rfl⟩ (Nat.zero_le _) (Nat.zero_le _) rfl rfl (Nat.le_of_ble_eq_true rfl) rfl (dX3_pricesOf 17 rfl) ?_
        refine R_iadd (dX3_pricesOf 18 rfl) ?_
        refine R_istore_n (i := 2) (ls' := [some (.inr (.inr (some (ad 3)))), some (.inl x1), some (.inl (w32 (x2 + (f_X3_priceOf x3 M)))), some (.inl x3)]) (dX3_pricesOf 19 rfl) rfl (Nat.le_of_ble_eq_true rfl) (Nat.le_of_ble_eq_true rfl) rfl rfl ?_
        refine R_iinc (i := 3) (ls' := [some (.inr (.inr (some (ad 3)))), some (.inl x1), some (.inl (w32 (x2 + (f_X3_priceOf x3 M)))), some (.inl (w32 (x3 + 1)))]) (dX3_pricesOf 20 rfl) rfl (Nat.le_of_ble_eq_true rfl) rfl rfl ?_
        refine R_goto (tgt := 4) (dX3_pricesOf 21 rfl) (by decide) ?_
        exact ih (w32 (x2 + (f_X3_priceOf x3 M))) (w32 (x3 + 1)) H
def f_X3_pricesOf (x1 : Int) (M : Mem) : Option Int :=
  f_X3_pricesOf_L4
    x1 M 100000 0 0
set_option maxHeartbeats 4000000 in
theorem t_X3_pricesOf (l : Launch) (g : GG) (ad : Nat → Nat) (S : SW) (M : Mem) (hS : q_ag 0 38 ad S) (x1 : Int) {r : Int} (H : f_X3_pricesOf x1 M = some r) : CT l g MX3_pricesOf 3 0 0 S M [.inr (.inr (some (ad 3))), .inl x1] (q_ex S (some (.inl r)) M) := by
  unfold f_X3_pricesOf at H
  refine CT_of (ls0 := [some (.inr (.inr (some (ad 3)))), some (.inl x1), none, none]) (by decide +kernel) (Nat.le_of_ble_eq_true rfl) rfl ?_
  refine R_iconst (dX3_pricesOf 0 rfl) rfl ?_
  refine R_istore_n (i := 2) (ls' := [some (.inr (.inr (some (ad 3)))), some (.inl x1), some (.inl 0), none]) (dX3_pricesOf 1 rfl) rfl (Nat.le_of_ble_eq_true rfl) (Nat.le_of_ble_eq_true rfl) rfl rfl ?_
  refine R_iconst (dX3_pricesOf 2 rfl) rfl ?_
  refine R_istore_n (i := 3) (ls' := [some (.inr (.inr (some (ad 3)))), some (.inl x1), some (.inl 0), some (.inl 0)]) (dX3_pricesOf 3 rfl) rfl (Nat.le_of_ble_eq_true rfl) (Nat.le_of_ble_eq_true rfl) rfl rfl ?_
  exact t_X3_pricesOf_L4 l g ad S M hS x1  100000 0 0 H 
