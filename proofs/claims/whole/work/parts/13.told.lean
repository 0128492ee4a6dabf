def f_X9_partsOfLine (x1 : Int) (x2 : Int) (M : Mem) : Option (Int × Mem) :=
  if f_X9_isLine x1 M = 0 then
    some ((-5), M)
  else
    if f_X9_within x2 0 1 = 0 then
      some ((-7), M)
    else
      ob (f_X9_fitting M) fun r202 M203 =>
      if M203 21 5 = 0 then
        some ((-1), M203)
      else
        if x2 = 0 then
          (f_X1_partsInAll x1 M203).bind fun r205 =>
          some (r205, M203)
        else
          (f_X1_partsInAny x1 M203).bind fun r204 =>
          some (r204, M203)
set_option maxHeartbeats 4000000 in
theorem t_X9_partsOfLine (l : Launch) (g : GG) (ad : Nat → Nat) (S : SW) (M : Mem) (hS : q_ag 0 38 ad S) (x1 : Int) (x2 : Int) {r : Int} {M' : Mem} (H : f_X9_partsOfLine x1 x2 M = some (r, M')) : CT l g MX9_partsOfLine 7 0 0 S M [.inr (.inr (some (ad 0))), .inl x1, .inl x2] (q_ex S (some (.inl r)) M') := by
  unfold f_X9_partsOfLine at H
  refine CT_of (ls0 := [some (.inr (.inr (some (ad 0)))), some (.inl x1), some (.inl x2), none]) (by decide +kernel) (Nat.le_of_ble_eq_true rfl) rfl ?_
  refine R_aload_n (i := 0) (dX9_partsOfLine 0 rfl) rfl rfl ?_
  refine R_iload_n (i := 1) (dX9_partsOfLine 1 rfl) rfl rfl ?_
  refine R_cV (st' := [.inl (f_X9_isLine x1 M)]) [.inl x1] [] (t_X9_isLine l g ad S _ hS   x1) msX9_isLine (Or.inl tb_632) (Or.inl ⟨0, 9, _, _, _, (cl0 hS), rfl⟩) ⟨Nat.le_of_ble_eq_true rfl, Nat.le_of_ble_eq_true rfl⟩ (Nat.zero_le _) (Nat.zero_le _) rfl rfl (Nat.le_of_ble_eq_true rfl) rfl (dX9_partsOfLine 2 rfl) ?_
  refine R_if_ne (tgt := 11) (dX9_partsOfLine 3 rfl) (by decide) (fun hc => ?_) (fun hc => ?_)
  · have H := ite_F H hc
    refine R_iload_n (i := 2) (dX9_partsOfLine 6 rfl) rfl rfl ?_
    refine R_iconst (dX9_partsOfLine 7 rfl) rfl ?_
    refine R_iconst (dX9_partsOfLine 8 rfl) rfl ?_
    refine R_cS (st' := [.inl (f_X9_within x2 0 1)]) [.inl x2, .inl 0, .inl 1] [] (t_X9_within l g S _   x2 0 1) msX9_within (Or.inl tb_603) ⟨Nat.le_of_ble_eq_true rfl, Nat.le_of_ble_eq_true rfl⟩ (Nat.zero_le _) (Nat.zero_le _) rfl rfl (Nat.le_of_ble_eq_true rfl) rfl (dX9_partsOfLine 9 rfl) ?_
    refine R_if_ne (tgt := 23) (dX9_partsOfLine 10 rfl) (by decide) (fun hc => ?_) (fun hc => ?_)
    · have H := ite_F H hc
      refine R_aload_n (i := 0) (dX9_partsOfLine 13 rfl) rfl rfl ?_
      obtain ⟨r202, M203, hr, H⟩ := ob_E H
      refine R_cV (st' := [.inr (.inr (some (ad 21)))]) [] [] (t_X9_fitting l g ad S _ hS   hr) msX9_fitting (Or.inl tb_732) (Or.inl ⟨0, 9, _, _, _, (cl0 hS), rfl⟩) ⟨Nat.le_of_ble_eq_true rfl, Nat.le_of_ble_eq_true rfl⟩ (Nat.zero_le _) (Nat.zero_le _) rfl rfl (Nat.le_of_ble_eq_true rfl) rfl (dX9_partsOfLine 14 rfl) ?_
      refine R_astore_n (i := 3) (ls' := [some (.inr (.inr (some (ad 0)))), some (.inl x1), some (.inl x2), some (.inr (.inr (some (ad 21))))]) (dX9_partsOfLine 15 rfl) rfl (Nat.le_of_ble_eq_true rfl) (Nat.le_of_ble_eq_true rfl) rfl rfl ?_
      refine R_aload_n (i := 3) (dX9_partsOfLine 16 rfl) rfl rfl ?_
      refine R_getI cgX1 21 (cl21 hS) 5 (Nat.le_of_ble_eq_true rfl) rfl (Or.inr ⟨_, tb_465⟩) (dX9_partsOfLine 17 rfl) ?_
      refine R_if_ne (tgt := 37) (dX9_partsOfLine 18 rfl) (by decide) (fun hc => ?_) (fun hc => ?_)
      · have H := ite_F H hc
        refine R_iload_n (i := 2) (dX9_partsOfLine 21 rfl) rfl rfl ?_
        refine R_if_ne (tgt := 49) (dX9_partsOfLine 22 rfl) (by decide) (fun hc => ?_) (fun hc => ?_)
        · have H := ite_F H hc
          refine R_aload_n (i := 3) (dX9_partsOfLine 27 rfl) rfl rfl ?_
          refine R_iload_n (i := 1) (dX9_partsOfLine 28 rfl) rfl rfl ?_
          obtain ⟨r204, hr, H⟩ := op_E H
          refine R_cV (st' := [.inl r204]) [.inl x1] [] (t_X1_partsInAny l g ad S _ hS   x1 hr) msX1_partsInAny (Or.inl tb_846) (Or.inl ⟨21, 1, _, _, _, (cl21 hS), rfl⟩) ⟨Nat.le_of_ble_eq_true rfl, Nat.le_of_ble_eq_true rfl⟩ (Nat.zero_le _) (Nat.zero_le _) rfl rfl (Nat.le_of_ble_eq_true rfl) rfl (dX9_partsOfLine 29 rfl) ?_
          exact R_iret rfl rfl (Nat.zero_le _) (Nat.zero_le _) (dX9_partsOfLine 30 rfl) ⟨congrArg (fun z => some (Sum.inl z)) (Prod.mk.inj (Option.some.inj H)).1, rfl, (Prod.mk.inj (Option.some.inj H)).2⟩
        · have H := ite_T H hc
          refine R_aload_n (i := 3) (dX9_partsOfLine 23 rfl) rfl rfl ?_
          refine R_iload_n (i := 1) (dX9_partsOfLine 24 rfl) rfl rfl ?_
          obtain ⟨r205, hr, H⟩ := op_E H
          refine R_cV (st' := [.inl r205]) [.inl x1] [] (t_X1_partsInAll l g ad S _ hS   x1 hr) msX1_partsInAll (Or.inl tb_842) (Or.inl ⟨21, 1, _, _, _, (cl21 hS), rfl⟩) ⟨Nat.le_of_ble_eq_true rfl, Nat.le_of_ble_eq_true rfl⟩ (Nat.zero_le _) (Nat.zero_le _) rfl rfl (Nat.le_of_ble_eq_true rfl) rfl (dX9_partsOfLine 25 rfl) ?_
          refine R_goto (tgt := 54) (dX9_partsOfLine 26 rfl) (by decide) ?_
          exact R_iret rfl rfl (Nat.zero_le _) (Nat.zero_le _) (dX9_partsOfLine 30 rfl) ⟨congrArg (fun z => some (Sum.inl z)) (Prod.mk.inj (Option.some.inj H)).1, rfl, (Prod.mk.inj (Option.some.inj H)).2⟩
      · have H := ite_T H hc
        refine R_iconst (dX9_partsOfLine 19 rfl) rfl ?_
        exact R_iret rfl rfl (Nat.zero_le _) (Nat.zero_le _) (dX9_partsOfLine 20 rfl) ⟨congrArg (fun z => some (Sum.inl z)) (Prod.mk.inj (Option.some.inj H)).1, rfl, (Prod.mk.inj (Option.some.inj H)).2⟩
    · have H := ite_T H hc
      refine R_bipush (dX9_partsOfLine 11 rfl) rfl rfl ?_
      exact R_iret rfl rfl (Nat.zero_le _) (Nat.zero_le _) (dX9_partsOfLine 12 rfl) ⟨congrArg (fun z => some (Sum.inl z)) (Prod.mk.inj (Option.some.inj H)).1, rfl, (Prod.mk.inj (Option.some.inj H)).2⟩
  · have H := ite_T H hc
    refine R_bipush (dX9_partsOfLine 4 rfl) rfl rfl ?_
    exact R_iret rfl rfl (Nat.zero_le _) (Nat.zero_le _) (dX9_partsOfLine 5 rfl) ⟨congrArg (fun z => some (Sum.inl z)) (Prod.mk.inj (Option.some.inj H)).1, rfl, (Prod.mk.inj (Option.some.inj H)).2⟩
def f_X9_safeLines_L5 (x2 : Int) (M : Mem) : Nat → Int → Int → Option Int
  | 0, _, _ => none
  | n + 1, x3, x4 =>
    if x4 < M 3 3 then
      if 0 < M 21 5 then
        (f_X1_withAny x4 (rd 4 (M 37) x2) M).bind fun r206 =>
        if r206 = 0 then
          f_X9_safeLines_L5 x2 M n (b_or x3 (b_shl 1 x4)) (w32 (x4 + 1))
        else
          f_X9_safeLines_L5 x2 M n x3 (w32 (x4 + 1))
      else
        some x3
    else
      some x3
set_option maxHeartbeats 4000000 in
theorem t_X9_safeLines_L5 (l : Launch) (g : GG) (ad : Nat → Nat) (S : SW) (M : Mem) (hS : q_ag 0 38 ad S) (x2 : Int) {r : Int} : ∀ (n : Nat) (x3 : Int) (x4 : Int), f_X9_safeLines_L5 x2 M n x3 x4 = some r → RW l g MX9_safeLines (q_rm 4 0 0) 0 0 (q_ex S (some (.inl r)) M) 5 S M 0 0 [some (.inr (.inr (some (ad 0)))), some (.inr (.inr (some (ad 21)))), some (.inl x2), some (.inl x3), some (.inl x4)] [] := by
  intro n
  induction n with
  | zero => intro x3 x4 H; exact absurd H (by simp [f_X9_safeLines_L5])
  | succ n ih =>
    intro x3 x4 H
    rw [f_X9_safeLines_L5] at H
    refine R_iload (i := 4) (dX9_safeLines 4 rfl) rfl ?_
    refine R_aload_n (i := 0) (dX9_safeLines 5 rfl) rfl rfl ?_
    refine R_getR cgX9 0 (cl0 hS) 1 (Nat.le_of_ble_eq_true rfl) rfl (Or.inl tb_554) (dX9_safeLines 6 rfl) ?_
    refine R_getI cgX3 3 (cl3 hS) 3 (Nat.le_of_ble_eq_true rfl) rfl (Or.inr ⟨_, tb_140⟩) (dX9_safeLines 7 rfl) ?_
    refine R_icmp_ge (tgt := 54) (dX9_safeLines 8 rfl) (by decide) (fun hc => ?_) (fun hc => ?_)
    · have H := ite_F H hc
      refine R_iload_n (i := 3) (dX9_safeLines 28 rfl) rfl rfl ?_
      exact R_iret rfl rfl (Nat.zero_le _) (Nat.zero_le _) (dX9_safeLines 29 rfl) ⟨congrArg (fun z => some (Sum.inl z)) (Option.some.inj H), rfl, rfl⟩
    · have H := ite_T H hc
      refine R_aload_n (i := 1) (dX9_safeLines 9 rfl) rfl rfl ?_
      refine R_getI cgX1 21 (cl21 hS) 5 (Nat.le_of_ble_eq_true rfl) rfl (Or.inr ⟨_, tb_465⟩) (dX9_safeLines 10 rfl) ?_
      refine R_if_le (tgt := 54) (dX9_safeLines 11 rfl) (by decide) (fun hc => ?_) (fun hc => ?_)
      · have H := ite_F H hc
        refine R_iload_n (i := 3) (dX9_safeLines 28 rfl) rfl rfl ?_
        exact R_iret rfl rfl (Nat.zero_le _) (Nat.zero_le _) (dX9_safeLines 29 rfl) ⟨congrArg (fun z => some (Sum.inl z)) (Option.some.inj H), rfl, rfl⟩
      · have H := ite_T H hc
        refine R_aload_n (i := 1) (dX9_safeLines 12 rfl) rfl rfl ?_
        refine R_iload (i := 4) (dX9_safeLines 13 rfl) rfl ?_
        refine R_aload_n (i := 0) (dX9_safeLines 14 rfl) rfl rfl ?_
        refine R_getR cgX9 0 (cl0 hS) 8 (Nat.le_of_ble_eq_true rfl) rfl (Or.inl tb_561) (dX9_safeLines 15 rfl) ?_
        refine R_iload_n (i := 2) (dX9_safeLines 16 rfl) rfl rfl ?_
        refine R_cS (st' := [.inl (rd 4 (M 37) x2), .inl x4, .inr (.inr (some (ad 21)))]) [.inr (.inr (some (ad 37))), .inl x2] [.inl x4, .inr (.inr (some (ad 21)))] (t_at l g S _ 37 (cl37 hS) (Nat.le_of_ble_eq_true rfl) x2) msX9_at (Or.inl tb_663) ⟨Nat.le_of_ble_eq_true rfl, Nat.le_of_ble_eq_true rfl⟩ (Nat.zero_le _) (Nat.zero_le _) rfl rfl (Nat.le_of_ble_eq_true rfl) rfl (dX9_safeLines 17 rfl) ?_
        obtain ⟨r206, hr, H⟩ := op_E H
        refine R_cV (st' := [.inl r206]) [.inl x4, .inl (rd 4 (M 37) x2)] [] (t_X1_withAny l g ad S _ hS   x4 (rd 4 (M 37) x2) hr) msX1_withAny (Or.inl tb_858) (Or.inl ⟨21, 1, _, _, _, (cl21 hS), rfl⟩) ⟨Nat.le_of_ble_eq_true rfl, Nat.le_of_ble_eq_true rfl⟩ (Nat.zero_le _) (Nat.zero_le _) rfl rfl (Nat.le_of_ble_eq_true rfl) rfl (dX9_safeLines 18 rfl) ?_
        refine R_if_ne (tgt := 48) (dX9_safeLines 19 rfl) (by decide) (fun hc => ?_) (fun hc => ?_)
        · have H := ite_F H hc
          refine R_iinc (i := 4) (ls' := [some (.inr (.inr (some (ad 0)))), some (.inr (.inr (some (ad 21)))), some (.inl x2), some (.inl x3), some (.inl (w32 (x4 + 1)))]) (dX9_safeLines 26 rfl) rfl (Nat.le_of_ble_eq_true rfl) rfl rfl ?_
          refine R_goto (tgt := 5) (dX9_safeLines 27 rfl) (by decide) ?_
          exact ih x3 (w32 (x4 + 1)) H
        · have H := ite_T H hc
          refine R_iload_n (i := 3) (dX9_safeLines 20 rfl) rfl rfl ?_
          refine R_iconst (dX9_safeLines 21 rfl) rfl ?_
          refine R_iload (i := 4) (dX9_safeLines 22 rfl) rfl ?_
          refine R_ishl (dX9_safeLines 23 rfl) ?_
          refine R_ior (dX9_safeLines 24 rfl) ?_
          refine R_istore_n (i := 3) (ls' := [some (.inr (.inr (some (ad 0)))), some (.inr (.inr (some (ad 21)))), some (.inl x2), some (.inl (b_or x3 (b_shl 1 x4))), some (.inl x4)]) (dX9_safeLines 25 rfl) rfl (Nat.le_of_ble_eq_true rfl) (Nat.le_of_ble_eq_true rfl) rfl rfl ?_
          refine R_iinc (i := 4) (ls' := [some (.inr (.inr (some (ad 0)))), some (.inr (.inr (some (ad 21)))), some (.inl x2), some (.inl (b_or x3 (b_shl 1 x4))), some (.inl (w32 (x4 + 1)))]) (dX9_safeLines 26 rfl) rfl (Nat.le_of_ble_eq_true rfl) rfl rfl ?_
          refine R_goto (tgt := 5) (dX9_safeLines 27 rfl) (by decide) ?_
          exact ih (b_or x3 (b_shl 1 x4)) (w32 (x4 + 1)) H
def f_X9_safeLines (x2 : Int) (M : Mem) : Option Int :=
  f_X9_safeLines_L5
    x2 M 100000 0 0
set_option maxHeartbeats 4000000 in
theorem t_X9_safeLines (l : Launch) (g : GG) (ad : Nat → Nat) (S : SW) (M : Mem) (hS : q_ag 0 38 ad S) (x2 : Int) {r : Int} (H : f_X9_safeLines x2 M = some r) : CT l g MX9_safeLines 4 0 0 S M [.inr (.inr (some (ad 0))), .inr (.inr (some (ad 21))), .inl x2] (q_ex S (some (.inl r)) M) := by
  unfold f_X9_safeLines at H
  refine CT_of (ls0 := [some (.inr (.inr (some (ad 0)))), some (.inr (.inr (some (ad 21)))), some (.inl x2), none, none]) (by decide +kernel) (Nat.le_of_ble_eq_true rfl) rfl ?_
  refine R_iconst (dX9_safeLines 0 rfl) rfl ?_
  refine R_istore_n (i := 3) (ls' := [some (.inr (.inr (some (ad 0)))), some (.inr (.inr (some (ad 21)))), some (.inl x2), some (.inl 0), none]) (dX9_safeLines 1 rfl) rfl (Nat.le_of_ble_eq_true rfl) (Nat.le_of_ble_eq_true rfl) rfl rfl ?_
  refine R_iconst (dX9_safeLines 2 rfl) rfl ?_
  refine R_istore (i := 4) (ls' := [some (.inr (.inr (some (ad 0)))), some (.inr (.inr (some (ad 21)))), some (.inl x2), some (.inl 0), some (.inl 0)]) (dX9_safeLines 3 rfl) (Nat.le_of_ble_eq_true rfl) (Nat.le_of_ble_eq_true rfl) rfl rfl ?_
  exact t_X9_safeLines_L5 l g ad S M hS x2  100000 0 0 H 
def f_X9_safe (x1 : Int) (M : Mem) : Option (Int × Mem) :=
  if f_X9_isGuest x1 M = 0 then
    some ((-5), M)
  else
    ob (f_X9_fitting M) fun r207 M208 =>
    (f_X9_safeLines x1 M208).bind fun r209 =>
    some (r209, M208)
set_option maxHeartbeats 4000000 in
theorem t_X9_safe (l : Launch) (g : GG) (ad : Nat → Nat) (S : SW) (M : Mem) (hS : q_ag 0 38 ad S) (x1 : Int) {r : Int} {M' : Mem} (H : f_X9_safe x1 M = some (r, M')) : CT l g MX9_safe 7 0 0 S M [.inr (.inr (some (ad 0))), .inl x1] (q_ex S (some (.inl r)) M') := by
  unfold f_X9_safe at H
  refine CT_of (ls0 := [some (.inr (.inr (some (ad 0)))), some (.inl x1)]) (by decide +kernel) (Nat.le_of_ble_eq_true rfl) rfl ?_
  refine R_aload_n (i := 0) (dX9_safe 0 rfl) rfl rfl ?_
  refine R_iload_n (i := 1) (dX9_safe 1 rfl) rfl rfl ?_
  refine R_cV (st' := [.inl (f_X9_isGuest x1 M)]) [.inl x1] [] (t_X9_isGuest l g ad S _ hS   x1) msX9_isGuest (Or.inl tb_659) (Or.inl ⟨0, 9, _, _, _, (cl0 hS), rfl⟩) ⟨Nat.le_of_ble_eq_true rfl, Nat.le_of_ble_eq_true rfl⟩ (Nat.zero_le _) (Nat.zero_le _) rfl rfl (Nat.le_of_ble_eq_true rfl) rfl (dX9_safe 2 rfl) ?_
  refine R_if_eq (tgt := 20) (dX9_safe 3 rfl) (by decide) (fun hc => ?_) (fun hc => ?_)
  · have H := ite_T H hc
    refine R_bipush (dX9_safe 10 rfl) rfl rfl ?_
    exact R_iret rfl rfl (Nat.zero_le _) (Nat.zero_le _) (dX9_safe 11 rfl) ⟨congrArg (fun z => some (Sum.inl z)) (Prod.mk.inj (Option.some.inj H)).1, rfl, (Prod.mk.inj (Option.some.inj H)).2⟩
  · have H := ite_F H hc
    refine R_aload_n (i := 0) (dX9_safe 4 rfl) rfl rfl ?_
    refine R_aload_n (i := 0) (dX9_safe 5 rfl) rfl rfl ?_
    obtain ⟨r207, M208, hr, H⟩ := ob_E H
    refine R_cV (st' := [.inr (.inr (some (ad 21))), .inr (.inr (some (ad 0)))]) [] [.inr (.inr (some (ad 0)))] (t_X9_fitting l g ad S _ hS   hr) msX9_fitting (Or.inl tb_732) (Or.inl ⟨0, 9, _, _, _, (cl0 hS), rfl⟩) ⟨Nat.le_of_ble_eq_true rfl, Nat.le_of_ble_eq_true rfl⟩ (Nat.zero_le _) (Nat.zero_le _) rfl rfl (Nat.le_of_ble_eq_true rfl) rfl (dX9_safe 6 rfl) ?_
    refine R_iload_n (i := 1) (dX9_safe 7 rfl) rfl rfl ?_
    obtain ⟨r209, hr, H⟩ := op_E H
    refine R_cV (st' := [.inl r209]) [.inr (.inr (some (ad 21))), .inl x1] [] (t_X9_safeLines l g ad S _ hS   x1 hr) msX9_safeLines (Or.inl tb_854) (Or.inl ⟨0, 9, _, _, _, (cl0 hS), rfl⟩) ⟨Nat.le_of_ble_eq_true rfl, Nat.le_of_ble_eq_true rfl⟩ (Nat.zero_le _) (Nat.zero_le _) rfl rfl (Nat.le_of_ble_eq_true rfl) rfl (dX9_safe 8 rfl) ?_
    refine R_goto (tgt := 22) (dX9_safe 9 rfl) (by decide) ?_
    exact R_iret rfl rfl (Nat.zero_le _) (Nat.zero_le _) (dX9_safe 11 rfl) ⟨congrArg (fun z => some (Sum.inl z)) (Prod.mk.inj (Option.some.inj H)).1, rfl, (Prod.mk.inj (Option.some.inj H)).2⟩
def f_X9_risk (x1 : Int) (x2 : Int) (x3 : Int) (M : Mem) : Option (Int × Mem) :=
  if f_X9_isGuest x1 M = 0 then
    some ((-4611686018427387904), M)
  else
    if f_X9_isLine x2 M = 0 then
      some ((-4611686018427387904), M)
    else
      if f_X9_isFractionPart x3 = 0 then
        some ((-4611686018427387904), M)
      else
        ob (f_X9_fitting M) fun r210 M211 =>
        (f_X1_withAny x2 (rd 4 (M211 37) x1) M211).bind fun r212 =>
        (f_X9_fraction r212 (M211 21 5) x3).bind fun r213 =>
        some (r213, M211)
set_option maxHeartbeats 4000000 in
theorem t_X9_risk (l : Launch) (g : GG) (ad : Nat → Nat) (S : SW) (M : Mem) (hS : q_ag 0 38 ad S) (x1 : Int) (x2 : Int) (x3 : Int) {r : Int} {M' : Mem} (H : f_X9_risk x1 x2 x3 M = some (r, M')) : CT l g MX9_risk 7 0 0 S M [.inr (.inr (some (ad 0))), .inl x1, .inl x2, .inl x3] (q_ex S (some (.inr (.inl r))) M') := by
  unfold f_X9_risk at H
  refine CT_of (ls0 := [some (.inr (.inr (some (ad 0)))), some (.inl x1), some (.inl x2), some (.inl x3), none]) (by decide +kernel) (Nat.le_of_ble_eq_true rfl) rfl ?_
  refine R_aload_n (i := 0) (dX9_risk 0 rfl) rfl rfl ?_
  refine R_iload_n (i := 1) (dX9_risk 1 rfl) rfl rfl ?_
  refine R_cV (st' := [.inl (f_X9_isGuest x1 M)]) [.inl x1] [] (t_X9_isGuest l g ad S _ hS   x1) msX9_isGuest (Or.inl tb_659) (Or.inl ⟨0, 9, _, _, _, (cl0 hS), rfl⟩) ⟨Nat.le_of_ble_eq_true rfl, Nat.le_of_ble_eq_true rfl⟩ (Nat.zero_le _) (Nat.zero_le _) rfl rfl (Nat.le_of_ble_eq_true rfl) rfl (dX9_risk 2 rfl) ?_
  refine R_if_eq (tgt := 23) (dX9_risk 3 rfl) (by decide) (fun hc => ?_) (fun hc => ?_)
  · have H := ite_T H hc
    refine R_ldc2 (z := (-4611686018427387904)) tb_819 ⟨by decide, by decide⟩ (dX9_risk 11 rfl) ?_
    exact R_lret rfl (Nat.zero_le _) (Nat.zero_le _) (dX9_risk 12 rfl) ⟨congrArg (fun z => some (Sum.inr (Sum.inl z))) (Prod.mk.inj (Option.some.inj H)).1, rfl, (Prod.mk.inj (Option.some.inj H)).2⟩
  · have H := ite_F H hc
    refine R_aload_n (i := 0) (dX9_risk 4 rfl) rfl rfl ?_
    refine R_iload_n (i := 2) (dX9_risk 5 rfl) rfl rfl ?_
    refine R_cV (st' := [.inl (f_X9_isLine x2 M)]) [.inl x2] [] (t_X9_isLine l g ad S _ hS   x2) msX9_isLine (Or.inl tb_632) (Or.inl ⟨0, 9, _, _, _, (cl0 hS), rfl⟩) ⟨Nat.le_of_ble_eq_true rfl, Nat.le_of_ble_eq_true rfl⟩ (Nat.zero_le _) (Nat.zero_le _) rfl rfl (Nat.le_of_ble_eq_true rfl) rfl (dX9_risk 6 rfl) ?_
    refine R_if_eq (tgt := 23) (dX9_risk 7 rfl) (by decide) (fun hc => ?_) (fun hc => ?_)
    · have H := ite_T H hc
      refine R_ldc2 (z := (-4611686018427387904)) tb_819 ⟨by decide, by decide⟩ (dX9_risk 11 rfl) ?_
      exact R_lret rfl (Nat.zero_le _) (Nat.zero_le _) (dX9_risk 12 rfl) ⟨congrArg (fun z => some (Sum.inr (Sum.inl z))) (Prod.mk.inj (Option.some.inj H)).1, rfl, (Prod.mk.inj (Option.some.inj H)).2⟩
    · have H := ite_F H hc
      refine R_iload_n (i := 3) (dX9_risk 8 rfl) rfl rfl ?_
      refine R_cS (st' := [.inl (f_X9_isFractionPart x3)]) [.inl x3] [] (t_X9_isFractionPart l g ad S _ hS   x3) msX9_isFractionPart (Or.inl tb_816) ⟨Nat.le_of_ble_eq_true rfl, Nat.le_of_ble_eq_true rfl⟩ (Nat.zero_le _) (Nat.zero_le _) rfl rfl (Nat.le_of_ble_eq_true rfl) rfl (dX9_risk 9 rfl) ?_
      refine R_if_ne (tgt := 27) (dX9_risk 10 rfl) (by decide) (fun hc => ?_) (fun hc => ?_)
      · have H := ite_F H hc
        refine R_aload_n (i := 0) (dX9_risk 13 rfl) rfl rfl ?_
        obtain ⟨r210, M211, hr, H⟩ := ob_E H
        refine R_cV (st' := [.inr (.inr (some (ad 21)))]) [] [] (t_X9_fitting l g ad S _ hS   hr) msX9_fitting (Or.inl tb_732) (Or.inl ⟨0, 9, _, _, _, (cl0 hS), rfl⟩) ⟨Nat.le_of_ble_eq_true rfl, Nat.le_of_ble_eq_true rfl⟩ (Nat.zero_le _) (Nat.zero_le _) rfl rfl (Nat.le_of_ble_eq_true rfl) rfl (dX9_risk 14 rfl) ?_
        refine R_astore (i := 4) (ls' := [some (.inr (.inr (some (ad 0)))), some (.inl x1), some (.inl x2), some (.inl x3), some (.inr (.inr (some (ad 21))))]) (dX9_risk 15 rfl) (Nat.le_of_ble_eq_true rfl) (Nat.le_of_ble_eq_true rfl) rfl rfl ?_
        refine R_aload (i := 4) (dX9_risk 16 rfl) rfl ?_
        refine R_iload_n (i := 2) (dX9_risk 17 rfl) rfl rfl ?_
        refine R_aload_n (i := 0) (dX9_risk 18 rfl) rfl rfl ?_
        refine R_getR cgX9 0 (cl0 hS) 8 (Nat.le_of_ble_eq_true rfl) rfl (Or.inl tb_561) (dX9_risk 19 rfl) ?_
        refine R_iload_n (i := 1) (dX9_risk 20 rfl) rfl rfl ?_
        refine R_cS (st' := [.inl (rd 4 (M211 37) x1), .inl x2, .inr (.inr (some (ad 21)))]) [.inr (.inr (some (ad 37))), .inl x1] [.inl x2, .inr (.inr (some (ad 21)))] (t_at l g S _ 37 (cl37 hS) (Nat.le_of_ble_eq_true rfl) x1) msX9_at (Or.inl tb_663) ⟨Nat.le_of_ble_eq_true rfl, Nat.le_of_ble_eq_true rfl⟩ (Nat.zero_le _) (Nat.zero_le _) rfl rfl (Nat.le_of_ble_eq_true rfl) rfl (dX9_risk 21 rfl) ?_
        obtain ⟨r212, hr, H⟩ := op_E H
        refine R_cV (st' := [.inl r212]) [.inl x2, .inl (rd 4 (M211 37) x1)] [] (t_X1_withAny l g ad S _ hS   x2 (rd 4 (M211 37) x1) hr) msX1_withAny (Or.inl tb_858) (Or.inl ⟨21, 1, _, _, _, (cl21 hS), rfl⟩) ⟨Nat.le_of_ble_eq_true rfl, Nat.le_of_ble_eq_true rfl⟩ (Nat.zero_le _) (Nat.zero_le _) rfl rfl (Nat.le_of_ble_eq_true rfl) rfl (dX9_risk 22 rfl) ?_
        refine R_aload (i := 4) (dX9_risk 23 rfl) rfl ?_
        refine R_getI cgX1 21 (cl21 hS) 5 (Nat.le_of_ble_eq_true rfl) rfl (Or.inr ⟨_, tb_465⟩) (dX9_risk 24 rfl) ?_
        refine R_iload_n (i := 3) (dX9_risk 25 rfl) rfl rfl ?_
        obtain ⟨r213, hr, H⟩ := op_E H
        refine R_cS (st' := [.inr (.inl r213)]) [.inl r212, .inl (M211 21 5), .inl x3] [] (t_X9_fraction l g ad S _ hS   r212 (M211 21 5) x3 hr) msX9_fraction (Or.inl tb_820) ⟨Nat.le_of_ble_eq_true rfl, Nat.le_of_ble_eq_true rfl⟩ (Nat.zero_le _) (Nat.zero_le _) rfl rfl (Nat.le_of_ble_eq_true rfl) rfl (dX9_risk 26 rfl) ?_
        exact R_lret rfl (Nat.zero_le _) (Nat.zero_le _) (dX9_risk 27 rfl) ⟨congrArg (fun z => some (Sum.inr (Sum.inl z))) (Prod.mk.inj (Option.some.inj H)).1, rfl, (Prod.mk.inj (Option.some.inj H)).2⟩
      · have H := ite_T H hc
        refine R_ldc2 (z := (-4611686018427387904)) tb_819 ⟨by decide, by decide⟩ (dX9_risk 11 rfl) ?_
        exact R_lret rfl (Nat.zero_le _) (Nat.zero_le _) (dX9_risk 12 rfl) ⟨congrArg (fun z => some (Sum.inr (Sum.inl z))) (Prod.mk.inj (Option.some.inj H)).1, rfl, (Prod.mk.inj (Option.some.inj H)).2⟩
def f_X9_liking_L6 (x2 : Int) (x3 : Int) : Nat → Int → Int → Mem → Option (Int × Mem)
  | 0, _, _, _ => none
  | n + 1, x4, x5, M =>
    if x5 < 64 then
      if 0 < f_X1_having x3 x5 M then
        ob (f_X6_says (M 0 11) 1 (f_X3_priceOf x3 M) x5 x3 x2 (M 21 5) M) fun r214 M215 =>
        f_X9_liking_L6 x2 x3 n (w32 (x4 + (w32 ((f_X1_having x3 x5 M) * r214)))) (w32 (x5 + 1)) M215
      else
        f_X9_liking_L6 x2 x3 n x4 (w32 (x5 + 1)) M
    else
      some (x4, M)
set_option maxHeartbeats 4000000 in
theorem t_X9_liking_L6 (l : Launch) (g : GG) (ad : Nat → Nat) (S : SW) (hS : q_ag 0 38 ad S) (x2 : Int) (x3 : Int) {r : Int} {M' : Mem} : ∀ (n : Nat) (x4 : Int) (x5 : Int) (M : Mem), f_X9_liking_L6 x2 x3 n x4 x5 M = some (r, M') → RW l g MX9_liking (q_rm 4 0 0) 0 0 (q_ex S (some (.inl r)) M') 6 S M 0 0 [some (.inr (.inr (some (ad 0)))), some (.inr (.inr (some (ad 21)))), some (.inl x2), some (.inl x3), some (.inl x4), some (.inl x5), none] [] := by
  intro n
  induction n with
  | zero => intro x4 x5 M H; exact absurd H (by simp [f_X9_liking_L6])
  | succ n ih =>
    intro x4 x5 M H
    rw [f_X9_liking_L6] at H
    refine R_iload (i := 5) (dX9_liking 4 rfl) rfl ?_
    refine R_bipush (dX9_liking 5 rfl) rfl rfl ?_
    refine R_icmp_ge (tgt := 69) (dX9_liking 6 rfl) (by decide) (fun hc => ?_) (fun hc => ?_)
    · have H := ite_F H hc
      refine R_iload (i := 4) (dX9_liking 36 rfl) rfl ?_
      exact R_iret rfl rfl (Nat.zero_le _) (Nat.zero_le _) (dX9_liking 37 rfl) ⟨congrArg (fun z => some (Sum.inl z)) (Prod.mk.inj (Option.some.inj H)).1, rfl, (Prod.mk.inj (Option.some.inj H)).2⟩
    · have H := ite_T H hc
      refine R_aload_n (i := 1) (dX9_liking 7 rfl) rfl rfl ?_
      refine R_iload_n (i := 3) (dX9_liking 8 rfl) rfl rfl ?_
      refine R_iload (i := 5) (dX9_liking 9 rfl) rfl ?_
      refine R_cV (st' := [.inl (f_X1_having x3 x5 M)]) [.inl x3, .inl x5] [] (t_X1_having l g ad S _ hS   x3 x5) msX1_having (Or.inl tb_878) (Or.inl ⟨21, 1, _, _, _, (cl21 hS), rfl⟩) ⟨Nat.le_of_ble_eq_true rfl, Nat.le_of_ble_eq_true rfl⟩ (Nat.zero_le _) (Nat.zero_le _) rfl rfl (Nat.le_of_ble_eq_true rfl) rfl (dX9_liking 10 rfl) ?_
      refine R_istore (i := 6) (ls' := [some (.inr (.inr (some (ad 0)))), some (.inr (.inr (some (ad 21)))), some (.inl x2), some (.inl x3), some (.inl x4), some (.inl x5), some (.inl (f_X1_having x3 x5 M))]) (dX9_liking 11 rfl) (Nat.le_of_ble_eq_true rfl) (Nat.le_of_ble_eq_true rfl) rfl rfl ?_
      refine R_iload (i := 6) (dX9_liking 12 rfl) rfl ?_
      refine R_if_le (tgt := 63) (dX9_liking 13 rfl) (by decide) (fun hc => ?_) (fun hc => ?_)
      · have H := ite_F H hc
        refine R_iinc (i := 5) (ls' := [some (.inr (.inr (some (ad 0)))), some (.inr (.inr (some (ad 21)))), some (.inl x2), some (.inl x3), some (.inl x4), some (.inl (w32 (x5 + 1))), some (.inl (f_X1_having x3 x5 M))]) (dX9_liking 34 rfl) rfl (Nat.le_of_ble_eq_true rfl) rfl rfl ?_
        refine R_goto (tgt := 6) (dX9_liking 35 rfl) (by decide) ?_
        refine R_mask [true, true, true, true, true, true, false] rfl ?_
        exact ih x4 (w32 (x5 + 1)) M H
      · have H := ite_T H hc
        refine R_iload (i := 4) (dX9_liking 14 rfl) rfl ?_
        refine R_iload (i := 6) (dX9_liking 15 rfl) rfl ?_
        refine R_aload_n (i := 0) (dX9_liking 16 rfl) rfl rfl ?_
        refine R_getR cgX9 0 (cl0 hS) 3 (Nat.le_of_ble_eq_true rfl) rfl (Or.inl tb_556) (dX9_liking 17 rfl) ?_
        refine R_aload_n (i := 0) (dX9_liking 18 rfl) rfl rfl ?_
        refine R_getI cgX9 0 (cl0 hS) 11 (Nat.le_of_ble_eq_true rfl) rfl (Or.inl tb_564) (dX9_liking 19 rfl) ?_
        refine R_iconst (dX9_liking 20 rfl) rfl ?_
        refine R_aload_n (i := 0) (dX9_liking 21 rfl) rfl rfl ?_
        refine R_getR cgX9 0 (cl0 hS) 1 (Nat.le_of_ble_eq_true rfl) rfl (Or.inl tb_554) (dX9_liking 22 rfl) ?_
        refine R_iload_n (i := 3) (dX9_liking 23 rfl) rfl rfl ?_
        refine R_cV (st' := [.inl (f_X3_priceOf x3 M), .inl 1, .inl (M 0 11), .inr (.inr (some (ad 12))), .inl (f_X1_having x3 x5 M), .inl x4]) [.inl x3] [.inl 1, .inl (M 0 11), .inr (.inr (some (ad 12))), .inl (f_X1_having x3 x5 M), .inl x4] (t_X3_priceOf l g ad S _ hS   x3) msX3_priceOf (Or.inl tb_641) (Or.inl ⟨3, 3, _, _, _, (cl3 hS), rfl⟩) ⟨Nat.le_of_ble_eq_true rfl, Nat.le_of_ble_eq_true rfl⟩ (Nat.zero_le _) (Nat.zero_le _) rfl rfl (Nat.le_of_ble_eq_true rfl) rfl (dX9_liking 24 rfl) ?_
        refine R_iload (i := 5) (dX9_liking 25 rfl) rfl ?_
        refine R_iload_n (i := 3) (dX9_liking 26 rfl) rfl rfl ?_
        refine R_iload_n (i := 2) (dX9_liking 27 rfl) rfl rfl ?_
        refine R_aload_n (i := 1) (dX9_liking 28 rfl) rfl rfl ?_
        refine R_getI cgX1 21 (cl21 hS) 5 (Nat.le_of_ble_eq_true rfl) rfl (Or.inr ⟨_, tb_465⟩) (dX9_liking 29 rfl) ?_
        obtain ⟨r214, M215, hr, H⟩ := ob_E H
        refine R_cV (st' := [.inl r214, .inl (f_X1_having x3 x5 M), .inl x4]) [.inl (M 0 11), .inl 1, .inl (f_X3_priceOf x3 M), .inl x5, .inl x3, .inl x2, .inl (M 21 5)] [.inl (f_X1_having x3 x5 M), .inl x4] (t_X6_says l g ad S _ (q_ag_sub hS (Nat.le_of_ble_eq_true rfl) (Nat.le_of_ble_eq_true rfl))   (M 0 11) 1 (f_X3_priceOf x3 M) x5 x3 x2 (M 21 5) hr) msX6_says (Or.inl tb_693) (Or.inl ⟨12, 6, _, _, _, (cl12 hS), rfl⟩) ⟨Nat.le_of_ble_eq_true rfl, Nat.le_of_ble_eq_true rfl⟩ (Nat.zero_le _) (Nat.zero_le _) rfl rfl (Nat.le_of_ble_eq_true rfl) rfl (dX9_liking 30 rfl) ?_
        refine R_imul (dX9_liking 31 rfl) ?_
        refine R_iadd (dX9_liking 32 rfl) ?_
        refine R_istore (i := 4) (ls' := [some (.inr (.inr (some (ad 0)))), some (.inr (.inr (some (ad 21)))), some (.inl x2), some (.inl x3), some (.inl (w32 (x4 + (w32 ((f_X1_having x3 x5 M) * r214))))), some (.inl x5), some (.inl (f_X1_having x3 x5 M))]) (dX9_liking 33 rfl) (Nat.le_of_ble_eq_true rfl) (Nat.le_of_ble_eq_true rfl) rfl rfl ?_
        refine R_iinc (i := 5) (ls' := [some (.inr (.inr (some (ad 0)))), some (.inr (.inr (some (ad 21)))), some (.inl x2), some (.inl x3), some (.inl (w32 (x4 + (w32 ((f_X1_having x3 x5 M) * r214))))), some (.inl (w32 (x5 + 1))), some (.inl (f_X1_having x3 x5 M))]) (dX9_liking 34 rfl) rfl (Nat.le_of_ble_eq_true rfl) rfl rfl ?_
        refine R_goto (tgt := 6) (dX9_liking 35 rfl) (by decide) ?_
        refine R_mask [true, true, true, true, true, true, false] rfl ?_
        exact ih (w32 (x4 + (w32 ((f_X1_having x3 x5 M) * r214)))) (w32 (x5 + 1)) M215 H
def f_X9_liking (x2 : Int) (x3 : Int) (M : Mem) : Option (Int × Mem) :=
  f_X9_liking_L6
    x2 x3 100000 0 0 M
set_option maxHeartbeats 4000000 in
theorem t_X9_liking (l : Launch) (g : GG) (ad : Nat → Nat) (S : SW) (M : Mem) (hS : q_ag 0 38 ad S) (x2 : Int) (x3 : Int) {r : Int} {M' : Mem} (H : f_X9_liking x2 x3 M = some (r, M')) : CT l g MX9_liking 4 0 0 S M [.inr (.inr (some (ad 0))), .inr (.inr (some (ad 21))), .inl x2, .inl x3] (q_ex S (some (.inl r)) M') := by
  unfold f_X9_liking at H
  refine CT_of (ls0 := [some (.inr (.inr (some (ad 0)))), some (.inr (.inr (some (ad 21)))), some (.inl x2), some (.inl x3), none, none, none]) (by decide +kernel) (Nat.le_of_ble_eq_true rfl) rfl ?_
  refine R_iconst (dX9_liking 0 rfl) rfl ?_
  refine R_istore (i := 4) (ls' := [some (.inr (.inr (some (ad 0)))), some (.inr (.inr (some (ad 21)))), some (.inl x2), some (.inl x3), some (.inl 0), none, none]) (dX9_liking 1 rfl) (Nat.le_of_ble_eq_true rfl) (Nat.le_of_ble_eq_true rfl) rfl rfl ?_
  refine R_iconst (dX9_liking 2 rfl) rfl ?_
  refine R_istore (i := 5) (ls' := [some (.inr (.inr (some (ad 0)))), some (.inr (.inr (some (ad 21)))), some (.inl x2), some (.inl x3), some (.inl 0), some (.inl 0), none]) (dX9_liking 3 rfl) (Nat.le_of_ble_eq_true rfl) (Nat.le_of_ble_eq_true rfl) rfl rfl ?_
  exact t_X9_liking_L6 l g ad S hS x2 x3  100000 0 0 M H 
def f_X9_planTonight_L20 (K69 : Mem → Option (Int × Mem)) (x2 : Int) (x3 : Int) : Nat → Int → Mem → Option (Int × Mem)
  | 0, _, _ => none
  | n + 1, x4, M =>
    if x4 < M 3 3 then
      if b_and (b_shr x3 x4) 1 = 0 then
        ob (f_X8_offer x2 x4 (-1) M) fun r217 M218 =>
        f_X9_planTonight_L20 K69 x2 x3 n (w32 (x4 + 1)) M218
      else
        ob (f_X9_liking x2 x4 M) fun r219 M220 =>
        ob (f_X8_offer x2 x4 r219 M220) fun r221 M222 =>
        f_X9_planTonight_L20 K69 x2 x3 n (w32 (x4 + 1)) M222
    else
      K69 M
set_option maxHeartbeats 4000000 in
theorem t_X9_planTonight_L20 (l : Launch) (g : GG) (ad : Nat → Nat) (S : SW) (hS : q_ag 0 38 ad S) (x2 : Int) (x3 : Int) {K69 : Mem → Option (Int × Mem)} {r : Int} {M' : Mem} : ∀ (n : Nat) (x4 : Int) (M : Mem), f_X9_planTonight_L20 K69 x2 x3 n x4 M = some (r, M') → (∀ (M1 : Mem), K69 M1 = some (r, M') → RW l g MX9_planTonight (q_rm 28 0 0) 0 0 (q_ex S none M') 69 S M1 0 0 [some (.inr (.inr (some (ad 0)))), some (.inr (.inr (some (ad 21)))), some (.inl x2), none, none] []) → RW l g MX9_planTonight (q_rm 28 0 0) 0 0 (q_ex S none M') 20 S M 0 0 [some (.inr (.inr (some (ad 0)))), some (.inr (.inr (some (ad 21)))), some (.inl x2), some (.inl x3), some (.inl x4)] [] := by
  intro n
  induction n with
  | zero => intro x4 M H; exact absurd H (by simp [f_X9_planTonight_L20])
  | succ n ih =>
    intro x4 M H hK69
    rw [f_X9_planTonight_L20] at H
    refine R_iload (i := 4) (dX9_planTonight 13 rfl) rfl ?_
    refine R_aload_n (i := 0) (dX9_planTonight 14 rfl) rfl rfl ?_
    refine R_getR cgX9 0 (cl0 hS) 1 (Nat.le_of_ble_eq_true rfl) rfl (Or.inl tb_554) (dX9_planTonight 15 rfl) ?_
    refine R_getI cgX3 3 (cl3 hS) 3 (Nat.le_of_ble_eq_true rfl) rfl (Or.inr ⟨_, tb_140⟩) (dX9_planTonight 16 rfl) ?_
    refine R_icmp_ge (tgt := 69) (dX9_planTonight 17 rfl) (by decide) (fun hc => ?_) (fun hc => ?_)
    · have H := ite_F H hc
      refine R_mask [true, true, true, false, false] rfl ?_
      exact hK69 M H
    · have H := ite_T H hc
      refine R_aload_n (i := 0) (dX9_planTonight 18 rfl) rfl rfl ?_
      refine R_getR cgX9 0 (cl0 hS) 5 (Nat.le_of_ble_eq_true rfl) rfl (Or.inl tb_558) (dX9_planTonight 19 rfl) ?_
      refine R_iload_n (i := 2) (dX9_planTonight 20 rfl) rfl rfl ?_
      refine R_iload (i := 4) (dX9_planTonight 21 rfl) rfl ?_
      refine R_iload_n (i := 3) (dX9_planTonight 22 rfl) rfl rfl ?_
      refine R_iload (i := 4) (dX9_planTonight 23 rfl) rfl ?_
      refine R_ishr (dX9_planTonight 24 rfl) ?_
      refine R_iconst (dX9_planTonight 25 rfl) rfl ?_
      refine R_iand (dX9_planTonight 26 rfl) ?_
      refine R_if_eq (tgt := 59) (dX9_planTonight 27 rfl) (by decide) (fun hc => ?_) (fun hc => ?_)
      · have H := ite_T H hc
        refine R_iconst (dX9_planTonight 34 rfl) rfl ?_
        obtain ⟨r217, M218, hr, H⟩ := ob_E H
        refine R_cV (st' := []) [.inl x2, .inl x4, .inl (-1)] [] (t_X8_offer l g ad S _ hS   x2 x4 (-1) hr) msX8_offer (Or.inl tb_879) (Or.inl ⟨27, 8, _, _, _, (cl27 hS), rfl⟩) ⟨Nat.le_of_ble_eq_true rfl, Nat.le_of_ble_eq_true rfl⟩ (Nat.zero_le _) (Nat.zero_le _) rfl rfl (Nat.le_of_ble_eq_true rfl) rfl (dX9_planTonight 35 rfl) ?_
        refine R_iinc (i := 4) (ls' := [some (.inr (.inr (some (ad 0)))), some (.inr (.inr (some (ad 21)))), some (.inl x2), some (.inl x3), some (.inl (w32 (x4 + 1)))]) (dX9_planTonight 36 rfl) rfl (Nat.le_of_ble_eq_true rfl) rfl rfl ?_
        refine R_goto (tgt := 20) (dX9_planTonight 37 rfl) (by decide) ?_
        exact ih (w32 (x4 + 1)) M218 H hK69
      · have H := ite_F H hc
        refine R_aload_n (i := 0) (dX9_planTonight 28 rfl) rfl rfl ?_
        refine R_aload_n (i := 1) (dX9_planTonight 29 rfl) rfl rfl ?_
        refine R_iload_n (i := 2) (dX9_planTonight 30 rfl) rfl rfl ?_
        refine R_iload (i := 4) (dX9_planTonight 31 rfl) rfl ?_
        obtain ⟨r219, M220, hr, H⟩ := ob_E H
        refine R_cV (st' := [.inl r219, .inl x4, .inl x2, .inr (.inr (some (ad 27)))]) [.inr (.inr (some (ad 21))), .inl x2, .inl x4] [.inl x4, .inl x2, .inr (.inr (some (ad 27)))] (t_X9_liking l g ad S _ hS   x2 x4 hr) msX9_liking (Or.inl tb_874) (Or.inl ⟨0, 9, _, _, _, (cl0 hS), rfl⟩) ⟨Nat.le_of_ble_eq_true rfl, Nat.le_of_ble_eq_true rfl⟩ (Nat.zero_le _) (Nat.zero_le _) rfl rfl (Nat.le_of_ble_eq_true rfl) rfl (dX9_planTonight 32 rfl) ?_
        refine R_goto (tgt := 60) (dX9_planTonight 33 rfl) (by decide) ?_
        obtain ⟨r221, M222, hr, H⟩ := ob_E H
        refine R_cV (st' := []) [.inl x2, .inl x4, .inl r219] [] (t_X8_offer l g ad S _ hS   x2 x4 r219 hr) msX8_offer (Or.inl tb_879) (Or.inl ⟨27, 8, _, _, _, (cl27 hS), rfl⟩) ⟨Nat.le_of_ble_eq_true rfl, Nat.le_of_ble_eq_true rfl⟩ (Nat.zero_le _) (Nat.zero_le _) rfl rfl (Nat.le_of_ble_eq_true rfl) rfl (dX9_planTonight 35 rfl) ?_
        refine R_iinc (i := 4) (ls' := [some (.inr (.inr (some (ad 0)))), some (.inr (.inr (some (ad 21)))), some (.inl x2), some (.inl x3), some (.inl (w32 (x4 + 1)))]) (dX9_planTonight 36 rfl) rfl (Nat.le_of_ble_eq_true rfl) rfl rfl ?_
        refine R_goto (tgt := 20) (dX9_planTonight 37 rfl) (by decide) ?_
        exact ih (w32 (x4 + 1)) M222 H hK69
def f_X9_planTonight_L2 (K75 : Mem → Option (Int × Mem)) : Nat → Int → Mem → Option (Int × Mem)
  | 0, _, _ => none
  | n + 1, x2, M =>
    if x2 < M 0 9 then
      (f_X9_safeLines x2 M).bind fun r216 =>
      f_X9_planTonight_L20
        (fun M223 =>
          f_X9_planTonight_L2 K75 n (w32 (x2 + 1)) M223
        )
        x2 r216 100000 0 M
    else
      K75 M
set_option maxHeartbeats 4000000 in
theorem t_X9_planTonight_L2 (l : Launch) (g : GG) (ad : Nat → Nat) (S : SW) (hS : q_ag 0 38 ad S) {K75 : Mem → Option (Int × Mem)} {r : Int} {M' : Mem} : ∀ (n : Nat) (x2 : Int) (M : Mem), f_X9_planTonight_L2 K75 n x2 M = some (r, M') → (∀ (M1 : Mem), K75 M1 = some (r, M') → RW l g MX9_planTonight (q_rm 28 0 0) 0 0 (q_ex S none M') 75 S M1 0 0 [some (.inr (.inr (some (ad 0)))), none, none, none, none] []) → RW l g MX9_planTonight (q_rm 28 0 0) 0 0 (q_ex S none M') 2 S M 0 0 [some (.inr (.inr (some (ad 0)))), some (.inr (.inr (some (ad 21)))), some (.inl x2), none, none] [] := by
  intro n
  induction n with
  | zero => intro x2 M H; exact absurd H (by simp [f_X9_planTonight_L2])
  | succ n ih =>
    intro x2 M H hK75
    rw [f_X9_planTonight_L2] at H
    refine R_iload_n (i := 2) (dX9_planTonight 2 rfl) rfl rfl ?_
    refine R_aload_n (i := 0) (dX9_planTonight 3 rfl) rfl rfl ?_
    refine R_getI cgX9 0 (cl0 hS) 9 (Nat.le_of_ble_eq_true rfl) rfl (Or.inl tb_562) (dX9_planTonight 4 rfl) ?_
    refine R_icmp_ge (tgt := 75) (dX9_planTonight 5 rfl) (by decide) (fun hc => ?_) (fun hc => ?_)
    · have H := ite_F H hc
      refine R_mask [true, false, false, false, false] rfl ?_
      exact hK75 M H
    · have H := ite_T H hc
      refine R_aload_n (i := 0) (dX9_planTonight 6 rfl) rfl rfl ?_
      refine R_aload_n (i := 1) (dX9_planTonight 7 rfl) rfl rfl ?_
      refine R_iload_n (i := 2) (dX9_planTonight 8 rfl) rfl rfl ?_
      obtain ⟨r216, hr, H⟩ := op_E H
      refine R_cV (st' := [.inl r216]) [.inr (.inr (some (ad 21))), .inl x2] [] (t_X9_safeLines l g ad S _ hS   x2 hr) msX9_safeLines (Or.inl tb_854) (Or.inl ⟨0, 9, _, _, _, (cl0 hS), rfl⟩) ⟨Nat.le_of_ble_eq_true rfl, Nat.le_of_ble_eq_true rfl⟩ (Nat.zero_le _) (Nat.zero_le _) rfl rfl (Nat.le_of_ble_eq_true rfl) rfl (dX9_planTonight 9 rfl) ?_
      refine R_istore_n (i := 3) (ls' := [some (.inr (.inr (some (ad 0)))), some (.inr (.inr (some (ad 21)))), some (.inl x2), some (.inl r216), none]) (dX9_planTonight 10 rfl) rfl (Nat.le_of_ble_eq_true rfl) (Nat.le_of_ble_eq_true rfl) rfl rfl ?_
      refine R_iconst (dX9_planTonight 11 rfl) rfl ?_
      refine R_istore (i := 4) (ls' := [some (.inr (.inr (some (ad 0)))), some (.inr (.inr (some (ad 21)))), some (.inl x2), some (.inl r216), some (.inl 0)]) (dX9_planTonight 12 rfl) (Nat.le_of_ble_eq_true rfl) (Nat.le_of_ble_eq_true rfl) rfl rfl ?_
      refine t_X9_planTonight_L20 l g ad S hS x2 r216  100000 0 M H (fun M223 H => ?_)
      refine R_iinc (i := 2) (ls' := [some (.inr (.inr (some (ad 0)))), some (.inr (.inr (some (ad 21)))), some (.inl (w32 (x2 + 1))), none, none]) (dX9_planTonight 38 rfl) rfl (Nat.le_of_ble_eq_true rfl) rfl rfl ?_
      refine R_goto (tgt := 2) (dX9_planTonight 39 rfl) (by decide) ?_
      exact ih (w32 (x2 + 1)) M223 H hK75
def f_X9_planTonight (M : Mem) : Option (Int × Mem) :=
  f_X9_planTonight_L2
    (fun M224 =>
      ob (f_X8_plan (M224 0 9) (M224 0 10) M224) fun r225 M226 =>
      some (0, M226)
    )
    100000 0 M
set_option maxHeartbeats 4000000 in
theorem t_X9_planTonight (l : Launch) (g : GG) (ad : Nat → Nat) (S : SW) (M : Mem) (hS : q_ag 0 38 ad S) {r : Int} {M' : Mem} (H : f_X9_planTonight M = some (r, M')) : CT l g MX9_planTonight 28 0 0 S M [.inr (.inr (some (ad 0))), .inr (.inr (some (ad 21)))] (q_ex S none M') := by
  unfold f_X9_planTonight at H
  refine CT_of (ls0 := [some (.inr (.inr (some (ad 0)))), some (.inr (.inr (some (ad 21)))), none, none, none]) (by decide +kernel) (Nat.le_of_ble_eq_true rfl) rfl ?_
  refine R_iconst (dX9_planTonight 0 rfl) rfl ?_
  refine R_istore_n (i := 2) (ls' := [some (.inr (.inr (some (ad 0)))), some (.inr (.inr (some (ad 21)))), some (.inl 0), none, none]) (dX9_planTonight 1 rfl) rfl (Nat.le_of_ble_eq_true rfl) (Nat.le_of_ble_eq_true rfl) rfl rfl ?_
  refine t_X9_planTonight_L2 l g ad S hS  100000 0 M H (fun M224 H => ?_)
  refine R_aload_n (i := 0) (dX9_planTonight 40 rfl) rfl rfl ?_
  refine R_getR cgX9 0 (cl0 hS) 5 (Nat.le_of_ble_eq_true rfl) rfl (Or.inl tb_558) (dX9_planTonight 41 rfl) ?_
  refine R_aload_n (i := 0) (dX9_planTonight 42 rfl) rfl rfl ?_
  refine R_getI cgX9 0 (cl0 hS) 9 (Nat.le_of_ble_eq_true rfl) rfl (Or.inl tb_562) (dX9_planTonight 43 rfl) ?_
  refine R_aload_n (i := 0) (dX9_planTonight 44 rfl) rfl rfl ?_
  refine R_getR cgX9 0 (cl0 hS) 1 (Nat.le_of_ble_eq_true rfl) rfl (Or.inl tb_554) (dX9_planTonight 45 rfl) ?_
  refine R_aload_n (i := 0) (dX9_planTonight 46 rfl) rfl rfl ?_
  refine R_getI cgX9 0 (cl0 hS) 10 (Nat.le_of_ble_eq_true rfl) rfl (Or.inl tb_563) (dX9_planTonight 47 rfl) ?_
  obtain ⟨r225, M226, hr, H⟩ := ob_E H
  refine R_cV (st' := []) [.inl (M224 0 9), .inr (.inr (some (ad 3))), .inl (M224 0 10)] [] (t_X8_plan l g ad S _ hS   (M224 0 9) (M224 0 10) hr) msX8_plan (Or.inl tb_884) (Or.inl ⟨27, 8, _, _, _, (cl27 hS), rfl⟩) ⟨Nat.le_of_ble_eq_true rfl, Nat.le_of_ble_eq_true rfl⟩ (Nat.zero_le _) (Nat.zero_le _) rfl rfl (Nat.le_of_ble_eq_true rfl) rfl (dX9_planTonight 48 rfl) ?_
  exact R_vret rfl (Nat.zero_le _) (Nat.zero_le _) (dX9_planTonight 49 rfl) ⟨rfl, rfl, (Prod.mk.inj (Option.some.inj H)).2⟩
def f_X9_order (x1 : Int) (M : Mem) : Option (Int × Mem) :=
  if f_X9_isGuest x1 M = 0 then
    some ((-5), M)
  else
    ob (f_X9_fitting M) fun r227 M228 =>
    ob (f_X9_planTonight M228) fun r229 M230 =>
    some (rd 4 (M230 30) x1, M230)
set_option maxHeartbeats 4000000 in
theorem t_X9_order (l : Launch) (g : GG) (ad : Nat → Nat) (S : SW) (M : Mem) (hS : q_ag 0 38 ad S) (x1 : Int) {r : Int} {M' : Mem} (H : f_X9_order x1 M = some (r, M')) : CT l g MX9_order 29 0 0 S M [.inr (.inr (some (ad 0))), .inl x1] (q_ex S (some (.inl r)) M') := by
  unfold f_X9_order at H
  refine CT_of (ls0 := [some (.inr (.inr (some (ad 0)))), some (.inl x1)]) (by decide +kernel) (Nat.le_of_ble_eq_true rfl) rfl ?_
  refine R_aload_n (i := 0) (dX9_order 0 rfl) rfl rfl ?_
  refine R_iload_n (i := 1) (dX9_order 1 rfl) rfl rfl ?_
  refine R_cV (st' := [.inl (f_X9_isGuest x1 M)]) [.inl x1] [] (t_X9_isGuest l g ad S _ hS   x1) msX9_isGuest (Or.inl tb_659) (Or.inl ⟨0, 9, _, _, _, (cl0 hS), rfl⟩) ⟨Nat.le_of_ble_eq_true rfl, Nat.le_of_ble_eq_true rfl⟩ (Nat.zero_le _) (Nat.zero_le _) rfl rfl (Nat.le_of_ble_eq_true rfl) rfl (dX9_order 2 rfl) ?_
  refine R_if_ne (tgt := 11) (dX9_order 3 rfl) (by decide) (fun hc => ?_) (fun hc => ?_)
  · have H := ite_F H hc
    refine R_aload_n (i := 0) (dX9_order 6 rfl) rfl rfl ?_
    refine R_aload_n (i := 0) (dX9_order 7 rfl) rfl rfl ?_
    obtain ⟨r227, M228, hr, H⟩ := ob_E H
    refine R_cV (st' := [.inr (.inr (some (ad 21))), .inr (.inr (some (ad 0)))]) [] [.inr (.inr (some (ad 0)))] (t_X9_fitting l g ad S _ hS   hr) msX9_fitting (Or.inl tb_732) (Or.inl ⟨0, 9, _, _, _, (cl0 hS), rfl⟩) ⟨Nat.le_of_ble_eq_true rfl, Nat.le_of_ble_eq_true rfl⟩ (Nat.zero_le _) (Nat.zero_le _) rfl rfl (Nat.le_of_ble_eq_true rfl) rfl (dX9_order 8 rfl) ?_
    obtain ⟨r229, M230, hr, H⟩ := ob_E H
    refine R_cV (st' := []) [.inr (.inr (some (ad 21)))] [] (t_X9_planTonight l g ad S _ hS   hr) msX9_planTonight (Or.inl tb_870) (Or.inl ⟨0, 9, _, _, _, (cl0 hS), rfl⟩) ⟨Nat.le_of_ble_eq_true rfl, Nat.le_of_ble_eq_true rfl⟩ (Nat.zero_le _) (Nat.zero_le _) rfl rfl (Nat.le_of_ble_eq_true rfl) rfl (dX9_order 9 rfl) ?_
    refine R_aload_n (i := 0) (dX9_order 10 rfl) rfl rfl ?_
    refine R_getR cgX9 0 (cl0 hS) 5 (Nat.le_of_ble_eq_true rfl) rfl (Or.inl tb_558) (dX9_order 11 rfl) ?_
    refine R_getR cgX8 27 (cl27 hS) 2 (Nat.le_of_ble_eq_true rfl) rfl (Or.inr ⟨_, tb_492⟩) (dX9_order 12 rfl) ?_
    refine R_iload_n (i := 1) (dX9_order 13 rfl) rfl rfl ?_
    refine R_cS (st' := [.inl (rd 4 (M230 30) x1)]) [.inr (.inr (some (ad 30))), .inl x1] [] (t_at l g S _ 30 (cl30 hS) (Nat.le_of_ble_eq_true rfl) x1) msX9_at (Or.inl tb_663) ⟨Nat.le_of_ble_eq_true rfl, Nat.le_of_ble_eq_true rfl⟩ (Nat.zero_le _) (Nat.zero_le _) rfl rfl (Nat.le_of_ble_eq_true rfl) rfl (dX9_order 14 rfl) ?_
    exact R_iret rfl rfl (Nat.zero_le _) (Nat.zero_le _) (dX9_order 15 rfl) ⟨congrArg (fun z => some (Sum.inl z)) (Prod.mk.inj (Option.some.inj H)).1, rfl, (Prod.mk.inj (Option.some.inj H)).2⟩
  · have H := ite_T H hc
    refine R_bipush (dX9_order 4 rfl) rfl rfl ?_
    exact R_iret rfl rfl (Nat.zero_le _) (Nat.zero_le _) (dX9_order 5 rfl) ⟨congrArg (fun z => some (Sum.inl z)) (Prod.mk.inj (Option.some.inj H)).1, rfl, (Prod.mk.inj (Option.some.inj H)).2⟩
def f_X9_ordered (x1 : Int) (M : Mem) : Option (Int × Mem) :=
  if f_X9_within x1 0 1 = 0 then
    some ((-2), M)
  else
    ob (f_X9_fitting M) fun r231 M232 =>
    ob (f_X9_planTonight M232) fun r233 M234 =>
    if x1 = 0 then
      some (M234 27 3, M234)
    else
      some (M234 27 4, M234)
set_option maxHeartbeats 4000000 in
theorem t_X9_ordered (l : Launch) (g : GG) (ad : Nat → Nat) (S : SW) (M : Mem) (hS : q_ag 0 38 ad S) (x1 : Int) {r : Int} {M' : Mem} (H : f_X9_ordered x1 M = some (r, M')) : CT l g MX9_ordered 29 0 0 S M [.inr (.inr (some (ad 0))), .inl x1] (q_ex S (some (.inl r)) M') := by
  unfold f_X9_ordered at H
  refine CT_of (ls0 := [some (.inr (.inr (some (ad 0)))), some (.inl x1)]) (by decide +kernel) (Nat.le_of_ble_eq_true rfl) rfl ?_
  refine R_iload_n (i := 1) (dX9_ordered 0 rfl) rfl rfl ?_
  refine R_iconst (dX9_ordered 1 rfl) rfl ?_
  refine R_iconst (dX9_ordered 2 rfl) rfl ?_
  refine R_cS (st' := [.inl (f_X9_within x1 0 1)]) [.inl x1, .inl 0, .inl 1] [] (t_X9_within l g S _   x1 0 1) msX9_within (Or.inl tb_603) ⟨Nat.le_of_ble_eq_true rfl, Nat.le_of_ble_eq_true rfl⟩ (Nat.zero_le _) (Nat.zero_le _) rfl rfl (Nat.le_of_ble_eq_true rfl) rfl (dX9_ordered 3 rfl) ?_
  refine R_if_ne (tgt := 12) (dX9_ordered 4 rfl) (by decide) (fun hc => ?_) (fun hc => ?_)
  · have H := ite_F H hc
    refine R_aload_n (i := 0) (dX9_ordered 7 rfl) rfl rfl ?_
    refine R_aload_n (i := 0) (dX9_ordered 8 rfl) rfl rfl ?_
    obtain ⟨r231, M232, hr, H⟩ := ob_E H
    refine R_cV (st' := [.inr (.inr (some (ad 21))), .inr (.inr (some (ad 0)))]) [] [.inr (.inr (some (ad 0)))] (t_X9_fitting l g ad S _ hS   hr) msX9_fitting (Or.inl tb_732) (Or.inl ⟨0, 9, _, _, _, (cl0 hS), rfl⟩) ⟨Nat.le_of_ble_eq_true rfl, Nat.le_of_ble_eq_true rfl⟩ (Nat.zero_le _) (Nat.zero_le _) rfl rfl (Nat.le_of_ble_eq_true rfl) rfl (dX9_ordered 9 rfl) ?_
    obtain ⟨r233, M234, hr, H⟩ := ob_E H
    refine R_cV (st' := []) [.inr (.inr (some (ad 21)))] [] (t_X9_planTonight l g ad S _ hS   hr) msX9_planTonight (Or.inl tb_870) (Or.inl ⟨0, 9, _, _, _, (cl0 hS), rfl⟩) ⟨Nat.le_of_ble_eq_true rfl, Nat.le_of_ble_eq_true rfl⟩ (Nat.zero_le _) (Nat.zero_le _) rfl rfl (Nat.le_of_ble_eq_true rfl) rfl (dX9_ordered 10 rfl) ?_
    refine R_iload_n (i := 1) (dX9_ordered 11 rfl) rfl rfl ?_
    refine R_if_ne (tgt := 34) (dX9_ordered 12 rfl) (by decide) (fun hc => ?_) (fun hc => ?_)
    · have H := ite_F H hc
      refine R_aload_n (i := 0) (dX9_ordered 17 rfl) rfl rfl ?_
      refine R_getR cgX9 0 (cl0 hS) 5 (Nat.le_of_ble_eq_true rfl) rfl (Or.inl tb_558) (dX9_ordered 18 rfl) ?_
      refine R_getI cgX8 27 (cl27 hS) 4 (Nat.le_of_ble_eq_true rfl) rfl (Or.inr ⟨_, tb_496⟩) (dX9_ordered 19 rfl) ?_
      exact R_iret rfl rfl (Nat.zero_le _) (Nat.zero_le _) (dX9_ordered 20 rfl) ⟨congrArg (fun z => some (Sum.inl z)) (Prod.mk.inj (Option.some.inj H)).1, rfl, (Prod.mk.inj (Option.some.inj H)).2⟩
    · have H := ite_T H hc
      refine R_aload_n (i := 0) (dX9_ordered 13 rfl) rfl rfl ?_
      refine R_getR cgX9 0 (cl0 hS) 5 (Nat.le_of_ble_eq_true rfl) rfl (Or.inl tb_558) (dX9_ordered 14 rfl) ?_
      refine R_getI cgX8 27 (cl27 hS) 3 (Nat.le_of_ble_eq_true rfl) rfl (Or.inr ⟨_, tb_494⟩) (dX9_ordered 15 rfl) ?_
      refine R_goto (tgt := 41) (dX9_ordered 16 rfl) (by decide) ?_
      exact R_iret rfl rfl (Nat.zero_le _) (Nat.zero_le _) (dX9_ordered 20 rfl) ⟨congrArg (fun z => some (Sum.inl z)) (Prod.mk.inj (Option.some.inj H)).1, rfl, (Prod.mk.inj (Option.some.inj H)).2⟩
  · have H := ite_T H hc
    refine R_bipush (dX9_ordered 5 rfl) rfl rfl ?_
    exact R_iret rfl rfl (Nat.zero_le _) (Nat.zero_le _) (dX9_ordered 6 rfl) ⟨congrArg (fun z => some (Sum.inl z)) (Prod.mk.inj (Option.some.inj H)).1, rfl, (Prod.mk.inj (Option.some.inj H)).2⟩
def f_X9_mostLiking_L6 (x2 : Int) (x3 : Int) : Nat → Int → Int → Mem → Option (Int × Mem)
  | 0, _, _, _ => none
  | n + 1, x4, x5, M =>
    if x5 < M 3 3 then
      if b_and (b_shr x3 x5) 1 = 0 then
        f_X9_mostLiking_L6 x2 x3 n x4 (w32 (x5 + 1)) M
      else
        ob (f_X9_liking x2 x5 M) fun r235 M236 =>
        f_X9_mostLiking_L6 x2 x3 n (if x4 < r235 then r235 else x4) (w32 (x5 + 1)) M236
    else
      some (x4, M)
set_option maxHeartbeats 4000000 in
theorem t_X9_mostLiking_L6 (l : Launch) (g : GG) (ad : Nat → Nat) (S : SW) (hS : q_ag 0 38 ad S) (x2 : Int) (x3 : Int) {r : Int} {M' : Mem} : ∀ (n : Nat) (x4 : Int) (x5 : Int) (M : Mem), f_X9_mostLiking_L6 x2 x3 n x4 x5 M = some (r, M') → RW l g MX9_mostLiking (q_rm 5 0 0) 0 0 (q_ex S (some (.inl r)) M') 6 S M 0 0 [some (.inr (.inr (some (ad 0)))), some (.inr (.inr (some (ad 21)))), some (.inl x2), some (.inl x3), some (.inl x4), some (.inl x5)] [] := by
  intro n
  induction n with
  | zero => intro x4 x5 M H; exact absurd H (by simp [f_X9_mostLiking_L6])
  | succ n ih =>
    intro x4 x5 M H
    rw [f_X9_mostLiking_L6] at H
    refine R_iload (i := 5) (dX9_mostLiking 4 rfl) rfl ?_
    refine R_aload_n (i := 0) (dX9_mostLiking 5 rfl) rfl rfl ?_
    refine R_getR cgX9 0 (cl0 hS) 1 (Nat.le_of_ble_eq_true rfl) rfl (Or.inl tb_554) (dX9_mostLiking 6 rfl) ?_
    refine R_getI cgX3 3 (cl3 hS) 3 (Nat.le_of_ble_eq_true rfl) rfl (Or.inr ⟨_, tb_140⟩) (dX9_mostLiking 7 rfl) ?_
    refine R_icmp_ge (tgt := 48) (dX9_mostLiking 8 rfl) (by decide) (fun hc => ?_) (fun hc => ?_)
    · have H := ite_F H hc
      refine R_iload (i := 4) (dX9_mostLiking 25 rfl) rfl ?_
      exact R_iret rfl rfl (Nat.zero_le _) (Nat.zero_le _) (dX9_mostLiking 26 rfl) ⟨congrArg (fun z => some (Sum.inl z)) (Prod.mk.inj (Option.some.inj H)).1, rfl, (Prod.mk.inj (Option.some.inj H)).2⟩
    · have H := ite_T H hc
      refine R_iload_n (i := 3) (dX9_mostLiking 9 rfl) rfl rfl ?_
      refine R_iload (i := 5) (dX9_mostLiking 10 rfl) rfl ?_
      refine R_ishr (dX9_mostLiking 11 rfl) ?_
      refine R_iconst (dX9_mostLiking 12 rfl) rfl ?_
      refine R_iand (dX9_mostLiking 13 rfl) ?_
      refine R_if_eq (tgt := 42) (dX9_mostLiking 14 rfl) (by decide) (fun hc => ?_) (fun hc => ?_)
      · have H := ite_T H hc
        refine R_iinc (i := 5) (ls' := [some (.inr (.inr (some (ad 0)))), some (.inr (.inr (some (ad 21)))), some (.inl x2), some (.inl x3), some (.inl x4), some (.inl (w32 (x5 + 1)))]) (dX9_mostLiking 23 rfl) rfl (Nat.le_of_ble_eq_true rfl) rfl rfl ?_
        refine R_goto (tgt := 6) (dX9_mostLiking 24 rfl) (by decide) ?_
        exact ih x4 (w32 (x5 + 1)) M H
      · have H := ite_F H hc
        refine R_iload (i := 4) (dX9_mostLiking 15 rfl) rfl ?_
        refine R_aload_n (i := 0) (dX9_mostLiking 16 rfl) rfl rfl ?_
        refine R_aload_n (i := 1) (dX9_mostLiking 17 rfl) rfl rfl ?_
        refine R_iload_n (i := 2) (dX9_mostLiking 18 rfl) rfl rfl ?_
        refine R_iload (i := 5) (dX9_mostLiking 19 rfl) rfl ?_
        obtain ⟨r235, M236, hr, H⟩ := ob_E H
        refine R_cV (st' := [.inl r235, .inl x4]) [.inr (.inr (some (ad 21))), .inl x2, .inl x5] [.inl x4] (t_X9_liking l g ad S _ hS   x2 x5 hr) msX9_liking (Or.inl tb_874) (Or.inl ⟨0, 9, _, _, _, (cl0 hS), rfl⟩) ⟨Nat.le_of_ble_eq_true rfl, Nat.le_of_ble_eq_true rfl⟩ (Nat.zero_le _) (Nat.zero_le _) rfl rfl (Nat.le_of_ble_eq_true rfl) rfl (dX9_mostLiking 20 rfl) ?_
        refine R_mmax tb_917 tb_113 tb_72 tb_114 (Nat.le_of_ble_eq_true rfl) (Nat.le_of_ble_eq_true rfl) (Nat.le_of_ble_eq_true rfl) (Nat.zero_le _) (Nat.zero_le _) (dX9_mostLiking 21 rfl) ?_
        refine R_istore (i := 4) (ls' := [some (.inr (.inr (some (ad 0)))), some (.inr (.inr (some (ad 21)))), some (.inl x2), some (.inl x3), some (.inl (if x4 < r235 then r235 else x4)), some (.inl x5)]) (dX9_mostLiking 22 rfl) (Nat.le_of_ble_eq_true rfl) (Nat.le_of_ble_eq_true rfl) rfl rfl ?_
        refine R_iinc (i := 5) (ls' := [some (.inr (.inr (some (ad 0)))), some (.inr (.inr (some (ad 21)))), some (.inl x2), some (.inl x3), some (.inl (if x4 < r235 then r235 else x4)), some (.inl (w32 (x5 + 1)))]) (dX9_mostLiking 23 rfl) rfl (Nat.le_of_ble_eq_true rfl) rfl rfl ?_
        refine R_goto (tgt := 6) (dX9_mostLiking 24 rfl) (by decide) ?_
        exact ih (if x4 < r235 then r235 else x4) (w32 (x5 + 1)) M236 H
def f_X9_mostLiking (x2 : Int) (x3 : Int) (M : Mem) : Option (Int × Mem) :=
  f_X9_mostLiking_L6
    x2 x3 100000 0 0 M
set_option maxHeartbeats 4000000 in
theorem t_X9_mostLiking (l : Launch) (g : GG) (ad : Nat → Nat) (S : SW) (M : Mem) (hS : q_ag 0 38 ad S) (x2 : Int) (x3 : Int) {r : Int} {M' : Mem} (H : f_X9_mostLiking x2 x3 M = some (r, M')) : CT l g MX9_mostLiking 5 0 0 S M [.inr (.inr (some (ad 0))), .inr (.inr (some (ad 21))), .inl x2, .inl x3] (q_ex S (some (.inl r)) M') := by
  unfold f_X9_mostLiking at H
  refine CT_of (ls0 := [some (.inr (.inr (some (ad 0)))), some (.inr (.inr (some (ad 21)))), some (.inl x2), some (.inl x3), none, none]) (by decide +kernel) (Nat.le_of_ble_eq_true rfl) rfl ?_
  refine R_iconst (dX9_mostLiking 0 rfl) rfl ?_
  refine R_istore (i := 4) (ls' := [some (.inr (.inr (some (ad 0)))), some (.inr (.inr (some (ad 21)))), some (.inl x2), some (.inl x3), some (.inl 0), none]) (dX9_mostLiking 1 rfl) (Nat.le_of_ble_eq_true rfl) (Nat.le_of_ble_eq_true rfl) rfl rfl ?_
  refine R_iconst (dX9_mostLiking 2 rfl) rfl ?_
  refine R_istore (i := 5) (ls' := [some (.inr (.inr (some (ad 0)))), some (.inr (.inr (some (ad 21)))), some (.inl x2), some (.inl x3), some (.inl 0), some (.inl 0)]) (dX9_mostLiking 3 rfl) (Nat.le_of_ble_eq_true rfl) (Nat.le_of_ble_eq_true rfl) rfl rfl ?_
  exact t_X9_mostLiking_L6 l g ad S hS x2 x3  100000 0 0 M H 
def f_X9_middle_L28 (x1 : Int) : Nat → Int → Int → Mem → Option (Int × Mem)
  | 0, _, _, _ => none
  | n + 1, x3, x4, M =>
    if x4 < M 0 9 then
      (f_X9_safeLines x4 M).bind fun r239 =>
      ob (f_X9_mostLiking x4 (b_and x1 r239) M) fun r240 M241 =>
      f_X9_middle_L28 x1 n (w32 (x3 + r240)) (w32 (x4 + 1)) M241
    else
      some (x3, M)
set_option maxHeartbeats 4000000 in
theorem t_X9_middle_L28 (l : Launch) (g : GG) (ad : Nat → Nat) (S : SW) (hS : q_ag 0 38 ad S) (x1 : Int) {r : Int} {M' : Mem} : ∀ (n : Nat) (x3 : Int) (x4 : Int) (M : Mem), f_X9_middle_L28 x1 n x3 x4 M = some (r, M') → RW l g MX9_middle (q_rm 7 0 0) 0 0 (q_ex S (some (.inl r)) M') 28 S M 0 0 [some (.inr (.inr (some (ad 0)))), some (.inl x1), some (.inr (.inr (some (ad 21)))), some (.inl x3), some (.inl x4)] [] := by
  intro n
  induction n with
  | zero => intro x3 x4 M H; exact absurd H (by simp [f_X9_middle_L28])
  | succ n ih =>
    intro x3 x4 M H
    rw [f_X9_middle_L28] at H
    refine R_iload (i := 4) (dX9_middle 16 rfl) rfl ?_
    refine R_aload_n (i := 0) (dX9_middle 17 rfl) rfl rfl ?_
    refine R_getI cgX9 0 (cl0 hS) 9 (Nat.le_of_ble_eq_true rfl) rfl (Or.inl tb_562) (dX9_middle 18 rfl) ?_
    refine R_icmp_ge (tgt := 62) (dX9_middle 19 rfl) (by decide) (fun hc => ?_) (fun hc => ?_)
    · have H := ite_F H hc
      refine R_iload_n (i := 3) (dX9_middle 35 rfl) rfl rfl ?_
      exact R_iret rfl rfl (Nat.zero_le _) (Nat.zero_le _) (dX9_middle 36 rfl) ⟨congrArg (fun z => some (Sum.inl z)) (Prod.mk.inj (Option.some.inj H)).1, rfl, (Prod.mk.inj (Option.some.inj H)).2⟩
    · have H := ite_T H hc
      refine R_iload_n (i := 3) (dX9_middle 20 rfl) rfl rfl ?_
      refine R_aload_n (i := 0) (dX9_middle 21 rfl) rfl rfl ?_
      refine R_aload_n (i := 2) (dX9_middle 22 rfl) rfl rfl ?_
      refine R_iload (i := 4) (dX9_middle 23 rfl) rfl ?_
      refine R_iload_n (i := 1) (dX9_middle 24 rfl) rfl rfl ?_
      refine R_aload_n (i := 0) (dX9_middle 25 rfl) rfl rfl ?_
      refine R_aload_n (i := 2) (dX9_middle 26 rfl) rfl rfl ?_
      refine R_iload (i := 4) (dX9_middle 27 rfl) rfl ?_
      obtain ⟨r239, hr, H⟩ := op_E H
      refine R_cV (st' := [.inl r239, .inl x1, .inl x4, .inr (.inr (some (ad 21))), .inr (.inr (some (ad 0))), .inl x3]) [.inr (.inr (some (ad 21))), .inl x4] [.inl x1, .inl x4, .inr (.inr (some (ad 21))), .inr (.inr (some (ad 0))), .inl x3] (t_X9_safeLines l g ad S _ hS   x4 hr) msX9_safeLines (Or.inl tb_854) (Or.inl ⟨0, 9, _, _, _, (cl0 hS), rfl⟩) ⟨Nat.le_of_ble_eq_true rfl, Nat.le_of_ble_eq_true rfl⟩ (Nat.zero_le _) (Nat.zero_le _) rfl rfl (Nat.le_of_ble_eq_true rfl) rfl (dX9_middle 28 rfl) ?_
      refine R_iand (dX9_middle 29 rfl) ?_
      obtain ⟨r240, M241, hr, H⟩ := ob_E H
      refine R_cV (st' := [.inl r240, .inl x3]) [.inr (.inr (some (ad 21))), .inl x4, .inl (b_and x1 r239)] [.inl x3] (t_X9_mostLiking l g ad S _ hS   x4 (b_and x1 r239) hr) msX9_mostLiking (Or.inl tb_913) (Or.inl ⟨0, 9, _, _, _, (cl0 hS), rfl⟩) ⟨Nat.le_of_ble_eq_true rfl, Nat.le_of_ble_eq_true rfl⟩ (Nat.zero_le _) (Nat.zero_le _) rfl rfl (Nat.le_of_ble_eq_true rfl) rfl (dX9_middle 30 rfl) ?_
      refine R_iadd (dX9_middle 31 rfl) ?_
      refine R_istore_n (i := 3) (ls' := [some (.inr (.inr (some (ad 0)))), some (.inl x1), some (.inr (.inr (some (ad 21)))), some (.inl (w32 (x3 + r240))), some (.inl x4)]) (dX9_middle 32 rfl) rfl (Nat.le_of_ble_eq_true rfl) (Nat.le_of_ble_eq_true rfl) rfl rfl ?_
      refine R_iinc (i := 4) (ls' := [some (.inr (.inr (some (ad 0)))), some (.inl x1), some (.inr (.inr (some (ad 21)))), some (.inl (w32 (x3 + r240))), some (.inl (w32 (x4 + 1)))]) (dX9_middle 33 rfl) rfl (Nat.le_of_ble_eq_true rfl) rfl rfl ?_
      refine R_goto (tgt := 28) (dX9_middle 34 rfl) (by decide) ?_
      exact ih (w32 (x3 + r240)) (w32 (x4 + 1)) M241 H
def f_X9_middle (x1 : Int) (M : Mem) : Option (Int × Mem) :=
  if f_X9_within x1 0 (f_X3_everyLine M) = 0 then
    some ((-2), M)
  else
    ob (f_X9_fitting M) fun r237 M238 =>
    f_X9_middle_L28
      x1 100000 0 0 M238
set_option maxHeartbeats 4000000 in
theorem t_X9_middle (l : Launch) (g : GG) (ad : Nat → Nat) (S : SW) (M : Mem) (hS : q_ag 0 38 ad S) (x1 : Int) {r : Int} {M' : Mem} (H : f_X9_middle x1 M = some (r, M')) : CT l g MX9_middle 7 0 0 S M [.inr (.inr (some (ad 0))), .inl x1] (q_ex S (some (.inl r)) M') := by
  unfold f_X9_middle at H
  refine CT_of (ls0 := [some (.inr (.inr (some (ad 0)))), some (.inl x1), none, none, none]) (by decide +kernel) (Nat.le_of_ble_eq_true rfl) rfl ?_
  refine R_iload_n (i := 1) (dX9_middle 0 rfl) rfl rfl ?_
  refine R_iconst (dX9_middle 1 rfl) rfl ?_
  refine R_aload_n (i := 0) (dX9_middle 2 rfl) rfl rfl ?_
  refine R_getR cgX9 0 (cl0 hS) 1 (Nat.le_of_ble_eq_true rfl) rfl (Or.inl tb_554) (dX9_middle 3 rfl) ?_
  refine R_cV (st' := [.inl (f_X3_everyLine M), .inl 0, .inl x1]) [] [.inl 0, .inl x1] (t_X3_everyLine l g ad S _ hS  ) msX3_everyLine (Or.inl tb_909) (Or.inl ⟨3, 3, _, _, _, (cl3 hS), rfl⟩) ⟨Nat.le_of_ble_eq_true rfl, Nat.le_of_ble_eq_true rfl⟩ (Nat.zero_le _) (Nat.zero_le _) rfl rfl (Nat.le_of_ble_eq_true rfl) rfl (dX9_middle 4 rfl) ?_
  refine R_cS (st' := [.inl (f_X9_within x1 0 (f_X3_everyLine M))]) [.inl x1, .inl 0, .inl (f_X3_everyLine M)] [] (t_X9_within l g S _   x1 0 (f_X3_everyLine M)) msX9_within (Or.inl tb_603) ⟨Nat.le_of_ble_eq_true rfl, Nat.le_of_ble_eq_true rfl⟩ (Nat.zero_le _) (Nat.zero_le _) rfl rfl (Nat.le_of_ble_eq_true rfl) rfl (dX9_middle 5 rfl) ?_
  refine R_if_ne (tgt := 18) (dX9_middle 6 rfl) (by decide) (fun hc => ?_) (fun hc => ?_)
  · have H := ite_F H hc
    refine R_aload_n (i := 0) (dX9_middle 9 rfl) rfl rfl ?_
    obtain ⟨r237, M238, hr, H⟩ := ob_E H
    refine R_cV (st' := [.inr (.inr (some (ad 21)))]) [] [] (t_X9_fitting l g ad S _ hS   hr) msX9_fitting (Or.inl tb_732) (Or.inl ⟨0, 9, _, _, _, (cl0 hS), rfl⟩) ⟨Nat.le_of_ble_eq_true rfl, Nat.le_of_ble_eq_true rfl⟩ (Nat.zero_le _) (Nat.zero_le _) rfl rfl (Nat.le_of_ble_eq_true rfl) rfl (dX9_middle 10 rfl) ?_
    refine R_astore_n (i := 2) (ls' := [some (.inr (.inr (some (ad 0)))), some (.inl x1), some (.inr (.inr (some (ad 21)))), none, none]) (dX9_middle 11 rfl) rfl (Nat.le_of_ble_eq_true rfl) (Nat.le_of_ble_eq_true rfl) rfl rfl ?_
    refine R_iconst (dX9_middle 12 rfl) rfl ?_
    refine R_istore_n (i := 3) (ls' := [some (.inr (.inr (some (ad 0)))), some (.inl x1), some (.inr (.inr (some (ad 21)))), some (.inl 0), none]) (dX9_middle 13 rfl) rfl (Nat.le_of_ble_eq_true rfl) (Nat.le_of_ble_eq_true rfl) rfl rfl ?_
    refine R_iconst (dX9_middle 14 rfl) rfl ?_
    refine R_istore (i := 4) (ls' := [some (.inr (.inr (some (ad 0)))), some (.inl x1), some (.inr (.inr (some (ad 21)))), some (.inl 0), some (.inl 0)]) (dX9_middle 15 rfl) (Nat.le_of_ble_eq_true rfl) (Nat.le_of_ble_eq_true rfl) rfl rfl ?_
    exact t_X9_middle_L28 l g ad S hS x1  100000 0 0 M238 H 
  · have H := ite_T H hc
    refine R_bipush (dX9_middle 7 rfl) rfl rfl ?_
    exact R_iret rfl rfl (Nat.zero_le _) (Nat.zero_le _) (dX9_middle 8 rfl) ⟨congrArg (fun z => some (Sum.inl z)) (Prod.mk.inj (Option.some.inj H)).1, rfl, (Prod.mk.inj (Option.some.inj H)).2⟩
def f_X9_teaching_L5 (x2 : Int) : Nat → Int → Int → Mem → Option (Int × Mem)
  | 0, _, _, _ => none
  | n + 1, x3, x4, M =>
    if x4 < 64 then
      if 0 < f_X1_having x2 x4 M then
        ob (f_X6_says (M 0 11) 2 (f_X3_priceOf x2 M) x4 x2 0 (f_X1_having x2 x4 M) M) fun r242 M243 =>
        f_X9_teaching_L5 x2 n (w32 (x3 + (w32 ((f_X1_having x2 x4 M) * r242)))) (w32 (x4 + 1)) M243
      else
        f_X9_teaching_L5 x2 n x3 (w32 (x4 + 1)) M
    else
      some (x3, M)
set_option maxHeartbeats 4000000 in
theorem t_X9_teaching_L5 (l : Launch) (g : GG) (ad : Nat → Nat) (S : SW) (hS : q_ag 0 38 ad S) (x2 : Int) {r : Int} {M' : Mem} : ∀ (n : Nat) (x3 : Int) (x4 : Int) (M : Mem), f_X9_teaching_L5 x2 n x3 x4 M = some (r, M') → RW l g MX9_teaching (q_rm 4 0 0) 0 0 (q_ex S (some (.inl r)) M') 5 S M 0 0 [some (.inr (.inr (some (ad 0)))), some (.inr (.inr (some (ad 21)))), some (.inl x2), some (.inl x3), some (.inl x4), none] [] := by
  intro n
  induction n with
  | zero => intro x3 x4 M H; exact absurd H (by simp [f_X9_teaching_L5])
  | succ n ih =>
    intro x3 x4 M H
    rw [f_X9_teaching_L5] at H
    refine R_iload (i := 4) (dX9_teaching 4 rfl) rfl ?_
    refine R_bipush (dX9_teaching 5 rfl) rfl rfl ?_
    refine R_icmp_ge (tgt := 64) (dX9_teaching 6 rfl) (by decide) (fun hc => ?_) (fun hc => ?_)
    · have H := ite_F H hc
      refine R_iload_n (i := 3) (dX9_teaching 35 rfl) rfl rfl ?_
      exact R_iret rfl rfl (Nat.zero_le _) (Nat.zero_le _) (dX9_teaching 36 rfl) ⟨congrArg (fun z => some (Sum.inl z)) (Prod.mk.inj (Option.some.inj H)).1, rfl, (Prod.mk.inj (Option.some.inj H)).2⟩
    · have H := ite_T H hc
      refine R_aload_n (i := 1) (dX9_teaching 7 rfl) rfl rfl ?_
      refine R_iload_n (i := 2) (dX9_teaching 8 rfl) rfl rfl ?_
      refine R_iload (i := 4) (dX9_teaching 9 rfl) rfl ?_
      refine R_cV (st' := [.inl (f_X1_having x2 x4 M)]) [.inl x2, .inl x4] [] (t_X1_having l g ad S _ hS   x2 x4) msX1_having (Or.inl tb_878) (Or.inl ⟨21, 1, _, _, _, (cl21 hS), rfl⟩) ⟨Nat.le_of_ble_eq_true rfl, Nat.le_of_ble_eq_true rfl⟩ (Nat.zero_le _) (Nat.zero_le _) rfl rfl (Nat.le_of_ble_eq_true rfl) rfl (dX9_teaching 10 rfl) ?_
      refine R_istore (i := 5) (ls' := [some (.inr (.inr (some (ad 0)))), some (.inr (.inr (some (ad 21)))), some (.inl x2), some (.inl x3), some (.inl x4), some (.inl (f_X1_having x2 x4 M))]) (dX9_teaching 11 rfl) (Nat.le_of_ble_eq_true rfl) (Nat.le_of_ble_eq_true rfl) rfl rfl ?_
      refine R_iload (i := 5) (dX9_teaching 12 rfl) rfl ?_
      refine R_if_le (tgt := 58) (dX9_teaching 13 rfl) (by decide) (fun hc => ?_) (fun hc => ?_)
      · have H := ite_F H hc
        refine R_iinc (i := 4) (ls' := [some (.inr (.inr (some (ad 0)))), some (.inr (.inr (some (ad 21)))), some (.inl x2), some (.inl x3), some (.inl (w32 (x4 + 1))), some (.inl (f_X1_having x2 x4 M))]) (dX9_teaching 33 rfl) rfl (Nat.le_of_ble_eq_true rfl) rfl rfl ?_
        refine R_goto (tgt := 5) (dX9_teaching 34 rfl) (by decide) ?_
        refine R_mask [true, true, true, true, true, false] rfl ?_
        exact ih x3 (w32 (x4 + 1)) M H
      · have H := ite_T H hc
        refine R_iload_n (i := 3) (dX9_teaching 14 rfl) rfl rfl ?_
        refine R_iload (i := 5) (dX9_teaching 15 rfl) rfl ?_
        refine R_aload_n (i := 0) (dX9_teaching 16 rfl) rfl rfl ?_
        refine R_getR cgX9 0 (cl0 hS) 3 (Nat.le_of_ble_eq_true rfl) rfl (Or.inl tb_556) (dX9_teaching 17 rfl) ?_
        refine R_aload_n (i := 0) (dX9_teaching 18 rfl) rfl rfl ?_
        refine R_getI cgX9 0 (cl0 hS) 11 (Nat.le_of_ble_eq_true rfl) rfl (Or.inl tb_564) (dX9_teaching 19 rfl) ?_
        refine R_iconst (dX9_teaching 20 rfl) rfl ?_
        refine R_aload_n (i := 0) (dX9_teaching 21 rfl) rfl rfl ?_
        refine R_getR cgX9 0 (cl0 hS) 1 (Nat.le_of_ble_eq_true rfl) rfl (Or.inl tb_554) (dX9_teaching 22 rfl) ?_
        refine R_iload_n (i := 2) (dX9_teaching 23 rfl) rfl rfl ?_
        refine R_cV (st' := [.inl (f_X3_priceOf x2 M), .inl 2, .inl (M 0 11), .inr (.inr (some (ad 12))), .inl (f_X1_having x2 x4 M), .inl x3]) [.inl x2] [.inl 2, .inl (M 0 11), .inr (.inr (some (ad 12))), .inl (f_X1_having x2 x4 M), .inl x3] (t_X3_priceOf l g ad S _ hS   x2) msX3_priceOf (Or.inl tb_641) (Or.inl ⟨3, 3, _, _, _, (cl3 hS), rfl⟩) ⟨Nat.le_of_ble_eq_true rfl, Nat.le_of_ble_eq_true rfl⟩ (Nat.zero_le _) (Nat.zero_le _) rfl rfl (Nat.le_of_ble_eq_true rfl) rfl (dX9_teaching 24 rfl) ?_
        refine R_iload (i := 4) (dX9_teaching 25 rfl) rfl ?_
        refine R_iload_n (i := 2) (dX9_teaching 26 rfl) rfl rfl ?_
        refine R_iconst (dX9_teaching 27 rfl) rfl ?_
        refine R_iload (i := 5) (dX9_teaching 28 rfl) rfl ?_
        obtain ⟨r242, M243, hr, H⟩ := ob_E H
        refine R_cV (st' := [.inl r242, .inl (f_X1_having x2 x4 M), .inl x3]) [.inl (M 0 11), .inl 2, .inl (f_X3_priceOf x2 M), .inl x4, .inl x2, .inl 0, .inl (f_X1_having x2 x4 M)] [.inl (f_X1_having x2 x4 M), .inl x3] (t_X6_says l g ad S _ (q_ag_sub hS (Nat.le_of_ble_eq_true rfl) (Nat.le_of_ble_eq_true rfl))   (M 0 11) 2 (f_X3_priceOf x2 M) x4 x2 0 (f_X1_having x2 x4 M) hr) msX6_says (Or.inl tb_693) (Or.inl ⟨12, 6, _, _, _, (cl12 hS), rfl⟩) ⟨Nat.le_of_ble_eq_true rfl, Nat.le_of_ble_eq_true rfl⟩ (Nat.zero_le _) (Nat.zero_le _) rfl rfl (Nat.le_of_ble_eq_true rfl) rfl (dX9_teaching 29 rfl) ?_
        refine R_imul (dX9_teaching 30 rfl) ?_
        refine R_iadd (dX9_teaching 31 rfl) ?_
        refine R_istore_n (i := 3) (ls' := [some (.inr (.inr (some (ad 0)))), some (.inr (.inr (some (ad 21)))), some (.inl x2), some (.inl (w32 (x3 + (w32 ((f_X1_having x2 x4 M) * r242))))), some (.inl x4), some (.inl (f_X1_having x2 x4 M))]) (dX9_teaching 32 rfl) rfl (Nat.le_of_ble_eq_true rfl) (Nat.le_of_ble_eq_true rfl) rfl rfl ?_
        refine R_iinc (i := 4) (ls' := [some (.inr (.inr (some (ad 0)))), some (.inr (.inr (some (ad 21)))), some (.inl x2), some (.inl (w32 (x3 + (w32 ((f_X1_having x2 x4 M) * r242))))), some (.inl (w32 (x4 + 1))), some (.inl (f_X1_having x2 x4 M))]) (dX9_teaching 33 rfl) rfl (Nat.le_of_ble_eq_true rfl) rfl rfl ?_
        refine R_goto (tgt := 5) (dX9_teaching 34 rfl) (by decide) ?_
        refine R_mask [true, true, true, true, true, false] rfl ?_
        exact ih (w32 (x3 + (w32 ((f_X1_having x2 x4 M) * r242)))) (w32 (x4 + 1)) M243 H
def f_X9_teaching (x2 : Int) (M : Mem) : Option (Int × Mem) :=
  f_X9_teaching_L5
    x2 100000 0 0 M
set_option maxHeartbeats 4000000 in
theorem t_X9_teaching (l : Launch) (g : GG) (ad : Nat → Nat) (S : SW) (M : Mem) (hS : q_ag 0 38 ad S) (x2 : Int) {r : Int} {M' : Mem} (H : f_X9_teaching x2 M = some (r, M')) : CT l g MX9_teaching 4 0 0 S M [.inr (.inr (some (ad 0))), .inr (.inr (some (ad 21))), .inl x2] (q_ex S (some (.inl r)) M') := by
  unfold f_X9_teaching at H
  refine CT_of (ls0 := [some (.inr (.inr (some (ad 0)))), some (.inr (.inr (some (ad 21)))), some (.inl x2), none, none, none]) (by decide +kernel) (Nat.le_of_ble_eq_true rfl) rfl ?_
  refine R_iconst (dX9_teaching 0 rfl) rfl ?_
  refine R_istore_n (i := 3) (ls' := [some (.inr (.inr (some (ad 0)))), some (.inr (.inr (some (ad 21)))), some (.inl x2), some (.inl 0), none, none]) (dX9_teaching 1 rfl) rfl (Nat.le_of_ble_eq_true rfl) (Nat.le_of_ble_eq_true rfl) rfl rfl ?_
  refine R_iconst (dX9_teaching 2 rfl) rfl ?_
  refine R_istore (i := 4) (ls' := [some (.inr (.inr (some (ad 0)))), some (.inr (.inr (some (ad 21)))), some (.inl x2), some (.inl 0), some (.inl 0), none]) (dX9_teaching 3 rfl) (Nat.le_of_ble_eq_true rfl) (Nat.le_of_ble_eq_true rfl) rfl rfl ?_
  exact t_X9_teaching_L5 l g ad S hS x2  100000 0 0 M H 
def f_X9_taste_L25 (K71 : Int → Int → Mem → Option (Int × Mem)) (x1 : Int) : Nat → Int → Int → Int → Mem → Option (Int × Mem)
  | 0, _, _, _, _ => none
  | n + 1, x3, x4, x5, M =>
    if x5 < M 3 3 then
      ob (f_X9_teaching x5 M) fun r246 M247 =>
      if x3 = (-1) then
        f_X9_taste_L25 K71 x1 n x5 r246 (w32 (x5 + 1)) M247
      else
        if x4 < r246 then
          f_X9_taste_L25 K71 x1 n x5 r246 (w32 (x5 + 1)) M247
        else
          f_X9_taste_L25 K71 x1 n x3 x4 (w32 (x5 + 1)) M247
    else
      K71 x3 x4 M
set_option maxHeartbeats 4000000 in
theorem t_X9_taste_L25 (l : Launch) (g : GG) (ad : Nat → Nat) (S : SW) (hS : q_ag 0 38 ad S) (x1 : Int) {K71 : Int → Int → Mem → Option (Int × Mem)} {r : Int} {M' : Mem} : ∀ (n : Nat) (x3 : Int) (x4 : Int) (x5 : Int) (M : Mem), f_X9_taste_L25 K71 x1 n x3 x4 x5 M = some (r, M') → (∀ (z3 : Int) (z4 : Int) (M1 : Mem), K71 z3 z4 M1 = some (r, M') → RW l g MX9_taste (q_rm 7 0 0) 0 0 (q_ex S (some (.inl r)) M') 71 S M1 0 0 [none, some (.inl x1), none, some (.inl z3), some (.inl z4), none, none] []) → RW l g MX9_taste (q_rm 7 0 0) 0 0 (q_ex S (some (.inl r)) M') 25 S M 0 0 [some (.inr (.inr (some (ad 0)))), some (.inl x1), some (.inr (.inr (some (ad 21)))), some (.inl x3), some (.inl x4), some (.inl x5), none] [] := by
  intro n
  induction n with
  | zero => intro x3 x4 x5 M H; exact absurd H (by simp [f_X9_taste_L25])
  | succ n ih =>
    intro x3 x4 x5 M H hK71
    rw [f_X9_taste_L25] at H
    refine R_iload (i := 5) (dX9_taste 16 rfl) rfl ?_
    refine R_aload_n (i := 0) (dX9_taste 17 rfl) rfl rfl ?_
    refine R_getR cgX9 0 (cl0 hS) 1 (Nat.le_of_ble_eq_true rfl) rfl (Or.inl tb_554) (dX9_taste 18 rfl) ?_
    refine R_getI cgX3 3 (cl3 hS) 3 (Nat.le_of_ble_eq_true rfl) rfl (Or.inr ⟨_, tb_140⟩) (dX9_taste 19 rfl) ?_
    refine R_icmp_ge (tgt := 71) (dX9_taste 20 rfl) (by decide) (fun hc => ?_) (fun hc => ?_)
    · have H := ite_F H hc
      refine R_mask [false, true, false, true, true, false, false] rfl ?_
      exact hK71 x3 x4 M H
    · have H := ite_T H hc
      refine R_aload_n (i := 0) (dX9_taste 21 rfl) rfl rfl ?_
      refine R_aload_n (i := 2) (dX9_taste 22 rfl) rfl rfl ?_
      refine R_iload (i := 5) (dX9_taste 23 rfl) rfl ?_
      obtain ⟨r246, M247, hr, H⟩ := ob_E H
      refine R_cV (st' := [.inl r246]) [.inr (.inr (some (ad 21))), .inl x5] [] (t_X9_teaching l g ad S _ hS   x5 hr) msX9_teaching (Or.inl tb_922) (Or.inl ⟨0, 9, _, _, _, (cl0 hS), rfl⟩) ⟨Nat.le_of_ble_eq_true rfl, Nat.le_of_ble_eq_true rfl⟩ (Nat.zero_le _) (Nat.zero_le _) rfl rfl (Nat.le_of_ble_eq_true rfl) rfl (dX9_taste 24 rfl) ?_
      refine R_istore (i := 6) (ls' := [some (.inr (.inr (some (ad 0)))), some (.inl x1), some (.inr (.inr (some (ad 21)))), some (.inl x3), some (.inl x4), some (.inl x5), some (.inl r246)]) (dX9_taste 25 rfl) (Nat.le_of_ble_eq_true rfl) (Nat.le_of_ble_eq_true rfl) rfl rfl ?_
      refine R_iload_n (i := 3) (dX9_taste 26 rfl) rfl rfl ?_
      refine R_iconst (dX9_taste 27 rfl) rfl ?_
      refine R_icmp_eq (tgt := 58) (dX9_taste 28 rfl) (by decide) (fun hc => ?_) (fun hc => ?_)
      · have H := ite_T H hc
        refine R_iload (i := 5) (dX9_taste 32 rfl) rfl ?_
        refine R_istore_n (i := 3) (ls' := [some (.inr (.inr (some (ad 0)))), some (.inl x1), some (.inr (.inr (some (ad 21)))), some (.inl x5), some (.inl x4), some (.inl x5), some (.inl r246)]) (dX9_taste 33 rfl) rfl (Nat.le_of_ble_eq_true rfl) (Nat.le_of_ble_eq_true rfl) rfl rfl ?_
        refine R_iload (i := 6) (dX9_taste 34 rfl) rfl ?_
        refine R_istore (i := 4) (ls' := [some (.inr (.inr (some (ad 0)))), some (.inl x1), some (.inr (.inr (some (ad 21)))), some (.inl x5), some (.inl r246), some (.inl x5), some (.inl r246)]) (dX9_taste 35 rfl) (Nat.le_of_ble_eq_true rfl) (Nat.le_of_ble_eq_true rfl) rfl rfl ?_
        refine R_iinc (i := 5) (ls' := [some (.inr (.inr (some (ad 0)))), some (.inl x1), some (.inr (.inr (some (ad 21)))), some (.inl x5), some (.inl r246), some (.inl (w32 (x5 + 1))), some (.inl r246)]) (dX9_taste 36 rfl) rfl (Nat.le_of_ble_eq_true rfl) rfl rfl ?_
        refine R_goto (tgt := 25) (dX9_taste 37 rfl) (by decide) ?_
        refine R_mask [true, true, true, true, true, true, false] rfl ?_
        exact ih x5 r246 (w32 (x5 + 1)) M247 H hK71
      · have H := ite_F H hc
        refine R_iload (i := 6) (dX9_taste 29 rfl) rfl ?_
        refine R_iload (i := 4) (dX9_taste 30 rfl) rfl ?_
        refine R_icmp_le (tgt := 65) (dX9_taste 31 rfl) (by decide) (fun hc => ?_) (fun hc => ?_)
        · have H := ite_F H hc
          refine R_iinc (i := 5) (ls' := [some (.inr (.inr (some (ad 0)))), some (.inl x1), some (.inr (.inr (some (ad 21)))), some (.inl x3), some (.inl x4), some (.inl (w32 (x5 + 1))), some (.inl r246)]) (dX9_taste 36 rfl) rfl (Nat.le_of_ble_eq_true rfl) rfl rfl ?_
          refine R_goto (tgt := 25) (dX9_taste 37 rfl) (by decide) ?_
          refine R_mask [true, true, true, true, true, true, false] rfl ?_
          exact ih x3 x4 (w32 (x5 + 1)) M247 H hK71
        · have H := ite_T H hc
          refine R_iload (i := 5) (dX9_taste 32 rfl) rfl ?_
          refine R_istore_n (i := 3) (ls' := [some (.inr (.inr (some (ad 0)))), some (.inl x1), some (.inr (.inr (some (ad 21)))), some (.inl x5), some (.inl x4), some (.inl x5), some (.inl r246)]) (dX9_taste 33 rfl) rfl (Nat.le_of_ble_eq_true rfl) (Nat.le_of_ble_eq_true rfl) rfl rfl ?_
          refine R_iload (i := 6) (dX9_taste 34 rfl) rfl ?_
          refine R_istore (i := 4) (ls' := [some (.inr (.inr (some (ad 0)))), some (.inl x1), some (.inr (.inr (some (ad 21)))), some (.inl x5), some (.inl r246), some (.inl x5), some (.inl r246)]) (dX9_taste 35 rfl) (Nat.le_of_ble_eq_true rfl) (Nat.le_of_ble_eq_true rfl) rfl rfl ?_
          refine R_iinc (i := 5) (ls' := [some (.inr (.inr (some (ad 0)))), some (.inl x1), some (.inr (.inr (some (ad 21)))), some (.inl x5), some (.inl r246), some (.inl (w32 (x5 + 1))), some (.inl r246)]) (dX9_taste 36 rfl) rfl (Nat.le_of_ble_eq_true rfl) rfl rfl ?_
          refine R_goto (tgt := 25) (dX9_taste 37 rfl) (by decide) ?_
          refine R_mask [true, true, true, true, true, true, false] rfl ?_
          exact ih x5 r246 (w32 (x5 + 1)) M247 H hK71
def f_X9_taste (x1 : Int) (M : Mem) : Option (Int × Mem) :=
  if f_X9_within x1 0 1 = 0 then
    some ((-2), M)
  else
    ob (f_X9_fitting M) fun r244 M245 =>
    f_X9_taste_L25
      (fun y248 y249 M250 =>
        if x1 = 0 then
          some (y248, M250)
        else
          some (y249, M250)
      )
      x1 100000 (-1) 0 0 M245
set_option maxHeartbeats 4000000 in
theorem t_X9_taste (l : Launch) (g : GG) (ad : Nat → Nat) (S : SW) (M : Mem) (hS : q_ag 0 38 ad S) (x1 : Int) {r : Int} {M' : Mem} (H : f_X9_taste x1 M = some (r, M')) : CT l g MX9_taste 7 0 0 S M [.inr (.inr (some (ad 0))), .inl x1] (q_ex S (some (.inl r)) M') := by
  unfold f_X9_taste at H
  refine CT_of (ls0 := [some (.inr (.inr (some (ad 0)))), some (.inl x1), none, none, none, none, none]) (by decide +kernel) (Nat.le_of_ble_eq_true rfl) rfl ?_
  refine R_iload_n (i := 1) (dX9_taste 0 rfl) rfl rfl ?_
  refine R_iconst (dX9_taste 1 rfl) rfl ?_
  refine R_iconst (dX9_taste 2 rfl) rfl ?_
  refine R_cS (st' := [.inl (f_X9_within x1 0 1)]) [.inl x1, .inl 0, .inl 1] [] (t_X9_within l g S _   x1 0 1) msX9_within (Or.inl tb_603) ⟨Nat.le_of_ble_eq_true rfl, Nat.le_of_ble_eq_true rfl⟩ (Nat.zero_le _) (Nat.zero_le _) rfl rfl (Nat.le_of_ble_eq_true rfl) rfl (dX9_taste 3 rfl) ?_
  refine R_if_ne (tgt := 12) (dX9_taste 4 rfl) (by decide) (fun hc => ?_) (fun hc => ?_)
  · have H := ite_F H hc
    refine R_aload_n (i := 0) (dX9_taste 7 rfl) rfl rfl ?_
    obtain ⟨r244, M245, hr, H⟩ := ob_E H
    refine R_cV (st' := [.inr (.inr (some (ad 21)))]) [] [] (t_X9_fitting l g ad S _ hS   hr) msX9_fitting (Or.inl tb_732) (Or.inl ⟨0, 9, _, _, _, (cl0 hS), rfl⟩) ⟨Nat.le_of_ble_eq_true rfl, Nat.le_of_ble_eq_true rfl⟩ (Nat.zero_le _) (Nat.zero_le _) rfl rfl (Nat.le_of_ble_eq_true rfl) rfl (dX9_taste 8 rfl) ?_
    refine R_astore_n (i := 2) (ls' := [some (.inr (.inr (some (ad 0)))), some (.inl x1), some (.inr (.inr (some (ad 21)))), none, none, none, none]) (dX9_taste 9 rfl) rfl (Nat.le_of_ble_eq_true rfl) (Nat.le_of_ble_eq_true rfl) rfl rfl ?_
    refine R_iconst (dX9_taste 10 rfl) rfl ?_
    refine R_istore_n (i := 3) (ls' := [some (.inr (.inr (some (ad 0)))), some (.inl x1), some (.inr (.inr (some (ad 21)))), some (.inl (-1)), none, none, none]) (dX9_taste 11 rfl) rfl (Nat.le_of_ble_eq_true rfl) (Nat.le_of_ble_eq_true rfl) rfl rfl ?_
    refine R_iconst (dX9_taste 12 rfl) rfl ?_
    refine R_istore (i := 4) (ls' := [some (.inr (.inr (some (ad 0)))), some (.inl x1), some (.inr (.inr (some (ad 21)))), some (.inl (-1)), some (.inl 0), none, none]) (dX9_taste 13 rfl) (Nat.le_of_ble_eq_true rfl) (Nat.le_of_ble_eq_true rfl) rfl rfl ?_
    refine R_iconst (dX9_taste 14 rfl) rfl ?_
    refine R_istore (i := 5) (ls' := [some (.inr (.inr (some (ad 0)))), some (.inl x1), some (.inr (.inr (some (ad 21)))), some (.inl (-1)), some (.inl 0), some (.inl 0), none]) (dX9_taste 15 rfl) (Nat.le_of_ble_eq_true rfl) (Nat.le_of_ble_eq_true rfl) rfl rfl ?_
    refine t_X9_taste_L25 l g ad S hS x1  100000 (-1) 0 0 M245 H (fun y248 y249 M250 H => ?_)
    refine R_iload_n (i := 1) (dX9_taste 38 rfl) rfl rfl ?_
    refine R_if_ne (tgt := 79) (dX9_taste 39 rfl) (by decide) (fun hc => ?_) (fun hc => ?_)
    · have H := ite_F H hc
      refine R_iload (i := 4) (dX9_taste 42 rfl) rfl ?_
      exact R_iret rfl rfl (Nat.zero_le _) (Nat.zero_le _) (dX9_taste 43 rfl) ⟨congrArg (fun z => some (Sum.inl z)) (Prod.mk.inj (Option.some.inj H)).1, rfl, (Prod.mk.inj (Option.some.inj H)).2⟩
    · have H := ite_T H hc
      refine R_iload_n (i := 3) (dX9_taste 40 rfl) rfl rfl ?_
      refine R_goto (tgt := 81) (dX9_taste 41 rfl) (by decide) ?_
      exact R_iret rfl rfl (Nat.zero_le _) (Nat.zero_le _) (dX9_taste 43 rfl) ⟨congrArg (fun z => some (Sum.inl z)) (Prod.mk.inj (Option.some.inj H)).1, rfl, (Prod.mk.inj (Option.some.inj H)).2⟩
  · have H := ite_T H hc
    refine R_bipush (dX9_taste 5 rfl) rfl rfl ?_
    exact R_iret rfl rfl (Nat.zero_le _) (Nat.zero_le _) (dX9_taste 6 rfl) ⟨congrArg (fun z => some (Sum.inl z)) (Prod.mk.inj (Option.some.inj H)).1, rfl, (Prod.mk.inj (Option.some.inj H)).2⟩
def f_X9_two_L43 (K100 : Int → Int → Mem → Option (Int × Mem)) (x1 : Int) (x5 : Int) : Nat → Int → Int → Int → Mem → Option (Int × Mem)
  | 0, _, _, _, _ => none
  | n + 1, x3, x4, x6, M =>
    if x6 < M 3 3 then
      ob (f_X1_squares x5 x6 M) fun r253 M254 =>
      if x3 = (-1) then
        f_X9_two_L43 K100 x1 x5 n (w32 ((w32 (10 * x5)) + x6)) r253 (w32 (x6 + 1)) M254
      else
        if r253 < x4 then
          f_X9_two_L43 K100 x1 x5 n (w32 ((w32 (10 * x5)) + x6)) r253 (w32 (x6 + 1)) M254
        else
          f_X9_two_L43 K100 x1 x5 n x3 x4 (w32 (x6 + 1)) M254
    else
      K100 x3 x4 M
set_option maxHeartbeats 4000000 in
theorem t_X9_two_L43 (l : Launch) (g : GG) (ad : Nat → Nat) (S : SW) (hS : q_ag 0 38 ad S) (x1 : Int) (x5 : Int) {K100 : Int → Int → Mem → Option (Int × Mem)} {r : Int} {M' : Mem} : ∀ (n : Nat) (x3 : Int) (x4 : Int) (x6 : Int) (M : Mem), f_X9_two_L43 K100 x1 x5 n x3 x4 x6 M = some (r, M') → (∀ (z3 : Int) (z4 : Int) (M1 : Mem), K100 z3 z4 M1 = some (r, M') → RW l g MX9_two (q_rm 7 0 0) 0 0 (q_ex S (some (.inl r)) M') 100 S M1 0 0 [some (.inr (.inr (some (ad 0)))), some (.inl x1), some (.inr (.inr (some (ad 21)))), some (.inl z3), some (.inl z4), some (.inl x5), none, none] []) → RW l g MX9_two (q_rm 7 0 0) 0 0 (q_ex S (some (.inl r)) M') 43 S M 0 0 [some (.inr (.inr (some (ad 0)))), some (.inl x1), some (.inr (.inr (some (ad 21)))), some (.inl x3), some (.inl x4), some (.inl x5), some (.inl x6), none] [] := by
  intro n
  induction n with
  | zero => intro x3 x4 x6 M H; exact absurd H (by simp [f_X9_two_L43])
  | succ n ih =>
    intro x3 x4 x6 M H hK100
    rw [f_X9_two_L43] at H
    refine R_iload (i := 6) (dX9_two_0 25 rfl) rfl ?_
    refine R_aload_n (i := 0) (dX9_two_0 26 rfl) rfl rfl ?_
    refine R_getR cgX9 0 (cl0 hS) 1 (Nat.le_of_ble_eq_true rfl) rfl (Or.inl tb_554) (dX9_two_0 27 rfl) ?_
    refine R_getI cgX3 3 (cl3 hS) 3 (Nat.le_of_ble_eq_true rfl) rfl (Or.inr ⟨_, tb_140⟩) (dX9_two_0 28 rfl) ?_
    refine R_icmp_ge (tgt := 100) (dX9_two_0 29 rfl) (by decide) (fun hc => ?_) (fun hc => ?_)
    · have H := ite_F H hc
      refine R_mask [true, true, true, true, true, true, false, false] rfl ?_
      exact hK100 x3 x4 M H
    · have H := ite_T H hc
      refine R_aload_n (i := 2) (dX9_two_0 30 rfl) rfl rfl ?_
      refine R_aload_n (i := 0) (dX9_two_0 31 rfl) rfl rfl ?_
      refine R_getR cgX9 0 (cl0 hS) 1 (Nat.le_of_ble_eq_true rfl) rfl (Or.inl tb_554) (dX9_two_0 32 rfl) ?_
      refine R_iload (i := 5) (dX9_two_0 33 rfl) rfl ?_
      refine R_iload (i := 6) (dX9_two_0 34 rfl) rfl ?_
      obtain ⟨r253, M254, hr, H⟩ := ob_E H
      refine R_cV (st' := [.inl r253]) [.inr (.inr (some (ad 3))), .inl x5, .inl x6] [] (t_X1_squares l g ad S _ hS   x5 x6 hr) msX1_squares (Or.inl tb_930) (Or.inl ⟨21, 1, _, _, _, (cl21 hS), rfl⟩) ⟨Nat.le_of_ble_eq_true rfl, Nat.le_of_ble_eq_true rfl⟩ (Nat.zero_le _) (Nat.zero_le _) rfl rfl (Nat.le_of_ble_eq_true rfl) rfl (dX9_two_0 35 rfl) ?_
      refine R_istore (i := 7) (ls' := [some (.inr (.inr (some (ad 0)))), some (.inl x1), some (.inr (.inr (some (ad 21)))), some (.inl x3), some (.inl x4), some (.inl x5), some (.inl x6), some (.inl r253)]) (dX9_two_0 36 rfl) (Nat.le_of_ble_eq_true rfl) (Nat.le_of_ble_eq_true rfl) rfl rfl ?_
      refine R_iload_n (i := 3) (dX9_two_0 37 rfl) rfl rfl ?_
      refine R_iconst (dX9_two_0 38 rfl) rfl ?_
      refine R_icmp_eq (tgt := 81) (dX9_two_0 39 rfl) (by decide) (fun hc => ?_) (fun hc => ?_)
      · have H := ite_T H hc
        refine R_bipush (dX9_two_0 43 rfl) rfl rfl ?_
        refine R_iload (i := 5) (dX9_two_0 44 rfl) rfl ?_
        refine R_imul (dX9_two_0 45 rfl) ?_
        refine R_iload (i := 6) (dX9_two_0 46 rfl) rfl ?_
        refine R_iadd (dX9_two_0 47 rfl) ?_
        refine R_istore_n (i := 3) (ls' := [some (.inr (.inr (some (ad 0)))), some (.inl x1), some (.inr (.inr (some (ad 21)))), some (.inl (w32 ((w32 (10 * x5)) + x6))), some (.inl x4), some (.inl x5), some (.inl x6), some (.inl r253)]) (dX9_two_0 48 rfl) rfl (Nat.le_of_ble_eq_true rfl) (Nat.le_of_ble_eq_true rfl) rfl rfl ?_
        refine R_iload (i := 7) (dX9_two_0 49 rfl) rfl ?_
        refine R_istore (i := 4) (ls' := [some (.inr (.inr (some (ad 0)))), some (.inl x1), some (.inr (.inr (some (ad 21)))), some (.inl (w32 ((w32 (10 * x5)) + x6))), some (.inl r253), some (.inl x5), some (.inl x6), some (.inl r253)]) (dX9_two_0 50 rfl) (Nat.le_of_ble_eq_true rfl) (Nat.le_of_ble_eq_true rfl) rfl rfl ?_
        refine R_iinc (i := 6) (ls' := [some (.inr (.inr (some (ad 0)))), some (.inl x1), some (.inr (.inr (some (ad 21)))), some (.inl (w32 ((w32 (10 * x5)) + x6))), some (.inl r253), some (.inl x5), some (.inl (w32 (x6 + 1))), some (.inl r253)]) (dX9_two_0 51 rfl) rfl (Nat.le_of_ble_eq_true rfl) rfl rfl ?_
        refine R_goto (tgt := 43) (dX9_two_0 52 rfl) (by decide) ?_
        refine R_mask [true, true, true, true, true, true, true, false] rfl ?_
        exact ih (w32 ((w32 (10 * x5)) + x6)) r253 (w32 (x6 + 1)) M254 H hK100
      · have H := ite_F H hc
        refine R_iload (i := 7) (dX9_two_0 40 rfl) rfl ?_
        refine R_iload (i := 4) (dX9_two_0 41 rfl) rfl ?_
        refine R_icmp_ge (tgt := 94) (dX9_two_0 42 rfl) (by decide) (fun hc => ?_) (fun hc => ?_)
        · have H := ite_F H hc
          refine R_iinc (i := 6) (ls' := [some (.inr (.inr (some (ad 0)))), some (.inl x1), some (.inr (.inr (some (ad 21)))), some (.inl x3), some (.inl x4), some (.inl x5), some (.inl (w32 (x6 + 1))), some (.inl r253)]) (dX9_two_0 51 rfl) rfl (Nat.le_of_ble_eq_true rfl) rfl rfl ?_
          refine R_goto (tgt := 43) (dX9_two_0 52 rfl) (by decide) ?_
          refine R_mask [true, true, true, true, true, true, true, false] rfl ?_
          exact ih x3 x4 (w32 (x6 + 1)) M254 H hK100
        · have H := ite_T H hc
          refine R_bipush (dX9_two_0 43 rfl) rfl rfl ?_
          refine R_iload (i := 5) (dX9_two_0 44 rfl) rfl ?_
          refine R_imul (dX9_two_0 45 rfl) ?_
          refine R_iload (i := 6) (dX9_two_0 46 rfl) rfl ?_
          refine R_iadd (dX9_two_0 47 rfl) ?_
          refine R_istore_n (i := 3) (ls' := [some (.inr (.inr (some (ad 0)))), some (.inl x1), some (.inr (.inr (some (ad 21)))), some (.inl (w32 ((w32 (10 * x5)) + x6))), some (.inl x4), some (.inl x5), some (.inl x6), some (.inl r253)]) (dX9_two_0 48 rfl) rfl (Nat.le_of_ble_eq_true rfl) (Nat.le_of_ble_eq_true rfl) rfl rfl ?_
          refine R_iload (i := 7) (dX9_two_0 49 rfl) rfl ?_
          refine R_istore (i := 4) (ls' := [some (.inr (.inr (some (ad 0)))), some (.inl x1), some (.inr (.inr (some (ad 21)))), some (.inl (w32 ((w32 (10 * x5)) + x6))), some (.inl r253), some (.inl x5), some (.inl x6), some (.inl r253)]) (dX9_two_0 50 rfl) (Nat.le_of_ble_eq_true rfl) (Nat.le_of_ble_eq_true rfl) rfl rfl ?_
          refine R_iinc (i := 6) (ls' := [some (.inr (.inr (some (ad 0)))), some (.inl x1), some (.inr (.inr (some (ad 21)))), some (.inl (w32 ((w32 (10 * x5)) + x6))), some (.inl r253), some (.inl x5), some (.inl (w32 (x6 + 1))), some (.inl r253)]) (dX9_two_0 51 rfl) rfl (Nat.le_of_ble_eq_true rfl) rfl rfl ?_
          refine R_goto (tgt := 43) (dX9_two_0 52 rfl) (by decide) ?_
          refine R_mask [true, true, true, true, true, true, true, false] rfl ?_
          exact ih (w32 ((w32 (10 * x5)) + x6)) r253 (w32 (x6 + 1)) M254 H hK100
def f_X9_two_L25 (K106 : Int → Int → Mem → Option (Int × Mem)) (x1 : Int) : Nat → Int → Int → Int → Mem → Option (Int × Mem)
  | 0, _, _, _, _ => none
  | n + 1, x3, x4, x5, M =>
    if x5 < M 3 3 then
      f_X9_two_L43
        (fun y255 y256 M257 =>
          f_X9_two_L25 K106 x1 n y255 y256 (w32 (x5 + 1)) M257
        )
        x1 x5 100000 x3 x4 (w32 (x5 + 1)) M
    else
      K106 x3 x4 M
set_option maxHeartbeats 4000000 in
theorem t_X9_two_L25 (l : Launch) (g : GG) (ad : Nat → Nat) (S : SW) (hS : q_ag 0 38 ad S) (x1 : Int) {K106 : Int → Int → Mem → Option (Int × Mem)} {r : Int} {M' : Mem} : ∀ (n : Nat) (x3 : Int) (x4 : Int) (x5 : Int) (M : Mem), f_X9_two_L25 K106 x1 n x3 x4 x5 M = some (r, M') → (∀ (z3 : Int) (z4 : Int) (M1 : Mem), K106 z3 z4 M1 = some (r, M') → RW l g MX9_two (q_rm 7 0 0) 0 0 (q_ex S (some (.inl r)) M') 106 S M1 0 0 [none, some (.inl x1), none, some (.inl z3), some (.inl z4), none, none, none] []) → RW l g MX9_two (q_rm 7 0 0) 0 0 (q_ex S (some (.inl r)) M') 25 S M 0 0 [some (.inr (.inr (some (ad 0)))), some (.inl x1), some (.inr (.inr (some (ad 21)))), some (.inl x3), some (.inl x4), some (.inl x5), none, none] [] := by
  intro n
  induction n with
  | zero => intro x3 x4 x5 M H; exact absurd H (by simp [f_X9_two_L25])
  | succ n ih =>
    intro x3 x4 x5 M H hK106
    rw [f_X9_two_L25] at H
    refine R_iload (i := 5) (dX9_two_0 16 rfl) rfl ?_
    refine R_aload_n (i := 0) (dX9_two_0 17 rfl) rfl rfl ?_
    refine R_getR cgX9 0 (cl0 hS) 1 (Nat.le_of_ble_eq_true rfl) rfl (Or.inl tb_554) (dX9_two_0 18 rfl) ?_
    refine R_getI cgX3 3 (cl3 hS) 3 (Nat.le_of_ble_eq_true rfl) rfl (Or.inr ⟨_, tb_140⟩) (dX9_two_0 19 rfl) ?_
    refine R_icmp_ge (tgt := 106) (dX9_two_0 20 rfl) (by decide) (fun hc => ?_) (fun hc => ?_)
    · have H := ite_F H hc
      refine R_mask [false, true, false, true, true, false, false, false] rfl ?_
      exact hK106 x3 x4 M H
    · have H := ite_T H hc
      refine R_iload (i := 5) (dX9_two_0 21 rfl) rfl ?_
      refine R_iconst (dX9_two_0 22 rfl) rfl ?_
      refine R_iadd (dX9_two_0 23 rfl) ?_
      refine R_istore (i := 6) (ls' := [some (.inr (.inr (some (ad 0)))), some (.inl x1), some (.inr (.inr (some (ad 21)))), some (.inl x3), some (.inl x4), some (.inl x5), some (.inl (w32 (x5 + 1))), none]) (dX9_two_0 24 rfl) (Nat.le_of_ble_eq_true rfl) (Nat.le_of_ble_eq_true rfl) rfl rfl ?_
      refine t_X9_two_L43 l g ad S hS x1 x5  100000 x3 x4 (w32 (x5 + 1)) M H (fun y255 y256 M257 H => ?_)
      refine R_iinc (i := 5) (ls' := [some (.inr (.inr (some (ad 0)))), some (.inl x1), some (.inr (.inr (some (ad 21)))), some (.inl y255), some (.inl y256), some (.inl (w32 (x5 + 1))), none, none]) (dX9_two_0 53 rfl) rfl (Nat.le_of_ble_eq_true rfl) rfl rfl ?_
      refine R_goto (tgt := 25) (dX9_two_0 54 rfl) (by decide) ?_
      exact ih y255 y256 (w32 (x5 + 1)) M257 H hK106
def f_X9_two (x1 : Int) (M : Mem) : Option (Int × Mem) :=
  if f_X9_within x1 0 1 = 0 then
    some ((-2), M)
  else
    ob (f_X9_fitting M) fun r251 M252 =>
    f_X9_two_L25
      (fun y258 y259 M260 =>
        if x1 = 0 then
          some (y258, M260)
        else
          some (y259, M260)
      )
      x1 100000 (-1) 0 0 M252
set_option maxHeartbeats 4000000 in
theorem t_X9_two (l : Launch) (g : GG) (ad : Nat → Nat) (S : SW) (M : Mem) (hS : q_ag 0 38 ad S) (x1 : Int) {r : Int} {M' : Mem} (H : f_X9_two x1 M = some (r, M')) : CT l g MX9_two 7 0 0 S M [.inr (.inr (some (ad 0))), .inl x1] (q_ex S (some (.inl r)) M') := by
  unfold f_X9_two at H
  refine CT_of (ls0 := [some (.inr (.inr (some (ad 0)))), some (.inl x1), none, none, none, none, none, none]) (by decide +kernel) (Nat.le_of_ble_eq_true rfl) rfl ?_
  refine R_iload_n (i := 1) (dX9_two_0 0 rfl) rfl rfl ?_
  refine R_iconst (dX9_two_0 1 rfl) rfl ?_
  refine R_iconst (dX9_two_0 2 rfl) rfl ?_
  refine R_cS (st' := [.inl (f_X9_within x1 0 1)]) [.inl x1, .inl 0, .inl 1] [] (t_X9_within l g S _   x1 0 1) msX9_within (Or.inl tb_603) ⟨Nat.le_of_ble_eq_true rfl, Nat.le_of_ble_eq_true rfl⟩ (Nat.zero_le _) (Nat.zero_le _) rfl rfl (Nat.le_of_ble_eq_true rfl) rfl (dX9_two_0 3 rfl) ?_
  refine R_if_ne (tgt := 12) (dX9_two_0 4 rfl) (by decide) (fun hc => ?_) (fun hc => ?_)
  · have H := ite_F H hc
    refine R_aload_n (i := 0) (dX9_two_0 7 rfl) rfl rfl ?_
    obtain ⟨r251, M252, hr, H⟩ := ob_E H
    refine R_cV (st' := [.inr (.inr (some (ad 21)))]) [] [] (t_X9_fitting l g ad S _ hS   hr) msX9_fitting (Or.inl tb_732) (Or.inl ⟨0, 9, _, _, _, (cl0 hS), rfl⟩) ⟨Nat.le_of_ble_eq_true rfl, Nat.le_of_ble_eq_true rfl⟩ (Nat.zero_le _) (Nat.zero_le _) rfl rfl (Nat.le_of_ble_eq_true rfl) rfl (dX9_two_0 8 rfl) ?_
    refine R_astore_n (i := 2) (ls' := [some (.inr (.inr (some (ad 0)))), some (.inl x1), some (.inr (.inr (some (ad 21)))), none, none, none, none, none]) (dX9_two_0 9 rfl) rfl (Nat.le_of_ble_eq_true rfl) (Nat.le_of_ble_eq_true rfl) rfl rfl ?_
    refine R_iconst (dX9_two_0 10 rfl) rfl ?_
    refine R_istore_n (i := 3) (ls' := [some (.inr (.inr (some (ad 0)))), some (.inl x1), some (.inr (.inr (some (ad 21)))), some (.inl (-1)), none, none, none, none]) (dX9_two_0 11 rfl) rfl (Nat.le_of_ble_eq_true rfl) (Nat.le_of_ble_eq_true rfl) rfl rfl ?_
    refine R_iconst (dX9_two_0 12 rfl) rfl ?_
    refine R_istore (i := 4) (ls' := [some (.inr (.inr (some (ad 0)))), some (.inl x1), some (.inr (.inr (some (ad 21)))), some (.inl (-1)), some (.inl 0), none, none, none]) (dX9_two_0 13 rfl) (Nat.le_of_ble_eq_true rfl) (Nat.le_of_ble_eq_true rfl) rfl rfl ?_
    refine R_iconst (dX9_two_0 14 rfl) rfl ?_
    refine R_istore (i := 5) (ls' := [some (.inr (.inr (some (ad 0)))), some (.inl x1), some (.inr (.inr (some (ad 21)))), some (.inl (-1)), some (.inl 0), some (.inl 0), none, none]) (dX9_two_0 15 rfl) (Nat.le_of_ble_eq_true rfl) (Nat.le_of_ble_eq_true rfl) rfl rfl ?_
    refine t_X9_two_L25 l g ad S hS x1  100000 (-1) 0 0 M252 H (fun y258 y259 M260 H => ?_)
    refine R_iload_n (i := 1) (dX9_two_0 55 rfl) rfl rfl ?_
    refine R_if_ne (tgt := 114) (dX9_two_0 56 rfl) (by decide) (fun hc => ?_) (fun hc => ?_)
    · have H := ite_F H hc
      refine R_iload (i := 4) (dX9_two_0 59 rfl) rfl ?_
      exact R_iret rfl rfl (Nat.zero_le _) (Nat.zero_le _) (dX9_two_1 0 rfl) ⟨congrArg (fun z => some (Sum.inl z)) (Prod.mk.inj (Option.some.inj H)).1, rfl, (Prod.mk.inj (Option.some.inj H)).2⟩
    · have H := ite_T H hc
      refine R_iload_n (i := 3) (dX9_two_0 57 rfl) rfl rfl ?_
      refine R_goto (tgt := 116) (dX9_two_0 58 rfl) (by decide) ?_
      exact R_iret rfl rfl (Nat.zero_le _) (Nat.zero_le _) (dX9_two_1 0 rfl) ⟨congrArg (fun z => some (Sum.inl z)) (Prod.mk.inj (Option.some.inj H)).1, rfl, (Prod.mk.inj (Option.some.inj H)).2⟩
  · have H := ite_T H hc
    refine R_bipush (dX9_two_0 5 rfl) rfl rfl ?_
    exact R_iret rfl rfl (Nat.zero_le _) (Nat.zero_le _) (dX9_two_0 6 rfl) ⟨congrArg (fun z => some (Sum.inl z)) (Prod.mk.inj (Option.some.inj H)).1, rfl, (Prod.mk.inj (Option.some.inj H)).2⟩
def f_X9_ask_L40 (K104 : Int → Int → Mem → Option (Int × Mem)) (x1 : Int) (x5 : Int) : Nat → Int → Int → Int → Mem → Option (Int × Mem)
  | 0, _, _, _, _ => none
  | n + 1, x3, x4, x6, M =>
    if x6 < 6 then
      (f_X1_withAll x5 (b_shl 1 x6) M).bind fun r263 =>
      if x3 = (-1) then
        f_X9_ask_L40 K104 x1 x5 n (w32 ((w32 (10 * x5)) + x6)) (if w32 ((M 21 5) - r263) < r263 then w32 ((M 21 5) - r263) else r263) (w32 (x6 + 1)) M
      else
        if x4 < (if w32 ((M 21 5) - r263) < r263 then w32 ((M 21 5) - r263) else r263) then
          f_X9_ask_L40 K104 x1 x5 n (w32 ((w32 (10 * x5)) + x6)) (if w32 ((M 21 5) - r263) < r263 then w32 ((M 21 5) - r263) else r263) (w32 (x6 + 1)) M
        else
          f_X9_ask_L40 K104 x1 x5 n x3 x4 (w32 (x6 + 1)) M
    else
      K104 x3 x4 M
set_option maxHeartbeats 4000000 in
theorem t_X9_ask_L40 (l : Launch) (g : GG) (ad : Nat → Nat) (S : SW) (hS : q_ag 0 38 ad S) (x1 : Int) (x5 : Int) {K104 : Int → Int → Mem → Option (Int × Mem)} {r : Int} {M' : Mem} : ∀ (n : Nat) (x3 : Int) (x4 : Int) (x6 : Int) (M : Mem), f_X9_ask_L40 K104 x1 x5 n x3 x4 x6 M = some (r, M') → (∀ (z3 : Int) (z4 : Int) (M1 : Mem), K104 z3 z4 M1 = some (r, M') → RW l g MX9_ask (q_rm 7 0 0) 0 0 (q_ex S (some (.inl r)) M') 104 S M1 0 0 [some (.inr (.inr (some (ad 0)))), some (.inl x1), some (.inr (.inr (some (ad 21)))), some (.inl z3), some (.inl z4), some (.inl x5), none, none, none] []) → RW l g MX9_ask (q_rm 7 0 0) 0 0 (q_ex S (some (.inl r)) M') 40 S M 0 0 [some (.inr (.inr (some (ad 0)))), some (.inl x1), some (.inr (.inr (some (ad 21)))), some (.inl x3), some (.inl x4), some (.inl x5), some (.inl x6), none, none] [] := by
  intro n
  induction n with
  | zero => intro x3 x4 x6 M H; exact absurd H (by simp [f_X9_ask_L40])
  | succ n ih =>
    intro x3 x4 x6 M H hK104
    rw [f_X9_ask_L40] at H
    refine R_iload (i := 6) (dX9_ask_0 23 rfl) rfl ?_
    refine R_bipush (dX9_ask_0 24 rfl) rfl rfl ?_
    refine R_icmp_ge (tgt := 104) (dX9_ask_0 25 rfl) (by decide) (fun hc => ?_) (fun hc => ?_)
    · have H := ite_F H hc
      refine R_mask [true, true, true, true, true, true, false, false, false] rfl ?_
      exact hK104 x3 x4 M H
    · have H := ite_T H hc
      refine R_aload_n (i := 2) (dX9_ask_0 26 rfl) rfl rfl ?_
      refine R_iload (i := 5) (dX9_ask_0 27 rfl) rfl ?_
      refine R_iconst (dX9_ask_0 28 rfl) rfl ?_
      refine R_iload (i := 6) (dX9_ask_0 29 rfl) rfl ?_
      refine R_ishl (dX9_ask_0 30 rfl) ?_
      obtain ⟨r263, hr, H⟩ := op_E H
      refine R_cV (st' := [.inl r263]) [.inl x5, .inl (b_shl 1 x6)] [] (t_X1_withAll l g ad S _ hS   x5 (b_shl 1 x6) hr) msX1_withAll (Or.inl tb_830) (Or.inl ⟨21, 1, _, _, _, (cl21 hS), rfl⟩) ⟨Nat.le_of_ble_eq_true rfl, Nat.le_of_ble_eq_true rfl⟩ (Nat.zero_le _) (Nat.zero_le _) rfl rfl (Nat.le_of_ble_eq_true rfl) rfl (dX9_ask_0 31 rfl) ?_
      refine R_istore (i := 7) (ls' := [some (.inr (.inr (some (ad 0)))), some (.inl x1), some (.inr (.inr (some (ad 21)))), some (.inl x3), some (.inl x4), some (.inl x5), some (.inl x6), some (.inl r263), none]) (dX9_ask_0 32 rfl) (Nat.le_of_ble_eq_true rfl) (Nat.le_of_ble_eq_true rfl) rfl rfl ?_
      refine R_iload (i := 7) (dX9_ask_0 33 rfl) rfl ?_
      refine R_aload_n (i := 2) (dX9_ask_0 34 rfl) rfl rfl ?_
      refine R_getI cgX1 21 (cl21 hS) 5 (Nat.le_of_ble_eq_true rfl) rfl (Or.inr ⟨_, tb_465⟩) (dX9_ask_0 35 rfl) ?_
      refine R_iload (i := 7) (dX9_ask_0 36 rfl) rfl ?_
      refine R_isub (dX9_ask_0 37 rfl) ?_
      refine R_mmin tb_939 tb_335 tb_72 tb_336 (Nat.le_of_ble_eq_true rfl) (Nat.le_of_ble_eq_true rfl) (Nat.le_of_ble_eq_true rfl) (Nat.zero_le _) (Nat.zero_le _) (dX9_ask_0 38 rfl) ?_
      refine R_istore (i := 8) (ls' := [some (.inr (.inr (some (ad 0)))), some (.inl x1), some (.inr (.inr (some (ad 21)))), some (.inl x3), some (.inl x4), some (.inl x5), some (.inl x6), some (.inl r263), some (.inl (if w32 ((M 21 5) - r263) < r263 then w32 ((M 21 5) - r263) else r263))]) (dX9_ask_0 39 rfl) (Nat.le_of_ble_eq_true rfl) (Nat.le_of_ble_eq_true rfl) rfl rfl ?_
      refine R_iload_n (i := 3) (dX9_ask_0 40 rfl) rfl rfl ?_
      refine R_iconst (dX9_ask_0 41 rfl) rfl ?_
      refine R_icmp_eq (tgt := 85) (dX9_ask_0 42 rfl) (by decide) (fun hc => ?_) (fun hc => ?_)
      · have H := ite_T H hc
        refine R_bipush (dX9_ask_0 46 rfl) rfl rfl ?_
        refine R_iload (i := 5) (dX9_ask_0 47 rfl) rfl ?_
        refine R_imul (dX9_ask_0 48 rfl) ?_
        refine R_iload (i := 6) (dX9_ask_0 49 rfl) rfl ?_
        refine R_iadd (dX9_ask_0 50 rfl) ?_
        refine R_istore_n (i := 3) (ls' := [some (.inr (.inr (some (ad 0)))), some (.inl x1), some (.inr (.inr (some (ad 21)))), some (.inl (w32 ((w32 (10 * x5)) + x6))), some (.inl x4), some (.inl x5), some (.inl x6), some (.inl r263), some (.inl (if w32 ((M 21 5) - r263) < r263 then w32 ((M 21 5) - r263) else r263))]) (dX9_ask_0 51 rfl) rfl (Nat.le_of_ble_eq_true rfl) (Nat.le_of_ble_eq_true rfl) rfl rfl ?_
        refine R_iload (i := 8) (dX9_ask_0 52 rfl) rfl ?_
        refine R_istore (i := 4) (ls' := [some (.inr (.inr (some (ad 0)))), some (.inl x1), some (.inr (.inr (some (ad 21)))), some (.inl (w32 ((w32 (10 * x5)) + x6))), some (.inl (if w32 ((M 21 5) - r263) < r263 then w32 ((M 21 5) - r263) else r263)), some (.inl x5), some (.inl x6), some (.inl r263), some (.inl (if w32 ((M 21 5) - r263) < r263 then w32 ((M 21 5) - r263) else r263))]) (dX9_ask_0 53 rfl) (Nat.le_of_ble_eq_true rfl) (Nat.le_of_ble_eq_true rfl) rfl rfl ?_
        refine R_iinc (i := 6) (ls' := [some (.inr (.inr (some (ad 0)))), some (.inl x1), some (.inr (.inr (some (ad 21)))), some (.inl (w32 ((w32 (10 * x5)) + x6))), some (.inl (if w32 ((M 21 5) - r263) < r263 then w32 ((M 21 5) - r263) else r263)), some (.inl x5), some (.inl (w32 (x6 + 1))), some (.inl r263), some (.inl (if w32 ((M 21 5) - r263) < r263 then w32 ((M 21 5) - r263) else r263))]) (dX9_ask_0 54 rfl) rfl (Nat.le_of_ble_eq_true rfl) rfl rfl ?_
        refine R_goto (tgt := 40) (dX9_ask_0 55 rfl) (by decide) ?_
        refine R_mask [true, true, true, true, true, true, true, false, false] rfl ?_
        exact ih (w32 ((w32 (10 * x5)) + x6)) (if w32 ((M 21 5) - r263) < r263 then w32 ((M 21 5) - r263) else r263) (w32 (x6 + 1)) M H hK104
      · have H := ite_F H hc
        refine R_iload (i := 8) (dX9_ask_0 43 rfl) rfl ?_
        refine R_iload (i := 4) (dX9_ask_0 44 rfl) rfl ?_
        refine R_icmp_le (tgt := 98) (dX9_ask_0 45 rfl) (by decide) (fun hc => ?_) (fun hc => ?_)
        · have H := ite_F H hc
          refine R_iinc (i := 6) (ls' := [some (.inr (.inr (some (ad 0)))), some (.inl x1), some (.inr (.inr (some (ad 21)))), some (.inl x3), some (.inl x4), some (.inl x5), some (.inl (w32 (x6 + 1))), some (.inl r263), some (.inl (if w32 ((M 21 5) - r263) < r263 then w32 ((M 21 5) - r263) else r263))]) (dX9_ask_0 54 rfl) rfl (Nat.le_of_ble_eq_true rfl) rfl rfl ?_
          refine R_goto (tgt := 40) (dX9_ask_0 55 rfl) (by decide) ?_
          refine R_mask [true, true, true, true, true, true, true, false, false] rfl ?_
          exact ih x3 x4 (w32 (x6 + 1)) M H hK104
        · have H := ite_T H hc
          refine R_bipush (dX9_ask_0 46 rfl) rfl rfl ?_
          refine R_iload (i := 5) (dX9_ask_0 47 rfl) rfl ?_
          refine R_imul (dX9_ask_0 48 rfl) ?_
          refine R_iload (i := 6) (dX9_ask_0 49 rfl) rfl ?_
          refine R_iadd (dX9_ask_0 50 rfl) ?_
          refine R_istore_n (i := 3) (ls' := [some (.inr (.inr (some (ad 0)))), some (.inl x1), some (.inr (.inr (some (ad 21)))), some (.inl (w32 ((w32 (10 * x5)) + x6))), some (.inl x4), some (.inl x5), some (.inl x6), some (.inl r263), some (.inl (if w32 ((M 21 5) - r263) < r263 then w32 ((M 21 5) - r263) else r263))]) (dX9_ask_0 51 rfl) rfl (Nat.le_of_ble_eq_true rfl) (Nat.le_of_ble_eq_true rfl) rfl rfl ?_
          refine R_iload (i := 8) (dX9_ask_0 52 rfl) rfl ?_
          refine R_istore (i := 4) (ls' := [some (.inr (.inr (some (ad 0)))), some (.inl x1), some (.inr (.inr (some (ad 21)))), some (.inl (w32 ((w32 (10 * x5)) + x6))), some (.inl (if w32 ((M 21 5) - r263) < r263 then w32 ((M 21 5) - r263) else r263)), some (.inl x5), some (.inl x6), some (.inl r263), some (.inl (if w32 ((M 21 5) - r263) < r263 then w32 ((M 21 5) - r263) else r263))]) (dX9_ask_0 53 rfl) (Nat.le_of_ble_eq_true rfl) (Nat.le_of_ble_eq_true rfl) rfl rfl ?_
          refine R_iinc (i := 6) (ls' := [some (.inr (.inr (some (ad 0)))), some (.inl x1), some (.inr (.inr (some (ad 21)))), some (.inl (w32 ((w32 (10 * x5)) + x6))), some (.inl (if w32 ((M 21 5) - r263) < r263 then w32 ((M 21 5) - r263) else r263)), some (.inl x5), some (.inl (w32 (x6 + 1))), some (.inl r263), some (.inl (if w32 ((M 21 5) - r263) < r263 then w32 ((M 21 5) - r263) else r263))]) (dX9_ask_0 54 rfl) rfl (Nat.le_of_ble_eq_true rfl) rfl rfl ?_
          refine R_goto (tgt := 40) (dX9_ask_0 55 rfl) (by decide) ?_
          refine R_mask [true, true, true, true, true, true, true, false, false] rfl ?_
          exact ih (w32 ((w32 (10 * x5)) + x6)) (if w32 ((M 21 5) - r263) < r263 then w32 ((M 21 5) - r263) else r263) (w32 (x6 + 1)) M H hK104
def f_X9_ask_L25 (K110 : Int → Int → Mem → Option (Int × Mem)) (x1 : Int) : Nat → Int → Int → Int → Mem → Option (Int × Mem)
  | 0, _, _, _, _ => none
  | n + 1, x3, x4, x5, M =>
    if x5 < M 3 3 then
      f_X9_ask_L40
        (fun y264 y265 M266 =>
          f_X9_ask_L25 K110 x1 n y264 y265 (w32 (x5 + 1)) M266
        )
        x1 x5 100000 x3 x4 0 M
    else
      K110 x3 x4 M
set_option maxHeartbeats 4000000 in
theorem t_X9_ask_L25 (l : Launch) (g : GG) (ad : Nat → Nat) (S : SW) (hS : q_ag 0 38 ad S) (x1 : Int) {K110 : Int → Int → Mem → Option (Int × Mem)} {r : Int} {M' : Mem} : ∀ (n : Nat) (x3 : Int) (x4 : Int) (x5 : Int) (M : Mem), f_X9_ask_L25 K110 x1 n x3 x4 x5 M = some (r, M') → (∀ (z3 : Int) (z4 : Int) (M1 : Mem), K110 z3 z4 M1 = some (r, M') → RW l g MX9_ask (q_rm 7 0 0) 0 0 (q_ex S (some (.inl r)) M') 110 S M1 0 0 [none, some (.inl x1), none, some (.inl z3), some (.inl z4), none, none, none, none] []) → RW l g MX9_ask (q_rm 7 0 0) 0 0 (q_ex S (some (.inl r)) M') 25 S M 0 0 [some (.inr (.inr (some (ad 0)))), some (.inl x1), some (.inr (.inr (some (ad 21)))), some (.inl x3), some (.inl x4), some (.inl x5), none, none, none] [] := by
  intro n
  induction n with
  | zero => intro x3 x4 x5 M H; exact absurd H (by simp [f_X9_ask_L25])
  | succ n ih =>
    intro x3 x4 x5 M H hK110
    rw [f_X9_ask_L25] at H
    refine R_iload (i := 5) (dX9_ask_0 16 rfl) rfl ?_
    refine R_aload_n (i := 0) (dX9_ask_0 17 rfl) rfl rfl ?_
    refine R_getR cgX9 0 (cl0 hS) 1 (Nat.le_of_ble_eq_true rfl) rfl (Or.inl tb_554) (dX9_ask_0 18 rfl) ?_
    refine R_getI cgX3 3 (cl3 hS) 3 (Nat.le_of_ble_eq_true rfl) rfl (Or.inr ⟨_, tb_140⟩) (dX9_ask_0 19 rfl) ?_
    refine R_icmp_ge (tgt := 110) (dX9_ask_0 20 rfl) (by decide) (fun hc => ?_) (fun hc => ?_)
    · have H := ite_F H hc
      refine R_mask [false, true, false, true, true, false, false, false, false] rfl ?_
      exact hK110 x3 x4 M H
    · have H := ite_T H hc
      refine R_iconst (dX9_ask_0 21 rfl) rfl ?_
      refine R_istore (i := 6) (ls' := [some (.inr (.inr (some (ad 0)))), some (.inl x1), some (.inr (.inr (some (ad 21)))), some (.inl x3), some (.inl x4), some (.inl x5), some (.inl 0), none, none]) (dX9_ask_0 22 rfl) (Nat.le_of_ble_eq_true rfl) (Nat.le_of_ble_eq_true rfl) rfl rfl ?_
      refine t_X9_ask_L40 l g ad S hS x1 x5  100000 x3 x4 0 M H (fun y264 y265 M266 H => ?_)
      refine R_iinc (i := 5) (ls' := [some (.inr (.inr (some (ad 0)))), some (.inl x1), some (.inr (.inr (some (ad 21)))), some (.inl y264), some (.inl y265), some (.inl (w32 (x5 + 1))), none, none, none]) (dX9_ask_0 56 rfl) rfl (Nat.le_of_ble_eq_true rfl) rfl rfl ?_
      refine R_goto (tgt := 25) (dX9_ask_0 57 rfl) (by decide) ?_
      exact ih y264 y265 (w32 (x5 + 1)) M266 H hK110
def f_X9_ask (x1 : Int) (M : Mem) : Option (Int × Mem) :=
  if f_X9_within x1 0 1 = 0 then
    some ((-2), M)
  else
    ob (f_X9_fitting M) fun r261 M262 =>
    f_X9_ask_L25
      (fun y267 y268 M269 =>
        if x1 = 0 then
          some (y267, M269)
        else
          some (y268, M269)
      )
      x1 100000 (-1) 0 0 M262
set_option maxHeartbeats 4000000 in
theorem t_X9_ask (l : Launch) (g : GG) (ad : Nat → Nat) (S : SW) (M : Mem) (hS : q_ag 0 38 ad S) (x1 : Int) {r : Int} {M' : Mem} (H : f_X9_ask x1 M = some (r, M')) : CT l g MX9_ask 7 0 0 S M [.inr (.inr (some (ad 0))), .inl x1] (q_ex S (some (.inl r)) M') := by
  unfold f_X9_ask at H
  refine CT_of (ls0 := [some (.inr (.inr (some (ad 0)))), some (.inl x1), none, none, none, none, none, none, none]) (by decide +kernel) (Nat.le_of_ble_eq_true rfl) rfl ?_
  refine R_iload_n (i := 1) (dX9_ask_0 0 rfl) rfl rfl ?_
  refine R_iconst (dX9_ask_0 1 rfl) rfl ?_
  refine R_iconst (dX9_ask_0 2 rfl) rfl ?_
  refine R_cS (st' := [.inl (f_X9_within x1 0 1)]) [.inl x1, .inl 0, .inl 1] [] (t_X9_within l g S _   x1 0 1) msX9_within (Or.inl tb_603) ⟨Nat.le_of_ble_eq_true rfl, Nat.le_of_ble_eq_true rfl⟩ (Nat.zero_le _) (Nat.zero_le _) rfl rfl (Nat.le_of_ble_eq_true rfl) rfl (dX9_ask_0 3 rfl) ?_
  refine R_if_ne (tgt := 12) (dX9_ask_0 4 rfl) (by decide) (fun hc => ?_) (fun hc => ?_)
  · have H := ite_F H hc
    refine R_aload_n (i := 0) (dX9_ask_0 7 rfl) rfl rfl ?_
    obtain ⟨r261, M262, hr, H⟩ := ob_E H
    refine R_cV (st' := [.inr (.inr (some (ad 21)))]) [] [] (t_X9_fitting l g ad S _ hS   hr) msX9_fitting (Or.inl tb_732) (Or.inl ⟨0, 9, _, _, _, (cl0 hS), rfl⟩) ⟨Nat.le_of_ble_eq_true rfl, Nat.le_of_ble_eq_true rfl⟩ (Nat.zero_le _) (Nat.zero_le _) rfl rfl (Nat.le_of_ble_eq_true rfl) rfl (dX9_ask_0 8 rfl) ?_
    refine R_astore_n (i := 2) (ls' := [some (.inr (.inr (some (ad 0)))), some (.inl x1), some (.inr (.inr (some (ad 21)))), none, none, none, none, none, none]) (dX9_ask_0 9 rfl) rfl (Nat.le_of_ble_eq_true rfl) (Nat.le_of_ble_eq_true rfl) rfl rfl ?_
    refine R_iconst (dX9_ask_0 10 rfl) rfl ?_
    refine R_istore_n (i := 3) (ls' := [some (.inr (.inr (some (ad 0)))), some (.inl x1), some (.inr (.inr (some (ad 21)))), some (.inl (-1)), none, none, none, none, none]) (dX9_ask_0 11 rfl) rfl (Nat.le_of_ble_eq_true rfl) (Nat.le_of_ble_eq_true rfl) rfl rfl ?_
    refine R_iconst (dX9_ask_0 12 rfl) rfl ?_
    refine R_istore (i := 4) (ls' := [some (.inr (.inr (some (ad 0)))), some (.inl x1), some (.inr (.inr (some (ad 21)))), some (.inl (-1)), some (.inl 0), none, none, none, none]) (dX9_ask_0 13 rfl) (Nat.le_of_ble_eq_true rfl) (Nat.le_of_ble_eq_true rfl) rfl rfl ?_
    refine R_iconst (dX9_ask_0 14 rfl) rfl ?_
    refine R_istore (i := 5) (ls' := [some (.inr (.inr (some (ad 0)))), some (.inl x1), some (.inr (.inr (some (ad 21)))), some (.inl (-1)), some (.inl 0), some (.inl 0), none, none, none]) (dX9_ask_0 15 rfl) (Nat.le_of_ble_eq_true rfl) (Nat.le_of_ble_eq_true rfl) rfl rfl ?_
    refine t_X9_ask_L25 l g ad S hS x1  100000 (-1) 0 0 M262 H (fun y267 y268 M269 H => ?_)
    refine R_iload_n (i := 1) (dX9_ask_0 58 rfl) rfl rfl ?_
    refine R_if_ne (tgt := 118) (dX9_ask_0 59 rfl) (by decide) (fun hc => ?_) (fun hc => ?_)
    · have H := ite_F H hc
      refine R_iload (i := 4) (dX9_ask_1 2 rfl) rfl ?_
      exact R_iret rfl rfl (Nat.zero_le _) (Nat.zero_le _) (dX9_ask_1 3 rfl) ⟨congrArg (fun z => some (Sum.inl z)) (Prod.mk.inj (Option.some.inj H)).1, rfl, (Prod.mk.inj (Option.some.inj H)).2⟩
    · have H := ite_T H hc
      refine R_iload_n (i := 3) (dX9_ask_1 0 rfl) rfl rfl ?_
      refine R_goto (tgt := 120) (dX9_ask_1 1 rfl) (by decide) ?_
      exact R_iret rfl rfl (Nat.zero_le _) (Nat.zero_le _) (dX9_ask_1 3 rfl) ⟨congrArg (fun z => some (Sum.inl z)) (Prod.mk.inj (Option.some.inj H)).1, rfl, (Prod.mk.inj (Option.some.inj H)).2⟩
  · have H := ite_T H hc
    refine R_bipush (dX9_ask_0 5 rfl) rfl rfl ?_
    exact R_iret rfl rfl (Nat.zero_le _) (Nat.zero_le _) (dX9_ask_0 6 rfl) ⟨congrArg (fun z => some (Sum.inl z)) (Prod.mk.inj (Option.some.inj H)).1, rfl, (Prod.mk.inj (Option.some.inj H)).2⟩
def f_X9_would_L42 (x1 : Int) (x2 : Int) (x3 : Int) (x4 : Int) : Nat → Int → Int → Mem → Option (Int × Mem)
  | 0, _, _, _ => none
  | n + 1, x6, x7, M =>
    if x7 < M 21 5 then
      if f_X0_holds x1 x3 x4 (f_X3_had x2 (f_X1_tongueOf x7 M) M) (f_X3_had x4 (f_X1_tongueOf x7 M) M) = 0 then
        f_X9_would_L42 x1 x2 x3 x4 n x6 (w32 (x7 + 1)) M
      else
        f_X9_would_L42 x1 x2 x3 x4 n (w32 (x6 + 1)) (w32 (x7 + 1)) M
    else
      some (x6, M)
set_option maxHeartbeats 4000000 in
theorem t_X9_would_L42 (l : Launch) (g : GG) (ad : Nat → Nat) (S : SW) (hS : q_ag 0 38 ad S) (x1 : Int) (x2 : Int) (x3 : Int) (x4 : Int) {r : Int} {M' : Mem} : ∀ (n : Nat) (x6 : Int) (x7 : Int) (M : Mem), f_X9_would_L42 x1 x2 x3 x4 n x6 x7 M = some (r, M') → RW l g MX9_would (q_rm 7 0 0) 0 0 (q_ex S (some (.inl r)) M') 42 S M 0 0 [some (.inr (.inr (some (ad 0)))), some (.inl x1), some (.inl x2), some (.inl x3), some (.inl x4), some (.inr (.inr (some (ad 21)))), some (.inl x6), some (.inl x7), none] [] := by
  intro n
  induction n with
  | zero => intro x6 x7 M H; exact absurd H (by simp [f_X9_would_L42])
  | succ n ih =>
    intro x6 x7 M H
    rw [f_X9_would_L42] at H
    refine R_iload (i := 7) (dX9_would 23 rfl) rfl ?_
    refine R_aload (i := 5) (dX9_would 24 rfl) rfl ?_
    refine R_getI cgX1 21 (cl21 hS) 5 (Nat.le_of_ble_eq_true rfl) rfl (Or.inr ⟨_, tb_465⟩) (dX9_would 25 rfl) ?_
    refine R_icmp_ge (tgt := 101) (dX9_would 26 rfl) (by decide) (fun hc => ?_) (fun hc => ?_)
    · have H := ite_F H hc
      refine R_iload (i := 6) (dX9_would 49 rfl) rfl ?_
      exact R_iret rfl rfl (Nat.zero_le _) (Nat.zero_le _) (dX9_would 50 rfl) ⟨congrArg (fun z => some (Sum.inl z)) (Prod.mk.inj (Option.some.inj H)).1, rfl, (Prod.mk.inj (Option.some.inj H)).2⟩
    · have H := ite_T H hc
      refine R_aload (i := 5) (dX9_would 27 rfl) rfl ?_
      refine R_iload (i := 7) (dX9_would 28 rfl) rfl ?_
      refine R_cV (st' := [.inl (f_X1_tongueOf x7 M)]) [.inl x7] [] (t_X1_tongueOf l g ad S _ hS   x7) msX1_tongueOf (Or.inl tb_783) (Or.inl ⟨21, 1, _, _, _, (cl21 hS), rfl⟩) ⟨Nat.le_of_ble_eq_true rfl, Nat.le_of_ble_eq_true rfl⟩ (Nat.zero_le _) (Nat.zero_le _) rfl rfl (Nat.le_of_ble_eq_true rfl) rfl (dX9_would 29 rfl) ?_
      refine R_istore (i := 8) (ls' := [some (.inr (.inr (some (ad 0)))), some (.inl x1), some (.inl x2), some (.inl x3), some (.inl x4), some (.inr (.inr (some (ad 21)))), some (.inl x6), some (.inl x7), some (.inl (f_X1_tongueOf x7 M))]) (dX9_would 30 rfl) (Nat.le_of_ble_eq_true rfl) (Nat.le_of_ble_eq_true rfl) rfl rfl ?_
      refine R_iload_n (i := 1) (dX9_would 31 rfl) rfl rfl ?_
      refine R_iload_n (i := 3) (dX9_would 32 rfl) rfl rfl ?_
      refine R_iload (i := 4) (dX9_would 33 rfl) rfl ?_
      refine R_aload_n (i := 0) (dX9_would 34 rfl) rfl rfl ?_
      refine R_getR cgX9 0 (cl0 hS) 1 (Nat.le_of_ble_eq_true rfl) rfl (Or.inl tb_554) (dX9_would 35 rfl) ?_
      refine R_iload_n (i := 2) (dX9_would 36 rfl) rfl rfl ?_
      refine R_iload (i := 8) (dX9_would 37 rfl) rfl ?_
      refine R_cV (st' := [.inl (f_X3_had x2 (f_X1_tongueOf x7 M) M), .inl x4, .inl x3, .inl x1]) [.inl x2, .inl (f_X1_tongueOf x7 M)] [.inl x4, .inl x3, .inl x1] (t_X3_had l g ad S _ hS   x2 (f_X1_tongueOf x7 M)) msX3_had (Or.inl tb_944) (Or.inl ⟨3, 3, _, _, _, (cl3 hS), rfl⟩) ⟨Nat.le_of_ble_eq_true rfl, Nat.le_of_ble_eq_true rfl⟩ (Nat.zero_le _) (Nat.zero_le _) rfl rfl (Nat.le_of_ble_eq_true rfl) rfl (dX9_would 38 rfl) ?_
      refine R_aload_n (i := 0) (dX9_would 39 rfl) rfl rfl ?_
      refine R_getR cgX9 0 (cl0 hS) 1 (Nat.le_of_ble_eq_true rfl) rfl (Or.inl tb_554) (dX9_would 40 rfl) ?_
      refine R_iload (i := 4) (dX9_would 41 rfl) rfl ?_
      refine R_iload (i := 8) (dX9_would 42 rfl) rfl ?_
      refine R_cV (st' := [.inl (f_X3_had x4 (f_X1_tongueOf x7 M) M), .inl (f_X3_had x2 (f_X1_tongueOf x7 M) M), .inl x4, .inl x3, .inl x1]) [.inl x4, .inl (f_X1_tongueOf x7 M)] [.inl (f_X3_had x2 (f_X1_tongueOf x7 M) M), .inl x4, .inl x3, .inl x1] (t_X3_had l g ad S _ hS   x4 (f_X1_tongueOf x7 M)) msX3_had (Or.inl tb_944) (Or.inl ⟨3, 3, _, _, _, (cl3 hS), rfl⟩) ⟨Nat.le_of_ble_eq_true rfl, Nat.le_of_ble_eq_true rfl⟩ (Nat.zero_le _) (Nat.zero_le _) rfl rfl (Nat.le_of_ble_eq_true rfl) rfl (dX9_would 43 rfl) ?_
      refine R_cS (st' := [.inl (f_X0_holds x1 x3 x4 (f_X3_had x2 (f_X1_tongueOf x7 M) M) (f_X3_had x4 (f_X1_tongueOf x7 M) M))]) [.inl x1, .inl x3, .inl x4, .inl (f_X3_had x2 (f_X1_tongueOf x7 M) M), .inl (f_X3_had x4 (f_X1_tongueOf x7 M) M)] [] (t_X0_holds l g ad S _ hS   x1 x3 x4 (f_X3_had x2 (f_X1_tongueOf x7 M) M) (f_X3_had x4 (f_X1_tongueOf x7 M) M)) msX0_holds (Or.inl tb_945) ⟨Nat.le_of_ble_eq_true rfl, Nat.le_of_ble_eq_true rfl⟩ (Nat.zero_le _) (Nat.zero_le _) rfl rfl (Nat.le_of_ble_eq_true rfl) rfl (dX9_would 44 rfl) ?_
      refine R_if_eq (tgt := 95) (dX9_would 45 rfl) (by decide) (fun hc => ?_) (fun hc => ?_)
      · have H := ite_T H hc
        refine R_iinc (i := 7) (ls' := [some (.inr (.inr (some (ad 0)))), some (.inl x1), some (.inl x2), some (.inl x3), some (.inl x4), some (.inr (.inr (some (ad 21)))), some (.inl x6), some (.inl (w32 (x7 + 1))), some (.inl (f_X1_tongueOf x7 M))]) (dX9_would 47 rfl) rfl (Nat.le_of_ble_eq_true rfl) rfl rfl ?_
        refine R_goto (tgt := 42) (dX9_would 48 rfl) (by decide) ?_
        refine R_mask [true, true, true, true, true, true, true, true, false] rfl ?_
        exact ih x6 (w32 (x7 + 1)) M H
      · have H := ite_F H hc
        refine R_iinc (i := 6) (ls' := [some (.inr (.inr (some (ad 0)))), some (.inl x1), some (.inl x2), some (.inl x3), some (.inl x4), some (.inr (.inr (some (ad 21)))), some (.inl (w32 (x6 + 1))), some (.inl x7), some (.inl (f_X1_tongueOf x7 M))]) (dX9_would 46 rfl) rfl (Nat.le_of_ble_eq_true rfl) rfl rfl ?_
        refine R_iinc (i := 7) (ls' := [some (.inr (.inr (some (ad 0)))), some (.inl x1), some (.inl x2), some (.inl x3), some (.inl x4), some (.inr (.inr (some (ad 21)))), some (.inl (w32 (x6 + 1))), some (.inl (w32 (x7 + 1))), some (.inl (f_X1_tongueOf x7 M))]) (dX9_would 47 rfl) rfl (Nat.le_of_ble_eq_true rfl) rfl rfl ?_
        refine R_goto (tgt := 42) (dX9_would 48 rfl) (by decide) ?_
        refine R_mask [true, true, true, true, true, true, true, true, false] rfl ?_
        exact ih (w32 (x6 + 1)) (w32 (x7 + 1)) M H
def f_X9_would (x1 : Int) (x2 : Int) (x3 : Int) (x4 : Int) (M : Mem) : Option (Int × Mem) :=
  if M 7 4 < 12 then
    if f_X9_mayBeFact x1 x2 x3 x4 M = 0 then
      some ((-2), M)
    else
      ob (f_X9_fitting M) fun r270 M271 =>
      f_X9_would_L42
        x1 x2 x3 x4 100000 0 0 M271
  else
    some ((-3), M)
set_option maxHeartbeats 4000000 in
theorem t_X9_would (l : Launch) (g : GG) (ad : Nat → Nat) (S : SW) (M : Mem) (hS : q_ag 0 38 ad S) (x1 : Int) (x2 : Int) (x3 : Int) (x4 : Int) {r : Int} {M' : Mem} (H : f_X9_would x1 x2 x3 x4 M = some (r, M')) : CT l g MX9_would 7 0 0 S M [.inr (.inr (some (ad 0))), .inl x1, .inl x2, .inl x3, .inl x4] (q_ex S (some (.inl r)) M') := by
  unfold f_X9_would at H
  refine CT_of (ls0 := [some (.inr (.inr (some (ad 0)))), some (.inl x1), some (.inl x2), some (.inl x3), some (.inl x4), none, none, none, none]) (by decide +kernel) (Nat.le_of_ble_eq_true rfl) rfl ?_
  refine R_aload_n (i := 0) (dX9_would 0 rfl) rfl rfl ?_
  refine R_getR cgX9 0 (cl0 hS) 2 (Nat.le_of_ble_eq_true rfl) rfl (Or.inl tb_555) (dX9_would 1 rfl) ?_
  refine R_getI cgX0 7 (cl7 hS) 4 (Nat.le_of_ble_eq_true rfl) rfl (Or.inr ⟨_, tb_168⟩) (dX9_would 2 rfl) ?_
  refine R_bipush (dX9_would 3 rfl) rfl rfl ?_
  refine R_icmp_lt (tgt := 15) (dX9_would 4 rfl) (by decide) (fun hc => ?_) (fun hc => ?_)
  · have H := ite_T H hc
    refine R_aload_n (i := 0) (dX9_would 7 rfl) rfl rfl ?_
    refine R_iload_n (i := 1) (dX9_would 8 rfl) rfl rfl ?_
    refine R_iload_n (i := 2) (dX9_would 9 rfl) rfl rfl ?_
    refine R_iload_n (i := 3) (dX9_would 10 rfl) rfl rfl ?_
    refine R_iload (i := 4) (dX9_would 11 rfl) rfl ?_
    refine R_cV (st' := [.inl (f_X9_mayBeFact x1 x2 x3 x4 M)]) [.inl x1, .inl x2, .inl x3, .inl x4] [] (t_X9_mayBeFact l g ad S _ hS   x1 x2 x3 x4) msX9_mayBeFact (Or.inl tb_711) (Or.inl ⟨0, 9, _, _, _, (cl0 hS), rfl⟩) ⟨Nat.le_of_ble_eq_true rfl, Nat.le_of_ble_eq_true rfl⟩ (Nat.zero_le _) (Nat.zero_le _) rfl rfl (Nat.le_of_ble_eq_true rfl) rfl (dX9_would 12 rfl) ?_
    refine R_if_ne (tgt := 30) (dX9_would 13 rfl) (by decide) (fun hc => ?_) (fun hc => ?_)
    · have H := ite_F H hc
      refine R_aload_n (i := 0) (dX9_would 16 rfl) rfl rfl ?_
      obtain ⟨r270, M271, hr, H⟩ := ob_E H
      refine R_cV (st' := [.inr (.inr (some (ad 21)))]) [] [] (t_X9_fitting l g ad S _ hS   hr) msX9_fitting (Or.inl tb_732) (Or.inl ⟨0, 9, _, _, _, (cl0 hS), rfl⟩) ⟨Nat.le_of_ble_eq_true rfl, Nat.le_of_ble_eq_true rfl⟩ (Nat.zero_le _) (Nat.zero_le _) rfl rfl (Nat.le_of_ble_eq_true rfl) rfl (dX9_would 17 rfl) ?_
      refine R_astore (i := 5) (ls' := [some (.inr (.inr (some (ad 0)))), some (.inl x1), some (.inl x2), some (.inl x3), some (.inl x4), some (.inr (.inr (some (ad 21)))), none, none, none]) (dX9_would 18 rfl) (Nat.le_of_ble_eq_true rfl) (Nat.le_of_ble_eq_true rfl) rfl rfl ?_
      refine R_iconst (dX9_would 19 rfl) rfl ?_
      refine R_istore (i := 6) (ls' := [some (.inr (.inr (some (ad 0)))), some (.inl x1), some (.inl x2), some (.inl x3), some (.inl x4), some (.inr (.inr (some (ad 21)))), some (.inl 0), none, none]) (dX9_would 20 rfl) (Nat.le_of_ble_eq_true rfl) (Nat.le_of_ble_eq_true rfl) rfl rfl ?_
      refine R_iconst (dX9_would 21 rfl) rfl ?_
      refine R_istore (i := 7) (ls' := [some (.inr (.inr (some (ad 0)))), some (.inl x1), some (.inl x2), some (.inl x3), some (.inl x4), some (.inr (.inr (some (ad 21)))), some (.inl 0), some (.inl 0), none]) (dX9_would 22 rfl) (Nat.le_of_ble_eq_true rfl) (Nat.le_of_ble_eq_true rfl) rfl rfl ?_
      exact t_X9_would_L42 l g ad S hS x1 x2 x3 x4  100000 0 0 M271 H 
    · have H := ite_T H hc
      refine R_bipush (dX9_would 14 rfl) rfl rfl ?_
      exact R_iret rfl rfl (Nat.zero_le _) (Nat.zero_le _) (dX9_would 15 rfl) ⟨congrArg (fun z => some (Sum.inl z)) (Prod.mk.inj (Option.some.inj H)).1, rfl, (Prod.mk.inj (Option.some.inj H)).2⟩
  · have H := ite_F H hc
    refine R_bipush (dX9_would 5 rfl) rfl rfl ?_
    exact R_iret rfl rfl (Nat.zero_le _) (Nat.zero_le _) (dX9_would 6 rfl) ⟨congrArg (fun z => some (Sum.inl z)) (Prod.mk.inj (Option.some.inj H)).1, rfl, (Prod.mk.inj (Option.some.inj H)).2⟩
def f_X9_clash (M : Mem) : Option (Int × Mem) :=
  ob (f_X9_fitting M) fun r272 M273 =>
  if M273 21 5 = 0 then
    some (M273 21 6, M273)
  else
    some (0, M273)
set_option maxHeartbeats 4000000 in
theorem t_X9_clash (l : Launch) (g : GG) (ad : Nat → Nat) (S : SW) (M : Mem) (hS : q_ag 0 38 ad S) {r : Int} {M' : Mem} (H : f_X9_clash M = some (r, M')) : CT l g MX9_clash 7 0 0 S M [.inr (.inr (some (ad 0)))] (q_ex S (some (.inl r)) M') := by
  unfold f_X9_clash at H
  refine CT_of (ls0 := [some (.inr (.inr (some (ad 0)))), none]) (by decide +kernel) (Nat.le_of_ble_eq_true rfl) rfl ?_
  refine R_aload_n (i := 0) (dX9_clash 0 rfl) rfl rfl ?_
  obtain ⟨r272, M273, hr, H⟩ := ob_E H
  refine R_cV (st' := [.inr (.inr (some (ad 21)))]) [] [] (t_X9_fitting l g ad S _ hS   hr) msX9_fitting (Or.inl tb_732) (Or.inl ⟨0, 9, _, _, _, (cl0 hS), rfl⟩) ⟨Nat.le_of_ble_eq_true rfl, Nat.le_of_ble_eq_true rfl⟩ (Nat.zero_le _) (Nat.zero_le _) rfl rfl (Nat.le_of_ble_eq_true rfl) rfl (dX9_clash 1 rfl) ?_
  refine R_astore_n (i := 1) (ls' := [some (.inr (.inr (some (ad 0)))), some (.inr (.inr (some (ad 21))))]) (dX9_clash 2 rfl) rfl (Nat.le_of_ble_eq_true rfl) (Nat.le_of_ble_eq_true rfl) rfl rfl ?_
  refine R_aload_n (i := 1) (dX9_clash 3 rfl) rfl rfl ?_
  refine R_getI cgX1 21 (cl21 hS) 5 (Nat.le_of_ble_eq_true rfl) rfl (Or.inr ⟨_, tb_465⟩) (dX9_clash 4 rfl) ?_
  refine R_if_ne (tgt := 19) (dX9_clash 5 rfl) (by decide) (fun hc => ?_) (fun hc => ?_)
  · have H := ite_F H hc
    refine R_iconst (dX9_clash 9 rfl) rfl ?_
    exact R_iret rfl rfl (Nat.zero_le _) (Nat.zero_le _) (dX9_clash 10 rfl) ⟨congrArg (fun z => some (Sum.inl z)) (Prod.mk.inj (Option.some.inj H)).1, rfl, (Prod.mk.inj (Option.some.inj H)).2⟩
  · have H := ite_T H hc
    refine R_aload_n (i := 1) (dX9_clash 6 rfl) rfl rfl ?_
    refine R_getI cgX1 21 (cl21 hS) 6 (Nat.le_of_ble_eq_true rfl) rfl (Or.inr ⟨_, tb_467⟩) (dX9_clash 7 rfl) ?_
    refine R_goto (tgt := 20) (dX9_clash 8 rfl) (by decide) ?_
    exact R_iret rfl rfl (Nat.zero_le _) (Nat.zero_le _) (dX9_clash 10 rfl) ⟨congrArg (fun z => some (Sum.inl z)) (Prod.mk.inj (Option.some.inj H)).1, rfl, (Prod.mk.inj (Option.some.inj H)).2⟩
def f_X9_idle (M : Mem) : Option (Int × Mem) :=
  ob (f_X9_fitting M) fun r274 M275 =>
  some (b_and (w32 ((b_shl 1 (M275 7 4)) - 1)) (b_xor (M275 21 6) (-1)), M275)
set_option maxHeartbeats 4000000 in
theorem t_X9_idle (l : Launch) (g : GG) (ad : Nat → Nat) (S : SW) (M : Mem) (hS : q_ag 0 38 ad S) {r : Int} {M' : Mem} (H : f_X9_idle M = some (r, M')) : CT l g MX9_idle 7 0 0 S M [.inr (.inr (some (ad 0)))] (q_ex S (some (.inl r)) M') := by
  unfold f_X9_idle at H
  refine CT_of (ls0 := [some (.inr (.inr (some (ad 0)))), none, none]) (by decide +kernel) (Nat.le_of_ble_eq_true rfl) rfl ?_
  refine R_aload_n (i := 0) (dX9_idle 0 rfl) rfl rfl ?_
  obtain ⟨r274, M275, hr, H⟩ := ob_E H
  refine R_cV (st' := [.inr (.inr (some (ad 21)))]) [] [] (t_X9_fitting l g ad S _ hS   hr) msX9_fitting (Or.inl tb_732) (Or.inl ⟨0, 9, _, _, _, (cl0 hS), rfl⟩) ⟨Nat.le_of_ble_eq_true rfl, Nat.le_of_ble_eq_true rfl⟩ (Nat.zero_le _) (Nat.zero_le _) rfl rfl (Nat.le_of_ble_eq_true rfl) rfl (dX9_idle 1 rfl) ?_
  refine R_astore_n (i := 1) (ls' := [some (.inr (.inr (some (ad 0)))), some (.inr (.inr (some (ad 21)))), none]) (dX9_idle 2 rfl) rfl (Nat.le_of_ble_eq_true rfl) (Nat.le_of_ble_eq_true rfl) rfl rfl ?_
  refine R_iconst (dX9_idle 3 rfl) rfl ?_
  refine R_aload_n (i := 0) (dX9_idle 4 rfl) rfl rfl ?_
  refine R_getR cgX9 0 (cl0 hS) 2 (Nat.le_of_ble_eq_true rfl) rfl (Or.inl tb_555) (dX9_idle 5 rfl) ?_
  refine R_getI cgX0 7 (cl7 hS) 4 (Nat.le_of_ble_eq_true rfl) rfl (Or.inr ⟨_, tb_168⟩) (dX9_idle 6 rfl) ?_
  refine R_ishl (dX9_idle 7 rfl) ?_
  refine R_iconst (dX9_idle 8 rfl) rfl ?_
  refine R_isub (dX9_idle 9 rfl) ?_
  refine R_istore_n (i := 2) (ls' := [some (.inr (.inr (some (ad 0)))), some (.inr (.inr (some (ad 21)))), some (.inl (w32 ((b_shl 1 (M275 7 4)) - 1)))]) (dX9_idle 10 rfl) rfl (Nat.le_of_ble_eq_true rfl) (Nat.le_of_ble_eq_true rfl) rfl rfl ?_
  refine R_iload_n (i := 2) (dX9_idle 11 rfl) rfl rfl ?_
  refine R_aload_n (i := 1) (dX9_idle 12 rfl) rfl rfl ?_
  refine R_getI cgX1 21 (cl21 hS) 6 (Nat.le_of_ble_eq_true rfl) rfl (Or.inr ⟨_, tb_467⟩) (dX9_idle 13 rfl) ?_
  refine R_iconst (dX9_idle 14 rfl) rfl ?_
  refine R_ixor (dX9_idle 15 rfl) ?_
  refine R_iand (dX9_idle 16 rfl) ?_
  exact R_iret rfl rfl (Nat.zero_le _) (Nat.zero_le _) (dX9_idle 17 rfl) ⟨congrArg (fun z => some (Sum.inl z)) (Prod.mk.inj (Option.some.inj H)).1, rfl, (Prod.mk.inj (Option.some.inj H)).2⟩
def f_X9_bill_L55 (K107 : Int → Int → Int → Option Int) (x1 : Int) (x2 : Int) (x3 : Int) (x4 : Int) (M : Mem) : Nat → Int → Int → Int → Int → Option Int
  | 0, _, _, _, _ => none
  | n + 1, x5, x6, x7, x8 =>
    if x4 < x8 then
      K107 x5 x6 x7
    else
      if f_J6_bitCount_0f7a4 x8 = x1 then
        (f_X3_pricesOf x8 M).bind fun r276 =>
        if r276 = x2 then
          f_X9_bill_L55 K107 x1 x2 x3 x4 M n (w32 (x5 + 1)) (b_and x6 x8) (b_or x7 x8) (w32 (x8 + 1))
        else
          f_X9_bill_L55 K107 x1 x2 x3 x4 M n x5 x6 x7 (w32 (x8 + 1))
      else
        f_X9_bill_L55 K107 x1 x2 x3 x4 M n x5 x6 x7 (w32 (x8 + 1))
set_option maxHeartbeats 4000000 in
theorem t_X9_bill_L55 (l : Launch) (g : GG) (ad : Nat → Nat) (S : SW) (M : Mem) (hS : q_ag 0 38 ad S) (x1 : Int) (x2 : Int) (x3 : Int) (x4 : Int) {K107 : Int → Int → Int → Option Int} {r : Int} : ∀ (n : Nat) (x5 : Int) (x6 : Int) (x7 : Int) (x8 : Int), f_X9_bill_L55 K107 x1 x2 x3 x4 M n x5 x6 x7 x8 = some r → (∀ (z5 : Int) (z6 : Int) (z7 : Int), K107 z5 z6 z7 = some r → RW l g MX9_bill (q_rm 4 0 0) 0 0 (q_ex S (some (.inl r)) M) 107 S M 0 0 [none, none, none, some (.inl x3), none, some (.inl z5), some (.inl z6), some (.inl z7), none] []) → RW l g MX9_bill (q_rm 4 0 0) 0 0 (q_ex S (some (.inl r)) M) 55 S M 0 0 [some (.inr (.inr (some (ad 0)))), some (.inl x1), some (.inl x2), some (.inl x3), some (.inl x4), some (.inl x5), some (.inl x6), some (.inl x7), some (.inl x8)] [] := by
  intro n
  induction n with
  | zero => intro x5 x6 x7 x8 H; exact absurd H (by simp [f_X9_bill_L55])
  | succ n ih =>
    intro x5 x6 x7 x8 H hK107
    rw [f_X9_bill_L55] at H
    refine R_iload (i := 8) (dX9_bill_0 29 rfl) rfl ?_
    refine R_iload (i := 4) (dX9_bill_0 30 rfl) rfl ?_
    refine R_icmp_gt (tgt := 107) (dX9_bill_0 31 rfl) (by decide) (fun hc => ?_) (fun hc => ?_)
    · have H := ite_T H hc
      refine R_mask [false, false, false, true, false, true, true, true, false] rfl ?_
      exact hK107 x5 x6 x7 H
    · have H := ite_F H hc
      refine R_iload (i := 8) (dX9_bill_0 32 rfl) rfl ?_
      refine R_cS (st' := [.inl (f_J6_bitCount_0f7a4 x8)]) [.inl x8] [] (t_J6_bitCount_0f7a4 l g S _   x8) msJ6_bitCount_0f7a4 (Or.inl tb_958) ⟨Nat.le_of_ble_eq_true rfl, Nat.le_of_ble_eq_true rfl⟩ (Nat.zero_le _) (Nat.zero_le _) rfl rfl (Nat.le_of_ble_eq_true rfl) rfl (dX9_bill_0 33 rfl) ?_
      refine R_iload_n (i := 1) (dX9_bill_0 34 rfl) rfl rfl ?_
      refine R_icmp_ne (tgt := 101) (dX9_bill_0 35 rfl) (by decide) (fun hc => ?_) (fun hc => ?_)
      · have H := ite_F H hc
        refine R_iinc (i := 8) (ls' := [some (.inr (.inr (some (ad 0)))), some (.inl x1), some (.inl x2), some (.inl x3), some (.inl x4), some (.inl x5), some (.inl x6), some (.inl x7), some (.inl (w32 (x8 + 1)))]) (dX9_bill_0 51 rfl) rfl (Nat.le_of_ble_eq_true rfl) rfl rfl ?_
        refine R_goto (tgt := 55) (dX9_bill_0 52 rfl) (by decide) ?_
        exact ih x5 x6 x7 (w32 (x8 + 1)) H hK107
      · have H := ite_T H hc
        refine R_aload_n (i := 0) (dX9_bill_0 36 rfl) rfl rfl ?_
        refine R_getR cgX9 0 (cl0 hS) 1 (Nat.le_of_ble_eq_true rfl) rfl (Or.inl tb_554) (dX9_bill_0 37 rfl) ?_
        refine R_iload (i := 8) (dX9_bill_0 38 rfl) rfl ?_
        obtain ⟨r276, hr, H⟩ := op_E H
        refine R_cV (st' := [.inl r276]) [.inl x8] [] (t_X3_pricesOf l g ad S _ hS   x8 hr) msX3_pricesOf (Or.inl tb_959) (Or.inl ⟨3, 3, _, _, _, (cl3 hS), rfl⟩) ⟨Nat.le_of_ble_eq_true rfl, Nat.le_of_ble_eq_true rfl⟩ (Nat.zero_le _) (Nat.zero_le _) rfl rfl (Nat.le_of_ble_eq_true rfl) rfl (dX9_bill_0 39 rfl) ?_
        refine R_iload_n (i := 2) (dX9_bill_0 40 rfl) rfl rfl ?_
        refine R_icmp_ne (tgt := 101) (dX9_bill_0 41 rfl) (by decide) (fun hc => ?_) (fun hc => ?_)
        · have H := ite_F H hc
          refine R_iinc (i := 8) (ls' := [some (.inr (.inr (some (ad 0)))), some (.inl x1), some (.inl x2), some (.inl x3), some (.inl x4), some (.inl x5), some (.inl x6), some (.inl x7), some (.inl (w32 (x8 + 1)))]) (dX9_bill_0 51 rfl) rfl (Nat.le_of_ble_eq_true rfl) rfl rfl ?_
          refine R_goto (tgt := 55) (dX9_bill_0 52 rfl) (by decide) ?_
          exact ih x5 x6 x7 (w32 (x8 + 1)) H hK107
        · have H := ite_T H hc
          refine R_iinc (i := 5) (ls' := [some (.inr (.inr (some (ad 0)))), some (.inl x1), some (.inl x2), some (.inl x3), some (.inl x4), some (.inl (w32 (x5 + 1))), some (.inl x6), some (.inl x7), some (.inl x8)]) (dX9_bill_0 42 rfl) rfl (Nat.le_of_ble_eq_true rfl) rfl rfl ?_
          refine R_iload (i := 6) (dX9_bill_0 43 rfl) rfl ?_
          refine R_iload (i := 8) (dX9_bill_0 44 rfl) rfl ?_
          refine R_iand (dX9_bill_0 45 rfl) ?_
          refine R_istore (i := 6) (ls' := [some (.inr (.inr (some (ad 0)))), some (.inl x1), some (.inl x2), some (.inl x3), some (.inl x4), some (.inl (w32 (x5 + 1))), some (.inl (b_and x6 x8)), some (.inl x7), some (.inl x8)]) (dX9_bill_0 46 rfl) (Nat.le_of_ble_eq_true rfl) (Nat.le_of_ble_eq_true rfl) rfl rfl ?_
          refine R_iload (i := 7) (dX9_bill_0 47 rfl) rfl ?_
          refine R_iload (i := 8) (dX9_bill_0 48 rfl) rfl ?_
          refine R_ior (dX9_bill_0 49 rfl) ?_
          refine R_istore (i := 7) (ls' := [some (.inr (.inr (some (ad 0)))), some (.inl x1), some (.inl x2), some (.inl x3), some (.inl x4), some (.inl (w32 (x5 + 1))), some (.inl (b_and x6 x8)), some (.inl (b_or x7 x8)), some (.inl x8)]) (dX9_bill_0 50 rfl) (Nat.le_of_ble_eq_true rfl) (Nat.le_of_ble_eq_true rfl) rfl rfl ?_
          refine R_iinc (i := 8) (ls' := [some (.inr (.inr (some (ad 0)))), some (.inl x1), some (.inl x2), some (.inl x3), some (.inl x4), some (.inl (w32 (x5 + 1))), some (.inl (b_and x6 x8)), some (.inl (b_or x7 x8)), some (.inl (w32 (x8 + 1)))]) (dX9_bill_0 51 rfl) rfl (Nat.le_of_ble_eq_true rfl) rfl rfl ?_
          refine R_goto (tgt := 55) (dX9_bill_0 52 rfl) (by decide) ?_
          exact ih (w32 (x5 + 1)) (b_and x6 x8) (b_or x7 x8) (w32 (x8 + 1)) H hK107
def f_X9_bill (x1 : Int) (x2 : Int) (x3 : Int) (M : Mem) : Option Int :=
  if f_X9_within x1 0 10 = 0 then
    some (-2)
  else
    if f_X9_within x2 0 999 = 0 then
      some (-2)
    else
      if f_X9_within x3 0 2 = 0 then
        some (-2)
      else
        f_X9_bill_L55
          (fun y277 y278 y279 =>
            if x3 = 0 then
              some y277
            else
              if y277 = 0 then
                some y277
              else
                if x3 = 1 then
                  some y278
                else
                  some y279
          )
          x1 x2 x3 (f_X3_everyLine M) M 100000 0 (f_X3_everyLine M) 0 0
set_option maxHeartbeats 4000000 in
theorem t_X9_bill (l : Launch) (g : GG) (ad : Nat → Nat) (S : SW) (M : Mem) (hS : q_ag 0 38 ad S) (x1 : Int) (x2 : Int) (x3 : Int) {r : Int} (H : f_X9_bill x1 x2 x3 M = some r) : CT l g MX9_bill 4 0 0 S M [.inr (.inr (some (ad 0))), .inl x1, .inl x2, .inl x3] (q_ex S (some (.inl r)) M) := by
  unfold f_X9_bill at H
  refine CT_of (ls0 := [some (.inr (.inr (some (ad 0)))), some (.inl x1), some (.inl x2), some (.inl x3), none, none, none, none, none]) (by decide +kernel) (Nat.le_of_ble_eq_true rfl) rfl ?_
  refine R_iload_n (i := 1) (dX9_bill_0 0 rfl) rfl rfl ?_
  refine R_iconst (dX9_bill_0 1 rfl) rfl ?_
  refine R_bipush (dX9_bill_0 2 rfl) rfl rfl ?_
  refine R_cS (st' := [.inl (f_X9_within x1 0 10)]) [.inl x1, .inl 0, .inl 10] [] (t_X9_within l g S _   x1 0 10) msX9_within (Or.inl tb_603) ⟨Nat.le_of_ble_eq_true rfl, Nat.le_of_ble_eq_true rfl⟩ (Nat.zero_le _) (Nat.zero_le _) rfl rfl (Nat.le_of_ble_eq_true rfl) rfl (dX9_bill_0 3 rfl) ?_
  refine R_if_eq (tgt := 30) (dX9_bill_0 4 rfl) (by decide) (fun hc => ?_) (fun hc => ?_)
  · have H := ite_T H hc
    refine R_bipush (dX9_bill_0 15 rfl) rfl rfl ?_
    exact R_iret rfl rfl (Nat.zero_le _) (Nat.zero_le _) (dX9_bill_0 16 rfl) ⟨congrArg (fun z => some (Sum.inl z)) (Option.some.inj H), rfl, rfl⟩
  · have H := ite_F H hc
    refine R_iload_n (i := 2) (dX9_bill_0 5 rfl) rfl rfl ?_
    refine R_iconst (dX9_bill_0 6 rfl) rfl ?_
    refine R_sipush (dX9_bill_0 7 rfl) rfl rfl ?_
    refine R_cS (st' := [.inl (f_X9_within x2 0 999)]) [.inl x2, .inl 0, .inl 999] [] (t_X9_within l g S _   x2 0 999) msX9_within (Or.inl tb_603) ⟨Nat.le_of_ble_eq_true rfl, Nat.le_of_ble_eq_true rfl⟩ (Nat.zero_le _) (Nat.zero_le _) rfl rfl (Nat.le_of_ble_eq_true rfl) rfl (dX9_bill_0 8 rfl) ?_
    refine R_if_eq (tgt := 30) (dX9_bill_0 9 rfl) (by decide) (fun hc => ?_) (fun hc => ?_)
    · have H := ite_T H hc
      refine R_bipush (dX9_bill_0 15 rfl) rfl rfl ?_
      exact R_iret rfl rfl (Nat.zero_le _) (Nat.zero_le _) (dX9_bill_0 16 rfl) ⟨congrArg (fun z => some (Sum.inl z)) (Option.some.inj H), rfl, rfl⟩
    · have H := ite_F H hc
      refine R_iload_n (i := 3) (dX9_bill_0 10 rfl) rfl rfl ?_
      refine R_iconst (dX9_bill_0 11 rfl) rfl ?_
      refine R_iconst (dX9_bill_0 12 rfl) rfl ?_
      refine R_cS (st' := [.inl (f_X9_within x3 0 2)]) [.inl x3, .inl 0, .inl 2] [] (t_X9_within l g S _   x3 0 2) msX9_within (Or.inl tb_603) ⟨Nat.le_of_ble_eq_true rfl, Nat.le_of_ble_eq_true rfl⟩ (Nat.zero_le _) (Nat.zero_le _) rfl rfl (Nat.le_of_ble_eq_true rfl) rfl (dX9_bill_0 13 rfl) ?_
      refine R_if_ne (tgt := 33) (dX9_bill_0 14 rfl) (by decide) (fun hc => ?_) (fun hc => ?_)
      · have H := ite_F H hc
        refine R_aload_n (i := 0) (dX9_bill_0 17 rfl) rfl rfl ?_
        refine R_getR cgX9 0 (cl0 hS) 1 (Nat.le_of_ble_eq_true rfl) rfl (Or.inl tb_554) (dX9_bill_0 18 rfl) ?_
        refine R_cV (st' := [.inl (f_X3_everyLine M)]) [] [] (t_X3_everyLine l g ad S _ hS  ) msX3_everyLine (Or.inl tb_909) (Or.inl ⟨3, 3, _, _, _, (cl3 hS), rfl⟩) ⟨Nat.le_of_ble_eq_true rfl, Nat.le_of_ble_eq_true rfl⟩ (Nat.zero_le _) (Nat.zero_le _) rfl rfl (Nat.le_of_ble_eq_true rfl) rfl (dX9_bill_0 19 rfl) ?_
        refine R_istore (i := 4) (ls' := [some (.inr (.inr (some (ad 0)))), some (.inl x1), some (.inl x2), some (.inl x3), some (.inl (f_X3_everyLine M)), none, none, none, none]) (dX9_bill_0 20 rfl) (Nat.le_of_ble_eq_true rfl) (Nat.le_of_ble_eq_true rfl) rfl rfl ?_
        refine R_iconst (dX9_bill_0 21 rfl) rfl ?_
        refine R_istore (i := 5) (ls' := [some (.inr (.inr (some (ad 0)))), some (.inl x1), some (.inl x2), some (.inl x3), some (.inl (f_X3_everyLine M)), some (.inl 0), none, none, none]) (dX9_bill_0 22 rfl) (Nat.le_of_ble_eq_true rfl) (Nat.le_of_ble_eq_true rfl) rfl rfl ?_
        refine R_iload (i := 4) (dX9_bill_0 23 rfl) rfl ?_
        refine R_istore (i := 6) (ls' := [some (.inr (.inr (some (ad 0)))), some (.inl x1), some (.inl x2), some (.inl x3), some (.inl (f_X3_everyLine M)), some (.inl 0), some (.inl (f_X3_everyLine M)), none, none]) (dX9_bill_0 24 rfl) (Nat.le_of_ble_eq_true rfl) (Nat.le_of_ble_eq_true rfl) rfl rfl ?_
        refine R_iconst (dX9_bill_0 25 rfl) rfl ?_
        refine R_istore (i := 7) (ls' := [some (.inr (.inr (some (ad 0)))), some (.inl x1), some (.inl x2), some (.inl x3), some (.inl (f_X3_everyLine M)), some (.inl 0), some (.inl (f_X3_everyLine M)), some (.inl 0), none]) (dX9_bill_0 26 rfl) (Nat.le_of_ble_eq_true rfl) (Nat.le_of_ble_eq_true rfl) rfl rfl ?_
        refine R_iconst (dX9_bill_0 27 rfl) rfl ?_
        refine R_istore (i := 8) (ls' := [some (.inr (.inr (some (ad 0)))), some (.inl x1), some (.inl x2), some (.inl x3), some (.inl (f_X3_everyLine M)), some (.inl 0), some (.inl (f_X3_everyLine M)), some (.inl 0), some (.inl 0)]) (dX9_bill_0 28 rfl) (Nat.le_of_ble_eq_true rfl) (Nat.le_of_ble_eq_true rfl) rfl rfl ?_
        refine t_X9_bill_L55 l g ad S M hS x1 x2 x3 (f_X3_everyLine M)  100000 0 (f_X3_everyLine M) 0 0 H (fun y277 y278 y279 H => ?_)
        refine R_iload_n (i := 3) (dX9_bill_0 53 rfl) rfl rfl ?_
        refine R_if_eq (tgt := 116) (dX9_bill_0 54 rfl) (by decide) (fun hc => ?_) (fun hc => ?_)
        · have H := ite_T H hc
          refine R_iload (i := 5) (dX9_bill_0 57 rfl) rfl ?_
          exact R_iret rfl rfl (Nat.zero_le _) (Nat.zero_le _) (dX9_bill_0 58 rfl) ⟨congrArg (fun z => some (Sum.inl z)) (Option.some.inj H), rfl, rfl⟩
        · have H := ite_F H hc
          refine R_iload (i := 5) (dX9_bill_0 55 rfl) rfl ?_
          refine R_if_ne (tgt := 119) (dX9_bill_0 56 rfl) (by decide) (fun hc => ?_) (fun hc => ?_)
          · have H := ite_F H hc
            refine R_iload_n (i := 3) (dX9_bill_0 59 rfl) rfl rfl ?_
            refine R_iconst (dX9_bill_1 0 rfl) rfl ?_
            refine R_icmp_ne (tgt := 129) (dX9_bill_1 1 rfl) (by decide) (fun hc => ?_) (fun hc => ?_)
            · have H := ite_F H hc
              refine R_iload (i := 7) (dX9_bill_1 4 rfl) rfl ?_
              exact R_iret rfl rfl (Nat.zero_le _) (Nat.zero_le _) (dX9_bill_1 5 rfl) ⟨congrArg (fun z => some (Sum.inl z)) (Option.some.inj H), rfl, rfl⟩
            · have H := ite_T H hc
              refine R_iload (i := 6) (dX9_bill_1 2 rfl) rfl ?_
              refine R_goto (tgt := 131) (dX9_bill_1 3 rfl) (by decide) ?_
              exact R_iret rfl rfl (Nat.zero_le _) (Nat.zero_le _) (dX9_bill_1 5 rfl) ⟨congrArg (fun z => some (Sum.inl z)) (Option.some.inj H), rfl, rfl⟩
          · have H := ite_T H hc
            refine R_iload (i := 5) (dX9_bill_0 57 rfl) rfl ?_
            exact R_iret rfl rfl (Nat.zero_le _) (Nat.zero_le _) (dX9_bill_0 58 rfl) ⟨congrArg (fun z => some (Sum.inl z)) (Option.some.inj H), rfl, rfl⟩
      · have H := ite_T H hc
        refine R_bipush (dX9_bill_0 15 rfl) rfl rfl ?_
        exact R_iret rfl rfl (Nat.zero_le _) (Nat.zero_le _) (dX9_bill_0 16 rfl) ⟨congrArg (fun z => some (Sum.inl z)) (Option.some.inj H), rfl, rfl⟩
def f_X9_isSheet (x0 : Int) : Int :=
  f_X9_within x0 0 3
set_option maxHeartbeats 4000000 in
theorem t_X9_isSheet (l : Launch) (g : GG) (ad : Nat → Nat) (S : SW) (M : Mem) (hS : q_ag 0 38 ad S) (x0 : Int) : CT l g MX9_isSheet 2 0 0 S M [.inl x0] (q_ex S (some (.inl (f_X9_isSheet x0))) M) := by
  obtain ⟨r, H⟩ : ∃ r, f_X9_isSheet x0 = r := ⟨_, rfl⟩
  rw [H]
  unfold f_X9_isSheet at H
  refine CT_of (ls0 := [some (.inl x0)]) (by decide +kernel) (Nat.le_of_ble_eq_true rfl) rfl ?_
  refine R_iload_n (i := 0) (dX9_isSheet 0 rfl) rfl rfl ?_
  refine R_iconst (dX9_isSheet 1 rfl) rfl ?_
  refine R_iconst (dX9_isSheet 2 rfl) rfl ?_
  refine R_cS (st' := [.inl (f_X9_within x0 0 3)]) [.inl x0, .inl 0, .inl 3] [] (t_X9_within l g S _   x0 0 3) msX9_within (Or.inl tb_603) ⟨Nat.le_of_ble_eq_true rfl, Nat.le_of_ble_eq_true rfl⟩ (Nat.zero_le _) (Nat.zero_le _) rfl rfl (Nat.le_of_ble_eq_true rfl) rfl (dX9_isSheet 3 rfl) ?_
  exact R_iret rfl (q_nbz (z_X9_within x0 0 3)) (Nat.zero_le _) (Nat.zero_le _) (dX9_isSheet 4 rfl) ⟨congrArg (fun z => some (Sum.inl z)) H, rfl, rfl⟩
theorem z_X9_isSheet (x0 : Int) : f_X9_isSheet x0 = 0 ∨ f_X9_isSheet x0 = 1 := by
  unfold f_X9_isSheet
  (repeat' split) <;> first | exact Or.inl rfl | exact Or.inr rfl | exact z_X9_within ..
def f_X9_isMeal_L2 (x1 : Int) (x2 : Int) (M : Mem) : Nat → Int → Option Int
  | 0, _ => none
  | n + 1, x3 =>
    if x3 < M 3 3 then
      if f_X4_read x1 x3 M = f_X3_had x3 x2 M then
        f_X9_isMeal_L2 x1 x2 M n (w32 (x3 + 1))
      else
        some 0
    else
      some 1
set_option maxHeartbeats 4000000 in
theorem t_X9_isMeal_L2 (l : Launch) (g : GG) (ad : Nat → Nat) (S : SW) (M : Mem) (hS : q_ag 0 38 ad S) (x1 : Int) (x2 : Int) {r : Int} : ∀ (n : Nat) (x3 : Int), f_X9_isMeal_L2 x1 x2 M n x3 = some r → RW l g MX9_isMeal (q_rm 3 0 0) 0 0 (q_ex S (some (.inl r)) M) 2 S M 0 0 [some (.inr (.inr (some (ad 0)))), some (.inl x1), some (.inl x2), some (.inl x3)] [] := by
  intro n
  induction n with
  | zero => intro x3 H; exact absurd H (by simp [f_X9_isMeal_L2])
  | succ n ih =>
    intro x3 H
    rw [f_X9_isMeal_L2] at H
    refine R_iload_n (i := 3) (dX9_isMeal 2 rfl) rfl rfl ?_
    refine R_aload_n (i := 0) (dX9_isMeal 3 rfl) rfl rfl ?_
    refine R_getR cgX9 0 (cl0 hS) 1 (Nat.le_of_ble_eq_true rfl) rfl (Or.inl tb_554) (dX9_isMeal 4 rfl) ?_
    refine R_getI cgX3 3 (cl3 hS) 3 (Nat.le_of_ble_eq_true rfl) rfl (Or.inr ⟨_, tb_140⟩) (dX9_isMeal 5 rfl) ?_
    refine R_icmp_ge (tgt := 42) (dX9_isMeal 6 rfl) (by decide) (fun hc => ?_) (fun hc => ?_)
    · have H := ite_F H hc
      refine R_iconst (dX9_isMeal 22 rfl) rfl ?_
      exact R_iret rfl (by decide +kernel) (Nat.zero_le _) (Nat.zero_le _) (dX9_isMeal 23 rfl) ⟨congrArg (fun z => some (Sum.inl z)) (Option.some.inj H), rfl, rfl⟩
    · have H := ite_T H hc
      refine R_aload_n (i := 0) (dX9_isMeal 7 rfl) rfl rfl ?_
      refine R_getR cgX9 0 (cl0 hS) 7 (Nat.le_of_ble_eq_true rfl) rfl (Or.inl tb_560) (dX9_isMeal 8 rfl) ?_
      refine R_iload_n (i := 1) (dX9_isMeal 9 rfl) rfl rfl ?_
      refine R_iload_n (i := 3) (dX9_isMeal 10 rfl) rfl rfl ?_
      refine R_cV (st' := [.inl (f_X4_read x1 x3 M)]) [.inl x1, .inl x3] [] (t_X4_read l g ad S _ hS   x1 x3) msX4_read (Or.inl tb_988) (Or.inl ⟨33, 4, _, _, _, (cl33 hS), rfl⟩) ⟨Nat.le_of_ble_eq_true rfl, Nat.le_of_ble_eq_true rfl⟩ (Nat.zero_le _) (Nat.zero_le _) rfl rfl (Nat.le_of_ble_eq_true rfl) rfl (dX9_isMeal 11 rfl) ?_
      refine R_aload_n (i := 0) (dX9_isMeal 12 rfl) rfl rfl ?_
      refine R_getR cgX9 0 (cl0 hS) 1 (Nat.le_of_ble_eq_true rfl) rfl (Or.inl tb_554) (dX9_isMeal 13 rfl) ?_
      refine R_iload_n (i := 3) (dX9_isMeal 14 rfl) rfl rfl ?_
      refine R_iload_n (i := 2) (dX9_isMeal 15 rfl) rfl rfl ?_
      refine R_cV (st' := [.inl (f_X3_had x3 x2 M), .inl (f_X4_read x1 x3 M)]) [.inl x3, .inl x2] [.inl (f_X4_read x1 x3 M)] (t_X3_had l g ad S _ hS   x3 x2) msX3_had (Or.inl tb_944) (Or.inl ⟨3, 3, _, _, _, (cl3 hS), rfl⟩) ⟨Nat.le_of_ble_eq_true rfl, Nat.le_of_ble_eq_true rfl⟩ (Nat.zero_le _) (Nat.zero_le _) rfl rfl (Nat.le_of_ble_eq_true rfl) rfl (dX9_isMeal 16 rfl) ?_
      refine R_icmp_eq (tgt := 36) (dX9_isMeal 17 rfl) (by decide) (fun hc => ?_) (fun hc => ?_)
      · have H := ite_T H hc
        refine R_iinc (i := 3) (ls' := [some (.inr (.inr (some (ad 0)))), some (.inl x1), some (.inl x2), some (.inl (w32 (x3 + 1)))]) (dX9_isMeal 20 rfl) rfl (Nat.le_of_ble_eq_true rfl) rfl rfl ?_
        refine R_goto (tgt := 2) (dX9_isMeal 21 rfl) (by decide) ?_
        exact ih (w32 (x3 + 1)) H
      · have H := ite_F H hc
        refine R_iconst (dX9_isMeal 18 rfl) rfl ?_
        exact R_iret rfl (by decide +kernel) (Nat.zero_le _) (Nat.zero_le _) (dX9_isMeal 19 rfl) ⟨congrArg (fun z => some (Sum.inl z)) (Option.some.inj H), rfl, rfl⟩
def f_X9_isMeal (x1 : Int) (x2 : Int) (M : Mem) : Option Int :=
  f_X9_isMeal_L2
    x1 x2 M 100000 0
set_option maxHeartbeats 4000000 in
theorem t_X9_isMeal (l : Launch) (g : GG) (ad : Nat → Nat) (S : SW) (M : Mem) (hS : q_ag 0 38 ad S) (x1 : Int) (x2 : Int) {r : Int} (H : f_X9_isMeal x1 x2 M = some r) : CT l g MX9_isMeal 3 0 0 S M [.inr (.inr (some (ad 0))), .inl x1, .inl x2] (q_ex S (some (.inl r)) M) := by
  unfold f_X9_isMeal at H
  refine CT_of (ls0 := [some (.inr (.inr (some (ad 0)))), some (.inl x1), some (.inl x2), none]) (by decide +kernel) (Nat.le_of_ble_eq_true rfl) rfl ?_
  refine R_iconst (dX9_isMeal 0 rfl) rfl ?_
  refine R_istore_n (i := 3) (ls' := [some (.inr (.inr (some (ad 0)))), some (.inl x1), some (.inl x2), some (.inl 0)]) (dX9_isMeal 1 rfl) rfl (Nat.le_of_ble_eq_true rfl) (Nat.le_of_ble_eq_true rfl) rfl rfl ?_
  exact t_X9_isMeal_L2 l g ad S M hS x1 x2  100000 0 H 
def f_X9_match_L55 (x1 : Int) : Nat → Int → Int → Mem → Option (Int × Mem)
  | 0, _, _, _ => none
  | n + 1, x3, x4, M =>
    if x4 < M 21 5 then
      (f_X9_isMeal x1 (f_X1_tongueOf x4 M) M).bind fun r282 =>
      if r282 = 0 then
        f_X9_match_L55 x1 n x3 (w32 (x4 + 1)) M
      else
        f_X9_match_L55 x1 n (w32 (x3 + 1)) (w32 (x4 + 1)) M
    else
      some (x3, M)
set_option maxHeartbeats 4000000 in
theorem t_X9_match_L55 (l : Launch) (g : GG) (ad : Nat → Nat) (S : SW) (hS : q_ag 0 38 ad S) (x1 : Int) {r : Int} {M' : Mem} : ∀ (n : Nat) (x3 : Int) (x4 : Int) (M : Mem), f_X9_match_L55 x1 n x3 x4 M = some (r, M') → RW l g MX9_match (q_rm 7 0 0) 0 0 (q_ex S (some (.inl r)) M') 55 S M 0 0 [some (.inr (.inr (some (ad 0)))), some (.inl x1), some (.inr (.inr (some (ad 21)))), some (.inl x3), some (.inl x4)] [] := by
  intro n
  induction n with
  | zero => intro x3 x4 M H; exact absurd H (by simp [f_X9_match_L55])
  | succ n ih =>
    intro x3 x4 M H
    rw [f_X9_match_L55] at H
    refine R_iload (i := 4) (dX9_match 29 rfl) rfl ?_
    refine R_aload_n (i := 2) (dX9_match 30 rfl) rfl rfl ?_
    refine R_getI cgX1 21 (cl21 hS) 5 (Nat.le_of_ble_eq_true rfl) rfl (Or.inr ⟨_, tb_465⟩) (dX9_match 31 rfl) ?_
    refine R_icmp_ge (tgt := 87) (dX9_match 32 rfl) (by decide) (fun hc => ?_) (fun hc => ?_)
    · have H := ite_F H hc
      refine R_iload_n (i := 3) (dX9_match 43 rfl) rfl rfl ?_
      exact R_iret rfl rfl (Nat.zero_le _) (Nat.zero_le _) (dX9_match 44 rfl) ⟨congrArg (fun z => some (Sum.inl z)) (Prod.mk.inj (Option.some.inj H)).1, rfl, (Prod.mk.inj (Option.some.inj H)).2⟩
    · have H := ite_T H hc
      refine R_aload_n (i := 0) (dX9_match 33 rfl) rfl rfl ?_
      refine R_iload_n (i := 1) (dX9_match 34 rfl) rfl rfl ?_
      refine R_aload_n (i := 2) (dX9_match 35 rfl) rfl rfl ?_
      refine R_iload (i := 4) (dX9_match 36 rfl) rfl ?_
      refine R_cV (st' := [.inl (f_X1_tongueOf x4 M), .inl x1, .inr (.inr (some (ad 0)))]) [.inl x4] [.inl x1, .inr (.inr (some (ad 0)))] (t_X1_tongueOf l g ad S _ hS   x4) msX1_tongueOf (Or.inl tb_783) (Or.inl ⟨21, 1, _, _, _, (cl21 hS), rfl⟩) ⟨Nat.le_of_ble_eq_true rfl, Nat.le_of_ble_eq_true rfl⟩ (Nat.zero_le _) (Nat.zero_le _) rfl rfl (Nat.le_of_ble_eq_true rfl) rfl (dX9_match 37 rfl) ?_
      obtain ⟨r282, hr, H⟩ := op_E H
      refine R_cV (st' := [.inl r282]) [.inl x1, .inl (f_X1_tongueOf x4 M)] [] (t_X9_isMeal l g ad S _ hS   x1 (f_X1_tongueOf x4 M) hr) msX9_isMeal (Or.inl tb_984) (Or.inl ⟨0, 9, _, _, _, (cl0 hS), rfl⟩) ⟨Nat.le_of_ble_eq_true rfl, Nat.le_of_ble_eq_true rfl⟩ (Nat.zero_le _) (Nat.zero_le _) rfl rfl (Nat.le_of_ble_eq_true rfl) rfl (dX9_match 38 rfl) ?_
      refine R_if_eq (tgt := 81) (dX9_match 39 rfl) (by decide) (fun hc => ?_) (fun hc => ?_)
      · have H := ite_T H hc
        refine R_iinc (i := 4) (ls' := [some (.inr (.inr (some (ad 0)))), some (.inl x1), some (.inr (.inr (some (ad 21)))), some (.inl x3), some (.inl (w32 (x4 + 1)))]) (dX9_match 41 rfl) rfl (Nat.le_of_ble_eq_true rfl) rfl rfl ?_
        refine R_goto (tgt := 55) (dX9_match 42 rfl) (by decide) ?_
        exact ih x3 (w32 (x4 + 1)) M H
      · have H := ite_F H hc
        refine R_iinc (i := 3) (ls' := [some (.inr (.inr (some (ad 0)))), some (.inl x1), some (.inr (.inr (some (ad 21)))), some (.inl (w32 (x3 + 1))), some (.inl x4)]) (dX9_match 40 rfl) rfl (Nat.le_of_ble_eq_true rfl) rfl rfl ?_
        refine R_iinc (i := 4) (ls' := [some (.inr (.inr (some (ad 0)))), some (.inl x1), some (.inr (.inr (some (ad 21)))), some (.inl (w32 (x3 + 1))), some (.inl (w32 (x4 + 1)))]) (dX9_match 41 rfl) rfl (Nat.le_of_ble_eq_true rfl) rfl rfl ?_
        refine R_goto (tgt := 55) (dX9_match 42 rfl) (by decide) ?_
        exact ih (w32 (x3 + 1)) (w32 (x4 + 1)) M H
def f_X9_match (x1 : Int) (M : Mem) : Option (Int × Mem) :=
  if f_X9_isSheet x1 = 0 then
    some ((-2), M)
  else
    if f_X4_isMissing x1 M = 0 then
      if f_X4_sizeOf x1 M = M 3 3 then
        ob (f_X9_fitting M) fun r280 M281 =>
        f_X9_match_L55
          x1 100000 0 0 M281
      else
        some ((-2), M)
    else
      some ((-11), M)
set_option maxHeartbeats 4000000 in
theorem t_X9_match (l : Launch) (g : GG) (ad : Nat → Nat) (S : SW) (M : Mem) (hS : q_ag 0 38 ad S) (x1 : Int) {r : Int} {M' : Mem} (H : f_X9_match x1 M = some (r, M')) : CT l g MX9_match 7 0 0 S M [.inr (.inr (some (ad 0))), .inl x1] (q_ex S (some (.inl r)) M') := by
  unfold f_X9_match at H
  refine CT_of (ls0 := [some (.inr (.inr (some (ad 0)))), some (.inl x1), none, none, none]) (by decide +kernel) (Nat.le_of_ble_eq_true rfl) rfl ?_
  refine R_iload_n (i := 1) (dX9_match 0 rfl) rfl rfl ?_
  refine R_cS (st' := [.inl (f_X9_isSheet x1)]) [.inl x1] [] (t_X9_isSheet l g ad S _ hS   x1) msX9_isSheet (Or.inl tb_968) ⟨Nat.le_of_ble_eq_true rfl, Nat.le_of_ble_eq_true rfl⟩ (Nat.zero_le _) (Nat.zero_le _) rfl rfl (Nat.le_of_ble_eq_true rfl) rfl (dX9_match 1 rfl) ?_
  refine R_if_ne (tgt := 10) (dX9_match 2 rfl) (by decide) (fun hc => ?_) (fun hc => ?_)
  · have H := ite_F H hc
    refine R_aload_n (i := 0) (dX9_match 5 rfl) rfl rfl ?_
    refine R_getR cgX9 0 (cl0 hS) 7 (Nat.le_of_ble_eq_true rfl) rfl (Or.inl tb_560) (dX9_match 6 rfl) ?_
    refine R_iload_n (i := 1) (dX9_match 7 rfl) rfl rfl ?_
    refine R_cV (st' := [.inl (f_X4_isMissing x1 M)]) [.inl x1] [] (t_X4_isMissing l g ad S _ hS   x1) msX4_isMissing (Or.inl tb_971) (Or.inl ⟨33, 4, _, _, _, (cl33 hS), rfl⟩) ⟨Nat.le_of_ble_eq_true rfl, Nat.le_of_ble_eq_true rfl⟩ (Nat.zero_le _) (Nat.zero_le _) rfl rfl (Nat.le_of_ble_eq_true rfl) rfl (dX9_match 8 rfl) ?_
    refine R_if_eq (tgt := 24) (dX9_match 9 rfl) (by decide) (fun hc => ?_) (fun hc => ?_)
    · have H := ite_T H hc
      refine R_aload_n (i := 0) (dX9_match 12 rfl) rfl rfl ?_
      refine R_getR cgX9 0 (cl0 hS) 7 (Nat.le_of_ble_eq_true rfl) rfl (Or.inl tb_560) (dX9_match 13 rfl) ?_
      refine R_iload_n (i := 1) (dX9_match 14 rfl) rfl rfl ?_
      refine R_cV (st' := [.inl (f_X4_sizeOf x1 M)]) [.inl x1] [] (t_X4_sizeOf l g ad S _ hS   x1) msX4_sizeOf (Or.inl tb_980) (Or.inl ⟨33, 4, _, _, _, (cl33 hS), rfl⟩) ⟨Nat.le_of_ble_eq_true rfl, Nat.le_of_ble_eq_true rfl⟩ (Nat.zero_le _) (Nat.zero_le _) rfl rfl (Nat.le_of_ble_eq_true rfl) rfl (dX9_match 15 rfl) ?_
      refine R_aload_n (i := 0) (dX9_match 16 rfl) rfl rfl ?_
      refine R_getR cgX9 0 (cl0 hS) 1 (Nat.le_of_ble_eq_true rfl) rfl (Or.inl tb_554) (dX9_match 17 rfl) ?_
      refine R_getI cgX3 3 (cl3 hS) 3 (Nat.le_of_ble_eq_true rfl) rfl (Or.inr ⟨_, tb_140⟩) (dX9_match 18 rfl) ?_
      refine R_icmp_eq (tgt := 45) (dX9_match 19 rfl) (by decide) (fun hc => ?_) (fun hc => ?_)
      · have H := ite_T H hc
        refine R_aload_n (i := 0) (dX9_match 22 rfl) rfl rfl ?_
        obtain ⟨r280, M281, hr, H⟩ := ob_E H
        refine R_cV (st' := [.inr (.inr (some (ad 21)))]) [] [] (t_X9_fitting l g ad S _ hS   hr) msX9_fitting (Or.inl tb_732) (Or.inl ⟨0, 9, _, _, _, (cl0 hS), rfl⟩) ⟨Nat.le_of_ble_eq_true rfl, Nat.le_of_ble_eq_true rfl⟩ (Nat.zero_le _) (Nat.zero_le _) rfl rfl (Nat.le_of_ble_eq_true rfl) rfl (dX9_match 23 rfl) ?_
        refine R_astore_n (i := 2) (ls' := [some (.inr (.inr (some (ad 0)))), some (.inl x1), some (.inr (.inr (some (ad 21)))), none, none]) (dX9_match 24 rfl) rfl (Nat.le_of_ble_eq_true rfl) (Nat.le_of_ble_eq_true rfl) rfl rfl ?_
        refine R_iconst (dX9_match 25 rfl) rfl ?_
        refine R_istore_n (i := 3) (ls' := [some (.inr (.inr (some (ad 0)))), some (.inl x1), some (.inr (.inr (some (ad 21)))), some (.inl 0), none]) (dX9_match 26 rfl) rfl (Nat.le_of_ble_eq_true rfl) (Nat.le_of_ble_eq_true rfl) rfl rfl ?_
        refine R_iconst (dX9_match 27 rfl) rfl ?_
        refine R_istore (i := 4) (ls' := [some (.inr (.inr (some (ad 0)))), some (.inl x1), some (.inr (.inr (some (ad 21)))), some (.inl 0), some (.inl 0)]) (dX9_match 28 rfl) (Nat.le_of_ble_eq_true rfl) (Nat.le_of_ble_eq_true rfl) rfl rfl ?_
        exact t_X9_match_L55 l g ad S hS x1  100000 0 0 M281 H 
      · have H := ite_F H hc
        refine R_bipush (dX9_match 20 rfl) rfl rfl ?_
        exact R_iret rfl rfl (Nat.zero_le _) (Nat.zero_le _) (dX9_match 21 rfl) ⟨congrArg (fun z => some (Sum.inl z)) (Prod.mk.inj (Option.some.inj H)).1, rfl, (Prod.mk.inj (Option.some.inj H)).2⟩
    · have H := ite_F H hc
      refine R_bipush (dX9_match 10 rfl) rfl rfl ?_
      exact R_iret rfl rfl (Nat.zero_le _) (Nat.zero_le _) (dX9_match 11 rfl) ⟨congrArg (fun z => some (Sum.inl z)) (Prod.mk.inj (Option.some.inj H)).1, rfl, (Prod.mk.inj (Option.some.inj H)).2⟩
  · have H := ite_T H hc
    refine R_bipush (dX9_match 3 rfl) rfl rfl ?_
    exact R_iret rfl rfl (Nat.zero_le _) (Nat.zero_le _) (dX9_match 4 rfl) ⟨congrArg (fun z => some (Sum.inl z)) (Prod.mk.inj (Option.some.inj H)).1, rfl, (Prod.mk.inj (Option.some.inj H)).2⟩
def f_X9_film_L43 (x1 : Int) : Nat → Int → Mem → Option (Int × Mem)
  | 0, _, _ => none
  | n + 1, x3, M =>
    if x3 < M 3 3 then
      ob (f_X4_write x1 x3 (f_X3_had x3 (f_X1_tongueOf 0 M) M) M) fun r287 M288 =>
      f_X9_film_L43 x1 n (w32 (x3 + 1)) M288
    else
      some (M 3 3, M)
set_option maxHeartbeats 4000000 in
theorem t_X9_film_L43 (l : Launch) (g : GG) (ad : Nat → Nat) (S : SW) (hS : q_ag 0 38 ad S) (x1 : Int) {r : Int} {M' : Mem} : ∀ (n : Nat) (x3 : Int) (M : Mem), f_X9_film_L43 x1 n x3 M = some (r, M') → RW l g MX9_film (q_rm 7 0 0) 0 0 (q_ex S (some (.inl r)) M') 43 S M 0 0 [some (.inr (.inr (some (ad 0)))), some (.inl x1), some (.inr (.inr (some (ad 21)))), some (.inl x3)] [] := by
  intro n
  induction n with
  | zero => intro x3 M H; exact absurd H (by simp [f_X9_film_L43])
  | succ n ih =>
    intro x3 M H
    rw [f_X9_film_L43] at H
    refine R_iload_n (i := 3) (dX9_film 23 rfl) rfl rfl ?_
    refine R_aload_n (i := 0) (dX9_film 24 rfl) rfl rfl ?_
    refine R_getR cgX9 0 (cl0 hS) 1 (Nat.le_of_ble_eq_true rfl) rfl (Or.inl tb_554) (dX9_film 25 rfl) ?_
    refine R_getI cgX3 3 (cl3 hS) 3 (Nat.le_of_ble_eq_true rfl) rfl (Or.inr ⟨_, tb_140⟩) (dX9_film 26 rfl) ?_
    refine R_icmp_ge (tgt := 82) (dX9_film 27 rfl) (by decide) (fun hc => ?_) (fun hc => ?_)
    · have H := ite_F H hc
      refine R_aload_n (i := 0) (dX9_film 42 rfl) rfl rfl ?_
      refine R_getR cgX9 0 (cl0 hS) 1 (Nat.le_of_ble_eq_true rfl) rfl (Or.inl tb_554) (dX9_film 43 rfl) ?_
      refine R_getI cgX3 3 (cl3 hS) 3 (Nat.le_of_ble_eq_true rfl) rfl (Or.inr ⟨_, tb_140⟩) (dX9_film 44 rfl) ?_
      exact R_iret rfl rfl (Nat.zero_le _) (Nat.zero_le _) (dX9_film 45 rfl) ⟨congrArg (fun z => some (Sum.inl z)) (Prod.mk.inj (Option.some.inj H)).1, rfl, (Prod.mk.inj (Option.some.inj H)).2⟩
    · have H := ite_T H hc
      refine R_aload_n (i := 0) (dX9_film 28 rfl) rfl rfl ?_
      refine R_getR cgX9 0 (cl0 hS) 7 (Nat.le_of_ble_eq_true rfl) rfl (Or.inl tb_560) (dX9_film 29 rfl) ?_
      refine R_iload_n (i := 1) (dX9_film 30 rfl) rfl rfl ?_
      refine R_iload_n (i := 3) (dX9_film 31 rfl) rfl rfl ?_
      refine R_aload_n (i := 0) (dX9_film 32 rfl) rfl rfl ?_
      refine R_getR cgX9 0 (cl0 hS) 1 (Nat.le_of_ble_eq_true rfl) rfl (Or.inl tb_554) (dX9_film 33 rfl) ?_
      refine R_iload_n (i := 3) (dX9_film 34 rfl) rfl rfl ?_
      refine R_aload_n (i := 2) (dX9_film 35 rfl) rfl rfl ?_
      refine R_iconst (dX9_film 36 rfl) rfl ?_
      refine R_cV (st' := [.inl (f_X1_tongueOf 0 M), .inl x3, .inr (.inr (some (ad 3))), .inl x3, .inl x1, .inr (.inr (some (ad 33)))]) [.inl 0] [.inl x3, .inr (.inr (some (ad 3))), .inl x3, .inl x1, .inr (.inr (some (ad 33)))] (t_X1_tongueOf l g ad S _ hS   0) msX1_tongueOf (Or.inl tb_783) (Or.inl ⟨21, 1, _, _, _, (cl21 hS), rfl⟩) ⟨Nat.le_of_ble_eq_true rfl, Nat.le_of_ble_eq_true rfl⟩ (Nat.zero_le _) (Nat.zero_le _) rfl rfl (Nat.le_of_ble_eq_true rfl) rfl (dX9_film 37 rfl) ?_
      refine R_cV (st' := [.inl (f_X3_had x3 (f_X1_tongueOf 0 M) M), .inl x3, .inl x1, .inr (.inr (some (ad 33)))]) [.inl x3, .inl (f_X1_tongueOf 0 M)] [.inl x3, .inl x1, .inr (.inr (some (ad 33)))] (t_X3_had l g ad S _ hS   x3 (f_X1_tongueOf 0 M)) msX3_had (Or.inl tb_944) (Or.inl ⟨3, 3, _, _, _, (cl3 hS), rfl⟩) ⟨Nat.le_of_ble_eq_true rfl, Nat.le_of_ble_eq_true rfl⟩ (Nat.zero_le _) (Nat.zero_le _) rfl rfl (Nat.le_of_ble_eq_true rfl) rfl (dX9_film 38 rfl) ?_
      obtain ⟨r287, M288, hr, H⟩ := ob_E H
      refine R_cV (st' := []) [.inl x1, .inl x3, .inl (f_X3_had x3 (f_X1_tongueOf 0 M) M)] [] (t_X4_write l g ad S _ hS   x1 x3 (f_X3_had x3 (f_X1_tongueOf 0 M) M) hr) msX4_write (Or.inl tb_1001) (Or.inl ⟨33, 4, _, _, _, (cl33 hS), rfl⟩) ⟨Nat.le_of_ble_eq_true rfl, Nat.le_of_ble_eq_true rfl⟩ (Nat.zero_le _) (Nat.zero_le _) rfl rfl (Nat.le_of_ble_eq_true rfl) rfl (dX9_film 39 rfl) ?_
      refine R_iinc (i := 3) (ls' := [some (.inr (.inr (some (ad 0)))), some (.inl x1), some (.inr (.inr (some (ad 21)))), some (.inl (w32 (x3 + 1)))]) (dX9_film 40 rfl) rfl (Nat.le_of_ble_eq_true rfl) rfl rfl ?_
      refine R_goto (tgt := 43) (dX9_film 41 rfl) (by decide) ?_
      exact ih (w32 (x3 + 1)) M288 H
def f_X9_film (x1 : Int) (M : Mem) : Option (Int × Mem) :=
  if f_X9_isSheet x1 = 0 then
    some ((-2), M)
  else
    ob (f_X9_fitting M) fun r283 M284 =>
    if M284 21 5 = 0 then
      some ((-3), M284)
    else
      ob (f_X4_become x1 2 (M284 3 3) M284) fun r285 M286 =>
      f_X9_film_L43
        x1 100000 0 M286
set_option maxHeartbeats 4000000 in
theorem t_X9_film (l : Launch) (g : GG) (ad : Nat → Nat) (S : SW) (M : Mem) (hS : q_ag 0 38 ad S) (x1 : Int) {r : Int} {M' : Mem} (H : f_X9_film x1 M = some (r, M')) : CT l g MX9_film 7 0 0 S M [.inr (.inr (some (ad 0))), .inl x1] (q_ex S (some (.inl r)) M') := by
  unfold f_X9_film at H
  refine CT_of (ls0 := [some (.inr (.inr (some (ad 0)))), some (.inl x1), none, none]) (by decide +kernel) (Nat.le_of_ble_eq_true rfl) rfl ?_
  refine R_iload_n (i := 1) (dX9_film 0 rfl) rfl rfl ?_
  refine R_cS (st' := [.inl (f_X9_isSheet x1)]) [.inl x1] [] (t_X9_isSheet l g ad S _ hS   x1) msX9_isSheet (Or.inl tb_968) ⟨Nat.le_of_ble_eq_true rfl, Nat.le_of_ble_eq_true rfl⟩ (Nat.zero_le _) (Nat.zero_le _) rfl rfl (Nat.le_of_ble_eq_true rfl) rfl (dX9_film 1 rfl) ?_
  refine R_if_ne (tgt := 10) (dX9_film 2 rfl) (by decide) (fun hc => ?_) (fun hc => ?_)
  · have H := ite_F H hc
    refine R_aload_n (i := 0) (dX9_film 5 rfl) rfl rfl ?_
    obtain ⟨r283, M284, hr, H⟩ := ob_E H
    refine R_cV (st' := [.inr (.inr (some (ad 21)))]) [] [] (t_X9_fitting l g ad S _ hS   hr) msX9_fitting (Or.inl tb_732) (Or.inl ⟨0, 9, _, _, _, (cl0 hS), rfl⟩) ⟨Nat.le_of_ble_eq_true rfl, Nat.le_of_ble_eq_true rfl⟩ (Nat.zero_le _) (Nat.zero_le _) rfl rfl (Nat.le_of_ble_eq_true rfl) rfl (dX9_film 6 rfl) ?_
    refine R_astore_n (i := 2) (ls' := [some (.inr (.inr (some (ad 0)))), some (.inl x1), some (.inr (.inr (some (ad 21)))), none]) (dX9_film 7 rfl) rfl (Nat.le_of_ble_eq_true rfl) (Nat.le_of_ble_eq_true rfl) rfl rfl ?_
    refine R_aload_n (i := 2) (dX9_film 8 rfl) rfl rfl ?_
    refine R_getI cgX1 21 (cl21 hS) 5 (Nat.le_of_ble_eq_true rfl) rfl (Or.inr ⟨_, tb_465⟩) (dX9_film 9 rfl) ?_
    refine R_if_ne (tgt := 25) (dX9_film 10 rfl) (by decide) (fun hc => ?_) (fun hc => ?_)
    · have H := ite_F H hc
      refine R_aload_n (i := 0) (dX9_film 13 rfl) rfl rfl ?_
      refine R_getR cgX9 0 (cl0 hS) 7 (Nat.le_of_ble_eq_true rfl) rfl (Or.inl tb_560) (dX9_film 14 rfl) ?_
      refine R_iload_n (i := 1) (dX9_film 15 rfl) rfl rfl ?_
      refine R_iconst (dX9_film 16 rfl) rfl ?_
      refine R_aload_n (i := 0) (dX9_film 17 rfl) rfl rfl ?_
      refine R_getR cgX9 0 (cl0 hS) 1 (Nat.le_of_ble_eq_true rfl) rfl (Or.inl tb_554) (dX9_film 18 rfl) ?_
      refine R_getI cgX3 3 (cl3 hS) 3 (Nat.le_of_ble_eq_true rfl) rfl (Or.inr ⟨_, tb_140⟩) (dX9_film 19 rfl) ?_
      obtain ⟨r285, M286, hr, H⟩ := ob_E H
      refine R_cV (st' := []) [.inl x1, .inl 2, .inl (M284 3 3)] [] (t_X4_become l g ad S _ hS   x1 2 (M284 3 3) hr) msX4_become (Or.inl tb_996) (Or.inl ⟨33, 4, _, _, _, (cl33 hS), rfl⟩) ⟨Nat.le_of_ble_eq_true rfl, Nat.le_of_ble_eq_true rfl⟩ (Nat.zero_le _) (Nat.zero_le _) rfl rfl (Nat.le_of_ble_eq_true rfl) rfl (dX9_film 20 rfl) ?_
      refine R_iconst (dX9_film 21 rfl) rfl ?_
      refine R_istore_n (i := 3) (ls' := [some (.inr (.inr (some (ad 0)))), some (.inl x1), some (.inr (.inr (some (ad 21)))), some (.inl 0)]) (dX9_film 22 rfl) rfl (Nat.le_of_ble_eq_true rfl) (Nat.le_of_ble_eq_true rfl) rfl rfl ?_
      exact t_X9_film_L43 l g ad S hS x1  100000 0 M286 H 
    · have H := ite_T H hc
      refine R_bipush (dX9_film 11 rfl) rfl rfl ?_
      exact R_iret rfl rfl (Nat.zero_le _) (Nat.zero_le _) (dX9_film 12 rfl) ⟨congrArg (fun z => some (Sum.inl z)) (Prod.mk.inj (Option.some.inj H)).1, rfl, (Prod.mk.inj (Option.some.inj H)).2⟩
  · have H := ite_T H hc
    refine R_bipush (dX9_film 3 rfl) rfl rfl ?_
    exact R_iret rfl rfl (Nat.zero_le _) (Nat.zero_le _) (dX9_film 4 rfl) ⟨congrArg (fun z => some (Sum.inl z)) (Prod.mk.inj (Option.some.inj H)).1, rfl, (Prod.mk.inj (Option.some.inj H)).2⟩
def f_X9_laws_L4 : Nat → Int → Int → Mem → Option (Int × Mem)
  | 0, _, _, _ => none
  | n + 1, x1, x2, M =>
    if x2 < M 12 5 then
      ob (f_X1_anyBy x2 M) fun r289 M290 =>
      if r289 = 0 then
        f_X9_laws_L4 n x1 (w32 (x2 + 1)) M290
      else
        f_X9_laws_L4 n (b_or x1 (b_shl 1 x2)) (w32 (x2 + 1)) M290
    else
      some (x1, M)
set_option maxHeartbeats 4000000 in
theorem t_X9_laws_L4 (l : Launch) (g : GG) (ad : Nat → Nat) (S : SW) (hS : q_ag 0 38 ad S) {r : Int} {M' : Mem} : ∀ (n : Nat) (x1 : Int) (x2 : Int) (M : Mem), f_X9_laws_L4 n x1 x2 M = some (r, M') → RW l g MX9_laws (q_rm 6 0 0) 0 0 (q_ex S (some (.inl r)) M') 4 S M 0 0 [some (.inr (.inr (some (ad 0)))), some (.inl x1), some (.inl x2)] [] := by
  intro n
  induction n with
  | zero => intro x1 x2 M H; exact absurd H (by simp [f_X9_laws_L4])
  | succ n ih =>
    intro x1 x2 M H
    rw [f_X9_laws_L4] at H
    refine R_iload_n (i := 2) (dX9_laws 4 rfl) rfl rfl ?_
    refine R_aload_n (i := 0) (dX9_laws 5 rfl) rfl rfl ?_
    refine R_getR cgX9 0 (cl0 hS) 3 (Nat.le_of_ble_eq_true rfl) rfl (Or.inl tb_556) (dX9_laws 6 rfl) ?_
    refine R_getI cgX6 12 (cl12 hS) 5 (Nat.le_of_ble_eq_true rfl) rfl (Or.inr ⟨_, tb_432⟩) (dX9_laws 7 rfl) ?_
    refine R_icmp_ge (tgt := 50) (dX9_laws 8 rfl) (by decide) (fun hc => ?_) (fun hc => ?_)
    · have H := ite_F H hc
      refine R_iload_n (i := 1) (dX9_laws 28 rfl) rfl rfl ?_
      exact R_iret rfl rfl (Nat.zero_le _) (Nat.zero_le _) (dX9_laws 29 rfl) ⟨congrArg (fun z => some (Sum.inl z)) (Prod.mk.inj (Option.some.inj H)).1, rfl, (Prod.mk.inj (Option.some.inj H)).2⟩
    · have H := ite_T H hc
      refine R_aload_n (i := 0) (dX9_laws 9 rfl) rfl rfl ?_
      refine R_getR cgX9 0 (cl0 hS) 4 (Nat.le_of_ble_eq_true rfl) rfl (Or.inl tb_557) (dX9_laws 10 rfl) ?_
      refine R_aload_n (i := 0) (dX9_laws 11 rfl) rfl rfl ?_
      refine R_getR cgX9 0 (cl0 hS) 1 (Nat.le_of_ble_eq_true rfl) rfl (Or.inl tb_554) (dX9_laws 12 rfl) ?_
      refine R_aload_n (i := 0) (dX9_laws 13 rfl) rfl rfl ?_
      refine R_getR cgX9 0 (cl0 hS) 2 (Nat.le_of_ble_eq_true rfl) rfl (Or.inl tb_555) (dX9_laws 14 rfl) ?_
      refine R_aload_n (i := 0) (dX9_laws 15 rfl) rfl rfl ?_
      refine R_getR cgX9 0 (cl0 hS) 3 (Nat.le_of_ble_eq_true rfl) rfl (Or.inl tb_556) (dX9_laws 16 rfl) ?_
      refine R_iload_n (i := 2) (dX9_laws 17 rfl) rfl rfl ?_
      obtain ⟨r289, M290, hr, H⟩ := ob_E H
      refine R_cV (st' := [.inl r289]) [.inr (.inr (some (ad 3))), .inr (.inr (some (ad 7))), .inr (.inr (some (ad 12))), .inl x2] [] (t_X1_anyBy l g ad S _ hS   x2 hr) msX1_anyBy (Or.inl tb_1009) (Or.inl ⟨21, 1, _, _, _, (cl21 hS), rfl⟩) ⟨Nat.le_of_ble_eq_true rfl, Nat.le_of_ble_eq_true rfl⟩ (Nat.zero_le _) (Nat.zero_le _) rfl rfl (Nat.le_of_ble_eq_true rfl) rfl (dX9_laws 18 rfl) ?_
      refine R_if_eq (tgt := 44) (dX9_laws 19 rfl) (by decide) (fun hc => ?_) (fun hc => ?_)
      · have H := ite_T H hc
        refine R_iinc (i := 2) (ls' := [some (.inr (.inr (some (ad 0)))), some (.inl x1), some (.inl (w32 (x2 + 1)))]) (dX9_laws 26 rfl) rfl (Nat.le_of_ble_eq_true rfl) rfl rfl ?_
        refine R_goto (tgt := 4) (dX9_laws 27 rfl) (by decide) ?_
        exact ih x1 (w32 (x2 + 1)) M290 H
      · have H := ite_F H hc
        refine R_iload_n (i := 1) (dX9_laws 20 rfl) rfl rfl ?_
        refine R_iconst (dX9_laws 21 rfl) rfl ?_
        refine R_iload_n (i := 2) (dX9_laws 22 rfl) rfl rfl ?_
        refine R_ishl (dX9_laws 23 rfl) ?_
        refine R_ior (dX9_laws 24 rfl) ?_
        refine R_istore_n (i := 1) (ls' := [some (.inr (.inr (some (ad 0)))), some (.inl (b_or x1 (b_shl 1 x2))), some (.inl x2)]) (dX9_laws 25 rfl) rfl (Nat.le_of_ble_eq_true rfl) (Nat.le_of_ble_eq_true rfl) rfl rfl ?_
        refine R_iinc (i := 2) (ls' := [some (.inr (.inr (some (ad 0)))), some (.inl (b_or x1 (b_shl 1 x2))), some (.inl (w32 (x2 + 1)))]) (dX9_laws 26 rfl) rfl (Nat.le_of_ble_eq_true rfl) rfl rfl ?_
        refine R_goto (tgt := 4) (dX9_laws 27 rfl) (by decide) ?_
        exact ih (b_or x1 (b_shl 1 x2)) (w32 (x2 + 1)) M290 H
def f_X9_laws (M : Mem) : Option (Int × Mem) :=
  f_X9_laws_L4
    100000 0 0 M
set_option maxHeartbeats 4000000 in
theorem t_X9_laws (l : Launch) (g : GG) (ad : Nat → Nat) (S : SW) (M : Mem) (hS : q_ag 0 38 ad S) {r : Int} {M' : Mem} (H : f_X9_laws M = some (r, M')) : CT l g MX9_laws 6 0 0 S M [.inr (.inr (some (ad 0)))] (q_ex S (some (.inl r)) M') := by
  unfold f_X9_laws at H
  refine CT_of (ls0 := [some (.inr (.inr (some (ad 0)))), none, none]) (by decide +kernel) (Nat.le_of_ble_eq_true rfl) rfl ?_
  refine R_iconst (dX9_laws 0 rfl) rfl ?_
  refine R_istore_n (i := 1) (ls' := [some (.inr (.inr (some (ad 0)))), some (.inl 0), none]) (dX9_laws 1 rfl) rfl (Nat.le_of_ble_eq_true rfl) (Nat.le_of_ble_eq_true rfl) rfl rfl ?_
  refine R_iconst (dX9_laws 2 rfl) rfl ?_
  refine R_istore_n (i := 2) (ls' := [some (.inr (.inr (some (ad 0)))), some (.inl 0), some (.inl 0)]) (dX9_laws 3 rfl) rfl (Nat.le_of_ble_eq_true rfl) (Nat.le_of_ble_eq_true rfl) rfl rfl ?_
  exact t_X9_laws_L4 l g ad S hS  100000 0 0 M H 
def f_X9_drawn (x1 : Int) (x2 : Int) (M : Mem) : Option (Int × Mem) :=
  if f_X9_within x1 0 99999 = 0 then
    some ((-2), M)
  else
    if f_X9_isSign x2 = 0 then
      some ((-2), M)
    else
      ob (f_X9_fitting M) fun r291 M292 =>
      if M292 21 5 = 0 then
        some ((-1), M292)
      else
        (f_X1_drawnBy x1 M292).bind fun r293 =>
        some (f_X7_partOf r293 x2 M292, M292)
set_option maxHeartbeats 4000000 in
theorem t_X9_drawn (l : Launch) (g : GG) (ad : Nat → Nat) (S : SW) (M : Mem) (hS : q_ag 0 38 ad S) (x1 : Int) (x2 : Int) {r : Int} {M' : Mem} (H : f_X9_drawn x1 x2 M = some (r, M')) : CT l g MX9_drawn 7 0 0 S M [.inr (.inr (some (ad 0))), .inl x1, .inl x2] (q_ex S (some (.inl r)) M') := by
  unfold f_X9_drawn at H
  refine CT_of (ls0 := [some (.inr (.inr (some (ad 0)))), some (.inl x1), some (.inl x2), none]) (by decide +kernel) (Nat.le_of_ble_eq_true rfl) rfl ?_
  refine R_iload_n (i := 1) (dX9_drawn 0 rfl) rfl rfl ?_
  refine R_iconst (dX9_drawn 1 rfl) rfl ?_
  refine R_ldcw (z := 99999) tb_1017 rfl (dX9_drawn 2 rfl) ?_
  refine R_cS (st' := [.inl (f_X9_within x1 0 99999)]) [.inl x1, .inl 0, .inl 99999] [] (t_X9_within l g S _   x1 0 99999) msX9_within (Or.inl tb_603) ⟨Nat.le_of_ble_eq_true rfl, Nat.le_of_ble_eq_true rfl⟩ (Nat.zero_le _) (Nat.zero_le _) rfl rfl (Nat.le_of_ble_eq_true rfl) rfl (dX9_drawn 3 rfl) ?_
  refine R_if_eq (tgt := 18) (dX9_drawn 4 rfl) (by decide) (fun hc => ?_) (fun hc => ?_)
  · have H := ite_T H hc
    refine R_bipush (dX9_drawn 8 rfl) rfl rfl ?_
    exact R_iret rfl rfl (Nat.zero_le _) (Nat.zero_le _) (dX9_drawn 9 rfl) ⟨congrArg (fun z => some (Sum.inl z)) (Prod.mk.inj (Option.some.inj H)).1, rfl, (Prod.mk.inj (Option.some.inj H)).2⟩
  · have H := ite_F H hc
    refine R_iload_n (i := 2) (dX9_drawn 5 rfl) rfl rfl ?_
    refine R_cS (st' := [.inl (f_X9_isSign x2)]) [.inl x2] [] (t_X9_isSign l g ad S _ hS   x2) msX9_isSign (Or.inl tb_780) ⟨Nat.le_of_ble_eq_true rfl, Nat.le_of_ble_eq_true rfl⟩ (Nat.zero_le _) (Nat.zero_le _) rfl rfl (Nat.le_of_ble_eq_true rfl) rfl (dX9_drawn 6 rfl) ?_
    refine R_if_ne (tgt := 21) (dX9_drawn 7 rfl) (by decide) (fun hc => ?_) (fun hc => ?_)
    · have H := ite_F H hc
      refine R_aload_n (i := 0) (dX9_drawn 10 rfl) rfl rfl ?_
      obtain ⟨r291, M292, hr, H⟩ := ob_E H
      refine R_cV (st' := [.inr (.inr (some (ad 21)))]) [] [] (t_X9_fitting l g ad S _ hS   hr) msX9_fitting (Or.inl tb_732) (Or.inl ⟨0, 9, _, _, _, (cl0 hS), rfl⟩) ⟨Nat.le_of_ble_eq_true rfl, Nat.le_of_ble_eq_true rfl⟩ (Nat.zero_le _) (Nat.zero_le _) rfl rfl (Nat.le_of_ble_eq_true rfl) rfl (dX9_drawn 11 rfl) ?_
      refine R_astore_n (i := 3) (ls' := [some (.inr (.inr (some (ad 0)))), some (.inl x1), some (.inl x2), some (.inr (.inr (some (ad 21))))]) (dX9_drawn 12 rfl) rfl (Nat.le_of_ble_eq_true rfl) (Nat.le_of_ble_eq_true rfl) rfl rfl ?_
      refine R_aload_n (i := 3) (dX9_drawn 13 rfl) rfl rfl ?_
      refine R_getI cgX1 21 (cl21 hS) 5 (Nat.le_of_ble_eq_true rfl) rfl (Or.inr ⟨_, tb_465⟩) (dX9_drawn 14 rfl) ?_
      refine R_if_ne (tgt := 37) (dX9_drawn 15 rfl) (by decide) (fun hc => ?_) (fun hc => ?_)
      · have H := ite_F H hc
        refine R_aload_n (i := 0) (dX9_drawn 18 rfl) rfl rfl ?_
        refine R_getR cgX9 0 (cl0 hS) 0 (Nat.le_of_ble_eq_true rfl) rfl (Or.inl tb_553) (dX9_drawn 19 rfl) ?_
        refine R_aload_n (i := 3) (dX9_drawn 20 rfl) rfl rfl ?_
        refine R_iload_n (i := 1) (dX9_drawn 21 rfl) rfl rfl ?_
        obtain ⟨r293, hr, H⟩ := op_E H
        refine R_cV (st' := [.inl r293, .inr (.inr (some (ad 1)))]) [.inl x1] [.inr (.inr (some (ad 1)))] (t_X1_drawnBy l g ad S _ hS   x1 hr) msX1_drawnBy (Or.inl tb_1018) (Or.inl ⟨21, 1, _, _, _, (cl21 hS), rfl⟩) ⟨Nat.le_of_ble_eq_true rfl, Nat.le_of_ble_eq_true rfl⟩ (Nat.zero_le _) (Nat.zero_le _) rfl rfl (Nat.le_of_ble_eq_true rfl) rfl (dX9_drawn 22 rfl) ?_
        refine R_iload_n (i := 2) (dX9_drawn 23 rfl) rfl rfl ?_
        refine R_cV (st' := [.inl (f_X7_partOf r293 x2 M292)]) [.inl r293, .inl x2] [] (t_X7_partOf l g ad S _ (q_ag_sub hS (Nat.le_of_ble_eq_true rfl) (Nat.le_of_ble_eq_true rfl))   r293 x2) msX7_partOf (Or.inl tb_787) (Or.inl ⟨1, 7, _, _, _, (cl1 hS), rfl⟩) ⟨Nat.le_of_ble_eq_true rfl, Nat.le_of_ble_eq_true rfl⟩ (Nat.zero_le _) (Nat.zero_le _) rfl rfl (Nat.le_of_ble_eq_true rfl) rfl (dX9_drawn 24 rfl) ?_
        exact R_iret rfl rfl (Nat.zero_le _) (Nat.zero_le _) (dX9_drawn 25 rfl) ⟨congrArg (fun z => some (Sum.inl z)) (Prod.mk.inj (Option.some.inj H)).1, rfl, (Prod.mk.inj (Option.some.inj H)).2⟩
      · have H := ite_T H hc
        refine R_iconst (dX9_drawn 16 rfl) rfl ?_
        refine R_goto (tgt := 50) (dX9_drawn 17 rfl) (by decide) ?_
        exact R_iret rfl rfl (Nat.zero_le _) (Nat.zero_le _) (dX9_drawn 25 rfl) ⟨congrArg (fun z => some (Sum.inl z)) (Prod.mk.inj (Option.some.inj H)).1, rfl, (Prod.mk.inj (Option.some.inj H)).2⟩
    · have H := ite_T H hc
      refine R_bipush (dX9_drawn 8 rfl) rfl rfl ?_
      exact R_iret rfl rfl (Nat.zero_le _) (Nat.zero_le _) (dX9_drawn 9 rfl) ⟨congrArg (fun z => some (Sum.inl z)) (Prod.mk.inj (Option.some.inj H)).1, rfl, (Prod.mk.inj (Option.some.inj H)).2⟩
def f_X9_chance_L74 (K119 : Int → Mem → Option (Int × Mem)) (x1 : Int) (x2 : Int) (x3 : Int) (x4 : Int) (x5 : Int) : Nat → Int → Int → Mem → Option (Int × Mem)
  | 0, _, _, _ => none
  | n + 1, x7, x8, M =>
    if x8 < x4 then
      (f_X1_drawnBy (w32 (x3 + x8)) M).bind fun r296 =>
      if b_and (f_X3_had x2 r296 M) (rd 4 (M 37) x1) = 0 then
        f_X9_chance_L74 K119 x1 x2 x3 x4 x5 n x7 (w32 (x8 + 1)) M
      else
        f_X9_chance_L74 K119 x1 x2 x3 x4 x5 n (w32 (x7 + 1)) (w32 (x8 + 1)) M
    else
      K119 x7 M
set_option maxHeartbeats 4000000 in
theorem t_X9_chance_L74 (l : Launch) (g : GG) (ad : Nat → Nat) (S : SW) (hS : q_ag 0 38 ad S) (x1 : Int) (x2 : Int) (x3 : Int) (x4 : Int) (x5 : Int) {K119 : Int → Mem → Option (Int × Mem)} {r : Int} {M' : Mem} : ∀ (n : Nat) (x7 : Int) (x8 : Int) (M : Mem), f_X9_chance_L74 K119 x1 x2 x3 x4 x5 n x7 x8 M = some (r, M') → (∀ (z7 : Int) (M1 : Mem), K119 z7 M1 = some (r, M') → RW l g MX9_chance (q_rm 7 0 0) 0 0 (q_ex S (some (.inr (.inl r))) M') 119 S M1 0 0 [none, none, none, none, some (.inl x4), some (.inl x5), none, some (.inl z7), none] []) → RW l g MX9_chance (q_rm 7 0 0) 0 0 (q_ex S (some (.inr (.inl r))) M') 74 S M 0 0 [some (.inr (.inr (some (ad 0)))), some (.inl x1), some (.inl x2), some (.inl x3), some (.inl x4), some (.inl x5), some (.inr (.inr (some (ad 21)))), some (.inl x7), some (.inl x8)] [] := by
  intro n
  induction n with
  | zero => intro x7 x8 M H; exact absurd H (by simp [f_X9_chance_L74])
  | succ n ih =>
    intro x7 x8 M H hK119
    rw [f_X9_chance_L74] at H
    refine R_iload (i := 8) (dX9_chance_0 35 rfl) rfl ?_
    refine R_iload (i := 4) (dX9_chance_0 36 rfl) rfl ?_
    refine R_icmp_ge (tgt := 119) (dX9_chance_0 37 rfl) (by decide) (fun hc => ?_) (fun hc => ?_)
    · have H := ite_F H hc
      refine R_mask [false, false, false, false, true, true, false, true, false] rfl ?_
      exact hK119 x7 M H
    · have H := ite_T H hc
      refine R_aload_n (i := 0) (dX9_chance_0 38 rfl) rfl rfl ?_
      refine R_getR cgX9 0 (cl0 hS) 1 (Nat.le_of_ble_eq_true rfl) rfl (Or.inl tb_554) (dX9_chance_0 39 rfl) ?_
      refine R_iload_n (i := 2) (dX9_chance_0 40 rfl) rfl rfl ?_
      refine R_aload (i := 6) (dX9_chance_0 41 rfl) rfl ?_
      refine R_iload_n (i := 3) (dX9_chance_0 42 rfl) rfl rfl ?_
      refine R_iload (i := 8) (dX9_chance_0 43 rfl) rfl ?_
      refine R_iadd (dX9_chance_0 44 rfl) ?_
      obtain ⟨r296, hr, H⟩ := op_E H
      refine R_cV (st' := [.inl r296, .inl x2, .inr (.inr (some (ad 3)))]) [.inl (w32 (x3 + x8))] [.inl x2, .inr (.inr (some (ad 3)))] (t_X1_drawnBy l g ad S _ hS   (w32 (x3 + x8)) hr) msX1_drawnBy (Or.inl tb_1018) (Or.inl ⟨21, 1, _, _, _, (cl21 hS), rfl⟩) ⟨Nat.le_of_ble_eq_true rfl, Nat.le_of_ble_eq_true rfl⟩ (Nat.zero_le _) (Nat.zero_le _) rfl rfl (Nat.le_of_ble_eq_true rfl) rfl (dX9_chance_0 45 rfl) ?_
      refine R_cV (st' := [.inl (f_X3_had x2 r296 M)]) [.inl x2, .inl r296] [] (t_X3_had l g ad S _ hS   x2 r296) msX3_had (Or.inl tb_944) (Or.inl ⟨3, 3, _, _, _, (cl3 hS), rfl⟩) ⟨Nat.le_of_ble_eq_true rfl, Nat.le_of_ble_eq_true rfl⟩ (Nat.zero_le _) (Nat.zero_le _) rfl rfl (Nat.le_of_ble_eq_true rfl) rfl (dX9_chance_0 46 rfl) ?_
      refine R_aload_n (i := 0) (dX9_chance_0 47 rfl) rfl rfl ?_
      refine R_getR cgX9 0 (cl0 hS) 8 (Nat.le_of_ble_eq_true rfl) rfl (Or.inl tb_561) (dX9_chance_0 48 rfl) ?_
      refine R_iload_n (i := 1) (dX9_chance_0 49 rfl) rfl rfl ?_
      refine R_cS (st' := [.inl (rd 4 (M 37) x1), .inl (f_X3_had x2 r296 M)]) [.inr (.inr (some (ad 37))), .inl x1] [.inl (f_X3_had x2 r296 M)] (t_at l g S _ 37 (cl37 hS) (Nat.le_of_ble_eq_true rfl) x1) msX9_at (Or.inl tb_663) ⟨Nat.le_of_ble_eq_true rfl, Nat.le_of_ble_eq_true rfl⟩ (Nat.zero_le _) (Nat.zero_le _) rfl rfl (Nat.le_of_ble_eq_true rfl) rfl (dX9_chance_0 50 rfl) ?_
      refine R_iand (dX9_chance_0 51 rfl) ?_
      refine R_if_eq (tgt := 113) (dX9_chance_0 52 rfl) (by decide) (fun hc => ?_) (fun hc => ?_)
      · have H := ite_T H hc
        refine R_iinc (i := 8) (ls' := [some (.inr (.inr (some (ad 0)))), some (.inl x1), some (.inl x2), some (.inl x3), some (.inl x4), some (.inl x5), some (.inr (.inr (some (ad 21)))), some (.inl x7), some (.inl (w32 (x8 + 1)))]) (dX9_chance_0 54 rfl) rfl (Nat.le_of_ble_eq_true rfl) rfl rfl ?_
        refine R_goto (tgt := 74) (dX9_chance_0 55 rfl) (by decide) ?_
        exact ih x7 (w32 (x8 + 1)) M H hK119
      · have H := ite_F H hc
        refine R_iinc (i := 7) (ls' := [some (.inr (.inr (some (ad 0)))), some (.inl x1), some (.inl x2), some (.inl x3), some (.inl x4), some (.inl x5), some (.inr (.inr (some (ad 21)))), some (.inl (w32 (x7 + 1))), some (.inl x8)]) (dX9_chance_0 53 rfl) rfl (Nat.le_of_ble_eq_true rfl) rfl rfl ?_
        refine R_iinc (i := 8) (ls' := [some (.inr (.inr (some (ad 0)))), some (.inl x1), some (.inl x2), some (.inl x3), some (.inl x4), some (.inl x5), some (.inr (.inr (some (ad 21)))), some (.inl (w32 (x7 + 1))), some (.inl (w32 (x8 + 1)))]) (dX9_chance_0 54 rfl) rfl (Nat.le_of_ble_eq_true rfl) rfl rfl ?_
        refine R_goto (tgt := 74) (dX9_chance_0 55 rfl) (by decide) ?_
        exact ih (w32 (x7 + 1)) (w32 (x8 + 1)) M H hK119
def f_X9_chance (x1 : Int) (x2 : Int) (x3 : Int) (x4 : Int) (x5 : Int) (M : Mem) : Option (Int × Mem) :=
  if f_X9_isGuest x1 M = 0 then
    some ((-4611686018427387904), M)
  else
    if f_X9_isLine x2 M = 0 then
      some ((-4611686018427387904), M)
    else
      if f_X9_within x3 0 99999 = 0 then
        some ((-4611686018427387904), M)
      else
        if f_X9_within x4 1 30 = 0 then
          some ((-4611686018427387904), M)
        else
          if f_X9_isFractionPart x5 = 0 then
            some ((-4611686018427387904), M)
          else
            ob (f_X9_fitting M) fun r294 M295 =>
            if M295 21 5 = 0 then
              some ((-4611686018427387904), M295)
            else
              f_X9_chance_L74
                (fun y297 M298 =>
                  (f_X9_fraction y297 x4 x5).bind fun r299 =>
                  some (r299, M298)
                )
                x1 x2 x3 x4 x5 100000 0 0 M295
set_option maxHeartbeats 4000000 in
theorem t_X9_chance (l : Launch) (g : GG) (ad : Nat → Nat) (S : SW) (M : Mem) (hS : q_ag 0 38 ad S) (x1 : Int) (x2 : Int) (x3 : Int) (x4 : Int) (x5 : Int) {r : Int} {M' : Mem} (H : f_X9_chance x1 x2 x3 x4 x5 M = some (r, M')) : CT l g MX9_chance 7 0 0 S M [.inr (.inr (some (ad 0))), .inl x1, .inl x2, .inl x3, .inl x4, .inl x5] (q_ex S (some (.inr (.inl r))) M') := by
  unfold f_X9_chance at H
  refine CT_of (ls0 := [some (.inr (.inr (some (ad 0)))), some (.inl x1), some (.inl x2), some (.inl x3), some (.inl x4), some (.inl x5), none, none, none]) (by decide +kernel) (Nat.le_of_ble_eq_true rfl) rfl ?_
  refine R_aload_n (i := 0) (dX9_chance_0 0 rfl) rfl rfl ?_
  refine R_iload_n (i := 1) (dX9_chance_0 1 rfl) rfl rfl ?_
  refine R_cV (st' := [.inl (f_X9_isGuest x1 M)]) [.inl x1] [] (t_X9_isGuest l g ad S _ hS   x1) msX9_isGuest (Or.inl tb_659) (Or.inl ⟨0, 9, _, _, _, (cl0 hS), rfl⟩) ⟨Nat.le_of_ble_eq_true rfl, Nat.le_of_ble_eq_true rfl⟩ (Nat.zero_le _) (Nat.zero_le _) rfl rfl (Nat.le_of_ble_eq_true rfl) rfl (dX9_chance_0 2 rfl) ?_
  refine R_if_eq (tgt := 46) (dX9_chance_0 3 rfl) (by decide) (fun hc => ?_) (fun hc => ?_)
  · have H := ite_T H hc
    refine R_ldc2 (z := (-4611686018427387904)) tb_819 ⟨by decide, by decide⟩ (dX9_chance_0 21 rfl) ?_
    exact R_lret rfl (Nat.zero_le _) (Nat.zero_le _) (dX9_chance_0 22 rfl) ⟨congrArg (fun z => some (Sum.inr (Sum.inl z))) (Prod.mk.inj (Option.some.inj H)).1, rfl, (Prod.mk.inj (Option.some.inj H)).2⟩
  · have H := ite_F H hc
    refine R_aload_n (i := 0) (dX9_chance_0 4 rfl) rfl rfl ?_
    refine R_iload_n (i := 2) (dX9_chance_0 5 rfl) rfl rfl ?_
    refine R_cV (st' := [.inl (f_X9_isLine x2 M)]) [.inl x2] [] (t_X9_isLine l g ad S _ hS   x2) msX9_isLine (Or.inl tb_632) (Or.inl ⟨0, 9, _, _, _, (cl0 hS), rfl⟩) ⟨Nat.le_of_ble_eq_true rfl, Nat.le_of_ble_eq_true rfl⟩ (Nat.zero_le _) (Nat.zero_le _) rfl rfl (Nat.le_of_ble_eq_true rfl) rfl (dX9_chance_0 6 rfl) ?_
    refine R_if_eq (tgt := 46) (dX9_chance_0 7 rfl) (by decide) (fun hc => ?_) (fun hc => ?_)
    · have H := ite_T H hc
      refine R_ldc2 (z := (-4611686018427387904)) tb_819 ⟨by decide, by decide⟩ (dX9_chance_0 21 rfl) ?_
      exact R_lret rfl (Nat.zero_le _) (Nat.zero_le _) (dX9_chance_0 22 rfl) ⟨congrArg (fun z => some (Sum.inr (Sum.inl z))) (Prod.mk.inj (Option.some.inj H)).1, rfl, (Prod.mk.inj (Option.some.inj H)).2⟩
    · have H := ite_F H hc
      refine R_iload_n (i := 3) (dX9_chance_0 8 rfl) rfl rfl ?_
      refine R_iconst (dX9_chance_0 9 rfl) rfl ?_
      refine R_ldcw (z := 99999) tb_1017 rfl (dX9_chance_0 10 rfl) ?_
      refine R_cS (st' := [.inl (f_X9_within x3 0 99999)]) [.inl x3, .inl 0, .inl 99999] [] (t_X9_within l g S _   x3 0 99999) msX9_within (Or.inl tb_603) ⟨Nat.le_of_ble_eq_true rfl, Nat.le_of_ble_eq_true rfl⟩ (Nat.zero_le _) (Nat.zero_le _) rfl rfl (Nat.le_of_ble_eq_true rfl) rfl (dX9_chance_0 11 rfl) ?_
      refine R_if_eq (tgt := 46) (dX9_chance_0 12 rfl) (by decide) (fun hc => ?_) (fun hc => ?_)
      · have H := ite_T H hc
        refine R_ldc2 (z := (-4611686018427387904)) tb_819 ⟨by decide, by decide⟩ (dX9_chance_0 21 rfl) ?_
        exact R_lret rfl (Nat.zero_le _) (Nat.zero_le _) (dX9_chance_0 22 rfl) ⟨congrArg (fun z => some (Sum.inr (Sum.inl z))) (Prod.mk.inj (Option.some.inj H)).1, rfl, (Prod.mk.inj (Option.some.inj H)).2⟩
      · have H := ite_F H hc
        refine R_iload (i := 4) (dX9_chance_0 13 rfl) rfl ?_
        refine R_iconst (dX9_chance_0 14 rfl) rfl ?_
        refine R_bipush (dX9_chance_0 15 rfl) rfl rfl ?_
        refine R_cS (st' := [.inl (f_X9_within x4 1 30)]) [.inl x4, .inl 1, .inl 30] [] (t_X9_within l g S _   x4 1 30) msX9_within (Or.inl tb_603) ⟨Nat.le_of_ble_eq_true rfl, Nat.le_of_ble_eq_true rfl⟩ (Nat.zero_le _) (Nat.zero_le _) rfl rfl (Nat.le_of_ble_eq_true rfl) rfl (dX9_chance_0 16 rfl) ?_
        refine R_if_eq (tgt := 46) (dX9_chance_0 17 rfl) (by decide) (fun hc => ?_) (fun hc => ?_)
        · have H := ite_T H hc
          refine R_ldc2 (z := (-4611686018427387904)) tb_819 ⟨by decide, by decide⟩ (dX9_chance_0 21 rfl) ?_
          exact R_lret rfl (Nat.zero_le _) (Nat.zero_le _) (dX9_chance_0 22 rfl) ⟨congrArg (fun z => some (Sum.inr (Sum.inl z))) (Prod.mk.inj (Option.some.inj H)).1, rfl, (Prod.mk.inj (Option.some.inj H)).2⟩
        · have H := ite_F H hc
          refine R_iload (i := 5) (dX9_chance_0 18 rfl) rfl ?_
          refine R_cS (st' := [.inl (f_X9_isFractionPart x5)]) [.inl x5] [] (t_X9_isFractionPart l g ad S _ hS   x5) msX9_isFractionPart (Or.inl tb_816) ⟨Nat.le_of_ble_eq_true rfl, Nat.le_of_ble_eq_true rfl⟩ (Nat.zero_le _) (Nat.zero_le _) rfl rfl (Nat.le_of_ble_eq_true rfl) rfl (dX9_chance_0 19 rfl) ?_
          refine R_if_ne (tgt := 50) (dX9_chance_0 20 rfl) (by decide) (fun hc => ?_) (fun hc => ?_)
          · have H := ite_F H hc
            refine R_aload_n (i := 0) (dX9_chance_0 23 rfl) rfl rfl ?_
            obtain ⟨r294, M295, hr, H⟩ := ob_E H
            refine R_cV (st' := [.inr (.inr (some (ad 21)))]) [] [] (t_X9_fitting l g ad S _ hS   hr) msX9_fitting (Or.inl tb_732) (Or.inl ⟨0, 9, _, _, _, (cl0 hS), rfl⟩) ⟨Nat.le_of_ble_eq_true rfl, Nat.le_of_ble_eq_true rfl⟩ (Nat.zero_le _) (Nat.zero_le _) rfl rfl (Nat.le_of_ble_eq_true rfl) rfl (dX9_chance_0 24 rfl) ?_
            refine R_astore (i := 6) (ls' := [some (.inr (.inr (some (ad 0)))), some (.inl x1), some (.inl x2), some (.inl x3), some (.inl x4), some (.inl x5), some (.inr (.inr (some (ad 21)))), none, none]) (dX9_chance_0 25 rfl) (Nat.le_of_ble_eq_true rfl) (Nat.le_of_ble_eq_true rfl) rfl rfl ?_
            refine R_aload (i := 6) (dX9_chance_0 26 rfl) rfl ?_
            refine R_getI cgX1 21 (cl21 hS) 5 (Nat.le_of_ble_eq_true rfl) rfl (Or.inr ⟨_, tb_465⟩) (dX9_chance_0 27 rfl) ?_
            refine R_if_ne (tgt := 68) (dX9_chance_0 28 rfl) (by decide) (fun hc => ?_) (fun hc => ?_)
            · have H := ite_F H hc
              refine R_iconst (dX9_chance_0 31 rfl) rfl ?_
              refine R_istore (i := 7) (ls' := [some (.inr (.inr (some (ad 0)))), some (.inl x1), some (.inl x2), some (.inl x3), some (.inl x4), some (.inl x5), some (.inr (.inr (some (ad 21)))), some (.inl 0), none]) (dX9_chance_0 32 rfl) (Nat.le_of_ble_eq_true rfl) (Nat.le_of_ble_eq_true rfl) rfl rfl ?_
              refine R_iconst (dX9_chance_0 33 rfl) rfl ?_
              refine R_istore (i := 8) (ls' := [some (.inr (.inr (some (ad 0)))), some (.inl x1), some (.inl x2), some (.inl x3), some (.inl x4), some (.inl x5), some (.inr (.inr (some (ad 21)))), some (.inl 0), some (.inl 0)]) (dX9_chance_0 34 rfl) (Nat.le_of_ble_eq_true rfl) (Nat.le_of_ble_eq_true rfl) rfl rfl ?_
              refine t_X9_chance_L74 l g ad S hS x1 x2 x3 x4 x5  100000 0 0 M295 H (fun y297 M298 H => ?_)
              refine R_iload (i := 7) (dX9_chance_0 56 rfl) rfl ?_
              refine R_iload (i := 4) (dX9_chance_0 57 rfl) rfl ?_
              refine R_iload (i := 5) (dX9_chance_0 58 rfl) rfl ?_
              obtain ⟨r299, hr, H⟩ := op_E H
              refine R_cS (st' := [.inr (.inl r299)]) [.inl y297, .inl x4, .inl x5] [] (t_X9_fraction l g ad S _ hS   y297 x4 x5 hr) msX9_fraction (Or.inl tb_820) ⟨Nat.le_of_ble_eq_true rfl, Nat.le_of_ble_eq_true rfl⟩ (Nat.zero_le _) (Nat.zero_le _) rfl rfl (Nat.le_of_ble_eq_true rfl) rfl (dX9_chance_0 59 rfl) ?_
              exact R_lret rfl (Nat.zero_le _) (Nat.zero_le _) (dX9_chance_1 0 rfl) ⟨congrArg (fun z => some (Sum.inr (Sum.inl z))) (Prod.mk.inj (Option.some.inj H)).1, rfl, (Prod.mk.inj (Option.some.inj H)).2⟩
            · have H := ite_T H hc
              refine R_ldc2 (z := (-4611686018427387904)) tb_819 ⟨by decide, by decide⟩ (dX9_chance_0 29 rfl) ?_
              exact R_lret rfl (Nat.zero_le _) (Nat.zero_le _) (dX9_chance_0 30 rfl) ⟨congrArg (fun z => some (Sum.inr (Sum.inl z))) (Prod.mk.inj (Option.some.inj H)).1, rfl, (Prod.mk.inj (Option.some.inj H)).2⟩
          · have H := ite_T H hc
            refine R_ldc2 (z := (-4611686018427387904)) tb_819 ⟨by decide, by decide⟩ (dX9_chance_0 21 rfl) ?_
            exact R_lret rfl (Nat.zero_le _) (Nat.zero_le _) (dX9_chance_0 22 rfl) ⟨congrArg (fun z => some (Sum.inr (Sum.inl z))) (Prod.mk.inj (Option.some.inj H)).1, rfl, (Prod.mk.inj (Option.some.inj H)).2⟩
def f_X9_image (M : Mem) : Option (Int × Mem) :=
  some ((mcpy (mset (mset (mset (mset (mset (mset M 31 1 1) 31 2 ((mset M 31 1 1) 3 3)) 31 3 ((mset (mset M 31 1 1) 31 2 ((mset M 31 1 1) 3 3)) 0 9)) 31 4 ((mset (mset (mset M 31 1 1) 31 2 ((mset M 31 1 1) 3 3)) 31 3 ((mset (mset M 31 1 1) 31 2 ((mset M 31 1 1) 3 3)) 0 9)) 7 4)) 31 5 ((mset (mset (mset (mset M 31 1 1) 31 2 ((mset M 31 1 1) 3 3)) 31 3 ((mset (mset M 31 1 1) 31 2 ((mset M 31 1 1) 3 3)) 0 9)) 31 4 ((mset (mset (mset M 31 1 1) 31 2 ((mset M 31 1 1) 3 3)) 31 3 ((mset (mset M 31 1 1) 31 2 ((mset M 31 1 1) 3 3)) 0 9)) 7 4)) 0 10)) 31 6 ((mset (mset (mset (mset (mset M 31 1 1) 31 2 ((mset M 31 1 1) 3 3)) 31 3 ((mset (mset M 31 1 1) 31 2 ((mset M 31 1 1) 3 3)) 0 9)) 31 4 ((mset (mset (mset M 31 1 1) 31 2 ((mset M 31 1 1) 3 3)) 31 3 ((mset (mset M 31 1 1) 31 2 ((mset M 31 1 1) 3 3)) 0 9)) 7 4)) 31 5 ((mset (mset (mset (mset M 31 1 1) 31 2 ((mset M 31 1 1) 3 3)) 31 3 ((mset (mset M 31 1 1) 31 2 ((mset M 31 1 1) 3 3)) 0 9)) 31 4 ((mset (mset (mset M 31 1 1) 31 2 ((mset M 31 1 1) 3 3)) 31 3 ((mset (mset M 31 1 1) 31 2 ((mset M 31 1 1) 3 3)) 0 9)) 7 4)) 0 10)) 0 11)) 5 32 0 0 10) 3 3, (mcpy (mset (mset (mset (mset (mset (mset M 31 1 1) 31 2 ((mset M 31 1 1) 3 3)) 31 3 ((mset (mset M 31 1 1) 31 2 ((mset M 31 1 1) 3 3)) 0 9)) 31 4 ((mset (mset (mset M 31 1 1) 31 2 ((mset M 31 1 1) 3 3)) 31 3 ((mset (mset M 31 1 1) 31 2 ((mset M 31 1 1) 3 3)) 0 9)) 7 4)) 31 5 ((mset (mset (mset (mset M 31 1 1) 31 2 ((mset M 31 1 1) 3 3)) 31 3 ((mset (mset M 31 1 1) 31 2 ((mset M 31 1 1) 3 3)) 0 9)) 31 4 ((mset (mset (mset M 31 1 1) 31 2 ((mset M 31 1 1) 3 3)) 31 3 ((mset (mset M 31 1 1) 31 2 ((mset M 31 1 1) 3 3)) 0 9)) 7 4)) 0 10)) 31 6 ((mset (mset (mset (mset (mset M 31 1 1) 31 2 ((mset M 31 1 1) 3 3)) 31 3 ((mset (mset M 31 1 1) 31 2 ((mset M 31 1 1) 3 3)) 0 9)) 31 4 ((mset (mset (mset M 31 1 1) 31 2 ((mset M 31 1 1) 3 3)) 31 3 ((mset (mset M 31 1 1) 31 2 ((mset M 31 1 1) 3 3)) 0 9)) 7 4)) 31 5 ((mset (mset (mset (mset M 31 1 1) 31 2 ((mset M 31 1 1) 3 3)) 31 3 ((mset (mset M 31 1 1) 31 2 ((mset M 31 1 1) 3 3)) 0 9)) 31 4 ((mset (mset (mset M 31 1 1) 31 2 ((mset M 31 1 1) 3 3)) 31 3 ((mset (mset M 31 1 1) 31 2 ((mset M 31 1 1) 3 3)) 0 9)) 7 4)) 0 10)) 0 11)) 5 32 0 0 10))
set_option maxHeartbeats 4000000 in
theorem t_X9_image (l : Launch) (g : GG) (ad : Nat → Nat) (S : SW) (M : Mem) (hS : q_ag 0 38 ad S) {r : Int} {M' : Mem} (H : f_X9_image M = some (r, M')) : CT l g MX9_image 1 0 0 S M [.inr (.inr (some (ad 0)))] (q_ex S (some (.inl r)) M') := by
  unfold f_X9_image at H
  refine CT_of (ls0 := [some (.inr (.inr (some (ad 0))))]) (by decide +kernel) (Nat.le_of_ble_eq_true rfl) rfl ?_
  refine R_aload_n (i := 0) (dX9_image 0 rfl) rfl rfl ?_
  refine R_getR cgX9 0 (cl0 hS) 6 (Nat.le_of_ble_eq_true rfl) rfl (Or.inl tb_559) (dX9_image 1 rfl) ?_
  refine R_iconst (dX9_image 2 rfl) rfl ?_
  refine R_putI cgX2 31 (cl31 hS) 1 (Nat.le_of_ble_eq_true rfl) rfl (by decide +kernel) (by decide +kernel) rfl (Or.inr ⟨_, tb_516⟩) (dX9_image 3 rfl) ?_
  refine R_aload_n (i := 0) (dX9_image 4 rfl) rfl rfl ?_
  refine R_getR cgX9 0 (cl0 hS) 6 (Nat.le_of_ble_eq_true rfl) rfl (Or.inl tb_559) (dX9_image 5 rfl) ?_
  refine R_aload_n (i := 0) (dX9_image 6 rfl) rfl rfl ?_
  refine R_getR cgX9 0 (cl0 hS) 1 (Nat.le_of_ble_eq_true rfl) rfl (Or.inl tb_554) (dX9_image 7 rfl) ?_
  refine R_getI cgX3 3 (cl3 hS) 3 (Nat.le_of_ble_eq_true rfl) rfl (Or.inr ⟨_, tb_140⟩) (dX9_image 8 rfl) ?_
  refine R_putI cgX2 31 (cl31 hS) 2 (Nat.le_of_ble_eq_true rfl) rfl rfl rfl rfl (Or.inr ⟨_, tb_517⟩) (dX9_image 9 rfl) ?_
  refine R_aload_n (i := 0) (dX9_image 10 rfl) rfl rfl ?_
  refine R_getR cgX9 0 (cl0 hS) 6 (Nat.le_of_ble_eq_true rfl) rfl (Or.inl tb_559) (dX9_image 11 rfl) ?_
  refine R_aload_n (i := 0) (dX9_image 12 rfl) rfl rfl ?_
  refine R_getI cgX9 0 (cl0 hS) 9 (Nat.le_of_ble_eq_true rfl) rfl (Or.inl tb_562) (dX9_image 13 rfl) ?_
  refine R_putI cgX2 31 (cl31 hS) 3 (Nat.le_of_ble_eq_true rfl) rfl rfl rfl rfl (Or.inr ⟨_, tb_518⟩) (dX9_image 14 rfl) ?_
  refine R_aload_n (i := 0) (dX9_image 15 rfl) rfl rfl ?_
  refine R_getR cgX9 0 (cl0 hS) 6 (Nat.le_of_ble_eq_true rfl) rfl (Or.inl tb_559) (dX9_image 16 rfl) ?_
  refine R_aload_n (i := 0) (dX9_image 17 rfl) rfl rfl ?_
  refine R_getR cgX9 0 (cl0 hS) 2 (Nat.le_of_ble_eq_true rfl) rfl (Or.inl tb_555) (dX9_image 18 rfl) ?_
  refine R_getI cgX0 7 (cl7 hS) 4 (Nat.le_of_ble_eq_true rfl) rfl (Or.inr ⟨_, tb_168⟩) (dX9_image 19 rfl) ?_
  refine R_putI cgX2 31 (cl31 hS) 4 (Nat.le_of_ble_eq_true rfl) rfl rfl rfl rfl (Or.inr ⟨_, tb_519⟩) (dX9_image 20 rfl) ?_
  refine R_aload_n (i := 0) (dX9_image 21 rfl) rfl rfl ?_
  refine R_getR cgX9 0 (cl0 hS) 6 (Nat.le_of_ble_eq_true rfl) rfl (Or.inl tb_559) (dX9_image 22 rfl) ?_
  refine R_aload_n (i := 0) (dX9_image 23 rfl) rfl rfl ?_
  refine R_getI cgX9 0 (cl0 hS) 10 (Nat.le_of_ble_eq_true rfl) rfl (Or.inl tb_563) (dX9_image 24 rfl) ?_
  refine R_putI cgX2 31 (cl31 hS) 5 (Nat.le_of_ble_eq_true rfl) rfl rfl rfl rfl (Or.inr ⟨_, tb_520⟩) (dX9_image 25 rfl) ?_
  refine R_aload_n (i := 0) (dX9_image 26 rfl) rfl rfl ?_
  refine R_getR cgX9 0 (cl0 hS) 6 (Nat.le_of_ble_eq_true rfl) rfl (Or.inl tb_559) (dX9_image 27 rfl) ?_
  refine R_aload_n (i := 0) (dX9_image 28 rfl) rfl rfl ?_
  refine R_getI cgX9 0 (cl0 hS) 11 (Nat.le_of_ble_eq_true rfl) rfl (Or.inl tb_564) (dX9_image 29 rfl) ?_
  refine R_putI cgX2 31 (cl31 hS) 6 (Nat.le_of_ble_eq_true rfl) rfl rfl rfl rfl (Or.inr ⟨_, tb_521⟩) (dX9_image 30 rfl) ?_
  refine R_aload_n (i := 0) (dX9_image 31 rfl) rfl rfl ?_
  refine R_getR cgX9 0 (cl0 hS) 1 (Nat.le_of_ble_eq_true rfl) rfl (Or.inl tb_554) (dX9_image 32 rfl) ?_
  refine R_getR cgX3 3 (cl3 hS) 1 (Nat.le_of_ble_eq_true rfl) rfl (Or.inr ⟨_, tb_138⟩) (dX9_image 33 rfl) ?_
  refine R_iconst (dX9_image 34 rfl) rfl ?_
  refine R_aload_n (i := 0) (dX9_image 35 rfl) rfl rfl ?_
  refine R_getR cgX9 0 (cl0 hS) 6 (Nat.le_of_ble_eq_true rfl) rfl (Or.inl tb_559) (dX9_image 36 rfl) ?_
  refine R_getR cgX2 31 (cl31 hS) 0 (Nat.le_of_ble_eq_true rfl) rfl (Or.inr ⟨_, tb_515⟩) (dX9_image 37 rfl) ?_
  refine R_iconst (dX9_image 38 rfl) rfl ?_
  refine R_bipush (dX9_image 39 rfl) rfl rfl ?_
  refine R_copy 5 32 (cl5 hS) (cl32 hS) (by decide) (by decide) (by decide) (by decide) (by decide) tb_1032 tb_898 tb_897 tb_88 (Nat.le_of_ble_eq_true rfl) (Nat.le_of_ble_eq_true rfl) (Nat.le_of_ble_eq_true rfl) (dX9_image 40 rfl) ?_
  refine R_aload_n (i := 0) (dX9_image 41 rfl) rfl rfl ?_
  refine R_getR cgX9 0 (cl0 hS) 1 (Nat.le_of_ble_eq_true rfl) rfl (Or.inl tb_554) (dX9_image 42 rfl) ?_
  refine R_getI cgX3 3 (cl3 hS) 3 (Nat.le_of_ble_eq_true rfl) rfl (Or.inr ⟨_, tb_140⟩) (dX9_image 43 rfl) ?_
  exact R_iret rfl rfl (Nat.zero_le _) (Nat.zero_le _) (dX9_image 44 rfl) ⟨congrArg (fun z => some (Sum.inl z)) (Prod.mk.inj (Option.some.inj H)).1, rfl, (Prod.mk.inj (Option.some.inj H)).2⟩
def f_X9_back (M : Mem) : Option (Int × Mem) :=
  if M 31 1 = 0 then
    some ((-3), M)
  else
    some ((mset (mcpy (mset (mset (mset (mset (mset M 3 3 (M 31 2)) 0 9 ((mset M 3 3 (M 31 2)) 31 3)) 7 4 ((mset (mset M 3 3 (M 31 2)) 0 9 ((mset M 3 3 (M 31 2)) 31 3)) 31 4)) 0 10 ((mset (mset (mset M 3 3 (M 31 2)) 0 9 ((mset M 3 3 (M 31 2)) 31 3)) 7 4 ((mset (mset M 3 3 (M 31 2)) 0 9 ((mset M 3 3 (M 31 2)) 31 3)) 31 4)) 31 5)) 0 11 ((mset (mset (mset (mset M 3 3 (M 31 2)) 0 9 ((mset M 3 3 (M 31 2)) 31 3)) 7 4 ((mset (mset M 3 3 (M 31 2)) 0 9 ((mset M 3 3 (M 31 2)) 31 3)) 31 4)) 0 10 ((mset (mset (mset M 3 3 (M 31 2)) 0 9 ((mset M 3 3 (M 31 2)) 31 3)) 7 4 ((mset (mset M 3 3 (M 31 2)) 0 9 ((mset M 3 3 (M 31 2)) 31 3)) 31 4)) 31 5)) 31 6)) 32 5 0 0 10) 0 12 1) 3 3, (mset (mcpy (mset (mset (mset (mset (mset M 3 3 (M 31 2)) 0 9 ((mset M 3 3 (M 31 2)) 31 3)) 7 4 ((mset (mset M 3 3 (M 31 2)) 0 9 ((mset M 3 3 (M 31 2)) 31 3)) 31 4)) 0 10 ((mset (mset (mset M 3 3 (M 31 2)) 0 9 ((mset M 3 3 (M 31 2)) 31 3)) 7 4 ((mset (mset M 3 3 (M 31 2)) 0 9 ((mset M 3 3 (M 31 2)) 31 3)) 31 4)) 31 5)) 0 11 ((mset (mset (mset (mset M 3 3 (M 31 2)) 0 9 ((mset M 3 3 (M 31 2)) 31 3)) 7 4 ((mset (mset M 3 3 (M 31 2)) 0 9 ((mset M 3 3 (M 31 2)) 31 3)) 31 4)) 0 10 ((mset (mset (mset M 3 3 (M 31 2)) 0 9 ((mset M 3 3 (M 31 2)) 31 3)) 7 4 ((mset (mset M 3 3 (M 31 2)) 0 9 ((mset M 3 3 (M 31 2)) 31 3)) 31 4)) 31 5)) 31 6)) 32 5 0 0 10) 0 12 1))
set_option maxHeartbeats 4000000 in
theorem t_X9_back (l : Launch) (g : GG) (ad : Nat → Nat) (S : SW) (M : Mem) (hS : q_ag 0 38 ad S) {r : Int} {M' : Mem} (H : f_X9_back M = some (r, M')) : CT l g MX9_back 1 0 0 S M [.inr (.inr (some (ad 0)))] (q_ex S (some (.inl r)) M') := by
  unfold f_X9_back at H
  refine CT_of (ls0 := [some (.inr (.inr (some (ad 0))))]) (by decide +kernel) (Nat.le_of_ble_eq_true rfl) rfl ?_
  refine R_aload_n (i := 0) (dX9_back 0 rfl) rfl rfl ?_
  refine R_getR cgX9 0 (cl0 hS) 6 (Nat.le_of_ble_eq_true rfl) rfl (Or.inl tb_559) (dX9_back 1 rfl) ?_
  refine R_getI cgX2 31 (cl31 hS) 1 (Nat.le_of_ble_eq_true rfl) rfl (Or.inr ⟨_, tb_516⟩) (dX9_back 2 rfl) ?_
  refine R_if_ne (tgt := 13) (dX9_back 3 rfl) (by decide) (fun hc => ?_) (fun hc => ?_)
  · have H := ite_F H hc
    refine R_aload_n (i := 0) (dX9_back 6 rfl) rfl rfl ?_
    refine R_getR cgX9 0 (cl0 hS) 1 (Nat.le_of_ble_eq_true rfl) rfl (Or.inl tb_554) (dX9_back 7 rfl) ?_
    refine R_aload_n (i := 0) (dX9_back 8 rfl) rfl rfl ?_
    refine R_getR cgX9 0 (cl0 hS) 6 (Nat.le_of_ble_eq_true rfl) rfl (Or.inl tb_559) (dX9_back 9 rfl) ?_
    refine R_getI cgX2 31 (cl31 hS) 2 (Nat.le_of_ble_eq_true rfl) rfl (Or.inr ⟨_, tb_517⟩) (dX9_back 10 rfl) ?_
    refine R_putI cgX3 3 (cl3 hS) 3 (Nat.le_of_ble_eq_true rfl) rfl rfl rfl rfl (Or.inr ⟨_, tb_140⟩) (dX9_back 11 rfl) ?_
    refine R_aload_n (i := 0) (dX9_back 12 rfl) rfl rfl ?_
    refine R_aload_n (i := 0) (dX9_back 13 rfl) rfl rfl ?_
    refine R_getR cgX9 0 (cl0 hS) 6 (Nat.le_of_ble_eq_true rfl) rfl (Or.inl tb_559) (dX9_back 14 rfl) ?_
    refine R_getI cgX2 31 (cl31 hS) 3 (Nat.le_of_ble_eq_true rfl) rfl (Or.inr ⟨_, tb_518⟩) (dX9_back 15 rfl) ?_
    refine R_putI cgX9 0 (cl0 hS) 9 (Nat.le_of_ble_eq_true rfl) rfl rfl rfl rfl (Or.inl tb_562) (dX9_back 16 rfl) ?_
    refine R_aload_n (i := 0) (dX9_back 17 rfl) rfl rfl ?_
    refine R_getR cgX9 0 (cl0 hS) 2 (Nat.le_of_ble_eq_true rfl) rfl (Or.inl tb_555) (dX9_back 18 rfl) ?_
    refine R_aload_n (i := 0) (dX9_back 19 rfl) rfl rfl ?_
    refine R_getR cgX9 0 (cl0 hS) 6 (Nat.le_of_ble_eq_true rfl) rfl (Or.inl tb_559) (dX9_back 20 rfl) ?_
    refine R_getI cgX2 31 (cl31 hS) 4 (Nat.le_of_ble_eq_true rfl) rfl (Or.inr ⟨_, tb_519⟩) (dX9_back 21 rfl) ?_
    refine R_putI cgX0 7 (cl7 hS) 4 (Nat.le_of_ble_eq_true rfl) rfl rfl rfl rfl (Or.inr ⟨_, tb_168⟩) (dX9_back 22 rfl) ?_
    refine R_aload_n (i := 0) (dX9_back 23 rfl) rfl rfl ?_
    refine R_aload_n (i := 0) (dX9_back 24 rfl) rfl rfl ?_
    refine R_getR cgX9 0 (cl0 hS) 6 (Nat.le_of_ble_eq_true rfl) rfl (Or.inl tb_559) (dX9_back 25 rfl) ?_
    refine R_getI cgX2 31 (cl31 hS) 5 (Nat.le_of_ble_eq_true rfl) rfl (Or.inr ⟨_, tb_520⟩) (dX9_back 26 rfl) ?_
    refine R_putI cgX9 0 (cl0 hS) 10 (Nat.le_of_ble_eq_true rfl) rfl rfl rfl rfl (Or.inl tb_563) (dX9_back 27 rfl) ?_
    refine R_aload_n (i := 0) (dX9_back 28 rfl) rfl rfl ?_
    refine R_aload_n (i := 0) (dX9_back 29 rfl) rfl rfl ?_
    refine R_getR cgX9 0 (cl0 hS) 6 (Nat.le_of_ble_eq_true rfl) rfl (Or.inl tb_559) (dX9_back 30 rfl) ?_
    refine R_getI cgX2 31 (cl31 hS) 6 (Nat.le_of_ble_eq_true rfl) rfl (Or.inr ⟨_, tb_521⟩) (dX9_back 31 rfl) ?_
    refine R_putI cgX9 0 (cl0 hS) 11 (Nat.le_of_ble_eq_true rfl) rfl rfl rfl rfl (Or.inl tb_564) (dX9_back 32 rfl) ?_
    refine R_aload_n (i := 0) (dX9_back 33 rfl) rfl rfl ?_
    refine R_getR cgX9 0 (cl0 hS) 6 (Nat.le_of_ble_eq_true rfl) rfl (Or.inl tb_559) (dX9_back 34 rfl) ?_
    refine R_getR cgX2 31 (cl31 hS) 0 (Nat.le_of_ble_eq_true rfl) rfl (Or.inr ⟨_, tb_515⟩) (dX9_back 35 rfl) ?_
    refine R_iconst (dX9_back 36 rfl) rfl ?_
    refine R_aload_n (i := 0) (dX9_back 37 rfl) rfl rfl ?_
    refine R_getR cgX9 0 (cl0 hS) 1 (Nat.le_of_ble_eq_true rfl) rfl (Or.inl tb_554) (dX9_back 38 rfl) ?_
    refine R_getR cgX3 3 (cl3 hS) 1 (Nat.le_of_ble_eq_true rfl) rfl (Or.inr ⟨_, tb_138⟩) (dX9_back 39 rfl) ?_
    refine R_iconst (dX9_back 40 rfl) rfl ?_
    refine R_bipush (dX9_back 41 rfl) rfl rfl ?_
    refine R_copy 32 5 (cl32 hS) (cl5 hS) (by decide) (by decide) (by decide) (by decide) (by decide) tb_1032 tb_898 tb_897 tb_88 (Nat.le_of_ble_eq_true rfl) (Nat.le_of_ble_eq_true rfl) (Nat.le_of_ble_eq_true rfl) (dX9_back 42 rfl) ?_
    refine R_aload_n (i := 0) (dX9_back 43 rfl) rfl rfl ?_
    refine R_iconst (dX9_back 44 rfl) rfl ?_
    refine R_putI cgX9 0 (cl0 hS) 12 (Nat.le_of_ble_eq_true rfl) rfl (by decide +kernel) (by decide +kernel) rfl (Or.inl tb_565) (dX9_back 45 rfl) ?_
    refine R_aload_n (i := 0) (dX9_back 46 rfl) rfl rfl ?_
    refine R_getR cgX9 0 (cl0 hS) 1 (Nat.le_of_ble_eq_true rfl) rfl (Or.inl tb_554) (dX9_back 47 rfl) ?_
    refine R_getI cgX3 3 (cl3 hS) 3 (Nat.le_of_ble_eq_true rfl) rfl (Or.inr ⟨_, tb_140⟩) (dX9_back 48 rfl) ?_
    exact R_iret rfl rfl (Nat.zero_le _) (Nat.zero_le _) (dX9_back 49 rfl) ⟨congrArg (fun z => some (Sum.inl z)) (Prod.mk.inj (Option.some.inj H)).1, rfl, (Prod.mk.inj (Option.some.inj H)).2⟩
  · have H := ite_T H hc
    refine R_bipush (dX9_back 4 rfl) rfl rfl ?_
    exact R_iret rfl rfl (Nat.zero_le _) (Nat.zero_le _) (dX9_back 5 rfl) ⟨congrArg (fun z => some (Sum.inl z)) (Prod.mk.inj (Option.some.inj H)).1, rfl, (Prod.mk.inj (Option.some.inj H)).2⟩
def f_X9_sheet (x1 : Int) (x2 : Int) (x3 : Int) (M : Mem) : Option (Int × Mem) :=
  if f_X9_isSheet x1 = 0 then
    some ((-2), M)
  else
    if f_X9_within x2 (-1) 2 = 0 then
      some ((-2), M)
    else
      if x2 = (-1) then
        ob (f_X4_become x1 (-1) 0 M) fun r302 M303 =>
        some (1, M303)
      else
        if 40 < x3 then
          some ((-2), M)
        else
          if x3 < 0 then
            some ((-14), M)
          else
            ob (f_X4_become x1 x2 x3 M) fun r300 M301 =>
            some (1, M301)
set_option maxHeartbeats 4000000 in
theorem t_X9_sheet (l : Launch) (g : GG) (ad : Nat → Nat) (S : SW) (M : Mem) (hS : q_ag 0 38 ad S) (x1 : Int) (x2 : Int) (x3 : Int) {r : Int} {M' : Mem} (H : f_X9_sheet x1 x2 x3 M = some (r, M')) : CT l g MX9_sheet 3 0 0 S M [.inr (.inr (some (ad 0))), .inl x1, .inl x2, .inl x3] (q_ex S (some (.inl r)) M') := by
  unfold f_X9_sheet at H
  refine CT_of (ls0 := [some (.inr (.inr (some (ad 0)))), some (.inl x1), some (.inl x2), some (.inl x3)]) (by decide +kernel) (Nat.le_of_ble_eq_true rfl) rfl ?_
  refine R_iload_n (i := 1) (dX9_sheet 0 rfl) rfl rfl ?_
  refine R_cS (st' := [.inl (f_X9_isSheet x1)]) [.inl x1] [] (t_X9_isSheet l g ad S _ hS   x1) msX9_isSheet (Or.inl tb_968) ⟨Nat.le_of_ble_eq_true rfl, Nat.le_of_ble_eq_true rfl⟩ (Nat.zero_le _) (Nat.zero_le _) rfl rfl (Nat.le_of_ble_eq_true rfl) rfl (dX9_sheet 1 rfl) ?_
  refine R_if_eq (tgt := 16) (dX9_sheet 2 rfl) (by decide) (fun hc => ?_) (fun hc => ?_)
  · have H := ite_T H hc
    refine R_bipush (dX9_sheet 8 rfl) rfl rfl ?_
    exact R_iret rfl rfl (Nat.zero_le _) (Nat.zero_le _) (dX9_sheet 9 rfl) ⟨congrArg (fun z => some (Sum.inl z)) (Prod.mk.inj (Option.some.inj H)).1, rfl, (Prod.mk.inj (Option.some.inj H)).2⟩
  · have H := ite_F H hc
    refine R_iload_n (i := 2) (dX9_sheet 3 rfl) rfl rfl ?_
    refine R_iconst (dX9_sheet 4 rfl) rfl ?_
    refine R_iconst (dX9_sheet 5 rfl) rfl ?_
    refine R_cS (st' := [.inl (f_X9_within x2 (-1) 2)]) [.inl x2, .inl (-1), .inl 2] [] (t_X9_within l g S _   x2 (-1) 2) msX9_within (Or.inl tb_603) ⟨Nat.le_of_ble_eq_true rfl, Nat.le_of_ble_eq_true rfl⟩ (Nat.zero_le _) (Nat.zero_le _) rfl rfl (Nat.le_of_ble_eq_true rfl) rfl (dX9_sheet 6 rfl) ?_
    refine R_if_ne (tgt := 19) (dX9_sheet 7 rfl) (by decide) (fun hc => ?_) (fun hc => ?_)
    · have H := ite_F H hc
      refine R_iload_n (i := 2) (dX9_sheet 10 rfl) rfl rfl ?_
      refine R_iconst (dX9_sheet 11 rfl) rfl ?_
      refine R_icmp_ne (tgt := 36) (dX9_sheet 12 rfl) (by decide) (fun hc => ?_) (fun hc => ?_)
      · have H := ite_F H hc
        refine R_iload_n (i := 3) (dX9_sheet 21 rfl) rfl rfl ?_
        refine R_bipush (dX9_sheet 22 rfl) rfl rfl ?_
        refine R_icmp_le (tgt := 45) (dX9_sheet 23 rfl) (by decide) (fun hc => ?_) (fun hc => ?_)
        · have H := ite_F H hc
          refine R_iload_n (i := 3) (dX9_sheet 26 rfl) rfl rfl ?_
          refine R_if_ge (tgt := 52) (dX9_sheet 27 rfl) (by decide) (fun hc => ?_) (fun hc => ?_)
          · have H := ite_F H hc
            refine R_aload_n (i := 0) (dX9_sheet 30 rfl) rfl rfl ?_
            refine R_getR cgX9 0 (cl0 hS) 7 (Nat.le_of_ble_eq_true rfl) rfl (Or.inl tb_560) (dX9_sheet 31 rfl) ?_
            refine R_iload_n (i := 1) (dX9_sheet 32 rfl) rfl rfl ?_
            refine R_iload_n (i := 2) (dX9_sheet 33 rfl) rfl rfl ?_
            refine R_iload_n (i := 3) (dX9_sheet 34 rfl) rfl rfl ?_
            obtain ⟨r300, M301, hr, H⟩ := ob_E H
            refine R_cV (st' := []) [.inl x1, .inl x2, .inl x3] [] (t_X4_become l g ad S _ hS   x1 x2 x3 hr) msX4_become (Or.inl tb_996) (Or.inl ⟨33, 4, _, _, _, (cl33 hS), rfl⟩) ⟨Nat.le_of_ble_eq_true rfl, Nat.le_of_ble_eq_true rfl⟩ (Nat.zero_le _) (Nat.zero_le _) rfl rfl (Nat.le_of_ble_eq_true rfl) rfl (dX9_sheet 35 rfl) ?_
            refine R_iconst (dX9_sheet 36 rfl) rfl ?_
            exact R_iret rfl rfl (Nat.zero_le _) (Nat.zero_le _) (dX9_sheet 37 rfl) ⟨congrArg (fun z => some (Sum.inl z)) (Prod.mk.inj (Option.some.inj H)).1, rfl, (Prod.mk.inj (Option.some.inj H)).2⟩
          · have H := ite_T H hc
            refine R_bipush (dX9_sheet 28 rfl) rfl rfl ?_
            exact R_iret rfl rfl (Nat.zero_le _) (Nat.zero_le _) (dX9_sheet 29 rfl) ⟨congrArg (fun z => some (Sum.inl z)) (Prod.mk.inj (Option.some.inj H)).1, rfl, (Prod.mk.inj (Option.some.inj H)).2⟩
        · have H := ite_T H hc
          refine R_bipush (dX9_sheet 24 rfl) rfl rfl ?_
          exact R_iret rfl rfl (Nat.zero_le _) (Nat.zero_le _) (dX9_sheet 25 rfl) ⟨congrArg (fun z => some (Sum.inl z)) (Prod.mk.inj (Option.some.inj H)).1, rfl, (Prod.mk.inj (Option.some.inj H)).2⟩
      · have H := ite_T H hc
        refine R_aload_n (i := 0) (dX9_sheet 13 rfl) rfl rfl ?_
        refine R_getR cgX9 0 (cl0 hS) 7 (Nat.le_of_ble_eq_true rfl) rfl (Or.inl tb_560) (dX9_sheet 14 rfl) ?_
        refine R_iload_n (i := 1) (dX9_sheet 15 rfl) rfl rfl ?_
        refine R_iconst (dX9_sheet 16 rfl) rfl ?_
        refine R_iconst (dX9_sheet 17 rfl) rfl ?_
        obtain ⟨r302, M303, hr, H⟩ := ob_E H
        refine R_cV (st' := []) [.inl x1, .inl (-1), .inl 0] [] (t_X4_become l g ad S _ hS   x1 (-1) 0 hr) msX4_become (Or.inl tb_996) (Or.inl ⟨33, 4, _, _, _, (cl33 hS), rfl⟩) ⟨Nat.le_of_ble_eq_true rfl, Nat.le_of_ble_eq_true rfl⟩ (Nat.zero_le _) (Nat.zero_le _) rfl rfl (Nat.le_of_ble_eq_true rfl) rfl (dX9_sheet 18 rfl) ?_
        refine R_iconst (dX9_sheet 19 rfl) rfl ?_
        exact R_iret rfl rfl (Nat.zero_le _) (Nat.zero_le _) (dX9_sheet 20 rfl) ⟨congrArg (fun z => some (Sum.inl z)) (Prod.mk.inj (Option.some.inj H)).1, rfl, (Prod.mk.inj (Option.some.inj H)).2⟩
    · have H := ite_T H hc
      refine R_bipush (dX9_sheet 8 rfl) rfl rfl ?_
      exact R_iret rfl rfl (Nat.zero_le _) (Nat.zero_le _) (dX9_sheet 9 rfl) ⟨congrArg (fun z => some (Sum.inl z)) (Prod.mk.inj (Option.some.inj H)).1, rfl, (Prod.mk.inj (Option.some.inj H)).2⟩
