def f_X7_init_tail_L15 : Nat → Int → Mem → Option (Int × Mem)
  | 0, _, _ => none
  | n + 1, x1, M =>
    if x1 < 720 then
      ob (f_X7_spell x1 M) fun r573 M574 =>
      f_X7_init_tail_L15 n (w32 (x1 + 1)) M574
    else
      some (0, M)
set_option maxHeartbeats 4000000 in
theorem t_X7_init_tail_L15 (l : Launch) (g : GG) (ad : Nat → Nat) (S : SW) (hS : q_ag 1 3 ad S) {r : Int} {M' : Mem} {Post : PP} (hP : Post none S M') : ∀ (n : Nat) (x1 : Int) (M : Mem), f_X7_init_tail_L15 n x1 M = some (r, M') → RW l g MX7_init (q_rm 4 1 4320) 1 4320 Post 15 S M 1 4320 [some (.inr (.inr (some (ad 1)))), some (.inl x1)] [] := by
  intro n
  induction n with
  | zero => intro x1 M H; exact absurd H (by simp [f_X7_init_tail_L15])
  | succ n ih =>
    intro x1 M H
    rw [f_X7_init_tail_L15] at H
    refine R_iload_n (i := 1) (dX7_init 8 rfl) rfl rfl ?_
    refine R_sipush (dX7_init 9 rfl) rfl rfl ?_
    refine R_icmp_ge (tgt := 33) (dX7_init 10 rfl) (by decide) (fun hc => ?_) (fun hc => ?_)
    · have H := ite_F H hc
      exact R_vret rfl (Nat.le_of_ble_eq_true rfl) (Nat.le_of_ble_eq_true rfl) (dX7_init 16 rfl) (by obtain ⟨e1, e2⟩ := Prod.mk.inj (Option.some.inj H); subst e1; subst e2; exact hP)
    · have H := ite_T H hc
      refine R_aload_n (i := 0) (dX7_init 11 rfl) rfl rfl ?_
      refine R_iload_n (i := 1) (dX7_init 12 rfl) rfl rfl ?_
      obtain ⟨r573, M574, hr, H⟩ := ob_E H
      refine R_cV (st' := []) [.inl x1] [] (t_X7_spell l g ad S _ hS   x1 hr) msX7_spell (Or.inl tb_103) (Or.inl ⟨1, 7, _, _, _, (cl1 hS), rfl⟩) ⟨Nat.le_of_ble_eq_true rfl, Nat.le_of_ble_eq_true rfl⟩ (Nat.le_of_ble_eq_true rfl) (Nat.le_of_ble_eq_true rfl) rfl rfl (Nat.le_of_ble_eq_true rfl) rfl (dX7_init 13 rfl) ?_
      refine R_iinc (i := 1) (ls' := [some (.inr (.inr (some (ad 1)))), some (.inl (w32 (x1 + 1)))]) (dX7_init 14 rfl) rfl (Nat.le_of_ble_eq_true rfl) rfl rfl ?_
      refine R_goto (tgt := 15) (dX7_init 15 rfl) (by decide) ?_
      exact ih (w32 (x1 + 1)) M574 H
def f_X7_init_tail (M : Mem) : Option (Int × Mem) :=
  f_X7_init_tail_L15
    100000 0 M
set_option maxHeartbeats 8000000 in
theorem tt_X7_init (l : Launch) (g : GG) (ad : Nat → Nat) (S : SW) (M : Mem) (hS : q_ag 1 3 ad S) {r : Int} {M' : Mem} (H : f_X7_init_tail M = some (r, M')) {Post : PP} (hP : Post none S M') : RW l g MX7_init (q_rm 4 1 4320) 1 4320 Post 13 S M 1 4320 [some (.inr (.inr (some (ad 1)))), none] [] := by
  unfold f_X7_init_tail at H
  refine R_iconst (dX7_init 6 rfl) rfl ?_
  refine R_istore_n (i := 1) (ls' := [some (.inr (.inr (some (ad 1)))), some (.inl 0)]) (dX7_init 7 rfl) rfl (Nat.le_of_ble_eq_true rfl) (Nat.le_of_ble_eq_true rfl) rfl rfl ?_
  exact t_X7_init_tail_L15 l g ad S hS  hP 100000 0 M H 
def f_X7_init (M : Mem) : Option (Int × Mem) :=
  f_X7_init_tail (mup M 2 (fun _ => 0))
set_option maxHeartbeats 8000000 in
set_option maxRecDepth 20000 in
theorem t_X7_init (l : Launch) (g : GG) (q0 q1 : Nat) (M : Mem) {r : Int} {M' : Mem} (H : f_X7_init M = some (r, M')) : CT l g MX7_init 4 1 4320 [(q0, .inr (9, [some none, some none, some none, some none, some none, some none, some none, some none, some none, none, none, none, none])), (q1, .inr (7, [some none]))] M [.inr (.inr (some q1))] (fun r2 S2 M2 => r2 = none ∧ M2 = M' ∧ ∃ q2 : Nat, S2 = [(q0, .inr (9, [some none, some none, some none, some none, some none, some none, some none, some none, some none, none, none, none, none])), (q1, .inr (7, [some (some q2)])), (q2, .inl 4320)]) := by
  unfold f_X7_init at H
  refine CT_of (ls0 := [some (.inr (.inr (some q1))), none]) (by decide +kernel) (Nat.le_of_ble_eq_true rfl) rfl ?_
  refine R_aload_n (i := 0) (dX7_init 0 rfl) rfl rfl ?_
  refine R_objInit tb_102 tb_95 tb_96 (Nat.le_of_ble_eq_true rfl) (Nat.le_of_ble_eq_true rfl) (Nat.le_of_ble_eq_true rfl) (dX7_init 1 rfl) ?_
  refine R_aload_n (i := 0) (dX7_init 2 rfl) rfl rfl ?_
  refine R_sipush (dX7_init 3 rfl) rfl rfl ?_
  refine R_newa2 (N := 4320) (S' := fun q2 => [(q0, .inr (9, [some none, some none, some none, some none, some none, some none, some none, some none, some none, none, none, none, none])), (q1, .inr (7, [some none])), (q2, .inl 4320)]) (k' := 1) (n' := 4320) rfl (Nat.le_of_ble_eq_true rfl) rfl rfl (Nat.le_of_ble_eq_true rfl) (Nat.le_of_ble_eq_true rfl) rfl (fun _ => rfl) (dX7_init 4 rfl) (fun q2 => ?_)
  refine R_putR (S' := [(q0, .inr (9, [some none, some none, some none, some none, some none, some none, some none, some none, some none, none, none, none, none])), (q1, .inr (7, [some (some q2)])), (q2, .inl 4320)]) cgX7 1 rfl 0 (Nat.le_of_ble_eq_true rfl) (Nat.le_of_ble_eq_true rfl) rfl rfl rfl rfl rfl tb_125 (dX7_init 5 rfl) rfl ?_
  refine tt_X7_init l g (fun k => ([q0, q1, q2] : List Nat).getD k 0) [(q0, .inr (9, [some none, some none, some none, some none, some none, some none, some none, some none, some none, none, none, none, none])), (q1, .inr (7, [some (some q2)])), (q2, .inl 4320)] _ (by intro k h1 h2; rcases (show k = 1 ∨ k = 2 by omega) with rfl | rfl <;> rfl) H ?_
  exact ⟨rfl, rfl, q2, rfl⟩
def f_X3_init (M : Mem) : Option (Int × Mem) :=
  some (0, (mup (mup (mup M 4 (fun _ => 0)) 5 (fun _ => 0)) 6 (fun _ => 0)))
set_option maxHeartbeats 8000000 in
set_option maxRecDepth 20000 in
theorem t_X3_init (l : Launch) (g : GG) (q0 q1 q2 q3 : Nat) (M : Mem) {r : Int} {M' : Mem} (H : f_X3_init M = some (r, M')) : CT l g MX3_init 1 3 7220 [(q0, .inr (9, [some (some q1), some none, some none, some none, some none, some none, some none, some none, some none, none, none, none, none])), (q1, .inr (7, [some (some q2)])), (q2, .inl 4320), (q3, .inr (3, [some none, some none, some none, none]))] M [.inr (.inr (some q3))] (fun r2 S2 M2 => r2 = none ∧ M2 = M' ∧ ∃ q4 : Nat, ∃ q5 : Nat, ∃ q6 : Nat, S2 = [(q0, .inr (9, [some (some q1), some none, some none, some none, some none, some none, some none, some none, some none, none, none, none, none])), (q1, .inr (7, [some (some q2)])), (q2, .inl 4320), (q3, .inr (3, [some (some q4), some (some q5), some (some q6), none])), (q4, .inl 10), (q5, .inl 10), (q6, .inl 7200)]) := by
  unfold f_X3_init at H
  refine CT_of (ls0 := [some (.inr (.inr (some q3)))]) (by decide +kernel) (Nat.le_of_ble_eq_true rfl) rfl ?_
  refine R_aload_n (i := 0) (dX3_init 0 rfl) rfl rfl ?_
  refine R_objInit tb_135 tb_95 tb_96 (Nat.le_of_ble_eq_true rfl) (Nat.le_of_ble_eq_true rfl) (Nat.le_of_ble_eq_true rfl) (dX3_init 1 rfl) ?_
  refine R_aload_n (i := 0) (dX3_init 2 rfl) rfl rfl ?_
  refine R_bipush (dX3_init 3 rfl) rfl rfl ?_
  refine R_newa2 (N := 10) (S' := fun q4 => [(q0, .inr (9, [some (some q1), some none, some none, some none, some none, some none, some none, some none, some none, none, none, none, none])), (q1, .inr (7, [some (some q2)])), (q2, .inl 4320), (q3, .inr (3, [some none, some none, some none, none])), (q4, .inl 10)]) (k' := 1) (n' := 10) rfl (Nat.le_of_ble_eq_true rfl) rfl rfl (Nat.le_of_ble_eq_true rfl) (Nat.le_of_ble_eq_true rfl) rfl (fun _ => rfl) (dX3_init 4 rfl) (fun q4 => ?_)
  refine R_putR (S' := [(q0, .inr (9, [some (some q1), some none, some none, some none, some none, some none, some none, some none, some none, none, none, none, none])), (q1, .inr (7, [some (some q2)])), (q2, .inl 4320), (q3, .inr (3, [some (some q4), some none, some none, none])), (q4, .inl 10)]) cgX3 3 rfl 0 (Nat.le_of_ble_eq_true rfl) (Nat.le_of_ble_eq_true rfl) rfl rfl rfl rfl rfl tb_136 (dX3_init 5 rfl) rfl ?_
  refine R_aload_n (i := 0) (dX3_init 6 rfl) rfl rfl ?_
  refine R_bipush (dX3_init 7 rfl) rfl rfl ?_
  refine R_newa2 (N := 10) (S' := fun q5 => [(q0, .inr (9, [some (some q1), some none, some none, some none, some none, some none, some none, some none, some none, none, none, none, none])), (q1, .inr (7, [some (some q2)])), (q2, .inl 4320), (q3, .inr (3, [some (some q4), some none, some none, none])), (q4, .inl 10), (q5, .inl 10)]) (k' := 2) (n' := 20) rfl (Nat.le_of_ble_eq_true rfl) rfl rfl (Nat.le_of_ble_eq_true rfl) (Nat.le_of_ble_eq_true rfl) rfl (fun _ => rfl) (dX3_init 8 rfl) (fun q5 => ?_)
  refine R_putR (S' := [(q0, .inr (9, [some (some q1), some none, some none, some none, some none, some none, some none, some none, some none, none, none, none, none])), (q1, .inr (7, [some (some q2)])), (q2, .inl 4320), (q3, .inr (3, [some (some q4), some (some q5), some none, none])), (q4, .inl 10), (q5, .inl 10)]) cgX3 3 rfl 1 (Nat.le_of_ble_eq_true rfl) (Nat.le_of_ble_eq_true rfl) rfl rfl rfl rfl rfl tb_137 (dX3_init 9 rfl) rfl ?_
  refine R_aload_n (i := 0) (dX3_init 10 rfl) rfl rfl ?_
  refine R_sipush (dX3_init 11 rfl) rfl rfl ?_
  refine R_newa2 (N := 7200) (S' := fun q6 => [(q0, .inr (9, [some (some q1), some none, some none, some none, some none, some none, some none, some none, some none, none, none, none, none])), (q1, .inr (7, [some (some q2)])), (q2, .inl 4320), (q3, .inr (3, [some (some q4), some (some q5), some none, none])), (q4, .inl 10), (q5, .inl 10), (q6, .inl 7200)]) (k' := 3) (n' := 7220) rfl (Nat.le_of_ble_eq_true rfl) rfl rfl (Nat.le_of_ble_eq_true rfl) (Nat.le_of_ble_eq_true rfl) rfl (fun _ => rfl) (dX3_init 12 rfl) (fun q6 => ?_)
  refine R_putR (S' := [(q0, .inr (9, [some (some q1), some none, some none, some none, some none, some none, some none, some none, some none, none, none, none, none])), (q1, .inr (7, [some (some q2)])), (q2, .inl 4320), (q3, .inr (3, [some (some q4), some (some q5), some (some q6), none])), (q4, .inl 10), (q5, .inl 10), (q6, .inl 7200)]) cgX3 3 rfl 2 (Nat.le_of_ble_eq_true rfl) (Nat.le_of_ble_eq_true rfl) rfl rfl rfl rfl rfl tb_139 (dX3_init 13 rfl) rfl ?_
  exact R_vret rfl (Nat.le_of_ble_eq_true rfl) (Nat.le_of_ble_eq_true rfl) (dX3_init 14 rfl) ⟨rfl, (Prod.mk.inj (Option.some.inj H)).2, q4, q5, q6, rfl⟩
def f_X0_init (M : Mem) : Option (Int × Mem) :=
  some (0, (mup (mup (mup (mup M 8 (fun _ => 0)) 9 (fun _ => 0)) 10 (fun _ => 0)) 11 (fun _ => 0)))
set_option maxHeartbeats 8000000 in
set_option maxRecDepth 20000 in
theorem t_X0_init (l : Launch) (g : GG) (q0 q1 q2 q3 q4 q5 q6 q7 : Nat) (M : Mem) {r : Int} {M' : Mem} (H : f_X0_init M = some (r, M')) : CT l g MX0_init 1 4 48 [(q0, .inr (9, [some (some q1), some (some q3), some none, some none, some none, some none, some none, some none, some none, none, none, none, none])), (q1, .inr (7, [some (some q2)])), (q2, .inl 4320), (q3, .inr (3, [some (some q4), some (some q5), some (some q6), none])), (q4, .inl 10), (q5, .inl 10), (q6, .inl 7200), (q7, .inr (0, [some none, some none, some none, some none, none]))] M [.inr (.inr (some q7))] (fun r2 S2 M2 => r2 = none ∧ M2 = M' ∧ ∃ q8 : Nat, ∃ q9 : Nat, ∃ q10 : Nat, ∃ q11 : Nat, S2 = [(q0, .inr (9, [some (some q1), some (some q3), some none, some none, some none, some none, some none, some none, some none, none, none, none, none])), (q1, .inr (7, [some (some q2)])), (q2, .inl 4320), (q3, .inr (3, [some (some q4), some (some q5), some (some q6), none])), (q4, .inl 10), (q5, .inl 10), (q6, .inl 7200), (q7, .inr (0, [some (some q8), some (some q9), some (some q10), some (some q11), none])), (q8, .inl 12), (q9, .inl 12), (q10, .inl 12), (q11, .inl 12)]) := by
  unfold f_X0_init at H
  refine CT_of (ls0 := [some (.inr (.inr (some q7)))]) (by decide +kernel) (Nat.le_of_ble_eq_true rfl) rfl ?_
  refine R_aload_n (i := 0) (dX0_init 0 rfl) rfl rfl ?_
  refine R_objInit tb_158 tb_95 tb_96 (Nat.le_of_ble_eq_true rfl) (Nat.le_of_ble_eq_true rfl) (Nat.le_of_ble_eq_true rfl) (dX0_init 1 rfl) ?_
  refine R_aload_n (i := 0) (dX0_init 2 rfl) rfl rfl ?_
  refine R_bipush (dX0_init 3 rfl) rfl rfl ?_
  refine R_newa2 (N := 12) (S' := fun q8 => [(q0, .inr (9, [some (some q1), some (some q3), some none, some none, some none, some none, some none, some none, some none, none, none, none, none])), (q1, .inr (7, [some (some q2)])), (q2, .inl 4320), (q3, .inr (3, [some (some q4), some (some q5), some (some q6), none])), (q4, .inl 10), (q5, .inl 10), (q6, .inl 7200), (q7, .inr (0, [some none, some none, some none, some none, none])), (q8, .inl 12)]) (k' := 1) (n' := 12) rfl (Nat.le_of_ble_eq_true rfl) rfl rfl (Nat.le_of_ble_eq_true rfl) (Nat.le_of_ble_eq_true rfl) rfl (fun _ => rfl) (dX0_init 4 rfl) (fun q8 => ?_)
  refine R_putR (S' := [(q0, .inr (9, [some (some q1), some (some q3), some none, some none, some none, some none, some none, some none, some none, none, none, none, none])), (q1, .inr (7, [some (some q2)])), (q2, .inl 4320), (q3, .inr (3, [some (some q4), some (some q5), some (some q6), none])), (q4, .inl 10), (q5, .inl 10), (q6, .inl 7200), (q7, .inr (0, [some (some q8), some none, some none, some none, none])), (q8, .inl 12)]) cgX0 7 rfl 0 (Nat.le_of_ble_eq_true rfl) (Nat.le_of_ble_eq_true rfl) rfl rfl rfl rfl rfl tb_159 (dX0_init 5 rfl) rfl ?_
  refine R_aload_n (i := 0) (dX0_init 6 rfl) rfl rfl ?_
  refine R_bipush (dX0_init 7 rfl) rfl rfl ?_
  refine R_newa2 (N := 12) (S' := fun q9 => [(q0, .inr (9, [some (some q1), some (some q3), some none, some none, some none, some none, some none, some none, some none, none, none, none, none])), (q1, .inr (7, [some (some q2)])), (q2, .inl 4320), (q3, .inr (3, [some (some q4), some (some q5), some (some q6), none])), (q4, .inl 10), (q5, .inl 10), (q6, .inl 7200), (q7, .inr (0, [some (some q8), some none, some none, some none, none])), (q8, .inl 12), (q9, .inl 12)]) (k' := 2) (n' := 24) rfl (Nat.le_of_ble_eq_true rfl) rfl rfl (Nat.le_of_ble_eq_true rfl) (Nat.le_of_ble_eq_true rfl) rfl (fun _ => rfl) (dX0_init 8 rfl) (fun q9 => ?_)
  refine R_putR (S' := [(q0, .inr (9, [some (some q1), some (some q3), some none, some none, some none, some none, some none, some none, some none, none, none, none, none])), (q1, .inr (7, [some (some q2)])), (q2, .inl 4320), (q3, .inr (3, [some (some q4), some (some q5), some (some q6), none])), (q4, .inl 10), (q5, .inl 10), (q6, .inl 7200), (q7, .inr (0, [some (some q8), some (some q9), some none, some none, none])), (q8, .inl 12), (q9, .inl 12)]) cgX0 7 rfl 1 (Nat.le_of_ble_eq_true rfl) (Nat.le_of_ble_eq_true rfl) rfl rfl rfl rfl rfl tb_161 (dX0_init 9 rfl) rfl ?_
  refine R_aload_n (i := 0) (dX0_init 10 rfl) rfl rfl ?_
  refine R_bipush (dX0_init 11 rfl) rfl rfl ?_
  refine R_newa2 (N := 12) (S' := fun q10 => [(q0, .inr (9, [some (some q1), some (some q3), some none, some none, some none, some none, some none, some none, some none, none, none, none, none])), (q1, .inr (7, [some (some q2)])), (q2, .inl 4320), (q3, .inr (3, [some (some q4), some (some q5), some (some q6), none])), (q4, .inl 10), (q5, .inl 10), (q6, .inl 7200), (q7, .inr (0, [some (some q8), some (some q9), some none, some none, none])), (q8, .inl 12), (q9, .inl 12), (q10, .inl 12)]) (k' := 3) (n' := 36) rfl (Nat.le_of_ble_eq_true rfl) rfl rfl (Nat.le_of_ble_eq_true rfl) (Nat.le_of_ble_eq_true rfl) rfl (fun _ => rfl) (dX0_init 12 rfl) (fun q10 => ?_)
  refine R_putR (S' := [(q0, .inr (9, [some (some q1), some (some q3), some none, some none, some none, some none, some none, some none, some none, none, none, none, none])), (q1, .inr (7, [some (some q2)])), (q2, .inl 4320), (q3, .inr (3, [some (some q4), some (some q5), some (some q6), none])), (q4, .inl 10), (q5, .inl 10), (q6, .inl 7200), (q7, .inr (0, [some (some q8), some (some q9), some (some q10), some none, none])), (q8, .inl 12), (q9, .inl 12), (q10, .inl 12)]) cgX0 7 rfl 2 (Nat.le_of_ble_eq_true rfl) (Nat.le_of_ble_eq_true rfl) rfl rfl rfl rfl rfl tb_163 (dX0_init 13 rfl) rfl ?_
  refine R_aload_n (i := 0) (dX0_init 14 rfl) rfl rfl ?_
  refine R_bipush (dX0_init 15 rfl) rfl rfl ?_
  refine R_newa2 (N := 12) (S' := fun q11 => [(q0, .inr (9, [some (some q1), some (some q3), some none, some none, some none, some none, some none, some none, some none, none, none, none, none])), (q1, .inr (7, [some (some q2)])), (q2, .inl 4320), (q3, .inr (3, [some (some q4), some (some q5), some (some q6), none])), (q4, .inl 10), (q5, .inl 10), (q6, .inl 7200), (q7, .inr (0, [some (some q8), some (some q9), some (some q10), some none, none])), (q8, .inl 12), (q9, .inl 12), (q10, .inl 12), (q11, .inl 12)]) (k' := 4) (n' := 48) rfl (Nat.le_of_ble_eq_true rfl) rfl rfl (Nat.le_of_ble_eq_true rfl) (Nat.le_of_ble_eq_true rfl) rfl (fun _ => rfl) (dX0_init 16 rfl) (fun q11 => ?_)
  refine R_putR (S' := [(q0, .inr (9, [some (some q1), some (some q3), some none, some none, some none, some none, some none, some none, some none, none, none, none, none])), (q1, .inr (7, [some (some q2)])), (q2, .inl 4320), (q3, .inr (3, [some (some q4), some (some q5), some (some q6), none])), (q4, .inl 10), (q5, .inl 10), (q6, .inl 7200), (q7, .inr (0, [some (some q8), some (some q9), some (some q10), some (some q11), none])), (q8, .inl 12), (q9, .inl 12), (q10, .inl 12), (q11, .inl 12)]) cgX0 7 rfl 3 (Nat.le_of_ble_eq_true rfl) (Nat.le_of_ble_eq_true rfl) rfl rfl rfl rfl rfl tb_165 (dX0_init 17 rfl) rfl ?_
  exact R_vret rfl (Nat.le_of_ble_eq_true rfl) (Nat.le_of_ble_eq_true rfl) (dX0_init 18 rfl) ⟨rfl, (Prod.mk.inj (Option.some.inj H)).2, q8, q9, q10, q11, rfl⟩
def f_X5_init (M : Mem) : Option (Int × Mem) :=
  some (0, (mup (mup (mup M 14 (fun _ => 0)) 15 (fun _ => 0)) 16 (fun _ => 0)))
set_option maxHeartbeats 8000000 in
set_option maxRecDepth 20000 in
theorem t_X5_init (l : Launch) (g : GG) (q0 q1 q2 q3 q4 q5 q6 q7 q8 q9 q10 q11 q12 q13 : Nat) (M : Mem) {r : Int} {M' : Mem} (H : f_X5_init M = some (r, M')) : CT l g MX5_init 1 3 482 [(q0, .inr (9, [some (some q1), some (some q3), some (some q7), some none, some none, some none, some none, some none, some none, none, none, none, none])), (q1, .inr (7, [some (some q2)])), (q2, .inl 4320), (q3, .inr (3, [some (some q4), some (some q5), some (some q6), none])), (q4, .inl 10), (q5, .inl 10), (q6, .inl 7200), (q7, .inr (0, [some (some q8), some (some q9), some (some q10), some (some q11), none])), (q8, .inl 12), (q9, .inl 12), (q10, .inl 12), (q11, .inl 12), (q12, .inr (6, [some none, some none, some none, some none, some none, none, none, none])), (q13, .inr (5, [some none, some none, some none, none]))] M [.inr (.inr (some q13))] (fun r2 S2 M2 => r2 = none ∧ M2 = M' ∧ ∃ q14 : Nat, ∃ q15 : Nat, ∃ q16 : Nat, S2 = [(q0, .inr (9, [some (some q1), some (some q3), some (some q7), some none, some none, some none, some none, some none, some none, none, none, none, none])), (q1, .inr (7, [some (some q2)])), (q2, .inl 4320), (q3, .inr (3, [some (some q4), some (some q5), some (some q6), none])), (q4, .inl 10), (q5, .inl 10), (q6, .inl 7200), (q7, .inr (0, [some (some q8), some (some q9), some (some q10), some (some q11), none])), (q8, .inl 12), (q9, .inl 12), (q10, .inl 12), (q11, .inl 12), (q12, .inr (6, [some none, some none, some none, some none, some none, none, none, none])), (q13, .inr (5, [some (some q14), some (some q15), some (some q16), none])), (q14, .inl 160), (q15, .inl 161), (q16, .inl 161)]) := by
  unfold f_X5_init at H
  refine CT_of (ls0 := [some (.inr (.inr (some q13)))]) (by decide +kernel) (Nat.le_of_ble_eq_true rfl) rfl ?_
  refine R_aload_n (i := 0) (dX5_init 0 rfl) rfl rfl ?_
  refine R_objInit tb_191 tb_95 tb_96 (Nat.le_of_ble_eq_true rfl) (Nat.le_of_ble_eq_true rfl) (Nat.le_of_ble_eq_true rfl) (dX5_init 1 rfl) ?_
  refine R_aload_n (i := 0) (dX5_init 2 rfl) rfl rfl ?_
  refine R_sipush (dX5_init 3 rfl) rfl rfl ?_
  refine R_newa2 (N := 160) (S' := fun q14 => [(q0, .inr (9, [some (some q1), some (some q3), some (some q7), some none, some none, some none, some none, some none, some none, none, none, none, none])), (q1, .inr (7, [some (some q2)])), (q2, .inl 4320), (q3, .inr (3, [some (some q4), some (some q5), some (some q6), none])), (q4, .inl 10), (q5, .inl 10), (q6, .inl 7200), (q7, .inr (0, [some (some q8), some (some q9), some (some q10), some (some q11), none])), (q8, .inl 12), (q9, .inl 12), (q10, .inl 12), (q11, .inl 12), (q12, .inr (6, [some none, some none, some none, some none, some none, none, none, none])), (q13, .inr (5, [some none, some none, some none, none])), (q14, .inl 160)]) (k' := 1) (n' := 160) rfl (Nat.le_of_ble_eq_true rfl) rfl rfl (Nat.le_of_ble_eq_true rfl) (Nat.le_of_ble_eq_true rfl) rfl (fun _ => rfl) (dX5_init 4 rfl) (fun q14 => ?_)
  refine R_putR (S' := [(q0, .inr (9, [some (some q1), some (some q3), some (some q7), some none, some none, some none, some none, some none, some none, none, none, none, none])), (q1, .inr (7, [some (some q2)])), (q2, .inl 4320), (q3, .inr (3, [some (some q4), some (some q5), some (some q6), none])), (q4, .inl 10), (q5, .inl 10), (q6, .inl 7200), (q7, .inr (0, [some (some q8), some (some q9), some (some q10), some (some q11), none])), (q8, .inl 12), (q9, .inl 12), (q10, .inl 12), (q11, .inl 12), (q12, .inr (6, [some none, some none, some none, some none, some none, none, none, none])), (q13, .inr (5, [some (some q14), some none, some none, none])), (q14, .inl 160)]) cgX5 13 rfl 0 (Nat.le_of_ble_eq_true rfl) (Nat.le_of_ble_eq_true rfl) rfl rfl rfl rfl rfl tb_192 (dX5_init 5 rfl) rfl ?_
  refine R_aload_n (i := 0) (dX5_init 6 rfl) rfl rfl ?_
  refine R_sipush (dX5_init 7 rfl) rfl rfl ?_
  refine R_newa2 (N := 161) (S' := fun q15 => [(q0, .inr (9, [some (some q1), some (some q3), some (some q7), some none, some none, some none, some none, some none, some none, none, none, none, none])), (q1, .inr (7, [some (some q2)])), (q2, .inl 4320), (q3, .inr (3, [some (some q4), some (some q5), some (some q6), none])), (q4, .inl 10), (q5, .inl 10), (q6, .inl 7200), (q7, .inr (0, [some (some q8), some (some q9), some (some q10), some (some q11), none])), (q8, .inl 12), (q9, .inl 12), (q10, .inl 12), (q11, .inl 12), (q12, .inr (6, [some none, some none, some none, some none, some none, none, none, none])), (q13, .inr (5, [some (some q14), some none, some none, none])), (q14, .inl 160), (q15, .inl 161)]) (k' := 2) (n' := 321) rfl (Nat.le_of_ble_eq_true rfl) rfl rfl (Nat.le_of_ble_eq_true rfl) (Nat.le_of_ble_eq_true rfl) rfl (fun _ => rfl) (dX5_init 8 rfl) (fun q15 => ?_)
  refine R_putR (S' := [(q0, .inr (9, [some (some q1), some (some q3), some (some q7), some none, some none, some none, some none, some none, some none, none, none, none, none])), (q1, .inr (7, [some (some q2)])), (q2, .inl 4320), (q3, .inr (3, [some (some q4), some (some q5), some (some q6), none])), (q4, .inl 10), (q5, .inl 10), (q6, .inl 7200), (q7, .inr (0, [some (some q8), some (some q9), some (some q10), some (some q11), none])), (q8, .inl 12), (q9, .inl 12), (q10, .inl 12), (q11, .inl 12), (q12, .inr (6, [some none, some none, some none, some none, some none, none, none, none])), (q13, .inr (5, [some (some q14), some (some q15), some none, none])), (q14, .inl 160), (q15, .inl 161)]) cgX5 13 rfl 1 (Nat.le_of_ble_eq_true rfl) (Nat.le_of_ble_eq_true rfl) rfl rfl rfl rfl rfl tb_193 (dX5_init 9 rfl) rfl ?_
  refine R_aload_n (i := 0) (dX5_init 10 rfl) rfl rfl ?_
  refine R_sipush (dX5_init 11 rfl) rfl rfl ?_
  refine R_newa2 (N := 161) (S' := fun q16 => [(q0, .inr (9, [some (some q1), some (some q3), some (some q7), some none, some none, some none, some none, some none, some none, none, none, none, none])), (q1, .inr (7, [some (some q2)])), (q2, .inl 4320), (q3, .inr (3, [some (some q4), some (some q5), some (some q6), none])), (q4, .inl 10), (q5, .inl 10), (q6, .inl 7200), (q7, .inr (0, [some (some q8), some (some q9), some (some q10), some (some q11), none])), (q8, .inl 12), (q9, .inl 12), (q10, .inl 12), (q11, .inl 12), (q12, .inr (6, [some none, some none, some none, some none, some none, none, none, none])), (q13, .inr (5, [some (some q14), some (some q15), some none, none])), (q14, .inl 160), (q15, .inl 161), (q16, .inl 161)]) (k' := 3) (n' := 482) rfl (Nat.le_of_ble_eq_true rfl) rfl rfl (Nat.le_of_ble_eq_true rfl) (Nat.le_of_ble_eq_true rfl) rfl (fun _ => rfl) (dX5_init 12 rfl) (fun q16 => ?_)
  refine R_putR (S' := [(q0, .inr (9, [some (some q1), some (some q3), some (some q7), some none, some none, some none, some none, some none, some none, none, none, none, none])), (q1, .inr (7, [some (some q2)])), (q2, .inl 4320), (q3, .inr (3, [some (some q4), some (some q5), some (some q6), none])), (q4, .inl 10), (q5, .inl 10), (q6, .inl 7200), (q7, .inr (0, [some (some q8), some (some q9), some (some q10), some (some q11), none])), (q8, .inl 12), (q9, .inl 12), (q10, .inl 12), (q11, .inl 12), (q12, .inr (6, [some none, some none, some none, some none, some none, none, none, none])), (q13, .inr (5, [some (some q14), some (some q15), some (some q16), none])), (q14, .inl 160), (q15, .inl 161), (q16, .inl 161)]) cgX5 13 rfl 2 (Nat.le_of_ble_eq_true rfl) (Nat.le_of_ble_eq_true rfl) rfl rfl rfl rfl rfl tb_195 (dX5_init 13 rfl) rfl ?_
  exact R_vret rfl (Nat.le_of_ble_eq_true rfl) (Nat.le_of_ble_eq_true rfl) (dX5_init 14 rfl) ⟨rfl, (Prod.mk.inj (Option.some.inj H)).2, q14, q15, q16, rfl⟩
def f_X6_init_tail_L50 (K78 : Mem → Option (Int × Mem)) : Nat → Int → Mem → Option (Int × Mem)
  | 0, _, _ => none
  | n + 1, x1, M =>
    if x1 < f_J0_length_8abf5 13 then
      (f_J0_charAt_5068e 13 x1).bind fun r575 =>
      ob (f_X5_add r575 M) fun r576 M577 =>
      f_X6_init_tail_L50 K78 n (w32 (x1 + 1)) M577
    else
      K78 M
set_option maxHeartbeats 4000000 in
theorem t_X6_init_tail_L50 (l : Launch) (g : GG) (ad : Nat → Nat) (S : SW) (hS : q_ag 12 21 ad S) {K78 : Mem → Option (Int × Mem)} {r : Int} {M' : Mem} {Post : PP} (hP : Post none S M') : ∀ (n : Nat) (x1 : Int) (M : Mem), f_X6_init_tail_L50 K78 n x1 M = some (r, M') → (∀ (M1 : Mem), K78 M1 = some (r, M') → RW l g MX6_init (q_rm 119 8 1501) 8 1501 Post 78 S M1 8 1501 [some (.inr (.inr (some (ad 12)))), none] []) → RW l g MX6_init (q_rm 119 8 1501) 8 1501 Post 50 S M 8 1501 [some (.inr (.inr (some (ad 12)))), some (.inl x1)] [] := by
  intro n
  induction n with
  | zero => intro x1 M H; exact absurd H (by simp [f_X6_init_tail_L50])
  | succ n ih =>
    intro x1 M H hK78
    rw [f_X6_init_tail_L50] at H
    refine R_iload_n (i := 1) (dX6_init 25 rfl) rfl rfl ?_
    refine R_ldcS 13 (q := ("CardNobodyReads$Texts", 31, "may 1 ; likes 50 - price + many ; learns 720 - left ;", [109, 97, 121, 32, 49, 32, 59, 32, 108, 105, 107, 101, 115, 32, 53, 48, 32, 45, 32, 112, 114, 105, 99, 101, 32, 43, 32, 109, 97, 110, 121, 32, 59, 32, 108, 101, 97, 114, 110, 115, 32, 55, 50, 48, 32, 45, 32, 108, 101, 102, 116, 32, 59])) rfl rfl (dX6_init 26 rfl) ?_
    refine R_cV (st' := [.inl (f_J0_length_8abf5 13), .inl x1]) [] [.inl x1] (t_J0_length_8abf5 l g S _  13 (by decide) ) msJ0_length_8abf5 (Or.inl tb_209) (Or.inr ⟨13, (by decide), rfl, rfl⟩) ⟨Nat.le_of_ble_eq_true rfl, Nat.le_of_ble_eq_true rfl⟩ (Nat.le_of_ble_eq_true rfl) (Nat.le_of_ble_eq_true rfl) rfl rfl (Nat.le_of_ble_eq_true rfl) rfl (dX6_init 27 rfl) ?_
    refine R_icmp_ge (tgt := 78) (dX6_init 28 rfl) (by decide) (fun hc => ?_) (fun hc => ?_)
    · have H := ite_F H hc
      refine R_mask [true, false] rfl ?_
      exact hK78 M H
    · have H := ite_T H hc
      refine R_aload_n (i := 0) (dX6_init 29 rfl) rfl rfl ?_
      refine R_getR cgX6 12 (cl12 hS) 0 (Nat.le_of_ble_eq_true rfl) rfl (Or.inl tb_425) (dX6_init 30 rfl) ?_
      refine R_ldcS 13 (q := ("CardNobodyReads$Texts", 31, "may 1 ; likes 50 - price + many ; learns 720 - left ;", [109, 97, 121, 32, 49, 32, 59, 32, 108, 105, 107, 101, 115, 32, 53, 48, 32, 45, 32, 112, 114, 105, 99, 101, 32, 43, 32, 109, 97, 110, 121, 32, 59, 32, 108, 101, 97, 114, 110, 115, 32, 55, 50, 48, 32, 45, 32, 108, 101, 102, 116, 32, 59])) rfl rfl (dX6_init 31 rfl) ?_
      refine R_iload_n (i := 1) (dX6_init 32 rfl) rfl rfl ?_
      obtain ⟨r575, hr, H⟩ := op_E H
      refine R_cV (st' := [.inl r575, .inr (.inr (some (ad 13)))]) [.inl x1] [.inr (.inr (some (ad 13)))] (t_J0_charAt_5068e l g S _  13 (by decide)  x1 hr) msJ0_charAt_5068e (Or.inl tb_219) (Or.inr ⟨13, (by decide), rfl, rfl⟩) ⟨Nat.le_of_ble_eq_true rfl, Nat.le_of_ble_eq_true rfl⟩ (Nat.le_of_ble_eq_true rfl) (Nat.le_of_ble_eq_true rfl) rfl rfl (Nat.le_of_ble_eq_true rfl) rfl (dX6_init 33 rfl) ?_
      obtain ⟨r576, M577, hr, H⟩ := ob_E H
      refine R_cV (st' := []) [.inl r575] [] (t_X5_add l g ad S _ hS   r575 hr) msX5_add (Or.inl tb_257) (Or.inl ⟨13, 5, _, _, _, (cl13 hS), rfl⟩) ⟨Nat.le_of_ble_eq_true rfl, Nat.le_of_ble_eq_true rfl⟩ (Nat.le_of_ble_eq_true rfl) (Nat.le_of_ble_eq_true rfl) rfl rfl (Nat.le_of_ble_eq_true rfl) rfl (dX6_init 34 rfl) ?_
      refine R_iinc (i := 1) (ls' := [some (.inr (.inr (some (ad 12)))), some (.inl (w32 (x1 + 1)))]) (dX6_init 35 rfl) rfl (Nat.le_of_ble_eq_true rfl) rfl rfl ?_
      refine R_goto (tgt := 50) (dX6_init 36 rfl) (by decide) ?_
      exact ih (w32 (x1 + 1)) M577 H hK78
def f_X6_init_tail (M : Mem) : Option (Int × Mem) :=
  f_X6_init_tail_L50
    (fun M578 =>
      ob (f_X6_read M578) fun r579 M580 =>
      some (0, M580)
    )
    100000 0 M
set_option maxHeartbeats 8000000 in
theorem tt_X6_init (l : Launch) (g : GG) (ad : Nat → Nat) (S : SW) (M : Mem) (hS : q_ag 12 21 ad S) {r : Int} {M' : Mem} (H : f_X6_init_tail M = some (r, M')) {Post : PP} (hP : Post none S M') : RW l g MX6_init (q_rm 119 8 1501) 8 1501 Post 48 S M 8 1501 [some (.inr (.inr (some (ad 12)))), none] [] := by
  unfold f_X6_init_tail at H
  refine R_iconst (dX6_init 23 rfl) rfl ?_
  refine R_istore_n (i := 1) (ls' := [some (.inr (.inr (some (ad 12)))), some (.inl 0)]) (dX6_init 24 rfl) rfl (Nat.le_of_ble_eq_true rfl) (Nat.le_of_ble_eq_true rfl) rfl rfl ?_
  refine t_X6_init_tail_L50 l g ad S hS  hP 100000 0 M H (fun M578 H => ?_)
  refine R_aload_n (i := 0) (dX6_init 37 rfl) rfl rfl ?_
  obtain ⟨r579, M580, hr, H⟩ := ob_E H
  refine R_cV (st' := [.inl r579]) [] [] (t_X6_read l g ad S _ hS   hr) msX6_read (Or.inl tb_262) (Or.inl ⟨12, 6, _, _, _, (cl12 hS), rfl⟩) ⟨Nat.le_of_ble_eq_true rfl, Nat.le_of_ble_eq_true rfl⟩ (Nat.le_of_ble_eq_true rfl) (Nat.le_of_ble_eq_true rfl) rfl rfl (Nat.le_of_ble_eq_true rfl) rfl (dX6_init 38 rfl) ?_
  refine R_pop rfl (dX6_init 39 rfl) ?_
  exact R_vret rfl (Nat.le_of_ble_eq_true rfl) (Nat.le_of_ble_eq_true rfl) (dX6_init 40 rfl) (by obtain ⟨e1, e2⟩ := Prod.mk.inj (Option.some.inj H); subst e1; subst e2; exact hP)
def f_X6_init (M : Mem) : Option (Int × Mem) :=
  ob (f_X5_init (mup M 13 (fun _ => 0))) fun rc1 Mc1 =>
  f_X6_init_tail (mup (mup (mup (mup Mc1 17 (fun _ => 0)) 18 (fun _ => 0)) 19 (fun _ => 0)) 20 (fun _ => 0))
set_option maxHeartbeats 8000000 in
set_option maxRecDepth 20000 in
theorem t_X6_init (l : Launch) (g : GG) (q0 q1 q2 q3 q4 q5 q6 q7 q8 q9 q10 q11 q12 : Nat) (M : Mem) {r : Int} {M' : Mem} (H : f_X6_init M = some (r, M')) : CT l g MX6_init 119 8 1501 [(q0, .inr (9, [some (some q1), some (some q3), some (some q7), some none, some none, some none, some none, some none, some none, none, none, none, none])), (q1, .inr (7, [some (some q2)])), (q2, .inl 4320), (q3, .inr (3, [some (some q4), some (some q5), some (some q6), none])), (q4, .inl 10), (q5, .inl 10), (q6, .inl 7200), (q7, .inr (0, [some (some q8), some (some q9), some (some q10), some (some q11), none])), (q8, .inl 12), (q9, .inl 12), (q10, .inl 12), (q11, .inl 12), (q12, .inr (6, [some none, some none, some none, some none, some none, none, none, none]))] M [.inr (.inr (some q12))] (fun r2 S2 M2 => r2 = none ∧ M2 = M' ∧ ∃ q13 : Nat, ∃ q14 : Nat, ∃ q15 : Nat, ∃ q16 : Nat, ∃ q17 : Nat, ∃ q18 : Nat, ∃ q19 : Nat, ∃ q20 : Nat, S2 = [(q0, .inr (9, [some (some q1), some (some q3), some (some q7), some none, some none, some none, some none, some none, some none, none, none, none, none])), (q1, .inr (7, [some (some q2)])), (q2, .inl 4320), (q3, .inr (3, [some (some q4), some (some q5), some (some q6), none])), (q4, .inl 10), (q5, .inl 10), (q6, .inl 7200), (q7, .inr (0, [some (some q8), some (some q9), some (some q10), some (some q11), none])), (q8, .inl 12), (q9, .inl 12), (q10, .inl 12), (q11, .inl 12), (q12, .inr (6, [some (some q13), some (some q17), some (some q18), some (some q19), some (some q20), none, none, none])), (q13, .inr (5, [some (some q14), some (some q15), some (some q16), none])), (q14, .inl 160), (q15, .inl 161), (q16, .inl 161), (q17, .inl 960), (q18, .inl 18), (q19, .inl 31), (q20, .inl 6)]) := by
  unfold f_X6_init at H
  refine CT_of (ls0 := [some (.inr (.inr (some q12))), none]) (by decide +kernel) (Nat.le_of_ble_eq_true rfl) rfl ?_
  refine R_aload_n (i := 0) (dX6_init 0 rfl) rfl rfl ?_
  refine R_objInit tb_185 tb_95 tb_96 (Nat.le_of_ble_eq_true rfl) (Nat.le_of_ble_eq_true rfl) (Nat.le_of_ble_eq_true rfl) (dX6_init 1 rfl) ?_
  refine R_aload_n (i := 0) (dX6_init 2 rfl) rfl rfl ?_
  refine R_new2 (S' := fun q13 => [(q0, .inr (9, [some (some q1), some (some q3), some (some q7), some none, some none, some none, some none, some none, some none, none, none, none, none])), (q1, .inr (7, [some (some q2)])), (q2, .inl 4320), (q3, .inr (3, [some (some q4), some (some q5), some (some q6), none])), (q4, .inl 10), (q5, .inl 10), (q6, .inl 7200), (q7, .inr (0, [some (some q8), some (some q9), some (some q10), some (some q11), none])), (q8, .inl 12), (q9, .inl 12), (q10, .inl 12), (q11, .inl 12), (q12, .inr (6, [some none, some none, some none, some none, some none, none, none, none])), (q13, .inr (5, [some none, some none, some none, none]))]) (k' := 1) (n' := 4) cgX5 [some none, some none, some none, none] fsX5 tb_186 tb_187 tb_77 rfl rfl (Nat.le_of_ble_eq_true rfl) (Nat.le_of_ble_eq_true rfl) rfl (fun _ => rfl) (dX6_init 3 rfl) (fun q13 => ?_)
  refine R_dup rfl (dX6_init 4 rfl) ?_
  obtain ⟨rc1, Mc1, hr, H⟩ := ob_E H
  refine R_callI (rest := [.inr (.inr (some q13)), .inr (.inr (some q12))]) (As := []) (t_X5_init l g q0 q1 q2 q3 q4 q5 q6 q7 q8 q9 q10 q11 q12 q13 _ hr) msX5_init (Or.inr ⟨_, tb_188⟩) ⟨(Nat.le_of_ble_eq_true rfl), (Nat.le_of_ble_eq_true rfl)⟩ ⟨(Nat.le_of_ble_eq_true rfl), (Nat.le_of_ble_eq_true rfl)⟩ rfl rfl (Nat.le_of_ble_eq_true rfl) (dX6_init 5 rfl) ?_
  rintro _ _ _ ⟨rfl, rfl, q14, q15, q16, rfl⟩
  refine R_kn (k' := 4) (n' := 486) rfl rfl (st' := [.inr (.inr (some q13)), .inr (.inr (some q12))]) rfl ?_
  refine R_putR (S' := [(q0, .inr (9, [some (some q1), some (some q3), some (some q7), some none, some none, some none, some none, some none, some none, none, none, none, none])), (q1, .inr (7, [some (some q2)])), (q2, .inl 4320), (q3, .inr (3, [some (some q4), some (some q5), some (some q6), none])), (q4, .inl 10), (q5, .inl 10), (q6, .inl 7200), (q7, .inr (0, [some (some q8), some (some q9), some (some q10), some (some q11), none])), (q8, .inl 12), (q9, .inl 12), (q10, .inl 12), (q11, .inl 12), (q12, .inr (6, [some (some q13), some none, some none, some none, some none, none, none, none])), (q13, .inr (5, [some (some q14), some (some q15), some (some q16), none])), (q14, .inl 160), (q15, .inl 161), (q16, .inl 161)]) cgX6 12 rfl 0 (Nat.le_of_ble_eq_true rfl) (Nat.le_of_ble_eq_true rfl) rfl rfl rfl rfl rfl tb_425 (dX6_init 6 rfl) rfl ?_
  refine R_aload_n (i := 0) (dX6_init 7 rfl) rfl rfl ?_
  refine R_sipush (dX6_init 8 rfl) rfl rfl ?_
  refine R_newa2 (N := 960) (S' := fun q17 => [(q0, .inr (9, [some (some q1), some (some q3), some (some q7), some none, some none, some none, some none, some none, some none, none, none, none, none])), (q1, .inr (7, [some (some q2)])), (q2, .inl 4320), (q3, .inr (3, [some (some q4), some (some q5), some (some q6), none])), (q4, .inl 10), (q5, .inl 10), (q6, .inl 7200), (q7, .inr (0, [some (some q8), some (some q9), some (some q10), some (some q11), none])), (q8, .inl 12), (q9, .inl 12), (q10, .inl 12), (q11, .inl 12), (q12, .inr (6, [some (some q13), some none, some none, some none, some none, none, none, none])), (q13, .inr (5, [some (some q14), some (some q15), some (some q16), none])), (q14, .inl 160), (q15, .inl 161), (q16, .inl 161), (q17, .inl 960)]) (k' := 5) (n' := 1446) rfl (Nat.le_of_ble_eq_true rfl) rfl rfl (Nat.le_of_ble_eq_true rfl) (Nat.le_of_ble_eq_true rfl) rfl (fun _ => rfl) (dX6_init 9 rfl) (fun q17 => ?_)
  refine R_putR (S' := [(q0, .inr (9, [some (some q1), some (some q3), some (some q7), some none, some none, some none, some none, some none, some none, none, none, none, none])), (q1, .inr (7, [some (some q2)])), (q2, .inl 4320), (q3, .inr (3, [some (some q4), some (some q5), some (some q6), none])), (q4, .inl 10), (q5, .inl 10), (q6, .inl 7200), (q7, .inr (0, [some (some q8), some (some q9), some (some q10), some (some q11), none])), (q8, .inl 12), (q9, .inl 12), (q10, .inl 12), (q11, .inl 12), (q12, .inr (6, [some (some q13), some (some q17), some none, some none, some none, none, none, none])), (q13, .inr (5, [some (some q14), some (some q15), some (some q16), none])), (q14, .inl 160), (q15, .inl 161), (q16, .inl 161), (q17, .inl 960)]) cgX6 12 rfl 1 (Nat.le_of_ble_eq_true rfl) (Nat.le_of_ble_eq_true rfl) rfl rfl rfl rfl rfl tb_427 (dX6_init 10 rfl) rfl ?_
  refine R_aload_n (i := 0) (dX6_init 11 rfl) rfl rfl ?_
  refine R_bipush (dX6_init 12 rfl) rfl rfl ?_
  refine R_newa2 (N := 18) (S' := fun q18 => [(q0, .inr (9, [some (some q1), some (some q3), some (some q7), some none, some none, some none, some none, some none, some none, none, none, none, none])), (q1, .inr (7, [some (some q2)])), (q2, .inl 4320), (q3, .inr (3, [some (some q4), some (some q5), some (some q6), none])), (q4, .inl 10), (q5, .inl 10), (q6, .inl 7200), (q7, .inr (0, [some (some q8), some (some q9), some (some q10), some (some q11), none])), (q8, .inl 12), (q9, .inl 12), (q10, .inl 12), (q11, .inl 12), (q12, .inr (6, [some (some q13), some (some q17), some none, some none, some none, none, none, none])), (q13, .inr (5, [some (some q14), some (some q15), some (some q16), none])), (q14, .inl 160), (q15, .inl 161), (q16, .inl 161), (q17, .inl 960), (q18, .inl 18)]) (k' := 6) (n' := 1464) rfl (Nat.le_of_ble_eq_true rfl) rfl rfl (Nat.le_of_ble_eq_true rfl) (Nat.le_of_ble_eq_true rfl) rfl (fun _ => rfl) (dX6_init 13 rfl) (fun q18 => ?_)
  refine R_putR (S' := [(q0, .inr (9, [some (some q1), some (some q3), some (some q7), some none, some none, some none, some none, some none, some none, none, none, none, none])), (q1, .inr (7, [some (some q2)])), (q2, .inl 4320), (q3, .inr (3, [some (some q4), some (some q5), some (some q6), none])), (q4, .inl 10), (q5, .inl 10), (q6, .inl 7200), (q7, .inr (0, [some (some q8), some (some q9), some (some q10), some (some q11), none])), (q8, .inl 12), (q9, .inl 12), (q10, .inl 12), (q11, .inl 12), (q12, .inr (6, [some (some q13), some (some q17), some (some q18), some none, some none, none, none, none])), (q13, .inr (5, [some (some q14), some (some q15), some (some q16), none])), (q14, .inl 160), (q15, .inl 161), (q16, .inl 161), (q17, .inl 960), (q18, .inl 18)]) cgX6 12 rfl 2 (Nat.le_of_ble_eq_true rfl) (Nat.le_of_ble_eq_true rfl) rfl rfl rfl rfl rfl tb_428 (dX6_init 14 rfl) rfl ?_
  refine R_aload_n (i := 0) (dX6_init 15 rfl) rfl rfl ?_
  refine R_bipush (dX6_init 16 rfl) rfl rfl ?_
  refine R_newa2 (N := 31) (S' := fun q19 => [(q0, .inr (9, [some (some q1), some (some q3), some (some q7), some none, some none, some none, some none, some none, some none, none, none, none, none])), (q1, .inr (7, [some (some q2)])), (q2, .inl 4320), (q3, .inr (3, [some (some q4), some (some q5), some (some q6), none])), (q4, .inl 10), (q5, .inl 10), (q6, .inl 7200), (q7, .inr (0, [some (some q8), some (some q9), some (some q10), some (some q11), none])), (q8, .inl 12), (q9, .inl 12), (q10, .inl 12), (q11, .inl 12), (q12, .inr (6, [some (some q13), some (some q17), some (some q18), some none, some none, none, none, none])), (q13, .inr (5, [some (some q14), some (some q15), some (some q16), none])), (q14, .inl 160), (q15, .inl 161), (q16, .inl 161), (q17, .inl 960), (q18, .inl 18), (q19, .inl 31)]) (k' := 7) (n' := 1495) rfl (Nat.le_of_ble_eq_true rfl) rfl rfl (Nat.le_of_ble_eq_true rfl) (Nat.le_of_ble_eq_true rfl) rfl (fun _ => rfl) (dX6_init 17 rfl) (fun q19 => ?_)
  refine R_putR (S' := [(q0, .inr (9, [some (some q1), some (some q3), some (some q7), some none, some none, some none, some none, some none, some none, none, none, none, none])), (q1, .inr (7, [some (some q2)])), (q2, .inl 4320), (q3, .inr (3, [some (some q4), some (some q5), some (some q6), none])), (q4, .inl 10), (q5, .inl 10), (q6, .inl 7200), (q7, .inr (0, [some (some q8), some (some q9), some (some q10), some (some q11), none])), (q8, .inl 12), (q9, .inl 12), (q10, .inl 12), (q11, .inl 12), (q12, .inr (6, [some (some q13), some (some q17), some (some q18), some (some q19), some none, none, none, none])), (q13, .inr (5, [some (some q14), some (some q15), some (some q16), none])), (q14, .inl 160), (q15, .inl 161), (q16, .inl 161), (q17, .inl 960), (q18, .inl 18), (q19, .inl 31)]) cgX6 12 rfl 3 (Nat.le_of_ble_eq_true rfl) (Nat.le_of_ble_eq_true rfl) rfl rfl rfl rfl rfl tb_429 (dX6_init 18 rfl) rfl ?_
  refine R_aload_n (i := 0) (dX6_init 19 rfl) rfl rfl ?_
  refine R_bipush (dX6_init 20 rfl) rfl rfl ?_
  refine R_newa2 (N := 6) (S' := fun q20 => [(q0, .inr (9, [some (some q1), some (some q3), some (some q7), some none, some none, some none, some none, some none, some none, none, none, none, none])), (q1, .inr (7, [some (some q2)])), (q2, .inl 4320), (q3, .inr (3, [some (some q4), some (some q5), some (some q6), none])), (q4, .inl 10), (q5, .inl 10), (q6, .inl 7200), (q7, .inr (0, [some (some q8), some (some q9), some (some q10), some (some q11), none])), (q8, .inl 12), (q9, .inl 12), (q10, .inl 12), (q11, .inl 12), (q12, .inr (6, [some (some q13), some (some q17), some (some q18), some (some q19), some none, none, none, none])), (q13, .inr (5, [some (some q14), some (some q15), some (some q16), none])), (q14, .inl 160), (q15, .inl 161), (q16, .inl 161), (q17, .inl 960), (q18, .inl 18), (q19, .inl 31), (q20, .inl 6)]) (k' := 8) (n' := 1501) rfl (Nat.le_of_ble_eq_true rfl) rfl rfl (Nat.le_of_ble_eq_true rfl) (Nat.le_of_ble_eq_true rfl) rfl (fun _ => rfl) (dX6_init 21 rfl) (fun q20 => ?_)
  refine R_putR (S' := [(q0, .inr (9, [some (some q1), some (some q3), some (some q7), some none, some none, some none, some none, some none, some none, none, none, none, none])), (q1, .inr (7, [some (some q2)])), (q2, .inl 4320), (q3, .inr (3, [some (some q4), some (some q5), some (some q6), none])), (q4, .inl 10), (q5, .inl 10), (q6, .inl 7200), (q7, .inr (0, [some (some q8), some (some q9), some (some q10), some (some q11), none])), (q8, .inl 12), (q9, .inl 12), (q10, .inl 12), (q11, .inl 12), (q12, .inr (6, [some (some q13), some (some q17), some (some q18), some (some q19), some (some q20), none, none, none])), (q13, .inr (5, [some (some q14), some (some q15), some (some q16), none])), (q14, .inl 160), (q15, .inl 161), (q16, .inl 161), (q17, .inl 960), (q18, .inl 18), (q19, .inl 31), (q20, .inl 6)]) cgX6 12 rfl 4 (Nat.le_of_ble_eq_true rfl) (Nat.le_of_ble_eq_true rfl) rfl rfl rfl rfl rfl tb_430 (dX6_init 22 rfl) rfl ?_
  refine tt_X6_init l g (fun k => ([q0, q1, q2, q3, q4, q5, q6, q7, q8, q9, q10, q11, q12, q13, q14, q15, q16, q17, q18, q19, q20] : List Nat).getD k 0) [(q0, .inr (9, [some (some q1), some (some q3), some (some q7), some none, some none, some none, some none, some none, some none, none, none, none, none])), (q1, .inr (7, [some (some q2)])), (q2, .inl 4320), (q3, .inr (3, [some (some q4), some (some q5), some (some q6), none])), (q4, .inl 10), (q5, .inl 10), (q6, .inl 7200), (q7, .inr (0, [some (some q8), some (some q9), some (some q10), some (some q11), none])), (q8, .inl 12), (q9, .inl 12), (q10, .inl 12), (q11, .inl 12), (q12, .inr (6, [some (some q13), some (some q17), some (some q18), some (some q19), some (some q20), none, none, none])), (q13, .inr (5, [some (some q14), some (some q15), some (some q16), none])), (q14, .inl 160), (q15, .inl 161), (q16, .inl 161), (q17, .inl 960), (q18, .inl 18), (q19, .inl 31), (q20, .inl 6)] _ (by intro k h1 h2; rcases (show k = 12 ∨ k = 13 ∨ k = 14 ∨ k = 15 ∨ k = 16 ∨ k = 17 ∨ k = 18 ∨ k = 19 ∨ k = 20 by omega) with rfl | rfl | rfl | rfl | rfl | rfl | rfl | rfl | rfl <;> rfl) H ?_
  exact ⟨rfl, rfl, q13, q14, q15, q16, q17, q18, q19, q20, rfl⟩
def f_X1_init (M : Mem) : Option (Int × Mem) :=
  some (0, (mup (mup (mup (mup (mup M 22 (fun _ => 0)) 23 (fun _ => 0)) 24 (fun _ => 0)) 25 (fun _ => 0)) 26 (fun _ => 0)))
set_option maxHeartbeats 8000000 in
set_option maxRecDepth 20000 in
theorem t_X1_init (l : Launch) (g : GG) (q0 q1 q2 q3 q4 q5 q6 q7 q8 q9 q10 q11 q12 q13 q14 q15 q16 q17 q18 q19 q20 q21 : Nat) (M : Mem) {r : Int} {M' : Mem} (H : f_X1_init M = some (r, M')) : CT l g MX1_init 1 5 6132 [(q0, .inr (9, [some (some q1), some (some q3), some (some q7), some (some q12), some none, some none, some none, some none, some none, none, none, none, none])), (q1, .inr (7, [some (some q2)])), (q2, .inl 4320), (q3, .inr (3, [some (some q4), some (some q5), some (some q6), none])), (q4, .inl 10), (q5, .inl 10), (q6, .inl 7200), (q7, .inr (0, [some (some q8), some (some q9), some (some q10), some (some q11), none])), (q8, .inl 12), (q9, .inl 12), (q10, .inl 12), (q11, .inl 12), (q12, .inr (6, [some (some q13), some (some q17), some (some q18), some (some q19), some (some q20), none, none, none])), (q13, .inr (5, [some (some q14), some (some q15), some (some q16), none])), (q14, .inl 160), (q15, .inl 161), (q16, .inl 161), (q17, .inl 960), (q18, .inl 18), (q19, .inl 31), (q20, .inl 6), (q21, .inr (1, [some none, some none, some none, some none, some none, none, none]))] M [.inr (.inr (some q21))] (fun r2 S2 M2 => r2 = none ∧ M2 = M' ∧ ∃ q22 : Nat, ∃ q23 : Nat, ∃ q24 : Nat, ∃ q25 : Nat, ∃ q26 : Nat, S2 = [(q0, .inr (9, [some (some q1), some (some q3), some (some q7), some (some q12), some none, some none, some none, some none, some none, none, none, none, none])), (q1, .inr (7, [some (some q2)])), (q2, .inl 4320), (q3, .inr (3, [some (some q4), some (some q5), some (some q6), none])), (q4, .inl 10), (q5, .inl 10), (q6, .inl 7200), (q7, .inr (0, [some (some q8), some (some q9), some (some q10), some (some q11), none])), (q8, .inl 12), (q9, .inl 12), (q10, .inl 12), (q11, .inl 12), (q12, .inr (6, [some (some q13), some (some q17), some (some q18), some (some q19), some (some q20), none, none, none])), (q13, .inr (5, [some (some q14), some (some q15), some (some q16), none])), (q14, .inl 160), (q15, .inl 161), (q16, .inl 161), (q17, .inl 960), (q18, .inl 18), (q19, .inl 31), (q20, .inl 6), (q21, .inr (1, [some (some q22), some (some q23), some (some q24), some (some q25), some (some q26), none, none])), (q22, .inl 720), (q23, .inl 36), (q24, .inl 640), (q25, .inl 640), (q26, .inl 4096)]) := by
  unfold f_X1_init at H
  refine CT_of (ls0 := [some (.inr (.inr (some q21)))]) (by decide +kernel) (Nat.le_of_ble_eq_true rfl) rfl ?_
  refine R_aload_n (i := 0) (dX1_init 0 rfl) rfl rfl ?_
  refine R_objInit tb_458 tb_95 tb_96 (Nat.le_of_ble_eq_true rfl) (Nat.le_of_ble_eq_true rfl) (Nat.le_of_ble_eq_true rfl) (dX1_init 1 rfl) ?_
  refine R_aload_n (i := 0) (dX1_init 2 rfl) rfl rfl ?_
  refine R_sipush (dX1_init 3 rfl) rfl rfl ?_
  refine R_newa2 (N := 720) (S' := fun q22 => [(q0, .inr (9, [some (some q1), some (some q3), some (some q7), some (some q12), some none, some none, some none, some none, some none, none, none, none, none])), (q1, .inr (7, [some (some q2)])), (q2, .inl 4320), (q3, .inr (3, [some (some q4), some (some q5), some (some q6), none])), (q4, .inl 10), (q5, .inl 10), (q6, .inl 7200), (q7, .inr (0, [some (some q8), some (some q9), some (some q10), some (some q11), none])), (q8, .inl 12), (q9, .inl 12), (q10, .inl 12), (q11, .inl 12), (q12, .inr (6, [some (some q13), some (some q17), some (some q18), some (some q19), some (some q20), none, none, none])), (q13, .inr (5, [some (some q14), some (some q15), some (some q16), none])), (q14, .inl 160), (q15, .inl 161), (q16, .inl 161), (q17, .inl 960), (q18, .inl 18), (q19, .inl 31), (q20, .inl 6), (q21, .inr (1, [some none, some none, some none, some none, some none, none, none])), (q22, .inl 720)]) (k' := 1) (n' := 720) rfl (Nat.le_of_ble_eq_true rfl) rfl rfl (Nat.le_of_ble_eq_true rfl) (Nat.le_of_ble_eq_true rfl) rfl (fun _ => rfl) (dX1_init 4 rfl) (fun q22 => ?_)
  refine R_putR (S' := [(q0, .inr (9, [some (some q1), some (some q3), some (some q7), some (some q12), some none, some none, some none, some none, some none, none, none, none, none])), (q1, .inr (7, [some (some q2)])), (q2, .inl 4320), (q3, .inr (3, [some (some q4), some (some q5), some (some q6), none])), (q4, .inl 10), (q5, .inl 10), (q6, .inl 7200), (q7, .inr (0, [some (some q8), some (some q9), some (some q10), some (some q11), none])), (q8, .inl 12), (q9, .inl 12), (q10, .inl 12), (q11, .inl 12), (q12, .inr (6, [some (some q13), some (some q17), some (some q18), some (some q19), some (some q20), none, none, none])), (q13, .inr (5, [some (some q14), some (some q15), some (some q16), none])), (q14, .inl 160), (q15, .inl 161), (q16, .inl 161), (q17, .inl 960), (q18, .inl 18), (q19, .inl 31), (q20, .inl 6), (q21, .inr (1, [some (some q22), some none, some none, some none, some none, none, none])), (q22, .inl 720)]) cgX1 21 rfl 0 (Nat.le_of_ble_eq_true rfl) (Nat.le_of_ble_eq_true rfl) rfl rfl rfl rfl rfl tb_459 (dX1_init 5 rfl) rfl ?_
  refine R_aload_n (i := 0) (dX1_init 6 rfl) rfl rfl ?_
  refine R_bipush (dX1_init 7 rfl) rfl rfl ?_
  refine R_newa2 (N := 36) (S' := fun q23 => [(q0, .inr (9, [some (some q1), some (some q3), some (some q7), some (some q12), some none, some none, some none, some none, some none, none, none, none, none])), (q1, .inr (7, [some (some q2)])), (q2, .inl 4320), (q3, .inr (3, [some (some q4), some (some q5), some (some q6), none])), (q4, .inl 10), (q5, .inl 10), (q6, .inl 7200), (q7, .inr (0, [some (some q8), some (some q9), some (some q10), some (some q11), none])), (q8, .inl 12), (q9, .inl 12), (q10, .inl 12), (q11, .inl 12), (q12, .inr (6, [some (some q13), some (some q17), some (some q18), some (some q19), some (some q20), none, none, none])), (q13, .inr (5, [some (some q14), some (some q15), some (some q16), none])), (q14, .inl 160), (q15, .inl 161), (q16, .inl 161), (q17, .inl 960), (q18, .inl 18), (q19, .inl 31), (q20, .inl 6), (q21, .inr (1, [some (some q22), some none, some none, some none, some none, none, none])), (q22, .inl 720), (q23, .inl 36)]) (k' := 2) (n' := 756) rfl (Nat.le_of_ble_eq_true rfl) rfl rfl (Nat.le_of_ble_eq_true rfl) (Nat.le_of_ble_eq_true rfl) rfl (fun _ => rfl) (dX1_init 8 rfl) (fun q23 => ?_)
  refine R_putR (S' := [(q0, .inr (9, [some (some q1), some (some q3), some (some q7), some (some q12), some none, some none, some none, some none, some none, none, none, none, none])), (q1, .inr (7, [some (some q2)])), (q2, .inl 4320), (q3, .inr (3, [some (some q4), some (some q5), some (some q6), none])), (q4, .inl 10), (q5, .inl 10), (q6, .inl 7200), (q7, .inr (0, [some (some q8), some (some q9), some (some q10), some (some q11), none])), (q8, .inl 12), (q9, .inl 12), (q10, .inl 12), (q11, .inl 12), (q12, .inr (6, [some (some q13), some (some q17), some (some q18), some (some q19), some (some q20), none, none, none])), (q13, .inr (5, [some (some q14), some (some q15), some (some q16), none])), (q14, .inl 160), (q15, .inl 161), (q16, .inl 161), (q17, .inl 960), (q18, .inl 18), (q19, .inl 31), (q20, .inl 6), (q21, .inr (1, [some (some q22), some (some q23), some none, some none, some none, none, none])), (q22, .inl 720), (q23, .inl 36)]) cgX1 21 rfl 1 (Nat.le_of_ble_eq_true rfl) (Nat.le_of_ble_eq_true rfl) rfl rfl rfl rfl rfl tb_460 (dX1_init 9 rfl) rfl ?_
  refine R_aload_n (i := 0) (dX1_init 10 rfl) rfl rfl ?_
  refine R_sipush (dX1_init 11 rfl) rfl rfl ?_
  refine R_newa2 (N := 640) (S' := fun q24 => [(q0, .inr (9, [some (some q1), some (some q3), some (some q7), some (some q12), some none, some none, some none, some none, some none, none, none, none, none])), (q1, .inr (7, [some (some q2)])), (q2, .inl 4320), (q3, .inr (3, [some (some q4), some (some q5), some (some q6), none])), (q4, .inl 10), (q5, .inl 10), (q6, .inl 7200), (q7, .inr (0, [some (some q8), some (some q9), some (some q10), some (some q11), none])), (q8, .inl 12), (q9, .inl 12), (q10, .inl 12), (q11, .inl 12), (q12, .inr (6, [some (some q13), some (some q17), some (some q18), some (some q19), some (some q20), none, none, none])), (q13, .inr (5, [some (some q14), some (some q15), some (some q16), none])), (q14, .inl 160), (q15, .inl 161), (q16, .inl 161), (q17, .inl 960), (q18, .inl 18), (q19, .inl 31), (q20, .inl 6), (q21, .inr (1, [some (some q22), some (some q23), some none, some none, some none, none, none])), (q22, .inl 720), (q23, .inl 36), (q24, .inl 640)]) (k' := 3) (n' := 1396) rfl (Nat.le_of_ble_eq_true rfl) rfl rfl (Nat.le_of_ble_eq_true rfl) (Nat.le_of_ble_eq_true rfl) rfl (fun _ => rfl) (dX1_init 12 rfl) (fun q24 => ?_)
  refine R_putR (S' := [(q0, .inr (9, [some (some q1), some (some q3), some (some q7), some (some q12), some none, some none, some none, some none, some none, none, none, none, none])), (q1, .inr (7, [some (some q2)])), (q2, .inl 4320), (q3, .inr (3, [some (some q4), some (some q5), some (some q6), none])), (q4, .inl 10), (q5, .inl 10), (q6, .inl 7200), (q7, .inr (0, [some (some q8), some (some q9), some (some q10), some (some q11), none])), (q8, .inl 12), (q9, .inl 12), (q10, .inl 12), (q11, .inl 12), (q12, .inr (6, [some (some q13), some (some q17), some (some q18), some (some q19), some (some q20), none, none, none])), (q13, .inr (5, [some (some q14), some (some q15), some (some q16), none])), (q14, .inl 160), (q15, .inl 161), (q16, .inl 161), (q17, .inl 960), (q18, .inl 18), (q19, .inl 31), (q20, .inl 6), (q21, .inr (1, [some (some q22), some (some q23), some (some q24), some none, some none, none, none])), (q22, .inl 720), (q23, .inl 36), (q24, .inl 640)]) cgX1 21 rfl 2 (Nat.le_of_ble_eq_true rfl) (Nat.le_of_ble_eq_true rfl) rfl rfl rfl rfl rfl tb_461 (dX1_init 13 rfl) rfl ?_
  refine R_aload_n (i := 0) (dX1_init 14 rfl) rfl rfl ?_
  refine R_sipush (dX1_init 15 rfl) rfl rfl ?_
  refine R_newa2 (N := 640) (S' := fun q25 => [(q0, .inr (9, [some (some q1), some (some q3), some (some q7), some (some q12), some none, some none, some none, some none, some none, none, none, none, none])), (q1, .inr (7, [some (some q2)])), (q2, .inl 4320), (q3, .inr (3, [some (some q4), some (some q5), some (some q6), none])), (q4, .inl 10), (q5, .inl 10), (q6, .inl 7200), (q7, .inr (0, [some (some q8), some (some q9), some (some q10), some (some q11), none])), (q8, .inl 12), (q9, .inl 12), (q10, .inl 12), (q11, .inl 12), (q12, .inr (6, [some (some q13), some (some q17), some (some q18), some (some q19), some (some q20), none, none, none])), (q13, .inr (5, [some (some q14), some (some q15), some (some q16), none])), (q14, .inl 160), (q15, .inl 161), (q16, .inl 161), (q17, .inl 960), (q18, .inl 18), (q19, .inl 31), (q20, .inl 6), (q21, .inr (1, [some (some q22), some (some q23), some (some q24), some none, some none, none, none])), (q22, .inl 720), (q23, .inl 36), (q24, .inl 640), (q25, .inl 640)]) (k' := 4) (n' := 2036) rfl (Nat.le_of_ble_eq_true rfl) rfl rfl (Nat.le_of_ble_eq_true rfl) (Nat.le_of_ble_eq_true rfl) rfl (fun _ => rfl) (dX1_init 16 rfl) (fun q25 => ?_)
  refine R_putR (S' := [(q0, .inr (9, [some (some q1), some (some q3), some (some q7), some (some q12), some none, some none, some none, some none, some none, none, none, none, none])), (q1, .inr (7, [some (some q2)])), (q2, .inl 4320), (q3, .inr (3, [some (some q4), some (some q5), some (some q6), none])), (q4, .inl 10), (q5, .inl 10), (q6, .inl 7200), (q7, .inr (0, [some (some q8), some (some q9), some (some q10), some (some q11), none])), (q8, .inl 12), (q9, .inl 12), (q10, .inl 12), (q11, .inl 12), (q12, .inr (6, [some (some q13), some (some q17), some (some q18), some (some q19), some (some q20), none, none, none])), (q13, .inr (5, [some (some q14), some (some q15), some (some q16), none])), (q14, .inl 160), (q15, .inl 161), (q16, .inl 161), (q17, .inl 960), (q18, .inl 18), (q19, .inl 31), (q20, .inl 6), (q21, .inr (1, [some (some q22), some (some q23), some (some q24), some (some q25), some none, none, none])), (q22, .inl 720), (q23, .inl 36), (q24, .inl 640), (q25, .inl 640)]) cgX1 21 rfl 3 (Nat.le_of_ble_eq_true rfl) (Nat.le_of_ble_eq_true rfl) rfl rfl rfl rfl rfl tb_462 (dX1_init 17 rfl) rfl ?_
  refine R_aload_n (i := 0) (dX1_init 18 rfl) rfl rfl ?_
  refine R_sipush (dX1_init 19 rfl) rfl rfl ?_
  refine R_newa2 (N := 4096) (S' := fun q26 => [(q0, .inr (9, [some (some q1), some (some q3), some (some q7), some (some q12), some none, some none, some none, some none, some none, none, none, none, none])), (q1, .inr (7, [some (some q2)])), (q2, .inl 4320), (q3, .inr (3, [some (some q4), some (some q5), some (some q6), none])), (q4, .inl 10), (q5, .inl 10), (q6, .inl 7200), (q7, .inr (0, [some (some q8), some (some q9), some (some q10), some (some q11), none])), (q8, .inl 12), (q9, .inl 12), (q10, .inl 12), (q11, .inl 12), (q12, .inr (6, [some (some q13), some (some q17), some (some q18), some (some q19), some (some q20), none, none, none])), (q13, .inr (5, [some (some q14), some (some q15), some (some q16), none])), (q14, .inl 160), (q15, .inl 161), (q16, .inl 161), (q17, .inl 960), (q18, .inl 18), (q19, .inl 31), (q20, .inl 6), (q21, .inr (1, [some (some q22), some (some q23), some (some q24), some (some q25), some none, none, none])), (q22, .inl 720), (q23, .inl 36), (q24, .inl 640), (q25, .inl 640), (q26, .inl 4096)]) (k' := 5) (n' := 6132) rfl (Nat.le_of_ble_eq_true rfl) rfl rfl (Nat.le_of_ble_eq_true rfl) (Nat.le_of_ble_eq_true rfl) rfl (fun _ => rfl) (dX1_init 20 rfl) (fun q26 => ?_)
  refine R_putR (S' := [(q0, .inr (9, [some (some q1), some (some q3), some (some q7), some (some q12), some none, some none, some none, some none, some none, none, none, none, none])), (q1, .inr (7, [some (some q2)])), (q2, .inl 4320), (q3, .inr (3, [some (some q4), some (some q5), some (some q6), none])), (q4, .inl 10), (q5, .inl 10), (q6, .inl 7200), (q7, .inr (0, [some (some q8), some (some q9), some (some q10), some (some q11), none])), (q8, .inl 12), (q9, .inl 12), (q10, .inl 12), (q11, .inl 12), (q12, .inr (6, [some (some q13), some (some q17), some (some q18), some (some q19), some (some q20), none, none, none])), (q13, .inr (5, [some (some q14), some (some q15), some (some q16), none])), (q14, .inl 160), (q15, .inl 161), (q16, .inl 161), (q17, .inl 960), (q18, .inl 18), (q19, .inl 31), (q20, .inl 6), (q21, .inr (1, [some (some q22), some (some q23), some (some q24), some (some q25), some (some q26), none, none])), (q22, .inl 720), (q23, .inl 36), (q24, .inl 640), (q25, .inl 640), (q26, .inl 4096)]) cgX1 21 rfl 4 (Nat.le_of_ble_eq_true rfl) (Nat.le_of_ble_eq_true rfl) rfl rfl rfl rfl rfl tb_463 (dX1_init 21 rfl) rfl ?_
  exact R_vret rfl (Nat.le_of_ble_eq_true rfl) (Nat.le_of_ble_eq_true rfl) (dX1_init 22 rfl) ⟨rfl, (Prod.mk.inj (Option.some.inj H)).2, q22, q23, q24, q25, q26, rfl⟩
def f_X8_init (M : Mem) : Option (Int × Mem) :=
  some (0, (mup (mup (mup M 28 (fun _ => 0)) 29 (fun _ => 0)) 30 (fun _ => 0)))
set_option maxHeartbeats 8000000 in
set_option maxRecDepth 20000 in
theorem t_X8_init (l : Launch) (g : GG) (q0 q1 q2 q3 q4 q5 q6 q7 q8 q9 q10 q11 q12 q13 q14 q15 q16 q17 q18 q19 q20 q21 q22 q23 q24 q25 q26 q27 : Nat) (M : Mem) {r : Int} {M' : Mem} (H : f_X8_init M = some (r, M')) : CT l g MX8_init 1 3 48 [(q0, .inr (9, [some (some q1), some (some q3), some (some q7), some (some q12), some (some q21), some none, some none, some none, some none, none, none, none, none])), (q1, .inr (7, [some (some q2)])), (q2, .inl 4320), (q3, .inr (3, [some (some q4), some (some q5), some (some q6), none])), (q4, .inl 10), (q5, .inl 10), (q6, .inl 7200), (q7, .inr (0, [some (some q8), some (some q9), some (some q10), some (some q11), none])), (q8, .inl 12), (q9, .inl 12), (q10, .inl 12), (q11, .inl 12), (q12, .inr (6, [some (some q13), some (some q17), some (some q18), some (some q19), some (some q20), none, none, none])), (q13, .inr (5, [some (some q14), some (some q15), some (some q16), none])), (q14, .inl 160), (q15, .inl 161), (q16, .inl 161), (q17, .inl 960), (q18, .inl 18), (q19, .inl 31), (q20, .inl 6), (q21, .inr (1, [some (some q22), some (some q23), some (some q24), some (some q25), some (some q26), none, none])), (q22, .inl 720), (q23, .inl 36), (q24, .inl 640), (q25, .inl 640), (q26, .inl 4096), (q27, .inr (8, [some none, some none, some none, none, none]))] M [.inr (.inr (some q27))] (fun r2 S2 M2 => r2 = none ∧ M2 = M' ∧ ∃ q28 : Nat, ∃ q29 : Nat, ∃ q30 : Nat, S2 = [(q0, .inr (9, [some (some q1), some (some q3), some (some q7), some (some q12), some (some q21), some none, some none, some none, some none, none, none, none, none])), (q1, .inr (7, [some (some q2)])), (q2, .inl 4320), (q3, .inr (3, [some (some q4), some (some q5), some (some q6), none])), (q4, .inl 10), (q5, .inl 10), (q6, .inl 7200), (q7, .inr (0, [some (some q8), some (some q9), some (some q10), some (some q11), none])), (q8, .inl 12), (q9, .inl 12), (q10, .inl 12), (q11, .inl 12), (q12, .inr (6, [some (some q13), some (some q17), some (some q18), some (some q19), some (some q20), none, none, none])), (q13, .inr (5, [some (some q14), some (some q15), some (some q16), none])), (q14, .inl 160), (q15, .inl 161), (q16, .inl 161), (q17, .inl 960), (q18, .inl 18), (q19, .inl 31), (q20, .inl 6), (q21, .inr (1, [some (some q22), some (some q23), some (some q24), some (some q25), some (some q26), none, none])), (q22, .inl 720), (q23, .inl 36), (q24, .inl 640), (q25, .inl 640), (q26, .inl 4096), (q27, .inr (8, [some (some q28), some (some q29), some (some q30), none, none])), (q28, .inl 40), (q29, .inl 4), (q30, .inl 4)]) := by
  unfold f_X8_init at H
  refine CT_of (ls0 := [some (.inr (.inr (some q27)))]) (by decide +kernel) (Nat.le_of_ble_eq_true rfl) rfl ?_
  refine R_aload_n (i := 0) (dX8_init 0 rfl) rfl rfl ?_
  refine R_objInit tb_488 tb_95 tb_96 (Nat.le_of_ble_eq_true rfl) (Nat.le_of_ble_eq_true rfl) (Nat.le_of_ble_eq_true rfl) (dX8_init 1 rfl) ?_
  refine R_aload_n (i := 0) (dX8_init 2 rfl) rfl rfl ?_
  refine R_bipush (dX8_init 3 rfl) rfl rfl ?_
  refine R_newa2 (N := 40) (S' := fun q28 => [(q0, .inr (9, [some (some q1), some (some q3), some (some q7), some (some q12), some (some q21), some none, some none, some none, some none, none, none, none, none])), (q1, .inr (7, [some (some q2)])), (q2, .inl 4320), (q3, .inr (3, [some (some q4), some (some q5), some (some q6), none])), (q4, .inl 10), (q5, .inl 10), (q6, .inl 7200), (q7, .inr (0, [some (some q8), some (some q9), some (some q10), some (some q11), none])), (q8, .inl 12), (q9, .inl 12), (q10, .inl 12), (q11, .inl 12), (q12, .inr (6, [some (some q13), some (some q17), some (some q18), some (some q19), some (some q20), none, none, none])), (q13, .inr (5, [some (some q14), some (some q15), some (some q16), none])), (q14, .inl 160), (q15, .inl 161), (q16, .inl 161), (q17, .inl 960), (q18, .inl 18), (q19, .inl 31), (q20, .inl 6), (q21, .inr (1, [some (some q22), some (some q23), some (some q24), some (some q25), some (some q26), none, none])), (q22, .inl 720), (q23, .inl 36), (q24, .inl 640), (q25, .inl 640), (q26, .inl 4096), (q27, .inr (8, [some none, some none, some none, none, none])), (q28, .inl 40)]) (k' := 1) (n' := 40) rfl (Nat.le_of_ble_eq_true rfl) rfl rfl (Nat.le_of_ble_eq_true rfl) (Nat.le_of_ble_eq_true rfl) rfl (fun _ => rfl) (dX8_init 4 rfl) (fun q28 => ?_)
  refine R_putR (S' := [(q0, .inr (9, [some (some q1), some (some q3), some (some q7), some (some q12), some (some q21), some none, some none, some none, some none, none, none, none, none])), (q1, .inr (7, [some (some q2)])), (q2, .inl 4320), (q3, .inr (3, [some (some q4), some (some q5), some (some q6), none])), (q4, .inl 10), (q5, .inl 10), (q6, .inl 7200), (q7, .inr (0, [some (some q8), some (some q9), some (some q10), some (some q11), none])), (q8, .inl 12), (q9, .inl 12), (q10, .inl 12), (q11, .inl 12), (q12, .inr (6, [some (some q13), some (some q17), some (some q18), some (some q19), some (some q20), none, none, none])), (q13, .inr (5, [some (some q14), some (some q15), some (some q16), none])), (q14, .inl 160), (q15, .inl 161), (q16, .inl 161), (q17, .inl 960), (q18, .inl 18), (q19, .inl 31), (q20, .inl 6), (q21, .inr (1, [some (some q22), some (some q23), some (some q24), some (some q25), some (some q26), none, none])), (q22, .inl 720), (q23, .inl 36), (q24, .inl 640), (q25, .inl 640), (q26, .inl 4096), (q27, .inr (8, [some (some q28), some none, some none, none, none])), (q28, .inl 40)]) cgX8 27 rfl 0 (Nat.le_of_ble_eq_true rfl) (Nat.le_of_ble_eq_true rfl) rfl rfl rfl rfl rfl tb_489 (dX8_init 5 rfl) rfl ?_
  refine R_aload_n (i := 0) (dX8_init 6 rfl) rfl rfl ?_
  refine R_iconst (dX8_init 7 rfl) rfl ?_
  refine R_newa2 (N := 4) (S' := fun q29 => [(q0, .inr (9, [some (some q1), some (some q3), some (some q7), some (some q12), some (some q21), some none, some none, some none, some none, none, none, none, none])), (q1, .inr (7, [some (some q2)])), (q2, .inl 4320), (q3, .inr (3, [some (some q4), some (some q5), some (some q6), none])), (q4, .inl 10), (q5, .inl 10), (q6, .inl 7200), (q7, .inr (0, [some (some q8), some (some q9), some (some q10), some (some q11), none])), (q8, .inl 12), (q9, .inl 12), (q10, .inl 12), (q11, .inl 12), (q12, .inr (6, [some (some q13), some (some q17), some (some q18), some (some q19), some (some q20), none, none, none])), (q13, .inr (5, [some (some q14), some (some q15), some (some q16), none])), (q14, .inl 160), (q15, .inl 161), (q16, .inl 161), (q17, .inl 960), (q18, .inl 18), (q19, .inl 31), (q20, .inl 6), (q21, .inr (1, [some (some q22), some (some q23), some (some q24), some (some q25), some (some q26), none, none])), (q22, .inl 720), (q23, .inl 36), (q24, .inl 640), (q25, .inl 640), (q26, .inl 4096), (q27, .inr (8, [some (some q28), some none, some none, none, none])), (q28, .inl 40), (q29, .inl 4)]) (k' := 2) (n' := 44) rfl (Nat.le_of_ble_eq_true rfl) rfl rfl (Nat.le_of_ble_eq_true rfl) (Nat.le_of_ble_eq_true rfl) rfl (fun _ => rfl) (dX8_init 8 rfl) (fun q29 => ?_)
  refine R_putR (S' := [(q0, .inr (9, [some (some q1), some (some q3), some (some q7), some (some q12), some (some q21), some none, some none, some none, some none, none, none, none, none])), (q1, .inr (7, [some (some q2)])), (q2, .inl 4320), (q3, .inr (3, [some (some q4), some (some q5), some (some q6), none])), (q4, .inl 10), (q5, .inl 10), (q6, .inl 7200), (q7, .inr (0, [some (some q8), some (some q9), some (some q10), some (some q11), none])), (q8, .inl 12), (q9, .inl 12), (q10, .inl 12), (q11, .inl 12), (q12, .inr (6, [some (some q13), some (some q17), some (some q18), some (some q19), some (some q20), none, none, none])), (q13, .inr (5, [some (some q14), some (some q15), some (some q16), none])), (q14, .inl 160), (q15, .inl 161), (q16, .inl 161), (q17, .inl 960), (q18, .inl 18), (q19, .inl 31), (q20, .inl 6), (q21, .inr (1, [some (some q22), some (some q23), some (some q24), some (some q25), some (some q26), none, none])), (q22, .inl 720), (q23, .inl 36), (q24, .inl 640), (q25, .inl 640), (q26, .inl 4096), (q27, .inr (8, [some (some q28), some (some q29), some none, none, none])), (q28, .inl 40), (q29, .inl 4)]) cgX8 27 rfl 1 (Nat.le_of_ble_eq_true rfl) (Nat.le_of_ble_eq_true rfl) rfl rfl rfl rfl rfl tb_490 (dX8_init 9 rfl) rfl ?_
  refine R_aload_n (i := 0) (dX8_init 10 rfl) rfl rfl ?_
  refine R_iconst (dX8_init 11 rfl) rfl ?_
  refine R_newa2 (N := 4) (S' := fun q30 => [(q0, .inr (9, [some (some q1), some (some q3), some (some q7), some (some q12), some (some q21), some none, some none, some none, some none, none, none, none, none])), (q1, .inr (7, [some (some q2)])), (q2, .inl 4320), (q3, .inr (3, [some (some q4), some (some q5), some (some q6), none])), (q4, .inl 10), (q5, .inl 10), (q6, .inl 7200), (q7, .inr (0, [some (some q8), some (some q9), some (some q10), some (some q11), none])), (q8, .inl 12), (q9, .inl 12), (q10, .inl 12), (q11, .inl 12), (q12, .inr (6, [some (some q13), some (some q17), some (some q18), some (some q19), some (some q20), none, none, none])), (q13, .inr (5, [some (some q14), some (some q15), some (some q16), none])), (q14, .inl 160), (q15, .inl 161), (q16, .inl 161), (q17, .inl 960), (q18, .inl 18), (q19, .inl 31), (q20, .inl 6), (q21, .inr (1, [some (some q22), some (some q23), some (some q24), some (some q25), some (some q26), none, none])), (q22, .inl 720), (q23, .inl 36), (q24, .inl 640), (q25, .inl 640), (q26, .inl 4096), (q27, .inr (8, [some (some q28), some (some q29), some none, none, none])), (q28, .inl 40), (q29, .inl 4), (q30, .inl 4)]) (k' := 3) (n' := 48) rfl (Nat.le_of_ble_eq_true rfl) rfl rfl (Nat.le_of_ble_eq_true rfl) (Nat.le_of_ble_eq_true rfl) rfl (fun _ => rfl) (dX8_init 12 rfl) (fun q30 => ?_)
  refine R_putR (S' := [(q0, .inr (9, [some (some q1), some (some q3), some (some q7), some (some q12), some (some q21), some none, some none, some none, some none, none, none, none, none])), (q1, .inr (7, [some (some q2)])), (q2, .inl 4320), (q3, .inr (3, [some (some q4), some (some q5), some (some q6), none])), (q4, .inl 10), (q5, .inl 10), (q6, .inl 7200), (q7, .inr (0, [some (some q8), some (some q9), some (some q10), some (some q11), none])), (q8, .inl 12), (q9, .inl 12), (q10, .inl 12), (q11, .inl 12), (q12, .inr (6, [some (some q13), some (some q17), some (some q18), some (some q19), some (some q20), none, none, none])), (q13, .inr (5, [some (some q14), some (some q15), some (some q16), none])), (q14, .inl 160), (q15, .inl 161), (q16, .inl 161), (q17, .inl 960), (q18, .inl 18), (q19, .inl 31), (q20, .inl 6), (q21, .inr (1, [some (some q22), some (some q23), some (some q24), some (some q25), some (some q26), none, none])), (q22, .inl 720), (q23, .inl 36), (q24, .inl 640), (q25, .inl 640), (q26, .inl 4096), (q27, .inr (8, [some (some q28), some (some q29), some (some q30), none, none])), (q28, .inl 40), (q29, .inl 4), (q30, .inl 4)]) cgX8 27 rfl 2 (Nat.le_of_ble_eq_true rfl) (Nat.le_of_ble_eq_true rfl) rfl rfl rfl rfl rfl tb_491 (dX8_init 13 rfl) rfl ?_
  exact R_vret rfl (Nat.le_of_ble_eq_true rfl) (Nat.le_of_ble_eq_true rfl) (dX8_init 14 rfl) ⟨rfl, (Prod.mk.inj (Option.some.inj H)).2, q28, q29, q30, rfl⟩
def f_X2_init (M : Mem) : Option (Int × Mem) :=
  some (0, (mup M 32 (fun _ => 0)))
set_option maxHeartbeats 8000000 in
set_option maxRecDepth 20000 in
theorem t_X2_init (l : Launch) (g : GG) (q0 q1 q2 q3 q4 q5 q6 q7 q8 q9 q10 q11 q12 q13 q14 q15 q16 q17 q18 q19 q20 q21 q22 q23 q24 q25 q26 q27 q28 q29 q30 q31 : Nat) (M : Mem) {r : Int} {M' : Mem} (H : f_X2_init M = some (r, M')) : CT l g MX2_init 1 1 10 [(q0, .inr (9, [some (some q1), some (some q3), some (some q7), some (some q12), some (some q21), some (some q27), some none, some none, some none, none, none, none, none])), (q1, .inr (7, [some (some q2)])), (q2, .inl 4320), (q3, .inr (3, [some (some q4), some (some q5), some (some q6), none])), (q4, .inl 10), (q5, .inl 10), (q6, .inl 7200), (q7, .inr (0, [some (some q8), some (some q9), some (some q10), some (some q11), none])), (q8, .inl 12), (q9, .inl 12), (q10, .inl 12), (q11, .inl 12), (q12, .inr (6, [some (some q13), some (some q17), some (some q18), some (some q19), some (some q20), none, none, none])), (q13, .inr (5, [some (some q14), some (some q15), some (some q16), none])), (q14, .inl 160), (q15, .inl 161), (q16, .inl 161), (q17, .inl 960), (q18, .inl 18), (q19, .inl 31), (q20, .inl 6), (q21, .inr (1, [some (some q22), some (some q23), some (some q24), some (some q25), some (some q26), none, none])), (q22, .inl 720), (q23, .inl 36), (q24, .inl 640), (q25, .inl 640), (q26, .inl 4096), (q27, .inr (8, [some (some q28), some (some q29), some (some q30), none, none])), (q28, .inl 40), (q29, .inl 4), (q30, .inl 4), (q31, .inr (2, [some none, none, none, none, none, none, none]))] M [.inr (.inr (some q31))] (fun r2 S2 M2 => r2 = none ∧ M2 = M' ∧ ∃ q32 : Nat, S2 = [(q0, .inr (9, [some (some q1), some (some q3), some (some q7), some (some q12), some (some q21), some (some q27), some none, some none, some none, none, none, none, none])), (q1, .inr (7, [some (some q2)])), (q2, .inl 4320), (q3, .inr (3, [some (some q4), some (some q5), some (some q6), none])), (q4, .inl 10), (q5, .inl 10), (q6, .inl 7200), (q7, .inr (0, [some (some q8), some (some q9), some (some q10), some (some q11), none])), (q8, .inl 12), (q9, .inl 12), (q10, .inl 12), (q11, .inl 12), (q12, .inr (6, [some (some q13), some (some q17), some (some q18), some (some q19), some (some q20), none, none, none])), (q13, .inr (5, [some (some q14), some (some q15), some (some q16), none])), (q14, .inl 160), (q15, .inl 161), (q16, .inl 161), (q17, .inl 960), (q18, .inl 18), (q19, .inl 31), (q20, .inl 6), (q21, .inr (1, [some (some q22), some (some q23), some (some q24), some (some q25), some (some q26), none, none])), (q22, .inl 720), (q23, .inl 36), (q24, .inl 640), (q25, .inl 640), (q26, .inl 4096), (q27, .inr (8, [some (some q28), some (some q29), some (some q30), none, none])), (q28, .inl 40), (q29, .inl 4), (q30, .inl 4), (q31, .inr (2, [some (some q32), none, none, none, none, none, none])), (q32, .inl 10)]) := by
  unfold f_X2_init at H
  refine CT_of (ls0 := [some (.inr (.inr (some q31)))]) (by decide +kernel) (Nat.le_of_ble_eq_true rfl) rfl ?_
  refine R_aload_n (i := 0) (dX2_init 0 rfl) rfl rfl ?_
  refine R_objInit tb_513 tb_95 tb_96 (Nat.le_of_ble_eq_true rfl) (Nat.le_of_ble_eq_true rfl) (Nat.le_of_ble_eq_true rfl) (dX2_init 1 rfl) ?_
  refine R_aload_n (i := 0) (dX2_init 2 rfl) rfl rfl ?_
  refine R_bipush (dX2_init 3 rfl) rfl rfl ?_
  refine R_newa2 (N := 10) (S' := fun q32 => [(q0, .inr (9, [some (some q1), some (some q3), some (some q7), some (some q12), some (some q21), some (some q27), some none, some none, some none, none, none, none, none])), (q1, .inr (7, [some (some q2)])), (q2, .inl 4320), (q3, .inr (3, [some (some q4), some (some q5), some (some q6), none])), (q4, .inl 10), (q5, .inl 10), (q6, .inl 7200), (q7, .inr (0, [some (some q8), some (some q9), some (some q10), some (some q11), none])), (q8, .inl 12), (q9, .inl 12), (q10, .inl 12), (q11, .inl 12), (q12, .inr (6, [some (some q13), some (some q17), some (some q18), some (some q19), some (some q20), none, none, none])), (q13, .inr (5, [some (some q14), some (some q15), some (some q16), none])), (q14, .inl 160), (q15, .inl 161), (q16, .inl 161), (q17, .inl 960), (q18, .inl 18), (q19, .inl 31), (q20, .inl 6), (q21, .inr (1, [some (some q22), some (some q23), some (some q24), some (some q25), some (some q26), none, none])), (q22, .inl 720), (q23, .inl 36), (q24, .inl 640), (q25, .inl 640), (q26, .inl 4096), (q27, .inr (8, [some (some q28), some (some q29), some (some q30), none, none])), (q28, .inl 40), (q29, .inl 4), (q30, .inl 4), (q31, .inr (2, [some none, none, none, none, none, none, none])), (q32, .inl 10)]) (k' := 1) (n' := 10) rfl (Nat.le_of_ble_eq_true rfl) rfl rfl (Nat.le_of_ble_eq_true rfl) (Nat.le_of_ble_eq_true rfl) rfl (fun _ => rfl) (dX2_init 4 rfl) (fun q32 => ?_)
  refine R_putR (S' := [(q0, .inr (9, [some (some q1), some (some q3), some (some q7), some (some q12), some (some q21), some (some q27), some none, some none, some none, none, none, none, none])), (q1, .inr (7, [some (some q2)])), (q2, .inl 4320), (q3, .inr (3, [some (some q4), some (some q5), some (some q6), none])), (q4, .inl 10), (q5, .inl 10), (q6, .inl 7200), (q7, .inr (0, [some (some q8), some (some q9), some (some q10), some (some q11), none])), (q8, .inl 12), (q9, .inl 12), (q10, .inl 12), (q11, .inl 12), (q12, .inr (6, [some (some q13), some (some q17), some (some q18), some (some q19), some (some q20), none, none, none])), (q13, .inr (5, [some (some q14), some (some q15), some (some q16), none])), (q14, .inl 160), (q15, .inl 161), (q16, .inl 161), (q17, .inl 960), (q18, .inl 18), (q19, .inl 31), (q20, .inl 6), (q21, .inr (1, [some (some q22), some (some q23), some (some q24), some (some q25), some (some q26), none, none])), (q22, .inl 720), (q23, .inl 36), (q24, .inl 640), (q25, .inl 640), (q26, .inl 4096), (q27, .inr (8, [some (some q28), some (some q29), some (some q30), none, none])), (q28, .inl 40), (q29, .inl 4), (q30, .inl 4), (q31, .inr (2, [some (some q32), none, none, none, none, none, none])), (q32, .inl 10)]) cgX2 31 rfl 0 (Nat.le_of_ble_eq_true rfl) (Nat.le_of_ble_eq_true rfl) rfl rfl rfl rfl rfl tb_514 (dX2_init 5 rfl) rfl ?_
  exact R_vret rfl (Nat.le_of_ble_eq_true rfl) (Nat.le_of_ble_eq_true rfl) (dX2_init 6 rfl) ⟨rfl, (Prod.mk.inj (Option.some.inj H)).2, q32, rfl⟩
def f_X4_init (M : Mem) : Option (Int × Mem) :=
  some (0, (mup (mup (mset (mset (mset (mset (mup M 34 (fun _ => 0)) 34 0 (-1)) 34 1 (-1)) 34 2 (-1)) 34 3 (-1)) 35 (fun _ => 0)) 36 (fun _ => 0)))
set_option maxHeartbeats 8000000 in
set_option maxRecDepth 20000 in
theorem t_X4_init (l : Launch) (g : GG) (q0 q1 q2 q3 q4 q5 q6 q7 q8 q9 q10 q11 q12 q13 q14 q15 q16 q17 q18 q19 q20 q21 q22 q23 q24 q25 q26 q27 q28 q29 q30 q31 q32 q33 : Nat) (M : Mem) {r : Int} {M' : Mem} (H : f_X4_init M = some (r, M')) : CT l g MX4_init 1 3 168 [(q0, .inr (9, [some (some q1), some (some q3), some (some q7), some (some q12), some (some q21), some (some q27), some (some q31), some none, some none, none, none, none, none])), (q1, .inr (7, [some (some q2)])), (q2, .inl 4320), (q3, .inr (3, [some (some q4), some (some q5), some (some q6), none])), (q4, .inl 10), (q5, .inl 10), (q6, .inl 7200), (q7, .inr (0, [some (some q8), some (some q9), some (some q10), some (some q11), none])), (q8, .inl 12), (q9, .inl 12), (q10, .inl 12), (q11, .inl 12), (q12, .inr (6, [some (some q13), some (some q17), some (some q18), some (some q19), some (some q20), none, none, none])), (q13, .inr (5, [some (some q14), some (some q15), some (some q16), none])), (q14, .inl 160), (q15, .inl 161), (q16, .inl 161), (q17, .inl 960), (q18, .inl 18), (q19, .inl 31), (q20, .inl 6), (q21, .inr (1, [some (some q22), some (some q23), some (some q24), some (some q25), some (some q26), none, none])), (q22, .inl 720), (q23, .inl 36), (q24, .inl 640), (q25, .inl 640), (q26, .inl 4096), (q27, .inr (8, [some (some q28), some (some q29), some (some q30), none, none])), (q28, .inl 40), (q29, .inl 4), (q30, .inl 4), (q31, .inr (2, [some (some q32), none, none, none, none, none, none])), (q32, .inl 10), (q33, .inr (4, [some none, some none, some none]))] M [.inr (.inr (some q33))] (fun r2 S2 M2 => r2 = none ∧ M2 = M' ∧ ∃ q34 : Nat, ∃ q35 : Nat, ∃ q36 : Nat, S2 = [(q0, .inr (9, [some (some q1), some (some q3), some (some q7), some (some q12), some (some q21), some (some q27), some (some q31), some none, some none, none, none, none, none])), (q1, .inr (7, [some (some q2)])), (q2, .inl 4320), (q3, .inr (3, [some (some q4), some (some q5), some (some q6), none])), (q4, .inl 10), (q5, .inl 10), (q6, .inl 7200), (q7, .inr (0, [some (some q8), some (some q9), some (some q10), some (some q11), none])), (q8, .inl 12), (q9, .inl 12), (q10, .inl 12), (q11, .inl 12), (q12, .inr (6, [some (some q13), some (some q17), some (some q18), some (some q19), some (some q20), none, none, none])), (q13, .inr (5, [some (some q14), some (some q15), some (some q16), none])), (q14, .inl 160), (q15, .inl 161), (q16, .inl 161), (q17, .inl 960), (q18, .inl 18), (q19, .inl 31), (q20, .inl 6), (q21, .inr (1, [some (some q22), some (some q23), some (some q24), some (some q25), some (some q26), none, none])), (q22, .inl 720), (q23, .inl 36), (q24, .inl 640), (q25, .inl 640), (q26, .inl 4096), (q27, .inr (8, [some (some q28), some (some q29), some (some q30), none, none])), (q28, .inl 40), (q29, .inl 4), (q30, .inl 4), (q31, .inr (2, [some (some q32), none, none, none, none, none, none])), (q32, .inl 10), (q33, .inr (4, [some (some q34), some (some q35), some (some q36)])), (q34, .inl 4), (q35, .inl 4), (q36, .inl 160)]) := by
  unfold f_X4_init at H
  refine CT_of (ls0 := [some (.inr (.inr (some q33)))]) (by decide +kernel) (Nat.le_of_ble_eq_true rfl) rfl ?_
  refine R_aload_n (i := 0) (dX4_init 0 rfl) rfl rfl ?_
  refine R_objInit tb_542 tb_95 tb_96 (Nat.le_of_ble_eq_true rfl) (Nat.le_of_ble_eq_true rfl) (Nat.le_of_ble_eq_true rfl) (dX4_init 1 rfl) ?_
  refine R_aload_n (i := 0) (dX4_init 2 rfl) rfl rfl ?_
  refine R_iconst (dX4_init 3 rfl) rfl ?_
  refine R_newa2 (N := 4) (S' := fun q34 => [(q0, .inr (9, [some (some q1), some (some q3), some (some q7), some (some q12), some (some q21), some (some q27), some (some q31), some none, some none, none, none, none, none])), (q1, .inr (7, [some (some q2)])), (q2, .inl 4320), (q3, .inr (3, [some (some q4), some (some q5), some (some q6), none])), (q4, .inl 10), (q5, .inl 10), (q6, .inl 7200), (q7, .inr (0, [some (some q8), some (some q9), some (some q10), some (some q11), none])), (q8, .inl 12), (q9, .inl 12), (q10, .inl 12), (q11, .inl 12), (q12, .inr (6, [some (some q13), some (some q17), some (some q18), some (some q19), some (some q20), none, none, none])), (q13, .inr (5, [some (some q14), some (some q15), some (some q16), none])), (q14, .inl 160), (q15, .inl 161), (q16, .inl 161), (q17, .inl 960), (q18, .inl 18), (q19, .inl 31), (q20, .inl 6), (q21, .inr (1, [some (some q22), some (some q23), some (some q24), some (some q25), some (some q26), none, none])), (q22, .inl 720), (q23, .inl 36), (q24, .inl 640), (q25, .inl 640), (q26, .inl 4096), (q27, .inr (8, [some (some q28), some (some q29), some (some q30), none, none])), (q28, .inl 40), (q29, .inl 4), (q30, .inl 4), (q31, .inr (2, [some (some q32), none, none, none, none, none, none])), (q32, .inl 10), (q33, .inr (4, [some none, some none, some none])), (q34, .inl 4)]) (k' := 1) (n' := 4) rfl (Nat.le_of_ble_eq_true rfl) rfl rfl (Nat.le_of_ble_eq_true rfl) (Nat.le_of_ble_eq_true rfl) rfl (fun _ => rfl) (dX4_init 4 rfl) (fun q34 => ?_)
  refine R_dup rfl (dX4_init 5 rfl) ?_
  refine R_iconst (dX4_init 6 rfl) rfl ?_
  refine R_iconst (dX4_init 7 rfl) rfl ?_
  refine R_iast 34 rfl ⟨by decide, by decide⟩ (dX4_init 8 rfl) ?_
  refine R_dup rfl (dX4_init 9 rfl) ?_
  refine R_iconst (dX4_init 10 rfl) rfl ?_
  refine R_iconst (dX4_init 11 rfl) rfl ?_
  refine R_iast 34 rfl ⟨by decide, by decide⟩ (dX4_init 12 rfl) ?_
  refine R_dup rfl (dX4_init 13 rfl) ?_
  refine R_iconst (dX4_init 14 rfl) rfl ?_
  refine R_iconst (dX4_init 15 rfl) rfl ?_
  refine R_iast 34 rfl ⟨by decide, by decide⟩ (dX4_init 16 rfl) ?_
  refine R_dup rfl (dX4_init 17 rfl) ?_
  refine R_iconst (dX4_init 18 rfl) rfl ?_
  refine R_iconst (dX4_init 19 rfl) rfl ?_
  refine R_iast 34 rfl ⟨by decide, by decide⟩ (dX4_init 20 rfl) ?_
  refine R_putR (S' := [(q0, .inr (9, [some (some q1), some (some q3), some (some q7), some (some q12), some (some q21), some (some q27), some (some q31), some none, some none, none, none, none, none])), (q1, .inr (7, [some (some q2)])), (q2, .inl 4320), (q3, .inr (3, [some (some q4), some (some q5), some (some q6), none])), (q4, .inl 10), (q5, .inl 10), (q6, .inl 7200), (q7, .inr (0, [some (some q8), some (some q9), some (some q10), some (some q11), none])), (q8, .inl 12), (q9, .inl 12), (q10, .inl 12), (q11, .inl 12), (q12, .inr (6, [some (some q13), some (some q17), some (some q18), some (some q19), some (some q20), none, none, none])), (q13, .inr (5, [some (some q14), some (some q15), some (some q16), none])), (q14, .inl 160), (q15, .inl 161), (q16, .inl 161), (q17, .inl 960), (q18, .inl 18), (q19, .inl 31), (q20, .inl 6), (q21, .inr (1, [some (some q22), some (some q23), some (some q24), some (some q25), some (some q26), none, none])), (q22, .inl 720), (q23, .inl 36), (q24, .inl 640), (q25, .inl 640), (q26, .inl 4096), (q27, .inr (8, [some (some q28), some (some q29), some (some q30), none, none])), (q28, .inl 40), (q29, .inl 4), (q30, .inl 4), (q31, .inr (2, [some (some q32), none, none, none, none, none, none])), (q32, .inl 10), (q33, .inr (4, [some (some q34), some none, some none])), (q34, .inl 4)]) cgX4 33 rfl 0 (Nat.le_of_ble_eq_true rfl) (Nat.le_of_ble_eq_true rfl) rfl rfl rfl rfl rfl tb_543 (dX4_init 21 rfl) rfl ?_
  refine R_aload_n (i := 0) (dX4_init 22 rfl) rfl rfl ?_
  refine R_iconst (dX4_init 23 rfl) rfl ?_
  refine R_newa2 (N := 4) (S' := fun q35 => [(q0, .inr (9, [some (some q1), some (some q3), some (some q7), some (some q12), some (some q21), some (some q27), some (some q31), some none, some none, none, none, none, none])), (q1, .inr (7, [some (some q2)])), (q2, .inl 4320), (q3, .inr (3, [some (some q4), some (some q5), some (some q6), none])), (q4, .inl 10), (q5, .inl 10), (q6, .inl 7200), (q7, .inr (0, [some (some q8), some (some q9), some (some q10), some (some q11), none])), (q8, .inl 12), (q9, .inl 12), (q10, .inl 12), (q11, .inl 12), (q12, .inr (6, [some (some q13), some (some q17), some (some q18), some (some q19), some (some q20), none, none, none])), (q13, .inr (5, [some (some q14), some (some q15), some (some q16), none])), (q14, .inl 160), (q15, .inl 161), (q16, .inl 161), (q17, .inl 960), (q18, .inl 18), (q19, .inl 31), (q20, .inl 6), (q21, .inr (1, [some (some q22), some (some q23), some (some q24), some (some q25), some (some q26), none, none])), (q22, .inl 720), (q23, .inl 36), (q24, .inl 640), (q25, .inl 640), (q26, .inl 4096), (q27, .inr (8, [some (some q28), some (some q29), some (some q30), none, none])), (q28, .inl 40), (q29, .inl 4), (q30, .inl 4), (q31, .inr (2, [some (some q32), none, none, none, none, none, none])), (q32, .inl 10), (q33, .inr (4, [some (some q34), some none, some none])), (q34, .inl 4), (q35, .inl 4)]) (k' := 2) (n' := 8) rfl (Nat.le_of_ble_eq_true rfl) rfl rfl (Nat.le_of_ble_eq_true rfl) (Nat.le_of_ble_eq_true rfl) rfl (fun _ => rfl) (dX4_init 24 rfl) (fun q35 => ?_)
  refine R_putR (S' := [(q0, .inr (9, [some (some q1), some (some q3), some (some q7), some (some q12), some (some q21), some (some q27), some (some q31), some none, some none, none, none, none, none])), (q1, .inr (7, [some (some q2)])), (q2, .inl 4320), (q3, .inr (3, [some (some q4), some (some q5), some (some q6), none])), (q4, .inl 10), (q5, .inl 10), (q6, .inl 7200), (q7, .inr (0, [some (some q8), some (some q9), some (some q10), some (some q11), none])), (q8, .inl 12), (q9, .inl 12), (q10, .inl 12), (q11, .inl 12), (q12, .inr (6, [some (some q13), some (some q17), some (some q18), some (some q19), some (some q20), none, none, none])), (q13, .inr (5, [some (some q14), some (some q15), some (some q16), none])), (q14, .inl 160), (q15, .inl 161), (q16, .inl 161), (q17, .inl 960), (q18, .inl 18), (q19, .inl 31), (q20, .inl 6), (q21, .inr (1, [some (some q22), some (some q23), some (some q24), some (some q25), some (some q26), none, none])), (q22, .inl 720), (q23, .inl 36), (q24, .inl 640), (q25, .inl 640), (q26, .inl 4096), (q27, .inr (8, [some (some q28), some (some q29), some (some q30), none, none])), (q28, .inl 40), (q29, .inl 4), (q30, .inl 4), (q31, .inr (2, [some (some q32), none, none, none, none, none, none])), (q32, .inl 10), (q33, .inr (4, [some (some q34), some (some q35), some none])), (q34, .inl 4), (q35, .inl 4)]) cgX4 33 rfl 1 (Nat.le_of_ble_eq_true rfl) (Nat.le_of_ble_eq_true rfl) rfl rfl rfl rfl rfl tb_544 (dX4_init 25 rfl) rfl ?_
  refine R_aload_n (i := 0) (dX4_init 26 rfl) rfl rfl ?_
  refine R_sipush (dX4_init 27 rfl) rfl rfl ?_
  refine R_newa2 (N := 160) (S' := fun q36 => [(q0, .inr (9, [some (some q1), some (some q3), some (some q7), some (some q12), some (some q21), some (some q27), some (some q31), some none, some none, none, none, none, none])), (q1, .inr (7, [some (some q2)])), (q2, .inl 4320), (q3, .inr (3, [some (some q4), some (some q5), some (some q6), none])), (q4, .inl 10), (q5, .inl 10), (q6, .inl 7200), (q7, .inr (0, [some (some q8), some (some q9), some (some q10), some (some q11), none])), (q8, .inl 12), (q9, .inl 12), (q10, .inl 12), (q11, .inl 12), (q12, .inr (6, [some (some q13), some (some q17), some (some q18), some (some q19), some (some q20), none, none, none])), (q13, .inr (5, [some (some q14), some (some q15), some (some q16), none])), (q14, .inl 160), (q15, .inl 161), (q16, .inl 161), (q17, .inl 960), (q18, .inl 18), (q19, .inl 31), (q20, .inl 6), (q21, .inr (1, [some (some q22), some (some q23), some (some q24), some (some q25), some (some q26), none, none])), (q22, .inl 720), (q23, .inl 36), (q24, .inl 640), (q25, .inl 640), (q26, .inl 4096), (q27, .inr (8, [some (some q28), some (some q29), some (some q30), none, none])), (q28, .inl 40), (q29, .inl 4), (q30, .inl 4), (q31, .inr (2, [some (some q32), none, none, none, none, none, none])), (q32, .inl 10), (q33, .inr (4, [some (some q34), some (some q35), some none])), (q34, .inl 4), (q35, .inl 4), (q36, .inl 160)]) (k' := 3) (n' := 168) rfl (Nat.le_of_ble_eq_true rfl) rfl rfl (Nat.le_of_ble_eq_true rfl) (Nat.le_of_ble_eq_true rfl) rfl (fun _ => rfl) (dX4_init 28 rfl) (fun q36 => ?_)
  refine R_putR (S' := [(q0, .inr (9, [some (some q1), some (some q3), some (some q7), some (some q12), some (some q21), some (some q27), some (some q31), some none, some none, none, none, none, none])), (q1, .inr (7, [some (some q2)])), (q2, .inl 4320), (q3, .inr (3, [some (some q4), some (some q5), some (some q6), none])), (q4, .inl 10), (q5, .inl 10), (q6, .inl 7200), (q7, .inr (0, [some (some q8), some (some q9), some (some q10), some (some q11), none])), (q8, .inl 12), (q9, .inl 12), (q10, .inl 12), (q11, .inl 12), (q12, .inr (6, [some (some q13), some (some q17), some (some q18), some (some q19), some (some q20), none, none, none])), (q13, .inr (5, [some (some q14), some (some q15), some (some q16), none])), (q14, .inl 160), (q15, .inl 161), (q16, .inl 161), (q17, .inl 960), (q18, .inl 18), (q19, .inl 31), (q20, .inl 6), (q21, .inr (1, [some (some q22), some (some q23), some (some q24), some (some q25), some (some q26), none, none])), (q22, .inl 720), (q23, .inl 36), (q24, .inl 640), (q25, .inl 640), (q26, .inl 4096), (q27, .inr (8, [some (some q28), some (some q29), some (some q30), none, none])), (q28, .inl 40), (q29, .inl 4), (q30, .inl 4), (q31, .inr (2, [some (some q32), none, none, none, none, none, none])), (q32, .inl 10), (q33, .inr (4, [some (some q34), some (some q35), some (some q36)])), (q34, .inl 4), (q35, .inl 4), (q36, .inl 160)]) cgX4 33 rfl 2 (Nat.le_of_ble_eq_true rfl) (Nat.le_of_ble_eq_true rfl) rfl rfl rfl rfl rfl tb_545 (dX4_init 29 rfl) rfl ?_
  exact R_vret rfl (Nat.le_of_ble_eq_true rfl) (Nat.le_of_ble_eq_true rfl) (dX4_init 30 rfl) ⟨rfl, (Prod.mk.inj (Option.some.inj H)).2, q34, q35, q36, rfl⟩
def f_X9_init (M : Mem) : Option (Int × Mem) :=
  ob (f_X7_init (mup M 1 (fun _ => 0))) fun rc1 Mc1 =>
  ob (f_X3_init (mup Mc1 3 (fun _ => 0))) fun rc2 Mc2 =>
  ob (f_X0_init (mup Mc2 7 (fun _ => 0))) fun rc3 Mc3 =>
  ob (f_X6_init (mup Mc3 12 (fun _ => 0))) fun rc4 Mc4 =>
  ob (f_X1_init (mup Mc4 21 (fun _ => 0))) fun rc5 Mc5 =>
  ob (f_X8_init (mup Mc5 27 (fun _ => 0))) fun rc6 Mc6 =>
  ob (f_X2_init (mup Mc6 31 (fun _ => 0))) fun rc7 Mc7 =>
  ob (f_X4_init (mup Mc7 33 (fun _ => 0))) fun rc8 Mc8 =>
  some (0, (mset (mset (mup Mc8 37 (fun _ => 0)) 0 10 100) 0 12 1))
set_option maxHeartbeats 8000000 in
set_option maxRecDepth 20000 in
theorem t_X9_init (l : Launch) (g : GG) (q0 : Nat) (M : Mem) {r : Int} {M' : Mem} (H : f_X9_init M = some (r, M')) : CT l g MX9_init 120 37 19491 [(q0, .inr (9, [some none, some none, some none, some none, some none, some none, some none, some none, some none, none, none, none, none]))] M [.inr (.inr (some q0))] (fun r2 S2 M2 => r2 = none ∧ M2 = M' ∧ ∃ q1 : Nat, ∃ q2 : Nat, ∃ q3 : Nat, ∃ q4 : Nat, ∃ q5 : Nat, ∃ q6 : Nat, ∃ q7 : Nat, ∃ q8 : Nat, ∃ q9 : Nat, ∃ q10 : Nat, ∃ q11 : Nat, ∃ q12 : Nat, ∃ q13 : Nat, ∃ q14 : Nat, ∃ q15 : Nat, ∃ q16 : Nat, ∃ q17 : Nat, ∃ q18 : Nat, ∃ q19 : Nat, ∃ q20 : Nat, ∃ q21 : Nat, ∃ q22 : Nat, ∃ q23 : Nat, ∃ q24 : Nat, ∃ q25 : Nat, ∃ q26 : Nat, ∃ q27 : Nat, ∃ q28 : Nat, ∃ q29 : Nat, ∃ q30 : Nat, ∃ q31 : Nat, ∃ q32 : Nat, ∃ q33 : Nat, ∃ q34 : Nat, ∃ q35 : Nat, ∃ q36 : Nat, ∃ q37 : Nat, S2 = [(q0, .inr (9, [some (some q1), some (some q3), some (some q7), some (some q12), some (some q21), some (some q27), some (some q31), some (some q33), some (some q37), none, none, none, none])), (q1, .inr (7, [some (some q2)])), (q2, .inl 4320), (q3, .inr (3, [some (some q4), some (some q5), some (some q6), none])), (q4, .inl 10), (q5, .inl 10), (q6, .inl 7200), (q7, .inr (0, [some (some q8), some (some q9), some (some q10), some (some q11), none])), (q8, .inl 12), (q9, .inl 12), (q10, .inl 12), (q11, .inl 12), (q12, .inr (6, [some (some q13), some (some q17), some (some q18), some (some q19), some (some q20), none, none, none])), (q13, .inr (5, [some (some q14), some (some q15), some (some q16), none])), (q14, .inl 160), (q15, .inl 161), (q16, .inl 161), (q17, .inl 960), (q18, .inl 18), (q19, .inl 31), (q20, .inl 6), (q21, .inr (1, [some (some q22), some (some q23), some (some q24), some (some q25), some (some q26), none, none])), (q22, .inl 720), (q23, .inl 36), (q24, .inl 640), (q25, .inl 640), (q26, .inl 4096), (q27, .inr (8, [some (some q28), some (some q29), some (some q30), none, none])), (q28, .inl 40), (q29, .inl 4), (q30, .inl 4), (q31, .inr (2, [some (some q32), none, none, none, none, none, none])), (q32, .inl 10), (q33, .inr (4, [some (some q34), some (some q35), some (some q36)])), (q34, .inl 4), (q35, .inl 4), (q36, .inl 160), (q37, .inl 4)]) := by
  unfold f_X9_init at H
  refine CT_of (ls0 := [some (.inr (.inr (some q0)))]) (by decide +kernel) (Nat.le_of_ble_eq_true rfl) rfl ?_
  refine R_aload_n (i := 0) (dX9_init 0 rfl) rfl rfl ?_
  refine R_objInit tb_94 tb_95 tb_96 (Nat.le_of_ble_eq_true rfl) (Nat.le_of_ble_eq_true rfl) (Nat.le_of_ble_eq_true rfl) (dX9_init 1 rfl) ?_
  refine R_aload_n (i := 0) (dX9_init 2 rfl) rfl rfl ?_
  refine R_new2 (S' := fun q1 => [(q0, .inr (9, [some none, some none, some none, some none, some none, some none, some none, some none, some none, none, none, none, none])), (q1, .inr (7, [some none]))]) (k' := 1) (n' := 1) cgX7 [some none] fsX7 tb_97 tb_98 tb_71 rfl rfl (Nat.le_of_ble_eq_true rfl) (Nat.le_of_ble_eq_true rfl) rfl (fun _ => rfl) (dX9_init 3 rfl) (fun q1 => ?_)
  refine R_dup rfl (dX9_init 4 rfl) ?_
  obtain ⟨rc1, Mc1, hr, H⟩ := ob_E H
  refine R_callI (rest := [.inr (.inr (some q1)), .inr (.inr (some q0))]) (As := []) (t_X7_init l g q0 q1 _ hr) msX7_init (Or.inl tb_99) ⟨(Nat.le_of_ble_eq_true rfl), (Nat.le_of_ble_eq_true rfl)⟩ ⟨(Nat.le_of_ble_eq_true rfl), (Nat.le_of_ble_eq_true rfl)⟩ rfl rfl (Nat.le_of_ble_eq_true rfl) (dX9_init 5 rfl) ?_
  rintro _ _ _ ⟨rfl, rfl, q2, rfl⟩
  refine R_kn (k' := 2) (n' := 4321) rfl rfl (st' := [.inr (.inr (some q1)), .inr (.inr (some q0))]) rfl ?_
  refine R_putR (S' := [(q0, .inr (9, [some (some q1), some none, some none, some none, some none, some none, some none, some none, some none, none, none, none, none])), (q1, .inr (7, [some (some q2)])), (q2, .inl 4320)]) cgX9 0 rfl 0 (Nat.le_of_ble_eq_true rfl) (Nat.le_of_ble_eq_true rfl) rfl rfl rfl rfl rfl tb_553 (dX9_init 6 rfl) rfl ?_
  refine R_aload_n (i := 0) (dX9_init 7 rfl) rfl rfl ?_
  refine R_new2 (S' := fun q3 => [(q0, .inr (9, [some (some q1), some none, some none, some none, some none, some none, some none, some none, some none, none, none, none, none])), (q1, .inr (7, [some (some q2)])), (q2, .inl 4320), (q3, .inr (3, [some none, some none, some none, none]))]) (k' := 3) (n' := 4325) cgX3 [some none, some none, some none, none] fsX3 tb_130 tb_131 tb_74 rfl rfl (Nat.le_of_ble_eq_true rfl) (Nat.le_of_ble_eq_true rfl) rfl (fun _ => rfl) (dX9_init 8 rfl) (fun q3 => ?_)
  refine R_dup rfl (dX9_init 9 rfl) ?_
  obtain ⟨rc2, Mc2, hr, H⟩ := ob_E H
  refine R_callI (rest := [.inr (.inr (some q3)), .inr (.inr (some q0))]) (As := []) (t_X3_init l g q0 q1 q2 q3 _ hr) msX3_init (Or.inr ⟨_, tb_132⟩) ⟨(Nat.le_of_ble_eq_true rfl), (Nat.le_of_ble_eq_true rfl)⟩ ⟨(Nat.le_of_ble_eq_true rfl), (Nat.le_of_ble_eq_true rfl)⟩ rfl rfl (Nat.le_of_ble_eq_true rfl) (dX9_init 10 rfl) ?_
  rintro _ _ _ ⟨rfl, rfl, q4, q5, q6, rfl⟩
  refine R_kn (k' := 6) (n' := 11545) rfl rfl (st' := [.inr (.inr (some q3)), .inr (.inr (some q0))]) rfl ?_
  refine R_putR (S' := [(q0, .inr (9, [some (some q1), some (some q3), some none, some none, some none, some none, some none, some none, some none, none, none, none, none])), (q1, .inr (7, [some (some q2)])), (q2, .inl 4320), (q3, .inr (3, [some (some q4), some (some q5), some (some q6), none])), (q4, .inl 10), (q5, .inl 10), (q6, .inl 7200)]) cgX9 0 rfl 1 (Nat.le_of_ble_eq_true rfl) (Nat.le_of_ble_eq_true rfl) rfl rfl rfl rfl rfl tb_554 (dX9_init 11 rfl) rfl ?_
  refine R_aload_n (i := 0) (dX9_init 12 rfl) rfl rfl ?_
  refine R_new2 (S' := fun q7 => [(q0, .inr (9, [some (some q1), some (some q3), some none, some none, some none, some none, some none, some none, some none, none, none, none, none])), (q1, .inr (7, [some (some q2)])), (q2, .inl 4320), (q3, .inr (3, [some (some q4), some (some q5), some (some q6), none])), (q4, .inl 10), (q5, .inl 10), (q6, .inl 7200), (q7, .inr (0, [some none, some none, some none, some none, none]))]) (k' := 7) (n' := 11550) cgX0 [some none, some none, some none, some none, none] fsX0 tb_153 tb_154 tb_75 rfl rfl (Nat.le_of_ble_eq_true rfl) (Nat.le_of_ble_eq_true rfl) rfl (fun _ => rfl) (dX9_init 13 rfl) (fun q7 => ?_)
  refine R_dup rfl (dX9_init 14 rfl) ?_
  obtain ⟨rc3, Mc3, hr, H⟩ := ob_E H
  refine R_callI (rest := [.inr (.inr (some q7)), .inr (.inr (some q0))]) (As := []) (t_X0_init l g q0 q1 q2 q3 q4 q5 q6 q7 _ hr) msX0_init (Or.inr ⟨_, tb_155⟩) ⟨(Nat.le_of_ble_eq_true rfl), (Nat.le_of_ble_eq_true rfl)⟩ ⟨(Nat.le_of_ble_eq_true rfl), (Nat.le_of_ble_eq_true rfl)⟩ rfl rfl (Nat.le_of_ble_eq_true rfl) (dX9_init 15 rfl) ?_
  rintro _ _ _ ⟨rfl, rfl, q8, q9, q10, q11, rfl⟩
  refine R_kn (k' := 11) (n' := 11598) rfl rfl (st' := [.inr (.inr (some q7)), .inr (.inr (some q0))]) rfl ?_
  refine R_putR (S' := [(q0, .inr (9, [some (some q1), some (some q3), some (some q7), some none, some none, some none, some none, some none, some none, none, none, none, none])), (q1, .inr (7, [some (some q2)])), (q2, .inl 4320), (q3, .inr (3, [some (some q4), some (some q5), some (some q6), none])), (q4, .inl 10), (q5, .inl 10), (q6, .inl 7200), (q7, .inr (0, [some (some q8), some (some q9), some (some q10), some (some q11), none])), (q8, .inl 12), (q9, .inl 12), (q10, .inl 12), (q11, .inl 12)]) cgX9 0 rfl 2 (Nat.le_of_ble_eq_true rfl) (Nat.le_of_ble_eq_true rfl) rfl rfl rfl rfl rfl tb_555 (dX9_init 16 rfl) rfl ?_
  refine R_aload_n (i := 0) (dX9_init 17 rfl) rfl rfl ?_
  refine R_new2 (S' := fun q12 => [(q0, .inr (9, [some (some q1), some (some q3), some (some q7), some none, some none, some none, some none, some none, some none, none, none, none, none])), (q1, .inr (7, [some (some q2)])), (q2, .inl 4320), (q3, .inr (3, [some (some q4), some (some q5), some (some q6), none])), (q4, .inl 10), (q5, .inl 10), (q6, .inl 7200), (q7, .inr (0, [some (some q8), some (some q9), some (some q10), some (some q11), none])), (q8, .inl 12), (q9, .inl 12), (q10, .inl 12), (q11, .inl 12), (q12, .inr (6, [some none, some none, some none, some none, some none, none, none, none]))]) (k' := 12) (n' := 11606) cgX6 [some none, some none, some none, some none, some none, none, none, none] fsX6 tb_180 tb_181 tb_76 rfl rfl (Nat.le_of_ble_eq_true rfl) (Nat.le_of_ble_eq_true rfl) rfl (fun _ => rfl) (dX9_init 18 rfl) (fun q12 => ?_)
  refine R_dup rfl (dX9_init 19 rfl) ?_
  obtain ⟨rc4, Mc4, hr, H⟩ := ob_E H
  refine R_callI (rest := [.inr (.inr (some q12)), .inr (.inr (some q0))]) (As := []) (t_X6_init l g q0 q1 q2 q3 q4 q5 q6 q7 q8 q9 q10 q11 q12 _ hr) msX6_init (Or.inl tb_182) ⟨(Nat.le_of_ble_eq_true rfl), (Nat.le_of_ble_eq_true rfl)⟩ ⟨(Nat.le_of_ble_eq_true rfl), (Nat.le_of_ble_eq_true rfl)⟩ rfl rfl (Nat.le_of_ble_eq_true rfl) (dX9_init 20 rfl) ?_
  rintro _ _ _ ⟨rfl, rfl, q13, q14, q15, q16, q17, q18, q19, q20, rfl⟩
  refine R_kn (k' := 20) (n' := 13107) rfl rfl (st' := [.inr (.inr (some q12)), .inr (.inr (some q0))]) rfl ?_
  refine R_putR (S' := [(q0, .inr (9, [some (some q1), some (some q3), some (some q7), some (some q12), some none, some none, some none, some none, some none, none, none, none, none])), (q1, .inr (7, [some (some q2)])), (q2, .inl 4320), (q3, .inr (3, [some (some q4), some (some q5), some (some q6), none])), (q4, .inl 10), (q5, .inl 10), (q6, .inl 7200), (q7, .inr (0, [some (some q8), some (some q9), some (some q10), some (some q11), none])), (q8, .inl 12), (q9, .inl 12), (q10, .inl 12), (q11, .inl 12), (q12, .inr (6, [some (some q13), some (some q17), some (some q18), some (some q19), some (some q20), none, none, none])), (q13, .inr (5, [some (some q14), some (some q15), some (some q16), none])), (q14, .inl 160), (q15, .inl 161), (q16, .inl 161), (q17, .inl 960), (q18, .inl 18), (q19, .inl 31), (q20, .inl 6)]) cgX9 0 rfl 3 (Nat.le_of_ble_eq_true rfl) (Nat.le_of_ble_eq_true rfl) rfl rfl rfl rfl rfl tb_556 (dX9_init 21 rfl) rfl ?_
  refine R_aload_n (i := 0) (dX9_init 22 rfl) rfl rfl ?_
  refine R_new2 (S' := fun q21 => [(q0, .inr (9, [some (some q1), some (some q3), some (some q7), some (some q12), some none, some none, some none, some none, some none, none, none, none, none])), (q1, .inr (7, [some (some q2)])), (q2, .inl 4320), (q3, .inr (3, [some (some q4), some (some q5), some (some q6), none])), (q4, .inl 10), (q5, .inl 10), (q6, .inl 7200), (q7, .inr (0, [some (some q8), some (some q9), some (some q10), some (some q11), none])), (q8, .inl 12), (q9, .inl 12), (q10, .inl 12), (q11, .inl 12), (q12, .inr (6, [some (some q13), some (some q17), some (some q18), some (some q19), some (some q20), none, none, none])), (q13, .inr (5, [some (some q14), some (some q15), some (some q16), none])), (q14, .inl 160), (q15, .inl 161), (q16, .inl 161), (q17, .inl 960), (q18, .inl 18), (q19, .inl 31), (q20, .inl 6), (q21, .inr (1, [some none, some none, some none, some none, some none, none, none]))]) (k' := 21) (n' := 13114) cgX1 [some none, some none, some none, some none, some none, none, none] fsX1 tb_453 tb_454 tb_83 rfl rfl (Nat.le_of_ble_eq_true rfl) (Nat.le_of_ble_eq_true rfl) rfl (fun _ => rfl) (dX9_init 23 rfl) (fun q21 => ?_)
  refine R_dup rfl (dX9_init 24 rfl) ?_
  obtain ⟨rc5, Mc5, hr, H⟩ := ob_E H
  refine R_callI (rest := [.inr (.inr (some q21)), .inr (.inr (some q0))]) (As := []) (t_X1_init l g q0 q1 q2 q3 q4 q5 q6 q7 q8 q9 q10 q11 q12 q13 q14 q15 q16 q17 q18 q19 q20 q21 _ hr) msX1_init (Or.inr ⟨_, tb_455⟩) ⟨(Nat.le_of_ble_eq_true rfl), (Nat.le_of_ble_eq_true rfl)⟩ ⟨(Nat.le_of_ble_eq_true rfl), (Nat.le_of_ble_eq_true rfl)⟩ rfl rfl (Nat.le_of_ble_eq_true rfl) (dX9_init 25 rfl) ?_
  rintro _ _ _ ⟨rfl, rfl, q22, q23, q24, q25, q26, rfl⟩
  refine R_kn (k' := 26) (n' := 19246) rfl rfl (st' := [.inr (.inr (some q21)), .inr (.inr (some q0))]) rfl ?_
  refine R_putR (S' := [(q0, .inr (9, [some (some q1), some (some q3), some (some q7), some (some q12), some (some q21), some none, some none, some none, some none, none, none, none, none])), (q1, .inr (7, [some (some q2)])), (q2, .inl 4320), (q3, .inr (3, [some (some q4), some (some q5), some (some q6), none])), (q4, .inl 10), (q5, .inl 10), (q6, .inl 7200), (q7, .inr (0, [some (some q8), some (some q9), some (some q10), some (some q11), none])), (q8, .inl 12), (q9, .inl 12), (q10, .inl 12), (q11, .inl 12), (q12, .inr (6, [some (some q13), some (some q17), some (some q18), some (some q19), some (some q20), none, none, none])), (q13, .inr (5, [some (some q14), some (some q15), some (some q16), none])), (q14, .inl 160), (q15, .inl 161), (q16, .inl 161), (q17, .inl 960), (q18, .inl 18), (q19, .inl 31), (q20, .inl 6), (q21, .inr (1, [some (some q22), some (some q23), some (some q24), some (some q25), some (some q26), none, none])), (q22, .inl 720), (q23, .inl 36), (q24, .inl 640), (q25, .inl 640), (q26, .inl 4096)]) cgX9 0 rfl 4 (Nat.le_of_ble_eq_true rfl) (Nat.le_of_ble_eq_true rfl) rfl rfl rfl rfl rfl tb_557 (dX9_init 26 rfl) rfl ?_
  refine R_aload_n (i := 0) (dX9_init 27 rfl) rfl rfl ?_
  refine R_new2 (S' := fun q27 => [(q0, .inr (9, [some (some q1), some (some q3), some (some q7), some (some q12), some (some q21), some none, some none, some none, some none, none, none, none, none])), (q1, .inr (7, [some (some q2)])), (q2, .inl 4320), (q3, .inr (3, [some (some q4), some (some q5), some (some q6), none])), (q4, .inl 10), (q5, .inl 10), (q6, .inl 7200), (q7, .inr (0, [some (some q8), some (some q9), some (some q10), some (some q11), none])), (q8, .inl 12), (q9, .inl 12), (q10, .inl 12), (q11, .inl 12), (q12, .inr (6, [some (some q13), some (some q17), some (some q18), some (some q19), some (some q20), none, none, none])), (q13, .inr (5, [some (some q14), some (some q15), some (some q16), none])), (q14, .inl 160), (q15, .inl 161), (q16, .inl 161), (q17, .inl 960), (q18, .inl 18), (q19, .inl 31), (q20, .inl 6), (q21, .inr (1, [some (some q22), some (some q23), some (some q24), some (some q25), some (some q26), none, none])), (q22, .inl 720), (q23, .inl 36), (q24, .inl 640), (q25, .inl 640), (q26, .inl 4096), (q27, .inr (8, [some none, some none, some none, none, none]))]) (k' := 27) (n' := 19251) cgX8 [some none, some none, some none, none, none] fsX8 tb_483 tb_484 tb_84 rfl rfl (Nat.le_of_ble_eq_true rfl) (Nat.le_of_ble_eq_true rfl) rfl (fun _ => rfl) (dX9_init 28 rfl) (fun q27 => ?_)
  refine R_dup rfl (dX9_init 29 rfl) ?_
  obtain ⟨rc6, Mc6, hr, H⟩ := ob_E H
  refine R_callI (rest := [.inr (.inr (some q27)), .inr (.inr (some q0))]) (As := []) (t_X8_init l g q0 q1 q2 q3 q4 q5 q6 q7 q8 q9 q10 q11 q12 q13 q14 q15 q16 q17 q18 q19 q20 q21 q22 q23 q24 q25 q26 q27 _ hr) msX8_init (Or.inr ⟨_, tb_485⟩) ⟨(Nat.le_of_ble_eq_true rfl), (Nat.le_of_ble_eq_true rfl)⟩ ⟨(Nat.le_of_ble_eq_true rfl), (Nat.le_of_ble_eq_true rfl)⟩ rfl rfl (Nat.le_of_ble_eq_true rfl) (dX9_init 30 rfl) ?_
  rintro _ _ _ ⟨rfl, rfl, q28, q29, q30, rfl⟩
  refine R_kn (k' := 30) (n' := 19299) rfl rfl (st' := [.inr (.inr (some q27)), .inr (.inr (some q0))]) rfl ?_
  refine R_putR (S' := [(q0, .inr (9, [some (some q1), some (some q3), some (some q7), some (some q12), some (some q21), some (some q27), some none, some none, some none, none, none, none, none])), (q1, .inr (7, [some (some q2)])), (q2, .inl 4320), (q3, .inr (3, [some (some q4), some (some q5), some (some q6), none])), (q4, .inl 10), (q5, .inl 10), (q6, .inl 7200), (q7, .inr (0, [some (some q8), some (some q9), some (some q10), some (some q11), none])), (q8, .inl 12), (q9, .inl 12), (q10, .inl 12), (q11, .inl 12), (q12, .inr (6, [some (some q13), some (some q17), some (some q18), some (some q19), some (some q20), none, none, none])), (q13, .inr (5, [some (some q14), some (some q15), some (some q16), none])), (q14, .inl 160), (q15, .inl 161), (q16, .inl 161), (q17, .inl 960), (q18, .inl 18), (q19, .inl 31), (q20, .inl 6), (q21, .inr (1, [some (some q22), some (some q23), some (some q24), some (some q25), some (some q26), none, none])), (q22, .inl 720), (q23, .inl 36), (q24, .inl 640), (q25, .inl 640), (q26, .inl 4096), (q27, .inr (8, [some (some q28), some (some q29), some (some q30), none, none])), (q28, .inl 40), (q29, .inl 4), (q30, .inl 4)]) cgX9 0 rfl 5 (Nat.le_of_ble_eq_true rfl) (Nat.le_of_ble_eq_true rfl) rfl rfl rfl rfl rfl tb_558 (dX9_init 31 rfl) rfl ?_
  refine R_aload_n (i := 0) (dX9_init 32 rfl) rfl rfl ?_
  refine R_new2 (S' := fun q31 => [(q0, .inr (9, [some (some q1), some (some q3), some (some q7), some (some q12), some (some q21), some (some q27), some none, some none, some none, none, none, none, none])), (q1, .inr (7, [some (some q2)])), (q2, .inl 4320), (q3, .inr (3, [some (some q4), some (some q5), some (some q6), none])), (q4, .inl 10), (q5, .inl 10), (q6, .inl 7200), (q7, .inr (0, [some (some q8), some (some q9), some (some q10), some (some q11), none])), (q8, .inl 12), (q9, .inl 12), (q10, .inl 12), (q11, .inl 12), (q12, .inr (6, [some (some q13), some (some q17), some (some q18), some (some q19), some (some q20), none, none, none])), (q13, .inr (5, [some (some q14), some (some q15), some (some q16), none])), (q14, .inl 160), (q15, .inl 161), (q16, .inl 161), (q17, .inl 960), (q18, .inl 18), (q19, .inl 31), (q20, .inl 6), (q21, .inr (1, [some (some q22), some (some q23), some (some q24), some (some q25), some (some q26), none, none])), (q22, .inl 720), (q23, .inl 36), (q24, .inl 640), (q25, .inl 640), (q26, .inl 4096), (q27, .inr (8, [some (some q28), some (some q29), some (some q30), none, none])), (q28, .inl 40), (q29, .inl 4), (q30, .inl 4), (q31, .inr (2, [some none, none, none, none, none, none, none]))]) (k' := 31) (n' := 19306) cgX2 [some none, none, none, none, none, none, none] fsX2 tb_508 tb_509 tb_85 rfl rfl (Nat.le_of_ble_eq_true rfl) (Nat.le_of_ble_eq_true rfl) rfl (fun _ => rfl) (dX9_init 33 rfl) (fun q31 => ?_)
  refine R_dup rfl (dX9_init 34 rfl) ?_
  obtain ⟨rc7, Mc7, hr, H⟩ := ob_E H
  refine R_callI (rest := [.inr (.inr (some q31)), .inr (.inr (some q0))]) (As := []) (t_X2_init l g q0 q1 q2 q3 q4 q5 q6 q7 q8 q9 q10 q11 q12 q13 q14 q15 q16 q17 q18 q19 q20 q21 q22 q23 q24 q25 q26 q27 q28 q29 q30 q31 _ hr) msX2_init (Or.inr ⟨_, tb_510⟩) ⟨(Nat.le_of_ble_eq_true rfl), (Nat.le_of_ble_eq_true rfl)⟩ ⟨(Nat.le_of_ble_eq_true rfl), (Nat.le_of_ble_eq_true rfl)⟩ rfl rfl (Nat.le_of_ble_eq_true rfl) (dX9_init 35 rfl) ?_
  rintro _ _ _ ⟨rfl, rfl, q32, rfl⟩
  refine R_kn (k' := 32) (n' := 19316) rfl rfl (st' := [.inr (.inr (some q31)), .inr (.inr (some q0))]) rfl ?_
  refine R_putR (S' := [(q0, .inr (9, [some (some q1), some (some q3), some (some q7), some (some q12), some (some q21), some (some q27), some (some q31), some none, some none, none, none, none, none])), (q1, .inr (7, [some (some q2)])), (q2, .inl 4320), (q3, .inr (3, [some (some q4), some (some q5), some (some q6), none])), (q4, .inl 10), (q5, .inl 10), (q6, .inl 7200), (q7, .inr (0, [some (some q8), some (some q9), some (some q10), some (some q11), none])), (q8, .inl 12), (q9, .inl 12), (q10, .inl 12), (q11, .inl 12), (q12, .inr (6, [some (some q13), some (some q17), some (some q18), some (some q19), some (some q20), none, none, none])), (q13, .inr (5, [some (some q14), some (some q15), some (some q16), none])), (q14, .inl 160), (q15, .inl 161), (q16, .inl 161), (q17, .inl 960), (q18, .inl 18), (q19, .inl 31), (q20, .inl 6), (q21, .inr (1, [some (some q22), some (some q23), some (some q24), some (some q25), some (some q26), none, none])), (q22, .inl 720), (q23, .inl 36), (q24, .inl 640), (q25, .inl 640), (q26, .inl 4096), (q27, .inr (8, [some (some q28), some (some q29), some (some q30), none, none])), (q28, .inl 40), (q29, .inl 4), (q30, .inl 4), (q31, .inr (2, [some (some q32), none, none, none, none, none, none])), (q32, .inl 10)]) cgX9 0 rfl 6 (Nat.le_of_ble_eq_true rfl) (Nat.le_of_ble_eq_true rfl) rfl rfl rfl rfl rfl tb_559 (dX9_init 36 rfl) rfl ?_
  refine R_aload_n (i := 0) (dX9_init 37 rfl) rfl rfl ?_
  refine R_new2 (S' := fun q33 => [(q0, .inr (9, [some (some q1), some (some q3), some (some q7), some (some q12), some (some q21), some (some q27), some (some q31), some none, some none, none, none, none, none])), (q1, .inr (7, [some (some q2)])), (q2, .inl 4320), (q3, .inr (3, [some (some q4), some (some q5), some (some q6), none])), (q4, .inl 10), (q5, .inl 10), (q6, .inl 7200), (q7, .inr (0, [some (some q8), some (some q9), some (some q10), some (some q11), none])), (q8, .inl 12), (q9, .inl 12), (q10, .inl 12), (q11, .inl 12), (q12, .inr (6, [some (some q13), some (some q17), some (some q18), some (some q19), some (some q20), none, none, none])), (q13, .inr (5, [some (some q14), some (some q15), some (some q16), none])), (q14, .inl 160), (q15, .inl 161), (q16, .inl 161), (q17, .inl 960), (q18, .inl 18), (q19, .inl 31), (q20, .inl 6), (q21, .inr (1, [some (some q22), some (some q23), some (some q24), some (some q25), some (some q26), none, none])), (q22, .inl 720), (q23, .inl 36), (q24, .inl 640), (q25, .inl 640), (q26, .inl 4096), (q27, .inr (8, [some (some q28), some (some q29), some (some q30), none, none])), (q28, .inl 40), (q29, .inl 4), (q30, .inl 4), (q31, .inr (2, [some (some q32), none, none, none, none, none, none])), (q32, .inl 10), (q33, .inr (4, [some none, some none, some none]))]) (k' := 33) (n' := 19319) cgX4 [some none, some none, some none] fsX4 tb_537 tb_538 tb_86 rfl rfl (Nat.le_of_ble_eq_true rfl) (Nat.le_of_ble_eq_true rfl) rfl (fun _ => rfl) (dX9_init 38 rfl) (fun q33 => ?_)
  refine R_dup rfl (dX9_init 39 rfl) ?_
  obtain ⟨rc8, Mc8, hr, H⟩ := ob_E H
  refine R_callI (rest := [.inr (.inr (some q33)), .inr (.inr (some q0))]) (As := []) (t_X4_init l g q0 q1 q2 q3 q4 q5 q6 q7 q8 q9 q10 q11 q12 q13 q14 q15 q16 q17 q18 q19 q20 q21 q22 q23 q24 q25 q26 q27 q28 q29 q30 q31 q32 q33 _ hr) msX4_init (Or.inr ⟨_, tb_539⟩) ⟨(Nat.le_of_ble_eq_true rfl), (Nat.le_of_ble_eq_true rfl)⟩ ⟨(Nat.le_of_ble_eq_true rfl), (Nat.le_of_ble_eq_true rfl)⟩ rfl rfl (Nat.le_of_ble_eq_true rfl) (dX9_init 40 rfl) ?_
  rintro _ _ _ ⟨rfl, rfl, q34, q35, q36, rfl⟩
  refine R_kn (k' := 36) (n' := 19487) rfl rfl (st' := [.inr (.inr (some q33)), .inr (.inr (some q0))]) rfl ?_
  refine R_putR (S' := [(q0, .inr (9, [some (some q1), some (some q3), some (some q7), some (some q12), some (some q21), some (some q27), some (some q31), some (some q33), some none, none, none, none, none])), (q1, .inr (7, [some (some q2)])), (q2, .inl 4320), (q3, .inr (3, [some (some q4), some (some q5), some (some q6), none])), (q4, .inl 10), (q5, .inl 10), (q6, .inl 7200), (q7, .inr (0, [some (some q8), some (some q9), some (some q10), some (some q11), none])), (q8, .inl 12), (q9, .inl 12), (q10, .inl 12), (q11, .inl 12), (q12, .inr (6, [some (some q13), some (some q17), some (some q18), some (some q19), some (some q20), none, none, none])), (q13, .inr (5, [some (some q14), some (some q15), some (some q16), none])), (q14, .inl 160), (q15, .inl 161), (q16, .inl 161), (q17, .inl 960), (q18, .inl 18), (q19, .inl 31), (q20, .inl 6), (q21, .inr (1, [some (some q22), some (some q23), some (some q24), some (some q25), some (some q26), none, none])), (q22, .inl 720), (q23, .inl 36), (q24, .inl 640), (q25, .inl 640), (q26, .inl 4096), (q27, .inr (8, [some (some q28), some (some q29), some (some q30), none, none])), (q28, .inl 40), (q29, .inl 4), (q30, .inl 4), (q31, .inr (2, [some (some q32), none, none, none, none, none, none])), (q32, .inl 10), (q33, .inr (4, [some (some q34), some (some q35), some (some q36)])), (q34, .inl 4), (q35, .inl 4), (q36, .inl 160)]) cgX9 0 rfl 7 (Nat.le_of_ble_eq_true rfl) (Nat.le_of_ble_eq_true rfl) rfl rfl rfl rfl rfl tb_560 (dX9_init 41 rfl) rfl ?_
  refine R_aload_n (i := 0) (dX9_init 42 rfl) rfl rfl ?_
  refine R_iconst (dX9_init 43 rfl) rfl ?_
  refine R_newa2 (N := 4) (S' := fun q37 => [(q0, .inr (9, [some (some q1), some (some q3), some (some q7), some (some q12), some (some q21), some (some q27), some (some q31), some (some q33), some none, none, none, none, none])), (q1, .inr (7, [some (some q2)])), (q2, .inl 4320), (q3, .inr (3, [some (some q4), some (some q5), some (some q6), none])), (q4, .inl 10), (q5, .inl 10), (q6, .inl 7200), (q7, .inr (0, [some (some q8), some (some q9), some (some q10), some (some q11), none])), (q8, .inl 12), (q9, .inl 12), (q10, .inl 12), (q11, .inl 12), (q12, .inr (6, [some (some q13), some (some q17), some (some q18), some (some q19), some (some q20), none, none, none])), (q13, .inr (5, [some (some q14), some (some q15), some (some q16), none])), (q14, .inl 160), (q15, .inl 161), (q16, .inl 161), (q17, .inl 960), (q18, .inl 18), (q19, .inl 31), (q20, .inl 6), (q21, .inr (1, [some (some q22), some (some q23), some (some q24), some (some q25), some (some q26), none, none])), (q22, .inl 720), (q23, .inl 36), (q24, .inl 640), (q25, .inl 640), (q26, .inl 4096), (q27, .inr (8, [some (some q28), some (some q29), some (some q30), none, none])), (q28, .inl 40), (q29, .inl 4), (q30, .inl 4), (q31, .inr (2, [some (some q32), none, none, none, none, none, none])), (q32, .inl 10), (q33, .inr (4, [some (some q34), some (some q35), some (some q36)])), (q34, .inl 4), (q35, .inl 4), (q36, .inl 160), (q37, .inl 4)]) (k' := 37) (n' := 19491) rfl (Nat.le_of_ble_eq_true rfl) rfl rfl (Nat.le_of_ble_eq_true rfl) (Nat.le_of_ble_eq_true rfl) rfl (fun _ => rfl) (dX9_init 44 rfl) (fun q37 => ?_)
  refine R_putR (S' := [(q0, .inr (9, [some (some q1), some (some q3), some (some q7), some (some q12), some (some q21), some (some q27), some (some q31), some (some q33), some (some q37), none, none, none, none])), (q1, .inr (7, [some (some q2)])), (q2, .inl 4320), (q3, .inr (3, [some (some q4), some (some q5), some (some q6), none])), (q4, .inl 10), (q5, .inl 10), (q6, .inl 7200), (q7, .inr (0, [some (some q8), some (some q9), some (some q10), some (some q11), none])), (q8, .inl 12), (q9, .inl 12), (q10, .inl 12), (q11, .inl 12), (q12, .inr (6, [some (some q13), some (some q17), some (some q18), some (some q19), some (some q20), none, none, none])), (q13, .inr (5, [some (some q14), some (some q15), some (some q16), none])), (q14, .inl 160), (q15, .inl 161), (q16, .inl 161), (q17, .inl 960), (q18, .inl 18), (q19, .inl 31), (q20, .inl 6), (q21, .inr (1, [some (some q22), some (some q23), some (some q24), some (some q25), some (some q26), none, none])), (q22, .inl 720), (q23, .inl 36), (q24, .inl 640), (q25, .inl 640), (q26, .inl 4096), (q27, .inr (8, [some (some q28), some (some q29), some (some q30), none, none])), (q28, .inl 40), (q29, .inl 4), (q30, .inl 4), (q31, .inr (2, [some (some q32), none, none, none, none, none, none])), (q32, .inl 10), (q33, .inr (4, [some (some q34), some (some q35), some (some q36)])), (q34, .inl 4), (q35, .inl 4), (q36, .inl 160), (q37, .inl 4)]) cgX9 0 rfl 8 (Nat.le_of_ble_eq_true rfl) (Nat.le_of_ble_eq_true rfl) rfl rfl rfl rfl rfl tb_561 (dX9_init 45 rfl) rfl ?_
  refine R_aload_n (i := 0) (dX9_init 46 rfl) rfl rfl ?_
  refine R_bipush (dX9_init 47 rfl) rfl rfl ?_
  refine R_putI cgX9 0 rfl 10 (Nat.le_of_ble_eq_true rfl) rfl (by decide +kernel) (by decide +kernel) rfl (Or.inl tb_563) (dX9_init 48 rfl) ?_
  refine R_aload_n (i := 0) (dX9_init 49 rfl) rfl rfl ?_
  refine R_iconst (dX9_init 50 rfl) rfl ?_
  refine R_putI cgX9 0 rfl 12 (Nat.le_of_ble_eq_true rfl) rfl (by decide +kernel) (by decide +kernel) rfl (Or.inl tb_565) (dX9_init 51 rfl) ?_
  exact R_vret rfl (Nat.le_of_ble_eq_true rfl) (Nat.le_of_ble_eq_true rfl) (dX9_init 52 rfl) ⟨rfl, (Prod.mk.inj (Option.some.inj H)).2, q1, q2, q3, q4, q5, q6, q7, q8, q9, q10, q11, q12, q13, q14, q15, q16, q17, q18, q19, q20, q21, q22, q23, q24, q25, q26, q27, q28, q29, q30, q31, q32, q33, q34, q35, q36, q37, rfl⟩
def f_X10_init_tail_L1107 (K1131 : Mem → Option (Int × Mem)) : Nat → Int → Mem → Option (Int × Mem)
  | 0, _, _ => none
  | n + 1, x1, M =>
    if x1 < 53 then
      if 0 ≤ x1 ∧ x1 < 53 then
        if 0 ≤ x1 ∧ x1 < 160 then
          f_X10_init_tail_L1107 K1131 n (w32 (x1 + 1)) (mset M 44 (x1).toNat (M 51 (x1).toNat))
        else none
      else none
    else
      K1131 M
set_option maxHeartbeats 4000000 in
theorem t_X10_init_tail_L1107 (l : Launch) (g : GG) (ad : Nat → Nat) (S : SW) (hS : q_ag 38 63 ad S) {K1131 : Mem → Option (Int × Mem)} {r : Int} {M' : Mem} {Post : PP} (hP : Post none S M') : ∀ (n : Nat) (x1 : Int) (M : Mem), f_X10_init_tail_L1107 K1131 n x1 M = some (r, M') → (∀ (M1 : Mem), K1131 M1 = some (r, M') → RW l g MX10_init (q_rm 6 24 12737) 24 12737 Post 1131 S M1 24 12737 [some (.inr (.inr (some (ad 38)))), none, none] []) → RW l g MX10_init (q_rm 6 24 12737) 24 12737 Post 1107 S M 24 12737 [some (.inr (.inr (some (ad 38)))), some (.inl x1), none] [] := by
  intro n
  induction n with
  | zero => intro x1 M H; exact absurd H (by simp [f_X10_init_tail_L1107])
  | succ n ih =>
    intro x1 M H hK1131
    rw [f_X10_init_tail_L1107] at H
    refine R_iload_n (i := 1) (dX10_init_11 55 rfl) rfl rfl ?_
    refine R_bipush (dX10_init_11 56 rfl) rfl rfl ?_
    refine R_icmp_ge (tgt := 1131) (dX10_init_11 57 rfl) (by decide) (fun hc => ?_) (fun hc => ?_)
    · have H := ite_F H hc
      refine R_mask [true, false, false] rfl ?_
      exact hK1131 M H
    · have H := ite_T H hc
      refine R_aload_n (i := 0) (dX10_init_11 58 rfl) rfl rfl ?_
      refine R_getR cgX10 38 (cl38 hS) 9 (Nat.le_of_ble_eq_true rfl) rfl (Or.inl tb_1136) (dX10_init_11 59 rfl) ?_
      refine R_iload_n (i := 1) (dX10_init_12 0 rfl) rfl rfl ?_
      refine R_aload_n (i := 0) (dX10_init_12 1 rfl) rfl rfl ?_
      refine R_getR cgX10 38 (cl38 hS) 25 (Nat.le_of_ble_eq_true rfl) rfl (Or.inl tb_1152) (dX10_init_12 2 rfl) ?_
      refine R_iload_n (i := 1) (dX10_init_12 3 rfl) rfl rfl ?_
      obtain ⟨hg, H⟩ := ite_G H
      refine R_iald 51 (cl51 hS) hg (dX10_init_12 4 rfl) ?_
      obtain ⟨hg, H⟩ := ite_G H
      refine R_iast 44 (cl44 hS) hg (dX10_init_12 5 rfl) ?_
      refine R_iinc (i := 1) (ls' := [some (.inr (.inr (some (ad 38)))), some (.inl (w32 (x1 + 1))), none]) (dX10_init_12 6 rfl) rfl (Nat.le_of_ble_eq_true rfl) rfl rfl ?_
      refine R_goto (tgt := 1107) (dX10_init_12 7 rfl) (by decide) ?_
      exact ih (w32 (x1 + 1)) (mset M 44 (x1).toNat (M 51 (x1).toNat)) H hK1131
def f_X10_init_tail_L1146 : Nat → Int → Int → Mem → Option (Int × Mem)
  | 0, _, _, _ => none
  | n + 1, x1, x2, M =>
    if x2 < 46656 then
      ob (f_X10_isTongue x2 x1 M) fun r584 M585 =>
      if r584 = 0 then
        f_X10_init_tail_L1146 n (w32 (x1 + 0)) (w32 (x2 + 1)) M585
      else
        f_X10_init_tail_L1146 n (w32 (x1 + 1)) (w32 (x2 + 1)) M585
    else
      some (0, M)
set_option maxHeartbeats 4000000 in
theorem t_X10_init_tail_L1146 (l : Launch) (g : GG) (ad : Nat → Nat) (S : SW) (hS : q_ag 38 63 ad S) {r : Int} {M' : Mem} {Post : PP} (hP : Post none S M') : ∀ (n : Nat) (x1 : Int) (x2 : Int) (M : Mem), f_X10_init_tail_L1146 n x1 x2 M = some (r, M') → RW l g MX10_init (q_rm 6 24 12737) 24 12737 Post 1146 S M 24 12737 [some (.inr (.inr (some (ad 38)))), some (.inl x1), some (.inl x2)] [] := by
  intro n
  induction n with
  | zero => intro x1 x2 M H; exact absurd H (by simp [f_X10_init_tail_L1146])
  | succ n ih =>
    intro x1 x2 M H
    rw [f_X10_init_tail_L1146] at H
    refine R_iload_n (i := 2) (dX10_init_12 18 rfl) rfl rfl ?_
    refine R_ldc (z := 46656) tb_1122 rfl (dX10_init_12 19 rfl) ?_
    refine R_icmp_ge (tgt := 1175) (dX10_init_12 20 rfl) (by decide) (fun hc => ?_) (fun hc => ?_)
    · have H := ite_F H hc
      exact R_vret rfl (Nat.le_of_ble_eq_true rfl) (Nat.le_of_ble_eq_true rfl) (dX10_init_12 34 rfl) (by obtain ⟨e1, e2⟩ := Prod.mk.inj (Option.some.inj H); subst e1; subst e2; exact hP)
    · have H := ite_T H hc
      refine R_iload_n (i := 1) (dX10_init_12 21 rfl) rfl rfl ?_
      refine R_aload_n (i := 0) (dX10_init_12 22 rfl) rfl rfl ?_
      refine R_iload_n (i := 2) (dX10_init_12 23 rfl) rfl rfl ?_
      refine R_iload_n (i := 1) (dX10_init_12 24 rfl) rfl rfl ?_
      obtain ⟨r584, M585, hr, H⟩ := ob_E H
      refine R_cV (st' := [.inl r584, .inl x1]) [.inl x2, .inl x1] [.inl x1] (t_X10_isTongue l g ad S _ hS   x2 x1 hr) msX10_isTongue (Or.inl tb_1123) (Or.inl ⟨38, 10, _, _, _, (cl38 hS), rfl⟩) ⟨Nat.le_of_ble_eq_true rfl, Nat.le_of_ble_eq_true rfl⟩ (Nat.le_of_ble_eq_true rfl) (Nat.le_of_ble_eq_true rfl) rfl rfl (Nat.le_of_ble_eq_true rfl) rfl (dX10_init_12 25 rfl) ?_
      refine R_if_eq (tgt := 1166) (dX10_init_12 26 rfl) (by decide) (fun hc => ?_) (fun hc => ?_)
      · have H := ite_T H hc
        refine R_iconst (dX10_init_12 29 rfl) rfl ?_
        refine R_iadd (dX10_init_12 30 rfl) ?_
        refine R_istore_n (i := 1) (ls' := [some (.inr (.inr (some (ad 38)))), some (.inl (w32 (x1 + 0))), some (.inl x2)]) (dX10_init_12 31 rfl) rfl (Nat.le_of_ble_eq_true rfl) (Nat.le_of_ble_eq_true rfl) rfl rfl ?_
        refine R_iinc (i := 2) (ls' := [some (.inr (.inr (some (ad 38)))), some (.inl (w32 (x1 + 0))), some (.inl (w32 (x2 + 1)))]) (dX10_init_12 32 rfl) rfl (Nat.le_of_ble_eq_true rfl) rfl rfl ?_
        refine R_goto (tgt := 1146) (dX10_init_12 33 rfl) (by decide) ?_
        exact ih (w32 (x1 + 0)) (w32 (x2 + 1)) M585 H
      · have H := ite_F H hc
        refine R_iconst (dX10_init_12 27 rfl) rfl ?_
        refine R_goto (tgt := 1167) (dX10_init_12 28 rfl) (by decide) ?_
        refine R_iadd (dX10_init_12 30 rfl) ?_
        refine R_istore_n (i := 1) (ls' := [some (.inr (.inr (some (ad 38)))), some (.inl (w32 (x1 + 1))), some (.inl x2)]) (dX10_init_12 31 rfl) rfl (Nat.le_of_ble_eq_true rfl) (Nat.le_of_ble_eq_true rfl) rfl rfl ?_
        refine R_iinc (i := 2) (ls' := [some (.inr (.inr (some (ad 38)))), some (.inl (w32 (x1 + 1))), some (.inl (w32 (x2 + 1)))]) (dX10_init_12 32 rfl) rfl (Nat.le_of_ble_eq_true rfl) rfl rfl ?_
        refine R_goto (tgt := 1146) (dX10_init_12 33 rfl) (by decide) ?_
        exact ih (w32 (x1 + 1)) (w32 (x2 + 1)) M585 H
def f_X10_init_tail (M : Mem) : Option (Int × Mem) :=
  f_X10_init_tail_L1107
    (fun M581 =>
      ob (f_X10_text (mset M581 38 10 53)) fun r582 M583 =>
      f_X10_init_tail_L1146
        100000 0 0 M583
    )
    100000 0 M
set_option maxHeartbeats 8000000 in
theorem tt_X10_init (l : Launch) (g : GG) (ad : Nat → Nat) (S : SW) (M : Mem) (hS : q_ag 38 63 ad S) {r : Int} {M' : Mem} (H : f_X10_init_tail M = some (r, M')) {Post : PP} (hP : Post none S M') : RW l g MX10_init (q_rm 6 24 12737) 24 12737 Post 1105 S M 24 12737 [some (.inr (.inr (some (ad 38)))), none, none] [] := by
  unfold f_X10_init_tail at H
  refine R_iconst (dX10_init_11 53 rfl) rfl ?_
  refine R_istore_n (i := 1) (ls' := [some (.inr (.inr (some (ad 38)))), some (.inl 0), none]) (dX10_init_11 54 rfl) rfl (Nat.le_of_ble_eq_true rfl) (Nat.le_of_ble_eq_true rfl) rfl rfl ?_
  refine t_X10_init_tail_L1107 l g ad S hS  hP 100000 0 M H (fun M581 H => ?_)
  refine R_aload_n (i := 0) (dX10_init_12 8 rfl) rfl rfl ?_
  refine R_bipush (dX10_init_12 9 rfl) rfl rfl ?_
  refine R_putI cgX10 38 (cl38 hS) 10 (Nat.le_of_ble_eq_true rfl) rfl rfl rfl rfl (Or.inl tb_1137) (dX10_init_12 10 rfl) ?_
  refine R_aload_n (i := 0) (dX10_init_12 11 rfl) rfl rfl ?_
  obtain ⟨r582, M583, hr, H⟩ := ob_E H
  refine R_cV (st' := [.inl r582]) [] [] (t_X10_text l g ad S _ hS   hr) msX10_text (Or.inl tb_1075) (Or.inl ⟨38, 10, _, _, _, (cl38 hS), rfl⟩) ⟨Nat.le_of_ble_eq_true rfl, Nat.le_of_ble_eq_true rfl⟩ (Nat.le_of_ble_eq_true rfl) (Nat.le_of_ble_eq_true rfl) rfl rfl (Nat.le_of_ble_eq_true rfl) rfl (dX10_init_12 12 rfl) ?_
  refine R_pop rfl (dX10_init_12 13 rfl) ?_
  refine R_iconst (dX10_init_12 14 rfl) rfl ?_
  refine R_istore_n (i := 1) (ls' := [some (.inr (.inr (some (ad 38)))), some (.inl 0), none]) (dX10_init_12 15 rfl) rfl (Nat.le_of_ble_eq_true rfl) (Nat.le_of_ble_eq_true rfl) rfl rfl ?_
  refine R_iconst (dX10_init_12 16 rfl) rfl ?_
  refine R_istore_n (i := 2) (ls' := [some (.inr (.inr (some (ad 38)))), some (.inl 0), some (.inl 0)]) (dX10_init_12 17 rfl) rfl (Nat.le_of_ble_eq_true rfl) (Nat.le_of_ble_eq_true rfl) rfl rfl ?_
  exact t_X10_init_tail_L1146 l g ad S hS  hP 100000 0 0 M583 H 
def f_X10_init (M : Mem) : Option (Int × Mem) :=
  f_X10_init_tail (mup (mup (mup (mup (mup (mup (mup (mup (mup (mup (mset (mset (mset (mset (mset (mset (mset (mset (mset (mset (mset (mset (mset (mset (mset (mset (mset (mset (mset (mset (mset (mset (mset (mset (mset (mset (mset (mset (mset (mset (mset (mset (mset (mset (mset (mset (mset (mset (mset (mset (mset (mset (mset (mset (mset (mset (mset (mset (mset (mset (mset (mset (mset (mset (mset (mset (mset (mset (mset (mset (mset (mset (mset (mset (mset (mset (mset (mset (mset (mset (mset (mset (mset (mset (mset (mset (mset (mset (mset (mset (mset (mset (mset (mset (mset (mset (mset (mset (mset (mset (mset (mset (mset (mset (mset (mset (mup (mset (mset (mset (mset (mset (mset (mset (mset (mset (mset (mset (mset (mset (mset (mset (mset (mset (mset (mset (mset (mset (mset (mset (mset (mset (mset (mset (mset (mset (mset (mset (mset (mset (mset (mset (mset (mset (mset (mset (mset (mset (mset (mset (mset (mset (mset (mset (mset (mset (mset (mset (mset (mset (mup (mup (mup (mset (mset (mset (mset (mup (mup (mup (mup (mup (mup (mup (mset (mup (mup (mup M 39 (fun _ => 0)) 40 (fun _ => 0)) 41 (fun _ => 0)) 38 5 100) 42 (fun _ => 0)) 43 (fun _ => 0)) 44 (fun _ => 0)) 45 (fun _ => 0)) 46 (fun _ => 0)) 47 (fun _ => 0)) 48 (fun _ => 0)) 48 0 (-1)) 48 1 (-1)) 48 2 (-1)) 48 3 (-1)) 49 (fun _ => 0)) 50 (fun _ => 0)) 51 (fun _ => 0)) 51 0 109) 51 1 97) 51 2 121) 51 3 32) 51 4 49) 51 5 32) 51 6 59) 51 7 32) 51 8 108) 51 9 105) 51 10 107) 51 11 101) 51 12 115) 51 13 32) 51 14 53) 51 15 48) 51 16 32) 51 17 45) 51 18 32) 51 19 112) 51 20 114) 51 21 105) 51 22 99) 51 23 101) 51 24 32) 51 25 43) 51 26 32) 51 27 109) 51 28 97) 51 29 110) 51 30 121) 51 31 32) 51 32 59) 51 33 32) 51 34 108) 51 35 101) 51 36 97) 51 37 114) 51 38 110) 51 39 115) 51 40 32) 51 41 55) 51 42 50) 51 43 48) 51 44 32) 51 45 45) 51 46 32) 51 47 108) 51 48 101) 51 49 102) 51 50 116) 51 51 32) 51 52 59) 52 (fun _ => 0)) 52 0 109) 52 1 97) 52 2 121) 52 3 32) 52 4 32) 52 5 32) 52 6 32) 52 7 32) 52 8 108) 52 9 105) 52 10 107) 52 11 101) 52 12 115) 52 13 32) 52 14 32) 52 15 32) 52 16 108) 52 17 101) 52 18 97) 52 19 114) 52 20 110) 52 21 115) 52 22 32) 52 23 32) 52 24 112) 52 25 114) 52 26 105) 52 27 99) 52 28 101) 52 29 32) 52 30 32) 52 31 32) 52 32 112) 52 33 97) 52 34 114) 52 35 116) 52 36 115) 52 37 32) 52 38 32) 52 39 32) 52 40 112) 52 41 108) 52 42 97) 52 43 99) 52 44 101) 52 45 32) 52 46 32) 52 47 32) 52 48 109) 52 49 97) 52 50 110) 52 51 121) 52 52 32) 52 53 32) 52 54 32) 52 55 32) 52 56 103) 52 57 117) 52 58 101) 52 59 115) 52 60 116) 52 61 32) 52 62 32) 52 63 32) 52 64 108) 52 65 101) 52 66 102) 52 67 116) 52 68 32) 52 69 32) 52 70 32) 52 71 32) 52 72 111) 52 73 114) 52 74 32) 52 75 32) 52 76 32) 52 77 32) 52 78 32) 52 79 32) 52 80 97) 52 81 110) 52 82 100) 52 83 32) 52 84 32) 52 85 32) 52 86 32) 52 87 32) 52 88 110) 52 89 111) 52 90 116) 52 91 32) 52 92 32) 52 93 32) 52 94 32) 52 95 32) 53 (fun _ => 0)) 54 (fun _ => 0)) 55 (fun _ => 0)) 56 (fun _ => 0)) 57 (fun _ => 0)) 58 (fun _ => 0)) 59 (fun _ => 0)) 60 (fun _ => 0)) 61 (fun _ => 0)) 62 (fun _ => 0))
set_option maxHeartbeats 8000000 in
set_option maxRecDepth 20000 in
theorem t_X10_init (l : Launch) (g : GG) (q0 q1 q2 q3 q4 q5 q6 q7 q8 q9 q10 q11 q12 q13 q14 q15 q16 q17 q18 q19 q20 q21 q22 q23 q24 q25 q26 q27 q28 q29 q30 q31 q32 q33 q34 q35 q36 q37 q38 : Nat) (M : Mem) {r : Int} {M' : Mem} (H : f_X10_init M = some (r, M')) : CT l g MX10_init 6 24 12737 [(q0, .inr (9, [some (some q1), some (some q3), some (some q7), some (some q12), some (some q21), some (some q27), some (some q31), some (some q33), some (some q37), none, none, none, none])), (q1, .inr (7, [some (some q2)])), (q2, .inl 4320), (q3, .inr (3, [some (some q4), some (some q5), some (some q6), none])), (q4, .inl 10), (q5, .inl 10), (q6, .inl 7200), (q7, .inr (0, [some (some q8), some (some q9), some (some q10), some (some q11), none])), (q8, .inl 12), (q9, .inl 12), (q10, .inl 12), (q11, .inl 12), (q12, .inr (6, [some (some q13), some (some q17), some (some q18), some (some q19), some (some q20), none, none, none])), (q13, .inr (5, [some (some q14), some (some q15), some (some q16), none])), (q14, .inl 160), (q15, .inl 161), (q16, .inl 161), (q17, .inl 960), (q18, .inl 18), (q19, .inl 31), (q20, .inl 6), (q21, .inr (1, [some (some q22), some (some q23), some (some q24), some (some q25), some (some q26), none, none])), (q22, .inl 720), (q23, .inl 36), (q24, .inl 640), (q25, .inl 640), (q26, .inl 4096), (q27, .inr (8, [some (some q28), some (some q29), some (some q30), none, none])), (q28, .inl 40), (q29, .inl 4), (q30, .inl 4), (q31, .inr (2, [some (some q32), none, none, none, none, none, none])), (q32, .inl 10), (q33, .inr (4, [some (some q34), some (some q35), some (some q36)])), (q34, .inl 4), (q35, .inl 4), (q36, .inl 160), (q37, .inl 4), (q38, .inr (10, [none, some none, some none, none, some none, none, none, some none, some none, some none, none, some none, some none, none, none, none, none, none, none, none, none, some none, some none, some none, some none, some none, none, none, none, none, some none, some none, none, none, none, some none, some none, some none, some none, some none, none, some none, some none, some none, none, none, some none]))] M [.inr (.inr (some q38))] (fun r2 S2 M2 => r2 = none ∧ M2 = M' ∧ ∃ q39 : Nat, ∃ q40 : Nat, ∃ q41 : Nat, ∃ q42 : Nat, ∃ q43 : Nat, ∃ q44 : Nat, ∃ q45 : Nat, ∃ q46 : Nat, ∃ q47 : Nat, ∃ q48 : Nat, ∃ q49 : Nat, ∃ q50 : Nat, ∃ q51 : Nat, ∃ q52 : Nat, ∃ q53 : Nat, ∃ q54 : Nat, ∃ q55 : Nat, ∃ q56 : Nat, ∃ q57 : Nat, ∃ q58 : Nat, ∃ q59 : Nat, ∃ q60 : Nat, ∃ q61 : Nat, ∃ q62 : Nat, S2 = [(q0, .inr (9, [some (some q1), some (some q3), some (some q7), some (some q12), some (some q21), some (some q27), some (some q31), some (some q33), some (some q37), none, none, none, none])), (q1, .inr (7, [some (some q2)])), (q2, .inl 4320), (q3, .inr (3, [some (some q4), some (some q5), some (some q6), none])), (q4, .inl 10), (q5, .inl 10), (q6, .inl 7200), (q7, .inr (0, [some (some q8), some (some q9), some (some q10), some (some q11), none])), (q8, .inl 12), (q9, .inl 12), (q10, .inl 12), (q11, .inl 12), (q12, .inr (6, [some (some q13), some (some q17), some (some q18), some (some q19), some (some q20), none, none, none])), (q13, .inr (5, [some (some q14), some (some q15), some (some q16), none])), (q14, .inl 160), (q15, .inl 161), (q16, .inl 161), (q17, .inl 960), (q18, .inl 18), (q19, .inl 31), (q20, .inl 6), (q21, .inr (1, [some (some q22), some (some q23), some (some q24), some (some q25), some (some q26), none, none])), (q22, .inl 720), (q23, .inl 36), (q24, .inl 640), (q25, .inl 640), (q26, .inl 4096), (q27, .inr (8, [some (some q28), some (some q29), some (some q30), none, none])), (q28, .inl 40), (q29, .inl 4), (q30, .inl 4), (q31, .inr (2, [some (some q32), none, none, none, none, none, none])), (q32, .inl 10), (q33, .inr (4, [some (some q34), some (some q35), some (some q36)])), (q34, .inl 4), (q35, .inl 4), (q36, .inl 160), (q37, .inl 4), (q38, .inr (10, [none, some (some q39), some (some q40), none, some (some q41), none, none, some (some q42), some (some q43), some (some q44), none, some (some q45), some (some q46), none, none, none, none, none, none, none, none, some (some q47), some (some q48), some (some q49), some (some q50), some (some q51), none, none, none, none, some (some q52), some (some q53), none, none, none, some (some q54), some (some q55), some (some q56), some (some q57), some (some q58), none, some (some q59), some (some q60), some (some q61), none, none, some (some q62)])), (q39, .inl 10), (q40, .inl 10), (q41, .inl 4), (q42, .inl 52), (q43, .inl 4320), (q44, .inl 160), (q45, .inl 1200), (q46, .inl 24), (q47, .inl 10), (q48, .inl 4), (q49, .inl 4), (q50, .inl 160), (q51, .inl 53), (q52, .inl 96), (q53, .inl 200), (q54, .inl 200), (q55, .inl 6), (q56, .inl 720), (q57, .inl 640), (q58, .inl 720), (q59, .inl 40), (q60, .inl 4), (q61, .inl 4), (q62, .inl 4096)]) := by
  unfold f_X10_init at H
  refine CT_of (ls0 := [some (.inr (.inr (some q38))), none, none]) (by decide +kernel) (Nat.le_of_ble_eq_true rfl) rfl ?_
  refine R_aload_n (i := 0) (dX10_init_0 0 rfl) rfl rfl ?_
  refine R_objInit tb_1074 tb_95 tb_96 (Nat.le_of_ble_eq_true rfl) (Nat.le_of_ble_eq_true rfl) (Nat.le_of_ble_eq_true rfl) (dX10_init_0 1 rfl) ?_
  refine R_aload_n (i := 0) (dX10_init_0 2 rfl) rfl rfl ?_
  refine R_bipush (dX10_init_0 3 rfl) rfl rfl ?_
  refine R_newa2 (N := 10) (S' := fun q39 => [(q0, .inr (9, [some (some q1), some (some q3), some (some q7), some (some q12), some (some q21), some (some q27), some (some q31), some (some q33), some (some q37), none, none, none, none])), (q1, .inr (7, [some (some q2)])), (q2, .inl 4320), (q3, .inr (3, [some (some q4), some (some q5), some (some q6), none])), (q4, .inl 10), (q5, .inl 10), (q6, .inl 7200), (q7, .inr (0, [some (some q8), some (some q9), some (some q10), some (some q11), none])), (q8, .inl 12), (q9, .inl 12), (q10, .inl 12), (q11, .inl 12), (q12, .inr (6, [some (some q13), some (some q17), some (some q18), some (some q19), some (some q20), none, none, none])), (q13, .inr (5, [some (some q14), some (some q15), some (some q16), none])), (q14, .inl 160), (q15, .inl 161), (q16, .inl 161), (q17, .inl 960), (q18, .inl 18), (q19, .inl 31), (q20, .inl 6), (q21, .inr (1, [some (some q22), some (some q23), some (some q24), some (some q25), some (some q26), none, none])), (q22, .inl 720), (q23, .inl 36), (q24, .inl 640), (q25, .inl 640), (q26, .inl 4096), (q27, .inr (8, [some (some q28), some (some q29), some (some q30), none, none])), (q28, .inl 40), (q29, .inl 4), (q30, .inl 4), (q31, .inr (2, [some (some q32), none, none, none, none, none, none])), (q32, .inl 10), (q33, .inr (4, [some (some q34), some (some q35), some (some q36)])), (q34, .inl 4), (q35, .inl 4), (q36, .inl 160), (q37, .inl 4), (q38, .inr (10, [none, some none, some none, none, some none, none, none, some none, some none, some none, none, some none, some none, none, none, none, none, none, none, none, none, some none, some none, some none, some none, some none, none, none, none, none, some none, some none, none, none, none, some none, some none, some none, some none, some none, none, some none, some none, some none, none, none, some none])), (q39, .inl 10)]) (k' := 1) (n' := 10) rfl (Nat.le_of_ble_eq_true rfl) rfl rfl (Nat.le_of_ble_eq_true rfl) (Nat.le_of_ble_eq_true rfl) rfl (fun _ => rfl) (dX10_init_0 4 rfl) (fun q39 => ?_)
  refine R_putR (S' := [(q0, .inr (9, [some (some q1), some (some q3), some (some q7), some (some q12), some (some q21), some (some q27), some (some q31), some (some q33), some (some q37), none, none, none, none])), (q1, .inr (7, [some (some q2)])), (q2, .inl 4320), (q3, .inr (3, [some (some q4), some (some q5), some (some q6), none])), (q4, .inl 10), (q5, .inl 10), (q6, .inl 7200), (q7, .inr (0, [some (some q8), some (some q9), some (some q10), some (some q11), none])), (q8, .inl 12), (q9, .inl 12), (q10, .inl 12), (q11, .inl 12), (q12, .inr (6, [some (some q13), some (some q17), some (some q18), some (some q19), some (some q20), none, none, none])), (q13, .inr (5, [some (some q14), some (some q15), some (some q16), none])), (q14, .inl 160), (q15, .inl 161), (q16, .inl 161), (q17, .inl 960), (q18, .inl 18), (q19, .inl 31), (q20, .inl 6), (q21, .inr (1, [some (some q22), some (some q23), some (some q24), some (some q25), some (some q26), none, none])), (q22, .inl 720), (q23, .inl 36), (q24, .inl 640), (q25, .inl 640), (q26, .inl 4096), (q27, .inr (8, [some (some q28), some (some q29), some (some q30), none, none])), (q28, .inl 40), (q29, .inl 4), (q30, .inl 4), (q31, .inr (2, [some (some q32), none, none, none, none, none, none])), (q32, .inl 10), (q33, .inr (4, [some (some q34), some (some q35), some (some q36)])), (q34, .inl 4), (q35, .inl 4), (q36, .inl 160), (q37, .inl 4), (q38, .inr (10, [none, some (some q39), some none, none, some none, none, none, some none, some none, some none, none, some none, some none, none, none, none, none, none, none, none, none, some none, some none, some none, some none, some none, none, none, none, none, some none, some none, none, none, none, some none, some none, some none, some none, some none, none, some none, some none, some none, none, none, some none])), (q39, .inl 10)]) cgX10 38 rfl 1 (Nat.le_of_ble_eq_true rfl) (Nat.le_of_ble_eq_true rfl) rfl rfl rfl rfl rfl tb_1128 (dX10_init_0 5 rfl) rfl ?_
  refine R_aload_n (i := 0) (dX10_init_0 6 rfl) rfl rfl ?_
  refine R_bipush (dX10_init_0 7 rfl) rfl rfl ?_
  refine R_newa2 (N := 10) (S' := fun q40 => [(q0, .inr (9, [some (some q1), some (some q3), some (some q7), some (some q12), some (some q21), some (some q27), some (some q31), some (some q33), some (some q37), none, none, none, none])), (q1, .inr (7, [some (some q2)])), (q2, .inl 4320), (q3, .inr (3, [some (some q4), some (some q5), some (some q6), none])), (q4, .inl 10), (q5, .inl 10), (q6, .inl 7200), (q7, .inr (0, [some (some q8), some (some q9), some (some q10), some (some q11), none])), (q8, .inl 12), (q9, .inl 12), (q10, .inl 12), (q11, .inl 12), (q12, .inr (6, [some (some q13), some (some q17), some (some q18), some (some q19), some (some q20), none, none, none])), (q13, .inr (5, [some (some q14), some (some q15), some (some q16), none])), (q14, .inl 160), (q15, .inl 161), (q16, .inl 161), (q17, .inl 960), (q18, .inl 18), (q19, .inl 31), (q20, .inl 6), (q21, .inr (1, [some (some q22), some (some q23), some (some q24), some (some q25), some (some q26), none, none])), (q22, .inl 720), (q23, .inl 36), (q24, .inl 640), (q25, .inl 640), (q26, .inl 4096), (q27, .inr (8, [some (some q28), some (some q29), some (some q30), none, none])), (q28, .inl 40), (q29, .inl 4), (q30, .inl 4), (q31, .inr (2, [some (some q32), none, none, none, none, none, none])), (q32, .inl 10), (q33, .inr (4, [some (some q34), some (some q35), some (some q36)])), (q34, .inl 4), (q35, .inl 4), (q36, .inl 160), (q37, .inl 4), (q38, .inr (10, [none, some (some q39), some none, none, some none, none, none, some none, some none, some none, none, some none, some none, none, none, none, none, none, none, none, none, some none, some none, some none, some none, some none, none, none, none, none, some none, some none, none, none, none, some none, some none, some none, some none, some none, none, some none, some none, some none, none, none, some none])), (q39, .inl 10), (q40, .inl 10)]) (k' := 2) (n' := 20) rfl (Nat.le_of_ble_eq_true rfl) rfl rfl (Nat.le_of_ble_eq_true rfl) (Nat.le_of_ble_eq_true rfl) rfl (fun _ => rfl) (dX10_init_0 8 rfl) (fun q40 => ?_)
  refine R_putR (S' := [(q0, .inr (9, [some (some q1), some (some q3), some (some q7), some (some q12), some (some q21), some (some q27), some (some q31), some (some q33), some (some q37), none, none, none, none])), (q1, .inr (7, [some (some q2)])), (q2, .inl 4320), (q3, .inr (3, [some (some q4), some (some q5), some (some q6), none])), (q4, .inl 10), (q5, .inl 10), (q6, .inl 7200), (q7, .inr (0, [some (some q8), some (some q9), some (some q10), some (some q11), none])), (q8, .inl 12), (q9, .inl 12), (q10, .inl 12), (q11, .inl 12), (q12, .inr (6, [some (some q13), some (some q17), some (some q18), some (some q19), some (some q20), none, none, none])), (q13, .inr (5, [some (some q14), some (some q15), some (some q16), none])), (q14, .inl 160), (q15, .inl 161), (q16, .inl 161), (q17, .inl 960), (q18, .inl 18), (q19, .inl 31), (q20, .inl 6), (q21, .inr (1, [some (some q22), some (some q23), some (some q24), some (some q25), some (some q26), none, none])), (q22, .inl 720), (q23, .inl 36), (q24, .inl 640), (q25, .inl 640), (q26, .inl 4096), (q27, .inr (8, [some (some q28), some (some q29), some (some q30), none, none])), (q28, .inl 40), (q29, .inl 4), (q30, .inl 4), (q31, .inr (2, [some (some q32), none, none, none, none, none, none])), (q32, .inl 10), (q33, .inr (4, [some (some q34), some (some q35), some (some q36)])), (q34, .inl 4), (q35, .inl 4), (q36, .inl 160), (q37, .inl 4), (q38, .inr (10, [none, some (some q39), some (some q40), none, some none, none, none, some none, some none, some none, none, some none, some none, none, none, none, none, none, none, none, none, some none, some none, some none, some none, some none, none, none, none, none, some none, some none, none, none, none, some none, some none, some none, some none, some none, none, some none, some none, some none, none, none, some none])), (q39, .inl 10), (q40, .inl 10)]) cgX10 38 rfl 2 (Nat.le_of_ble_eq_true rfl) (Nat.le_of_ble_eq_true rfl) rfl rfl rfl rfl rfl tb_1129 (dX10_init_0 9 rfl) rfl ?_
  refine R_aload_n (i := 0) (dX10_init_0 10 rfl) rfl rfl ?_
  refine R_iconst (dX10_init_0 11 rfl) rfl ?_
  refine R_newa2 (N := 4) (S' := fun q41 => [(q0, .inr (9, [some (some q1), some (some q3), some (some q7), some (some q12), some (some q21), some (some q27), some (some q31), some (some q33), some (some q37), none, none, none, none])), (q1, .inr (7, [some (some q2)])), (q2, .inl 4320), (q3, .inr (3, [some (some q4), some (some q5), some (some q6), none])), (q4, .inl 10), (q5, .inl 10), (q6, .inl 7200), (q7, .inr (0, [some (some q8), some (some q9), some (some q10), some (some q11), none])), (q8, .inl 12), (q9, .inl 12), (q10, .inl 12), (q11, .inl 12), (q12, .inr (6, [some (some q13), some (some q17), some (some q18), some (some q19), some (some q20), none, none, none])), (q13, .inr (5, [some (some q14), some (some q15), some (some q16), none])), (q14, .inl 160), (q15, .inl 161), (q16, .inl 161), (q17, .inl 960), (q18, .inl 18), (q19, .inl 31), (q20, .inl 6), (q21, .inr (1, [some (some q22), some (some q23), some (some q24), some (some q25), some (some q26), none, none])), (q22, .inl 720), (q23, .inl 36), (q24, .inl 640), (q25, .inl 640), (q26, .inl 4096), (q27, .inr (8, [some (some q28), some (some q29), some (some q30), none, none])), (q28, .inl 40), (q29, .inl 4), (q30, .inl 4), (q31, .inr (2, [some (some q32), none, none, none, none, none, none])), (q32, .inl 10), (q33, .inr (4, [some (some q34), some (some q35), some (some q36)])), (q34, .inl 4), (q35, .inl 4), (q36, .inl 160), (q37, .inl 4), (q38, .inr (10, [none, some (some q39), some (some q40), none, some none, none, none, some none, some none, some none, none, some none, some none, none, none, none, none, none, none, none, none, some none, some none, some none, some none, some none, none, none, none, none, some none, some none, none, none, none, some none, some none, some none, some none, some none, none, some none, some none, some none, none, none, some none])), (q39, .inl 10), (q40, .inl 10), (q41, .inl 4)]) (k' := 3) (n' := 24) rfl (Nat.le_of_ble_eq_true rfl) rfl rfl (Nat.le_of_ble_eq_true rfl) (Nat.le_of_ble_eq_true rfl) rfl (fun _ => rfl) (dX10_init_0 12 rfl) (fun q41 => ?_)
  refine R_putR (S' := [(q0, .inr (9, [some (some q1), some (some q3), some (some q7), some (some q12), some (some q21), some (some q27), some (some q31), some (some q33), some (some q37), none, none, none, none])), (q1, .inr (7, [some (some q2)])), (q2, .inl 4320), (q3, .inr (3, [some (some q4), some (some q5), some (some q6), none])), (q4, .inl 10), (q5, .inl 10), (q6, .inl 7200), (q7, .inr (0, [some (some q8), some (some q9), some (some q10), some (some q11), none])), (q8, .inl 12), (q9, .inl 12), (q10, .inl 12), (q11, .inl 12), (q12, .inr (6, [some (some q13), some (some q17), some (some q18), some (some q19), some (some q20), none, none, none])), (q13, .inr (5, [some (some q14), some (some q15), some (some q16), none])), (q14, .inl 160), (q15, .inl 161), (q16, .inl 161), (q17, .inl 960), (q18, .inl 18), (q19, .inl 31), (q20, .inl 6), (q21, .inr (1, [some (some q22), some (some q23), some (some q24), some (some q25), some (some q26), none, none])), (q22, .inl 720), (q23, .inl 36), (q24, .inl 640), (q25, .inl 640), (q26, .inl 4096), (q27, .inr (8, [some (some q28), some (some q29), some (some q30), none, none])), (q28, .inl 40), (q29, .inl 4), (q30, .inl 4), (q31, .inr (2, [some (some q32), none, none, none, none, none, none])), (q32, .inl 10), (q33, .inr (4, [some (some q34), some (some q35), some (some q36)])), (q34, .inl 4), (q35, .inl 4), (q36, .inl 160), (q37, .inl 4), (q38, .inr (10, [none, some (some q39), some (some q40), none, some (some q41), none, none, some none, some none, some none, none, some none, some none, none, none, none, none, none, none, none, none, some none, some none, some none, some none, some none, none, none, none, none, some none, some none, none, none, none, some none, some none, some none, some none, some none, none, some none, some none, some none, none, none, some none])), (q39, .inl 10), (q40, .inl 10), (q41, .inl 4)]) cgX10 38 rfl 4 (Nat.le_of_ble_eq_true rfl) (Nat.le_of_ble_eq_true rfl) rfl rfl rfl rfl rfl tb_1131 (dX10_init_0 13 rfl) rfl ?_
  refine R_aload_n (i := 0) (dX10_init_0 14 rfl) rfl rfl ?_
  refine R_bipush (dX10_init_0 15 rfl) rfl rfl ?_
  refine R_putI cgX10 38 rfl 5 (Nat.le_of_ble_eq_true rfl) rfl (by decide +kernel) (by decide +kernel) rfl (Or.inl tb_1132) (dX10_init_0 16 rfl) ?_
  refine R_aload_n (i := 0) (dX10_init_0 17 rfl) rfl rfl ?_
  refine R_bipush (dX10_init_0 18 rfl) rfl rfl ?_
  refine R_newa2 (N := 52) (S' := fun q42 => [(q0, .inr (9, [some (some q1), some (some q3), some (some q7), some (some q12), some (some q21), some (some q27), some (some q31), some (some q33), some (some q37), none, none, none, none])), (q1, .inr (7, [some (some q2)])), (q2, .inl 4320), (q3, .inr (3, [some (some q4), some (some q5), some (some q6), none])), (q4, .inl 10), (q5, .inl 10), (q6, .inl 7200), (q7, .inr (0, [some (some q8), some (some q9), some (some q10), some (some q11), none])), (q8, .inl 12), (q9, .inl 12), (q10, .inl 12), (q11, .inl 12), (q12, .inr (6, [some (some q13), some (some q17), some (some q18), some (some q19), some (some q20), none, none, none])), (q13, .inr (5, [some (some q14), some (some q15), some (some q16), none])), (q14, .inl 160), (q15, .inl 161), (q16, .inl 161), (q17, .inl 960), (q18, .inl 18), (q19, .inl 31), (q20, .inl 6), (q21, .inr (1, [some (some q22), some (some q23), some (some q24), some (some q25), some (some q26), none, none])), (q22, .inl 720), (q23, .inl 36), (q24, .inl 640), (q25, .inl 640), (q26, .inl 4096), (q27, .inr (8, [some (some q28), some (some q29), some (some q30), none, none])), (q28, .inl 40), (q29, .inl 4), (q30, .inl 4), (q31, .inr (2, [some (some q32), none, none, none, none, none, none])), (q32, .inl 10), (q33, .inr (4, [some (some q34), some (some q35), some (some q36)])), (q34, .inl 4), (q35, .inl 4), (q36, .inl 160), (q37, .inl 4), (q38, .inr (10, [none, some (some q39), some (some q40), none, some (some q41), none, none, some none, some none, some none, none, some none, some none, none, none, none, none, none, none, none, none, some none, some none, some none, some none, some none, none, none, none, none, some none, some none, none, none, none, some none, some none, some none, some none, some none, none, some none, some none, some none, none, none, some none])), (q39, .inl 10), (q40, .inl 10), (q41, .inl 4), (q42, .inl 52)]) (k' := 4) (n' := 76) rfl (Nat.le_of_ble_eq_true rfl) rfl rfl (Nat.le_of_ble_eq_true rfl) (Nat.le_of_ble_eq_true rfl) rfl (fun _ => rfl) (dX10_init_0 19 rfl) (fun q42 => ?_)
  refine R_putR (S' := [(q0, .inr (9, [some (some q1), some (some q3), some (some q7), some (some q12), some (some q21), some (some q27), some (some q31), some (some q33), some (some q37), none, none, none, none])), (q1, .inr (7, [some (some q2)])), (q2, .inl 4320), (q3, .inr (3, [some (some q4), some (some q5), some (some q6), none])), (q4, .inl 10), (q5, .inl 10), (q6, .inl 7200), (q7, .inr (0, [some (some q8), some (some q9), some (some q10), some (some q11), none])), (q8, .inl 12), (q9, .inl 12), (q10, .inl 12), (q11, .inl 12), (q12, .inr (6, [some (some q13), some (some q17), some (some q18), some (some q19), some (some q20), none, none, none])), (q13, .inr (5, [some (some q14), some (some q15), some (some q16), none])), (q14, .inl 160), (q15, .inl 161), (q16, .inl 161), (q17, .inl 960), (q18, .inl 18), (q19, .inl 31), (q20, .inl 6), (q21, .inr (1, [some (some q22), some (some q23), some (some q24), some (some q25), some (some q26), none, none])), (q22, .inl 720), (q23, .inl 36), (q24, .inl 640), (q25, .inl 640), (q26, .inl 4096), (q27, .inr (8, [some (some q28), some (some q29), some (some q30), none, none])), (q28, .inl 40), (q29, .inl 4), (q30, .inl 4), (q31, .inr (2, [some (some q32), none, none, none, none, none, none])), (q32, .inl 10), (q33, .inr (4, [some (some q34), some (some q35), some (some q36)])), (q34, .inl 4), (q35, .inl 4), (q36, .inl 160), (q37, .inl 4), (q38, .inr (10, [none, some (some q39), some (some q40), none, some (some q41), none, none, some (some q42), some none, some none, none, some none, some none, none, none, none, none, none, none, none, none, some none, some none, some none, some none, some none, none, none, none, none, some none, some none, none, none, none, some none, some none, some none, some none, some none, none, some none, some none, some none, none, none, some none])), (q39, .inl 10), (q40, .inl 10), (q41, .inl 4), (q42, .inl 52)]) cgX10 38 rfl 7 (Nat.le_of_ble_eq_true rfl) (Nat.le_of_ble_eq_true rfl) rfl rfl rfl rfl rfl tb_1134 (dX10_init_0 20 rfl) rfl ?_
  refine R_aload_n (i := 0) (dX10_init_0 21 rfl) rfl rfl ?_
  refine R_sipush (dX10_init_0 22 rfl) rfl rfl ?_
  refine R_newa2 (N := 4320) (S' := fun q43 => [(q0, .inr (9, [some (some q1), some (some q3), some (some q7), some (some q12), some (some q21), some (some q27), some (some q31), some (some q33), some (some q37), none, none, none, none])), (q1, .inr (7, [some (some q2)])), (q2, .inl 4320), (q3, .inr (3, [some (some q4), some (some q5), some (some q6), none])), (q4, .inl 10), (q5, .inl 10), (q6, .inl 7200), (q7, .inr (0, [some (some q8), some (some q9), some (some q10), some (some q11), none])), (q8, .inl 12), (q9, .inl 12), (q10, .inl 12), (q11, .inl 12), (q12, .inr (6, [some (some q13), some (some q17), some (some q18), some (some q19), some (some q20), none, none, none])), (q13, .inr (5, [some (some q14), some (some q15), some (some q16), none])), (q14, .inl 160), (q15, .inl 161), (q16, .inl 161), (q17, .inl 960), (q18, .inl 18), (q19, .inl 31), (q20, .inl 6), (q21, .inr (1, [some (some q22), some (some q23), some (some q24), some (some q25), some (some q26), none, none])), (q22, .inl 720), (q23, .inl 36), (q24, .inl 640), (q25, .inl 640), (q26, .inl 4096), (q27, .inr (8, [some (some q28), some (some q29), some (some q30), none, none])), (q28, .inl 40), (q29, .inl 4), (q30, .inl 4), (q31, .inr (2, [some (some q32), none, none, none, none, none, none])), (q32, .inl 10), (q33, .inr (4, [some (some q34), some (some q35), some (some q36)])), (q34, .inl 4), (q35, .inl 4), (q36, .inl 160), (q37, .inl 4), (q38, .inr (10, [none, some (some q39), some (some q40), none, some (some q41), none, none, some (some q42), some none, some none, none, some none, some none, none, none, none, none, none, none, none, none, some none, some none, some none, some none, some none, none, none, none, none, some none, some none, none, none, none, some none, some none, some none, some none, some none, none, some none, some none, some none, none, none, some none])), (q39, .inl 10), (q40, .inl 10), (q41, .inl 4), (q42, .inl 52), (q43, .inl 4320)]) (k' := 5) (n' := 4396) rfl (Nat.le_of_ble_eq_true rfl) rfl rfl (Nat.le_of_ble_eq_true rfl) (Nat.le_of_ble_eq_true rfl) rfl (fun _ => rfl) (dX10_init_0 23 rfl) (fun q43 => ?_)
  refine R_putR (S' := [(q0, .inr (9, [some (some q1), some (some q3), some (some q7), some (some q12), some (some q21), some (some q27), some (some q31), some (some q33), some (some q37), none, none, none, none])), (q1, .inr (7, [some (some q2)])), (q2, .inl 4320), (q3, .inr (3, [some (some q4), some (some q5), some (some q6), none])), (q4, .inl 10), (q5, .inl 10), (q6, .inl 7200), (q7, .inr (0, [some (some q8), some (some q9), some (some q10), some (some q11), none])), (q8, .inl 12), (q9, .inl 12), (q10, .inl 12), (q11, .inl 12), (q12, .inr (6, [some (some q13), some (some q17), some (some q18), some (some q19), some (some q20), none, none, none])), (q13, .inr (5, [some (some q14), some (some q15), some (some q16), none])), (q14, .inl 160), (q15, .inl 161), (q16, .inl 161), (q17, .inl 960), (q18, .inl 18), (q19, .inl 31), (q20, .inl 6), (q21, .inr (1, [some (some q22), some (some q23), some (some q24), some (some q25), some (some q26), none, none])), (q22, .inl 720), (q23, .inl 36), (q24, .inl 640), (q25, .inl 640), (q26, .inl 4096), (q27, .inr (8, [some (some q28), some (some q29), some (some q30), none, none])), (q28, .inl 40), (q29, .inl 4), (q30, .inl 4), (q31, .inr (2, [some (some q32), none, none, none, none, none, none])), (q32, .inl 10), (q33, .inr (4, [some (some q34), some (some q35), some (some q36)])), (q34, .inl 4), (q35, .inl 4), (q36, .inl 160), (q37, .inl 4), (q38, .inr (10, [none, some (some q39), some (some q40), none, some (some q41), none, none, some (some q42), some (some q43), some none, none, some none, some none, none, none, none, none, none, none, none, none, some none, some none, some none, some none, some none, none, none, none, none, some none, some none, none, none, none, some none, some none, some none, some none, some none, none, some none, some none, some none, none, none, some none])), (q39, .inl 10), (q40, .inl 10), (q41, .inl 4), (q42, .inl 52), (q43, .inl 4320)]) cgX10 38 rfl 8 (Nat.le_of_ble_eq_true rfl) (Nat.le_of_ble_eq_true rfl) rfl rfl rfl rfl rfl tb_1135 (dX10_init_0 24 rfl) rfl ?_
  refine R_aload_n (i := 0) (dX10_init_0 25 rfl) rfl rfl ?_
  refine R_sipush (dX10_init_0 26 rfl) rfl rfl ?_
  refine R_newa2 (N := 160) (S' := fun q44 => [(q0, .inr (9, [some (some q1), some (some q3), some (some q7), some (some q12), some (some q21), some (some q27), some (some q31), some (some q33), some (some q37), none, none, none, none])), (q1, .inr (7, [some (some q2)])), (q2, .inl 4320), (q3, .inr (3, [some (some q4), some (some q5), some (some q6), none])), (q4, .inl 10), (q5, .inl 10), (q6, .inl 7200), (q7, .inr (0, [some (some q8), some (some q9), some (some q10), some (some q11), none])), (q8, .inl 12), (q9, .inl 12), (q10, .inl 12), (q11, .inl 12), (q12, .inr (6, [some (some q13), some (some q17), some (some q18), some (some q19), some (some q20), none, none, none])), (q13, .inr (5, [some (some q14), some (some q15), some (some q16), none])), (q14, .inl 160), (q15, .inl 161), (q16, .inl 161), (q17, .inl 960), (q18, .inl 18), (q19, .inl 31), (q20, .inl 6), (q21, .inr (1, [some (some q22), some (some q23), some (some q24), some (some q25), some (some q26), none, none])), (q22, .inl 720), (q23, .inl 36), (q24, .inl 640), (q25, .inl 640), (q26, .inl 4096), (q27, .inr (8, [some (some q28), some (some q29), some (some q30), none, none])), (q28, .inl 40), (q29, .inl 4), (q30, .inl 4), (q31, .inr (2, [some (some q32), none, none, none, none, none, none])), (q32, .inl 10), (q33, .inr (4, [some (some q34), some (some q35), some (some q36)])), (q34, .inl 4), (q35, .inl 4), (q36, .inl 160), (q37, .inl 4), (q38, .inr (10, [none, some (some q39), some (some q40), none, some (some q41), none, none, some (some q42), some (some q43), some none, none, some none, some none, none, none, none, none, none, none, none, none, some none, some none, some none, some none, some none, none, none, none, none, some none, some none, none, none, none, some none, some none, some none, some none, some none, none, some none, some none, some none, none, none, some none])), (q39, .inl 10), (q40, .inl 10), (q41, .inl 4), (q42, .inl 52), (q43, .inl 4320), (q44, .inl 160)]) (k' := 6) (n' := 4556) rfl (Nat.le_of_ble_eq_true rfl) rfl rfl (Nat.le_of_ble_eq_true rfl) (Nat.le_of_ble_eq_true rfl) rfl (fun _ => rfl) (dX10_init_0 27 rfl) (fun q44 => ?_)
  refine R_putR (S' := [(q0, .inr (9, [some (some q1), some (some q3), some (some q7), some (some q12), some (some q21), some (some q27), some (some q31), some (some q33), some (some q37), none, none, none, none])), (q1, .inr (7, [some (some q2)])), (q2, .inl 4320), (q3, .inr (3, [some (some q4), some (some q5), some (some q6), none])), (q4, .inl 10), (q5, .inl 10), (q6, .inl 7200), (q7, .inr (0, [some (some q8), some (some q9), some (some q10), some (some q11), none])), (q8, .inl 12), (q9, .inl 12), (q10, .inl 12), (q11, .inl 12), (q12, .inr (6, [some (some q13), some (some q17), some (some q18), some (some q19), some (some q20), none, none, none])), (q13, .inr (5, [some (some q14), some (some q15), some (some q16), none])), (q14, .inl 160), (q15, .inl 161), (q16, .inl 161), (q17, .inl 960), (q18, .inl 18), (q19, .inl 31), (q20, .inl 6), (q21, .inr (1, [some (some q22), some (some q23), some (some q24), some (some q25), some (some q26), none, none])), (q22, .inl 720), (q23, .inl 36), (q24, .inl 640), (q25, .inl 640), (q26, .inl 4096), (q27, .inr (8, [some (some q28), some (some q29), some (some q30), none, none])), (q28, .inl 40), (q29, .inl 4), (q30, .inl 4), (q31, .inr (2, [some (some q32), none, none, none, none, none, none])), (q32, .inl 10), (q33, .inr (4, [some (some q34), some (some q35), some (some q36)])), (q34, .inl 4), (q35, .inl 4), (q36, .inl 160), (q37, .inl 4), (q38, .inr (10, [none, some (some q39), some (some q40), none, some (some q41), none, none, some (some q42), some (some q43), some (some q44), none, some none, some none, none, none, none, none, none, none, none, none, some none, some none, some none, some none, some none, none, none, none, none, some none, some none, none, none, none, some none, some none, some none, some none, some none, none, some none, some none, some none, none, none, some none])), (q39, .inl 10), (q40, .inl 10), (q41, .inl 4), (q42, .inl 52), (q43, .inl 4320), (q44, .inl 160)]) cgX10 38 rfl 9 (Nat.le_of_ble_eq_true rfl) (Nat.le_of_ble_eq_true rfl) rfl rfl rfl rfl rfl tb_1136 (dX10_init_0 28 rfl) rfl ?_
  refine R_aload_n (i := 0) (dX10_init_0 29 rfl) rfl rfl ?_
  refine R_sipush (dX10_init_0 30 rfl) rfl rfl ?_
  refine R_newa2 (N := 1200) (S' := fun q45 => [(q0, .inr (9, [some (some q1), some (some q3), some (some q7), some (some q12), some (some q21), some (some q27), some (some q31), some (some q33), some (some q37), none, none, none, none])), (q1, .inr (7, [some (some q2)])), (q2, .inl 4320), (q3, .inr (3, [some (some q4), some (some q5), some (some q6), none])), (q4, .inl 10), (q5, .inl 10), (q6, .inl 7200), (q7, .inr (0, [some (some q8), some (some q9), some (some q10), some (some q11), none])), (q8, .inl 12), (q9, .inl 12), (q10, .inl 12), (q11, .inl 12), (q12, .inr (6, [some (some q13), some (some q17), some (some q18), some (some q19), some (some q20), none, none, none])), (q13, .inr (5, [some (some q14), some (some q15), some (some q16), none])), (q14, .inl 160), (q15, .inl 161), (q16, .inl 161), (q17, .inl 960), (q18, .inl 18), (q19, .inl 31), (q20, .inl 6), (q21, .inr (1, [some (some q22), some (some q23), some (some q24), some (some q25), some (some q26), none, none])), (q22, .inl 720), (q23, .inl 36), (q24, .inl 640), (q25, .inl 640), (q26, .inl 4096), (q27, .inr (8, [some (some q28), some (some q29), some (some q30), none, none])), (q28, .inl 40), (q29, .inl 4), (q30, .inl 4), (q31, .inr (2, [some (some q32), none, none, none, none, none, none])), (q32, .inl 10), (q33, .inr (4, [some (some q34), some (some q35), some (some q36)])), (q34, .inl 4), (q35, .inl 4), (q36, .inl 160), (q37, .inl 4), (q38, .inr (10, [none, some (some q39), some (some q40), none, some (some q41), none, none, some (some q42), some (some q43), some (some q44), none, some none, some none, none, none, none, none, none, none, none, none, some none, some none, some none, some none, some none, none, none, none, none, some none, some none, none, none, none, some none, some none, some none, some none, some none, none, some none, some none, some none, none, none, some none])), (q39, .inl 10), (q40, .inl 10), (q41, .inl 4), (q42, .inl 52), (q43, .inl 4320), (q44, .inl 160), (q45, .inl 1200)]) (k' := 7) (n' := 5756) rfl (Nat.le_of_ble_eq_true rfl) rfl rfl (Nat.le_of_ble_eq_true rfl) (Nat.le_of_ble_eq_true rfl) rfl (fun _ => rfl) (dX10_init_0 31 rfl) (fun q45 => ?_)
  refine R_putR (S' := [(q0, .inr (9, [some (some q1), some (some q3), some (some q7), some (some q12), some (some q21), some (some q27), some (some q31), some (some q33), some (some q37), none, none, none, none])), (q1, .inr (7, [some (some q2)])), (q2, .inl 4320), (q3, .inr (3, [some (some q4), some (some q5), some (some q6), none])), (q4, .inl 10), (q5, .inl 10), (q6, .inl 7200), (q7, .inr (0, [some (some q8), some (some q9), some (some q10), some (some q11), none])), (q8, .inl 12), (q9, .inl 12), (q10, .inl 12), (q11, .inl 12), (q12, .inr (6, [some (some q13), some (some q17), some (some q18), some (some q19), some (some q20), none, none, none])), (q13, .inr (5, [some (some q14), some (some q15), some (some q16), none])), (q14, .inl 160), (q15, .inl 161), (q16, .inl 161), (q17, .inl 960), (q18, .inl 18), (q19, .inl 31), (q20, .inl 6), (q21, .inr (1, [some (some q22), some (some q23), some (some q24), some (some q25), some (some q26), none, none])), (q22, .inl 720), (q23, .inl 36), (q24, .inl 640), (q25, .inl 640), (q26, .inl 4096), (q27, .inr (8, [some (some q28), some (some q29), some (some q30), none, none])), (q28, .inl 40), (q29, .inl 4), (q30, .inl 4), (q31, .inr (2, [some (some q32), none, none, none, none, none, none])), (q32, .inl 10), (q33, .inr (4, [some (some q34), some (some q35), some (some q36)])), (q34, .inl 4), (q35, .inl 4), (q36, .inl 160), (q37, .inl 4), (q38, .inr (10, [none, some (some q39), some (some q40), none, some (some q41), none, none, some (some q42), some (some q43), some (some q44), none, some (some q45), some none, none, none, none, none, none, none, none, none, some none, some none, some none, some none, some none, none, none, none, none, some none, some none, none, none, none, some none, some none, some none, some none, some none, none, some none, some none, some none, none, none, some none])), (q39, .inl 10), (q40, .inl 10), (q41, .inl 4), (q42, .inl 52), (q43, .inl 4320), (q44, .inl 160), (q45, .inl 1200)]) cgX10 38 rfl 11 (Nat.le_of_ble_eq_true rfl) (Nat.le_of_ble_eq_true rfl) rfl rfl rfl rfl rfl tb_1138 (dX10_init_0 32 rfl) rfl ?_
  refine R_aload_n (i := 0) (dX10_init_0 33 rfl) rfl rfl ?_
  refine R_bipush (dX10_init_0 34 rfl) rfl rfl ?_
  refine R_newa2 (N := 24) (S' := fun q46 => [(q0, .inr (9, [some (some q1), some (some q3), some (some q7), some (some q12), some (some q21), some (some q27), some (some q31), some (some q33), some (some q37), none, none, none, none])), (q1, .inr (7, [some (some q2)])), (q2, .inl 4320), (q3, .inr (3, [some (some q4), some (some q5), some (some q6), none])), (q4, .inl 10), (q5, .inl 10), (q6, .inl 7200), (q7, .inr (0, [some (some q8), some (some q9), some (some q10), some (some q11), none])), (q8, .inl 12), (q9, .inl 12), (q10, .inl 12), (q11, .inl 12), (q12, .inr (6, [some (some q13), some (some q17), some (some q18), some (some q19), some (some q20), none, none, none])), (q13, .inr (5, [some (some q14), some (some q15), some (some q16), none])), (q14, .inl 160), (q15, .inl 161), (q16, .inl 161), (q17, .inl 960), (q18, .inl 18), (q19, .inl 31), (q20, .inl 6), (q21, .inr (1, [some (some q22), some (some q23), some (some q24), some (some q25), some (some q26), none, none])), (q22, .inl 720), (q23, .inl 36), (q24, .inl 640), (q25, .inl 640), (q26, .inl 4096), (q27, .inr (8, [some (some q28), some (some q29), some (some q30), none, none])), (q28, .inl 40), (q29, .inl 4), (q30, .inl 4), (q31, .inr (2, [some (some q32), none, none, none, none, none, none])), (q32, .inl 10), (q33, .inr (4, [some (some q34), some (some q35), some (some q36)])), (q34, .inl 4), (q35, .inl 4), (q36, .inl 160), (q37, .inl 4), (q38, .inr (10, [none, some (some q39), some (some q40), none, some (some q41), none, none, some (some q42), some (some q43), some (some q44), none, some (some q45), some none, none, none, none, none, none, none, none, none, some none, some none, some none, some none, some none, none, none, none, none, some none, some none, none, none, none, some none, some none, some none, some none, some none, none, some none, some none, some none, none, none, some none])), (q39, .inl 10), (q40, .inl 10), (q41, .inl 4), (q42, .inl 52), (q43, .inl 4320), (q44, .inl 160), (q45, .inl 1200), (q46, .inl 24)]) (k' := 8) (n' := 5780) rfl (Nat.le_of_ble_eq_true rfl) rfl rfl (Nat.le_of_ble_eq_true rfl) (Nat.le_of_ble_eq_true rfl) rfl (fun _ => rfl) (dX10_init_0 35 rfl) (fun q46 => ?_)
  refine R_putR (S' := [(q0, .inr (9, [some (some q1), some (some q3), some (some q7), some (some q12), some (some q21), some (some q27), some (some q31), some (some q33), some (some q37), none, none, none, none])), (q1, .inr (7, [some (some q2)])), (q2, .inl 4320), (q3, .inr (3, [some (some q4), some (some q5), some (some q6), none])), (q4, .inl 10), (q5, .inl 10), (q6, .inl 7200), (q7, .inr (0, [some (some q8), some (some q9), some (some q10), some (some q11), none])), (q8, .inl 12), (q9, .inl 12), (q10, .inl 12), (q11, .inl 12), (q12, .inr (6, [some (some q13), some (some q17), some (some q18), some (some q19), some (some q20), none, none, none])), (q13, .inr (5, [some (some q14), some (some q15), some (some q16), none])), (q14, .inl 160), (q15, .inl 161), (q16, .inl 161), (q17, .inl 960), (q18, .inl 18), (q19, .inl 31), (q20, .inl 6), (q21, .inr (1, [some (some q22), some (some q23), some (some q24), some (some q25), some (some q26), none, none])), (q22, .inl 720), (q23, .inl 36), (q24, .inl 640), (q25, .inl 640), (q26, .inl 4096), (q27, .inr (8, [some (some q28), some (some q29), some (some q30), none, none])), (q28, .inl 40), (q29, .inl 4), (q30, .inl 4), (q31, .inr (2, [some (some q32), none, none, none, none, none, none])), (q32, .inl 10), (q33, .inr (4, [some (some q34), some (some q35), some (some q36)])), (q34, .inl 4), (q35, .inl 4), (q36, .inl 160), (q37, .inl 4), (q38, .inr (10, [none, some (some q39), some (some q40), none, some (some q41), none, none, some (some q42), some (some q43), some (some q44), none, some (some q45), some (some q46), none, none, none, none, none, none, none, none, some none, some none, some none, some none, some none, none, none, none, none, some none, some none, none, none, none, some none, some none, some none, some none, some none, none, some none, some none, some none, none, none, some none])), (q39, .inl 10), (q40, .inl 10), (q41, .inl 4), (q42, .inl 52), (q43, .inl 4320), (q44, .inl 160), (q45, .inl 1200), (q46, .inl 24)]) cgX10 38 rfl 12 (Nat.le_of_ble_eq_true rfl) (Nat.le_of_ble_eq_true rfl) rfl rfl rfl rfl rfl tb_1139 (dX10_init_0 36 rfl) rfl ?_
  refine R_aload_n (i := 0) (dX10_init_0 37 rfl) rfl rfl ?_
  refine R_bipush (dX10_init_0 38 rfl) rfl rfl ?_
  refine R_newa2 (N := 10) (S' := fun q47 => [(q0, .inr (9, [some (some q1), some (some q3), some (some q7), some (some q12), some (some q21), some (some q27), some (some q31), some (some q33), some (some q37), none, none, none, none])), (q1, .inr (7, [some (some q2)])), (q2, .inl 4320), (q3, .inr (3, [some (some q4), some (some q5), some (some q6), none])), (q4, .inl 10), (q5, .inl 10), (q6, .inl 7200), (q7, .inr (0, [some (some q8), some (some q9), some (some q10), some (some q11), none])), (q8, .inl 12), (q9, .inl 12), (q10, .inl 12), (q11, .inl 12), (q12, .inr (6, [some (some q13), some (some q17), some (some q18), some (some q19), some (some q20), none, none, none])), (q13, .inr (5, [some (some q14), some (some q15), some (some q16), none])), (q14, .inl 160), (q15, .inl 161), (q16, .inl 161), (q17, .inl 960), (q18, .inl 18), (q19, .inl 31), (q20, .inl 6), (q21, .inr (1, [some (some q22), some (some q23), some (some q24), some (some q25), some (some q26), none, none])), (q22, .inl 720), (q23, .inl 36), (q24, .inl 640), (q25, .inl 640), (q26, .inl 4096), (q27, .inr (8, [some (some q28), some (some q29), some (some q30), none, none])), (q28, .inl 40), (q29, .inl 4), (q30, .inl 4), (q31, .inr (2, [some (some q32), none, none, none, none, none, none])), (q32, .inl 10), (q33, .inr (4, [some (some q34), some (some q35), some (some q36)])), (q34, .inl 4), (q35, .inl 4), (q36, .inl 160), (q37, .inl 4), (q38, .inr (10, [none, some (some q39), some (some q40), none, some (some q41), none, none, some (some q42), some (some q43), some (some q44), none, some (some q45), some (some q46), none, none, none, none, none, none, none, none, some none, some none, some none, some none, some none, none, none, none, none, some none, some none, none, none, none, some none, some none, some none, some none, some none, none, some none, some none, some none, none, none, some none])), (q39, .inl 10), (q40, .inl 10), (q41, .inl 4), (q42, .inl 52), (q43, .inl 4320), (q44, .inl 160), (q45, .inl 1200), (q46, .inl 24), (q47, .inl 10)]) (k' := 9) (n' := 5790) rfl (Nat.le_of_ble_eq_true rfl) rfl rfl (Nat.le_of_ble_eq_true rfl) (Nat.le_of_ble_eq_true rfl) rfl (fun _ => rfl) (dX10_init_0 39 rfl) (fun q47 => ?_)
  refine R_putR (S' := [(q0, .inr (9, [some (some q1), some (some q3), some (some q7), some (some q12), some (some q21), some (some q27), some (some q31), some (some q33), some (some q37), none, none, none, none])), (q1, .inr (7, [some (some q2)])), (q2, .inl 4320), (q3, .inr (3, [some (some q4), some (some q5), some (some q6), none])), (q4, .inl 10), (q5, .inl 10), (q6, .inl 7200), (q7, .inr (0, [some (some q8), some (some q9), some (some q10), some (some q11), none])), (q8, .inl 12), (q9, .inl 12), (q10, .inl 12), (q11, .inl 12), (q12, .inr (6, [some (some q13), some (some q17), some (some q18), some (some q19), some (some q20), none, none, none])), (q13, .inr (5, [some (some q14), some (some q15), some (some q16), none])), (q14, .inl 160), (q15, .inl 161), (q16, .inl 161), (q17, .inl 960), (q18, .inl 18), (q19, .inl 31), (q20, .inl 6), (q21, .inr (1, [some (some q22), some (some q23), some (some q24), some (some q25), some (some q26), none, none])), (q22, .inl 720), (q23, .inl 36), (q24, .inl 640), (q25, .inl 640), (q26, .inl 4096), (q27, .inr (8, [some (some q28), some (some q29), some (some q30), none, none])), (q28, .inl 40), (q29, .inl 4), (q30, .inl 4), (q31, .inr (2, [some (some q32), none, none, none, none, none, none])), (q32, .inl 10), (q33, .inr (4, [some (some q34), some (some q35), some (some q36)])), (q34, .inl 4), (q35, .inl 4), (q36, .inl 160), (q37, .inl 4), (q38, .inr (10, [none, some (some q39), some (some q40), none, some (some q41), none, none, some (some q42), some (some q43), some (some q44), none, some (some q45), some (some q46), none, none, none, none, none, none, none, none, some (some q47), some none, some none, some none, some none, none, none, none, none, some none, some none, none, none, none, some none, some none, some none, some none, some none, none, some none, some none, some none, none, none, some none])), (q39, .inl 10), (q40, .inl 10), (q41, .inl 4), (q42, .inl 52), (q43, .inl 4320), (q44, .inl 160), (q45, .inl 1200), (q46, .inl 24), (q47, .inl 10)]) cgX10 38 rfl 21 (Nat.le_of_ble_eq_true rfl) (Nat.le_of_ble_eq_true rfl) rfl rfl rfl rfl rfl tb_1148 (dX10_init_0 40 rfl) rfl ?_
  refine R_aload_n (i := 0) (dX10_init_0 41 rfl) rfl rfl ?_
  refine R_iconst (dX10_init_0 42 rfl) rfl ?_
  refine R_newa2 (N := 4) (S' := fun q48 => [(q0, .inr (9, [some (some q1), some (some q3), some (some q7), some (some q12), some (some q21), some (some q27), some (some q31), some (some q33), some (some q37), none, none, none, none])), (q1, .inr (7, [some (some q2)])), (q2, .inl 4320), (q3, .inr (3, [some (some q4), some (some q5), some (some q6), none])), (q4, .inl 10), (q5, .inl 10), (q6, .inl 7200), (q7, .inr (0, [some (some q8), some (some q9), some (some q10), some (some q11), none])), (q8, .inl 12), (q9, .inl 12), (q10, .inl 12), (q11, .inl 12), (q12, .inr (6, [some (some q13), some (some q17), some (some q18), some (some q19), some (some q20), none, none, none])), (q13, .inr (5, [some (some q14), some (some q15), some (some q16), none])), (q14, .inl 160), (q15, .inl 161), (q16, .inl 161), (q17, .inl 960), (q18, .inl 18), (q19, .inl 31), (q20, .inl 6), (q21, .inr (1, [some (some q22), some (some q23), some (some q24), some (some q25), some (some q26), none, none])), (q22, .inl 720), (q23, .inl 36), (q24, .inl 640), (q25, .inl 640), (q26, .inl 4096), (q27, .inr (8, [some (some q28), some (some q29), some (some q30), none, none])), (q28, .inl 40), (q29, .inl 4), (q30, .inl 4), (q31, .inr (2, [some (some q32), none, none, none, none, none, none])), (q32, .inl 10), (q33, .inr (4, [some (some q34), some (some q35), some (some q36)])), (q34, .inl 4), (q35, .inl 4), (q36, .inl 160), (q37, .inl 4), (q38, .inr (10, [none, some (some q39), some (some q40), none, some (some q41), none, none, some (some q42), some (some q43), some (some q44), none, some (some q45), some (some q46), none, none, none, none, none, none, none, none, some (some q47), some none, some none, some none, some none, none, none, none, none, some none, some none, none, none, none, some none, some none, some none, some none, some none, none, some none, some none, some none, none, none, some none])), (q39, .inl 10), (q40, .inl 10), (q41, .inl 4), (q42, .inl 52), (q43, .inl 4320), (q44, .inl 160), (q45, .inl 1200), (q46, .inl 24), (q47, .inl 10), (q48, .inl 4)]) (k' := 10) (n' := 5794) rfl (Nat.le_of_ble_eq_true rfl) rfl rfl (Nat.le_of_ble_eq_true rfl) (Nat.le_of_ble_eq_true rfl) rfl (fun _ => rfl) (dX10_init_0 43 rfl) (fun q48 => ?_)
  refine R_dup rfl (dX10_init_0 44 rfl) ?_
  refine R_iconst (dX10_init_0 45 rfl) rfl ?_
  refine R_iconst (dX10_init_0 46 rfl) rfl ?_
  refine R_iast 48 rfl ⟨by decide, by decide⟩ (dX10_init_0 47 rfl) ?_
  refine R_dup rfl (dX10_init_0 48 rfl) ?_
  refine R_iconst (dX10_init_0 49 rfl) rfl ?_
  refine R_iconst (dX10_init_0 50 rfl) rfl ?_
  refine R_iast 48 rfl ⟨by decide, by decide⟩ (dX10_init_0 51 rfl) ?_
  refine R_dup rfl (dX10_init_0 52 rfl) ?_
  refine R_iconst (dX10_init_0 53 rfl) rfl ?_
  refine R_iconst (dX10_init_0 54 rfl) rfl ?_
  refine R_iast 48 rfl ⟨by decide, by decide⟩ (dX10_init_0 55 rfl) ?_
  refine R_dup rfl (dX10_init_0 56 rfl) ?_
  refine R_iconst (dX10_init_0 57 rfl) rfl ?_
  refine R_iconst (dX10_init_0 58 rfl) rfl ?_
  refine R_iast 48 rfl ⟨by decide, by decide⟩ (dX10_init_0 59 rfl) ?_
  refine R_putR (S' := [(q0, .inr (9, [some (some q1), some (some q3), some (some q7), some (some q12), some (some q21), some (some q27), some (some q31), some (some q33), some (some q37), none, none, none, none])), (q1, .inr (7, [some (some q2)])), (q2, .inl 4320), (q3, .inr (3, [some (some q4), some (some q5), some (some q6), none])), (q4, .inl 10), (q5, .inl 10), (q6, .inl 7200), (q7, .inr (0, [some (some q8), some (some q9), some (some q10), some (some q11), none])), (q8, .inl 12), (q9, .inl 12), (q10, .inl 12), (q11, .inl 12), (q12, .inr (6, [some (some q13), some (some q17), some (some q18), some (some q19), some (some q20), none, none, none])), (q13, .inr (5, [some (some q14), some (some q15), some (some q16), none])), (q14, .inl 160), (q15, .inl 161), (q16, .inl 161), (q17, .inl 960), (q18, .inl 18), (q19, .inl 31), (q20, .inl 6), (q21, .inr (1, [some (some q22), some (some q23), some (some q24), some (some q25), some (some q26), none, none])), (q22, .inl 720), (q23, .inl 36), (q24, .inl 640), (q25, .inl 640), (q26, .inl 4096), (q27, .inr (8, [some (some q28), some (some q29), some (some q30), none, none])), (q28, .inl 40), (q29, .inl 4), (q30, .inl 4), (q31, .inr (2, [some (some q32), none, none, none, none, none, none])), (q32, .inl 10), (q33, .inr (4, [some (some q34), some (some q35), some (some q36)])), (q34, .inl 4), (q35, .inl 4), (q36, .inl 160), (q37, .inl 4), (q38, .inr (10, [none, some (some q39), some (some q40), none, some (some q41), none, none, some (some q42), some (some q43), some (some q44), none, some (some q45), some (some q46), none, none, none, none, none, none, none, none, some (some q47), some (some q48), some none, some none, some none, none, none, none, none, some none, some none, none, none, none, some none, some none, some none, some none, some none, none, some none, some none, some none, none, none, some none])), (q39, .inl 10), (q40, .inl 10), (q41, .inl 4), (q42, .inl 52), (q43, .inl 4320), (q44, .inl 160), (q45, .inl 1200), (q46, .inl 24), (q47, .inl 10), (q48, .inl 4)]) cgX10 38 rfl 22 (Nat.le_of_ble_eq_true rfl) (Nat.le_of_ble_eq_true rfl) rfl rfl rfl rfl rfl tb_1149 (dX10_init_1 0 rfl) rfl ?_
  refine R_aload_n (i := 0) (dX10_init_1 1 rfl) rfl rfl ?_
  refine R_iconst (dX10_init_1 2 rfl) rfl ?_
  refine R_newa2 (N := 4) (S' := fun q49 => [(q0, .inr (9, [some (some q1), some (some q3), some (some q7), some (some q12), some (some q21), some (some q27), some (some q31), some (some q33), some (some q37), none, none, none, none])), (q1, .inr (7, [some (some q2)])), (q2, .inl 4320), (q3, .inr (3, [some (some q4), some (some q5), some (some q6), none])), (q4, .inl 10), (q5, .inl 10), (q6, .inl 7200), (q7, .inr (0, [some (some q8), some (some q9), some (some q10), some (some q11), none])), (q8, .inl 12), (q9, .inl 12), (q10, .inl 12), (q11, .inl 12), (q12, .inr (6, [some (some q13), some (some q17), some (some q18), some (some q19), some (some q20), none, none, none])), (q13, .inr (5, [some (some q14), some (some q15), some (some q16), none])), (q14, .inl 160), (q15, .inl 161), (q16, .inl 161), (q17, .inl 960), (q18, .inl 18), (q19, .inl 31), (q20, .inl 6), (q21, .inr (1, [some (some q22), some (some q23), some (some q24), some (some q25), some (some q26), none, none])), (q22, .inl 720), (q23, .inl 36), (q24, .inl 640), (q25, .inl 640), (q26, .inl 4096), (q27, .inr (8, [some (some q28), some (some q29), some (some q30), none, none])), (q28, .inl 40), (q29, .inl 4), (q30, .inl 4), (q31, .inr (2, [some (some q32), none, none, none, none, none, none])), (q32, .inl 10), (q33, .inr (4, [some (some q34), some (some q35), some (some q36)])), (q34, .inl 4), (q35, .inl 4), (q36, .inl 160), (q37, .inl 4), (q38, .inr (10, [none, some (some q39), some (some q40), none, some (some q41), none, none, some (some q42), some (some q43), some (some q44), none, some (some q45), some (some q46), none, none, none, none, none, none, none, none, some (some q47), some (some q48), some none, some none, some none, none, none, none, none, some none, some none, none, none, none, some none, some none, some none, some none, some none, none, some none, some none, some none, none, none, some none])), (q39, .inl 10), (q40, .inl 10), (q41, .inl 4), (q42, .inl 52), (q43, .inl 4320), (q44, .inl 160), (q45, .inl 1200), (q46, .inl 24), (q47, .inl 10), (q48, .inl 4), (q49, .inl 4)]) (k' := 11) (n' := 5798) rfl (Nat.le_of_ble_eq_true rfl) rfl rfl (Nat.le_of_ble_eq_true rfl) (Nat.le_of_ble_eq_true rfl) rfl (fun _ => rfl) (dX10_init_1 3 rfl) (fun q49 => ?_)
  refine R_putR (S' := [(q0, .inr (9, [some (some q1), some (some q3), some (some q7), some (some q12), some (some q21), some (some q27), some (some q31), some (some q33), some (some q37), none, none, none, none])), (q1, .inr (7, [some (some q2)])), (q2, .inl 4320), (q3, .inr (3, [some (some q4), some (some q5), some (some q6), none])), (q4, .inl 10), (q5, .inl 10), (q6, .inl 7200), (q7, .inr (0, [some (some q8), some (some q9), some (some q10), some (some q11), none])), (q8, .inl 12), (q9, .inl 12), (q10, .inl 12), (q11, .inl 12), (q12, .inr (6, [some (some q13), some (some q17), some (some q18), some (some q19), some (some q20), none, none, none])), (q13, .inr (5, [some (some q14), some (some q15), some (some q16), none])), (q14, .inl 160), (q15, .inl 161), (q16, .inl 161), (q17, .inl 960), (q18, .inl 18), (q19, .inl 31), (q20, .inl 6), (q21, .inr (1, [some (some q22), some (some q23), some (some q24), some (some q25), some (some q26), none, none])), (q22, .inl 720), (q23, .inl 36), (q24, .inl 640), (q25, .inl 640), (q26, .inl 4096), (q27, .inr (8, [some (some q28), some (some q29), some (some q30), none, none])), (q28, .inl 40), (q29, .inl 4), (q30, .inl 4), (q31, .inr (2, [some (some q32), none, none, none, none, none, none])), (q32, .inl 10), (q33, .inr (4, [some (some q34), some (some q35), some (some q36)])), (q34, .inl 4), (q35, .inl 4), (q36, .inl 160), (q37, .inl 4), (q38, .inr (10, [none, some (some q39), some (some q40), none, some (some q41), none, none, some (some q42), some (some q43), some (some q44), none, some (some q45), some (some q46), none, none, none, none, none, none, none, none, some (some q47), some (some q48), some (some q49), some none, some none, none, none, none, none, some none, some none, none, none, none, some none, some none, some none, some none, some none, none, some none, some none, some none, none, none, some none])), (q39, .inl 10), (q40, .inl 10), (q41, .inl 4), (q42, .inl 52), (q43, .inl 4320), (q44, .inl 160), (q45, .inl 1200), (q46, .inl 24), (q47, .inl 10), (q48, .inl 4), (q49, .inl 4)]) cgX10 38 rfl 23 (Nat.le_of_ble_eq_true rfl) (Nat.le_of_ble_eq_true rfl) rfl rfl rfl rfl rfl tb_1150 (dX10_init_1 4 rfl) rfl ?_
  refine R_aload_n (i := 0) (dX10_init_1 5 rfl) rfl rfl ?_
  refine R_sipush (dX10_init_1 6 rfl) rfl rfl ?_
  refine R_newa2 (N := 160) (S' := fun q50 => [(q0, .inr (9, [some (some q1), some (some q3), some (some q7), some (some q12), some (some q21), some (some q27), some (some q31), some (some q33), some (some q37), none, none, none, none])), (q1, .inr (7, [some (some q2)])), (q2, .inl 4320), (q3, .inr (3, [some (some q4), some (some q5), some (some q6), none])), (q4, .inl 10), (q5, .inl 10), (q6, .inl 7200), (q7, .inr (0, [some (some q8), some (some q9), some (some q10), some (some q11), none])), (q8, .inl 12), (q9, .inl 12), (q10, .inl 12), (q11, .inl 12), (q12, .inr (6, [some (some q13), some (some q17), some (some q18), some (some q19), some (some q20), none, none, none])), (q13, .inr (5, [some (some q14), some (some q15), some (some q16), none])), (q14, .inl 160), (q15, .inl 161), (q16, .inl 161), (q17, .inl 960), (q18, .inl 18), (q19, .inl 31), (q20, .inl 6), (q21, .inr (1, [some (some q22), some (some q23), some (some q24), some (some q25), some (some q26), none, none])), (q22, .inl 720), (q23, .inl 36), (q24, .inl 640), (q25, .inl 640), (q26, .inl 4096), (q27, .inr (8, [some (some q28), some (some q29), some (some q30), none, none])), (q28, .inl 40), (q29, .inl 4), (q30, .inl 4), (q31, .inr (2, [some (some q32), none, none, none, none, none, none])), (q32, .inl 10), (q33, .inr (4, [some (some q34), some (some q35), some (some q36)])), (q34, .inl 4), (q35, .inl 4), (q36, .inl 160), (q37, .inl 4), (q38, .inr (10, [none, some (some q39), some (some q40), none, some (some q41), none, none, some (some q42), some (some q43), some (some q44), none, some (some q45), some (some q46), none, none, none, none, none, none, none, none, some (some q47), some (some q48), some (some q49), some none, some none, none, none, none, none, some none, some none, none, none, none, some none, some none, some none, some none, some none, none, some none, some none, some none, none, none, some none])), (q39, .inl 10), (q40, .inl 10), (q41, .inl 4), (q42, .inl 52), (q43, .inl 4320), (q44, .inl 160), (q45, .inl 1200), (q46, .inl 24), (q47, .inl 10), (q48, .inl 4), (q49, .inl 4), (q50, .inl 160)]) (k' := 12) (n' := 5958) rfl (Nat.le_of_ble_eq_true rfl) rfl rfl (Nat.le_of_ble_eq_true rfl) (Nat.le_of_ble_eq_true rfl) rfl (fun _ => rfl) (dX10_init_1 7 rfl) (fun q50 => ?_)
  refine R_putR (S' := [(q0, .inr (9, [some (some q1), some (some q3), some (some q7), some (some q12), some (some q21), some (some q27), some (some q31), some (some q33), some (some q37), none, none, none, none])), (q1, .inr (7, [some (some q2)])), (q2, .inl 4320), (q3, .inr (3, [some (some q4), some (some q5), some (some q6), none])), (q4, .inl 10), (q5, .inl 10), (q6, .inl 7200), (q7, .inr (0, [some (some q8), some (some q9), some (some q10), some (some q11), none])), (q8, .inl 12), (q9, .inl 12), (q10, .inl 12), (q11, .inl 12), (q12, .inr (6, [some (some q13), some (some q17), some (some q18), some (some q19), some (some q20), none, none, none])), (q13, .inr (5, [some (some q14), some (some q15), some (some q16), none])), (q14, .inl 160), (q15, .inl 161), (q16, .inl 161), (q17, .inl 960), (q18, .inl 18), (q19, .inl 31), (q20, .inl 6), (q21, .inr (1, [some (some q22), some (some q23), some (some q24), some (some q25), some (some q26), none, none])), (q22, .inl 720), (q23, .inl 36), (q24, .inl 640), (q25, .inl 640), (q26, .inl 4096), (q27, .inr (8, [some (some q28), some (some q29), some (some q30), none, none])), (q28, .inl 40), (q29, .inl 4), (q30, .inl 4), (q31, .inr (2, [some (some q32), none, none, none, none, none, none])), (q32, .inl 10), (q33, .inr (4, [some (some q34), some (some q35), some (some q36)])), (q34, .inl 4), (q35, .inl 4), (q36, .inl 160), (q37, .inl 4), (q38, .inr (10, [none, some (some q39), some (some q40), none, some (some q41), none, none, some (some q42), some (some q43), some (some q44), none, some (some q45), some (some q46), none, none, none, none, none, none, none, none, some (some q47), some (some q48), some (some q49), some (some q50), some none, none, none, none, none, some none, some none, none, none, none, some none, some none, some none, some none, some none, none, some none, some none, some none, none, none, some none])), (q39, .inl 10), (q40, .inl 10), (q41, .inl 4), (q42, .inl 52), (q43, .inl 4320), (q44, .inl 160), (q45, .inl 1200), (q46, .inl 24), (q47, .inl 10), (q48, .inl 4), (q49, .inl 4), (q50, .inl 160)]) cgX10 38 rfl 24 (Nat.le_of_ble_eq_true rfl) (Nat.le_of_ble_eq_true rfl) rfl rfl rfl rfl rfl tb_1151 (dX10_init_1 8 rfl) rfl ?_
  refine R_aload_n (i := 0) (dX10_init_1 9 rfl) rfl rfl ?_
  refine R_bipush (dX10_init_1 10 rfl) rfl rfl ?_
  refine R_newa2 (N := 53) (S' := fun q51 => [(q0, .inr (9, [some (some q1), some (some q3), some (some q7), some (some q12), some (some q21), some (some q27), some (some q31), some (some q33), some (some q37), none, none, none, none])), (q1, .inr (7, [some (some q2)])), (q2, .inl 4320), (q3, .inr (3, [some (some q4), some (some q5), some (some q6), none])), (q4, .inl 10), (q5, .inl 10), (q6, .inl 7200), (q7, .inr (0, [some (some q8), some (some q9), some (some q10), some (some q11), none])), (q8, .inl 12), (q9, .inl 12), (q10, .inl 12), (q11, .inl 12), (q12, .inr (6, [some (some q13), some (some q17), some (some q18), some (some q19), some (some q20), none, none, none])), (q13, .inr (5, [some (some q14), some (some q15), some (some q16), none])), (q14, .inl 160), (q15, .inl 161), (q16, .inl 161), (q17, .inl 960), (q18, .inl 18), (q19, .inl 31), (q20, .inl 6), (q21, .inr (1, [some (some q22), some (some q23), some (some q24), some (some q25), some (some q26), none, none])), (q22, .inl 720), (q23, .inl 36), (q24, .inl 640), (q25, .inl 640), (q26, .inl 4096), (q27, .inr (8, [some (some q28), some (some q29), some (some q30), none, none])), (q28, .inl 40), (q29, .inl 4), (q30, .inl 4), (q31, .inr (2, [some (some q32), none, none, none, none, none, none])), (q32, .inl 10), (q33, .inr (4, [some (some q34), some (some q35), some (some q36)])), (q34, .inl 4), (q35, .inl 4), (q36, .inl 160), (q37, .inl 4), (q38, .inr (10, [none, some (some q39), some (some q40), none, some (some q41), none, none, some (some q42), some (some q43), some (some q44), none, some (some q45), some (some q46), none, none, none, none, none, none, none, none, some (some q47), some (some q48), some (some q49), some (some q50), some none, none, none, none, none, some none, some none, none, none, none, some none, some none, some none, some none, some none, none, some none, some none, some none, none, none, some none])), (q39, .inl 10), (q40, .inl 10), (q41, .inl 4), (q42, .inl 52), (q43, .inl 4320), (q44, .inl 160), (q45, .inl 1200), (q46, .inl 24), (q47, .inl 10), (q48, .inl 4), (q49, .inl 4), (q50, .inl 160), (q51, .inl 53)]) (k' := 13) (n' := 6011) rfl (Nat.le_of_ble_eq_true rfl) rfl rfl (Nat.le_of_ble_eq_true rfl) (Nat.le_of_ble_eq_true rfl) rfl (fun _ => rfl) (dX10_init_1 11 rfl) (fun q51 => ?_)
  refine R_dup rfl (dX10_init_1 12 rfl) ?_
  refine R_iconst (dX10_init_1 13 rfl) rfl ?_
  refine R_bipush (dX10_init_1 14 rfl) rfl rfl ?_
  refine R_iast 51 rfl ⟨by decide, by decide⟩ (dX10_init_1 15 rfl) ?_
  refine R_dup rfl (dX10_init_1 16 rfl) ?_
  refine R_iconst (dX10_init_1 17 rfl) rfl ?_
  refine R_bipush (dX10_init_1 18 rfl) rfl rfl ?_
  refine R_iast 51 rfl ⟨by decide, by decide⟩ (dX10_init_1 19 rfl) ?_
  refine R_dup rfl (dX10_init_1 20 rfl) ?_
  refine R_iconst (dX10_init_1 21 rfl) rfl ?_
  refine R_bipush (dX10_init_1 22 rfl) rfl rfl ?_
  refine R_iast 51 rfl ⟨by decide, by decide⟩ (dX10_init_1 23 rfl) ?_
  refine R_dup rfl (dX10_init_1 24 rfl) ?_
  refine R_iconst (dX10_init_1 25 rfl) rfl ?_
  refine R_bipush (dX10_init_1 26 rfl) rfl rfl ?_
  refine R_iast 51 rfl ⟨by decide, by decide⟩ (dX10_init_1 27 rfl) ?_
  refine R_dup rfl (dX10_init_1 28 rfl) ?_
  refine R_iconst (dX10_init_1 29 rfl) rfl ?_
  refine R_bipush (dX10_init_1 30 rfl) rfl rfl ?_
  refine R_iast 51 rfl ⟨by decide, by decide⟩ (dX10_init_1 31 rfl) ?_
  refine R_dup rfl (dX10_init_1 32 rfl) ?_
  refine R_iconst (dX10_init_1 33 rfl) rfl ?_
  refine R_bipush (dX10_init_1 34 rfl) rfl rfl ?_
  refine R_iast 51 rfl ⟨by decide, by decide⟩ (dX10_init_1 35 rfl) ?_
  refine R_dup rfl (dX10_init_1 36 rfl) ?_
  refine R_bipush (dX10_init_1 37 rfl) rfl rfl ?_
  refine R_bipush (dX10_init_1 38 rfl) rfl rfl ?_
  refine R_iast 51 rfl ⟨by decide, by decide⟩ (dX10_init_1 39 rfl) ?_
  refine R_dup rfl (dX10_init_1 40 rfl) ?_
  refine R_bipush (dX10_init_1 41 rfl) rfl rfl ?_
  refine R_bipush (dX10_init_1 42 rfl) rfl rfl ?_
  refine R_iast 51 rfl ⟨by decide, by decide⟩ (dX10_init_1 43 rfl) ?_
  refine R_dup rfl (dX10_init_1 44 rfl) ?_
  refine R_bipush (dX10_init_1 45 rfl) rfl rfl ?_
  refine R_bipush (dX10_init_1 46 rfl) rfl rfl ?_
  refine R_iast 51 rfl ⟨by decide, by decide⟩ (dX10_init_1 47 rfl) ?_
  refine R_dup rfl (dX10_init_1 48 rfl) ?_
  refine R_bipush (dX10_init_1 49 rfl) rfl rfl ?_
  refine R_bipush (dX10_init_1 50 rfl) rfl rfl ?_
  refine R_iast 51 rfl ⟨by decide, by decide⟩ (dX10_init_1 51 rfl) ?_
  refine R_dup rfl (dX10_init_1 52 rfl) ?_
  refine R_bipush (dX10_init_1 53 rfl) rfl rfl ?_
  refine R_bipush (dX10_init_1 54 rfl) rfl rfl ?_
  refine R_iast 51 rfl ⟨by decide, by decide⟩ (dX10_init_1 55 rfl) ?_
  refine R_dup rfl (dX10_init_1 56 rfl) ?_
  refine R_bipush (dX10_init_1 57 rfl) rfl rfl ?_
  refine R_bipush (dX10_init_1 58 rfl) rfl rfl ?_
  refine R_iast 51 rfl ⟨by decide, by decide⟩ (dX10_init_1 59 rfl) ?_
  refine R_dup rfl (dX10_init_2 0 rfl) ?_
  refine R_bipush (dX10_init_2 1 rfl) rfl rfl ?_
  refine R_bipush (dX10_init_2 2 rfl) rfl rfl ?_
  refine R_iast 51 rfl ⟨by decide, by decide⟩ (dX10_init_2 3 rfl) ?_
  refine R_dup rfl (dX10_init_2 4 rfl) ?_
  refine R_bipush (dX10_init_2 5 rfl) rfl rfl ?_
  refine R_bipush (dX10_init_2 6 rfl) rfl rfl ?_
  refine R_iast 51 rfl ⟨by decide, by decide⟩ (dX10_init_2 7 rfl) ?_
  refine R_dup rfl (dX10_init_2 8 rfl) ?_
  refine R_bipush (dX10_init_2 9 rfl) rfl rfl ?_
  refine R_bipush (dX10_init_2 10 rfl) rfl rfl ?_
  refine R_iast 51 rfl ⟨by decide, by decide⟩ (dX10_init_2 11 rfl) ?_
  refine R_dup rfl (dX10_init_2 12 rfl) ?_
  refine R_bipush (dX10_init_2 13 rfl) rfl rfl ?_
  refine R_bipush (dX10_init_2 14 rfl) rfl rfl ?_
  refine R_iast 51 rfl ⟨by decide, by decide⟩ (dX10_init_2 15 rfl) ?_
  refine R_dup rfl (dX10_init_2 16 rfl) ?_
  refine R_bipush (dX10_init_2 17 rfl) rfl rfl ?_
  refine R_bipush (dX10_init_2 18 rfl) rfl rfl ?_
  refine R_iast 51 rfl ⟨by decide, by decide⟩ (dX10_init_2 19 rfl) ?_
  refine R_dup rfl (dX10_init_2 20 rfl) ?_
  refine R_bipush (dX10_init_2 21 rfl) rfl rfl ?_
  refine R_bipush (dX10_init_2 22 rfl) rfl rfl ?_
  refine R_iast 51 rfl ⟨by decide, by decide⟩ (dX10_init_2 23 rfl) ?_
  refine R_dup rfl (dX10_init_2 24 rfl) ?_
  refine R_bipush (dX10_init_2 25 rfl) rfl rfl ?_
  refine R_bipush (dX10_init_2 26 rfl) rfl rfl ?_
  refine R_iast 51 rfl ⟨by decide, by decide⟩ (dX10_init_2 27 rfl) ?_
  refine R_dup rfl (dX10_init_2 28 rfl) ?_
  refine R_bipush (dX10_init_2 29 rfl) rfl rfl ?_
  refine R_bipush (dX10_init_2 30 rfl) rfl rfl ?_
  refine R_iast 51 rfl ⟨by decide, by decide⟩ (dX10_init_2 31 rfl) ?_
  refine R_dup rfl (dX10_init_2 32 rfl) ?_
  refine R_bipush (dX10_init_2 33 rfl) rfl rfl ?_
  refine R_bipush (dX10_init_2 34 rfl) rfl rfl ?_
  refine R_iast 51 rfl ⟨by decide, by decide⟩ (dX10_init_2 35 rfl) ?_
  refine R_dup rfl (dX10_init_2 36 rfl) ?_
  refine R_bipush (dX10_init_2 37 rfl) rfl rfl ?_
  refine R_bipush (dX10_init_2 38 rfl) rfl rfl ?_
  refine R_iast 51 rfl ⟨by decide, by decide⟩ (dX10_init_2 39 rfl) ?_
  refine R_dup rfl (dX10_init_2 40 rfl) ?_
  refine R_bipush (dX10_init_2 41 rfl) rfl rfl ?_
  refine R_bipush (dX10_init_2 42 rfl) rfl rfl ?_
  refine R_iast 51 rfl ⟨by decide, by decide⟩ (dX10_init_2 43 rfl) ?_
  refine R_dup rfl (dX10_init_2 44 rfl) ?_
  refine R_bipush (dX10_init_2 45 rfl) rfl rfl ?_
  refine R_bipush (dX10_init_2 46 rfl) rfl rfl ?_
  refine R_iast 51 rfl ⟨by decide, by decide⟩ (dX10_init_2 47 rfl) ?_
  refine R_dup rfl (dX10_init_2 48 rfl) ?_
  refine R_bipush (dX10_init_2 49 rfl) rfl rfl ?_
  refine R_bipush (dX10_init_2 50 rfl) rfl rfl ?_
  refine R_iast 51 rfl ⟨by decide, by decide⟩ (dX10_init_2 51 rfl) ?_
  refine R_dup rfl (dX10_init_2 52 rfl) ?_
  refine R_bipush (dX10_init_2 53 rfl) rfl rfl ?_
  refine R_bipush (dX10_init_2 54 rfl) rfl rfl ?_
  refine R_iast 51 rfl ⟨by decide, by decide⟩ (dX10_init_2 55 rfl) ?_
  refine R_dup rfl (dX10_init_2 56 rfl) ?_
  refine R_bipush (dX10_init_2 57 rfl) rfl rfl ?_
  refine R_bipush (dX10_init_2 58 rfl) rfl rfl ?_
  refine R_iast 51 rfl ⟨by decide, by decide⟩ (dX10_init_2 59 rfl) ?_
  refine R_dup rfl (dX10_init_3 0 rfl) ?_
  refine R_bipush (dX10_init_3 1 rfl) rfl rfl ?_
  refine R_bipush (dX10_init_3 2 rfl) rfl rfl ?_
  refine R_iast 51 rfl ⟨by decide, by decide⟩ (dX10_init_3 3 rfl) ?_
  refine R_dup rfl (dX10_init_3 4 rfl) ?_
  refine R_bipush (dX10_init_3 5 rfl) rfl rfl ?_
  refine R_bipush (dX10_init_3 6 rfl) rfl rfl ?_
  refine R_iast 51 rfl ⟨by decide, by decide⟩ (dX10_init_3 7 rfl) ?_
  refine R_dup rfl (dX10_init_3 8 rfl) ?_
  refine R_bipush (dX10_init_3 9 rfl) rfl rfl ?_
  refine R_bipush (dX10_init_3 10 rfl) rfl rfl ?_
  refine R_iast 51 rfl ⟨by decide, by decide⟩ (dX10_init_3 11 rfl) ?_
  refine R_dup rfl (dX10_init_3 12 rfl) ?_
  refine R_bipush (dX10_init_3 13 rfl) rfl rfl ?_
  refine R_bipush (dX10_init_3 14 rfl) rfl rfl ?_
  refine R_iast 51 rfl ⟨by decide, by decide⟩ (dX10_init_3 15 rfl) ?_
  refine R_dup rfl (dX10_init_3 16 rfl) ?_
  refine R_bipush (dX10_init_3 17 rfl) rfl rfl ?_
  refine R_bipush (dX10_init_3 18 rfl) rfl rfl ?_
  refine R_iast 51 rfl ⟨by decide, by decide⟩ (dX10_init_3 19 rfl) ?_
  refine R_dup rfl (dX10_init_3 20 rfl) ?_
  refine R_bipush (dX10_init_3 21 rfl) rfl rfl ?_
  refine R_bipush (dX10_init_3 22 rfl) rfl rfl ?_
  refine R_iast 51 rfl ⟨by decide, by decide⟩ (dX10_init_3 23 rfl) ?_
  refine R_dup rfl (dX10_init_3 24 rfl) ?_
  refine R_bipush (dX10_init_3 25 rfl) rfl rfl ?_
  refine R_bipush (dX10_init_3 26 rfl) rfl rfl ?_
  refine R_iast 51 rfl ⟨by decide, by decide⟩ (dX10_init_3 27 rfl) ?_
  refine R_dup rfl (dX10_init_3 28 rfl) ?_
  refine R_bipush (dX10_init_3 29 rfl) rfl rfl ?_
  refine R_bipush (dX10_init_3 30 rfl) rfl rfl ?_
  refine R_iast 51 rfl ⟨by decide, by decide⟩ (dX10_init_3 31 rfl) ?_
  refine R_dup rfl (dX10_init_3 32 rfl) ?_
  refine R_bipush (dX10_init_3 33 rfl) rfl rfl ?_
  refine R_bipush (dX10_init_3 34 rfl) rfl rfl ?_
  refine R_iast 51 rfl ⟨by decide, by decide⟩ (dX10_init_3 35 rfl) ?_
  refine R_dup rfl (dX10_init_3 36 rfl) ?_
  refine R_bipush (dX10_init_3 37 rfl) rfl rfl ?_
  refine R_bipush (dX10_init_3 38 rfl) rfl rfl ?_
  refine R_iast 51 rfl ⟨by decide, by decide⟩ (dX10_init_3 39 rfl) ?_
  refine R_dup rfl (dX10_init_3 40 rfl) ?_
  refine R_bipush (dX10_init_3 41 rfl) rfl rfl ?_
  refine R_bipush (dX10_init_3 42 rfl) rfl rfl ?_
  refine R_iast 51 rfl ⟨by decide, by decide⟩ (dX10_init_3 43 rfl) ?_
  refine R_dup rfl (dX10_init_3 44 rfl) ?_
  refine R_bipush (dX10_init_3 45 rfl) rfl rfl ?_
  refine R_bipush (dX10_init_3 46 rfl) rfl rfl ?_
  refine R_iast 51 rfl ⟨by decide, by decide⟩ (dX10_init_3 47 rfl) ?_
  refine R_dup rfl (dX10_init_3 48 rfl) ?_
  refine R_bipush (dX10_init_3 49 rfl) rfl rfl ?_
  refine R_bipush (dX10_init_3 50 rfl) rfl rfl ?_
  refine R_iast 51 rfl ⟨by decide, by decide⟩ (dX10_init_3 51 rfl) ?_
  refine R_dup rfl (dX10_init_3 52 rfl) ?_
  refine R_bipush (dX10_init_3 53 rfl) rfl rfl ?_
  refine R_bipush (dX10_init_3 54 rfl) rfl rfl ?_
  refine R_iast 51 rfl ⟨by decide, by decide⟩ (dX10_init_3 55 rfl) ?_
  refine R_dup rfl (dX10_init_3 56 rfl) ?_
  refine R_bipush (dX10_init_3 57 rfl) rfl rfl ?_
  refine R_bipush (dX10_init_3 58 rfl) rfl rfl ?_
  refine R_iast 51 rfl ⟨by decide, by decide⟩ (dX10_init_3 59 rfl) ?_
  refine R_dup rfl (dX10_init_4 0 rfl) ?_
  refine R_bipush (dX10_init_4 1 rfl) rfl rfl ?_
  refine R_bipush (dX10_init_4 2 rfl) rfl rfl ?_
  refine R_iast 51 rfl ⟨by decide, by decide⟩ (dX10_init_4 3 rfl) ?_
  refine R_dup rfl (dX10_init_4 4 rfl) ?_
  refine R_bipush (dX10_init_4 5 rfl) rfl rfl ?_
  refine R_bipush (dX10_init_4 6 rfl) rfl rfl ?_
  refine R_iast 51 rfl ⟨by decide, by decide⟩ (dX10_init_4 7 rfl) ?_
  refine R_dup rfl (dX10_init_4 8 rfl) ?_
  refine R_bipush (dX10_init_4 9 rfl) rfl rfl ?_
  refine R_bipush (dX10_init_4 10 rfl) rfl rfl ?_
  refine R_iast 51 rfl ⟨by decide, by decide⟩ (dX10_init_4 11 rfl) ?_
  refine R_dup rfl (dX10_init_4 12 rfl) ?_
  refine R_bipush (dX10_init_4 13 rfl) rfl rfl ?_
  refine R_bipush (dX10_init_4 14 rfl) rfl rfl ?_
  refine R_iast 51 rfl ⟨by decide, by decide⟩ (dX10_init_4 15 rfl) ?_
  refine R_dup rfl (dX10_init_4 16 rfl) ?_
  refine R_bipush (dX10_init_4 17 rfl) rfl rfl ?_
  refine R_bipush (dX10_init_4 18 rfl) rfl rfl ?_
  refine R_iast 51 rfl ⟨by decide, by decide⟩ (dX10_init_4 19 rfl) ?_
  refine R_dup rfl (dX10_init_4 20 rfl) ?_
  refine R_bipush (dX10_init_4 21 rfl) rfl rfl ?_
  refine R_bipush (dX10_init_4 22 rfl) rfl rfl ?_
  refine R_iast 51 rfl ⟨by decide, by decide⟩ (dX10_init_4 23 rfl) ?_
  refine R_dup rfl (dX10_init_4 24 rfl) ?_
  refine R_bipush (dX10_init_4 25 rfl) rfl rfl ?_
  refine R_bipush (dX10_init_4 26 rfl) rfl rfl ?_
  refine R_iast 51 rfl ⟨by decide, by decide⟩ (dX10_init_4 27 rfl) ?_
  refine R_dup rfl (dX10_init_4 28 rfl) ?_
  refine R_bipush (dX10_init_4 29 rfl) rfl rfl ?_
  refine R_bipush (dX10_init_4 30 rfl) rfl rfl ?_
  refine R_iast 51 rfl ⟨by decide, by decide⟩ (dX10_init_4 31 rfl) ?_
  refine R_dup rfl (dX10_init_4 32 rfl) ?_
  refine R_bipush (dX10_init_4 33 rfl) rfl rfl ?_
  refine R_bipush (dX10_init_4 34 rfl) rfl rfl ?_
  refine R_iast 51 rfl ⟨by decide, by decide⟩ (dX10_init_4 35 rfl) ?_
  refine R_dup rfl (dX10_init_4 36 rfl) ?_
  refine R_bipush (dX10_init_4 37 rfl) rfl rfl ?_
  refine R_bipush (dX10_init_4 38 rfl) rfl rfl ?_
  refine R_iast 51 rfl ⟨by decide, by decide⟩ (dX10_init_4 39 rfl) ?_
  refine R_dup rfl (dX10_init_4 40 rfl) ?_
  refine R_bipush (dX10_init_4 41 rfl) rfl rfl ?_
  refine R_bipush (dX10_init_4 42 rfl) rfl rfl ?_
  refine R_iast 51 rfl ⟨by decide, by decide⟩ (dX10_init_4 43 rfl) ?_
  refine R_putR (S' := [(q0, .inr (9, [some (some q1), some (some q3), some (some q7), some (some q12), some (some q21), some (some q27), some (some q31), some (some q33), some (some q37), none, none, none, none])), (q1, .inr (7, [some (some q2)])), (q2, .inl 4320), (q3, .inr (3, [some (some q4), some (some q5), some (some q6), none])), (q4, .inl 10), (q5, .inl 10), (q6, .inl 7200), (q7, .inr (0, [some (some q8), some (some q9), some (some q10), some (some q11), none])), (q8, .inl 12), (q9, .inl 12), (q10, .inl 12), (q11, .inl 12), (q12, .inr (6, [some (some q13), some (some q17), some (some q18), some (some q19), some (some q20), none, none, none])), (q13, .inr (5, [some (some q14), some (some q15), some (some q16), none])), (q14, .inl 160), (q15, .inl 161), (q16, .inl 161), (q17, .inl 960), (q18, .inl 18), (q19, .inl 31), (q20, .inl 6), (q21, .inr (1, [some (some q22), some (some q23), some (some q24), some (some q25), some (some q26), none, none])), (q22, .inl 720), (q23, .inl 36), (q24, .inl 640), (q25, .inl 640), (q26, .inl 4096), (q27, .inr (8, [some (some q28), some (some q29), some (some q30), none, none])), (q28, .inl 40), (q29, .inl 4), (q30, .inl 4), (q31, .inr (2, [some (some q32), none, none, none, none, none, none])), (q32, .inl 10), (q33, .inr (4, [some (some q34), some (some q35), some (some q36)])), (q34, .inl 4), (q35, .inl 4), (q36, .inl 160), (q37, .inl 4), (q38, .inr (10, [none, some (some q39), some (some q40), none, some (some q41), none, none, some (some q42), some (some q43), some (some q44), none, some (some q45), some (some q46), none, none, none, none, none, none, none, none, some (some q47), some (some q48), some (some q49), some (some q50), some (some q51), none, none, none, none, some none, some none, none, none, none, some none, some none, some none, some none, some none, none, some none, some none, some none, none, none, some none])), (q39, .inl 10), (q40, .inl 10), (q41, .inl 4), (q42, .inl 52), (q43, .inl 4320), (q44, .inl 160), (q45, .inl 1200), (q46, .inl 24), (q47, .inl 10), (q48, .inl 4), (q49, .inl 4), (q50, .inl 160), (q51, .inl 53)]) cgX10 38 rfl 25 (Nat.le_of_ble_eq_true rfl) (Nat.le_of_ble_eq_true rfl) rfl rfl rfl rfl rfl tb_1152 (dX10_init_4 44 rfl) rfl ?_
  refine R_aload_n (i := 0) (dX10_init_4 45 rfl) rfl rfl ?_
  refine R_bipush (dX10_init_4 46 rfl) rfl rfl ?_
  refine R_newa2 (N := 96) (S' := fun q52 => [(q0, .inr (9, [some (some q1), some (some q3), some (some q7), some (some q12), some (some q21), some (some q27), some (some q31), some (some q33), some (some q37), none, none, none, none])), (q1, .inr (7, [some (some q2)])), (q2, .inl 4320), (q3, .inr (3, [some (some q4), some (some q5), some (some q6), none])), (q4, .inl 10), (q5, .inl 10), (q6, .inl 7200), (q7, .inr (0, [some (some q8), some (some q9), some (some q10), some (some q11), none])), (q8, .inl 12), (q9, .inl 12), (q10, .inl 12), (q11, .inl 12), (q12, .inr (6, [some (some q13), some (some q17), some (some q18), some (some q19), some (some q20), none, none, none])), (q13, .inr (5, [some (some q14), some (some q15), some (some q16), none])), (q14, .inl 160), (q15, .inl 161), (q16, .inl 161), (q17, .inl 960), (q18, .inl 18), (q19, .inl 31), (q20, .inl 6), (q21, .inr (1, [some (some q22), some (some q23), some (some q24), some (some q25), some (some q26), none, none])), (q22, .inl 720), (q23, .inl 36), (q24, .inl 640), (q25, .inl 640), (q26, .inl 4096), (q27, .inr (8, [some (some q28), some (some q29), some (some q30), none, none])), (q28, .inl 40), (q29, .inl 4), (q30, .inl 4), (q31, .inr (2, [some (some q32), none, none, none, none, none, none])), (q32, .inl 10), (q33, .inr (4, [some (some q34), some (some q35), some (some q36)])), (q34, .inl 4), (q35, .inl 4), (q36, .inl 160), (q37, .inl 4), (q38, .inr (10, [none, some (some q39), some (some q40), none, some (some q41), none, none, some (some q42), some (some q43), some (some q44), none, some (some q45), some (some q46), none, none, none, none, none, none, none, none, some (some q47), some (some q48), some (some q49), some (some q50), some (some q51), none, none, none, none, some none, some none, none, none, none, some none, some none, some none, some none, some none, none, some none, some none, some none, none, none, some none])), (q39, .inl 10), (q40, .inl 10), (q41, .inl 4), (q42, .inl 52), (q43, .inl 4320), (q44, .inl 160), (q45, .inl 1200), (q46, .inl 24), (q47, .inl 10), (q48, .inl 4), (q49, .inl 4), (q50, .inl 160), (q51, .inl 53), (q52, .inl 96)]) (k' := 14) (n' := 6107) rfl (Nat.le_of_ble_eq_true rfl) rfl rfl (Nat.le_of_ble_eq_true rfl) (Nat.le_of_ble_eq_true rfl) rfl (fun _ => rfl) (dX10_init_4 47 rfl) (fun q52 => ?_)
  refine R_dup rfl (dX10_init_4 48 rfl) ?_
  refine R_iconst (dX10_init_4 49 rfl) rfl ?_
  refine R_bipush (dX10_init_4 50 rfl) rfl rfl ?_
  refine R_iast 52 rfl ⟨by decide, by decide⟩ (dX10_init_4 51 rfl) ?_
  refine R_dup rfl (dX10_init_4 52 rfl) ?_
  refine R_iconst (dX10_init_4 53 rfl) rfl ?_
  refine R_bipush (dX10_init_4 54 rfl) rfl rfl ?_
  refine R_iast 52 rfl ⟨by decide, by decide⟩ (dX10_init_4 55 rfl) ?_
  refine R_dup rfl (dX10_init_4 56 rfl) ?_
  refine R_iconst (dX10_init_4 57 rfl) rfl ?_
  refine R_bipush (dX10_init_4 58 rfl) rfl rfl ?_
  refine R_iast 52 rfl ⟨by decide, by decide⟩ (dX10_init_4 59 rfl) ?_
  refine R_dup rfl (dX10_init_5 0 rfl) ?_
  refine R_iconst (dX10_init_5 1 rfl) rfl ?_
  refine R_bipush (dX10_init_5 2 rfl) rfl rfl ?_
  refine R_iast 52 rfl ⟨by decide, by decide⟩ (dX10_init_5 3 rfl) ?_
  refine R_dup rfl (dX10_init_5 4 rfl) ?_
  refine R_iconst (dX10_init_5 5 rfl) rfl ?_
  refine R_bipush (dX10_init_5 6 rfl) rfl rfl ?_
  refine R_iast 52 rfl ⟨by decide, by decide⟩ (dX10_init_5 7 rfl) ?_
  refine R_dup rfl (dX10_init_5 8 rfl) ?_
  refine R_iconst (dX10_init_5 9 rfl) rfl ?_
  refine R_bipush (dX10_init_5 10 rfl) rfl rfl ?_
  refine R_iast 52 rfl ⟨by decide, by decide⟩ (dX10_init_5 11 rfl) ?_
  refine R_dup rfl (dX10_init_5 12 rfl) ?_
  refine R_bipush (dX10_init_5 13 rfl) rfl rfl ?_
  refine R_bipush (dX10_init_5 14 rfl) rfl rfl ?_
  refine R_iast 52 rfl ⟨by decide, by decide⟩ (dX10_init_5 15 rfl) ?_
  refine R_dup rfl (dX10_init_5 16 rfl) ?_
  refine R_bipush (dX10_init_5 17 rfl) rfl rfl ?_
  refine R_bipush (dX10_init_5 18 rfl) rfl rfl ?_
  refine R_iast 52 rfl ⟨by decide, by decide⟩ (dX10_init_5 19 rfl) ?_
  refine R_dup rfl (dX10_init_5 20 rfl) ?_
  refine R_bipush (dX10_init_5 21 rfl) rfl rfl ?_
  refine R_bipush (dX10_init_5 22 rfl) rfl rfl ?_
  refine R_iast 52 rfl ⟨by decide, by decide⟩ (dX10_init_5 23 rfl) ?_
  refine R_dup rfl (dX10_init_5 24 rfl) ?_
  refine R_bipush (dX10_init_5 25 rfl) rfl rfl ?_
  refine R_bipush (dX10_init_5 26 rfl) rfl rfl ?_
  refine R_iast 52 rfl ⟨by decide, by decide⟩ (dX10_init_5 27 rfl) ?_
  refine R_dup rfl (dX10_init_5 28 rfl) ?_
  refine R_bipush (dX10_init_5 29 rfl) rfl rfl ?_
  refine R_bipush (dX10_init_5 30 rfl) rfl rfl ?_
  refine R_iast 52 rfl ⟨by decide, by decide⟩ (dX10_init_5 31 rfl) ?_
  refine R_dup rfl (dX10_init_5 32 rfl) ?_
  refine R_bipush (dX10_init_5 33 rfl) rfl rfl ?_
  refine R_bipush (dX10_init_5 34 rfl) rfl rfl ?_
  refine R_iast 52 rfl ⟨by decide, by decide⟩ (dX10_init_5 35 rfl) ?_
  refine R_dup rfl (dX10_init_5 36 rfl) ?_
  refine R_bipush (dX10_init_5 37 rfl) rfl rfl ?_
  refine R_bipush (dX10_init_5 38 rfl) rfl rfl ?_
  refine R_iast 52 rfl ⟨by decide, by decide⟩ (dX10_init_5 39 rfl) ?_
  refine R_dup rfl (dX10_init_5 40 rfl) ?_
  refine R_bipush (dX10_init_5 41 rfl) rfl rfl ?_
  refine R_bipush (dX10_init_5 42 rfl) rfl rfl ?_
  refine R_iast 52 rfl ⟨by decide, by decide⟩ (dX10_init_5 43 rfl) ?_
  refine R_dup rfl (dX10_init_5 44 rfl) ?_
  refine R_bipush (dX10_init_5 45 rfl) rfl rfl ?_
  refine R_bipush (dX10_init_5 46 rfl) rfl rfl ?_
  refine R_iast 52 rfl ⟨by decide, by decide⟩ (dX10_init_5 47 rfl) ?_
  refine R_dup rfl (dX10_init_5 48 rfl) ?_
  refine R_bipush (dX10_init_5 49 rfl) rfl rfl ?_
  refine R_bipush (dX10_init_5 50 rfl) rfl rfl ?_
  refine R_iast 52 rfl ⟨by decide, by decide⟩ (dX10_init_5 51 rfl) ?_
  refine R_dup rfl (dX10_init_5 52 rfl) ?_
  refine R_bipush (dX10_init_5 53 rfl) rfl rfl ?_
  refine R_bipush (dX10_init_5 54 rfl) rfl rfl ?_
  refine R_iast 52 rfl ⟨by decide, by decide⟩ (dX10_init_5 55 rfl) ?_
  refine R_dup rfl (dX10_init_5 56 rfl) ?_
  refine R_bipush (dX10_init_5 57 rfl) rfl rfl ?_
  refine R_bipush (dX10_init_5 58 rfl) rfl rfl ?_
  refine R_iast 52 rfl ⟨by decide, by decide⟩ (dX10_init_5 59 rfl) ?_
  refine R_dup rfl (dX10_init_6 0 rfl) ?_
  refine R_bipush (dX10_init_6 1 rfl) rfl rfl ?_
  refine R_bipush (dX10_init_6 2 rfl) rfl rfl ?_
  refine R_iast 52 rfl ⟨by decide, by decide⟩ (dX10_init_6 3 rfl) ?_
  refine R_dup rfl (dX10_init_6 4 rfl) ?_
  refine R_bipush (dX10_init_6 5 rfl) rfl rfl ?_
  refine R_bipush (dX10_init_6 6 rfl) rfl rfl ?_
  refine R_iast 52 rfl ⟨by decide, by decide⟩ (dX10_init_6 7 rfl) ?_
  refine R_dup rfl (dX10_init_6 8 rfl) ?_
  refine R_bipush (dX10_init_6 9 rfl) rfl rfl ?_
  refine R_bipush (dX10_init_6 10 rfl) rfl rfl ?_
  refine R_iast 52 rfl ⟨by decide, by decide⟩ (dX10_init_6 11 rfl) ?_
  refine R_dup rfl (dX10_init_6 12 rfl) ?_
  refine R_bipush (dX10_init_6 13 rfl) rfl rfl ?_
  refine R_bipush (dX10_init_6 14 rfl) rfl rfl ?_
  refine R_iast 52 rfl ⟨by decide, by decide⟩ (dX10_init_6 15 rfl) ?_
  refine R_dup rfl (dX10_init_6 16 rfl) ?_
  refine R_bipush (dX10_init_6 17 rfl) rfl rfl ?_
  refine R_bipush (dX10_init_6 18 rfl) rfl rfl ?_
  refine R_iast 52 rfl ⟨by decide, by decide⟩ (dX10_init_6 19 rfl) ?_
  refine R_dup rfl (dX10_init_6 20 rfl) ?_
  refine R_bipush (dX10_init_6 21 rfl) rfl rfl ?_
  refine R_bipush (dX10_init_6 22 rfl) rfl rfl ?_
  refine R_iast 52 rfl ⟨by decide, by decide⟩ (dX10_init_6 23 rfl) ?_
  refine R_dup rfl (dX10_init_6 24 rfl) ?_
  refine R_bipush (dX10_init_6 25 rfl) rfl rfl ?_
  refine R_bipush (dX10_init_6 26 rfl) rfl rfl ?_
  refine R_iast 52 rfl ⟨by decide, by decide⟩ (dX10_init_6 27 rfl) ?_
  refine R_dup rfl (dX10_init_6 28 rfl) ?_
  refine R_bipush (dX10_init_6 29 rfl) rfl rfl ?_
  refine R_bipush (dX10_init_6 30 rfl) rfl rfl ?_
  refine R_iast 52 rfl ⟨by decide, by decide⟩ (dX10_init_6 31 rfl) ?_
  refine R_dup rfl (dX10_init_6 32 rfl) ?_
  refine R_bipush (dX10_init_6 33 rfl) rfl rfl ?_
  refine R_bipush (dX10_init_6 34 rfl) rfl rfl ?_
  refine R_iast 52 rfl ⟨by decide, by decide⟩ (dX10_init_6 35 rfl) ?_
  refine R_dup rfl (dX10_init_6 36 rfl) ?_
  refine R_bipush (dX10_init_6 37 rfl) rfl rfl ?_
  refine R_bipush (dX10_init_6 38 rfl) rfl rfl ?_
  refine R_iast 52 rfl ⟨by decide, by decide⟩ (dX10_init_6 39 rfl) ?_
  refine R_dup rfl (dX10_init_6 40 rfl) ?_
  refine R_bipush (dX10_init_6 41 rfl) rfl rfl ?_
  refine R_bipush (dX10_init_6 42 rfl) rfl rfl ?_
  refine R_iast 52 rfl ⟨by decide, by decide⟩ (dX10_init_6 43 rfl) ?_
  refine R_dup rfl (dX10_init_6 44 rfl) ?_
  refine R_bipush (dX10_init_6 45 rfl) rfl rfl ?_
  refine R_bipush (dX10_init_6 46 rfl) rfl rfl ?_
  refine R_iast 52 rfl ⟨by decide, by decide⟩ (dX10_init_6 47 rfl) ?_
  refine R_dup rfl (dX10_init_6 48 rfl) ?_
  refine R_bipush (dX10_init_6 49 rfl) rfl rfl ?_
  refine R_bipush (dX10_init_6 50 rfl) rfl rfl ?_
  refine R_iast 52 rfl ⟨by decide, by decide⟩ (dX10_init_6 51 rfl) ?_
  refine R_dup rfl (dX10_init_6 52 rfl) ?_
  refine R_bipush (dX10_init_6 53 rfl) rfl rfl ?_
  refine R_bipush (dX10_init_6 54 rfl) rfl rfl ?_
  refine R_iast 52 rfl ⟨by decide, by decide⟩ (dX10_init_6 55 rfl) ?_
  refine R_dup rfl (dX10_init_6 56 rfl) ?_
  refine R_bipush (dX10_init_6 57 rfl) rfl rfl ?_
  refine R_bipush (dX10_init_6 58 rfl) rfl rfl ?_
  refine R_iast 52 rfl ⟨by decide, by decide⟩ (dX10_init_6 59 rfl) ?_
  refine R_dup rfl (dX10_init_7 0 rfl) ?_
  refine R_bipush (dX10_init_7 1 rfl) rfl rfl ?_
  refine R_bipush (dX10_init_7 2 rfl) rfl rfl ?_
  refine R_iast 52 rfl ⟨by decide, by decide⟩ (dX10_init_7 3 rfl) ?_
  refine R_dup rfl (dX10_init_7 4 rfl) ?_
  refine R_bipush (dX10_init_7 5 rfl) rfl rfl ?_
  refine R_bipush (dX10_init_7 6 rfl) rfl rfl ?_
  refine R_iast 52 rfl ⟨by decide, by decide⟩ (dX10_init_7 7 rfl) ?_
  refine R_dup rfl (dX10_init_7 8 rfl) ?_
  refine R_bipush (dX10_init_7 9 rfl) rfl rfl ?_
  refine R_bipush (dX10_init_7 10 rfl) rfl rfl ?_
  refine R_iast 52 rfl ⟨by decide, by decide⟩ (dX10_init_7 11 rfl) ?_
  refine R_dup rfl (dX10_init_7 12 rfl) ?_
  refine R_bipush (dX10_init_7 13 rfl) rfl rfl ?_
  refine R_bipush (dX10_init_7 14 rfl) rfl rfl ?_
  refine R_iast 52 rfl ⟨by decide, by decide⟩ (dX10_init_7 15 rfl) ?_
  refine R_dup rfl (dX10_init_7 16 rfl) ?_
  refine R_bipush (dX10_init_7 17 rfl) rfl rfl ?_
  refine R_bipush (dX10_init_7 18 rfl) rfl rfl ?_
  refine R_iast 52 rfl ⟨by decide, by decide⟩ (dX10_init_7 19 rfl) ?_
  refine R_dup rfl (dX10_init_7 20 rfl) ?_
  refine R_bipush (dX10_init_7 21 rfl) rfl rfl ?_
  refine R_bipush (dX10_init_7 22 rfl) rfl rfl ?_
  refine R_iast 52 rfl ⟨by decide, by decide⟩ (dX10_init_7 23 rfl) ?_
  refine R_dup rfl (dX10_init_7 24 rfl) ?_
  refine R_bipush (dX10_init_7 25 rfl) rfl rfl ?_
  refine R_bipush (dX10_init_7 26 rfl) rfl rfl ?_
  refine R_iast 52 rfl ⟨by decide, by decide⟩ (dX10_init_7 27 rfl) ?_
  refine R_dup rfl (dX10_init_7 28 rfl) ?_
  refine R_bipush (dX10_init_7 29 rfl) rfl rfl ?_
  refine R_bipush (dX10_init_7 30 rfl) rfl rfl ?_
  refine R_iast 52 rfl ⟨by decide, by decide⟩ (dX10_init_7 31 rfl) ?_
  refine R_dup rfl (dX10_init_7 32 rfl) ?_
  refine R_bipush (dX10_init_7 33 rfl) rfl rfl ?_
  refine R_bipush (dX10_init_7 34 rfl) rfl rfl ?_
  refine R_iast 52 rfl ⟨by decide, by decide⟩ (dX10_init_7 35 rfl) ?_
  refine R_dup rfl (dX10_init_7 36 rfl) ?_
  refine R_bipush (dX10_init_7 37 rfl) rfl rfl ?_
  refine R_bipush (dX10_init_7 38 rfl) rfl rfl ?_
  refine R_iast 52 rfl ⟨by decide, by decide⟩ (dX10_init_7 39 rfl) ?_
  refine R_dup rfl (dX10_init_7 40 rfl) ?_
  refine R_bipush (dX10_init_7 41 rfl) rfl rfl ?_
  refine R_bipush (dX10_init_7 42 rfl) rfl rfl ?_
  refine R_iast 52 rfl ⟨by decide, by decide⟩ (dX10_init_7 43 rfl) ?_
  refine R_dup rfl (dX10_init_7 44 rfl) ?_
  refine R_bipush (dX10_init_7 45 rfl) rfl rfl ?_
  refine R_bipush (dX10_init_7 46 rfl) rfl rfl ?_
  refine R_iast 52 rfl ⟨by decide, by decide⟩ (dX10_init_7 47 rfl) ?_
  refine R_dup rfl (dX10_init_7 48 rfl) ?_
  refine R_bipush (dX10_init_7 49 rfl) rfl rfl ?_
  refine R_bipush (dX10_init_7 50 rfl) rfl rfl ?_
  refine R_iast 52 rfl ⟨by decide, by decide⟩ (dX10_init_7 51 rfl) ?_
  refine R_dup rfl (dX10_init_7 52 rfl) ?_
  refine R_bipush (dX10_init_7 53 rfl) rfl rfl ?_
  refine R_bipush (dX10_init_7 54 rfl) rfl rfl ?_
  refine R_iast 52 rfl ⟨by decide, by decide⟩ (dX10_init_7 55 rfl) ?_
  refine R_dup rfl (dX10_init_7 56 rfl) ?_
  refine R_bipush (dX10_init_7 57 rfl) rfl rfl ?_
  refine R_bipush (dX10_init_7 58 rfl) rfl rfl ?_
  refine R_iast 52 rfl ⟨by decide, by decide⟩ (dX10_init_7 59 rfl) ?_
  refine R_dup rfl (dX10_init_8 0 rfl) ?_
  refine R_bipush (dX10_init_8 1 rfl) rfl rfl ?_
  refine R_bipush (dX10_init_8 2 rfl) rfl rfl ?_
  refine R_iast 52 rfl ⟨by decide, by decide⟩ (dX10_init_8 3 rfl) ?_
  refine R_dup rfl (dX10_init_8 4 rfl) ?_
  refine R_bipush (dX10_init_8 5 rfl) rfl rfl ?_
  refine R_bipush (dX10_init_8 6 rfl) rfl rfl ?_
  refine R_iast 52 rfl ⟨by decide, by decide⟩ (dX10_init_8 7 rfl) ?_
  refine R_dup rfl (dX10_init_8 8 rfl) ?_
  refine R_bipush (dX10_init_8 9 rfl) rfl rfl ?_
  refine R_bipush (dX10_init_8 10 rfl) rfl rfl ?_
  refine R_iast 52 rfl ⟨by decide, by decide⟩ (dX10_init_8 11 rfl) ?_
  refine R_dup rfl (dX10_init_8 12 rfl) ?_
  refine R_bipush (dX10_init_8 13 rfl) rfl rfl ?_
  refine R_bipush (dX10_init_8 14 rfl) rfl rfl ?_
  refine R_iast 52 rfl ⟨by decide, by decide⟩ (dX10_init_8 15 rfl) ?_
  refine R_dup rfl (dX10_init_8 16 rfl) ?_
  refine R_bipush (dX10_init_8 17 rfl) rfl rfl ?_
  refine R_bipush (dX10_init_8 18 rfl) rfl rfl ?_
  refine R_iast 52 rfl ⟨by decide, by decide⟩ (dX10_init_8 19 rfl) ?_
  refine R_dup rfl (dX10_init_8 20 rfl) ?_
  refine R_bipush (dX10_init_8 21 rfl) rfl rfl ?_
  refine R_bipush (dX10_init_8 22 rfl) rfl rfl ?_
  refine R_iast 52 rfl ⟨by decide, by decide⟩ (dX10_init_8 23 rfl) ?_
  refine R_dup rfl (dX10_init_8 24 rfl) ?_
  refine R_bipush (dX10_init_8 25 rfl) rfl rfl ?_
  refine R_bipush (dX10_init_8 26 rfl) rfl rfl ?_
  refine R_iast 52 rfl ⟨by decide, by decide⟩ (dX10_init_8 27 rfl) ?_
  refine R_dup rfl (dX10_init_8 28 rfl) ?_
  refine R_bipush (dX10_init_8 29 rfl) rfl rfl ?_
  refine R_bipush (dX10_init_8 30 rfl) rfl rfl ?_
  refine R_iast 52 rfl ⟨by decide, by decide⟩ (dX10_init_8 31 rfl) ?_
  refine R_dup rfl (dX10_init_8 32 rfl) ?_
  refine R_bipush (dX10_init_8 33 rfl) rfl rfl ?_
  refine R_bipush (dX10_init_8 34 rfl) rfl rfl ?_
  refine R_iast 52 rfl ⟨by decide, by decide⟩ (dX10_init_8 35 rfl) ?_
  refine R_dup rfl (dX10_init_8 36 rfl) ?_
  refine R_bipush (dX10_init_8 37 rfl) rfl rfl ?_
  refine R_bipush (dX10_init_8 38 rfl) rfl rfl ?_
  refine R_iast 52 rfl ⟨by decide, by decide⟩ (dX10_init_8 39 rfl) ?_
  refine R_dup rfl (dX10_init_8 40 rfl) ?_
  refine R_bipush (dX10_init_8 41 rfl) rfl rfl ?_
  refine R_bipush (dX10_init_8 42 rfl) rfl rfl ?_
  refine R_iast 52 rfl ⟨by decide, by decide⟩ (dX10_init_8 43 rfl) ?_
  refine R_dup rfl (dX10_init_8 44 rfl) ?_
  refine R_bipush (dX10_init_8 45 rfl) rfl rfl ?_
  refine R_bipush (dX10_init_8 46 rfl) rfl rfl ?_
  refine R_iast 52 rfl ⟨by decide, by decide⟩ (dX10_init_8 47 rfl) ?_
  refine R_dup rfl (dX10_init_8 48 rfl) ?_
  refine R_bipush (dX10_init_8 49 rfl) rfl rfl ?_
  refine R_bipush (dX10_init_8 50 rfl) rfl rfl ?_
  refine R_iast 52 rfl ⟨by decide, by decide⟩ (dX10_init_8 51 rfl) ?_
  refine R_dup rfl (dX10_init_8 52 rfl) ?_
  refine R_bipush (dX10_init_8 53 rfl) rfl rfl ?_
  refine R_bipush (dX10_init_8 54 rfl) rfl rfl ?_
  refine R_iast 52 rfl ⟨by decide, by decide⟩ (dX10_init_8 55 rfl) ?_
  refine R_dup rfl (dX10_init_8 56 rfl) ?_
  refine R_bipush (dX10_init_8 57 rfl) rfl rfl ?_
  refine R_bipush (dX10_init_8 58 rfl) rfl rfl ?_
  refine R_iast 52 rfl ⟨by decide, by decide⟩ (dX10_init_8 59 rfl) ?_
  refine R_dup rfl (dX10_init_9 0 rfl) ?_
  refine R_bipush (dX10_init_9 1 rfl) rfl rfl ?_
  refine R_bipush (dX10_init_9 2 rfl) rfl rfl ?_
  refine R_iast 52 rfl ⟨by decide, by decide⟩ (dX10_init_9 3 rfl) ?_
  refine R_dup rfl (dX10_init_9 4 rfl) ?_
  refine R_bipush (dX10_init_9 5 rfl) rfl rfl ?_
  refine R_bipush (dX10_init_9 6 rfl) rfl rfl ?_
  refine R_iast 52 rfl ⟨by decide, by decide⟩ (dX10_init_9 7 rfl) ?_
  refine R_dup rfl (dX10_init_9 8 rfl) ?_
  refine R_bipush (dX10_init_9 9 rfl) rfl rfl ?_
  refine R_bipush (dX10_init_9 10 rfl) rfl rfl ?_
  refine R_iast 52 rfl ⟨by decide, by decide⟩ (dX10_init_9 11 rfl) ?_
  refine R_dup rfl (dX10_init_9 12 rfl) ?_
  refine R_bipush (dX10_init_9 13 rfl) rfl rfl ?_
  refine R_bipush (dX10_init_9 14 rfl) rfl rfl ?_
  refine R_iast 52 rfl ⟨by decide, by decide⟩ (dX10_init_9 15 rfl) ?_
  refine R_dup rfl (dX10_init_9 16 rfl) ?_
  refine R_bipush (dX10_init_9 17 rfl) rfl rfl ?_
  refine R_bipush (dX10_init_9 18 rfl) rfl rfl ?_
  refine R_iast 52 rfl ⟨by decide, by decide⟩ (dX10_init_9 19 rfl) ?_
  refine R_dup rfl (dX10_init_9 20 rfl) ?_
  refine R_bipush (dX10_init_9 21 rfl) rfl rfl ?_
  refine R_bipush (dX10_init_9 22 rfl) rfl rfl ?_
  refine R_iast 52 rfl ⟨by decide, by decide⟩ (dX10_init_9 23 rfl) ?_
  refine R_dup rfl (dX10_init_9 24 rfl) ?_
  refine R_bipush (dX10_init_9 25 rfl) rfl rfl ?_
  refine R_bipush (dX10_init_9 26 rfl) rfl rfl ?_
  refine R_iast 52 rfl ⟨by decide, by decide⟩ (dX10_init_9 27 rfl) ?_
  refine R_dup rfl (dX10_init_9 28 rfl) ?_
  refine R_bipush (dX10_init_9 29 rfl) rfl rfl ?_
  refine R_bipush (dX10_init_9 30 rfl) rfl rfl ?_
  refine R_iast 52 rfl ⟨by decide, by decide⟩ (dX10_init_9 31 rfl) ?_
  refine R_dup rfl (dX10_init_9 32 rfl) ?_
  refine R_bipush (dX10_init_9 33 rfl) rfl rfl ?_
  refine R_bipush (dX10_init_9 34 rfl) rfl rfl ?_
  refine R_iast 52 rfl ⟨by decide, by decide⟩ (dX10_init_9 35 rfl) ?_
  refine R_dup rfl (dX10_init_9 36 rfl) ?_
  refine R_bipush (dX10_init_9 37 rfl) rfl rfl ?_
  refine R_bipush (dX10_init_9 38 rfl) rfl rfl ?_
  refine R_iast 52 rfl ⟨by decide, by decide⟩ (dX10_init_9 39 rfl) ?_
  refine R_dup rfl (dX10_init_9 40 rfl) ?_
  refine R_bipush (dX10_init_9 41 rfl) rfl rfl ?_
  refine R_bipush (dX10_init_9 42 rfl) rfl rfl ?_
  refine R_iast 52 rfl ⟨by decide, by decide⟩ (dX10_init_9 43 rfl) ?_
  refine R_dup rfl (dX10_init_9 44 rfl) ?_
  refine R_bipush (dX10_init_9 45 rfl) rfl rfl ?_
  refine R_bipush (dX10_init_9 46 rfl) rfl rfl ?_
  refine R_iast 52 rfl ⟨by decide, by decide⟩ (dX10_init_9 47 rfl) ?_
  refine R_dup rfl (dX10_init_9 48 rfl) ?_
  refine R_bipush (dX10_init_9 49 rfl) rfl rfl ?_
  refine R_bipush (dX10_init_9 50 rfl) rfl rfl ?_
  refine R_iast 52 rfl ⟨by decide, by decide⟩ (dX10_init_9 51 rfl) ?_
  refine R_dup rfl (dX10_init_9 52 rfl) ?_
  refine R_bipush (dX10_init_9 53 rfl) rfl rfl ?_
  refine R_bipush (dX10_init_9 54 rfl) rfl rfl ?_
  refine R_iast 52 rfl ⟨by decide, by decide⟩ (dX10_init_9 55 rfl) ?_
  refine R_dup rfl (dX10_init_9 56 rfl) ?_
  refine R_bipush (dX10_init_9 57 rfl) rfl rfl ?_
  refine R_bipush (dX10_init_9 58 rfl) rfl rfl ?_
  refine R_iast 52 rfl ⟨by decide, by decide⟩ (dX10_init_9 59 rfl) ?_
  refine R_dup rfl (dX10_init_10 0 rfl) ?_
  refine R_bipush (dX10_init_10 1 rfl) rfl rfl ?_
  refine R_bipush (dX10_init_10 2 rfl) rfl rfl ?_
  refine R_iast 52 rfl ⟨by decide, by decide⟩ (dX10_init_10 3 rfl) ?_
  refine R_dup rfl (dX10_init_10 4 rfl) ?_
  refine R_bipush (dX10_init_10 5 rfl) rfl rfl ?_
  refine R_bipush (dX10_init_10 6 rfl) rfl rfl ?_
  refine R_iast 52 rfl ⟨by decide, by decide⟩ (dX10_init_10 7 rfl) ?_
  refine R_dup rfl (dX10_init_10 8 rfl) ?_
  refine R_bipush (dX10_init_10 9 rfl) rfl rfl ?_
  refine R_bipush (dX10_init_10 10 rfl) rfl rfl ?_
  refine R_iast 52 rfl ⟨by decide, by decide⟩ (dX10_init_10 11 rfl) ?_
  refine R_dup rfl (dX10_init_10 12 rfl) ?_
  refine R_bipush (dX10_init_10 13 rfl) rfl rfl ?_
  refine R_bipush (dX10_init_10 14 rfl) rfl rfl ?_
  refine R_iast 52 rfl ⟨by decide, by decide⟩ (dX10_init_10 15 rfl) ?_
  refine R_dup rfl (dX10_init_10 16 rfl) ?_
  refine R_bipush (dX10_init_10 17 rfl) rfl rfl ?_
  refine R_bipush (dX10_init_10 18 rfl) rfl rfl ?_
  refine R_iast 52 rfl ⟨by decide, by decide⟩ (dX10_init_10 19 rfl) ?_
  refine R_dup rfl (dX10_init_10 20 rfl) ?_
  refine R_bipush (dX10_init_10 21 rfl) rfl rfl ?_
  refine R_bipush (dX10_init_10 22 rfl) rfl rfl ?_
  refine R_iast 52 rfl ⟨by decide, by decide⟩ (dX10_init_10 23 rfl) ?_
  refine R_dup rfl (dX10_init_10 24 rfl) ?_
  refine R_bipush (dX10_init_10 25 rfl) rfl rfl ?_
  refine R_bipush (dX10_init_10 26 rfl) rfl rfl ?_
  refine R_iast 52 rfl ⟨by decide, by decide⟩ (dX10_init_10 27 rfl) ?_
  refine R_dup rfl (dX10_init_10 28 rfl) ?_
  refine R_bipush (dX10_init_10 29 rfl) rfl rfl ?_
  refine R_bipush (dX10_init_10 30 rfl) rfl rfl ?_
  refine R_iast 52 rfl ⟨by decide, by decide⟩ (dX10_init_10 31 rfl) ?_
  refine R_dup rfl (dX10_init_10 32 rfl) ?_
  refine R_bipush (dX10_init_10 33 rfl) rfl rfl ?_
  refine R_bipush (dX10_init_10 34 rfl) rfl rfl ?_
  refine R_iast 52 rfl ⟨by decide, by decide⟩ (dX10_init_10 35 rfl) ?_
  refine R_dup rfl (dX10_init_10 36 rfl) ?_
  refine R_bipush (dX10_init_10 37 rfl) rfl rfl ?_
  refine R_bipush (dX10_init_10 38 rfl) rfl rfl ?_
  refine R_iast 52 rfl ⟨by decide, by decide⟩ (dX10_init_10 39 rfl) ?_
  refine R_dup rfl (dX10_init_10 40 rfl) ?_
  refine R_bipush (dX10_init_10 41 rfl) rfl rfl ?_
  refine R_bipush (dX10_init_10 42 rfl) rfl rfl ?_
  refine R_iast 52 rfl ⟨by decide, by decide⟩ (dX10_init_10 43 rfl) ?_
  refine R_dup rfl (dX10_init_10 44 rfl) ?_
  refine R_bipush (dX10_init_10 45 rfl) rfl rfl ?_
  refine R_bipush (dX10_init_10 46 rfl) rfl rfl ?_
  refine R_iast 52 rfl ⟨by decide, by decide⟩ (dX10_init_10 47 rfl) ?_
  refine R_dup rfl (dX10_init_10 48 rfl) ?_
  refine R_bipush (dX10_init_10 49 rfl) rfl rfl ?_
  refine R_bipush (dX10_init_10 50 rfl) rfl rfl ?_
  refine R_iast 52 rfl ⟨by decide, by decide⟩ (dX10_init_10 51 rfl) ?_
  refine R_dup rfl (dX10_init_10 52 rfl) ?_
  refine R_bipush (dX10_init_10 53 rfl) rfl rfl ?_
  refine R_bipush (dX10_init_10 54 rfl) rfl rfl ?_
  refine R_iast 52 rfl ⟨by decide, by decide⟩ (dX10_init_10 55 rfl) ?_
  refine R_dup rfl (dX10_init_10 56 rfl) ?_
  refine R_bipush (dX10_init_10 57 rfl) rfl rfl ?_
  refine R_bipush (dX10_init_10 58 rfl) rfl rfl ?_
  refine R_iast 52 rfl ⟨by decide, by decide⟩ (dX10_init_10 59 rfl) ?_
  refine R_dup rfl (dX10_init_11 0 rfl) ?_
  refine R_bipush (dX10_init_11 1 rfl) rfl rfl ?_
  refine R_bipush (dX10_init_11 2 rfl) rfl rfl ?_
  refine R_iast 52 rfl ⟨by decide, by decide⟩ (dX10_init_11 3 rfl) ?_
  refine R_dup rfl (dX10_init_11 4 rfl) ?_
  refine R_bipush (dX10_init_11 5 rfl) rfl rfl ?_
  refine R_bipush (dX10_init_11 6 rfl) rfl rfl ?_
  refine R_iast 52 rfl ⟨by decide, by decide⟩ (dX10_init_11 7 rfl) ?_
  refine R_dup rfl (dX10_init_11 8 rfl) ?_
  refine R_bipush (dX10_init_11 9 rfl) rfl rfl ?_
  refine R_bipush (dX10_init_11 10 rfl) rfl rfl ?_
  refine R_iast 52 rfl ⟨by decide, by decide⟩ (dX10_init_11 11 rfl) ?_
  refine R_putR (S' := [(q0, .inr (9, [some (some q1), some (some q3), some (some q7), some (some q12), some (some q21), some (some q27), some (some q31), some (some q33), some (some q37), none, none, none, none])), (q1, .inr (7, [some (some q2)])), (q2, .inl 4320), (q3, .inr (3, [some (some q4), some (some q5), some (some q6), none])), (q4, .inl 10), (q5, .inl 10), (q6, .inl 7200), (q7, .inr (0, [some (some q8), some (some q9), some (some q10), some (some q11), none])), (q8, .inl 12), (q9, .inl 12), (q10, .inl 12), (q11, .inl 12), (q12, .inr (6, [some (some q13), some (some q17), some (some q18), some (some q19), some (some q20), none, none, none])), (q13, .inr (5, [some (some q14), some (some q15), some (some q16), none])), (q14, .inl 160), (q15, .inl 161), (q16, .inl 161), (q17, .inl 960), (q18, .inl 18), (q19, .inl 31), (q20, .inl 6), (q21, .inr (1, [some (some q22), some (some q23), some (some q24), some (some q25), some (some q26), none, none])), (q22, .inl 720), (q23, .inl 36), (q24, .inl 640), (q25, .inl 640), (q26, .inl 4096), (q27, .inr (8, [some (some q28), some (some q29), some (some q30), none, none])), (q28, .inl 40), (q29, .inl 4), (q30, .inl 4), (q31, .inr (2, [some (some q32), none, none, none, none, none, none])), (q32, .inl 10), (q33, .inr (4, [some (some q34), some (some q35), some (some q36)])), (q34, .inl 4), (q35, .inl 4), (q36, .inl 160), (q37, .inl 4), (q38, .inr (10, [none, some (some q39), some (some q40), none, some (some q41), none, none, some (some q42), some (some q43), some (some q44), none, some (some q45), some (some q46), none, none, none, none, none, none, none, none, some (some q47), some (some q48), some (some q49), some (some q50), some (some q51), none, none, none, none, some (some q52), some none, none, none, none, some none, some none, some none, some none, some none, none, some none, some none, some none, none, none, some none])), (q39, .inl 10), (q40, .inl 10), (q41, .inl 4), (q42, .inl 52), (q43, .inl 4320), (q44, .inl 160), (q45, .inl 1200), (q46, .inl 24), (q47, .inl 10), (q48, .inl 4), (q49, .inl 4), (q50, .inl 160), (q51, .inl 53), (q52, .inl 96)]) cgX10 38 rfl 30 (Nat.le_of_ble_eq_true rfl) (Nat.le_of_ble_eq_true rfl) rfl rfl rfl rfl rfl tb_1157 (dX10_init_11 12 rfl) rfl ?_
  refine R_aload_n (i := 0) (dX10_init_11 13 rfl) rfl rfl ?_
  refine R_sipush (dX10_init_11 14 rfl) rfl rfl ?_
  refine R_newa2 (N := 200) (S' := fun q53 => [(q0, .inr (9, [some (some q1), some (some q3), some (some q7), some (some q12), some (some q21), some (some q27), some (some q31), some (some q33), some (some q37), none, none, none, none])), (q1, .inr (7, [some (some q2)])), (q2, .inl 4320), (q3, .inr (3, [some (some q4), some (some q5), some (some q6), none])), (q4, .inl 10), (q5, .inl 10), (q6, .inl 7200), (q7, .inr (0, [some (some q8), some (some q9), some (some q10), some (some q11), none])), (q8, .inl 12), (q9, .inl 12), (q10, .inl 12), (q11, .inl 12), (q12, .inr (6, [some (some q13), some (some q17), some (some q18), some (some q19), some (some q20), none, none, none])), (q13, .inr (5, [some (some q14), some (some q15), some (some q16), none])), (q14, .inl 160), (q15, .inl 161), (q16, .inl 161), (q17, .inl 960), (q18, .inl 18), (q19, .inl 31), (q20, .inl 6), (q21, .inr (1, [some (some q22), some (some q23), some (some q24), some (some q25), some (some q26), none, none])), (q22, .inl 720), (q23, .inl 36), (q24, .inl 640), (q25, .inl 640), (q26, .inl 4096), (q27, .inr (8, [some (some q28), some (some q29), some (some q30), none, none])), (q28, .inl 40), (q29, .inl 4), (q30, .inl 4), (q31, .inr (2, [some (some q32), none, none, none, none, none, none])), (q32, .inl 10), (q33, .inr (4, [some (some q34), some (some q35), some (some q36)])), (q34, .inl 4), (q35, .inl 4), (q36, .inl 160), (q37, .inl 4), (q38, .inr (10, [none, some (some q39), some (some q40), none, some (some q41), none, none, some (some q42), some (some q43), some (some q44), none, some (some q45), some (some q46), none, none, none, none, none, none, none, none, some (some q47), some (some q48), some (some q49), some (some q50), some (some q51), none, none, none, none, some (some q52), some none, none, none, none, some none, some none, some none, some none, some none, none, some none, some none, some none, none, none, some none])), (q39, .inl 10), (q40, .inl 10), (q41, .inl 4), (q42, .inl 52), (q43, .inl 4320), (q44, .inl 160), (q45, .inl 1200), (q46, .inl 24), (q47, .inl 10), (q48, .inl 4), (q49, .inl 4), (q50, .inl 160), (q51, .inl 53), (q52, .inl 96), (q53, .inl 200)]) (k' := 15) (n' := 6307) rfl (Nat.le_of_ble_eq_true rfl) rfl rfl (Nat.le_of_ble_eq_true rfl) (Nat.le_of_ble_eq_true rfl) rfl (fun _ => rfl) (dX10_init_11 15 rfl) (fun q53 => ?_)
  refine R_putR (S' := [(q0, .inr (9, [some (some q1), some (some q3), some (some q7), some (some q12), some (some q21), some (some q27), some (some q31), some (some q33), some (some q37), none, none, none, none])), (q1, .inr (7, [some (some q2)])), (q2, .inl 4320), (q3, .inr (3, [some (some q4), some (some q5), some (some q6), none])), (q4, .inl 10), (q5, .inl 10), (q6, .inl 7200), (q7, .inr (0, [some (some q8), some (some q9), some (some q10), some (some q11), none])), (q8, .inl 12), (q9, .inl 12), (q10, .inl 12), (q11, .inl 12), (q12, .inr (6, [some (some q13), some (some q17), some (some q18), some (some q19), some (some q20), none, none, none])), (q13, .inr (5, [some (some q14), some (some q15), some (some q16), none])), (q14, .inl 160), (q15, .inl 161), (q16, .inl 161), (q17, .inl 960), (q18, .inl 18), (q19, .inl 31), (q20, .inl 6), (q21, .inr (1, [some (some q22), some (some q23), some (some q24), some (some q25), some (some q26), none, none])), (q22, .inl 720), (q23, .inl 36), (q24, .inl 640), (q25, .inl 640), (q26, .inl 4096), (q27, .inr (8, [some (some q28), some (some q29), some (some q30), none, none])), (q28, .inl 40), (q29, .inl 4), (q30, .inl 4), (q31, .inr (2, [some (some q32), none, none, none, none, none, none])), (q32, .inl 10), (q33, .inr (4, [some (some q34), some (some q35), some (some q36)])), (q34, .inl 4), (q35, .inl 4), (q36, .inl 160), (q37, .inl 4), (q38, .inr (10, [none, some (some q39), some (some q40), none, some (some q41), none, none, some (some q42), some (some q43), some (some q44), none, some (some q45), some (some q46), none, none, none, none, none, none, none, none, some (some q47), some (some q48), some (some q49), some (some q50), some (some q51), none, none, none, none, some (some q52), some (some q53), none, none, none, some none, some none, some none, some none, some none, none, some none, some none, some none, none, none, some none])), (q39, .inl 10), (q40, .inl 10), (q41, .inl 4), (q42, .inl 52), (q43, .inl 4320), (q44, .inl 160), (q45, .inl 1200), (q46, .inl 24), (q47, .inl 10), (q48, .inl 4), (q49, .inl 4), (q50, .inl 160), (q51, .inl 53), (q52, .inl 96), (q53, .inl 200)]) cgX10 38 rfl 31 (Nat.le_of_ble_eq_true rfl) (Nat.le_of_ble_eq_true rfl) rfl rfl rfl rfl rfl tb_1158 (dX10_init_11 16 rfl) rfl ?_
  refine R_aload_n (i := 0) (dX10_init_11 17 rfl) rfl rfl ?_
  refine R_sipush (dX10_init_11 18 rfl) rfl rfl ?_
  refine R_newa2 (N := 200) (S' := fun q54 => [(q0, .inr (9, [some (some q1), some (some q3), some (some q7), some (some q12), some (some q21), some (some q27), some (some q31), some (some q33), some (some q37), none, none, none, none])), (q1, .inr (7, [some (some q2)])), (q2, .inl 4320), (q3, .inr (3, [some (some q4), some (some q5), some (some q6), none])), (q4, .inl 10), (q5, .inl 10), (q6, .inl 7200), (q7, .inr (0, [some (some q8), some (some q9), some (some q10), some (some q11), none])), (q8, .inl 12), (q9, .inl 12), (q10, .inl 12), (q11, .inl 12), (q12, .inr (6, [some (some q13), some (some q17), some (some q18), some (some q19), some (some q20), none, none, none])), (q13, .inr (5, [some (some q14), some (some q15), some (some q16), none])), (q14, .inl 160), (q15, .inl 161), (q16, .inl 161), (q17, .inl 960), (q18, .inl 18), (q19, .inl 31), (q20, .inl 6), (q21, .inr (1, [some (some q22), some (some q23), some (some q24), some (some q25), some (some q26), none, none])), (q22, .inl 720), (q23, .inl 36), (q24, .inl 640), (q25, .inl 640), (q26, .inl 4096), (q27, .inr (8, [some (some q28), some (some q29), some (some q30), none, none])), (q28, .inl 40), (q29, .inl 4), (q30, .inl 4), (q31, .inr (2, [some (some q32), none, none, none, none, none, none])), (q32, .inl 10), (q33, .inr (4, [some (some q34), some (some q35), some (some q36)])), (q34, .inl 4), (q35, .inl 4), (q36, .inl 160), (q37, .inl 4), (q38, .inr (10, [none, some (some q39), some (some q40), none, some (some q41), none, none, some (some q42), some (some q43), some (some q44), none, some (some q45), some (some q46), none, none, none, none, none, none, none, none, some (some q47), some (some q48), some (some q49), some (some q50), some (some q51), none, none, none, none, some (some q52), some (some q53), none, none, none, some none, some none, some none, some none, some none, none, some none, some none, some none, none, none, some none])), (q39, .inl 10), (q40, .inl 10), (q41, .inl 4), (q42, .inl 52), (q43, .inl 4320), (q44, .inl 160), (q45, .inl 1200), (q46, .inl 24), (q47, .inl 10), (q48, .inl 4), (q49, .inl 4), (q50, .inl 160), (q51, .inl 53), (q52, .inl 96), (q53, .inl 200), (q54, .inl 200)]) (k' := 16) (n' := 6507) rfl (Nat.le_of_ble_eq_true rfl) rfl rfl (Nat.le_of_ble_eq_true rfl) (Nat.le_of_ble_eq_true rfl) rfl (fun _ => rfl) (dX10_init_11 19 rfl) (fun q54 => ?_)
  refine R_putR (S' := [(q0, .inr (9, [some (some q1), some (some q3), some (some q7), some (some q12), some (some q21), some (some q27), some (some q31), some (some q33), some (some q37), none, none, none, none])), (q1, .inr (7, [some (some q2)])), (q2, .inl 4320), (q3, .inr (3, [some (some q4), some (some q5), some (some q6), none])), (q4, .inl 10), (q5, .inl 10), (q6, .inl 7200), (q7, .inr (0, [some (some q8), some (some q9), some (some q10), some (some q11), none])), (q8, .inl 12), (q9, .inl 12), (q10, .inl 12), (q11, .inl 12), (q12, .inr (6, [some (some q13), some (some q17), some (some q18), some (some q19), some (some q20), none, none, none])), (q13, .inr (5, [some (some q14), some (some q15), some (some q16), none])), (q14, .inl 160), (q15, .inl 161), (q16, .inl 161), (q17, .inl 960), (q18, .inl 18), (q19, .inl 31), (q20, .inl 6), (q21, .inr (1, [some (some q22), some (some q23), some (some q24), some (some q25), some (some q26), none, none])), (q22, .inl 720), (q23, .inl 36), (q24, .inl 640), (q25, .inl 640), (q26, .inl 4096), (q27, .inr (8, [some (some q28), some (some q29), some (some q30), none, none])), (q28, .inl 40), (q29, .inl 4), (q30, .inl 4), (q31, .inr (2, [some (some q32), none, none, none, none, none, none])), (q32, .inl 10), (q33, .inr (4, [some (some q34), some (some q35), some (some q36)])), (q34, .inl 4), (q35, .inl 4), (q36, .inl 160), (q37, .inl 4), (q38, .inr (10, [none, some (some q39), some (some q40), none, some (some q41), none, none, some (some q42), some (some q43), some (some q44), none, some (some q45), some (some q46), none, none, none, none, none, none, none, none, some (some q47), some (some q48), some (some q49), some (some q50), some (some q51), none, none, none, none, some (some q52), some (some q53), none, none, none, some (some q54), some none, some none, some none, some none, none, some none, some none, some none, none, none, some none])), (q39, .inl 10), (q40, .inl 10), (q41, .inl 4), (q42, .inl 52), (q43, .inl 4320), (q44, .inl 160), (q45, .inl 1200), (q46, .inl 24), (q47, .inl 10), (q48, .inl 4), (q49, .inl 4), (q50, .inl 160), (q51, .inl 53), (q52, .inl 96), (q53, .inl 200), (q54, .inl 200)]) cgX10 38 rfl 35 (Nat.le_of_ble_eq_true rfl) (Nat.le_of_ble_eq_true rfl) rfl rfl rfl rfl rfl tb_1162 (dX10_init_11 20 rfl) rfl ?_
  refine R_aload_n (i := 0) (dX10_init_11 21 rfl) rfl rfl ?_
  refine R_bipush (dX10_init_11 22 rfl) rfl rfl ?_
  refine R_newa2 (N := 6) (S' := fun q55 => [(q0, .inr (9, [some (some q1), some (some q3), some (some q7), some (some q12), some (some q21), some (some q27), some (some q31), some (some q33), some (some q37), none, none, none, none])), (q1, .inr (7, [some (some q2)])), (q2, .inl 4320), (q3, .inr (3, [some (some q4), some (some q5), some (some q6), none])), (q4, .inl 10), (q5, .inl 10), (q6, .inl 7200), (q7, .inr (0, [some (some q8), some (some q9), some (some q10), some (some q11), none])), (q8, .inl 12), (q9, .inl 12), (q10, .inl 12), (q11, .inl 12), (q12, .inr (6, [some (some q13), some (some q17), some (some q18), some (some q19), some (some q20), none, none, none])), (q13, .inr (5, [some (some q14), some (some q15), some (some q16), none])), (q14, .inl 160), (q15, .inl 161), (q16, .inl 161), (q17, .inl 960), (q18, .inl 18), (q19, .inl 31), (q20, .inl 6), (q21, .inr (1, [some (some q22), some (some q23), some (some q24), some (some q25), some (some q26), none, none])), (q22, .inl 720), (q23, .inl 36), (q24, .inl 640), (q25, .inl 640), (q26, .inl 4096), (q27, .inr (8, [some (some q28), some (some q29), some (some q30), none, none])), (q28, .inl 40), (q29, .inl 4), (q30, .inl 4), (q31, .inr (2, [some (some q32), none, none, none, none, none, none])), (q32, .inl 10), (q33, .inr (4, [some (some q34), some (some q35), some (some q36)])), (q34, .inl 4), (q35, .inl 4), (q36, .inl 160), (q37, .inl 4), (q38, .inr (10, [none, some (some q39), some (some q40), none, some (some q41), none, none, some (some q42), some (some q43), some (some q44), none, some (some q45), some (some q46), none, none, none, none, none, none, none, none, some (some q47), some (some q48), some (some q49), some (some q50), some (some q51), none, none, none, none, some (some q52), some (some q53), none, none, none, some (some q54), some none, some none, some none, some none, none, some none, some none, some none, none, none, some none])), (q39, .inl 10), (q40, .inl 10), (q41, .inl 4), (q42, .inl 52), (q43, .inl 4320), (q44, .inl 160), (q45, .inl 1200), (q46, .inl 24), (q47, .inl 10), (q48, .inl 4), (q49, .inl 4), (q50, .inl 160), (q51, .inl 53), (q52, .inl 96), (q53, .inl 200), (q54, .inl 200), (q55, .inl 6)]) (k' := 17) (n' := 6513) rfl (Nat.le_of_ble_eq_true rfl) rfl rfl (Nat.le_of_ble_eq_true rfl) (Nat.le_of_ble_eq_true rfl) rfl (fun _ => rfl) (dX10_init_11 23 rfl) (fun q55 => ?_)
  refine R_putR (S' := [(q0, .inr (9, [some (some q1), some (some q3), some (some q7), some (some q12), some (some q21), some (some q27), some (some q31), some (some q33), some (some q37), none, none, none, none])), (q1, .inr (7, [some (some q2)])), (q2, .inl 4320), (q3, .inr (3, [some (some q4), some (some q5), some (some q6), none])), (q4, .inl 10), (q5, .inl 10), (q6, .inl 7200), (q7, .inr (0, [some (some q8), some (some q9), some (some q10), some (some q11), none])), (q8, .inl 12), (q9, .inl 12), (q10, .inl 12), (q11, .inl 12), (q12, .inr (6, [some (some q13), some (some q17), some (some q18), some (some q19), some (some q20), none, none, none])), (q13, .inr (5, [some (some q14), some (some q15), some (some q16), none])), (q14, .inl 160), (q15, .inl 161), (q16, .inl 161), (q17, .inl 960), (q18, .inl 18), (q19, .inl 31), (q20, .inl 6), (q21, .inr (1, [some (some q22), some (some q23), some (some q24), some (some q25), some (some q26), none, none])), (q22, .inl 720), (q23, .inl 36), (q24, .inl 640), (q25, .inl 640), (q26, .inl 4096), (q27, .inr (8, [some (some q28), some (some q29), some (some q30), none, none])), (q28, .inl 40), (q29, .inl 4), (q30, .inl 4), (q31, .inr (2, [some (some q32), none, none, none, none, none, none])), (q32, .inl 10), (q33, .inr (4, [some (some q34), some (some q35), some (some q36)])), (q34, .inl 4), (q35, .inl 4), (q36, .inl 160), (q37, .inl 4), (q38, .inr (10, [none, some (some q39), some (some q40), none, some (some q41), none, none, some (some q42), some (some q43), some (some q44), none, some (some q45), some (some q46), none, none, none, none, none, none, none, none, some (some q47), some (some q48), some (some q49), some (some q50), some (some q51), none, none, none, none, some (some q52), some (some q53), none, none, none, some (some q54), some (some q55), some none, some none, some none, none, some none, some none, some none, none, none, some none])), (q39, .inl 10), (q40, .inl 10), (q41, .inl 4), (q42, .inl 52), (q43, .inl 4320), (q44, .inl 160), (q45, .inl 1200), (q46, .inl 24), (q47, .inl 10), (q48, .inl 4), (q49, .inl 4), (q50, .inl 160), (q51, .inl 53), (q52, .inl 96), (q53, .inl 200), (q54, .inl 200), (q55, .inl 6)]) cgX10 38 rfl 36 (Nat.le_of_ble_eq_true rfl) (Nat.le_of_ble_eq_true rfl) rfl rfl rfl rfl rfl tb_1163 (dX10_init_11 24 rfl) rfl ?_
  refine R_aload_n (i := 0) (dX10_init_11 25 rfl) rfl rfl ?_
  refine R_sipush (dX10_init_11 26 rfl) rfl rfl ?_
  refine R_newa2 (N := 720) (S' := fun q56 => [(q0, .inr (9, [some (some q1), some (some q3), some (some q7), some (some q12), some (some q21), some (some q27), some (some q31), some (some q33), some (some q37), none, none, none, none])), (q1, .inr (7, [some (some q2)])), (q2, .inl 4320), (q3, .inr (3, [some (some q4), some (some q5), some (some q6), none])), (q4, .inl 10), (q5, .inl 10), (q6, .inl 7200), (q7, .inr (0, [some (some q8), some (some q9), some (some q10), some (some q11), none])), (q8, .inl 12), (q9, .inl 12), (q10, .inl 12), (q11, .inl 12), (q12, .inr (6, [some (some q13), some (some q17), some (some q18), some (some q19), some (some q20), none, none, none])), (q13, .inr (5, [some (some q14), some (some q15), some (some q16), none])), (q14, .inl 160), (q15, .inl 161), (q16, .inl 161), (q17, .inl 960), (q18, .inl 18), (q19, .inl 31), (q20, .inl 6), (q21, .inr (1, [some (some q22), some (some q23), some (some q24), some (some q25), some (some q26), none, none])), (q22, .inl 720), (q23, .inl 36), (q24, .inl 640), (q25, .inl 640), (q26, .inl 4096), (q27, .inr (8, [some (some q28), some (some q29), some (some q30), none, none])), (q28, .inl 40), (q29, .inl 4), (q30, .inl 4), (q31, .inr (2, [some (some q32), none, none, none, none, none, none])), (q32, .inl 10), (q33, .inr (4, [some (some q34), some (some q35), some (some q36)])), (q34, .inl 4), (q35, .inl 4), (q36, .inl 160), (q37, .inl 4), (q38, .inr (10, [none, some (some q39), some (some q40), none, some (some q41), none, none, some (some q42), some (some q43), some (some q44), none, some (some q45), some (some q46), none, none, none, none, none, none, none, none, some (some q47), some (some q48), some (some q49), some (some q50), some (some q51), none, none, none, none, some (some q52), some (some q53), none, none, none, some (some q54), some (some q55), some none, some none, some none, none, some none, some none, some none, none, none, some none])), (q39, .inl 10), (q40, .inl 10), (q41, .inl 4), (q42, .inl 52), (q43, .inl 4320), (q44, .inl 160), (q45, .inl 1200), (q46, .inl 24), (q47, .inl 10), (q48, .inl 4), (q49, .inl 4), (q50, .inl 160), (q51, .inl 53), (q52, .inl 96), (q53, .inl 200), (q54, .inl 200), (q55, .inl 6), (q56, .inl 720)]) (k' := 18) (n' := 7233) rfl (Nat.le_of_ble_eq_true rfl) rfl rfl (Nat.le_of_ble_eq_true rfl) (Nat.le_of_ble_eq_true rfl) rfl (fun _ => rfl) (dX10_init_11 27 rfl) (fun q56 => ?_)
  refine R_putR (S' := [(q0, .inr (9, [some (some q1), some (some q3), some (some q7), some (some q12), some (some q21), some (some q27), some (some q31), some (some q33), some (some q37), none, none, none, none])), (q1, .inr (7, [some (some q2)])), (q2, .inl 4320), (q3, .inr (3, [some (some q4), some (some q5), some (some q6), none])), (q4, .inl 10), (q5, .inl 10), (q6, .inl 7200), (q7, .inr (0, [some (some q8), some (some q9), some (some q10), some (some q11), none])), (q8, .inl 12), (q9, .inl 12), (q10, .inl 12), (q11, .inl 12), (q12, .inr (6, [some (some q13), some (some q17), some (some q18), some (some q19), some (some q20), none, none, none])), (q13, .inr (5, [some (some q14), some (some q15), some (some q16), none])), (q14, .inl 160), (q15, .inl 161), (q16, .inl 161), (q17, .inl 960), (q18, .inl 18), (q19, .inl 31), (q20, .inl 6), (q21, .inr (1, [some (some q22), some (some q23), some (some q24), some (some q25), some (some q26), none, none])), (q22, .inl 720), (q23, .inl 36), (q24, .inl 640), (q25, .inl 640), (q26, .inl 4096), (q27, .inr (8, [some (some q28), some (some q29), some (some q30), none, none])), (q28, .inl 40), (q29, .inl 4), (q30, .inl 4), (q31, .inr (2, [some (some q32), none, none, none, none, none, none])), (q32, .inl 10), (q33, .inr (4, [some (some q34), some (some q35), some (some q36)])), (q34, .inl 4), (q35, .inl 4), (q36, .inl 160), (q37, .inl 4), (q38, .inr (10, [none, some (some q39), some (some q40), none, some (some q41), none, none, some (some q42), some (some q43), some (some q44), none, some (some q45), some (some q46), none, none, none, none, none, none, none, none, some (some q47), some (some q48), some (some q49), some (some q50), some (some q51), none, none, none, none, some (some q52), some (some q53), none, none, none, some (some q54), some (some q55), some (some q56), some none, some none, none, some none, some none, some none, none, none, some none])), (q39, .inl 10), (q40, .inl 10), (q41, .inl 4), (q42, .inl 52), (q43, .inl 4320), (q44, .inl 160), (q45, .inl 1200), (q46, .inl 24), (q47, .inl 10), (q48, .inl 4), (q49, .inl 4), (q50, .inl 160), (q51, .inl 53), (q52, .inl 96), (q53, .inl 200), (q54, .inl 200), (q55, .inl 6), (q56, .inl 720)]) cgX10 38 rfl 37 (Nat.le_of_ble_eq_true rfl) (Nat.le_of_ble_eq_true rfl) rfl rfl rfl rfl rfl tb_1164 (dX10_init_11 28 rfl) rfl ?_
  refine R_aload_n (i := 0) (dX10_init_11 29 rfl) rfl rfl ?_
  refine R_sipush (dX10_init_11 30 rfl) rfl rfl ?_
  refine R_newa2 (N := 640) (S' := fun q57 => [(q0, .inr (9, [some (some q1), some (some q3), some (some q7), some (some q12), some (some q21), some (some q27), some (some q31), some (some q33), some (some q37), none, none, none, none])), (q1, .inr (7, [some (some q2)])), (q2, .inl 4320), (q3, .inr (3, [some (some q4), some (some q5), some (some q6), none])), (q4, .inl 10), (q5, .inl 10), (q6, .inl 7200), (q7, .inr (0, [some (some q8), some (some q9), some (some q10), some (some q11), none])), (q8, .inl 12), (q9, .inl 12), (q10, .inl 12), (q11, .inl 12), (q12, .inr (6, [some (some q13), some (some q17), some (some q18), some (some q19), some (some q20), none, none, none])), (q13, .inr (5, [some (some q14), some (some q15), some (some q16), none])), (q14, .inl 160), (q15, .inl 161), (q16, .inl 161), (q17, .inl 960), (q18, .inl 18), (q19, .inl 31), (q20, .inl 6), (q21, .inr (1, [some (some q22), some (some q23), some (some q24), some (some q25), some (some q26), none, none])), (q22, .inl 720), (q23, .inl 36), (q24, .inl 640), (q25, .inl 640), (q26, .inl 4096), (q27, .inr (8, [some (some q28), some (some q29), some (some q30), none, none])), (q28, .inl 40), (q29, .inl 4), (q30, .inl 4), (q31, .inr (2, [some (some q32), none, none, none, none, none, none])), (q32, .inl 10), (q33, .inr (4, [some (some q34), some (some q35), some (some q36)])), (q34, .inl 4), (q35, .inl 4), (q36, .inl 160), (q37, .inl 4), (q38, .inr (10, [none, some (some q39), some (some q40), none, some (some q41), none, none, some (some q42), some (some q43), some (some q44), none, some (some q45), some (some q46), none, none, none, none, none, none, none, none, some (some q47), some (some q48), some (some q49), some (some q50), some (some q51), none, none, none, none, some (some q52), some (some q53), none, none, none, some (some q54), some (some q55), some (some q56), some none, some none, none, some none, some none, some none, none, none, some none])), (q39, .inl 10), (q40, .inl 10), (q41, .inl 4), (q42, .inl 52), (q43, .inl 4320), (q44, .inl 160), (q45, .inl 1200), (q46, .inl 24), (q47, .inl 10), (q48, .inl 4), (q49, .inl 4), (q50, .inl 160), (q51, .inl 53), (q52, .inl 96), (q53, .inl 200), (q54, .inl 200), (q55, .inl 6), (q56, .inl 720), (q57, .inl 640)]) (k' := 19) (n' := 7873) rfl (Nat.le_of_ble_eq_true rfl) rfl rfl (Nat.le_of_ble_eq_true rfl) (Nat.le_of_ble_eq_true rfl) rfl (fun _ => rfl) (dX10_init_11 31 rfl) (fun q57 => ?_)
  refine R_putR (S' := [(q0, .inr (9, [some (some q1), some (some q3), some (some q7), some (some q12), some (some q21), some (some q27), some (some q31), some (some q33), some (some q37), none, none, none, none])), (q1, .inr (7, [some (some q2)])), (q2, .inl 4320), (q3, .inr (3, [some (some q4), some (some q5), some (some q6), none])), (q4, .inl 10), (q5, .inl 10), (q6, .inl 7200), (q7, .inr (0, [some (some q8), some (some q9), some (some q10), some (some q11), none])), (q8, .inl 12), (q9, .inl 12), (q10, .inl 12), (q11, .inl 12), (q12, .inr (6, [some (some q13), some (some q17), some (some q18), some (some q19), some (some q20), none, none, none])), (q13, .inr (5, [some (some q14), some (some q15), some (some q16), none])), (q14, .inl 160), (q15, .inl 161), (q16, .inl 161), (q17, .inl 960), (q18, .inl 18), (q19, .inl 31), (q20, .inl 6), (q21, .inr (1, [some (some q22), some (some q23), some (some q24), some (some q25), some (some q26), none, none])), (q22, .inl 720), (q23, .inl 36), (q24, .inl 640), (q25, .inl 640), (q26, .inl 4096), (q27, .inr (8, [some (some q28), some (some q29), some (some q30), none, none])), (q28, .inl 40), (q29, .inl 4), (q30, .inl 4), (q31, .inr (2, [some (some q32), none, none, none, none, none, none])), (q32, .inl 10), (q33, .inr (4, [some (some q34), some (some q35), some (some q36)])), (q34, .inl 4), (q35, .inl 4), (q36, .inl 160), (q37, .inl 4), (q38, .inr (10, [none, some (some q39), some (some q40), none, some (some q41), none, none, some (some q42), some (some q43), some (some q44), none, some (some q45), some (some q46), none, none, none, none, none, none, none, none, some (some q47), some (some q48), some (some q49), some (some q50), some (some q51), none, none, none, none, some (some q52), some (some q53), none, none, none, some (some q54), some (some q55), some (some q56), some (some q57), some none, none, some none, some none, some none, none, none, some none])), (q39, .inl 10), (q40, .inl 10), (q41, .inl 4), (q42, .inl 52), (q43, .inl 4320), (q44, .inl 160), (q45, .inl 1200), (q46, .inl 24), (q47, .inl 10), (q48, .inl 4), (q49, .inl 4), (q50, .inl 160), (q51, .inl 53), (q52, .inl 96), (q53, .inl 200), (q54, .inl 200), (q55, .inl 6), (q56, .inl 720), (q57, .inl 640)]) cgX10 38 rfl 38 (Nat.le_of_ble_eq_true rfl) (Nat.le_of_ble_eq_true rfl) rfl rfl rfl rfl rfl tb_1165 (dX10_init_11 32 rfl) rfl ?_
  refine R_aload_n (i := 0) (dX10_init_11 33 rfl) rfl rfl ?_
  refine R_sipush (dX10_init_11 34 rfl) rfl rfl ?_
  refine R_newa2 (N := 720) (S' := fun q58 => [(q0, .inr (9, [some (some q1), some (some q3), some (some q7), some (some q12), some (some q21), some (some q27), some (some q31), some (some q33), some (some q37), none, none, none, none])), (q1, .inr (7, [some (some q2)])), (q2, .inl 4320), (q3, .inr (3, [some (some q4), some (some q5), some (some q6), none])), (q4, .inl 10), (q5, .inl 10), (q6, .inl 7200), (q7, .inr (0, [some (some q8), some (some q9), some (some q10), some (some q11), none])), (q8, .inl 12), (q9, .inl 12), (q10, .inl 12), (q11, .inl 12), (q12, .inr (6, [some (some q13), some (some q17), some (some q18), some (some q19), some (some q20), none, none, none])), (q13, .inr (5, [some (some q14), some (some q15), some (some q16), none])), (q14, .inl 160), (q15, .inl 161), (q16, .inl 161), (q17, .inl 960), (q18, .inl 18), (q19, .inl 31), (q20, .inl 6), (q21, .inr (1, [some (some q22), some (some q23), some (some q24), some (some q25), some (some q26), none, none])), (q22, .inl 720), (q23, .inl 36), (q24, .inl 640), (q25, .inl 640), (q26, .inl 4096), (q27, .inr (8, [some (some q28), some (some q29), some (some q30), none, none])), (q28, .inl 40), (q29, .inl 4), (q30, .inl 4), (q31, .inr (2, [some (some q32), none, none, none, none, none, none])), (q32, .inl 10), (q33, .inr (4, [some (some q34), some (some q35), some (some q36)])), (q34, .inl 4), (q35, .inl 4), (q36, .inl 160), (q37, .inl 4), (q38, .inr (10, [none, some (some q39), some (some q40), none, some (some q41), none, none, some (some q42), some (some q43), some (some q44), none, some (some q45), some (some q46), none, none, none, none, none, none, none, none, some (some q47), some (some q48), some (some q49), some (some q50), some (some q51), none, none, none, none, some (some q52), some (some q53), none, none, none, some (some q54), some (some q55), some (some q56), some (some q57), some none, none, some none, some none, some none, none, none, some none])), (q39, .inl 10), (q40, .inl 10), (q41, .inl 4), (q42, .inl 52), (q43, .inl 4320), (q44, .inl 160), (q45, .inl 1200), (q46, .inl 24), (q47, .inl 10), (q48, .inl 4), (q49, .inl 4), (q50, .inl 160), (q51, .inl 53), (q52, .inl 96), (q53, .inl 200), (q54, .inl 200), (q55, .inl 6), (q56, .inl 720), (q57, .inl 640), (q58, .inl 720)]) (k' := 20) (n' := 8593) rfl (Nat.le_of_ble_eq_true rfl) rfl rfl (Nat.le_of_ble_eq_true rfl) (Nat.le_of_ble_eq_true rfl) rfl (fun _ => rfl) (dX10_init_11 35 rfl) (fun q58 => ?_)
  refine R_putR (S' := [(q0, .inr (9, [some (some q1), some (some q3), some (some q7), some (some q12), some (some q21), some (some q27), some (some q31), some (some q33), some (some q37), none, none, none, none])), (q1, .inr (7, [some (some q2)])), (q2, .inl 4320), (q3, .inr (3, [some (some q4), some (some q5), some (some q6), none])), (q4, .inl 10), (q5, .inl 10), (q6, .inl 7200), (q7, .inr (0, [some (some q8), some (some q9), some (some q10), some (some q11), none])), (q8, .inl 12), (q9, .inl 12), (q10, .inl 12), (q11, .inl 12), (q12, .inr (6, [some (some q13), some (some q17), some (some q18), some (some q19), some (some q20), none, none, none])), (q13, .inr (5, [some (some q14), some (some q15), some (some q16), none])), (q14, .inl 160), (q15, .inl 161), (q16, .inl 161), (q17, .inl 960), (q18, .inl 18), (q19, .inl 31), (q20, .inl 6), (q21, .inr (1, [some (some q22), some (some q23), some (some q24), some (some q25), some (some q26), none, none])), (q22, .inl 720), (q23, .inl 36), (q24, .inl 640), (q25, .inl 640), (q26, .inl 4096), (q27, .inr (8, [some (some q28), some (some q29), some (some q30), none, none])), (q28, .inl 40), (q29, .inl 4), (q30, .inl 4), (q31, .inr (2, [some (some q32), none, none, none, none, none, none])), (q32, .inl 10), (q33, .inr (4, [some (some q34), some (some q35), some (some q36)])), (q34, .inl 4), (q35, .inl 4), (q36, .inl 160), (q37, .inl 4), (q38, .inr (10, [none, some (some q39), some (some q40), none, some (some q41), none, none, some (some q42), some (some q43), some (some q44), none, some (some q45), some (some q46), none, none, none, none, none, none, none, none, some (some q47), some (some q48), some (some q49), some (some q50), some (some q51), none, none, none, none, some (some q52), some (some q53), none, none, none, some (some q54), some (some q55), some (some q56), some (some q57), some (some q58), none, some none, some none, some none, none, none, some none])), (q39, .inl 10), (q40, .inl 10), (q41, .inl 4), (q42, .inl 52), (q43, .inl 4320), (q44, .inl 160), (q45, .inl 1200), (q46, .inl 24), (q47, .inl 10), (q48, .inl 4), (q49, .inl 4), (q50, .inl 160), (q51, .inl 53), (q52, .inl 96), (q53, .inl 200), (q54, .inl 200), (q55, .inl 6), (q56, .inl 720), (q57, .inl 640), (q58, .inl 720)]) cgX10 38 rfl 39 (Nat.le_of_ble_eq_true rfl) (Nat.le_of_ble_eq_true rfl) rfl rfl rfl rfl rfl tb_1166 (dX10_init_11 36 rfl) rfl ?_
  refine R_aload_n (i := 0) (dX10_init_11 37 rfl) rfl rfl ?_
  refine R_bipush (dX10_init_11 38 rfl) rfl rfl ?_
  refine R_newa2 (N := 40) (S' := fun q59 => [(q0, .inr (9, [some (some q1), some (some q3), some (some q7), some (some q12), some (some q21), some (some q27), some (some q31), some (some q33), some (some q37), none, none, none, none])), (q1, .inr (7, [some (some q2)])), (q2, .inl 4320), (q3, .inr (3, [some (some q4), some (some q5), some (some q6), none])), (q4, .inl 10), (q5, .inl 10), (q6, .inl 7200), (q7, .inr (0, [some (some q8), some (some q9), some (some q10), some (some q11), none])), (q8, .inl 12), (q9, .inl 12), (q10, .inl 12), (q11, .inl 12), (q12, .inr (6, [some (some q13), some (some q17), some (some q18), some (some q19), some (some q20), none, none, none])), (q13, .inr (5, [some (some q14), some (some q15), some (some q16), none])), (q14, .inl 160), (q15, .inl 161), (q16, .inl 161), (q17, .inl 960), (q18, .inl 18), (q19, .inl 31), (q20, .inl 6), (q21, .inr (1, [some (some q22), some (some q23), some (some q24), some (some q25), some (some q26), none, none])), (q22, .inl 720), (q23, .inl 36), (q24, .inl 640), (q25, .inl 640), (q26, .inl 4096), (q27, .inr (8, [some (some q28), some (some q29), some (some q30), none, none])), (q28, .inl 40), (q29, .inl 4), (q30, .inl 4), (q31, .inr (2, [some (some q32), none, none, none, none, none, none])), (q32, .inl 10), (q33, .inr (4, [some (some q34), some (some q35), some (some q36)])), (q34, .inl 4), (q35, .inl 4), (q36, .inl 160), (q37, .inl 4), (q38, .inr (10, [none, some (some q39), some (some q40), none, some (some q41), none, none, some (some q42), some (some q43), some (some q44), none, some (some q45), some (some q46), none, none, none, none, none, none, none, none, some (some q47), some (some q48), some (some q49), some (some q50), some (some q51), none, none, none, none, some (some q52), some (some q53), none, none, none, some (some q54), some (some q55), some (some q56), some (some q57), some (some q58), none, some none, some none, some none, none, none, some none])), (q39, .inl 10), (q40, .inl 10), (q41, .inl 4), (q42, .inl 52), (q43, .inl 4320), (q44, .inl 160), (q45, .inl 1200), (q46, .inl 24), (q47, .inl 10), (q48, .inl 4), (q49, .inl 4), (q50, .inl 160), (q51, .inl 53), (q52, .inl 96), (q53, .inl 200), (q54, .inl 200), (q55, .inl 6), (q56, .inl 720), (q57, .inl 640), (q58, .inl 720), (q59, .inl 40)]) (k' := 21) (n' := 8633) rfl (Nat.le_of_ble_eq_true rfl) rfl rfl (Nat.le_of_ble_eq_true rfl) (Nat.le_of_ble_eq_true rfl) rfl (fun _ => rfl) (dX10_init_11 39 rfl) (fun q59 => ?_)
  refine R_putR (S' := [(q0, .inr (9, [some (some q1), some (some q3), some (some q7), some (some q12), some (some q21), some (some q27), some (some q31), some (some q33), some (some q37), none, none, none, none])), (q1, .inr (7, [some (some q2)])), (q2, .inl 4320), (q3, .inr (3, [some (some q4), some (some q5), some (some q6), none])), (q4, .inl 10), (q5, .inl 10), (q6, .inl 7200), (q7, .inr (0, [some (some q8), some (some q9), some (some q10), some (some q11), none])), (q8, .inl 12), (q9, .inl 12), (q10, .inl 12), (q11, .inl 12), (q12, .inr (6, [some (some q13), some (some q17), some (some q18), some (some q19), some (some q20), none, none, none])), (q13, .inr (5, [some (some q14), some (some q15), some (some q16), none])), (q14, .inl 160), (q15, .inl 161), (q16, .inl 161), (q17, .inl 960), (q18, .inl 18), (q19, .inl 31), (q20, .inl 6), (q21, .inr (1, [some (some q22), some (some q23), some (some q24), some (some q25), some (some q26), none, none])), (q22, .inl 720), (q23, .inl 36), (q24, .inl 640), (q25, .inl 640), (q26, .inl 4096), (q27, .inr (8, [some (some q28), some (some q29), some (some q30), none, none])), (q28, .inl 40), (q29, .inl 4), (q30, .inl 4), (q31, .inr (2, [some (some q32), none, none, none, none, none, none])), (q32, .inl 10), (q33, .inr (4, [some (some q34), some (some q35), some (some q36)])), (q34, .inl 4), (q35, .inl 4), (q36, .inl 160), (q37, .inl 4), (q38, .inr (10, [none, some (some q39), some (some q40), none, some (some q41), none, none, some (some q42), some (some q43), some (some q44), none, some (some q45), some (some q46), none, none, none, none, none, none, none, none, some (some q47), some (some q48), some (some q49), some (some q50), some (some q51), none, none, none, none, some (some q52), some (some q53), none, none, none, some (some q54), some (some q55), some (some q56), some (some q57), some (some q58), none, some (some q59), some none, some none, none, none, some none])), (q39, .inl 10), (q40, .inl 10), (q41, .inl 4), (q42, .inl 52), (q43, .inl 4320), (q44, .inl 160), (q45, .inl 1200), (q46, .inl 24), (q47, .inl 10), (q48, .inl 4), (q49, .inl 4), (q50, .inl 160), (q51, .inl 53), (q52, .inl 96), (q53, .inl 200), (q54, .inl 200), (q55, .inl 6), (q56, .inl 720), (q57, .inl 640), (q58, .inl 720), (q59, .inl 40)]) cgX10 38 rfl 41 (Nat.le_of_ble_eq_true rfl) (Nat.le_of_ble_eq_true rfl) rfl rfl rfl rfl rfl tb_1168 (dX10_init_11 40 rfl) rfl ?_
  refine R_aload_n (i := 0) (dX10_init_11 41 rfl) rfl rfl ?_
  refine R_iconst (dX10_init_11 42 rfl) rfl ?_
  refine R_newa2 (N := 4) (S' := fun q60 => [(q0, .inr (9, [some (some q1), some (some q3), some (some q7), some (some q12), some (some q21), some (some q27), some (some q31), some (some q33), some (some q37), none, none, none, none])), (q1, .inr (7, [some (some q2)])), (q2, .inl 4320), (q3, .inr (3, [some (some q4), some (some q5), some (some q6), none])), (q4, .inl 10), (q5, .inl 10), (q6, .inl 7200), (q7, .inr (0, [some (some q8), some (some q9), some (some q10), some (some q11), none])), (q8, .inl 12), (q9, .inl 12), (q10, .inl 12), (q11, .inl 12), (q12, .inr (6, [some (some q13), some (some q17), some (some q18), some (some q19), some (some q20), none, none, none])), (q13, .inr (5, [some (some q14), some (some q15), some (some q16), none])), (q14, .inl 160), (q15, .inl 161), (q16, .inl 161), (q17, .inl 960), (q18, .inl 18), (q19, .inl 31), (q20, .inl 6), (q21, .inr (1, [some (some q22), some (some q23), some (some q24), some (some q25), some (some q26), none, none])), (q22, .inl 720), (q23, .inl 36), (q24, .inl 640), (q25, .inl 640), (q26, .inl 4096), (q27, .inr (8, [some (some q28), some (some q29), some (some q30), none, none])), (q28, .inl 40), (q29, .inl 4), (q30, .inl 4), (q31, .inr (2, [some (some q32), none, none, none, none, none, none])), (q32, .inl 10), (q33, .inr (4, [some (some q34), some (some q35), some (some q36)])), (q34, .inl 4), (q35, .inl 4), (q36, .inl 160), (q37, .inl 4), (q38, .inr (10, [none, some (some q39), some (some q40), none, some (some q41), none, none, some (some q42), some (some q43), some (some q44), none, some (some q45), some (some q46), none, none, none, none, none, none, none, none, some (some q47), some (some q48), some (some q49), some (some q50), some (some q51), none, none, none, none, some (some q52), some (some q53), none, none, none, some (some q54), some (some q55), some (some q56), some (some q57), some (some q58), none, some (some q59), some none, some none, none, none, some none])), (q39, .inl 10), (q40, .inl 10), (q41, .inl 4), (q42, .inl 52), (q43, .inl 4320), (q44, .inl 160), (q45, .inl 1200), (q46, .inl 24), (q47, .inl 10), (q48, .inl 4), (q49, .inl 4), (q50, .inl 160), (q51, .inl 53), (q52, .inl 96), (q53, .inl 200), (q54, .inl 200), (q55, .inl 6), (q56, .inl 720), (q57, .inl 640), (q58, .inl 720), (q59, .inl 40), (q60, .inl 4)]) (k' := 22) (n' := 8637) rfl (Nat.le_of_ble_eq_true rfl) rfl rfl (Nat.le_of_ble_eq_true rfl) (Nat.le_of_ble_eq_true rfl) rfl (fun _ => rfl) (dX10_init_11 43 rfl) (fun q60 => ?_)
  refine R_putR (S' := [(q0, .inr (9, [some (some q1), some (some q3), some (some q7), some (some q12), some (some q21), some (some q27), some (some q31), some (some q33), some (some q37), none, none, none, none])), (q1, .inr (7, [some (some q2)])), (q2, .inl 4320), (q3, .inr (3, [some (some q4), some (some q5), some (some q6), none])), (q4, .inl 10), (q5, .inl 10), (q6, .inl 7200), (q7, .inr (0, [some (some q8), some (some q9), some (some q10), some (some q11), none])), (q8, .inl 12), (q9, .inl 12), (q10, .inl 12), (q11, .inl 12), (q12, .inr (6, [some (some q13), some (some q17), some (some q18), some (some q19), some (some q20), none, none, none])), (q13, .inr (5, [some (some q14), some (some q15), some (some q16), none])), (q14, .inl 160), (q15, .inl 161), (q16, .inl 161), (q17, .inl 960), (q18, .inl 18), (q19, .inl 31), (q20, .inl 6), (q21, .inr (1, [some (some q22), some (some q23), some (some q24), some (some q25), some (some q26), none, none])), (q22, .inl 720), (q23, .inl 36), (q24, .inl 640), (q25, .inl 640), (q26, .inl 4096), (q27, .inr (8, [some (some q28), some (some q29), some (some q30), none, none])), (q28, .inl 40), (q29, .inl 4), (q30, .inl 4), (q31, .inr (2, [some (some q32), none, none, none, none, none, none])), (q32, .inl 10), (q33, .inr (4, [some (some q34), some (some q35), some (some q36)])), (q34, .inl 4), (q35, .inl 4), (q36, .inl 160), (q37, .inl 4), (q38, .inr (10, [none, some (some q39), some (some q40), none, some (some q41), none, none, some (some q42), some (some q43), some (some q44), none, some (some q45), some (some q46), none, none, none, none, none, none, none, none, some (some q47), some (some q48), some (some q49), some (some q50), some (some q51), none, none, none, none, some (some q52), some (some q53), none, none, none, some (some q54), some (some q55), some (some q56), some (some q57), some (some q58), none, some (some q59), some (some q60), some none, none, none, some none])), (q39, .inl 10), (q40, .inl 10), (q41, .inl 4), (q42, .inl 52), (q43, .inl 4320), (q44, .inl 160), (q45, .inl 1200), (q46, .inl 24), (q47, .inl 10), (q48, .inl 4), (q49, .inl 4), (q50, .inl 160), (q51, .inl 53), (q52, .inl 96), (q53, .inl 200), (q54, .inl 200), (q55, .inl 6), (q56, .inl 720), (q57, .inl 640), (q58, .inl 720), (q59, .inl 40), (q60, .inl 4)]) cgX10 38 rfl 42 (Nat.le_of_ble_eq_true rfl) (Nat.le_of_ble_eq_true rfl) rfl rfl rfl rfl rfl tb_1169 (dX10_init_11 44 rfl) rfl ?_
  refine R_aload_n (i := 0) (dX10_init_11 45 rfl) rfl rfl ?_
  refine R_iconst (dX10_init_11 46 rfl) rfl ?_
  refine R_newa2 (N := 4) (S' := fun q61 => [(q0, .inr (9, [some (some q1), some (some q3), some (some q7), some (some q12), some (some q21), some (some q27), some (some q31), some (some q33), some (some q37), none, none, none, none])), (q1, .inr (7, [some (some q2)])), (q2, .inl 4320), (q3, .inr (3, [some (some q4), some (some q5), some (some q6), none])), (q4, .inl 10), (q5, .inl 10), (q6, .inl 7200), (q7, .inr (0, [some (some q8), some (some q9), some (some q10), some (some q11), none])), (q8, .inl 12), (q9, .inl 12), (q10, .inl 12), (q11, .inl 12), (q12, .inr (6, [some (some q13), some (some q17), some (some q18), some (some q19), some (some q20), none, none, none])), (q13, .inr (5, [some (some q14), some (some q15), some (some q16), none])), (q14, .inl 160), (q15, .inl 161), (q16, .inl 161), (q17, .inl 960), (q18, .inl 18), (q19, .inl 31), (q20, .inl 6), (q21, .inr (1, [some (some q22), some (some q23), some (some q24), some (some q25), some (some q26), none, none])), (q22, .inl 720), (q23, .inl 36), (q24, .inl 640), (q25, .inl 640), (q26, .inl 4096), (q27, .inr (8, [some (some q28), some (some q29), some (some q30), none, none])), (q28, .inl 40), (q29, .inl 4), (q30, .inl 4), (q31, .inr (2, [some (some q32), none, none, none, none, none, none])), (q32, .inl 10), (q33, .inr (4, [some (some q34), some (some q35), some (some q36)])), (q34, .inl 4), (q35, .inl 4), (q36, .inl 160), (q37, .inl 4), (q38, .inr (10, [none, some (some q39), some (some q40), none, some (some q41), none, none, some (some q42), some (some q43), some (some q44), none, some (some q45), some (some q46), none, none, none, none, none, none, none, none, some (some q47), some (some q48), some (some q49), some (some q50), some (some q51), none, none, none, none, some (some q52), some (some q53), none, none, none, some (some q54), some (some q55), some (some q56), some (some q57), some (some q58), none, some (some q59), some (some q60), some none, none, none, some none])), (q39, .inl 10), (q40, .inl 10), (q41, .inl 4), (q42, .inl 52), (q43, .inl 4320), (q44, .inl 160), (q45, .inl 1200), (q46, .inl 24), (q47, .inl 10), (q48, .inl 4), (q49, .inl 4), (q50, .inl 160), (q51, .inl 53), (q52, .inl 96), (q53, .inl 200), (q54, .inl 200), (q55, .inl 6), (q56, .inl 720), (q57, .inl 640), (q58, .inl 720), (q59, .inl 40), (q60, .inl 4), (q61, .inl 4)]) (k' := 23) (n' := 8641) rfl (Nat.le_of_ble_eq_true rfl) rfl rfl (Nat.le_of_ble_eq_true rfl) (Nat.le_of_ble_eq_true rfl) rfl (fun _ => rfl) (dX10_init_11 47 rfl) (fun q61 => ?_)
  refine R_putR (S' := [(q0, .inr (9, [some (some q1), some (some q3), some (some q7), some (some q12), some (some q21), some (some q27), some (some q31), some (some q33), some (some q37), none, none, none, none])), (q1, .inr (7, [some (some q2)])), (q2, .inl 4320), (q3, .inr (3, [some (some q4), some (some q5), some (some q6), none])), (q4, .inl 10), (q5, .inl 10), (q6, .inl 7200), (q7, .inr (0, [some (some q8), some (some q9), some (some q10), some (some q11), none])), (q8, .inl 12), (q9, .inl 12), (q10, .inl 12), (q11, .inl 12), (q12, .inr (6, [some (some q13), some (some q17), some (some q18), some (some q19), some (some q20), none, none, none])), (q13, .inr (5, [some (some q14), some (some q15), some (some q16), none])), (q14, .inl 160), (q15, .inl 161), (q16, .inl 161), (q17, .inl 960), (q18, .inl 18), (q19, .inl 31), (q20, .inl 6), (q21, .inr (1, [some (some q22), some (some q23), some (some q24), some (some q25), some (some q26), none, none])), (q22, .inl 720), (q23, .inl 36), (q24, .inl 640), (q25, .inl 640), (q26, .inl 4096), (q27, .inr (8, [some (some q28), some (some q29), some (some q30), none, none])), (q28, .inl 40), (q29, .inl 4), (q30, .inl 4), (q31, .inr (2, [some (some q32), none, none, none, none, none, none])), (q32, .inl 10), (q33, .inr (4, [some (some q34), some (some q35), some (some q36)])), (q34, .inl 4), (q35, .inl 4), (q36, .inl 160), (q37, .inl 4), (q38, .inr (10, [none, some (some q39), some (some q40), none, some (some q41), none, none, some (some q42), some (some q43), some (some q44), none, some (some q45), some (some q46), none, none, none, none, none, none, none, none, some (some q47), some (some q48), some (some q49), some (some q50), some (some q51), none, none, none, none, some (some q52), some (some q53), none, none, none, some (some q54), some (some q55), some (some q56), some (some q57), some (some q58), none, some (some q59), some (some q60), some (some q61), none, none, some none])), (q39, .inl 10), (q40, .inl 10), (q41, .inl 4), (q42, .inl 52), (q43, .inl 4320), (q44, .inl 160), (q45, .inl 1200), (q46, .inl 24), (q47, .inl 10), (q48, .inl 4), (q49, .inl 4), (q50, .inl 160), (q51, .inl 53), (q52, .inl 96), (q53, .inl 200), (q54, .inl 200), (q55, .inl 6), (q56, .inl 720), (q57, .inl 640), (q58, .inl 720), (q59, .inl 40), (q60, .inl 4), (q61, .inl 4)]) cgX10 38 rfl 43 (Nat.le_of_ble_eq_true rfl) (Nat.le_of_ble_eq_true rfl) rfl rfl rfl rfl rfl tb_1170 (dX10_init_11 48 rfl) rfl ?_
  refine R_aload_n (i := 0) (dX10_init_11 49 rfl) rfl rfl ?_
  refine R_sipush (dX10_init_11 50 rfl) rfl rfl ?_
  refine R_newa2 (N := 4096) (S' := fun q62 => [(q0, .inr (9, [some (some q1), some (some q3), some (some q7), some (some q12), some (some q21), some (some q27), some (some q31), some (some q33), some (some q37), none, none, none, none])), (q1, .inr (7, [some (some q2)])), (q2, .inl 4320), (q3, .inr (3, [some (some q4), some (some q5), some (some q6), none])), (q4, .inl 10), (q5, .inl 10), (q6, .inl 7200), (q7, .inr (0, [some (some q8), some (some q9), some (some q10), some (some q11), none])), (q8, .inl 12), (q9, .inl 12), (q10, .inl 12), (q11, .inl 12), (q12, .inr (6, [some (some q13), some (some q17), some (some q18), some (some q19), some (some q20), none, none, none])), (q13, .inr (5, [some (some q14), some (some q15), some (some q16), none])), (q14, .inl 160), (q15, .inl 161), (q16, .inl 161), (q17, .inl 960), (q18, .inl 18), (q19, .inl 31), (q20, .inl 6), (q21, .inr (1, [some (some q22), some (some q23), some (some q24), some (some q25), some (some q26), none, none])), (q22, .inl 720), (q23, .inl 36), (q24, .inl 640), (q25, .inl 640), (q26, .inl 4096), (q27, .inr (8, [some (some q28), some (some q29), some (some q30), none, none])), (q28, .inl 40), (q29, .inl 4), (q30, .inl 4), (q31, .inr (2, [some (some q32), none, none, none, none, none, none])), (q32, .inl 10), (q33, .inr (4, [some (some q34), some (some q35), some (some q36)])), (q34, .inl 4), (q35, .inl 4), (q36, .inl 160), (q37, .inl 4), (q38, .inr (10, [none, some (some q39), some (some q40), none, some (some q41), none, none, some (some q42), some (some q43), some (some q44), none, some (some q45), some (some q46), none, none, none, none, none, none, none, none, some (some q47), some (some q48), some (some q49), some (some q50), some (some q51), none, none, none, none, some (some q52), some (some q53), none, none, none, some (some q54), some (some q55), some (some q56), some (some q57), some (some q58), none, some (some q59), some (some q60), some (some q61), none, none, some none])), (q39, .inl 10), (q40, .inl 10), (q41, .inl 4), (q42, .inl 52), (q43, .inl 4320), (q44, .inl 160), (q45, .inl 1200), (q46, .inl 24), (q47, .inl 10), (q48, .inl 4), (q49, .inl 4), (q50, .inl 160), (q51, .inl 53), (q52, .inl 96), (q53, .inl 200), (q54, .inl 200), (q55, .inl 6), (q56, .inl 720), (q57, .inl 640), (q58, .inl 720), (q59, .inl 40), (q60, .inl 4), (q61, .inl 4), (q62, .inl 4096)]) (k' := 24) (n' := 12737) rfl (Nat.le_of_ble_eq_true rfl) rfl rfl (Nat.le_of_ble_eq_true rfl) (Nat.le_of_ble_eq_true rfl) rfl (fun _ => rfl) (dX10_init_11 51 rfl) (fun q62 => ?_)
  refine R_putR (S' := [(q0, .inr (9, [some (some q1), some (some q3), some (some q7), some (some q12), some (some q21), some (some q27), some (some q31), some (some q33), some (some q37), none, none, none, none])), (q1, .inr (7, [some (some q2)])), (q2, .inl 4320), (q3, .inr (3, [some (some q4), some (some q5), some (some q6), none])), (q4, .inl 10), (q5, .inl 10), (q6, .inl 7200), (q7, .inr (0, [some (some q8), some (some q9), some (some q10), some (some q11), none])), (q8, .inl 12), (q9, .inl 12), (q10, .inl 12), (q11, .inl 12), (q12, .inr (6, [some (some q13), some (some q17), some (some q18), some (some q19), some (some q20), none, none, none])), (q13, .inr (5, [some (some q14), some (some q15), some (some q16), none])), (q14, .inl 160), (q15, .inl 161), (q16, .inl 161), (q17, .inl 960), (q18, .inl 18), (q19, .inl 31), (q20, .inl 6), (q21, .inr (1, [some (some q22), some (some q23), some (some q24), some (some q25), some (some q26), none, none])), (q22, .inl 720), (q23, .inl 36), (q24, .inl 640), (q25, .inl 640), (q26, .inl 4096), (q27, .inr (8, [some (some q28), some (some q29), some (some q30), none, none])), (q28, .inl 40), (q29, .inl 4), (q30, .inl 4), (q31, .inr (2, [some (some q32), none, none, none, none, none, none])), (q32, .inl 10), (q33, .inr (4, [some (some q34), some (some q35), some (some q36)])), (q34, .inl 4), (q35, .inl 4), (q36, .inl 160), (q37, .inl 4), (q38, .inr (10, [none, some (some q39), some (some q40), none, some (some q41), none, none, some (some q42), some (some q43), some (some q44), none, some (some q45), some (some q46), none, none, none, none, none, none, none, none, some (some q47), some (some q48), some (some q49), some (some q50), some (some q51), none, none, none, none, some (some q52), some (some q53), none, none, none, some (some q54), some (some q55), some (some q56), some (some q57), some (some q58), none, some (some q59), some (some q60), some (some q61), none, none, some (some q62)])), (q39, .inl 10), (q40, .inl 10), (q41, .inl 4), (q42, .inl 52), (q43, .inl 4320), (q44, .inl 160), (q45, .inl 1200), (q46, .inl 24), (q47, .inl 10), (q48, .inl 4), (q49, .inl 4), (q50, .inl 160), (q51, .inl 53), (q52, .inl 96), (q53, .inl 200), (q54, .inl 200), (q55, .inl 6), (q56, .inl 720), (q57, .inl 640), (q58, .inl 720), (q59, .inl 40), (q60, .inl 4), (q61, .inl 4), (q62, .inl 4096)]) cgX10 38 rfl 46 (Nat.le_of_ble_eq_true rfl) (Nat.le_of_ble_eq_true rfl) rfl rfl rfl rfl rfl tb_1173 (dX10_init_11 52 rfl) rfl ?_
  refine tt_X10_init l g (fun k => ([q0, q1, q2, q3, q4, q5, q6, q7, q8, q9, q10, q11, q12, q13, q14, q15, q16, q17, q18, q19, q20, q21, q22, q23, q24, q25, q26, q27, q28, q29, q30, q31, q32, q33, q34, q35, q36, q37, q38, q39, q40, q41, q42, q43, q44, q45, q46, q47, q48, q49, q50, q51, q52, q53, q54, q55, q56, q57, q58, q59, q60, q61, q62] : List Nat).getD k 0) [(q0, .inr (9, [some (some q1), some (some q3), some (some q7), some (some q12), some (some q21), some (some q27), some (some q31), some (some q33), some (some q37), none, none, none, none])), (q1, .inr (7, [some (some q2)])), (q2, .inl 4320), (q3, .inr (3, [some (some q4), some (some q5), some (some q6), none])), (q4, .inl 10), (q5, .inl 10), (q6, .inl 7200), (q7, .inr (0, [some (some q8), some (some q9), some (some q10), some (some q11), none])), (q8, .inl 12), (q9, .inl 12), (q10, .inl 12), (q11, .inl 12), (q12, .inr (6, [some (some q13), some (some q17), some (some q18), some (some q19), some (some q20), none, none, none])), (q13, .inr (5, [some (some q14), some (some q15), some (some q16), none])), (q14, .inl 160), (q15, .inl 161), (q16, .inl 161), (q17, .inl 960), (q18, .inl 18), (q19, .inl 31), (q20, .inl 6), (q21, .inr (1, [some (some q22), some (some q23), some (some q24), some (some q25), some (some q26), none, none])), (q22, .inl 720), (q23, .inl 36), (q24, .inl 640), (q25, .inl 640), (q26, .inl 4096), (q27, .inr (8, [some (some q28), some (some q29), some (some q30), none, none])), (q28, .inl 40), (q29, .inl 4), (q30, .inl 4), (q31, .inr (2, [some (some q32), none, none, none, none, none, none])), (q32, .inl 10), (q33, .inr (4, [some (some q34), some (some q35), some (some q36)])), (q34, .inl 4), (q35, .inl 4), (q36, .inl 160), (q37, .inl 4), (q38, .inr (10, [none, some (some q39), some (some q40), none, some (some q41), none, none, some (some q42), some (some q43), some (some q44), none, some (some q45), some (some q46), none, none, none, none, none, none, none, none, some (some q47), some (some q48), some (some q49), some (some q50), some (some q51), none, none, none, none, some (some q52), some (some q53), none, none, none, some (some q54), some (some q55), some (some q56), some (some q57), some (some q58), none, some (some q59), some (some q60), some (some q61), none, none, some (some q62)])), (q39, .inl 10), (q40, .inl 10), (q41, .inl 4), (q42, .inl 52), (q43, .inl 4320), (q44, .inl 160), (q45, .inl 1200), (q46, .inl 24), (q47, .inl 10), (q48, .inl 4), (q49, .inl 4), (q50, .inl 160), (q51, .inl 53), (q52, .inl 96), (q53, .inl 200), (q54, .inl 200), (q55, .inl 6), (q56, .inl 720), (q57, .inl 640), (q58, .inl 720), (q59, .inl 40), (q60, .inl 4), (q61, .inl 4), (q62, .inl 4096)] _ (by intro k h1 h2; rcases (show k = 38 ∨ k = 39 ∨ k = 40 ∨ k = 41 ∨ k = 42 ∨ k = 43 ∨ k = 44 ∨ k = 45 ∨ k = 46 ∨ k = 47 ∨ k = 48 ∨ k = 49 ∨ k = 50 ∨ k = 51 ∨ k = 52 ∨ k = 53 ∨ k = 54 ∨ k = 55 ∨ k = 56 ∨ k = 57 ∨ k = 58 ∨ k = 59 ∨ k = 60 ∨ k = 61 ∨ k = 62 by omega) with rfl | rfl | rfl | rfl | rfl | rfl | rfl | rfl | rfl | rfl | rfl | rfl | rfl | rfl | rfl | rfl | rfl | rfl | rfl | rfl | rfl | rfl | rfl | rfl | rfl <;> rfl) H ?_
  exact ⟨rfl, rfl, q39, q40, q41, q42, q43, q44, q45, q46, q47, q48, q49, q50, q51, q52, q53, q54, q55, q56, q57, q58, q59, q60, q61, q62, rfl⟩
def f_L_law_tail_L18 (g : GG) : Nat → Int → Mem → Option (Int × Mem)
  | 0, _, _ => none
  | n + 1, x3, M =>
    if w32 ((q_fl g 0 : Int) - 7) < x3 then
      some (1, M)
    else
      if 0 ≤ x3 ∧ x3 < (q_fl g 0 : Int) then
        if b_and (q_ff g 0 (x3).toNat) 63 = 0 then
          if 0 ≤ w32 (x3 + 1) ∧ w32 (x3 + 1) < (q_fl g 0 : Int) then
            if 0 ≤ w32 (x3 + 2) ∧ w32 (x3 + 2) < (q_fl g 0 : Int) then
              ob (f_X9_line (q_ff g 0 (w32 (x3 + 1)).toNat) (q_ff g 0 (w32 (x3 + 2)).toNat) M) fun r586 M587 =>
              if 0 ≤ w32 (x3 + 1) ∧ w32 (x3 + 1) < (q_fl g 0 : Int) then
                if 0 ≤ w32 (x3 + 2) ∧ w32 (x3 + 2) < (q_fl g 0 : Int) then
                  ob (f_X10_line (q_ff g 0 (w32 (x3 + 1)).toNat) (q_ff g 0 (w32 (x3 + 2)).toNat) M587) fun r588 M589 =>
                  if r586 = r588 then
                    f_L_law_tail_L18 g n (w32 (x3 + 7)) M589
                  else
                    some (0, M589)
                else none
              else none
            else none
          else none
        else if b_and (q_ff g 0 (x3).toNat) 63 = 1 then
          if 0 ≤ w32 (x3 + 1) ∧ w32 (x3 + 1) < (q_fl g 0 : Int) then
            if 0 ≤ w32 (x3 + 2) ∧ w32 (x3 + 2) < (q_fl g 0 : Int) then
              if 0 ≤ w32 (x3 + 1) ∧ w32 (x3 + 1) < (q_fl g 0 : Int) then
                if 0 ≤ w32 (x3 + 2) ∧ w32 (x3 + 2) < (q_fl g 0 : Int) then
                  (f_X10_lineTold (q_ff g 0 (w32 (x3 + 1)).toNat) (q_ff g 0 (w32 (x3 + 2)).toNat) M).bind fun r590 =>
                  if f_X9_lineTold (q_ff g 0 (w32 (x3 + 1)).toNat) (q_ff g 0 (w32 (x3 + 2)).toNat) M = r590 then
                    f_L_law_tail_L18 g n (w32 (x3 + 7)) M
                  else
                    some (0, M)
                else none
              else none
            else none
          else none
        else if b_and (q_ff g 0 (x3).toNat) 63 = 2 then
          if 0 ≤ w32 (x3 + 1) ∧ w32 (x3 + 1) < (q_fl g 0 : Int) then
            if 0 ≤ w32 (x3 + 2) ∧ w32 (x3 + 2) < (q_fl g 0 : Int) then
              ob (f_X9_set (q_ff g 0 (w32 (x3 + 1)).toNat) (q_ff g 0 (w32 (x3 + 2)).toNat) M) fun r591 M592 =>
              if 0 ≤ w32 (x3 + 1) ∧ w32 (x3 + 1) < (q_fl g 0 : Int) then
                if 0 ≤ w32 (x3 + 2) ∧ w32 (x3 + 2) < (q_fl g 0 : Int) then
                  ob (f_X10_set (q_ff g 0 (w32 (x3 + 1)).toNat) (q_ff g 0 (w32 (x3 + 2)).toNat) M592) fun r593 M594 =>
                  if r591 = r593 then
                    f_L_law_tail_L18 g n (w32 (x3 + 7)) M594
                  else
                    some (0, M594)
                else none
              else none
            else none
          else none
        else if b_and (q_ff g 0 (x3).toNat) 63 = 3 then
          if 0 ≤ w32 (x3 + 1) ∧ w32 (x3 + 1) < (q_fl g 0 : Int) then
            ob (f_X9_guest (q_ff g 0 (w32 (x3 + 1)).toNat) M) fun r595 M596 =>
            if 0 ≤ w32 (x3 + 1) ∧ w32 (x3 + 1) < (q_fl g 0 : Int) then
              ob (f_X10_guest (q_ff g 0 (w32 (x3 + 1)).toNat) M596) fun r597 M598 =>
              if r595 = r597 then
                f_L_law_tail_L18 g n (w32 (x3 + 7)) M598
              else
                some (0, M598)
            else none
          else none
        else if b_and (q_ff g 0 (x3).toNat) 63 = 4 then
          if 0 ≤ w32 (x3 + 1) ∧ w32 (x3 + 1) < (q_fl g 0 : Int) then
            if 0 ≤ w32 (x3 + 1) ∧ w32 (x3 + 1) < (q_fl g 0 : Int) then
              (f_X10_guestTold (q_ff g 0 (w32 (x3 + 1)).toNat) M).bind fun r599 =>
              if f_X9_guestTold (q_ff g 0 (w32 (x3 + 1)).toNat) M = r599 then
                f_L_law_tail_L18 g n (w32 (x3 + 7)) M
              else
                some (0, M)
            else none
          else none
        else if b_and (q_ff g 0 (x3).toNat) 63 = 5 then
          if 0 ≤ w32 (x3 + 1) ∧ w32 (x3 + 1) < (q_fl g 0 : Int) then
            ob (f_X9_pays (q_ff g 0 (w32 (x3 + 1)).toNat) M) fun r600 M601 =>
            if 0 ≤ w32 (x3 + 1) ∧ w32 (x3 + 1) < (q_fl g 0 : Int) then
              ob (f_X10_pays (q_ff g 0 (w32 (x3 + 1)).toNat) M601) fun r602 M603 =>
              if r600 = r602 then
                f_L_law_tail_L18 g n (w32 (x3 + 7)) M603
              else
                some (0, M603)
            else none
          else none
        else if b_and (q_ff g 0 (x3).toNat) 63 = 6 then
          if 0 ≤ w32 (x3 + 1) ∧ w32 (x3 + 1) < (q_fl g 0 : Int) then
            if 0 ≤ w32 (x3 + 1) ∧ w32 (x3 + 1) < (q_fl g 0 : Int) then
              if f_X9_count (q_ff g 0 (w32 (x3 + 1)).toNat) M = f_X10_count (q_ff g 0 (w32 (x3 + 1)).toNat) M then
                f_L_law_tail_L18 g n (w32 (x3 + 7)) M
              else
                some (0, M)
            else none
          else none
        else if b_and (q_ff g 0 (x3).toNat) 63 = 7 then
          if 0 ≤ w32 (x3 + 1) ∧ w32 (x3 + 1) < (q_fl g 0 : Int) then
            if 0 ≤ w32 (x3 + 2) ∧ w32 (x3 + 2) < (q_fl g 0 : Int) then
              if 0 ≤ w32 (x3 + 3) ∧ w32 (x3 + 3) < (q_fl g 0 : Int) then
                if 0 ≤ w32 (x3 + 4) ∧ w32 (x3 + 4) < (q_fl g 0 : Int) then
                  if 0 ≤ w32 (x3 + 5) ∧ w32 (x3 + 5) < (q_fl g 0 : Int) then
                    if 0 ≤ w32 (x3 + 6) ∧ w32 (x3 + 6) < (q_fl g 0 : Int) then
                      ob (f_X9_feed (q_ff g 0 (w32 (x3 + 1)).toNat) (q_ff g 0 (w32 (x3 + 2)).toNat) (q_ff g 0 (w32 (x3 + 3)).toNat) (q_ff g 0 (w32 (x3 + 4)).toNat) (q_ff g 0 (w32 (x3 + 5)).toNat) (q_ff g 0 (w32 (x3 + 6)).toNat) M) fun r604 M605 =>
                      if 0 ≤ w32 (x3 + 1) ∧ w32 (x3 + 1) < (q_fl g 0 : Int) then
                        if 0 ≤ w32 (x3 + 2) ∧ w32 (x3 + 2) < (q_fl g 0 : Int) then
                          if 0 ≤ w32 (x3 + 3) ∧ w32 (x3 + 3) < (q_fl g 0 : Int) then
                            if 0 ≤ w32 (x3 + 4) ∧ w32 (x3 + 4) < (q_fl g 0 : Int) then
                              if 0 ≤ w32 (x3 + 5) ∧ w32 (x3 + 5) < (q_fl g 0 : Int) then
                                if 0 ≤ w32 (x3 + 6) ∧ w32 (x3 + 6) < (q_fl g 0 : Int) then
                                  ob (f_X10_feed (q_ff g 0 (w32 (x3 + 1)).toNat) (q_ff g 0 (w32 (x3 + 2)).toNat) (q_ff g 0 (w32 (x3 + 3)).toNat) (q_ff g 0 (w32 (x3 + 4)).toNat) (q_ff g 0 (w32 (x3 + 5)).toNat) (q_ff g 0 (w32 (x3 + 6)).toNat) M605) fun r606 M607 =>
                                  if r604 = r606 then
                                    f_L_law_tail_L18 g n (w32 (x3 + 7)) M607
                                  else
                                    some (0, M607)
                                else none
                              else none
                            else none
                          else none
                        else none
                      else none
                    else none
                  else none
                else none
              else none
            else none
          else none
        else if b_and (q_ff g 0 (x3).toNat) 63 = 8 then
          ob (f_X9_text M) fun r608 M609 =>
          ob (f_X10_text M609) fun r610 M611 =>
          if r608 = r610 then
            f_L_law_tail_L18 g n (w32 (x3 + 7)) M611
          else
            some (0, M611)
        else if b_and (q_ff g 0 (x3).toNat) 63 = 9 then
          if 0 ≤ w32 (x3 + 1) ∧ w32 (x3 + 1) < (q_fl g 0 : Int) then
            ob (f_X9_force (q_ff g 0 (w32 (x3 + 1)).toNat) M) fun r612 M613 =>
            if 0 ≤ w32 (x3 + 1) ∧ w32 (x3 + 1) < (q_fl g 0 : Int) then
              ob (f_X10_force (q_ff g 0 (w32 (x3 + 1)).toNat) M613) fun r614 M615 =>
              if r612 = r614 then
                f_L_law_tail_L18 g n (w32 (x3 + 7)) M615
              else
                some (0, M615)
            else none
          else none
        else if b_and (q_ff g 0 (x3).toNat) 63 = 10 then
          if 0 ≤ w32 (x3 + 1) ∧ w32 (x3 + 1) < (q_fl g 0 : Int) then
            if 0 ≤ w32 (x3 + 2) ∧ w32 (x3 + 2) < (q_fl g 0 : Int) then
              if 0 ≤ w32 (x3 + 3) ∧ w32 (x3 + 3) < (q_fl g 0 : Int) then
                if 0 ≤ w32 (x3 + 4) ∧ w32 (x3 + 4) < (q_fl g 0 : Int) then
                  if 0 ≤ w32 (x3 + 5) ∧ w32 (x3 + 5) < (q_fl g 0 : Int) then
                    ob (f_X9_asks (q_ff g 0 (w32 (x3 + 1)).toNat) (q_ff g 0 (w32 (x3 + 2)).toNat) (q_ff g 0 (w32 (x3 + 3)).toNat) (q_ff g 0 (w32 (x3 + 4)).toNat) (q_ff g 0 (w32 (x3 + 5)).toNat) M) fun r616 M617 =>
                    if 0 ≤ w32 (x3 + 1) ∧ w32 (x3 + 1) < (q_fl g 0 : Int) then
                      if 0 ≤ w32 (x3 + 2) ∧ w32 (x3 + 2) < (q_fl g 0 : Int) then
                        if 0 ≤ w32 (x3 + 3) ∧ w32 (x3 + 3) < (q_fl g 0 : Int) then
                          if 0 ≤ w32 (x3 + 4) ∧ w32 (x3 + 4) < (q_fl g 0 : Int) then
                            if 0 ≤ w32 (x3 + 5) ∧ w32 (x3 + 5) < (q_fl g 0 : Int) then
                              ob (f_X10_asks (q_ff g 0 (w32 (x3 + 1)).toNat) (q_ff g 0 (w32 (x3 + 2)).toNat) (q_ff g 0 (w32 (x3 + 3)).toNat) (q_ff g 0 (w32 (x3 + 4)).toNat) (q_ff g 0 (w32 (x3 + 5)).toNat) M617) fun r618 M619 =>
                              if r616 = r618 then
                                f_L_law_tail_L18 g n (w32 (x3 + 7)) M619
                              else
                                some (0, M619)
                            else none
                          else none
                        else none
                      else none
                    else none
                  else none
                else none
              else none
            else none
          else none
        else if b_and (q_ff g 0 (x3).toNat) 63 = 11 then
          if 0 ≤ w32 (x3 + 1) ∧ w32 (x3 + 1) < (q_fl g 0 : Int) then
            if 0 ≤ w32 (x3 + 2) ∧ w32 (x3 + 2) < (q_fl g 0 : Int) then
              if 0 ≤ w32 (x3 + 3) ∧ w32 (x3 + 3) < (q_fl g 0 : Int) then
                if 0 ≤ w32 (x3 + 4) ∧ w32 (x3 + 4) < (q_fl g 0 : Int) then
                  ob (f_X9_know (q_ff g 0 (w32 (x3 + 1)).toNat) (q_ff g 0 (w32 (x3 + 2)).toNat) (q_ff g 0 (w32 (x3 + 3)).toNat) (q_ff g 0 (w32 (x3 + 4)).toNat) M) fun r620 M621 =>
                  if 0 ≤ w32 (x3 + 1) ∧ w32 (x3 + 1) < (q_fl g 0 : Int) then
                    if 0 ≤ w32 (x3 + 2) ∧ w32 (x3 + 2) < (q_fl g 0 : Int) then
                      if 0 ≤ w32 (x3 + 3) ∧ w32 (x3 + 3) < (q_fl g 0 : Int) then
                        if 0 ≤ w32 (x3 + 4) ∧ w32 (x3 + 4) < (q_fl g 0 : Int) then
                          ob (f_X10_know (q_ff g 0 (w32 (x3 + 1)).toNat) (q_ff g 0 (w32 (x3 + 2)).toNat) (q_ff g 0 (w32 (x3 + 3)).toNat) (q_ff g 0 (w32 (x3 + 4)).toNat) M621) fun r622 M623 =>
                          if r620 = r622 then
                            f_L_law_tail_L18 g n (w32 (x3 + 7)) M623
                          else
                            some (0, M623)
                        else none
                      else none
                    else none
                  else none
                else none
              else none
            else none
          else none
        else if b_and (q_ff g 0 (x3).toNat) 63 = 12 then
          ob (f_X9_forget M) fun r624 M625 =>
          ob (f_X10_forget M625) fun r626 M627 =>
          if r624 = r626 then
            f_L_law_tail_L18 g n (w32 (x3 + 7)) M627
          else
            some (0, M627)
        else if b_and (q_ff g 0 (x3).toNat) 63 = 13 then
          if 0 ≤ w32 (x3 + 1) ∧ w32 (x3 + 1) < (q_fl g 0 : Int) then
            if 0 ≤ w32 (x3 + 2) ∧ w32 (x3 + 2) < (q_fl g 0 : Int) then
              if 0 ≤ w32 (x3 + 1) ∧ w32 (x3 + 1) < (q_fl g 0 : Int) then
                if 0 ≤ w32 (x3 + 2) ∧ w32 (x3 + 2) < (q_fl g 0 : Int) then
                  (f_X10_factTold (q_ff g 0 (w32 (x3 + 1)).toNat) (q_ff g 0 (w32 (x3 + 2)).toNat) M).bind fun r628 =>
                  if f_X9_factTold (q_ff g 0 (w32 (x3 + 1)).toNat) (q_ff g 0 (w32 (x3 + 2)).toNat) M = r628 then
                    f_L_law_tail_L18 g n (w32 (x3 + 7)) M
                  else
                    some (0, M)
                else none
              else none
            else none
          else none
        else if b_and (q_ff g 0 (x3).toNat) 63 = 14 then
          ob (f_X9_sets M) fun r629 M630 =>
          ob (f_X10_sets M630) fun r631 M632 =>
          if r629 = r631 then
            f_L_law_tail_L18 g n (w32 (x3 + 7)) M632
          else
            some (0, M632)
        else if b_and (q_ff g 0 (x3).toNat) 63 = 15 then
          if 0 ≤ w32 (x3 + 1) ∧ w32 (x3 + 1) < (q_fl g 0 : Int) then
            ob (f_X9_first (q_ff g 0 (w32 (x3 + 1)).toNat) M) fun r633 M634 =>
            if 0 ≤ w32 (x3 + 1) ∧ w32 (x3 + 1) < (q_fl g 0 : Int) then
              ob (f_X10_first (q_ff g 0 (w32 (x3 + 1)).toNat) M634) fun r635 M636 =>
              if r633 = r635 then
                f_L_law_tail_L18 g n (w32 (x3 + 7)) M636
              else
                some (0, M636)
            else none
          else none
        else if b_and (q_ff g 0 (x3).toNat) 63 = 16 then
          if 0 ≤ w32 (x3 + 1) ∧ w32 (x3 + 1) < (q_fl g 0 : Int) then
            if 0 ≤ w32 (x3 + 2) ∧ w32 (x3 + 2) < (q_fl g 0 : Int) then
              ob (f_X9_means (q_ff g 0 (w32 (x3 + 1)).toNat) (q_ff g 0 (w32 (x3 + 2)).toNat) M) fun r637 M638 =>
              if 0 ≤ w32 (x3 + 1) ∧ w32 (x3 + 1) < (q_fl g 0 : Int) then
                if 0 ≤ w32 (x3 + 2) ∧ w32 (x3 + 2) < (q_fl g 0 : Int) then
                  ob (f_X10_means (q_ff g 0 (w32 (x3 + 1)).toNat) (q_ff g 0 (w32 (x3 + 2)).toNat) M638) fun r639 M640 =>
                  if r637 = r639 then
                    f_L_law_tail_L18 g n (w32 (x3 + 7)) M640
                  else
                    some (0, M640)
                else none
              else none
            else none
          else none
        else if b_and (q_ff g 0 (x3).toNat) 63 = 17 then
          if 0 ≤ w32 (x3 + 1) ∧ w32 (x3 + 1) < (q_fl g 0 : Int) then
            ob (f_X9_sure (q_ff g 0 (w32 (x3 + 1)).toNat) M) fun r641 M642 =>
            if 0 ≤ w32 (x3 + 1) ∧ w32 (x3 + 1) < (q_fl g 0 : Int) then
              ob (f_X10_sure (q_ff g 0 (w32 (x3 + 1)).toNat) M642) fun r643 M644 =>
              if r641 = r643 then
                f_L_law_tail_L18 g n (w32 (x3 + 7)) M644
              else
                some (0, M644)
            else none
          else none
        else if b_and (q_ff g 0 (x3).toNat) 63 = 18 then
          if 0 ≤ w32 (x3 + 1) ∧ w32 (x3 + 1) < (q_fl g 0 : Int) then
            ob (f_X9_doubt (q_ff g 0 (w32 (x3 + 1)).toNat) M) fun r645 M646 =>
            if 0 ≤ w32 (x3 + 1) ∧ w32 (x3 + 1) < (q_fl g 0 : Int) then
              ob (f_X10_doubt (q_ff g 0 (w32 (x3 + 1)).toNat) M646) fun r647 M648 =>
              if r645 = r647 then
                f_L_law_tail_L18 g n (w32 (x3 + 7)) M648
              else
                some (0, M648)
            else none
          else none
        else if b_and (q_ff g 0 (x3).toNat) 63 = 19 then
          if 0 ≤ w32 (x3 + 1) ∧ w32 (x3 + 1) < (q_fl g 0 : Int) then
            if 0 ≤ w32 (x3 + 2) ∧ w32 (x3 + 2) < (q_fl g 0 : Int) then
              if 0 ≤ w32 (x3 + 3) ∧ w32 (x3 + 3) < (q_fl g 0 : Int) then
                ob (f_X9_odds (q_ff g 0 (w32 (x3 + 1)).toNat) (q_ff g 0 (w32 (x3 + 2)).toNat) (q_ff g 0 (w32 (x3 + 3)).toNat) M) fun r649 M650 =>
                if 0 ≤ w32 (x3 + 1) ∧ w32 (x3 + 1) < (q_fl g 0 : Int) then
                  if 0 ≤ w32 (x3 + 2) ∧ w32 (x3 + 2) < (q_fl g 0 : Int) then
                    if 0 ≤ w32 (x3 + 3) ∧ w32 (x3 + 3) < (q_fl g 0 : Int) then
                      ob (f_X10_odds (q_ff g 0 (w32 (x3 + 1)).toNat) (q_ff g 0 (w32 (x3 + 2)).toNat) (q_ff g 0 (w32 (x3 + 3)).toNat) M650) fun r651 M652 =>
                      if b_lcmp r649 r651 = 0 then
                        f_L_law_tail_L18 g n (w32 (x3 + 7)) M652
                      else
                        some (0, M652)
                    else none
                  else none
                else none
              else none
            else none
          else none
        else if b_and (q_ff g 0 (x3).toNat) 63 = 20 then
          if 0 ≤ w32 (x3 + 1) ∧ w32 (x3 + 1) < (q_fl g 0 : Int) then
            if 0 ≤ w32 (x3 + 2) ∧ w32 (x3 + 2) < (q_fl g 0 : Int) then
              if 0 ≤ w32 (x3 + 3) ∧ w32 (x3 + 3) < (q_fl g 0 : Int) then
                ob (f_X9_has (q_ff g 0 (w32 (x3 + 1)).toNat) (q_ff g 0 (w32 (x3 + 2)).toNat) (q_ff g 0 (w32 (x3 + 3)).toNat) M) fun r653 M654 =>
                if 0 ≤ w32 (x3 + 1) ∧ w32 (x3 + 1) < (q_fl g 0 : Int) then
                  if 0 ≤ w32 (x3 + 2) ∧ w32 (x3 + 2) < (q_fl g 0 : Int) then
                    if 0 ≤ w32 (x3 + 3) ∧ w32 (x3 + 3) < (q_fl g 0 : Int) then
                      ob (f_X10_has (q_ff g 0 (w32 (x3 + 1)).toNat) (q_ff g 0 (w32 (x3 + 2)).toNat) (q_ff g 0 (w32 (x3 + 3)).toNat) M654) fun r655 M656 =>
                      if b_lcmp r653 r655 = 0 then
                        f_L_law_tail_L18 g n (w32 (x3 + 7)) M656
                      else
                        some (0, M656)
                    else none
                  else none
                else none
              else none
            else none
          else none
        else if b_and (q_ff g 0 (x3).toNat) 63 = 21 then
          if 0 ≤ w32 (x3 + 1) ∧ w32 (x3 + 1) < (q_fl g 0 : Int) then
            if 0 ≤ w32 (x3 + 2) ∧ w32 (x3 + 2) < (q_fl g 0 : Int) then
              ob (f_X9_partsOfLine (q_ff g 0 (w32 (x3 + 1)).toNat) (q_ff g 0 (w32 (x3 + 2)).toNat) M) fun r657 M658 =>
              if 0 ≤ w32 (x3 + 1) ∧ w32 (x3 + 1) < (q_fl g 0 : Int) then
                if 0 ≤ w32 (x3 + 2) ∧ w32 (x3 + 2) < (q_fl g 0 : Int) then
                  ob (f_X10_partsOfLine (q_ff g 0 (w32 (x3 + 1)).toNat) (q_ff g 0 (w32 (x3 + 2)).toNat) M658) fun r659 M660 =>
                  if r657 = r659 then
                    f_L_law_tail_L18 g n (w32 (x3 + 7)) M660
                  else
                    some (0, M660)
                else none
              else none
            else none
          else none
        else if b_and (q_ff g 0 (x3).toNat) 63 = 22 then
          if 0 ≤ w32 (x3 + 1) ∧ w32 (x3 + 1) < (q_fl g 0 : Int) then
            ob (f_X9_safe (q_ff g 0 (w32 (x3 + 1)).toNat) M) fun r661 M662 =>
            if 0 ≤ w32 (x3 + 1) ∧ w32 (x3 + 1) < (q_fl g 0 : Int) then
              ob (f_X10_safe (q_ff g 0 (w32 (x3 + 1)).toNat) M662) fun r663 M664 =>
              if r661 = r663 then
                f_L_law_tail_L18 g n (w32 (x3 + 7)) M664
              else
                some (0, M664)
            else none
          else none
        else if b_and (q_ff g 0 (x3).toNat) 63 = 23 then
          if 0 ≤ w32 (x3 + 1) ∧ w32 (x3 + 1) < (q_fl g 0 : Int) then
            if 0 ≤ w32 (x3 + 2) ∧ w32 (x3 + 2) < (q_fl g 0 : Int) then
              if 0 ≤ w32 (x3 + 3) ∧ w32 (x3 + 3) < (q_fl g 0 : Int) then
                ob (f_X9_risk (q_ff g 0 (w32 (x3 + 1)).toNat) (q_ff g 0 (w32 (x3 + 2)).toNat) (q_ff g 0 (w32 (x3 + 3)).toNat) M) fun r665 M666 =>
                if 0 ≤ w32 (x3 + 1) ∧ w32 (x3 + 1) < (q_fl g 0 : Int) then
                  if 0 ≤ w32 (x3 + 2) ∧ w32 (x3 + 2) < (q_fl g 0 : Int) then
                    if 0 ≤ w32 (x3 + 3) ∧ w32 (x3 + 3) < (q_fl g 0 : Int) then
                      ob (f_X10_risk (q_ff g 0 (w32 (x3 + 1)).toNat) (q_ff g 0 (w32 (x3 + 2)).toNat) (q_ff g 0 (w32 (x3 + 3)).toNat) M666) fun r667 M668 =>
                      if b_lcmp r665 r667 = 0 then
                        f_L_law_tail_L18 g n (w32 (x3 + 7)) M668
                      else
                        some (0, M668)
                    else none
                  else none
                else none
              else none
            else none
          else none
        else if b_and (q_ff g 0 (x3).toNat) 63 = 24 then
          if 0 ≤ w32 (x3 + 1) ∧ w32 (x3 + 1) < (q_fl g 0 : Int) then
            ob (f_X9_order (q_ff g 0 (w32 (x3 + 1)).toNat) M) fun r669 M670 =>
            if 0 ≤ w32 (x3 + 1) ∧ w32 (x3 + 1) < (q_fl g 0 : Int) then
              ob (f_X10_order (q_ff g 0 (w32 (x3 + 1)).toNat) M670) fun r671 M672 =>
              if r669 = r671 then
                f_L_law_tail_L18 g n (w32 (x3 + 7)) M672
              else
                some (0, M672)
            else none
          else none
        else if b_and (q_ff g 0 (x3).toNat) 63 = 25 then
          if 0 ≤ w32 (x3 + 1) ∧ w32 (x3 + 1) < (q_fl g 0 : Int) then
            ob (f_X9_ordered (q_ff g 0 (w32 (x3 + 1)).toNat) M) fun r673 M674 =>
            if 0 ≤ w32 (x3 + 1) ∧ w32 (x3 + 1) < (q_fl g 0 : Int) then
              ob (f_X10_ordered (q_ff g 0 (w32 (x3 + 1)).toNat) M674) fun r675 M676 =>
              if r673 = r675 then
                f_L_law_tail_L18 g n (w32 (x3 + 7)) M676
              else
                some (0, M676)
            else none
          else none
        else if b_and (q_ff g 0 (x3).toNat) 63 = 26 then
          if 0 ≤ w32 (x3 + 1) ∧ w32 (x3 + 1) < (q_fl g 0 : Int) then
            ob (f_X9_middle (q_ff g 0 (w32 (x3 + 1)).toNat) M) fun r677 M678 =>
            if 0 ≤ w32 (x3 + 1) ∧ w32 (x3 + 1) < (q_fl g 0 : Int) then
              ob (f_X10_middle (q_ff g 0 (w32 (x3 + 1)).toNat) M678) fun r679 M680 =>
              if r677 = r679 then
                f_L_law_tail_L18 g n (w32 (x3 + 7)) M680
              else
                some (0, M680)
            else none
          else none
        else if b_and (q_ff g 0 (x3).toNat) 63 = 27 then
          if 0 ≤ w32 (x3 + 1) ∧ w32 (x3 + 1) < (q_fl g 0 : Int) then
            ob (f_X9_taste (q_ff g 0 (w32 (x3 + 1)).toNat) M) fun r681 M682 =>
            if 0 ≤ w32 (x3 + 1) ∧ w32 (x3 + 1) < (q_fl g 0 : Int) then
              ob (f_X10_taste (q_ff g 0 (w32 (x3 + 1)).toNat) M682) fun r683 M684 =>
              if r681 = r683 then
                f_L_law_tail_L18 g n (w32 (x3 + 7)) M684
              else
                some (0, M684)
            else none
          else none
        else if b_and (q_ff g 0 (x3).toNat) 63 = 28 then
          if 0 ≤ w32 (x3 + 1) ∧ w32 (x3 + 1) < (q_fl g 0 : Int) then
            ob (f_X9_two (q_ff g 0 (w32 (x3 + 1)).toNat) M) fun r685 M686 =>
            if 0 ≤ w32 (x3 + 1) ∧ w32 (x3 + 1) < (q_fl g 0 : Int) then
              ob (f_X10_two (q_ff g 0 (w32 (x3 + 1)).toNat) M686) fun r687 M688 =>
              if r685 = r687 then
                f_L_law_tail_L18 g n (w32 (x3 + 7)) M688
              else
                some (0, M688)
            else none
          else none
        else if b_and (q_ff g 0 (x3).toNat) 63 = 29 then
          if 0 ≤ w32 (x3 + 1) ∧ w32 (x3 + 1) < (q_fl g 0 : Int) then
            ob (f_X9_ask (q_ff g 0 (w32 (x3 + 1)).toNat) M) fun r689 M690 =>
            if 0 ≤ w32 (x3 + 1) ∧ w32 (x3 + 1) < (q_fl g 0 : Int) then
              ob (f_X10_ask (q_ff g 0 (w32 (x3 + 1)).toNat) M690) fun r691 M692 =>
              if r689 = r691 then
                f_L_law_tail_L18 g n (w32 (x3 + 7)) M692
              else
                some (0, M692)
            else none
          else none
        else if b_and (q_ff g 0 (x3).toNat) 63 = 30 then
          if 0 ≤ w32 (x3 + 1) ∧ w32 (x3 + 1) < (q_fl g 0 : Int) then
            if 0 ≤ w32 (x3 + 2) ∧ w32 (x3 + 2) < (q_fl g 0 : Int) then
              if 0 ≤ w32 (x3 + 3) ∧ w32 (x3 + 3) < (q_fl g 0 : Int) then
                if 0 ≤ w32 (x3 + 4) ∧ w32 (x3 + 4) < (q_fl g 0 : Int) then
                  ob (f_X9_would (q_ff g 0 (w32 (x3 + 1)).toNat) (q_ff g 0 (w32 (x3 + 2)).toNat) (q_ff g 0 (w32 (x3 + 3)).toNat) (q_ff g 0 (w32 (x3 + 4)).toNat) M) fun r693 M694 =>
                  if 0 ≤ w32 (x3 + 1) ∧ w32 (x3 + 1) < (q_fl g 0 : Int) then
                    if 0 ≤ w32 (x3 + 2) ∧ w32 (x3 + 2) < (q_fl g 0 : Int) then
                      if 0 ≤ w32 (x3 + 3) ∧ w32 (x3 + 3) < (q_fl g 0 : Int) then
                        if 0 ≤ w32 (x3 + 4) ∧ w32 (x3 + 4) < (q_fl g 0 : Int) then
                          ob (f_X10_would (q_ff g 0 (w32 (x3 + 1)).toNat) (q_ff g 0 (w32 (x3 + 2)).toNat) (q_ff g 0 (w32 (x3 + 3)).toNat) (q_ff g 0 (w32 (x3 + 4)).toNat) M694) fun r695 M696 =>
                          if r693 = r695 then
                            f_L_law_tail_L18 g n (w32 (x3 + 7)) M696
                          else
                            some (0, M696)
                        else none
                      else none
                    else none
                  else none
                else none
              else none
            else none
          else none
        else if b_and (q_ff g 0 (x3).toNat) 63 = 31 then
          ob (f_X9_clash M) fun r697 M698 =>
          ob (f_X10_clash M698) fun r699 M700 =>
          if r697 = r699 then
            f_L_law_tail_L18 g n (w32 (x3 + 7)) M700
          else
            some (0, M700)
        else if b_and (q_ff g 0 (x3).toNat) 63 = 32 then
          ob (f_X9_idle M) fun r701 M702 =>
          ob (f_X10_idle M702) fun r703 M704 =>
          if r701 = r703 then
            f_L_law_tail_L18 g n (w32 (x3 + 7)) M704
          else
            some (0, M704)
        else if b_and (q_ff g 0 (x3).toNat) 63 = 33 then
          if 0 ≤ w32 (x3 + 1) ∧ w32 (x3 + 1) < (q_fl g 0 : Int) then
            if 0 ≤ w32 (x3 + 2) ∧ w32 (x3 + 2) < (q_fl g 0 : Int) then
              if 0 ≤ w32 (x3 + 3) ∧ w32 (x3 + 3) < (q_fl g 0 : Int) then
                (f_X9_bill (q_ff g 0 (w32 (x3 + 1)).toNat) (q_ff g 0 (w32 (x3 + 2)).toNat) (q_ff g 0 (w32 (x3 + 3)).toNat) M).bind fun r705 =>
                if 0 ≤ w32 (x3 + 1) ∧ w32 (x3 + 1) < (q_fl g 0 : Int) then
                  if 0 ≤ w32 (x3 + 2) ∧ w32 (x3 + 2) < (q_fl g 0 : Int) then
                    if 0 ≤ w32 (x3 + 3) ∧ w32 (x3 + 3) < (q_fl g 0 : Int) then
                      (f_X10_bill (q_ff g 0 (w32 (x3 + 1)).toNat) (q_ff g 0 (w32 (x3 + 2)).toNat) (q_ff g 0 (w32 (x3 + 3)).toNat) M).bind fun r706 =>
                      if r705 = r706 then
                        f_L_law_tail_L18 g n (w32 (x3 + 7)) M
                      else
                        some (0, M)
                    else none
                  else none
                else none
              else none
            else none
          else none
        else if b_and (q_ff g 0 (x3).toNat) 63 = 34 then
          if 0 ≤ w32 (x3 + 1) ∧ w32 (x3 + 1) < (q_fl g 0 : Int) then
            ob (f_X9_match (q_ff g 0 (w32 (x3 + 1)).toNat) M) fun r707 M708 =>
            if 0 ≤ w32 (x3 + 1) ∧ w32 (x3 + 1) < (q_fl g 0 : Int) then
              ob (f_X10_match (q_ff g 0 (w32 (x3 + 1)).toNat) M708) fun r709 M710 =>
              if r707 = r709 then
                f_L_law_tail_L18 g n (w32 (x3 + 7)) M710
              else
                some (0, M710)
            else none
          else none
        else if b_and (q_ff g 0 (x3).toNat) 63 = 35 then
          if 0 ≤ w32 (x3 + 1) ∧ w32 (x3 + 1) < (q_fl g 0 : Int) then
            ob (f_X9_film (q_ff g 0 (w32 (x3 + 1)).toNat) M) fun r711 M712 =>
            if 0 ≤ w32 (x3 + 1) ∧ w32 (x3 + 1) < (q_fl g 0 : Int) then
              ob (f_X10_film (q_ff g 0 (w32 (x3 + 1)).toNat) M712) fun r713 M714 =>
              if r711 = r713 then
                f_L_law_tail_L18 g n (w32 (x3 + 7)) M714
              else
                some (0, M714)
            else none
          else none
        else if b_and (q_ff g 0 (x3).toNat) 63 = 36 then
          ob (f_X9_laws M) fun r715 M716 =>
          ob (f_X10_laws M716) fun r717 M718 =>
          if r715 = r717 then
            f_L_law_tail_L18 g n (w32 (x3 + 7)) M718
          else
            some (0, M718)
        else if b_and (q_ff g 0 (x3).toNat) 63 = 37 then
          if 0 ≤ w32 (x3 + 1) ∧ w32 (x3 + 1) < (q_fl g 0 : Int) then
            if 0 ≤ w32 (x3 + 2) ∧ w32 (x3 + 2) < (q_fl g 0 : Int) then
              ob (f_X9_drawn (q_ff g 0 (w32 (x3 + 1)).toNat) (q_ff g 0 (w32 (x3 + 2)).toNat) M) fun r719 M720 =>
              if 0 ≤ w32 (x3 + 1) ∧ w32 (x3 + 1) < (q_fl g 0 : Int) then
                if 0 ≤ w32 (x3 + 2) ∧ w32 (x3 + 2) < (q_fl g 0 : Int) then
                  ob (f_X10_drawn (q_ff g 0 (w32 (x3 + 1)).toNat) (q_ff g 0 (w32 (x3 + 2)).toNat) M720) fun r721 M722 =>
                  if r719 = r721 then
                    f_L_law_tail_L18 g n (w32 (x3 + 7)) M722
                  else
                    some (0, M722)
                else none
              else none
            else none
          else none
        else if b_and (q_ff g 0 (x3).toNat) 63 = 38 then
          if 0 ≤ w32 (x3 + 1) ∧ w32 (x3 + 1) < (q_fl g 0 : Int) then
            if 0 ≤ w32 (x3 + 2) ∧ w32 (x3 + 2) < (q_fl g 0 : Int) then
              if 0 ≤ w32 (x3 + 3) ∧ w32 (x3 + 3) < (q_fl g 0 : Int) then
                if 0 ≤ w32 (x3 + 4) ∧ w32 (x3 + 4) < (q_fl g 0 : Int) then
                  if 0 ≤ w32 (x3 + 5) ∧ w32 (x3 + 5) < (q_fl g 0 : Int) then
                    ob (f_X9_chance (q_ff g 0 (w32 (x3 + 1)).toNat) (q_ff g 0 (w32 (x3 + 2)).toNat) (q_ff g 0 (w32 (x3 + 3)).toNat) (q_ff g 0 (w32 (x3 + 4)).toNat) (q_ff g 0 (w32 (x3 + 5)).toNat) M) fun r723 M724 =>
                    if 0 ≤ w32 (x3 + 1) ∧ w32 (x3 + 1) < (q_fl g 0 : Int) then
                      if 0 ≤ w32 (x3 + 2) ∧ w32 (x3 + 2) < (q_fl g 0 : Int) then
                        if 0 ≤ w32 (x3 + 3) ∧ w32 (x3 + 3) < (q_fl g 0 : Int) then
                          if 0 ≤ w32 (x3 + 4) ∧ w32 (x3 + 4) < (q_fl g 0 : Int) then
                            if 0 ≤ w32 (x3 + 5) ∧ w32 (x3 + 5) < (q_fl g 0 : Int) then
                              ob (f_X10_chance (q_ff g 0 (w32 (x3 + 1)).toNat) (q_ff g 0 (w32 (x3 + 2)).toNat) (q_ff g 0 (w32 (x3 + 3)).toNat) (q_ff g 0 (w32 (x3 + 4)).toNat) (q_ff g 0 (w32 (x3 + 5)).toNat) M724) fun r725 M726 =>
                              if b_lcmp r723 r725 = 0 then
                                f_L_law_tail_L18 g n (w32 (x3 + 7)) M726
                              else
                                some (0, M726)
                            else none
                          else none
                        else none
                      else none
                    else none
                  else none
                else none
              else none
            else none
          else none
        else if b_and (q_ff g 0 (x3).toNat) 63 = 39 then
          ob (f_X9_image M) fun r727 M728 =>
          ob (f_X10_image M728) fun r729 M730 =>
          if r727 = r729 then
            f_L_law_tail_L18 g n (w32 (x3 + 7)) M730
          else
            some (0, M730)
        else if b_and (q_ff g 0 (x3).toNat) 63 = 40 then
          ob (f_X9_back M) fun r731 M732 =>
          ob (f_X10_back M732) fun r733 M734 =>
          if r731 = r733 then
            f_L_law_tail_L18 g n (w32 (x3 + 7)) M734
          else
            some (0, M734)
        else if b_and (q_ff g 0 (x3).toNat) 63 = 41 then
          if 0 ≤ w32 (x3 + 1) ∧ w32 (x3 + 1) < (q_fl g 0 : Int) then
            if 0 ≤ w32 (x3 + 2) ∧ w32 (x3 + 2) < (q_fl g 0 : Int) then
              if 0 ≤ w32 (x3 + 3) ∧ w32 (x3 + 3) < (q_fl g 0 : Int) then
                ob (f_X9_sheet (q_ff g 0 (w32 (x3 + 1)).toNat) (q_ff g 0 (w32 (x3 + 2)).toNat) (q_ff g 0 (w32 (x3 + 3)).toNat) M) fun r735 M736 =>
                if 0 ≤ w32 (x3 + 1) ∧ w32 (x3 + 1) < (q_fl g 0 : Int) then
                  if 0 ≤ w32 (x3 + 2) ∧ w32 (x3 + 2) < (q_fl g 0 : Int) then
                    if 0 ≤ w32 (x3 + 3) ∧ w32 (x3 + 3) < (q_fl g 0 : Int) then
                      ob (f_X10_sheet (q_ff g 0 (w32 (x3 + 1)).toNat) (q_ff g 0 (w32 (x3 + 2)).toNat) (q_ff g 0 (w32 (x3 + 3)).toNat) M736) fun r737 M738 =>
                      if r735 = r737 then
                        f_L_law_tail_L18 g n (w32 (x3 + 7)) M738
                      else
                        some (0, M738)
                    else none
                  else none
                else none
              else none
            else none
          else none
        else if b_and (q_ff g 0 (x3).toNat) 63 = 42 then
          if 0 ≤ w32 (x3 + 1) ∧ w32 (x3 + 1) < (q_fl g 0 : Int) then
            if 0 ≤ w32 (x3 + 2) ∧ w32 (x3 + 2) < (q_fl g 0 : Int) then
              if 0 ≤ w32 (x3 + 3) ∧ w32 (x3 + 3) < (q_fl g 0 : Int) then
                ob (f_X9_cell (q_ff g 0 (w32 (x3 + 1)).toNat) (q_ff g 0 (w32 (x3 + 2)).toNat) (q_ff g 0 (w32 (x3 + 3)).toNat) M) fun r739 M740 =>
                if 0 ≤ w32 (x3 + 1) ∧ w32 (x3 + 1) < (q_fl g 0 : Int) then
                  if 0 ≤ w32 (x3 + 2) ∧ w32 (x3 + 2) < (q_fl g 0 : Int) then
                    if 0 ≤ w32 (x3 + 3) ∧ w32 (x3 + 3) < (q_fl g 0 : Int) then
                      ob (f_X10_cell (q_ff g 0 (w32 (x3 + 1)).toNat) (q_ff g 0 (w32 (x3 + 2)).toNat) (q_ff g 0 (w32 (x3 + 3)).toNat) M740) fun r741 M742 =>
                      if r739 = r741 then
                        f_L_law_tail_L18 g n (w32 (x3 + 7)) M742
                      else
                        some (0, M742)
                    else none
                  else none
                else none
              else none
            else none
          else none
        else if b_and (q_ff g 0 (x3).toNat) 63 = 43 then
          if 0 ≤ w32 (x3 + 1) ∧ w32 (x3 + 1) < (q_fl g 0 : Int) then
            if 0 ≤ w32 (x3 + 2) ∧ w32 (x3 + 2) < (q_fl g 0 : Int) then
              if 0 ≤ w32 (x3 + 3) ∧ w32 (x3 + 3) < (q_fl g 0 : Int) then
                if 0 ≤ w32 (x3 + 4) ∧ w32 (x3 + 4) < (q_fl g 0 : Int) then
                  if 0 ≤ w32 (x3 + 5) ∧ w32 (x3 + 5) < (q_fl g 0 : Int) then
                    ob (f_X9_copy (q_ff g 0 (w32 (x3 + 1)).toNat) (q_ff g 0 (w32 (x3 + 2)).toNat) (q_ff g 0 (w32 (x3 + 3)).toNat) (q_ff g 0 (w32 (x3 + 4)).toNat) (q_ff g 0 (w32 (x3 + 5)).toNat) M) fun r743 M744 =>
                    if 0 ≤ w32 (x3 + 1) ∧ w32 (x3 + 1) < (q_fl g 0 : Int) then
                      if 0 ≤ w32 (x3 + 2) ∧ w32 (x3 + 2) < (q_fl g 0 : Int) then
                        if 0 ≤ w32 (x3 + 3) ∧ w32 (x3 + 3) < (q_fl g 0 : Int) then
                          if 0 ≤ w32 (x3 + 4) ∧ w32 (x3 + 4) < (q_fl g 0 : Int) then
                            if 0 ≤ w32 (x3 + 5) ∧ w32 (x3 + 5) < (q_fl g 0 : Int) then
                              ob (f_X10_copy (q_ff g 0 (w32 (x3 + 1)).toNat) (q_ff g 0 (w32 (x3 + 2)).toNat) (q_ff g 0 (w32 (x3 + 3)).toNat) (q_ff g 0 (w32 (x3 + 4)).toNat) (q_ff g 0 (w32 (x3 + 5)).toNat) M744) fun r745 M746 =>
                              if r743 = r745 then
                                f_L_law_tail_L18 g n (w32 (x3 + 7)) M746
                              else
                                some (0, M746)
                            else none
                          else none
                        else none
                      else none
                    else none
                  else none
                else none
              else none
            else none
          else none
        else if b_and (q_ff g 0 (x3).toNat) 63 = 44 then
          if 0 ≤ w32 (x3 + 1) ∧ w32 (x3 + 1) < (q_fl g 0 : Int) then
            if 0 ≤ w32 (x3 + 2) ∧ w32 (x3 + 2) < (q_fl g 0 : Int) then
              if 0 ≤ w32 (x3 + 3) ∧ w32 (x3 + 3) < (q_fl g 0 : Int) then
                if 0 ≤ w32 (x3 + 4) ∧ w32 (x3 + 4) < (q_fl g 0 : Int) then
                  ob (f_X9_linesBy (q_ff g 0 (w32 (x3 + 1)).toNat) (q_ff g 0 (w32 (x3 + 2)).toNat) (q_ff g 0 (w32 (x3 + 3)).toNat) (q_ff g 0 (w32 (x3 + 4)).toNat) M) fun r747 M748 =>
                  if 0 ≤ w32 (x3 + 1) ∧ w32 (x3 + 1) < (q_fl g 0 : Int) then
                    if 0 ≤ w32 (x3 + 2) ∧ w32 (x3 + 2) < (q_fl g 0 : Int) then
                      if 0 ≤ w32 (x3 + 3) ∧ w32 (x3 + 3) < (q_fl g 0 : Int) then
                        if 0 ≤ w32 (x3 + 4) ∧ w32 (x3 + 4) < (q_fl g 0 : Int) then
                          ob (f_X10_linesBy (q_ff g 0 (w32 (x3 + 1)).toNat) (q_ff g 0 (w32 (x3 + 2)).toNat) (q_ff g 0 (w32 (x3 + 3)).toNat) (q_ff g 0 (w32 (x3 + 4)).toNat) M748) fun r749 M750 =>
                          if r747 = r749 then
                            f_L_law_tail_L18 g n (w32 (x3 + 7)) M750
                          else
                            some (0, M750)
                        else none
                      else none
                    else none
                  else none
                else none
              else none
            else none
          else none
        else if b_and (q_ff g 0 (x3).toNat) 63 = 45 then
          if 0 ≤ w32 (x3 + 1) ∧ w32 (x3 + 1) < (q_fl g 0 : Int) then
            if 0 ≤ w32 (x3 + 2) ∧ w32 (x3 + 2) < (q_fl g 0 : Int) then
              (f_X9_taken (q_ff g 0 (w32 (x3 + 1)).toNat) (q_ff g 0 (w32 (x3 + 2)).toNat) M).bind fun r751 =>
              if 0 ≤ w32 (x3 + 1) ∧ w32 (x3 + 1) < (q_fl g 0 : Int) then
                if 0 ≤ w32 (x3 + 2) ∧ w32 (x3 + 2) < (q_fl g 0 : Int) then
                  (f_X10_taken (q_ff g 0 (w32 (x3 + 1)).toNat) (q_ff g 0 (w32 (x3 + 2)).toNat) M).bind fun r752 =>
                  if r751 = r752 then
                    f_L_law_tail_L18 g n (w32 (x3 + 7)) M
                  else
                    some (0, M)
                else none
              else none
            else none
          else none
        else
          f_L_law_tail_L18 g n (w32 (x3 + 7)) M
      else none
set_option maxHeartbeats 4000000 in
theorem t_L_law_tail_L18 (l : Launch) (g : GG) (ad : Nat → Nat) (S : SW) (hS : q_ag 0 63 ad S) {r : Int} {M' : Mem} {Post : PP} (hP : Post (some (.inl r)) S M') : ∀ (n : Nat) (x3 : Int) (M : Mem), f_L_law_tail_L18 g n x3 M = some (r, M') → RW l g ML_law room_1 600000 7302250 Post 18 S M 63 32288 [some (.inr (.inr (some (g.2.2.2.1 0)))), some (.inr (.inr (some (ad 0)))), some (.inr (.inr (some (ad 38)))), some (.inl x3)] [] := by
  intro n
  induction n with
  | zero => intro x3 M H; exact absurd H (by simp [f_L_law_tail_L18])
  | succ n ih =>
    intro x3 M H
    rw [f_L_law_tail_L18] at H
    refine R_iload_n (i := 3) (dL_law_0 10 rfl) rfl rfl ?_
    refine R_aload_n (i := 0) (dL_law_0 11 rfl) rfl rfl ?_
    refine R_alenF 0 (by decide) (dL_law_0 12 rfl) ?_
    refine R_bipush (dL_law_0 13 rfl) rfl rfl ?_
    refine R_isub (dL_law_0 14 rfl) ?_
    refine R_icmp_gt (tgt := 1682) (dL_law_0 15 rfl) (by decide) (fun hc => ?_) (fun hc => ?_)
    · have H := ite_T H hc
      refine R_iconst (dL_law_19 50 rfl) rfl ?_
      exact R_iret rfl (by decide +kernel) (Nat.le_of_ble_eq_true rfl) (Nat.le_of_ble_eq_true rfl) (dL_law_19 51 rfl) (by obtain ⟨e1, e2⟩ := Prod.mk.inj (Option.some.inj H); subst e1; subst e2; exact hP)
    · have H := ite_F H hc
      refine R_aload_n (i := 0) (dL_law_0 16 rfl) rfl rfl ?_
      refine R_iload_n (i := 3) (dL_law_0 17 rfl) rfl rfl ?_
      obtain ⟨hg, H⟩ := ite_G H
      refine R_ialdF 0 (by decide) hg (dL_law_0 18 rfl) ?_
      refine R_bipush (dL_law_0 19 rfl) rfl rfl ?_
      refine R_iand (dL_law_0 20 rfl) ?_
      by_cases hc0 : b_and (q_ff g 0 (x3).toNat) 63 = 0
      · have H := ite_T H hc0
        refine R_tsIn (c0 := 0) (tgt := 232) (dL_law_0 21 rfl) hc0 (by decide) (by decide) rfl (by decide) ?_
        refine R_aload_n (i := 1) (dL_law_0 22 rfl) rfl rfl ?_
        refine R_aload_n (i := 0) (dL_law_0 23 rfl) rfl rfl ?_
        refine R_iload_n (i := 3) (dL_law_0 24 rfl) rfl rfl ?_
        refine R_iconst (dL_law_0 25 rfl) rfl ?_
        refine R_iadd (dL_law_0 26 rfl) ?_
        obtain ⟨hg, H⟩ := ite_G H
        refine R_ialdF 0 (by decide) hg (dL_law_0 27 rfl) ?_
        refine R_aload_n (i := 0) (dL_law_0 28 rfl) rfl rfl ?_
        refine R_iload_n (i := 3) (dL_law_0 29 rfl) rfl rfl ?_
        refine R_iconst (dL_law_0 30 rfl) rfl ?_
        refine R_iadd (dL_law_0 31 rfl) ?_
        obtain ⟨hg, H⟩ := ite_G H
        refine R_ialdF 0 (by decide) hg (dL_law_0 32 rfl) ?_
        obtain ⟨r586, M587, hr, H⟩ := ob_E H
        refine R_cV (st' := [.inl r586]) [.inl (q_ff g 0 (w32 (x3 + 1)).toNat), .inl (q_ff g 0 (w32 (x3 + 2)).toNat)] [] (t_X9_line l g ad S _ (q_ag_sub hS (Nat.le_of_ble_eq_true rfl) (Nat.le_of_ble_eq_true rfl))   (q_ff g 0 (w32 (x3 + 1)).toNat) (q_ff g 0 (w32 (x3 + 2)).toNat) hr) msX9_line (Or.inl tb_593) (Or.inl ⟨0, 9, _, _, _, (cl0 hS), rfl⟩) ⟨Nat.le_of_ble_eq_true rfl, Nat.le_of_ble_eq_true rfl⟩ (Nat.le_of_ble_eq_true rfl) (Nat.le_of_ble_eq_true rfl) rfl rfl (Nat.le_of_ble_eq_true rfl) rfl (dL_law_0 33 rfl) ?_
        refine R_aload_n (i := 2) (dL_law_0 34 rfl) rfl rfl ?_
        refine R_aload_n (i := 0) (dL_law_0 35 rfl) rfl rfl ?_
        refine R_iload_n (i := 3) (dL_law_0 36 rfl) rfl rfl ?_
        refine R_iconst (dL_law_0 37 rfl) rfl ?_
        refine R_iadd (dL_law_0 38 rfl) ?_
        obtain ⟨hg, H⟩ := ite_G H
        refine R_ialdF 0 (by decide) hg (dL_law_0 39 rfl) ?_
        refine R_aload_n (i := 0) (dL_law_0 40 rfl) rfl rfl ?_
        refine R_iload_n (i := 3) (dL_law_0 41 rfl) rfl rfl ?_
        refine R_iconst (dL_law_0 42 rfl) rfl ?_
        refine R_iadd (dL_law_0 43 rfl) ?_
        obtain ⟨hg, H⟩ := ite_G H
        refine R_ialdF 0 (by decide) hg (dL_law_0 44 rfl) ?_
        obtain ⟨r588, M589, hr, H⟩ := ob_E H
        refine R_cV (st' := [.inl r588, .inl r586]) [.inl (q_ff g 0 (w32 (x3 + 1)).toNat), .inl (q_ff g 0 (w32 (x3 + 2)).toNat)] [.inl r586] (t_X10_line l g ad S _ (q_ag_sub hS (Nat.le_of_ble_eq_true rfl) (Nat.le_of_ble_eq_true rfl))   (q_ff g 0 (w32 (x3 + 1)).toNat) (q_ff g 0 (w32 (x3 + 2)).toNat) hr) msX10_line (Or.inl tb_1269) (Or.inl ⟨38, 10, _, _, _, (cl38 hS), rfl⟩) ⟨Nat.le_of_ble_eq_true rfl, Nat.le_of_ble_eq_true rfl⟩ (Nat.le_of_ble_eq_true rfl) (Nat.le_of_ble_eq_true rfl) rfl rfl (Nat.le_of_ble_eq_true rfl) rfl (dL_law_0 45 rfl) ?_
        refine R_icmp_eq (tgt := 1676) (dL_law_0 46 rfl) (by decide) (fun hc => ?_) (fun hc => ?_)
        · have H := ite_T H hc
          refine R_iinc (i := 3) (ls' := [some (.inr (.inr (some (g.2.2.2.1 0)))), some (.inr (.inr (some (ad 0)))), some (.inr (.inr (some (ad 38)))), some (.inl (w32 (x3 + 7)))]) (dL_law_19 48 rfl) rfl (Nat.le_of_ble_eq_true rfl) rfl rfl ?_
          refine R_goto (tgt := 18) (dL_law_19 49 rfl) (by decide) ?_
          exact ih (w32 (x3 + 7)) M589 H
        · have H := ite_F H hc
          refine R_iconst (dL_law_0 47 rfl) rfl ?_
          exact R_iret rfl (by decide +kernel) (Nat.le_of_ble_eq_true rfl) (Nat.le_of_ble_eq_true rfl) (dL_law_0 48 rfl) (by obtain ⟨e1, e2⟩ := Prod.mk.inj (Option.some.inj H); subst e1; subst e2; exact hP)
      have H := ite_F H hc0
      by_cases hc1 : b_and (q_ff g 0 (x3).toNat) 63 = 1
      · have H := ite_T H hc1
        refine R_tsIn (c0 := 1) (tgt := 265) (dL_law_0 21 rfl) hc1 (by decide) (by decide) rfl (by decide) ?_
        refine R_aload_n (i := 1) (dL_law_0 49 rfl) rfl rfl ?_
        refine R_aload_n (i := 0) (dL_law_0 50 rfl) rfl rfl ?_
        refine R_iload_n (i := 3) (dL_law_0 51 rfl) rfl rfl ?_
        refine R_iconst (dL_law_0 52 rfl) rfl ?_
        refine R_iadd (dL_law_0 53 rfl) ?_
        obtain ⟨hg, H⟩ := ite_G H
        refine R_ialdF 0 (by decide) hg (dL_law_0 54 rfl) ?_
        refine R_aload_n (i := 0) (dL_law_0 55 rfl) rfl rfl ?_
        refine R_iload_n (i := 3) (dL_law_0 56 rfl) rfl rfl ?_
        refine R_iconst (dL_law_0 57 rfl) rfl ?_
        refine R_iadd (dL_law_0 58 rfl) ?_
        obtain ⟨hg, H⟩ := ite_G H
        refine R_ialdF 0 (by decide) hg (dL_law_0 59 rfl) ?_
        refine R_cV (st' := [.inl (f_X9_lineTold (q_ff g 0 (w32 (x3 + 1)).toNat) (q_ff g 0 (w32 (x3 + 2)).toNat) M)]) [.inl (q_ff g 0 (w32 (x3 + 1)).toNat), .inl (q_ff g 0 (w32 (x3 + 2)).toNat)] [] (t_X9_lineTold l g ad S _ (q_ag_sub hS (Nat.le_of_ble_eq_true rfl) (Nat.le_of_ble_eq_true rfl))   (q_ff g 0 (w32 (x3 + 1)).toNat) (q_ff g 0 (w32 (x3 + 2)).toNat)) msX9_lineTold (Or.inl tb_628) (Or.inl ⟨0, 9, _, _, _, (cl0 hS), rfl⟩) ⟨Nat.le_of_ble_eq_true rfl, Nat.le_of_ble_eq_true rfl⟩ (Nat.le_of_ble_eq_true rfl) (Nat.le_of_ble_eq_true rfl) rfl rfl (Nat.le_of_ble_eq_true rfl) rfl (dL_law_1 0 rfl) ?_
        refine R_aload_n (i := 2) (dL_law_1 1 rfl) rfl rfl ?_
        refine R_aload_n (i := 0) (dL_law_1 2 rfl) rfl rfl ?_
        refine R_iload_n (i := 3) (dL_law_1 3 rfl) rfl rfl ?_
        refine R_iconst (dL_law_1 4 rfl) rfl ?_
        refine R_iadd (dL_law_1 5 rfl) ?_
        obtain ⟨hg, H⟩ := ite_G H
        refine R_ialdF 0 (by decide) hg (dL_law_1 6 rfl) ?_
        refine R_aload_n (i := 0) (dL_law_1 7 rfl) rfl rfl ?_
        refine R_iload_n (i := 3) (dL_law_1 8 rfl) rfl rfl ?_
        refine R_iconst (dL_law_1 9 rfl) rfl ?_
        refine R_iadd (dL_law_1 10 rfl) ?_
        obtain ⟨hg, H⟩ := ite_G H
        refine R_ialdF 0 (by decide) hg (dL_law_1 11 rfl) ?_
        obtain ⟨r590, hr, H⟩ := op_E H
        refine R_cV (st' := [.inl r590, .inl (f_X9_lineTold (q_ff g 0 (w32 (x3 + 1)).toNat) (q_ff g 0 (w32 (x3 + 2)).toNat) M)]) [.inl (q_ff g 0 (w32 (x3 + 1)).toNat), .inl (q_ff g 0 (w32 (x3 + 2)).toNat)] [.inl (f_X9_lineTold (q_ff g 0 (w32 (x3 + 1)).toNat) (q_ff g 0 (w32 (x3 + 2)).toNat) M)] (t_X10_lineTold l g ad S _ (q_ag_sub hS (Nat.le_of_ble_eq_true rfl) (Nat.le_of_ble_eq_true rfl))   (q_ff g 0 (w32 (x3 + 1)).toNat) (q_ff g 0 (w32 (x3 + 2)).toNat) hr) msX10_lineTold (Or.inl tb_1276) (Or.inl ⟨38, 10, _, _, _, (cl38 hS), rfl⟩) ⟨Nat.le_of_ble_eq_true rfl, Nat.le_of_ble_eq_true rfl⟩ (Nat.le_of_ble_eq_true rfl) (Nat.le_of_ble_eq_true rfl) rfl rfl (Nat.le_of_ble_eq_true rfl) rfl (dL_law_1 12 rfl) ?_
        refine R_icmp_eq (tgt := 1676) (dL_law_1 13 rfl) (by decide) (fun hc => ?_) (fun hc => ?_)
        · have H := ite_T H hc
          refine R_iinc (i := 3) (ls' := [some (.inr (.inr (some (g.2.2.2.1 0)))), some (.inr (.inr (some (ad 0)))), some (.inr (.inr (some (ad 38)))), some (.inl (w32 (x3 + 7)))]) (dL_law_19 48 rfl) rfl (Nat.le_of_ble_eq_true rfl) rfl rfl ?_
          refine R_goto (tgt := 18) (dL_law_19 49 rfl) (by decide) ?_
          exact ih (w32 (x3 + 7)) M H
        · have H := ite_F H hc
          refine R_iconst (dL_law_1 14 rfl) rfl ?_
          exact R_iret rfl (by decide +kernel) (Nat.le_of_ble_eq_true rfl) (Nat.le_of_ble_eq_true rfl) (dL_law_1 15 rfl) (by obtain ⟨e1, e2⟩ := Prod.mk.inj (Option.some.inj H); subst e1; subst e2; exact hP)
      have H := ite_F H hc1
      by_cases hc2 : b_and (q_ff g 0 (x3).toNat) 63 = 2
      · have H := ite_T H hc2
        refine R_tsIn (c0 := 2) (tgt := 298) (dL_law_0 21 rfl) hc2 (by decide) (by decide) rfl (by decide) ?_
        refine R_aload_n (i := 1) (dL_law_1 16 rfl) rfl rfl ?_
        refine R_aload_n (i := 0) (dL_law_1 17 rfl) rfl rfl ?_
        refine R_iload_n (i := 3) (dL_law_1 18 rfl) rfl rfl ?_
        refine R_iconst (dL_law_1 19 rfl) rfl ?_
        refine R_iadd (dL_law_1 20 rfl) ?_
        obtain ⟨hg, H⟩ := ite_G H
        refine R_ialdF 0 (by decide) hg (dL_law_1 21 rfl) ?_
        refine R_aload_n (i := 0) (dL_law_1 22 rfl) rfl rfl ?_
        refine R_iload_n (i := 3) (dL_law_1 23 rfl) rfl rfl ?_
        refine R_iconst (dL_law_1 24 rfl) rfl ?_
        refine R_iadd (dL_law_1 25 rfl) ?_
        obtain ⟨hg, H⟩ := ite_G H
        refine R_ialdF 0 (by decide) hg (dL_law_1 26 rfl) ?_
        obtain ⟨r591, M592, hr, H⟩ := ob_E H
        refine R_cV (st' := [.inl r591]) [.inl (q_ff g 0 (w32 (x3 + 1)).toNat), .inl (q_ff g 0 (w32 (x3 + 2)).toNat)] [] (t_X9_set l g ad S _ (q_ag_sub hS (Nat.le_of_ble_eq_true rfl) (Nat.le_of_ble_eq_true rfl))   (q_ff g 0 (w32 (x3 + 1)).toNat) (q_ff g 0 (w32 (x3 + 2)).toNat) hr) msX9_set (Or.inl tb_645) (Or.inl ⟨0, 9, _, _, _, (cl0 hS), rfl⟩) ⟨Nat.le_of_ble_eq_true rfl, Nat.le_of_ble_eq_true rfl⟩ (Nat.le_of_ble_eq_true rfl) (Nat.le_of_ble_eq_true rfl) rfl rfl (Nat.le_of_ble_eq_true rfl) rfl (dL_law_1 27 rfl) ?_
        refine R_aload_n (i := 2) (dL_law_1 28 rfl) rfl rfl ?_
        refine R_aload_n (i := 0) (dL_law_1 29 rfl) rfl rfl ?_
        refine R_iload_n (i := 3) (dL_law_1 30 rfl) rfl rfl ?_
        refine R_iconst (dL_law_1 31 rfl) rfl ?_
        refine R_iadd (dL_law_1 32 rfl) ?_
        obtain ⟨hg, H⟩ := ite_G H
        refine R_ialdF 0 (by decide) hg (dL_law_1 33 rfl) ?_
        refine R_aload_n (i := 0) (dL_law_1 34 rfl) rfl rfl ?_
        refine R_iload_n (i := 3) (dL_law_1 35 rfl) rfl rfl ?_
        refine R_iconst (dL_law_1 36 rfl) rfl ?_
        refine R_iadd (dL_law_1 37 rfl) ?_
        obtain ⟨hg, H⟩ := ite_G H
        refine R_ialdF 0 (by decide) hg (dL_law_1 38 rfl) ?_
        obtain ⟨r593, M594, hr, H⟩ := ob_E H
        refine R_cV (st' := [.inl r593, .inl r591]) [.inl (q_ff g 0 (w32 (x3 + 1)).toNat), .inl (q_ff g 0 (w32 (x3 + 2)).toNat)] [.inl r591] (t_X10_set l g ad S _ (q_ag_sub hS (Nat.le_of_ble_eq_true rfl) (Nat.le_of_ble_eq_true rfl))   (q_ff g 0 (w32 (x3 + 1)).toNat) (q_ff g 0 (w32 (x3 + 2)).toNat) hr) msX10_set (Or.inl tb_1284) (Or.inl ⟨38, 10, _, _, _, (cl38 hS), rfl⟩) ⟨Nat.le_of_ble_eq_true rfl, Nat.le_of_ble_eq_true rfl⟩ (Nat.le_of_ble_eq_true rfl) (Nat.le_of_ble_eq_true rfl) rfl rfl (Nat.le_of_ble_eq_true rfl) rfl (dL_law_1 39 rfl) ?_
        refine R_icmp_eq (tgt := 1676) (dL_law_1 40 rfl) (by decide) (fun hc => ?_) (fun hc => ?_)
        · have H := ite_T H hc
          refine R_iinc (i := 3) (ls' := [some (.inr (.inr (some (g.2.2.2.1 0)))), some (.inr (.inr (some (ad 0)))), some (.inr (.inr (some (ad 38)))), some (.inl (w32 (x3 + 7)))]) (dL_law_19 48 rfl) rfl (Nat.le_of_ble_eq_true rfl) rfl rfl ?_
          refine R_goto (tgt := 18) (dL_law_19 49 rfl) (by decide) ?_
          exact ih (w32 (x3 + 7)) M594 H
        · have H := ite_F H hc
          refine R_iconst (dL_law_1 41 rfl) rfl ?_
          exact R_iret rfl (by decide +kernel) (Nat.le_of_ble_eq_true rfl) (Nat.le_of_ble_eq_true rfl) (dL_law_1 42 rfl) (by obtain ⟨e1, e2⟩ := Prod.mk.inj (Option.some.inj H); subst e1; subst e2; exact hP)
      have H := ite_F H hc2
      by_cases hc3 : b_and (q_ff g 0 (x3).toNat) 63 = 3
      · have H := ite_T H hc3
        refine R_tsIn (c0 := 3) (tgt := 331) (dL_law_0 21 rfl) hc3 (by decide) (by decide) rfl (by decide) ?_
        refine R_aload_n (i := 1) (dL_law_1 43 rfl) rfl rfl ?_
        refine R_aload_n (i := 0) (dL_law_1 44 rfl) rfl rfl ?_
        refine R_iload_n (i := 3) (dL_law_1 45 rfl) rfl rfl ?_
        refine R_iconst (dL_law_1 46 rfl) rfl ?_
        refine R_iadd (dL_law_1 47 rfl) ?_
        obtain ⟨hg, H⟩ := ite_G H
        refine R_ialdF 0 (by decide) hg (dL_law_1 48 rfl) ?_
        obtain ⟨r595, M596, hr, H⟩ := ob_E H
        refine R_cV (st' := [.inl r595]) [.inl (q_ff g 0 (w32 (x3 + 1)).toNat)] [] (t_X9_guest l g ad S _ (q_ag_sub hS (Nat.le_of_ble_eq_true rfl) (Nat.le_of_ble_eq_true rfl))   (q_ff g 0 (w32 (x3 + 1)).toNat) hr) msX9_guest (Or.inl tb_650) (Or.inl ⟨0, 9, _, _, _, (cl0 hS), rfl⟩) ⟨Nat.le_of_ble_eq_true rfl, Nat.le_of_ble_eq_true rfl⟩ (Nat.le_of_ble_eq_true rfl) (Nat.le_of_ble_eq_true rfl) rfl rfl (Nat.le_of_ble_eq_true rfl) rfl (dL_law_1 49 rfl) ?_
        refine R_aload_n (i := 2) (dL_law_1 50 rfl) rfl rfl ?_
        refine R_aload_n (i := 0) (dL_law_1 51 rfl) rfl rfl ?_
        refine R_iload_n (i := 3) (dL_law_1 52 rfl) rfl rfl ?_
        refine R_iconst (dL_law_1 53 rfl) rfl ?_
        refine R_iadd (dL_law_1 54 rfl) ?_
        obtain ⟨hg, H⟩ := ite_G H
        refine R_ialdF 0 (by decide) hg (dL_law_1 55 rfl) ?_
        obtain ⟨r597, M598, hr, H⟩ := ob_E H
        refine R_cV (st' := [.inl r597, .inl r595]) [.inl (q_ff g 0 (w32 (x3 + 1)).toNat)] [.inl r595] (t_X10_guest l g ad S _ (q_ag_sub hS (Nat.le_of_ble_eq_true rfl) (Nat.le_of_ble_eq_true rfl))   (q_ff g 0 (w32 (x3 + 1)).toNat) hr) msX10_guest (Or.inl tb_1288) (Or.inl ⟨38, 10, _, _, _, (cl38 hS), rfl⟩) ⟨Nat.le_of_ble_eq_true rfl, Nat.le_of_ble_eq_true rfl⟩ (Nat.le_of_ble_eq_true rfl) (Nat.le_of_ble_eq_true rfl) rfl rfl (Nat.le_of_ble_eq_true rfl) rfl (dL_law_1 56 rfl) ?_
        refine R_icmp_eq (tgt := 1676) (dL_law_1 57 rfl) (by decide) (fun hc => ?_) (fun hc => ?_)
        · have H := ite_T H hc
          refine R_iinc (i := 3) (ls' := [some (.inr (.inr (some (g.2.2.2.1 0)))), some (.inr (.inr (some (ad 0)))), some (.inr (.inr (some (ad 38)))), some (.inl (w32 (x3 + 7)))]) (dL_law_19 48 rfl) rfl (Nat.le_of_ble_eq_true rfl) rfl rfl ?_
          refine R_goto (tgt := 18) (dL_law_19 49 rfl) (by decide) ?_
          exact ih (w32 (x3 + 7)) M598 H
        · have H := ite_F H hc
          refine R_iconst (dL_law_1 58 rfl) rfl ?_
          exact R_iret rfl (by decide +kernel) (Nat.le_of_ble_eq_true rfl) (Nat.le_of_ble_eq_true rfl) (dL_law_1 59 rfl) (by obtain ⟨e1, e2⟩ := Prod.mk.inj (Option.some.inj H); subst e1; subst e2; exact hP)
      have H := ite_F H hc3
      by_cases hc4 : b_and (q_ff g 0 (x3).toNat) 63 = 4
      · have H := ite_T H hc4
        refine R_tsIn (c0 := 4) (tgt := 354) (dL_law_0 21 rfl) hc4 (by decide) (by decide) rfl (by decide) ?_
        refine R_aload_n (i := 1) (dL_law_2 0 rfl) rfl rfl ?_
        refine R_aload_n (i := 0) (dL_law_2 1 rfl) rfl rfl ?_
        refine R_iload_n (i := 3) (dL_law_2 2 rfl) rfl rfl ?_
        refine R_iconst (dL_law_2 3 rfl) rfl ?_
        refine R_iadd (dL_law_2 4 rfl) ?_
        obtain ⟨hg, H⟩ := ite_G H
        refine R_ialdF 0 (by decide) hg (dL_law_2 5 rfl) ?_
        refine R_cV (st' := [.inl (f_X9_guestTold (q_ff g 0 (w32 (x3 + 1)).toNat) M)]) [.inl (q_ff g 0 (w32 (x3 + 1)).toNat)] [] (t_X9_guestTold l g ad S _ (q_ag_sub hS (Nat.le_of_ble_eq_true rfl) (Nat.le_of_ble_eq_true rfl))   (q_ff g 0 (w32 (x3 + 1)).toNat)) msX9_guestTold (Or.inl tb_655) (Or.inl ⟨0, 9, _, _, _, (cl0 hS), rfl⟩) ⟨Nat.le_of_ble_eq_true rfl, Nat.le_of_ble_eq_true rfl⟩ (Nat.le_of_ble_eq_true rfl) (Nat.le_of_ble_eq_true rfl) rfl rfl (Nat.le_of_ble_eq_true rfl) rfl (dL_law_2 6 rfl) ?_
        refine R_aload_n (i := 2) (dL_law_2 7 rfl) rfl rfl ?_
        refine R_aload_n (i := 0) (dL_law_2 8 rfl) rfl rfl ?_
        refine R_iload_n (i := 3) (dL_law_2 9 rfl) rfl rfl ?_
        refine R_iconst (dL_law_2 10 rfl) rfl ?_
        refine R_iadd (dL_law_2 11 rfl) ?_
        obtain ⟨hg, H⟩ := ite_G H
        refine R_ialdF 0 (by decide) hg (dL_law_2 12 rfl) ?_
        obtain ⟨r599, hr, H⟩ := op_E H
        refine R_cV (st' := [.inl r599, .inl (f_X9_guestTold (q_ff g 0 (w32 (x3 + 1)).toNat) M)]) [.inl (q_ff g 0 (w32 (x3 + 1)).toNat)] [.inl (f_X9_guestTold (q_ff g 0 (w32 (x3 + 1)).toNat) M)] (t_X10_guestTold l g ad S _ (q_ag_sub hS (Nat.le_of_ble_eq_true rfl) (Nat.le_of_ble_eq_true rfl))   (q_ff g 0 (w32 (x3 + 1)).toNat) hr) msX10_guestTold (Or.inl tb_1292) (Or.inl ⟨38, 10, _, _, _, (cl38 hS), rfl⟩) ⟨Nat.le_of_ble_eq_true rfl, Nat.le_of_ble_eq_true rfl⟩ (Nat.le_of_ble_eq_true rfl) (Nat.le_of_ble_eq_true rfl) rfl rfl (Nat.le_of_ble_eq_true rfl) rfl (dL_law_2 13 rfl) ?_
        refine R_icmp_eq (tgt := 1676) (dL_law_2 14 rfl) (by decide) (fun hc => ?_) (fun hc => ?_)
        · have H := ite_T H hc
          refine R_iinc (i := 3) (ls' := [some (.inr (.inr (some (g.2.2.2.1 0)))), some (.inr (.inr (some (ad 0)))), some (.inr (.inr (some (ad 38)))), some (.inl (w32 (x3 + 7)))]) (dL_law_19 48 rfl) rfl (Nat.le_of_ble_eq_true rfl) rfl rfl ?_
          refine R_goto (tgt := 18) (dL_law_19 49 rfl) (by decide) ?_
          exact ih (w32 (x3 + 7)) M H
        · have H := ite_F H hc
          refine R_iconst (dL_law_2 15 rfl) rfl ?_
          exact R_iret rfl (by decide +kernel) (Nat.le_of_ble_eq_true rfl) (Nat.le_of_ble_eq_true rfl) (dL_law_2 16 rfl) (by obtain ⟨e1, e2⟩ := Prod.mk.inj (Option.some.inj H); subst e1; subst e2; exact hP)
      have H := ite_F H hc4
      by_cases hc5 : b_and (q_ff g 0 (x3).toNat) 63 = 5
      · have H := ite_T H hc5
        refine R_tsIn (c0 := 5) (tgt := 377) (dL_law_0 21 rfl) hc5 (by decide) (by decide) rfl (by decide) ?_
        refine R_aload_n (i := 1) (dL_law_2 17 rfl) rfl rfl ?_
        refine R_aload_n (i := 0) (dL_law_2 18 rfl) rfl rfl ?_
        refine R_iload_n (i := 3) (dL_law_2 19 rfl) rfl rfl ?_
        refine R_iconst (dL_law_2 20 rfl) rfl ?_
        refine R_iadd (dL_law_2 21 rfl) ?_
        obtain ⟨hg, H⟩ := ite_G H
        refine R_ialdF 0 (by decide) hg (dL_law_2 22 rfl) ?_
        obtain ⟨r600, M601, hr, H⟩ := ob_E H
        refine R_cV (st' := [.inl r600]) [.inl (q_ff g 0 (w32 (x3 + 1)).toNat)] [] (t_X9_pays l g ad S _ (q_ag_sub hS (Nat.le_of_ble_eq_true rfl) (Nat.le_of_ble_eq_true rfl))   (q_ff g 0 (w32 (x3 + 1)).toNat) hr) msX9_pays (Or.inl tb_664) (Or.inl ⟨0, 9, _, _, _, (cl0 hS), rfl⟩) ⟨Nat.le_of_ble_eq_true rfl, Nat.le_of_ble_eq_true rfl⟩ (Nat.le_of_ble_eq_true rfl) (Nat.le_of_ble_eq_true rfl) rfl rfl (Nat.le_of_ble_eq_true rfl) rfl (dL_law_2 23 rfl) ?_
        refine R_aload_n (i := 2) (dL_law_2 24 rfl) rfl rfl ?_
        refine R_aload_n (i := 0) (dL_law_2 25 rfl) rfl rfl ?_
        refine R_iload_n (i := 3) (dL_law_2 26 rfl) rfl rfl ?_
        refine R_iconst (dL_law_2 27 rfl) rfl ?_
        refine R_iadd (dL_law_2 28 rfl) ?_
        obtain ⟨hg, H⟩ := ite_G H
        refine R_ialdF 0 (by decide) hg (dL_law_2 29 rfl) ?_
        obtain ⟨r602, M603, hr, H⟩ := ob_E H
        refine R_cV (st' := [.inl r602, .inl r600]) [.inl (q_ff g 0 (w32 (x3 + 1)).toNat)] [.inl r600] (t_X10_pays l g ad S _ (q_ag_sub hS (Nat.le_of_ble_eq_true rfl) (Nat.le_of_ble_eq_true rfl))   (q_ff g 0 (w32 (x3 + 1)).toNat) hr) msX10_pays (Or.inl tb_1300) (Or.inl ⟨38, 10, _, _, _, (cl38 hS), rfl⟩) ⟨Nat.le_of_ble_eq_true rfl, Nat.le_of_ble_eq_true rfl⟩ (Nat.le_of_ble_eq_true rfl) (Nat.le_of_ble_eq_true rfl) rfl rfl (Nat.le_of_ble_eq_true rfl) rfl (dL_law_2 30 rfl) ?_
        refine R_icmp_eq (tgt := 1676) (dL_law_2 31 rfl) (by decide) (fun hc => ?_) (fun hc => ?_)
        · have H := ite_T H hc
          refine R_iinc (i := 3) (ls' := [some (.inr (.inr (some (g.2.2.2.1 0)))), some (.inr (.inr (some (ad 0)))), some (.inr (.inr (some (ad 38)))), some (.inl (w32 (x3 + 7)))]) (dL_law_19 48 rfl) rfl (Nat.le_of_ble_eq_true rfl) rfl rfl ?_
          refine R_goto (tgt := 18) (dL_law_19 49 rfl) (by decide) ?_
          exact ih (w32 (x3 + 7)) M603 H
        · have H := ite_F H hc
          refine R_iconst (dL_law_2 32 rfl) rfl ?_
          exact R_iret rfl (by decide +kernel) (Nat.le_of_ble_eq_true rfl) (Nat.le_of_ble_eq_true rfl) (dL_law_2 33 rfl) (by obtain ⟨e1, e2⟩ := Prod.mk.inj (Option.some.inj H); subst e1; subst e2; exact hP)
      have H := ite_F H hc5
      by_cases hc6 : b_and (q_ff g 0 (x3).toNat) 63 = 6
      · have H := ite_T H hc6
        refine R_tsIn (c0 := 6) (tgt := 400) (dL_law_0 21 rfl) hc6 (by decide) (by decide) rfl (by decide) ?_
        refine R_aload_n (i := 1) (dL_law_2 34 rfl) rfl rfl ?_
        refine R_aload_n (i := 0) (dL_law_2 35 rfl) rfl rfl ?_
        refine R_iload_n (i := 3) (dL_law_2 36 rfl) rfl rfl ?_
        refine R_iconst (dL_law_2 37 rfl) rfl ?_
        refine R_iadd (dL_law_2 38 rfl) ?_
        obtain ⟨hg, H⟩ := ite_G H
        refine R_ialdF 0 (by decide) hg (dL_law_2 39 rfl) ?_
        refine R_cV (st' := [.inl (f_X9_count (q_ff g 0 (w32 (x3 + 1)).toNat) M)]) [.inl (q_ff g 0 (w32 (x3 + 1)).toNat)] [] (t_X9_count l g ad S _ (q_ag_sub hS (Nat.le_of_ble_eq_true rfl) (Nat.le_of_ble_eq_true rfl))   (q_ff g 0 (w32 (x3 + 1)).toNat)) msX9_count (Or.inl tb_668) (Or.inl ⟨0, 9, _, _, _, (cl0 hS), rfl⟩) ⟨Nat.le_of_ble_eq_true rfl, Nat.le_of_ble_eq_true rfl⟩ (Nat.le_of_ble_eq_true rfl) (Nat.le_of_ble_eq_true rfl) rfl rfl (Nat.le_of_ble_eq_true rfl) rfl (dL_law_2 40 rfl) ?_
        refine R_aload_n (i := 2) (dL_law_2 41 rfl) rfl rfl ?_
        refine R_aload_n (i := 0) (dL_law_2 42 rfl) rfl rfl ?_
        refine R_iload_n (i := 3) (dL_law_2 43 rfl) rfl rfl ?_
        refine R_iconst (dL_law_2 44 rfl) rfl ?_
        refine R_iadd (dL_law_2 45 rfl) ?_
        obtain ⟨hg, H⟩ := ite_G H
        refine R_ialdF 0 (by decide) hg (dL_law_2 46 rfl) ?_
        refine R_cV (st' := [.inl (f_X10_count (q_ff g 0 (w32 (x3 + 1)).toNat) M), .inl (f_X9_count (q_ff g 0 (w32 (x3 + 1)).toNat) M)]) [.inl (q_ff g 0 (w32 (x3 + 1)).toNat)] [.inl (f_X9_count (q_ff g 0 (w32 (x3 + 1)).toNat) M)] (t_X10_count l g ad S _ (q_ag_sub hS (Nat.le_of_ble_eq_true rfl) (Nat.le_of_ble_eq_true rfl))   (q_ff g 0 (w32 (x3 + 1)).toNat)) msX10_count (Or.inl tb_1304) (Or.inl ⟨38, 10, _, _, _, (cl38 hS), rfl⟩) ⟨Nat.le_of_ble_eq_true rfl, Nat.le_of_ble_eq_true rfl⟩ (Nat.le_of_ble_eq_true rfl) (Nat.le_of_ble_eq_true rfl) rfl rfl (Nat.le_of_ble_eq_true rfl) rfl (dL_law_2 47 rfl) ?_
        refine R_icmp_eq (tgt := 1676) (dL_law_2 48 rfl) (by decide) (fun hc => ?_) (fun hc => ?_)
        · have H := ite_T H hc
          refine R_iinc (i := 3) (ls' := [some (.inr (.inr (some (g.2.2.2.1 0)))), some (.inr (.inr (some (ad 0)))), some (.inr (.inr (some (ad 38)))), some (.inl (w32 (x3 + 7)))]) (dL_law_19 48 rfl) rfl (Nat.le_of_ble_eq_true rfl) rfl rfl ?_
          refine R_goto (tgt := 18) (dL_law_19 49 rfl) (by decide) ?_
          exact ih (w32 (x3 + 7)) M H
        · have H := ite_F H hc
          refine R_iconst (dL_law_2 49 rfl) rfl ?_
          exact R_iret rfl (by decide +kernel) (Nat.le_of_ble_eq_true rfl) (Nat.le_of_ble_eq_true rfl) (dL_law_2 50 rfl) (by obtain ⟨e1, e2⟩ := Prod.mk.inj (Option.some.inj H); subst e1; subst e2; exact hP)
      have H := ite_F H hc6
      by_cases hc7 : b_and (q_ff g 0 (x3).toNat) 63 = 7
      · have H := ite_T H hc7
        refine R_tsIn (c0 := 7) (tgt := 423) (dL_law_0 21 rfl) hc7 (by decide) (by decide) rfl (by decide) ?_
        refine R_aload_n (i := 1) (dL_law_2 51 rfl) rfl rfl ?_
        refine R_aload_n (i := 0) (dL_law_2 52 rfl) rfl rfl ?_
        refine R_iload_n (i := 3) (dL_law_2 53 rfl) rfl rfl ?_
        refine R_iconst (dL_law_2 54 rfl) rfl ?_
        refine R_iadd (dL_law_2 55 rfl) ?_
        obtain ⟨hg, H⟩ := ite_G H
        refine R_ialdF 0 (by decide) hg (dL_law_2 56 rfl) ?_
        refine R_aload_n (i := 0) (dL_law_2 57 rfl) rfl rfl ?_
        refine R_iload_n (i := 3) (dL_law_2 58 rfl) rfl rfl ?_
        refine R_iconst (dL_law_2 59 rfl) rfl ?_
        refine R_iadd (dL_law_3 0 rfl) ?_
        obtain ⟨hg, H⟩ := ite_G H
        refine R_ialdF 0 (by decide) hg (dL_law_3 1 rfl) ?_
        refine R_aload_n (i := 0) (dL_law_3 2 rfl) rfl rfl ?_
        refine R_iload_n (i := 3) (dL_law_3 3 rfl) rfl rfl ?_
        refine R_iconst (dL_law_3 4 rfl) rfl ?_
        refine R_iadd (dL_law_3 5 rfl) ?_
        obtain ⟨hg, H⟩ := ite_G H
        refine R_ialdF 0 (by decide) hg (dL_law_3 6 rfl) ?_
        refine R_aload_n (i := 0) (dL_law_3 7 rfl) rfl rfl ?_
        refine R_iload_n (i := 3) (dL_law_3 8 rfl) rfl rfl ?_
        refine R_iconst (dL_law_3 9 rfl) rfl ?_
        refine R_iadd (dL_law_3 10 rfl) ?_
        obtain ⟨hg, H⟩ := ite_G H
        refine R_ialdF 0 (by decide) hg (dL_law_3 11 rfl) ?_
        refine R_aload_n (i := 0) (dL_law_3 12 rfl) rfl rfl ?_
        refine R_iload_n (i := 3) (dL_law_3 13 rfl) rfl rfl ?_
        refine R_iconst (dL_law_3 14 rfl) rfl ?_
        refine R_iadd (dL_law_3 15 rfl) ?_
        obtain ⟨hg, H⟩ := ite_G H
        refine R_ialdF 0 (by decide) hg (dL_law_3 16 rfl) ?_
        refine R_aload_n (i := 0) (dL_law_3 17 rfl) rfl rfl ?_
        refine R_iload_n (i := 3) (dL_law_3 18 rfl) rfl rfl ?_
        refine R_bipush (dL_law_3 19 rfl) rfl rfl ?_
        refine R_iadd (dL_law_3 20 rfl) ?_
        obtain ⟨hg, H⟩ := ite_G H
        refine R_ialdF 0 (by decide) hg (dL_law_3 21 rfl) ?_
        obtain ⟨r604, M605, hr, H⟩ := ob_E H
        refine R_cV (st' := [.inl r604]) [.inl (q_ff g 0 (w32 (x3 + 1)).toNat), .inl (q_ff g 0 (w32 (x3 + 2)).toNat), .inl (q_ff g 0 (w32 (x3 + 3)).toNat), .inl (q_ff g 0 (w32 (x3 + 4)).toNat), .inl (q_ff g 0 (w32 (x3 + 5)).toNat), .inl (q_ff g 0 (w32 (x3 + 6)).toNat)] [] (t_X9_feed l g ad S _ (q_ag_sub hS (Nat.le_of_ble_eq_true rfl) (Nat.le_of_ble_eq_true rfl))   (q_ff g 0 (w32 (x3 + 1)).toNat) (q_ff g 0 (w32 (x3 + 2)).toNat) (q_ff g 0 (w32 (x3 + 3)).toNat) (q_ff g 0 (w32 (x3 + 4)).toNat) (q_ff g 0 (w32 (x3 + 5)).toNat) (q_ff g 0 (w32 (x3 + 6)).toNat) hr) msX9_feed (Or.inl tb_672) (Or.inl ⟨0, 9, _, _, _, (cl0 hS), rfl⟩) ⟨Nat.le_of_ble_eq_true rfl, Nat.le_of_ble_eq_true rfl⟩ (Nat.le_of_ble_eq_true rfl) (Nat.le_of_ble_eq_true rfl) rfl rfl (Nat.le_of_ble_eq_true rfl) rfl (dL_law_3 22 rfl) ?_
        refine R_aload_n (i := 2) (dL_law_3 23 rfl) rfl rfl ?_
        refine R_aload_n (i := 0) (dL_law_3 24 rfl) rfl rfl ?_
        refine R_iload_n (i := 3) (dL_law_3 25 rfl) rfl rfl ?_
        refine R_iconst (dL_law_3 26 rfl) rfl ?_
        refine R_iadd (dL_law_3 27 rfl) ?_
        obtain ⟨hg, H⟩ := ite_G H
        refine R_ialdF 0 (by decide) hg (dL_law_3 28 rfl) ?_
        refine R_aload_n (i := 0) (dL_law_3 29 rfl) rfl rfl ?_
        refine R_iload_n (i := 3) (dL_law_3 30 rfl) rfl rfl ?_
        refine R_iconst (dL_law_3 31 rfl) rfl ?_
        refine R_iadd (dL_law_3 32 rfl) ?_
        obtain ⟨hg, H⟩ := ite_G H
        refine R_ialdF 0 (by decide) hg (dL_law_3 33 rfl) ?_
        refine R_aload_n (i := 0) (dL_law_3 34 rfl) rfl rfl ?_
        refine R_iload_n (i := 3) (dL_law_3 35 rfl) rfl rfl ?_
        refine R_iconst (dL_law_3 36 rfl) rfl ?_
        refine R_iadd (dL_law_3 37 rfl) ?_
        obtain ⟨hg, H⟩ := ite_G H
        refine R_ialdF 0 (by decide) hg (dL_law_3 38 rfl) ?_
        refine R_aload_n (i := 0) (dL_law_3 39 rfl) rfl rfl ?_
        refine R_iload_n (i := 3) (dL_law_3 40 rfl) rfl rfl ?_
        refine R_iconst (dL_law_3 41 rfl) rfl ?_
        refine R_iadd (dL_law_3 42 rfl) ?_
        obtain ⟨hg, H⟩ := ite_G H
        refine R_ialdF 0 (by decide) hg (dL_law_3 43 rfl) ?_
        refine R_aload_n (i := 0) (dL_law_3 44 rfl) rfl rfl ?_
        refine R_iload_n (i := 3) (dL_law_3 45 rfl) rfl rfl ?_
        refine R_iconst (dL_law_3 46 rfl) rfl ?_
        refine R_iadd (dL_law_3 47 rfl) ?_
        obtain ⟨hg, H⟩ := ite_G H
        refine R_ialdF 0 (by decide) hg (dL_law_3 48 rfl) ?_
        refine R_aload_n (i := 0) (dL_law_3 49 rfl) rfl rfl ?_
        refine R_iload_n (i := 3) (dL_law_3 50 rfl) rfl rfl ?_
        refine R_bipush (dL_law_3 51 rfl) rfl rfl ?_
        refine R_iadd (dL_law_3 52 rfl) ?_
        obtain ⟨hg, H⟩ := ite_G H
        refine R_ialdF 0 (by decide) hg (dL_law_3 53 rfl) ?_
        obtain ⟨r606, M607, hr, H⟩ := ob_E H
        refine R_cV (st' := [.inl r606, .inl r604]) [.inl (q_ff g 0 (w32 (x3 + 1)).toNat), .inl (q_ff g 0 (w32 (x3 + 2)).toNat), .inl (q_ff g 0 (w32 (x3 + 3)).toNat), .inl (q_ff g 0 (w32 (x3 + 4)).toNat), .inl (q_ff g 0 (w32 (x3 + 5)).toNat), .inl (q_ff g 0 (w32 (x3 + 6)).toNat)] [.inl r604] (t_X10_feed l g ad S _ (q_ag_sub hS (Nat.le_of_ble_eq_true rfl) (Nat.le_of_ble_eq_true rfl))   (q_ff g 0 (w32 (x3 + 1)).toNat) (q_ff g 0 (w32 (x3 + 2)).toNat) (q_ff g 0 (w32 (x3 + 3)).toNat) (q_ff g 0 (w32 (x3 + 4)).toNat) (q_ff g 0 (w32 (x3 + 5)).toNat) (q_ff g 0 (w32 (x3 + 6)).toNat) hr) msX10_feed (Or.inl tb_1308) (Or.inl ⟨38, 10, _, _, _, (cl38 hS), rfl⟩) ⟨Nat.le_of_ble_eq_true rfl, Nat.le_of_ble_eq_true rfl⟩ (Nat.le_of_ble_eq_true rfl) (Nat.le_of_ble_eq_true rfl) rfl rfl (Nat.le_of_ble_eq_true rfl) rfl (dL_law_3 54 rfl) ?_
        refine R_icmp_eq (tgt := 1676) (dL_law_3 55 rfl) (by decide) (fun hc => ?_) (fun hc => ?_)
        · have H := ite_T H hc
          refine R_iinc (i := 3) (ls' := [some (.inr (.inr (some (g.2.2.2.1 0)))), some (.inr (.inr (some (ad 0)))), some (.inr (.inr (some (ad 38)))), some (.inl (w32 (x3 + 7)))]) (dL_law_19 48 rfl) rfl (Nat.le_of_ble_eq_true rfl) rfl rfl ?_
          refine R_goto (tgt := 18) (dL_law_19 49 rfl) (by decide) ?_
          exact ih (w32 (x3 + 7)) M607 H
        · have H := ite_F H hc
          refine R_iconst (dL_law_3 56 rfl) rfl ?_
          exact R_iret rfl (by decide +kernel) (Nat.le_of_ble_eq_true rfl) (Nat.le_of_ble_eq_true rfl) (dL_law_3 57 rfl) (by obtain ⟨e1, e2⟩ := Prod.mk.inj (Option.some.inj H); subst e1; subst e2; exact hP)
      have H := ite_F H hc7
      by_cases hc8 : b_and (q_ff g 0 (x3).toNat) 63 = 8
      · have H := ite_T H hc8
        refine R_tsIn (c0 := 8) (tgt := 498) (dL_law_0 21 rfl) hc8 (by decide) (by decide) rfl (by decide) ?_
        refine R_aload_n (i := 1) (dL_law_3 58 rfl) rfl rfl ?_
        obtain ⟨r608, M609, hr, H⟩ := ob_E H
        refine R_cV (st' := [.inl r608]) [] [] (t_X9_text l g ad S _ (q_ag_sub hS (Nat.le_of_ble_eq_true rfl) (Nat.le_of_ble_eq_true rfl))   hr) msX9_text (Or.inl tb_680) (Or.inl ⟨0, 9, _, _, _, (cl0 hS), rfl⟩) ⟨Nat.le_of_ble_eq_true rfl, Nat.le_of_ble_eq_true rfl⟩ (Nat.le_of_ble_eq_true rfl) (Nat.le_of_ble_eq_true rfl) rfl rfl (Nat.le_of_ble_eq_true rfl) rfl (dL_law_3 59 rfl) ?_
        refine R_aload_n (i := 2) (dL_law_4 0 rfl) rfl rfl ?_
        obtain ⟨r610, M611, hr, H⟩ := ob_E H
        refine R_cV (st' := [.inl r610, .inl r608]) [] [.inl r608] (t_X10_text l g ad S _ (q_ag_sub hS (Nat.le_of_ble_eq_true rfl) (Nat.le_of_ble_eq_true rfl))   hr) msX10_text (Or.inl tb_1315) (Or.inl ⟨38, 10, _, _, _, (cl38 hS), rfl⟩) ⟨Nat.le_of_ble_eq_true rfl, Nat.le_of_ble_eq_true rfl⟩ (Nat.le_of_ble_eq_true rfl) (Nat.le_of_ble_eq_true rfl) rfl rfl (Nat.le_of_ble_eq_true rfl) rfl (dL_law_4 1 rfl) ?_
        refine R_icmp_eq (tgt := 1676) (dL_law_4 2 rfl) (by decide) (fun hc => ?_) (fun hc => ?_)
        · have H := ite_T H hc
          refine R_iinc (i := 3) (ls' := [some (.inr (.inr (some (g.2.2.2.1 0)))), some (.inr (.inr (some (ad 0)))), some (.inr (.inr (some (ad 38)))), some (.inl (w32 (x3 + 7)))]) (dL_law_19 48 rfl) rfl (Nat.le_of_ble_eq_true rfl) rfl rfl ?_
          refine R_goto (tgt := 18) (dL_law_19 49 rfl) (by decide) ?_
          exact ih (w32 (x3 + 7)) M611 H
        · have H := ite_F H hc
          refine R_iconst (dL_law_4 3 rfl) rfl ?_
          exact R_iret rfl (by decide +kernel) (Nat.le_of_ble_eq_true rfl) (Nat.le_of_ble_eq_true rfl) (dL_law_4 4 rfl) (by obtain ⟨e1, e2⟩ := Prod.mk.inj (Option.some.inj H); subst e1; subst e2; exact hP)
      have H := ite_F H hc8
      by_cases hc9 : b_and (q_ff g 0 (x3).toNat) 63 = 9
      · have H := ite_T H hc9
        refine R_tsIn (c0 := 9) (tgt := 511) (dL_law_0 21 rfl) hc9 (by decide) (by decide) rfl (by decide) ?_
        refine R_aload_n (i := 1) (dL_law_4 5 rfl) rfl rfl ?_
        refine R_aload_n (i := 0) (dL_law_4 6 rfl) rfl rfl ?_
        refine R_iload_n (i := 3) (dL_law_4 7 rfl) rfl rfl ?_
        refine R_iconst (dL_law_4 8 rfl) rfl ?_
        refine R_iadd (dL_law_4 9 rfl) ?_
        obtain ⟨hg, H⟩ := ite_G H
        refine R_ialdF 0 (by decide) hg (dL_law_4 10 rfl) ?_
        obtain ⟨r612, M613, hr, H⟩ := ob_E H
        refine R_cV (st' := [.inl r612]) [.inl (q_ff g 0 (w32 (x3 + 1)).toNat)] [] (t_X9_force l g ad S _ (q_ag_sub hS (Nat.le_of_ble_eq_true rfl) (Nat.le_of_ble_eq_true rfl))   (q_ff g 0 (w32 (x3 + 1)).toNat) hr) msX9_force (Or.inl tb_685) (Or.inl ⟨0, 9, _, _, _, (cl0 hS), rfl⟩) ⟨Nat.le_of_ble_eq_true rfl, Nat.le_of_ble_eq_true rfl⟩ (Nat.le_of_ble_eq_true rfl) (Nat.le_of_ble_eq_true rfl) rfl rfl (Nat.le_of_ble_eq_true rfl) rfl (dL_law_4 11 rfl) ?_
        refine R_aload_n (i := 2) (dL_law_4 12 rfl) rfl rfl ?_
        refine R_aload_n (i := 0) (dL_law_4 13 rfl) rfl rfl ?_
        refine R_iload_n (i := 3) (dL_law_4 14 rfl) rfl rfl ?_
        refine R_iconst (dL_law_4 15 rfl) rfl ?_
        refine R_iadd (dL_law_4 16 rfl) ?_
        obtain ⟨hg, H⟩ := ite_G H
        refine R_ialdF 0 (by decide) hg (dL_law_4 17 rfl) ?_
        obtain ⟨r614, M615, hr, H⟩ := ob_E H
        refine R_cV (st' := [.inl r614, .inl r612]) [.inl (q_ff g 0 (w32 (x3 + 1)).toNat)] [.inl r612] (t_X10_force l g ad S _ (q_ag_sub hS (Nat.le_of_ble_eq_true rfl) (Nat.le_of_ble_eq_true rfl))   (q_ff g 0 (w32 (x3 + 1)).toNat) hr) msX10_force (Or.inl tb_1316) (Or.inl ⟨38, 10, _, _, _, (cl38 hS), rfl⟩) ⟨Nat.le_of_ble_eq_true rfl, Nat.le_of_ble_eq_true rfl⟩ (Nat.le_of_ble_eq_true rfl) (Nat.le_of_ble_eq_true rfl) rfl rfl (Nat.le_of_ble_eq_true rfl) rfl (dL_law_4 18 rfl) ?_
        refine R_icmp_eq (tgt := 1676) (dL_law_4 19 rfl) (by decide) (fun hc => ?_) (fun hc => ?_)
        · have H := ite_T H hc
          refine R_iinc (i := 3) (ls' := [some (.inr (.inr (some (g.2.2.2.1 0)))), some (.inr (.inr (some (ad 0)))), some (.inr (.inr (some (ad 38)))), some (.inl (w32 (x3 + 7)))]) (dL_law_19 48 rfl) rfl (Nat.le_of_ble_eq_true rfl) rfl rfl ?_
          refine R_goto (tgt := 18) (dL_law_19 49 rfl) (by decide) ?_
          exact ih (w32 (x3 + 7)) M615 H
        · have H := ite_F H hc
          refine R_iconst (dL_law_4 20 rfl) rfl ?_
          exact R_iret rfl (by decide +kernel) (Nat.le_of_ble_eq_true rfl) (Nat.le_of_ble_eq_true rfl) (dL_law_4 21 rfl) (by obtain ⟨e1, e2⟩ := Prod.mk.inj (Option.some.inj H); subst e1; subst e2; exact hP)
      have H := ite_F H hc9
      by_cases hc10 : b_and (q_ff g 0 (x3).toNat) 63 = 10
      · have H := ite_T H hc10
        refine R_tsIn (c0 := 10) (tgt := 534) (dL_law_0 21 rfl) hc10 (by decide) (by decide) rfl (by decide) ?_
        refine R_aload_n (i := 1) (dL_law_4 22 rfl) rfl rfl ?_
        refine R_aload_n (i := 0) (dL_law_4 23 rfl) rfl rfl ?_
        refine R_iload_n (i := 3) (dL_law_4 24 rfl) rfl rfl ?_
        refine R_iconst (dL_law_4 25 rfl) rfl ?_
        refine R_iadd (dL_law_4 26 rfl) ?_
        obtain ⟨hg, H⟩ := ite_G H
        refine R_ialdF 0 (by decide) hg (dL_law_4 27 rfl) ?_
        refine R_aload_n (i := 0) (dL_law_4 28 rfl) rfl rfl ?_
        refine R_iload_n (i := 3) (dL_law_4 29 rfl) rfl rfl ?_
        refine R_iconst (dL_law_4 30 rfl) rfl ?_
        refine R_iadd (dL_law_4 31 rfl) ?_
        obtain ⟨hg, H⟩ := ite_G H
        refine R_ialdF 0 (by decide) hg (dL_law_4 32 rfl) ?_
        refine R_aload_n (i := 0) (dL_law_4 33 rfl) rfl rfl ?_
        refine R_iload_n (i := 3) (dL_law_4 34 rfl) rfl rfl ?_
        refine R_iconst (dL_law_4 35 rfl) rfl ?_
        refine R_iadd (dL_law_4 36 rfl) ?_
        obtain ⟨hg, H⟩ := ite_G H
        refine R_ialdF 0 (by decide) hg (dL_law_4 37 rfl) ?_
        refine R_aload_n (i := 0) (dL_law_4 38 rfl) rfl rfl ?_
        refine R_iload_n (i := 3) (dL_law_4 39 rfl) rfl rfl ?_
        refine R_iconst (dL_law_4 40 rfl) rfl ?_
        refine R_iadd (dL_law_4 41 rfl) ?_
        obtain ⟨hg, H⟩ := ite_G H
        refine R_ialdF 0 (by decide) hg (dL_law_4 42 rfl) ?_
        refine R_aload_n (i := 0) (dL_law_4 43 rfl) rfl rfl ?_
        refine R_iload_n (i := 3) (dL_law_4 44 rfl) rfl rfl ?_
        refine R_iconst (dL_law_4 45 rfl) rfl ?_
        refine R_iadd (dL_law_4 46 rfl) ?_
        obtain ⟨hg, H⟩ := ite_G H
        refine R_ialdF 0 (by decide) hg (dL_law_4 47 rfl) ?_
        obtain ⟨r616, M617, hr, H⟩ := ob_E H
        refine R_cV (st' := [.inl r616]) [.inl (q_ff g 0 (w32 (x3 + 1)).toNat), .inl (q_ff g 0 (w32 (x3 + 2)).toNat), .inl (q_ff g 0 (w32 (x3 + 3)).toNat), .inl (q_ff g 0 (w32 (x3 + 4)).toNat), .inl (q_ff g 0 (w32 (x3 + 5)).toNat)] [] (t_X9_asks l g ad S _ (q_ag_sub hS (Nat.le_of_ble_eq_true rfl) (Nat.le_of_ble_eq_true rfl))   (q_ff g 0 (w32 (x3 + 1)).toNat) (q_ff g 0 (w32 (x3 + 2)).toNat) (q_ff g 0 (w32 (x3 + 3)).toNat) (q_ff g 0 (w32 (x3 + 4)).toNat) (q_ff g 0 (w32 (x3 + 5)).toNat) hr) msX9_asks (Or.inl tb_689) (Or.inl ⟨0, 9, _, _, _, (cl0 hS), rfl⟩) ⟨Nat.le_of_ble_eq_true rfl, Nat.le_of_ble_eq_true rfl⟩ (Nat.le_of_ble_eq_true rfl) (Nat.le_of_ble_eq_true rfl) rfl rfl (Nat.le_of_ble_eq_true rfl) rfl (dL_law_4 48 rfl) ?_
        refine R_aload_n (i := 2) (dL_law_4 49 rfl) rfl rfl ?_
        refine R_aload_n (i := 0) (dL_law_4 50 rfl) rfl rfl ?_
        refine R_iload_n (i := 3) (dL_law_4 51 rfl) rfl rfl ?_
        refine R_iconst (dL_law_4 52 rfl) rfl ?_
        refine R_iadd (dL_law_4 53 rfl) ?_
        obtain ⟨hg, H⟩ := ite_G H
        refine R_ialdF 0 (by decide) hg (dL_law_4 54 rfl) ?_
        refine R_aload_n (i := 0) (dL_law_4 55 rfl) rfl rfl ?_
        refine R_iload_n (i := 3) (dL_law_4 56 rfl) rfl rfl ?_
        refine R_iconst (dL_law_4 57 rfl) rfl ?_
        refine R_iadd (dL_law_4 58 rfl) ?_
        obtain ⟨hg, H⟩ := ite_G H
        refine R_ialdF 0 (by decide) hg (dL_law_4 59 rfl) ?_
        refine R_aload_n (i := 0) (dL_law_5 0 rfl) rfl rfl ?_
        refine R_iload_n (i := 3) (dL_law_5 1 rfl) rfl rfl ?_
        refine R_iconst (dL_law_5 2 rfl) rfl ?_
        refine R_iadd (dL_law_5 3 rfl) ?_
        obtain ⟨hg, H⟩ := ite_G H
        refine R_ialdF 0 (by decide) hg (dL_law_5 4 rfl) ?_
        refine R_aload_n (i := 0) (dL_law_5 5 rfl) rfl rfl ?_
        refine R_iload_n (i := 3) (dL_law_5 6 rfl) rfl rfl ?_
        refine R_iconst (dL_law_5 7 rfl) rfl ?_
        refine R_iadd (dL_law_5 8 rfl) ?_
        obtain ⟨hg, H⟩ := ite_G H
        refine R_ialdF 0 (by decide) hg (dL_law_5 9 rfl) ?_
        refine R_aload_n (i := 0) (dL_law_5 10 rfl) rfl rfl ?_
        refine R_iload_n (i := 3) (dL_law_5 11 rfl) rfl rfl ?_
        refine R_iconst (dL_law_5 12 rfl) rfl ?_
        refine R_iadd (dL_law_5 13 rfl) ?_
        obtain ⟨hg, H⟩ := ite_G H
        refine R_ialdF 0 (by decide) hg (dL_law_5 14 rfl) ?_
        obtain ⟨r618, M619, hr, H⟩ := ob_E H
        refine R_cV (st' := [.inl r618, .inl r616]) [.inl (q_ff g 0 (w32 (x3 + 1)).toNat), .inl (q_ff g 0 (w32 (x3 + 2)).toNat), .inl (q_ff g 0 (w32 (x3 + 3)).toNat), .inl (q_ff g 0 (w32 (x3 + 4)).toNat), .inl (q_ff g 0 (w32 (x3 + 5)).toNat)] [.inl r616] (t_X10_asks l g ad S _ (q_ag_sub hS (Nat.le_of_ble_eq_true rfl) (Nat.le_of_ble_eq_true rfl))   (q_ff g 0 (w32 (x3 + 1)).toNat) (q_ff g 0 (w32 (x3 + 2)).toNat) (q_ff g 0 (w32 (x3 + 3)).toNat) (q_ff g 0 (w32 (x3 + 4)).toNat) (q_ff g 0 (w32 (x3 + 5)).toNat) hr) msX10_asks (Or.inl tb_1320) (Or.inl ⟨38, 10, _, _, _, (cl38 hS), rfl⟩) ⟨Nat.le_of_ble_eq_true rfl, Nat.le_of_ble_eq_true rfl⟩ (Nat.le_of_ble_eq_true rfl) (Nat.le_of_ble_eq_true rfl) rfl rfl (Nat.le_of_ble_eq_true rfl) rfl (dL_law_5 15 rfl) ?_
        refine R_icmp_eq (tgt := 1676) (dL_law_5 16 rfl) (by decide) (fun hc => ?_) (fun hc => ?_)
        · have H := ite_T H hc
          refine R_iinc (i := 3) (ls' := [some (.inr (.inr (some (g.2.2.2.1 0)))), some (.inr (.inr (some (ad 0)))), some (.inr (.inr (some (ad 38)))), some (.inl (w32 (x3 + 7)))]) (dL_law_19 48 rfl) rfl (Nat.le_of_ble_eq_true rfl) rfl rfl ?_
          refine R_goto (tgt := 18) (dL_law_19 49 rfl) (by decide) ?_
          exact ih (w32 (x3 + 7)) M619 H
        · have H := ite_F H hc
          refine R_iconst (dL_law_5 17 rfl) rfl ?_
          exact R_iret rfl (by decide +kernel) (Nat.le_of_ble_eq_true rfl) (Nat.le_of_ble_eq_true rfl) (dL_law_5 18 rfl) (by obtain ⟨e1, e2⟩ := Prod.mk.inj (Option.some.inj H); subst e1; subst e2; exact hP)
      have H := ite_F H hc10
      by_cases hc11 : b_and (q_ff g 0 (x3).toNat) 63 = 11
      · have H := ite_T H hc11
        refine R_tsIn (c0 := 11) (tgt := 597) (dL_law_0 21 rfl) hc11 (by decide) (by decide) rfl (by decide) ?_
        refine R_aload_n (i := 1) (dL_law_5 19 rfl) rfl rfl ?_
        refine R_aload_n (i := 0) (dL_law_5 20 rfl) rfl rfl ?_
        refine R_iload_n (i := 3) (dL_law_5 21 rfl) rfl rfl ?_
        refine R_iconst (dL_law_5 22 rfl) rfl ?_
        refine R_iadd (dL_law_5 23 rfl) ?_
        obtain ⟨hg, H⟩ := ite_G H
        refine R_ialdF 0 (by decide) hg (dL_law_5 24 rfl) ?_
        refine R_aload_n (i := 0) (dL_law_5 25 rfl) rfl rfl ?_
        refine R_iload_n (i := 3) (dL_law_5 26 rfl) rfl rfl ?_
        refine R_iconst (dL_law_5 27 rfl) rfl ?_
        refine R_iadd (dL_law_5 28 rfl) ?_
        obtain ⟨hg, H⟩ := ite_G H
        refine R_ialdF 0 (by decide) hg (dL_law_5 29 rfl) ?_
        refine R_aload_n (i := 0) (dL_law_5 30 rfl) rfl rfl ?_
        refine R_iload_n (i := 3) (dL_law_5 31 rfl) rfl rfl ?_
        refine R_iconst (dL_law_5 32 rfl) rfl ?_
        refine R_iadd (dL_law_5 33 rfl) ?_
        obtain ⟨hg, H⟩ := ite_G H
        refine R_ialdF 0 (by decide) hg (dL_law_5 34 rfl) ?_
        refine R_aload_n (i := 0) (dL_law_5 35 rfl) rfl rfl ?_
        refine R_iload_n (i := 3) (dL_law_5 36 rfl) rfl rfl ?_
        refine R_iconst (dL_law_5 37 rfl) rfl ?_
        refine R_iadd (dL_law_5 38 rfl) ?_
        obtain ⟨hg, H⟩ := ite_G H
        refine R_ialdF 0 (by decide) hg (dL_law_5 39 rfl) ?_
        obtain ⟨r620, M621, hr, H⟩ := ob_E H
        refine R_cV (st' := [.inl r620]) [.inl (q_ff g 0 (w32 (x3 + 1)).toNat), .inl (q_ff g 0 (w32 (x3 + 2)).toNat), .inl (q_ff g 0 (w32 (x3 + 3)).toNat), .inl (q_ff g 0 (w32 (x3 + 4)).toNat)] [] (t_X9_know l g ad S _ (q_ag_sub hS (Nat.le_of_ble_eq_true rfl) (Nat.le_of_ble_eq_true rfl))   (q_ff g 0 (w32 (x3 + 1)).toNat) (q_ff g 0 (w32 (x3 + 2)).toNat) (q_ff g 0 (w32 (x3 + 3)).toNat) (q_ff g 0 (w32 (x3 + 4)).toNat) hr) msX9_know (Or.inl tb_707) (Or.inl ⟨0, 9, _, _, _, (cl0 hS), rfl⟩) ⟨Nat.le_of_ble_eq_true rfl, Nat.le_of_ble_eq_true rfl⟩ (Nat.le_of_ble_eq_true rfl) (Nat.le_of_ble_eq_true rfl) rfl rfl (Nat.le_of_ble_eq_true rfl) rfl (dL_law_5 40 rfl) ?_
        refine R_aload_n (i := 2) (dL_law_5 41 rfl) rfl rfl ?_
        refine R_aload_n (i := 0) (dL_law_5 42 rfl) rfl rfl ?_
        refine R_iload_n (i := 3) (dL_law_5 43 rfl) rfl rfl ?_
        refine R_iconst (dL_law_5 44 rfl) rfl ?_
        refine R_iadd (dL_law_5 45 rfl) ?_
        obtain ⟨hg, H⟩ := ite_G H
        refine R_ialdF 0 (by decide) hg (dL_law_5 46 rfl) ?_
        refine R_aload_n (i := 0) (dL_law_5 47 rfl) rfl rfl ?_
        refine R_iload_n (i := 3) (dL_law_5 48 rfl) rfl rfl ?_
        refine R_iconst (dL_law_5 49 rfl) rfl ?_
        refine R_iadd (dL_law_5 50 rfl) ?_
        obtain ⟨hg, H⟩ := ite_G H
        refine R_ialdF 0 (by decide) hg (dL_law_5 51 rfl) ?_
        refine R_aload_n (i := 0) (dL_law_5 52 rfl) rfl rfl ?_
        refine R_iload_n (i := 3) (dL_law_5 53 rfl) rfl rfl ?_
        refine R_iconst (dL_law_5 54 rfl) rfl ?_
        refine R_iadd (dL_law_5 55 rfl) ?_
        obtain ⟨hg, H⟩ := ite_G H
        refine R_ialdF 0 (by decide) hg (dL_law_5 56 rfl) ?_
        refine R_aload_n (i := 0) (dL_law_5 57 rfl) rfl rfl ?_
        refine R_iload_n (i := 3) (dL_law_5 58 rfl) rfl rfl ?_
        refine R_iconst (dL_law_5 59 rfl) rfl ?_
        refine R_iadd (dL_law_6 0 rfl) ?_
        obtain ⟨hg, H⟩ := ite_G H
        refine R_ialdF 0 (by decide) hg (dL_law_6 1 rfl) ?_
        obtain ⟨r622, M623, hr, H⟩ := ob_E H
        refine R_cV (st' := [.inl r622, .inl r620]) [.inl (q_ff g 0 (w32 (x3 + 1)).toNat), .inl (q_ff g 0 (w32 (x3 + 2)).toNat), .inl (q_ff g 0 (w32 (x3 + 3)).toNat), .inl (q_ff g 0 (w32 (x3 + 4)).toNat)] [.inl r620] (t_X10_know l g ad S _ (q_ag_sub hS (Nat.le_of_ble_eq_true rfl) (Nat.le_of_ble_eq_true rfl))   (q_ff g 0 (w32 (x3 + 1)).toNat) (q_ff g 0 (w32 (x3 + 2)).toNat) (q_ff g 0 (w32 (x3 + 3)).toNat) (q_ff g 0 (w32 (x3 + 4)).toNat) hr) msX10_know (Or.inl tb_1338) (Or.inl ⟨38, 10, _, _, _, (cl38 hS), rfl⟩) ⟨Nat.le_of_ble_eq_true rfl, Nat.le_of_ble_eq_true rfl⟩ (Nat.le_of_ble_eq_true rfl) (Nat.le_of_ble_eq_true rfl) rfl rfl (Nat.le_of_ble_eq_true rfl) rfl (dL_law_6 2 rfl) ?_
        refine R_icmp_eq (tgt := 1676) (dL_law_6 3 rfl) (by decide) (fun hc => ?_) (fun hc => ?_)
        · have H := ite_T H hc
          refine R_iinc (i := 3) (ls' := [some (.inr (.inr (some (g.2.2.2.1 0)))), some (.inr (.inr (some (ad 0)))), some (.inr (.inr (some (ad 38)))), some (.inl (w32 (x3 + 7)))]) (dL_law_19 48 rfl) rfl (Nat.le_of_ble_eq_true rfl) rfl rfl ?_
          refine R_goto (tgt := 18) (dL_law_19 49 rfl) (by decide) ?_
          exact ih (w32 (x3 + 7)) M623 H
        · have H := ite_F H hc
          refine R_iconst (dL_law_6 4 rfl) rfl ?_
          exact R_iret rfl (by decide +kernel) (Nat.le_of_ble_eq_true rfl) (Nat.le_of_ble_eq_true rfl) (dL_law_6 5 rfl) (by obtain ⟨e1, e2⟩ := Prod.mk.inj (Option.some.inj H); subst e1; subst e2; exact hP)
      have H := ite_F H hc11
      by_cases hc12 : b_and (q_ff g 0 (x3).toNat) 63 = 12
      · have H := ite_T H hc12
        refine R_tsIn (c0 := 12) (tgt := 650) (dL_law_0 21 rfl) hc12 (by decide) (by decide) rfl (by decide) ?_
        refine R_aload_n (i := 1) (dL_law_6 6 rfl) rfl rfl ?_
        obtain ⟨r624, M625, hr, H⟩ := ob_E H
        refine R_cV (st' := [.inl r624]) [] [] (t_X9_forget l g ad S _ (q_ag_sub hS (Nat.le_of_ble_eq_true rfl) (Nat.le_of_ble_eq_true rfl))   hr) msX9_forget (Or.inl tb_720) (Or.inl ⟨0, 9, _, _, _, (cl0 hS), rfl⟩) ⟨Nat.le_of_ble_eq_true rfl, Nat.le_of_ble_eq_true rfl⟩ (Nat.le_of_ble_eq_true rfl) (Nat.le_of_ble_eq_true rfl) rfl rfl (Nat.le_of_ble_eq_true rfl) rfl (dL_law_6 7 rfl) ?_
        refine R_aload_n (i := 2) (dL_law_6 8 rfl) rfl rfl ?_
        obtain ⟨r626, M627, hr, H⟩ := ob_E H
        refine R_cV (st' := [.inl r626, .inl r624]) [] [.inl r624] (t_X10_forget l g ad S _ (q_ag_sub hS (Nat.le_of_ble_eq_true rfl) (Nat.le_of_ble_eq_true rfl))   hr) msX10_forget (Or.inl tb_1350) (Or.inl ⟨38, 10, _, _, _, (cl38 hS), rfl⟩) ⟨Nat.le_of_ble_eq_true rfl, Nat.le_of_ble_eq_true rfl⟩ (Nat.le_of_ble_eq_true rfl) (Nat.le_of_ble_eq_true rfl) rfl rfl (Nat.le_of_ble_eq_true rfl) rfl (dL_law_6 9 rfl) ?_
        refine R_icmp_eq (tgt := 1676) (dL_law_6 10 rfl) (by decide) (fun hc => ?_) (fun hc => ?_)
        · have H := ite_T H hc
          refine R_iinc (i := 3) (ls' := [some (.inr (.inr (some (g.2.2.2.1 0)))), some (.inr (.inr (some (ad 0)))), some (.inr (.inr (some (ad 38)))), some (.inl (w32 (x3 + 7)))]) (dL_law_19 48 rfl) rfl (Nat.le_of_ble_eq_true rfl) rfl rfl ?_
          refine R_goto (tgt := 18) (dL_law_19 49 rfl) (by decide) ?_
          exact ih (w32 (x3 + 7)) M627 H
        · have H := ite_F H hc
          refine R_iconst (dL_law_6 11 rfl) rfl ?_
          exact R_iret rfl (by decide +kernel) (Nat.le_of_ble_eq_true rfl) (Nat.le_of_ble_eq_true rfl) (dL_law_6 12 rfl) (by obtain ⟨e1, e2⟩ := Prod.mk.inj (Option.some.inj H); subst e1; subst e2; exact hP)
      have H := ite_F H hc12
      by_cases hc13 : b_and (q_ff g 0 (x3).toNat) 63 = 13
      · have H := ite_T H hc13
        refine R_tsIn (c0 := 13) (tgt := 663) (dL_law_0 21 rfl) hc13 (by decide) (by decide) rfl (by decide) ?_
        refine R_aload_n (i := 1) (dL_law_6 13 rfl) rfl rfl ?_
        refine R_aload_n (i := 0) (dL_law_6 14 rfl) rfl rfl ?_
        refine R_iload_n (i := 3) (dL_law_6 15 rfl) rfl rfl ?_
        refine R_iconst (dL_law_6 16 rfl) rfl ?_
        refine R_iadd (dL_law_6 17 rfl) ?_
        obtain ⟨hg, H⟩ := ite_G H
        refine R_ialdF 0 (by decide) hg (dL_law_6 18 rfl) ?_
        refine R_aload_n (i := 0) (dL_law_6 19 rfl) rfl rfl ?_
        refine R_iload_n (i := 3) (dL_law_6 20 rfl) rfl rfl ?_
        refine R_iconst (dL_law_6 21 rfl) rfl ?_
        refine R_iadd (dL_law_6 22 rfl) ?_
        obtain ⟨hg, H⟩ := ite_G H
        refine R_ialdF 0 (by decide) hg (dL_law_6 23 rfl) ?_
        refine R_cV (st' := [.inl (f_X9_factTold (q_ff g 0 (w32 (x3 + 1)).toNat) (q_ff g 0 (w32 (x3 + 2)).toNat) M)]) [.inl (q_ff g 0 (w32 (x3 + 1)).toNat), .inl (q_ff g 0 (w32 (x3 + 2)).toNat)] [] (t_X9_factTold l g ad S _ (q_ag_sub hS (Nat.le_of_ble_eq_true rfl) (Nat.le_of_ble_eq_true rfl))   (q_ff g 0 (w32 (x3 + 1)).toNat) (q_ff g 0 (w32 (x3 + 2)).toNat)) msX9_factTold (Or.inl tb_724) (Or.inl ⟨0, 9, _, _, _, (cl0 hS), rfl⟩) ⟨Nat.le_of_ble_eq_true rfl, Nat.le_of_ble_eq_true rfl⟩ (Nat.le_of_ble_eq_true rfl) (Nat.le_of_ble_eq_true rfl) rfl rfl (Nat.le_of_ble_eq_true rfl) rfl (dL_law_6 24 rfl) ?_
        refine R_aload_n (i := 2) (dL_law_6 25 rfl) rfl rfl ?_
        refine R_aload_n (i := 0) (dL_law_6 26 rfl) rfl rfl ?_
        refine R_iload_n (i := 3) (dL_law_6 27 rfl) rfl rfl ?_
        refine R_iconst (dL_law_6 28 rfl) rfl ?_
        refine R_iadd (dL_law_6 29 rfl) ?_
        obtain ⟨hg, H⟩ := ite_G H
        refine R_ialdF 0 (by decide) hg (dL_law_6 30 rfl) ?_
        refine R_aload_n (i := 0) (dL_law_6 31 rfl) rfl rfl ?_
        refine R_iload_n (i := 3) (dL_law_6 32 rfl) rfl rfl ?_
        refine R_iconst (dL_law_6 33 rfl) rfl ?_
        refine R_iadd (dL_law_6 34 rfl) ?_
        obtain ⟨hg, H⟩ := ite_G H
        refine R_ialdF 0 (by decide) hg (dL_law_6 35 rfl) ?_
        obtain ⟨r628, hr, H⟩ := op_E H
        refine R_cV (st' := [.inl r628, .inl (f_X9_factTold (q_ff g 0 (w32 (x3 + 1)).toNat) (q_ff g 0 (w32 (x3 + 2)).toNat) M)]) [.inl (q_ff g 0 (w32 (x3 + 1)).toNat), .inl (q_ff g 0 (w32 (x3 + 2)).toNat)] [.inl (f_X9_factTold (q_ff g 0 (w32 (x3 + 1)).toNat) (q_ff g 0 (w32 (x3 + 2)).toNat) M)] (t_X10_factTold l g ad S _ (q_ag_sub hS (Nat.le_of_ble_eq_true rfl) (Nat.le_of_ble_eq_true rfl))   (q_ff g 0 (w32 (x3 + 1)).toNat) (q_ff g 0 (w32 (x3 + 2)).toNat) hr) msX10_factTold (Or.inl tb_1354) (Or.inl ⟨38, 10, _, _, _, (cl38 hS), rfl⟩) ⟨Nat.le_of_ble_eq_true rfl, Nat.le_of_ble_eq_true rfl⟩ (Nat.le_of_ble_eq_true rfl) (Nat.le_of_ble_eq_true rfl) rfl rfl (Nat.le_of_ble_eq_true rfl) rfl (dL_law_6 36 rfl) ?_
        refine R_icmp_eq (tgt := 1676) (dL_law_6 37 rfl) (by decide) (fun hc => ?_) (fun hc => ?_)
        · have H := ite_T H hc
          refine R_iinc (i := 3) (ls' := [some (.inr (.inr (some (g.2.2.2.1 0)))), some (.inr (.inr (some (ad 0)))), some (.inr (.inr (some (ad 38)))), some (.inl (w32 (x3 + 7)))]) (dL_law_19 48 rfl) rfl (Nat.le_of_ble_eq_true rfl) rfl rfl ?_
          refine R_goto (tgt := 18) (dL_law_19 49 rfl) (by decide) ?_
          exact ih (w32 (x3 + 7)) M H
        · have H := ite_F H hc
          refine R_iconst (dL_law_6 38 rfl) rfl ?_
          exact R_iret rfl (by decide +kernel) (Nat.le_of_ble_eq_true rfl) (Nat.le_of_ble_eq_true rfl) (dL_law_6 39 rfl) (by obtain ⟨e1, e2⟩ := Prod.mk.inj (Option.some.inj H); subst e1; subst e2; exact hP)
      have H := ite_F H hc13
      by_cases hc14 : b_and (q_ff g 0 (x3).toNat) 63 = 14
      · have H := ite_T H hc14
        refine R_tsIn (c0 := 14) (tgt := 696) (dL_law_0 21 rfl) hc14 (by decide) (by decide) rfl (by decide) ?_
        refine R_aload_n (i := 1) (dL_law_6 40 rfl) rfl rfl ?_
        obtain ⟨r629, M630, hr, H⟩ := ob_E H
        refine R_cV (st' := [.inl r629]) [] [] (t_X9_sets l g ad S _ (q_ag_sub hS (Nat.le_of_ble_eq_true rfl) (Nat.le_of_ble_eq_true rfl))   hr) msX9_sets (Or.inl tb_728) (Or.inl ⟨0, 9, _, _, _, (cl0 hS), rfl⟩) ⟨Nat.le_of_ble_eq_true rfl, Nat.le_of_ble_eq_true rfl⟩ (Nat.le_of_ble_eq_true rfl) (Nat.le_of_ble_eq_true rfl) rfl rfl (Nat.le_of_ble_eq_true rfl) rfl (dL_law_6 41 rfl) ?_
        refine R_aload_n (i := 2) (dL_law_6 42 rfl) rfl rfl ?_
        obtain ⟨r631, M632, hr, H⟩ := ob_E H
        refine R_cV (st' := [.inl r631, .inl r629]) [] [.inl r629] (t_X10_sets l g ad S _ (q_ag_sub hS (Nat.le_of_ble_eq_true rfl) (Nat.le_of_ble_eq_true rfl))   hr) msX10_sets (Or.inl tb_1358) (Or.inl ⟨38, 10, _, _, _, (cl38 hS), rfl⟩) ⟨Nat.le_of_ble_eq_true rfl, Nat.le_of_ble_eq_true rfl⟩ (Nat.le_of_ble_eq_true rfl) (Nat.le_of_ble_eq_true rfl) rfl rfl (Nat.le_of_ble_eq_true rfl) rfl (dL_law_6 43 rfl) ?_
        refine R_icmp_eq (tgt := 1676) (dL_law_6 44 rfl) (by decide) (fun hc => ?_) (fun hc => ?_)
        · have H := ite_T H hc
          refine R_iinc (i := 3) (ls' := [some (.inr (.inr (some (g.2.2.2.1 0)))), some (.inr (.inr (some (ad 0)))), some (.inr (.inr (some (ad 38)))), some (.inl (w32 (x3 + 7)))]) (dL_law_19 48 rfl) rfl (Nat.le_of_ble_eq_true rfl) rfl rfl ?_
          refine R_goto (tgt := 18) (dL_law_19 49 rfl) (by decide) ?_
          exact ih (w32 (x3 + 7)) M632 H
        · have H := ite_F H hc
          refine R_iconst (dL_law_6 45 rfl) rfl ?_
          exact R_iret rfl (by decide +kernel) (Nat.le_of_ble_eq_true rfl) (Nat.le_of_ble_eq_true rfl) (dL_law_6 46 rfl) (by obtain ⟨e1, e2⟩ := Prod.mk.inj (Option.some.inj H); subst e1; subst e2; exact hP)
      have H := ite_F H hc14
      by_cases hc15 : b_and (q_ff g 0 (x3).toNat) 63 = 15
      · have H := ite_T H hc15
        refine R_tsIn (c0 := 15) (tgt := 709) (dL_law_0 21 rfl) hc15 (by decide) (by decide) rfl (by decide) ?_
        refine R_aload_n (i := 1) (dL_law_6 47 rfl) rfl rfl ?_
        refine R_aload_n (i := 0) (dL_law_6 48 rfl) rfl rfl ?_
        refine R_iload_n (i := 3) (dL_law_6 49 rfl) rfl rfl ?_
        refine R_iconst (dL_law_6 50 rfl) rfl ?_
        refine R_iadd (dL_law_6 51 rfl) ?_
        obtain ⟨hg, H⟩ := ite_G H
        refine R_ialdF 0 (by decide) hg (dL_law_6 52 rfl) ?_
        obtain ⟨r633, M634, hr, H⟩ := ob_E H
        refine R_cV (st' := [.inl r633]) [.inl (q_ff g 0 (w32 (x3 + 1)).toNat)] [] (t_X9_first l g ad S _ (q_ag_sub hS (Nat.le_of_ble_eq_true rfl) (Nat.le_of_ble_eq_true rfl))   (q_ff g 0 (w32 (x3 + 1)).toNat) hr) msX9_first (Or.inl tb_776) (Or.inl ⟨0, 9, _, _, _, (cl0 hS), rfl⟩) ⟨Nat.le_of_ble_eq_true rfl, Nat.le_of_ble_eq_true rfl⟩ (Nat.le_of_ble_eq_true rfl) (Nat.le_of_ble_eq_true rfl) rfl rfl (Nat.le_of_ble_eq_true rfl) rfl (dL_law_6 53 rfl) ?_
        refine R_aload_n (i := 2) (dL_law_6 54 rfl) rfl rfl ?_
        refine R_aload_n (i := 0) (dL_law_6 55 rfl) rfl rfl ?_
        refine R_iload_n (i := 3) (dL_law_6 56 rfl) rfl rfl ?_
        refine R_iconst (dL_law_6 57 rfl) rfl ?_
        refine R_iadd (dL_law_6 58 rfl) ?_
        obtain ⟨hg, H⟩ := ite_G H
        refine R_ialdF 0 (by decide) hg (dL_law_6 59 rfl) ?_
        obtain ⟨r635, M636, hr, H⟩ := ob_E H
        refine R_cV (st' := [.inl r635, .inl r633]) [.inl (q_ff g 0 (w32 (x3 + 1)).toNat)] [.inl r633] (t_X10_first l g ad S _ (q_ag_sub hS (Nat.le_of_ble_eq_true rfl) (Nat.le_of_ble_eq_true rfl))   (q_ff g 0 (w32 (x3 + 1)).toNat) hr) msX10_first (Or.inl tb_1382) (Or.inl ⟨38, 10, _, _, _, (cl38 hS), rfl⟩) ⟨Nat.le_of_ble_eq_true rfl, Nat.le_of_ble_eq_true rfl⟩ (Nat.le_of_ble_eq_true rfl) (Nat.le_of_ble_eq_true rfl) rfl rfl (Nat.le_of_ble_eq_true rfl) rfl (dL_law_7 0 rfl) ?_
        refine R_icmp_eq (tgt := 1676) (dL_law_7 1 rfl) (by decide) (fun hc => ?_) (fun hc => ?_)
        · have H := ite_T H hc
          refine R_iinc (i := 3) (ls' := [some (.inr (.inr (some (g.2.2.2.1 0)))), some (.inr (.inr (some (ad 0)))), some (.inr (.inr (some (ad 38)))), some (.inl (w32 (x3 + 7)))]) (dL_law_19 48 rfl) rfl (Nat.le_of_ble_eq_true rfl) rfl rfl ?_
          refine R_goto (tgt := 18) (dL_law_19 49 rfl) (by decide) ?_
          exact ih (w32 (x3 + 7)) M636 H
        · have H := ite_F H hc
          refine R_iconst (dL_law_7 2 rfl) rfl ?_
          exact R_iret rfl (by decide +kernel) (Nat.le_of_ble_eq_true rfl) (Nat.le_of_ble_eq_true rfl) (dL_law_7 3 rfl) (by obtain ⟨e1, e2⟩ := Prod.mk.inj (Option.some.inj H); subst e1; subst e2; exact hP)
      have H := ite_F H hc15
      by_cases hc16 : b_and (q_ff g 0 (x3).toNat) 63 = 16
      · have H := ite_T H hc16
        refine R_tsIn (c0 := 16) (tgt := 732) (dL_law_0 21 rfl) hc16 (by decide) (by decide) rfl (by decide) ?_
        refine R_aload_n (i := 1) (dL_law_7 4 rfl) rfl rfl ?_
        refine R_aload_n (i := 0) (dL_law_7 5 rfl) rfl rfl ?_
        refine R_iload_n (i := 3) (dL_law_7 6 rfl) rfl rfl ?_
        refine R_iconst (dL_law_7 7 rfl) rfl ?_
        refine R_iadd (dL_law_7 8 rfl) ?_
        obtain ⟨hg, H⟩ := ite_G H
        refine R_ialdF 0 (by decide) hg (dL_law_7 9 rfl) ?_
        refine R_aload_n (i := 0) (dL_law_7 10 rfl) rfl rfl ?_
        refine R_iload_n (i := 3) (dL_law_7 11 rfl) rfl rfl ?_
        refine R_iconst (dL_law_7 12 rfl) rfl ?_
        refine R_iadd (dL_law_7 13 rfl) ?_
        obtain ⟨hg, H⟩ := ite_G H
        refine R_ialdF 0 (by decide) hg (dL_law_7 14 rfl) ?_
        obtain ⟨r637, M638, hr, H⟩ := ob_E H
        refine R_cV (st' := [.inl r637]) [.inl (q_ff g 0 (w32 (x3 + 1)).toNat), .inl (q_ff g 0 (w32 (x3 + 2)).toNat)] [] (t_X9_means l g ad S _ (q_ag_sub hS (Nat.le_of_ble_eq_true rfl) (Nat.le_of_ble_eq_true rfl))   (q_ff g 0 (w32 (x3 + 1)).toNat) (q_ff g 0 (w32 (x3 + 2)).toNat) hr) msX9_means (Or.inl tb_788) (Or.inl ⟨0, 9, _, _, _, (cl0 hS), rfl⟩) ⟨Nat.le_of_ble_eq_true rfl, Nat.le_of_ble_eq_true rfl⟩ (Nat.le_of_ble_eq_true rfl) (Nat.le_of_ble_eq_true rfl) rfl rfl (Nat.le_of_ble_eq_true rfl) rfl (dL_law_7 15 rfl) ?_
        refine R_aload_n (i := 2) (dL_law_7 16 rfl) rfl rfl ?_
        refine R_aload_n (i := 0) (dL_law_7 17 rfl) rfl rfl ?_
        refine R_iload_n (i := 3) (dL_law_7 18 rfl) rfl rfl ?_
        refine R_iconst (dL_law_7 19 rfl) rfl ?_
        refine R_iadd (dL_law_7 20 rfl) ?_
        obtain ⟨hg, H⟩ := ite_G H
        refine R_ialdF 0 (by decide) hg (dL_law_7 21 rfl) ?_
        refine R_aload_n (i := 0) (dL_law_7 22 rfl) rfl rfl ?_
        refine R_iload_n (i := 3) (dL_law_7 23 rfl) rfl rfl ?_
        refine R_iconst (dL_law_7 24 rfl) rfl ?_
        refine R_iadd (dL_law_7 25 rfl) ?_
        obtain ⟨hg, H⟩ := ite_G H
        refine R_ialdF 0 (by decide) hg (dL_law_7 26 rfl) ?_
        obtain ⟨r639, M640, hr, H⟩ := ob_E H
        refine R_cV (st' := [.inl r639, .inl r637]) [.inl (q_ff g 0 (w32 (x3 + 1)).toNat), .inl (q_ff g 0 (w32 (x3 + 2)).toNat)] [.inl r637] (t_X10_means l g ad S _ (q_ag_sub hS (Nat.le_of_ble_eq_true rfl) (Nat.le_of_ble_eq_true rfl))   (q_ff g 0 (w32 (x3 + 1)).toNat) (q_ff g 0 (w32 (x3 + 2)).toNat) hr) msX10_means (Or.inl tb_1393) (Or.inl ⟨38, 10, _, _, _, (cl38 hS), rfl⟩) ⟨Nat.le_of_ble_eq_true rfl, Nat.le_of_ble_eq_true rfl⟩ (Nat.le_of_ble_eq_true rfl) (Nat.le_of_ble_eq_true rfl) rfl rfl (Nat.le_of_ble_eq_true rfl) rfl (dL_law_7 27 rfl) ?_
        refine R_icmp_eq (tgt := 1676) (dL_law_7 28 rfl) (by decide) (fun hc => ?_) (fun hc => ?_)
        · have H := ite_T H hc
          refine R_iinc (i := 3) (ls' := [some (.inr (.inr (some (g.2.2.2.1 0)))), some (.inr (.inr (some (ad 0)))), some (.inr (.inr (some (ad 38)))), some (.inl (w32 (x3 + 7)))]) (dL_law_19 48 rfl) rfl (Nat.le_of_ble_eq_true rfl) rfl rfl ?_
          refine R_goto (tgt := 18) (dL_law_19 49 rfl) (by decide) ?_
          exact ih (w32 (x3 + 7)) M640 H
        · have H := ite_F H hc
          refine R_iconst (dL_law_7 29 rfl) rfl ?_
          exact R_iret rfl (by decide +kernel) (Nat.le_of_ble_eq_true rfl) (Nat.le_of_ble_eq_true rfl) (dL_law_7 30 rfl) (by obtain ⟨e1, e2⟩ := Prod.mk.inj (Option.some.inj H); subst e1; subst e2; exact hP)
      have H := ite_F H hc16
      by_cases hc17 : b_and (q_ff g 0 (x3).toNat) 63 = 17
      · have H := ite_T H hc17
        refine R_tsIn (c0 := 17) (tgt := 765) (dL_law_0 21 rfl) hc17 (by decide) (by decide) rfl (by decide) ?_
        refine R_aload_n (i := 1) (dL_law_7 31 rfl) rfl rfl ?_
        refine R_aload_n (i := 0) (dL_law_7 32 rfl) rfl rfl ?_
        refine R_iload_n (i := 3) (dL_law_7 33 rfl) rfl rfl ?_
        refine R_iconst (dL_law_7 34 rfl) rfl ?_
        refine R_iadd (dL_law_7 35 rfl) ?_
        obtain ⟨hg, H⟩ := ite_G H
        refine R_ialdF 0 (by decide) hg (dL_law_7 36 rfl) ?_
        obtain ⟨r641, M642, hr, H⟩ := ob_E H
        refine R_cV (st' := [.inl r641]) [.inl (q_ff g 0 (w32 (x3 + 1)).toNat)] [] (t_X9_sure l g ad S _ (q_ag_sub hS (Nat.le_of_ble_eq_true rfl) (Nat.le_of_ble_eq_true rfl))   (q_ff g 0 (w32 (x3 + 1)).toNat) hr) msX9_sure (Or.inl tb_799) (Or.inl ⟨0, 9, _, _, _, (cl0 hS), rfl⟩) ⟨Nat.le_of_ble_eq_true rfl, Nat.le_of_ble_eq_true rfl⟩ (Nat.le_of_ble_eq_true rfl) (Nat.le_of_ble_eq_true rfl) rfl rfl (Nat.le_of_ble_eq_true rfl) rfl (dL_law_7 37 rfl) ?_
        refine R_aload_n (i := 2) (dL_law_7 38 rfl) rfl rfl ?_
        refine R_aload_n (i := 0) (dL_law_7 39 rfl) rfl rfl ?_
        refine R_iload_n (i := 3) (dL_law_7 40 rfl) rfl rfl ?_
        refine R_iconst (dL_law_7 41 rfl) rfl ?_
        refine R_iadd (dL_law_7 42 rfl) ?_
        obtain ⟨hg, H⟩ := ite_G H
        refine R_ialdF 0 (by decide) hg (dL_law_7 43 rfl) ?_
        obtain ⟨r643, M644, hr, H⟩ := ob_E H
        refine R_cV (st' := [.inl r643, .inl r641]) [.inl (q_ff g 0 (w32 (x3 + 1)).toNat)] [.inl r641] (t_X10_sure l g ad S _ (q_ag_sub hS (Nat.le_of_ble_eq_true rfl) (Nat.le_of_ble_eq_true rfl))   (q_ff g 0 (w32 (x3 + 1)).toNat) hr) msX10_sure (Or.inl tb_1401) (Or.inl ⟨38, 10, _, _, _, (cl38 hS), rfl⟩) ⟨Nat.le_of_ble_eq_true rfl, Nat.le_of_ble_eq_true rfl⟩ (Nat.le_of_ble_eq_true rfl) (Nat.le_of_ble_eq_true rfl) rfl rfl (Nat.le_of_ble_eq_true rfl) rfl (dL_law_7 44 rfl) ?_
        refine R_icmp_eq (tgt := 1676) (dL_law_7 45 rfl) (by decide) (fun hc => ?_) (fun hc => ?_)
        · have H := ite_T H hc
          refine R_iinc (i := 3) (ls' := [some (.inr (.inr (some (g.2.2.2.1 0)))), some (.inr (.inr (some (ad 0)))), some (.inr (.inr (some (ad 38)))), some (.inl (w32 (x3 + 7)))]) (dL_law_19 48 rfl) rfl (Nat.le_of_ble_eq_true rfl) rfl rfl ?_
          refine R_goto (tgt := 18) (dL_law_19 49 rfl) (by decide) ?_
          exact ih (w32 (x3 + 7)) M644 H
        · have H := ite_F H hc
          refine R_iconst (dL_law_7 46 rfl) rfl ?_
          exact R_iret rfl (by decide +kernel) (Nat.le_of_ble_eq_true rfl) (Nat.le_of_ble_eq_true rfl) (dL_law_7 47 rfl) (by obtain ⟨e1, e2⟩ := Prod.mk.inj (Option.some.inj H); subst e1; subst e2; exact hP)
      have H := ite_F H hc17
      by_cases hc18 : b_and (q_ff g 0 (x3).toNat) 63 = 18
      · have H := ite_T H hc18
        refine R_tsIn (c0 := 18) (tgt := 788) (dL_law_0 21 rfl) hc18 (by decide) (by decide) rfl (by decide) ?_
        refine R_aload_n (i := 1) (dL_law_7 48 rfl) rfl rfl ?_
        refine R_aload_n (i := 0) (dL_law_7 49 rfl) rfl rfl ?_
        refine R_iload_n (i := 3) (dL_law_7 50 rfl) rfl rfl ?_
        refine R_iconst (dL_law_7 51 rfl) rfl ?_
        refine R_iadd (dL_law_7 52 rfl) ?_
        obtain ⟨hg, H⟩ := ite_G H
        refine R_ialdF 0 (by decide) hg (dL_law_7 53 rfl) ?_
        obtain ⟨r645, M646, hr, H⟩ := ob_E H
        refine R_cV (st' := [.inl r645]) [.inl (q_ff g 0 (w32 (x3 + 1)).toNat)] [] (t_X9_doubt l g ad S _ (q_ag_sub hS (Nat.le_of_ble_eq_true rfl) (Nat.le_of_ble_eq_true rfl))   (q_ff g 0 (w32 (x3 + 1)).toNat) hr) msX9_doubt (Or.inl tb_803) (Or.inl ⟨0, 9, _, _, _, (cl0 hS), rfl⟩) ⟨Nat.le_of_ble_eq_true rfl, Nat.le_of_ble_eq_true rfl⟩ (Nat.le_of_ble_eq_true rfl) (Nat.le_of_ble_eq_true rfl) rfl rfl (Nat.le_of_ble_eq_true rfl) rfl (dL_law_7 54 rfl) ?_
        refine R_aload_n (i := 2) (dL_law_7 55 rfl) rfl rfl ?_
        refine R_aload_n (i := 0) (dL_law_7 56 rfl) rfl rfl ?_
        refine R_iload_n (i := 3) (dL_law_7 57 rfl) rfl rfl ?_
        refine R_iconst (dL_law_7 58 rfl) rfl ?_
        refine R_iadd (dL_law_7 59 rfl) ?_
        obtain ⟨hg, H⟩ := ite_G H
        refine R_ialdF 0 (by decide) hg (dL_law_8 0 rfl) ?_
        obtain ⟨r647, M648, hr, H⟩ := ob_E H
        refine R_cV (st' := [.inl r647, .inl r645]) [.inl (q_ff g 0 (w32 (x3 + 1)).toNat)] [.inl r645] (t_X10_doubt l g ad S _ (q_ag_sub hS (Nat.le_of_ble_eq_true rfl) (Nat.le_of_ble_eq_true rfl))   (q_ff g 0 (w32 (x3 + 1)).toNat) hr) msX10_doubt (Or.inl tb_1409) (Or.inl ⟨38, 10, _, _, _, (cl38 hS), rfl⟩) ⟨Nat.le_of_ble_eq_true rfl, Nat.le_of_ble_eq_true rfl⟩ (Nat.le_of_ble_eq_true rfl) (Nat.le_of_ble_eq_true rfl) rfl rfl (Nat.le_of_ble_eq_true rfl) rfl (dL_law_8 1 rfl) ?_
        refine R_icmp_eq (tgt := 1676) (dL_law_8 2 rfl) (by decide) (fun hc => ?_) (fun hc => ?_)
        · have H := ite_T H hc
          refine R_iinc (i := 3) (ls' := [some (.inr (.inr (some (g.2.2.2.1 0)))), some (.inr (.inr (some (ad 0)))), some (.inr (.inr (some (ad 38)))), some (.inl (w32 (x3 + 7)))]) (dL_law_19 48 rfl) rfl (Nat.le_of_ble_eq_true rfl) rfl rfl ?_
          refine R_goto (tgt := 18) (dL_law_19 49 rfl) (by decide) ?_
          exact ih (w32 (x3 + 7)) M648 H
        · have H := ite_F H hc
          refine R_iconst (dL_law_8 3 rfl) rfl ?_
          exact R_iret rfl (by decide +kernel) (Nat.le_of_ble_eq_true rfl) (Nat.le_of_ble_eq_true rfl) (dL_law_8 4 rfl) (by obtain ⟨e1, e2⟩ := Prod.mk.inj (Option.some.inj H); subst e1; subst e2; exact hP)
      have H := ite_F H hc18
      by_cases hc19 : b_and (q_ff g 0 (x3).toNat) 63 = 19
      · have H := ite_T H hc19
        refine R_tsIn (c0 := 19) (tgt := 811) (dL_law_0 21 rfl) hc19 (by decide) (by decide) rfl (by decide) ?_
        refine R_aload_n (i := 1) (dL_law_8 5 rfl) rfl rfl ?_
        refine R_aload_n (i := 0) (dL_law_8 6 rfl) rfl rfl ?_
        refine R_iload_n (i := 3) (dL_law_8 7 rfl) rfl rfl ?_
        refine R_iconst (dL_law_8 8 rfl) rfl ?_
        refine R_iadd (dL_law_8 9 rfl) ?_
        obtain ⟨hg, H⟩ := ite_G H
        refine R_ialdF 0 (by decide) hg (dL_law_8 10 rfl) ?_
        refine R_aload_n (i := 0) (dL_law_8 11 rfl) rfl rfl ?_
        refine R_iload_n (i := 3) (dL_law_8 12 rfl) rfl rfl ?_
        refine R_iconst (dL_law_8 13 rfl) rfl ?_
        refine R_iadd (dL_law_8 14 rfl) ?_
        obtain ⟨hg, H⟩ := ite_G H
        refine R_ialdF 0 (by decide) hg (dL_law_8 15 rfl) ?_
        refine R_aload_n (i := 0) (dL_law_8 16 rfl) rfl rfl ?_
        refine R_iload_n (i := 3) (dL_law_8 17 rfl) rfl rfl ?_
        refine R_iconst (dL_law_8 18 rfl) rfl ?_
        refine R_iadd (dL_law_8 19 rfl) ?_
        obtain ⟨hg, H⟩ := ite_G H
        refine R_ialdF 0 (by decide) hg (dL_law_8 20 rfl) ?_
        obtain ⟨r649, M650, hr, H⟩ := ob_E H
        refine R_cV (st' := [.inr (.inl r649)]) [.inl (q_ff g 0 (w32 (x3 + 1)).toNat), .inl (q_ff g 0 (w32 (x3 + 2)).toNat), .inl (q_ff g 0 (w32 (x3 + 3)).toNat)] [] (t_X9_odds l g ad S _ (q_ag_sub hS (Nat.le_of_ble_eq_true rfl) (Nat.le_of_ble_eq_true rfl))   (q_ff g 0 (w32 (x3 + 1)).toNat) (q_ff g 0 (w32 (x3 + 2)).toNat) (q_ff g 0 (w32 (x3 + 3)).toNat) hr) msX9_odds (Or.inl tb_812) (Or.inl ⟨0, 9, _, _, _, (cl0 hS), rfl⟩) ⟨Nat.le_of_ble_eq_true rfl, Nat.le_of_ble_eq_true rfl⟩ (Nat.le_of_ble_eq_true rfl) (Nat.le_of_ble_eq_true rfl) rfl rfl (Nat.le_of_ble_eq_true rfl) rfl (dL_law_8 21 rfl) ?_
        refine R_aload_n (i := 2) (dL_law_8 22 rfl) rfl rfl ?_
        refine R_aload_n (i := 0) (dL_law_8 23 rfl) rfl rfl ?_
        refine R_iload_n (i := 3) (dL_law_8 24 rfl) rfl rfl ?_
        refine R_iconst (dL_law_8 25 rfl) rfl ?_
        refine R_iadd (dL_law_8 26 rfl) ?_
        obtain ⟨hg, H⟩ := ite_G H
        refine R_ialdF 0 (by decide) hg (dL_law_8 27 rfl) ?_
        refine R_aload_n (i := 0) (dL_law_8 28 rfl) rfl rfl ?_
        refine R_iload_n (i := 3) (dL_law_8 29 rfl) rfl rfl ?_
        refine R_iconst (dL_law_8 30 rfl) rfl ?_
        refine R_iadd (dL_law_8 31 rfl) ?_
        obtain ⟨hg, H⟩ := ite_G H
        refine R_ialdF 0 (by decide) hg (dL_law_8 32 rfl) ?_
        refine R_aload_n (i := 0) (dL_law_8 33 rfl) rfl rfl ?_
        refine R_iload_n (i := 3) (dL_law_8 34 rfl) rfl rfl ?_
        refine R_iconst (dL_law_8 35 rfl) rfl ?_
        refine R_iadd (dL_law_8 36 rfl) ?_
        obtain ⟨hg, H⟩ := ite_G H
        refine R_ialdF 0 (by decide) hg (dL_law_8 37 rfl) ?_
        obtain ⟨r651, M652, hr, H⟩ := ob_E H
        refine R_cV (st' := [.inr (.inl r651), .inr (.inl r649)]) [.inl (q_ff g 0 (w32 (x3 + 1)).toNat), .inl (q_ff g 0 (w32 (x3 + 2)).toNat), .inl (q_ff g 0 (w32 (x3 + 3)).toNat)] [.inr (.inl r649)] (t_X10_odds l g ad S _ (q_ag_sub hS (Nat.le_of_ble_eq_true rfl) (Nat.le_of_ble_eq_true rfl))   (q_ff g 0 (w32 (x3 + 1)).toNat) (q_ff g 0 (w32 (x3 + 2)).toNat) (q_ff g 0 (w32 (x3 + 3)).toNat) hr) msX10_odds (Or.inl tb_1413) (Or.inl ⟨38, 10, _, _, _, (cl38 hS), rfl⟩) ⟨Nat.le_of_ble_eq_true rfl, Nat.le_of_ble_eq_true rfl⟩ (Nat.le_of_ble_eq_true rfl) (Nat.le_of_ble_eq_true rfl) rfl rfl (Nat.le_of_ble_eq_true rfl) rfl (dL_law_8 38 rfl) ?_
        refine R_lcmp (dL_law_8 39 rfl) ?_
        refine R_if_eq (tgt := 1676) (dL_law_8 40 rfl) (by decide) (fun hc => ?_) (fun hc => ?_)
        · have H := ite_T H hc
          refine R_iinc (i := 3) (ls' := [some (.inr (.inr (some (g.2.2.2.1 0)))), some (.inr (.inr (some (ad 0)))), some (.inr (.inr (some (ad 38)))), some (.inl (w32 (x3 + 7)))]) (dL_law_19 48 rfl) rfl (Nat.le_of_ble_eq_true rfl) rfl rfl ?_
          refine R_goto (tgt := 18) (dL_law_19 49 rfl) (by decide) ?_
          exact ih (w32 (x3 + 7)) M652 H
        · have H := ite_F H hc
          refine R_iconst (dL_law_8 41 rfl) rfl ?_
          exact R_iret rfl (by decide +kernel) (Nat.le_of_ble_eq_true rfl) (Nat.le_of_ble_eq_true rfl) (dL_law_8 42 rfl) (by obtain ⟨e1, e2⟩ := Prod.mk.inj (Option.some.inj H); subst e1; subst e2; exact hP)
      have H := ite_F H hc19
      by_cases hc20 : b_and (q_ff g 0 (x3).toNat) 63 = 20
      · have H := ite_T H hc20
        refine R_tsIn (c0 := 20) (tgt := 855) (dL_law_0 21 rfl) hc20 (by decide) (by decide) rfl (by decide) ?_
        refine R_aload_n (i := 1) (dL_law_8 43 rfl) rfl rfl ?_
        refine R_aload_n (i := 0) (dL_law_8 44 rfl) rfl rfl ?_
        refine R_iload_n (i := 3) (dL_law_8 45 rfl) rfl rfl ?_
        refine R_iconst (dL_law_8 46 rfl) rfl ?_
        refine R_iadd (dL_law_8 47 rfl) ?_
        obtain ⟨hg, H⟩ := ite_G H
        refine R_ialdF 0 (by decide) hg (dL_law_8 48 rfl) ?_
        refine R_aload_n (i := 0) (dL_law_8 49 rfl) rfl rfl ?_
        refine R_iload_n (i := 3) (dL_law_8 50 rfl) rfl rfl ?_
        refine R_iconst (dL_law_8 51 rfl) rfl ?_
        refine R_iadd (dL_law_8 52 rfl) ?_
        obtain ⟨hg, H⟩ := ite_G H
        refine R_ialdF 0 (by decide) hg (dL_law_8 53 rfl) ?_
        refine R_aload_n (i := 0) (dL_law_8 54 rfl) rfl rfl ?_
        refine R_iload_n (i := 3) (dL_law_8 55 rfl) rfl rfl ?_
        refine R_iconst (dL_law_8 56 rfl) rfl ?_
        refine R_iadd (dL_law_8 57 rfl) ?_
        obtain ⟨hg, H⟩ := ite_G H
        refine R_ialdF 0 (by decide) hg (dL_law_8 58 rfl) ?_
        obtain ⟨r653, M654, hr, H⟩ := ob_E H
        refine R_cV (st' := [.inr (.inl r653)]) [.inl (q_ff g 0 (w32 (x3 + 1)).toNat), .inl (q_ff g 0 (w32 (x3 + 2)).toNat), .inl (q_ff g 0 (w32 (x3 + 3)).toNat)] [] (t_X9_has l g ad S _ (q_ag_sub hS (Nat.le_of_ble_eq_true rfl) (Nat.le_of_ble_eq_true rfl))   (q_ff g 0 (w32 (x3 + 1)).toNat) (q_ff g 0 (w32 (x3 + 2)).toNat) (q_ff g 0 (w32 (x3 + 3)).toNat) hr) msX9_has (Or.inl tb_826) (Or.inl ⟨0, 9, _, _, _, (cl0 hS), rfl⟩) ⟨Nat.le_of_ble_eq_true rfl, Nat.le_of_ble_eq_true rfl⟩ (Nat.le_of_ble_eq_true rfl) (Nat.le_of_ble_eq_true rfl) rfl rfl (Nat.le_of_ble_eq_true rfl) rfl (dL_law_8 59 rfl) ?_
        refine R_aload_n (i := 2) (dL_law_9 0 rfl) rfl rfl ?_
        refine R_aload_n (i := 0) (dL_law_9 1 rfl) rfl rfl ?_
        refine R_iload_n (i := 3) (dL_law_9 2 rfl) rfl rfl ?_
        refine R_iconst (dL_law_9 3 rfl) rfl ?_
        refine R_iadd (dL_law_9 4 rfl) ?_
        obtain ⟨hg, H⟩ := ite_G H
        refine R_ialdF 0 (by decide) hg (dL_law_9 5 rfl) ?_
        refine R_aload_n (i := 0) (dL_law_9 6 rfl) rfl rfl ?_
        refine R_iload_n (i := 3) (dL_law_9 7 rfl) rfl rfl ?_
        refine R_iconst (dL_law_9 8 rfl) rfl ?_
        refine R_iadd (dL_law_9 9 rfl) ?_
        obtain ⟨hg, H⟩ := ite_G H
        refine R_ialdF 0 (by decide) hg (dL_law_9 10 rfl) ?_
        refine R_aload_n (i := 0) (dL_law_9 11 rfl) rfl rfl ?_
        refine R_iload_n (i := 3) (dL_law_9 12 rfl) rfl rfl ?_
        refine R_iconst (dL_law_9 13 rfl) rfl ?_
        refine R_iadd (dL_law_9 14 rfl) ?_
        obtain ⟨hg, H⟩ := ite_G H
        refine R_ialdF 0 (by decide) hg (dL_law_9 15 rfl) ?_
        obtain ⟨r655, M656, hr, H⟩ := ob_E H
        refine R_cV (st' := [.inr (.inl r655), .inr (.inl r653)]) [.inl (q_ff g 0 (w32 (x3 + 1)).toNat), .inl (q_ff g 0 (w32 (x3 + 2)).toNat), .inl (q_ff g 0 (w32 (x3 + 3)).toNat)] [.inr (.inl r653)] (t_X10_has l g ad S _ (q_ag_sub hS (Nat.le_of_ble_eq_true rfl) (Nat.le_of_ble_eq_true rfl))   (q_ff g 0 (w32 (x3 + 1)).toNat) (q_ff g 0 (w32 (x3 + 2)).toNat) (q_ff g 0 (w32 (x3 + 3)).toNat) hr) msX10_has (Or.inl tb_1425) (Or.inl ⟨38, 10, _, _, _, (cl38 hS), rfl⟩) ⟨Nat.le_of_ble_eq_true rfl, Nat.le_of_ble_eq_true rfl⟩ (Nat.le_of_ble_eq_true rfl) (Nat.le_of_ble_eq_true rfl) rfl rfl (Nat.le_of_ble_eq_true rfl) rfl (dL_law_9 16 rfl) ?_
        refine R_lcmp (dL_law_9 17 rfl) ?_
        refine R_if_eq (tgt := 1676) (dL_law_9 18 rfl) (by decide) (fun hc => ?_) (fun hc => ?_)
        · have H := ite_T H hc
          refine R_iinc (i := 3) (ls' := [some (.inr (.inr (some (g.2.2.2.1 0)))), some (.inr (.inr (some (ad 0)))), some (.inr (.inr (some (ad 38)))), some (.inl (w32 (x3 + 7)))]) (dL_law_19 48 rfl) rfl (Nat.le_of_ble_eq_true rfl) rfl rfl ?_
          refine R_goto (tgt := 18) (dL_law_19 49 rfl) (by decide) ?_
          exact ih (w32 (x3 + 7)) M656 H
        · have H := ite_F H hc
          refine R_iconst (dL_law_9 19 rfl) rfl ?_
          exact R_iret rfl (by decide +kernel) (Nat.le_of_ble_eq_true rfl) (Nat.le_of_ble_eq_true rfl) (dL_law_9 20 rfl) (by obtain ⟨e1, e2⟩ := Prod.mk.inj (Option.some.inj H); subst e1; subst e2; exact hP)
      have H := ite_F H hc20
      by_cases hc21 : b_and (q_ff g 0 (x3).toNat) 63 = 21
      · have H := ite_T H hc21
        refine R_tsIn (c0 := 21) (tgt := 899) (dL_law_0 21 rfl) hc21 (by decide) (by decide) rfl (by decide) ?_
        refine R_aload_n (i := 1) (dL_law_9 21 rfl) rfl rfl ?_
        refine R_aload_n (i := 0) (dL_law_9 22 rfl) rfl rfl ?_
        refine R_iload_n (i := 3) (dL_law_9 23 rfl) rfl rfl ?_
        refine R_iconst (dL_law_9 24 rfl) rfl ?_
        refine R_iadd (dL_law_9 25 rfl) ?_
        obtain ⟨hg, H⟩ := ite_G H
        refine R_ialdF 0 (by decide) hg (dL_law_9 26 rfl) ?_
        refine R_aload_n (i := 0) (dL_law_9 27 rfl) rfl rfl ?_
        refine R_iload_n (i := 3) (dL_law_9 28 rfl) rfl rfl ?_
        refine R_iconst (dL_law_9 29 rfl) rfl ?_
        refine R_iadd (dL_law_9 30 rfl) ?_
        obtain ⟨hg, H⟩ := ite_G H
        refine R_ialdF 0 (by decide) hg (dL_law_9 31 rfl) ?_
        obtain ⟨r657, M658, hr, H⟩ := ob_E H
        refine R_cV (st' := [.inl r657]) [.inl (q_ff g 0 (w32 (x3 + 1)).toNat), .inl (q_ff g 0 (w32 (x3 + 2)).toNat)] [] (t_X9_partsOfLine l g ad S _ (q_ag_sub hS (Nat.le_of_ble_eq_true rfl) (Nat.le_of_ble_eq_true rfl))   (q_ff g 0 (w32 (x3 + 1)).toNat) (q_ff g 0 (w32 (x3 + 2)).toNat) hr) msX9_partsOfLine (Or.inl tb_838) (Or.inl ⟨0, 9, _, _, _, (cl0 hS), rfl⟩) ⟨Nat.le_of_ble_eq_true rfl, Nat.le_of_ble_eq_true rfl⟩ (Nat.le_of_ble_eq_true rfl) (Nat.le_of_ble_eq_true rfl) rfl rfl (Nat.le_of_ble_eq_true rfl) rfl (dL_law_9 32 rfl) ?_
        refine R_aload_n (i := 2) (dL_law_9 33 rfl) rfl rfl ?_
        refine R_aload_n (i := 0) (dL_law_9 34 rfl) rfl rfl ?_
        refine R_iload_n (i := 3) (dL_law_9 35 rfl) rfl rfl ?_
        refine R_iconst (dL_law_9 36 rfl) rfl ?_
        refine R_iadd (dL_law_9 37 rfl) ?_
        obtain ⟨hg, H⟩ := ite_G H
        refine R_ialdF 0 (by decide) hg (dL_law_9 38 rfl) ?_
        refine R_aload_n (i := 0) (dL_law_9 39 rfl) rfl rfl ?_
        refine R_iload_n (i := 3) (dL_law_9 40 rfl) rfl rfl ?_
        refine R_iconst (dL_law_9 41 rfl) rfl ?_
        refine R_iadd (dL_law_9 42 rfl) ?_
        obtain ⟨hg, H⟩ := ite_G H
        refine R_ialdF 0 (by decide) hg (dL_law_9 43 rfl) ?_
        obtain ⟨r659, M660, hr, H⟩ := ob_E H
        refine R_cV (st' := [.inl r659, .inl r657]) [.inl (q_ff g 0 (w32 (x3 + 1)).toNat), .inl (q_ff g 0 (w32 (x3 + 2)).toNat)] [.inl r657] (t_X10_partsOfLine l g ad S _ (q_ag_sub hS (Nat.le_of_ble_eq_true rfl) (Nat.le_of_ble_eq_true rfl))   (q_ff g 0 (w32 (x3 + 1)).toNat) (q_ff g 0 (w32 (x3 + 2)).toNat) hr) msX10_partsOfLine (Or.inl tb_1429) (Or.inl ⟨38, 10, _, _, _, (cl38 hS), rfl⟩) ⟨Nat.le_of_ble_eq_true rfl, Nat.le_of_ble_eq_true rfl⟩ (Nat.le_of_ble_eq_true rfl) (Nat.le_of_ble_eq_true rfl) rfl rfl (Nat.le_of_ble_eq_true rfl) rfl (dL_law_9 44 rfl) ?_
        refine R_icmp_eq (tgt := 1676) (dL_law_9 45 rfl) (by decide) (fun hc => ?_) (fun hc => ?_)
        · have H := ite_T H hc
          refine R_iinc (i := 3) (ls' := [some (.inr (.inr (some (g.2.2.2.1 0)))), some (.inr (.inr (some (ad 0)))), some (.inr (.inr (some (ad 38)))), some (.inl (w32 (x3 + 7)))]) (dL_law_19 48 rfl) rfl (Nat.le_of_ble_eq_true rfl) rfl rfl ?_
          refine R_goto (tgt := 18) (dL_law_19 49 rfl) (by decide) ?_
          exact ih (w32 (x3 + 7)) M660 H
        · have H := ite_F H hc
          refine R_iconst (dL_law_9 46 rfl) rfl ?_
          exact R_iret rfl (by decide +kernel) (Nat.le_of_ble_eq_true rfl) (Nat.le_of_ble_eq_true rfl) (dL_law_9 47 rfl) (by obtain ⟨e1, e2⟩ := Prod.mk.inj (Option.some.inj H); subst e1; subst e2; exact hP)
      have H := ite_F H hc21
      by_cases hc22 : b_and (q_ff g 0 (x3).toNat) 63 = 22
      · have H := ite_T H hc22
        refine R_tsIn (c0 := 22) (tgt := 932) (dL_law_0 21 rfl) hc22 (by decide) (by decide) rfl (by decide) ?_
        refine R_aload_n (i := 1) (dL_law_9 48 rfl) rfl rfl ?_
        refine R_aload_n (i := 0) (dL_law_9 49 rfl) rfl rfl ?_
        refine R_iload_n (i := 3) (dL_law_9 50 rfl) rfl rfl ?_
        refine R_iconst (dL_law_9 51 rfl) rfl ?_
        refine R_iadd (dL_law_9 52 rfl) ?_
        obtain ⟨hg, H⟩ := ite_G H
        refine R_ialdF 0 (by decide) hg (dL_law_9 53 rfl) ?_
        obtain ⟨r661, M662, hr, H⟩ := ob_E H
        refine R_cV (st' := [.inl r661]) [.inl (q_ff g 0 (w32 (x3 + 1)).toNat)] [] (t_X9_safe l g ad S _ (q_ag_sub hS (Nat.le_of_ble_eq_true rfl) (Nat.le_of_ble_eq_true rfl))   (q_ff g 0 (w32 (x3 + 1)).toNat) hr) msX9_safe (Or.inl tb_850) (Or.inl ⟨0, 9, _, _, _, (cl0 hS), rfl⟩) ⟨Nat.le_of_ble_eq_true rfl, Nat.le_of_ble_eq_true rfl⟩ (Nat.le_of_ble_eq_true rfl) (Nat.le_of_ble_eq_true rfl) rfl rfl (Nat.le_of_ble_eq_true rfl) rfl (dL_law_9 54 rfl) ?_
        refine R_aload_n (i := 2) (dL_law_9 55 rfl) rfl rfl ?_
        refine R_aload_n (i := 0) (dL_law_9 56 rfl) rfl rfl ?_
        refine R_iload_n (i := 3) (dL_law_9 57 rfl) rfl rfl ?_
        refine R_iconst (dL_law_9 58 rfl) rfl ?_
        refine R_iadd (dL_law_9 59 rfl) ?_
        obtain ⟨hg, H⟩ := ite_G H
        refine R_ialdF 0 (by decide) hg (dL_law_10 0 rfl) ?_
        obtain ⟨r663, M664, hr, H⟩ := ob_E H
        refine R_cV (st' := [.inl r663, .inl r661]) [.inl (q_ff g 0 (w32 (x3 + 1)).toNat)] [.inl r661] (t_X10_safe l g ad S _ (q_ag_sub hS (Nat.le_of_ble_eq_true rfl) (Nat.le_of_ble_eq_true rfl))   (q_ff g 0 (w32 (x3 + 1)).toNat) hr) msX10_safe (Or.inl tb_1433) (Or.inl ⟨38, 10, _, _, _, (cl38 hS), rfl⟩) ⟨Nat.le_of_ble_eq_true rfl, Nat.le_of_ble_eq_true rfl⟩ (Nat.le_of_ble_eq_true rfl) (Nat.le_of_ble_eq_true rfl) rfl rfl (Nat.le_of_ble_eq_true rfl) rfl (dL_law_10 1 rfl) ?_
        refine R_icmp_eq (tgt := 1676) (dL_law_10 2 rfl) (by decide) (fun hc => ?_) (fun hc => ?_)
        · have H := ite_T H hc
          refine R_iinc (i := 3) (ls' := [some (.inr (.inr (some (g.2.2.2.1 0)))), some (.inr (.inr (some (ad 0)))), some (.inr (.inr (some (ad 38)))), some (.inl (w32 (x3 + 7)))]) (dL_law_19 48 rfl) rfl (Nat.le_of_ble_eq_true rfl) rfl rfl ?_
          refine R_goto (tgt := 18) (dL_law_19 49 rfl) (by decide) ?_
          exact ih (w32 (x3 + 7)) M664 H
        · have H := ite_F H hc
          refine R_iconst (dL_law_10 3 rfl) rfl ?_
          exact R_iret rfl (by decide +kernel) (Nat.le_of_ble_eq_true rfl) (Nat.le_of_ble_eq_true rfl) (dL_law_10 4 rfl) (by obtain ⟨e1, e2⟩ := Prod.mk.inj (Option.some.inj H); subst e1; subst e2; exact hP)
      have H := ite_F H hc22
      by_cases hc23 : b_and (q_ff g 0 (x3).toNat) 63 = 23
      · have H := ite_T H hc23
        refine R_tsIn (c0 := 23) (tgt := 955) (dL_law_0 21 rfl) hc23 (by decide) (by decide) rfl (by decide) ?_
        refine R_aload_n (i := 1) (dL_law_10 5 rfl) rfl rfl ?_
        refine R_aload_n (i := 0) (dL_law_10 6 rfl) rfl rfl ?_
        refine R_iload_n (i := 3) (dL_law_10 7 rfl) rfl rfl ?_
        refine R_iconst (dL_law_10 8 rfl) rfl ?_
        refine R_iadd (dL_law_10 9 rfl) ?_
        obtain ⟨hg, H⟩ := ite_G H
        refine R_ialdF 0 (by decide) hg (dL_law_10 10 rfl) ?_
        refine R_aload_n (i := 0) (dL_law_10 11 rfl) rfl rfl ?_
        refine R_iload_n (i := 3) (dL_law_10 12 rfl) rfl rfl ?_
        refine R_iconst (dL_law_10 13 rfl) rfl ?_
        refine R_iadd (dL_law_10 14 rfl) ?_
        obtain ⟨hg, H⟩ := ite_G H
        refine R_ialdF 0 (by decide) hg (dL_law_10 15 rfl) ?_
        refine R_aload_n (i := 0) (dL_law_10 16 rfl) rfl rfl ?_
        refine R_iload_n (i := 3) (dL_law_10 17 rfl) rfl rfl ?_
        refine R_iconst (dL_law_10 18 rfl) rfl ?_
        refine R_iadd (dL_law_10 19 rfl) ?_
        obtain ⟨hg, H⟩ := ite_G H
        refine R_ialdF 0 (by decide) hg (dL_law_10 20 rfl) ?_
        obtain ⟨r665, M666, hr, H⟩ := ob_E H
        refine R_cV (st' := [.inr (.inl r665)]) [.inl (q_ff g 0 (w32 (x3 + 1)).toNat), .inl (q_ff g 0 (w32 (x3 + 2)).toNat), .inl (q_ff g 0 (w32 (x3 + 3)).toNat)] [] (t_X9_risk l g ad S _ (q_ag_sub hS (Nat.le_of_ble_eq_true rfl) (Nat.le_of_ble_eq_true rfl))   (q_ff g 0 (w32 (x3 + 1)).toNat) (q_ff g 0 (w32 (x3 + 2)).toNat) (q_ff g 0 (w32 (x3 + 3)).toNat) hr) msX9_risk (Or.inl tb_862) (Or.inl ⟨0, 9, _, _, _, (cl0 hS), rfl⟩) ⟨Nat.le_of_ble_eq_true rfl, Nat.le_of_ble_eq_true rfl⟩ (Nat.le_of_ble_eq_true rfl) (Nat.le_of_ble_eq_true rfl) rfl rfl (Nat.le_of_ble_eq_true rfl) rfl (dL_law_10 21 rfl) ?_
        refine R_aload_n (i := 2) (dL_law_10 22 rfl) rfl rfl ?_
        refine R_aload_n (i := 0) (dL_law_10 23 rfl) rfl rfl ?_
        refine R_iload_n (i := 3) (dL_law_10 24 rfl) rfl rfl ?_
        refine R_iconst (dL_law_10 25 rfl) rfl ?_
        refine R_iadd (dL_law_10 26 rfl) ?_
        obtain ⟨hg, H⟩ := ite_G H
        refine R_ialdF 0 (by decide) hg (dL_law_10 27 rfl) ?_
        refine R_aload_n (i := 0) (dL_law_10 28 rfl) rfl rfl ?_
        refine R_iload_n (i := 3) (dL_law_10 29 rfl) rfl rfl ?_
        refine R_iconst (dL_law_10 30 rfl) rfl ?_
        refine R_iadd (dL_law_10 31 rfl) ?_
        obtain ⟨hg, H⟩ := ite_G H
        refine R_ialdF 0 (by decide) hg (dL_law_10 32 rfl) ?_
        refine R_aload_n (i := 0) (dL_law_10 33 rfl) rfl rfl ?_
        refine R_iload_n (i := 3) (dL_law_10 34 rfl) rfl rfl ?_
        refine R_iconst (dL_law_10 35 rfl) rfl ?_
        refine R_iadd (dL_law_10 36 rfl) ?_
        obtain ⟨hg, H⟩ := ite_G H
        refine R_ialdF 0 (by decide) hg (dL_law_10 37 rfl) ?_
        obtain ⟨r667, M668, hr, H⟩ := ob_E H
        refine R_cV (st' := [.inr (.inl r667), .inr (.inl r665)]) [.inl (q_ff g 0 (w32 (x3 + 1)).toNat), .inl (q_ff g 0 (w32 (x3 + 2)).toNat), .inl (q_ff g 0 (w32 (x3 + 3)).toNat)] [.inr (.inl r665)] (t_X10_risk l g ad S _ (q_ag_sub hS (Nat.le_of_ble_eq_true rfl) (Nat.le_of_ble_eq_true rfl))   (q_ff g 0 (w32 (x3 + 1)).toNat) (q_ff g 0 (w32 (x3 + 2)).toNat) (q_ff g 0 (w32 (x3 + 3)).toNat) hr) msX10_risk (Or.inl tb_1445) (Or.inl ⟨38, 10, _, _, _, (cl38 hS), rfl⟩) ⟨Nat.le_of_ble_eq_true rfl, Nat.le_of_ble_eq_true rfl⟩ (Nat.le_of_ble_eq_true rfl) (Nat.le_of_ble_eq_true rfl) rfl rfl (Nat.le_of_ble_eq_true rfl) rfl (dL_law_10 38 rfl) ?_
        refine R_lcmp (dL_law_10 39 rfl) ?_
        refine R_if_eq (tgt := 1676) (dL_law_10 40 rfl) (by decide) (fun hc => ?_) (fun hc => ?_)
        · have H := ite_T H hc
          refine R_iinc (i := 3) (ls' := [some (.inr (.inr (some (g.2.2.2.1 0)))), some (.inr (.inr (some (ad 0)))), some (.inr (.inr (some (ad 38)))), some (.inl (w32 (x3 + 7)))]) (dL_law_19 48 rfl) rfl (Nat.le_of_ble_eq_true rfl) rfl rfl ?_
          refine R_goto (tgt := 18) (dL_law_19 49 rfl) (by decide) ?_
          exact ih (w32 (x3 + 7)) M668 H
        · have H := ite_F H hc
          refine R_iconst (dL_law_10 41 rfl) rfl ?_
          exact R_iret rfl (by decide +kernel) (Nat.le_of_ble_eq_true rfl) (Nat.le_of_ble_eq_true rfl) (dL_law_10 42 rfl) (by obtain ⟨e1, e2⟩ := Prod.mk.inj (Option.some.inj H); subst e1; subst e2; exact hP)
      have H := ite_F H hc23
      by_cases hc24 : b_and (q_ff g 0 (x3).toNat) 63 = 24
      · have H := ite_T H hc24
        refine R_tsIn (c0 := 24) (tgt := 999) (dL_law_0 21 rfl) hc24 (by decide) (by decide) rfl (by decide) ?_
        refine R_aload_n (i := 1) (dL_law_10 43 rfl) rfl rfl ?_
        refine R_aload_n (i := 0) (dL_law_10 44 rfl) rfl rfl ?_
        refine R_iload_n (i := 3) (dL_law_10 45 rfl) rfl rfl ?_
        refine R_iconst (dL_law_10 46 rfl) rfl ?_
        refine R_iadd (dL_law_10 47 rfl) ?_
        obtain ⟨hg, H⟩ := ite_G H
        refine R_ialdF 0 (by decide) hg (dL_law_10 48 rfl) ?_
        obtain ⟨r669, M670, hr, H⟩ := ob_E H
        refine R_cV (st' := [.inl r669]) [.inl (q_ff g 0 (w32 (x3 + 1)).toNat)] [] (t_X9_order l g ad S _ (q_ag_sub hS (Nat.le_of_ble_eq_true rfl) (Nat.le_of_ble_eq_true rfl))   (q_ff g 0 (w32 (x3 + 1)).toNat) hr) msX9_order (Or.inl tb_866) (Or.inl ⟨0, 9, _, _, _, (cl0 hS), rfl⟩) ⟨Nat.le_of_ble_eq_true rfl, Nat.le_of_ble_eq_true rfl⟩ (Nat.le_of_ble_eq_true rfl) (Nat.le_of_ble_eq_true rfl) rfl rfl (Nat.le_of_ble_eq_true rfl) rfl (dL_law_10 49 rfl) ?_
        refine R_aload_n (i := 2) (dL_law_10 50 rfl) rfl rfl ?_
        refine R_aload_n (i := 0) (dL_law_10 51 rfl) rfl rfl ?_
        refine R_iload_n (i := 3) (dL_law_10 52 rfl) rfl rfl ?_
        refine R_iconst (dL_law_10 53 rfl) rfl ?_
        refine R_iadd (dL_law_10 54 rfl) ?_
        obtain ⟨hg, H⟩ := ite_G H
        refine R_ialdF 0 (by decide) hg (dL_law_10 55 rfl) ?_
        obtain ⟨r671, M672, hr, H⟩ := ob_E H
        refine R_cV (st' := [.inl r671, .inl r669]) [.inl (q_ff g 0 (w32 (x3 + 1)).toNat)] [.inl r669] (t_X10_order l g ad S _ (q_ag_sub hS (Nat.le_of_ble_eq_true rfl) (Nat.le_of_ble_eq_true rfl))   (q_ff g 0 (w32 (x3 + 1)).toNat) hr) msX10_order (Or.inl tb_1449) (Or.inl ⟨38, 10, _, _, _, (cl38 hS), rfl⟩) ⟨Nat.le_of_ble_eq_true rfl, Nat.le_of_ble_eq_true rfl⟩ (Nat.le_of_ble_eq_true rfl) (Nat.le_of_ble_eq_true rfl) rfl rfl (Nat.le_of_ble_eq_true rfl) rfl (dL_law_10 56 rfl) ?_
        refine R_icmp_eq (tgt := 1676) (dL_law_10 57 rfl) (by decide) (fun hc => ?_) (fun hc => ?_)
        · have H := ite_T H hc
          refine R_iinc (i := 3) (ls' := [some (.inr (.inr (some (g.2.2.2.1 0)))), some (.inr (.inr (some (ad 0)))), some (.inr (.inr (some (ad 38)))), some (.inl (w32 (x3 + 7)))]) (dL_law_19 48 rfl) rfl (Nat.le_of_ble_eq_true rfl) rfl rfl ?_
          refine R_goto (tgt := 18) (dL_law_19 49 rfl) (by decide) ?_
          exact ih (w32 (x3 + 7)) M672 H
        · have H := ite_F H hc
          refine R_iconst (dL_law_10 58 rfl) rfl ?_
          exact R_iret rfl (by decide +kernel) (Nat.le_of_ble_eq_true rfl) (Nat.le_of_ble_eq_true rfl) (dL_law_10 59 rfl) (by obtain ⟨e1, e2⟩ := Prod.mk.inj (Option.some.inj H); subst e1; subst e2; exact hP)
      have H := ite_F H hc24
      by_cases hc25 : b_and (q_ff g 0 (x3).toNat) 63 = 25
      · have H := ite_T H hc25
        refine R_tsIn (c0 := 25) (tgt := 1022) (dL_law_0 21 rfl) hc25 (by decide) (by decide) rfl (by decide) ?_
        refine R_aload_n (i := 1) (dL_law_11 0 rfl) rfl rfl ?_
        refine R_aload_n (i := 0) (dL_law_11 1 rfl) rfl rfl ?_
        refine R_iload_n (i := 3) (dL_law_11 2 rfl) rfl rfl ?_
        refine R_iconst (dL_law_11 3 rfl) rfl ?_
        refine R_iadd (dL_law_11 4 rfl) ?_
        obtain ⟨hg, H⟩ := ite_G H
        refine R_ialdF 0 (by decide) hg (dL_law_11 5 rfl) ?_
        obtain ⟨r673, M674, hr, H⟩ := ob_E H
        refine R_cV (st' := [.inl r673]) [.inl (q_ff g 0 (w32 (x3 + 1)).toNat)] [] (t_X9_ordered l g ad S _ (q_ag_sub hS (Nat.le_of_ble_eq_true rfl) (Nat.le_of_ble_eq_true rfl))   (q_ff g 0 (w32 (x3 + 1)).toNat) hr) msX9_ordered (Or.inl tb_901) (Or.inl ⟨0, 9, _, _, _, (cl0 hS), rfl⟩) ⟨Nat.le_of_ble_eq_true rfl, Nat.le_of_ble_eq_true rfl⟩ (Nat.le_of_ble_eq_true rfl) (Nat.le_of_ble_eq_true rfl) rfl rfl (Nat.le_of_ble_eq_true rfl) rfl (dL_law_11 6 rfl) ?_
        refine R_aload_n (i := 2) (dL_law_11 7 rfl) rfl rfl ?_
        refine R_aload_n (i := 0) (dL_law_11 8 rfl) rfl rfl ?_
        refine R_iload_n (i := 3) (dL_law_11 9 rfl) rfl rfl ?_
        refine R_iconst (dL_law_11 10 rfl) rfl ?_
        refine R_iadd (dL_law_11 11 rfl) ?_
        obtain ⟨hg, H⟩ := ite_G H
        refine R_ialdF 0 (by decide) hg (dL_law_11 12 rfl) ?_
        obtain ⟨r675, M676, hr, H⟩ := ob_E H
        refine R_cV (st' := [.inl r675, .inl r673]) [.inl (q_ff g 0 (w32 (x3 + 1)).toNat)] [.inl r673] (t_X10_ordered l g ad S _ (q_ag_sub hS (Nat.le_of_ble_eq_true rfl) (Nat.le_of_ble_eq_true rfl))   (q_ff g 0 (w32 (x3 + 1)).toNat) hr) msX10_ordered (Or.inl tb_1469) (Or.inl ⟨38, 10, _, _, _, (cl38 hS), rfl⟩) ⟨Nat.le_of_ble_eq_true rfl, Nat.le_of_ble_eq_true rfl⟩ (Nat.le_of_ble_eq_true rfl) (Nat.le_of_ble_eq_true rfl) rfl rfl (Nat.le_of_ble_eq_true rfl) rfl (dL_law_11 13 rfl) ?_
        refine R_icmp_eq (tgt := 1676) (dL_law_11 14 rfl) (by decide) (fun hc => ?_) (fun hc => ?_)
        · have H := ite_T H hc
          refine R_iinc (i := 3) (ls' := [some (.inr (.inr (some (g.2.2.2.1 0)))), some (.inr (.inr (some (ad 0)))), some (.inr (.inr (some (ad 38)))), some (.inl (w32 (x3 + 7)))]) (dL_law_19 48 rfl) rfl (Nat.le_of_ble_eq_true rfl) rfl rfl ?_
          refine R_goto (tgt := 18) (dL_law_19 49 rfl) (by decide) ?_
          exact ih (w32 (x3 + 7)) M676 H
        · have H := ite_F H hc
          refine R_iconst (dL_law_11 15 rfl) rfl ?_
          exact R_iret rfl (by decide +kernel) (Nat.le_of_ble_eq_true rfl) (Nat.le_of_ble_eq_true rfl) (dL_law_11 16 rfl) (by obtain ⟨e1, e2⟩ := Prod.mk.inj (Option.some.inj H); subst e1; subst e2; exact hP)
      have H := ite_F H hc25
      by_cases hc26 : b_and (q_ff g 0 (x3).toNat) 63 = 26
      · have H := ite_T H hc26
        refine R_tsIn (c0 := 26) (tgt := 1045) (dL_law_0 21 rfl) hc26 (by decide) (by decide) rfl (by decide) ?_
        refine R_aload_n (i := 1) (dL_law_11 17 rfl) rfl rfl ?_
        refine R_aload_n (i := 0) (dL_law_11 18 rfl) rfl rfl ?_
        refine R_iload_n (i := 3) (dL_law_11 19 rfl) rfl rfl ?_
        refine R_iconst (dL_law_11 20 rfl) rfl ?_
        refine R_iadd (dL_law_11 21 rfl) ?_
        obtain ⟨hg, H⟩ := ite_G H
        refine R_ialdF 0 (by decide) hg (dL_law_11 22 rfl) ?_
        obtain ⟨r677, M678, hr, H⟩ := ob_E H
        refine R_cV (st' := [.inl r677]) [.inl (q_ff g 0 (w32 (x3 + 1)).toNat)] [] (t_X9_middle l g ad S _ (q_ag_sub hS (Nat.le_of_ble_eq_true rfl) (Nat.le_of_ble_eq_true rfl))   (q_ff g 0 (w32 (x3 + 1)).toNat) hr) msX9_middle (Or.inl tb_905) (Or.inl ⟨0, 9, _, _, _, (cl0 hS), rfl⟩) ⟨Nat.le_of_ble_eq_true rfl, Nat.le_of_ble_eq_true rfl⟩ (Nat.le_of_ble_eq_true rfl) (Nat.le_of_ble_eq_true rfl) rfl rfl (Nat.le_of_ble_eq_true rfl) rfl (dL_law_11 23 rfl) ?_
        refine R_aload_n (i := 2) (dL_law_11 24 rfl) rfl rfl ?_
        refine R_aload_n (i := 0) (dL_law_11 25 rfl) rfl rfl ?_
        refine R_iload_n (i := 3) (dL_law_11 26 rfl) rfl rfl ?_
        refine R_iconst (dL_law_11 27 rfl) rfl ?_
        refine R_iadd (dL_law_11 28 rfl) ?_
        obtain ⟨hg, H⟩ := ite_G H
        refine R_ialdF 0 (by decide) hg (dL_law_11 29 rfl) ?_
        obtain ⟨r679, M680, hr, H⟩ := ob_E H
        refine R_cV (st' := [.inl r679, .inl r677]) [.inl (q_ff g 0 (w32 (x3 + 1)).toNat)] [.inl r677] (t_X10_middle l g ad S _ (q_ag_sub hS (Nat.le_of_ble_eq_true rfl) (Nat.le_of_ble_eq_true rfl))   (q_ff g 0 (w32 (x3 + 1)).toNat) hr) msX10_middle (Or.inl tb_1473) (Or.inl ⟨38, 10, _, _, _, (cl38 hS), rfl⟩) ⟨Nat.le_of_ble_eq_true rfl, Nat.le_of_ble_eq_true rfl⟩ (Nat.le_of_ble_eq_true rfl) (Nat.le_of_ble_eq_true rfl) rfl rfl (Nat.le_of_ble_eq_true rfl) rfl (dL_law_11 30 rfl) ?_
        refine R_icmp_eq (tgt := 1676) (dL_law_11 31 rfl) (by decide) (fun hc => ?_) (fun hc => ?_)
        · have H := ite_T H hc
          refine R_iinc (i := 3) (ls' := [some (.inr (.inr (some (g.2.2.2.1 0)))), some (.inr (.inr (some (ad 0)))), some (.inr (.inr (some (ad 38)))), some (.inl (w32 (x3 + 7)))]) (dL_law_19 48 rfl) rfl (Nat.le_of_ble_eq_true rfl) rfl rfl ?_
          refine R_goto (tgt := 18) (dL_law_19 49 rfl) (by decide) ?_
          exact ih (w32 (x3 + 7)) M680 H
        · have H := ite_F H hc
          refine R_iconst (dL_law_11 32 rfl) rfl ?_
          exact R_iret rfl (by decide +kernel) (Nat.le_of_ble_eq_true rfl) (Nat.le_of_ble_eq_true rfl) (dL_law_11 33 rfl) (by obtain ⟨e1, e2⟩ := Prod.mk.inj (Option.some.inj H); subst e1; subst e2; exact hP)
      have H := ite_F H hc26
      by_cases hc27 : b_and (q_ff g 0 (x3).toNat) 63 = 27
      · have H := ite_T H hc27
        refine R_tsIn (c0 := 27) (tgt := 1068) (dL_law_0 21 rfl) hc27 (by decide) (by decide) rfl (by decide) ?_
        refine R_aload_n (i := 1) (dL_law_11 34 rfl) rfl rfl ?_
        refine R_aload_n (i := 0) (dL_law_11 35 rfl) rfl rfl ?_
        refine R_iload_n (i := 3) (dL_law_11 36 rfl) rfl rfl ?_
        refine R_iconst (dL_law_11 37 rfl) rfl ?_
        refine R_iadd (dL_law_11 38 rfl) ?_
        obtain ⟨hg, H⟩ := ite_G H
        refine R_ialdF 0 (by decide) hg (dL_law_11 39 rfl) ?_
        obtain ⟨r681, M682, hr, H⟩ := ob_E H
        refine R_cV (st' := [.inl r681]) [.inl (q_ff g 0 (w32 (x3 + 1)).toNat)] [] (t_X9_taste l g ad S _ (q_ag_sub hS (Nat.le_of_ble_eq_true rfl) (Nat.le_of_ble_eq_true rfl))   (q_ff g 0 (w32 (x3 + 1)).toNat) hr) msX9_taste (Or.inl tb_918) (Or.inl ⟨0, 9, _, _, _, (cl0 hS), rfl⟩) ⟨Nat.le_of_ble_eq_true rfl, Nat.le_of_ble_eq_true rfl⟩ (Nat.le_of_ble_eq_true rfl) (Nat.le_of_ble_eq_true rfl) rfl rfl (Nat.le_of_ble_eq_true rfl) rfl (dL_law_11 40 rfl) ?_
        refine R_aload_n (i := 2) (dL_law_11 41 rfl) rfl rfl ?_
        refine R_aload_n (i := 0) (dL_law_11 42 rfl) rfl rfl ?_
        refine R_iload_n (i := 3) (dL_law_11 43 rfl) rfl rfl ?_
        refine R_iconst (dL_law_11 44 rfl) rfl ?_
        refine R_iadd (dL_law_11 45 rfl) ?_
        obtain ⟨hg, H⟩ := ite_G H
        refine R_ialdF 0 (by decide) hg (dL_law_11 46 rfl) ?_
        obtain ⟨r683, M684, hr, H⟩ := ob_E H
        refine R_cV (st' := [.inl r683, .inl r681]) [.inl (q_ff g 0 (w32 (x3 + 1)).toNat)] [.inl r681] (t_X10_taste l g ad S _ (q_ag_sub hS (Nat.le_of_ble_eq_true rfl) (Nat.le_of_ble_eq_true rfl))   (q_ff g 0 (w32 (x3 + 1)).toNat) hr) msX10_taste (Or.inl tb_1477) (Or.inl ⟨38, 10, _, _, _, (cl38 hS), rfl⟩) ⟨Nat.le_of_ble_eq_true rfl, Nat.le_of_ble_eq_true rfl⟩ (Nat.le_of_ble_eq_true rfl) (Nat.le_of_ble_eq_true rfl) rfl rfl (Nat.le_of_ble_eq_true rfl) rfl (dL_law_11 47 rfl) ?_
        refine R_icmp_eq (tgt := 1676) (dL_law_11 48 rfl) (by decide) (fun hc => ?_) (fun hc => ?_)
        · have H := ite_T H hc
          refine R_iinc (i := 3) (ls' := [some (.inr (.inr (some (g.2.2.2.1 0)))), some (.inr (.inr (some (ad 0)))), some (.inr (.inr (some (ad 38)))), some (.inl (w32 (x3 + 7)))]) (dL_law_19 48 rfl) rfl (Nat.le_of_ble_eq_true rfl) rfl rfl ?_
          refine R_goto (tgt := 18) (dL_law_19 49 rfl) (by decide) ?_
          exact ih (w32 (x3 + 7)) M684 H
        · have H := ite_F H hc
          refine R_iconst (dL_law_11 49 rfl) rfl ?_
          exact R_iret rfl (by decide +kernel) (Nat.le_of_ble_eq_true rfl) (Nat.le_of_ble_eq_true rfl) (dL_law_11 50 rfl) (by obtain ⟨e1, e2⟩ := Prod.mk.inj (Option.some.inj H); subst e1; subst e2; exact hP)
      have H := ite_F H hc27
      by_cases hc28 : b_and (q_ff g 0 (x3).toNat) 63 = 28
      · have H := ite_T H hc28
        refine R_tsIn (c0 := 28) (tgt := 1091) (dL_law_0 21 rfl) hc28 (by decide) (by decide) rfl (by decide) ?_
        refine R_aload_n (i := 1) (dL_law_11 51 rfl) rfl rfl ?_
        refine R_aload_n (i := 0) (dL_law_11 52 rfl) rfl rfl ?_
        refine R_iload_n (i := 3) (dL_law_11 53 rfl) rfl rfl ?_
        refine R_iconst (dL_law_11 54 rfl) rfl ?_
        refine R_iadd (dL_law_11 55 rfl) ?_
        obtain ⟨hg, H⟩ := ite_G H
        refine R_ialdF 0 (by decide) hg (dL_law_11 56 rfl) ?_
        obtain ⟨r685, M686, hr, H⟩ := ob_E H
        refine R_cV (st' := [.inl r685]) [.inl (q_ff g 0 (w32 (x3 + 1)).toNat)] [] (t_X9_two l g ad S _ (q_ag_sub hS (Nat.le_of_ble_eq_true rfl) (Nat.le_of_ble_eq_true rfl))   (q_ff g 0 (w32 (x3 + 1)).toNat) hr) msX9_two (Or.inl tb_926) (Or.inl ⟨0, 9, _, _, _, (cl0 hS), rfl⟩) ⟨Nat.le_of_ble_eq_true rfl, Nat.le_of_ble_eq_true rfl⟩ (Nat.le_of_ble_eq_true rfl) (Nat.le_of_ble_eq_true rfl) rfl rfl (Nat.le_of_ble_eq_true rfl) rfl (dL_law_11 57 rfl) ?_
        refine R_aload_n (i := 2) (dL_law_11 58 rfl) rfl rfl ?_
        refine R_aload_n (i := 0) (dL_law_11 59 rfl) rfl rfl ?_
        refine R_iload_n (i := 3) (dL_law_12 0 rfl) rfl rfl ?_
        refine R_iconst (dL_law_12 1 rfl) rfl ?_
        refine R_iadd (dL_law_12 2 rfl) ?_
        obtain ⟨hg, H⟩ := ite_G H
        refine R_ialdF 0 (by decide) hg (dL_law_12 3 rfl) ?_
        obtain ⟨r687, M688, hr, H⟩ := ob_E H
        refine R_cV (st' := [.inl r687, .inl r685]) [.inl (q_ff g 0 (w32 (x3 + 1)).toNat)] [.inl r685] (t_X10_two l g ad S _ (q_ag_sub hS (Nat.le_of_ble_eq_true rfl) (Nat.le_of_ble_eq_true rfl))   (q_ff g 0 (w32 (x3 + 1)).toNat) hr) msX10_two (Or.inl tb_1489) (Or.inl ⟨38, 10, _, _, _, (cl38 hS), rfl⟩) ⟨Nat.le_of_ble_eq_true rfl, Nat.le_of_ble_eq_true rfl⟩ (Nat.le_of_ble_eq_true rfl) (Nat.le_of_ble_eq_true rfl) rfl rfl (Nat.le_of_ble_eq_true rfl) rfl (dL_law_12 4 rfl) ?_
        refine R_icmp_eq (tgt := 1676) (dL_law_12 5 rfl) (by decide) (fun hc => ?_) (fun hc => ?_)
        · have H := ite_T H hc
          refine R_iinc (i := 3) (ls' := [some (.inr (.inr (some (g.2.2.2.1 0)))), some (.inr (.inr (some (ad 0)))), some (.inr (.inr (some (ad 38)))), some (.inl (w32 (x3 + 7)))]) (dL_law_19 48 rfl) rfl (Nat.le_of_ble_eq_true rfl) rfl rfl ?_
          refine R_goto (tgt := 18) (dL_law_19 49 rfl) (by decide) ?_
          exact ih (w32 (x3 + 7)) M688 H
        · have H := ite_F H hc
          refine R_iconst (dL_law_12 6 rfl) rfl ?_
          exact R_iret rfl (by decide +kernel) (Nat.le_of_ble_eq_true rfl) (Nat.le_of_ble_eq_true rfl) (dL_law_12 7 rfl) (by obtain ⟨e1, e2⟩ := Prod.mk.inj (Option.some.inj H); subst e1; subst e2; exact hP)
      have H := ite_F H hc28
      by_cases hc29 : b_and (q_ff g 0 (x3).toNat) 63 = 29
      · have H := ite_T H hc29
        refine R_tsIn (c0 := 29) (tgt := 1114) (dL_law_0 21 rfl) hc29 (by decide) (by decide) rfl (by decide) ?_
        refine R_aload_n (i := 1) (dL_law_12 8 rfl) rfl rfl ?_
        refine R_aload_n (i := 0) (dL_law_12 9 rfl) rfl rfl ?_
        refine R_iload_n (i := 3) (dL_law_12 10 rfl) rfl rfl ?_
        refine R_iconst (dL_law_12 11 rfl) rfl ?_
        refine R_iadd (dL_law_12 12 rfl) ?_
        obtain ⟨hg, H⟩ := ite_G H
        refine R_ialdF 0 (by decide) hg (dL_law_12 13 rfl) ?_
        obtain ⟨r689, M690, hr, H⟩ := ob_E H
        refine R_cV (st' := [.inl r689]) [.inl (q_ff g 0 (w32 (x3 + 1)).toNat)] [] (t_X9_ask l g ad S _ (q_ag_sub hS (Nat.le_of_ble_eq_true rfl) (Nat.le_of_ble_eq_true rfl))   (q_ff g 0 (w32 (x3 + 1)).toNat) hr) msX9_ask (Or.inl tb_935) (Or.inl ⟨0, 9, _, _, _, (cl0 hS), rfl⟩) ⟨Nat.le_of_ble_eq_true rfl, Nat.le_of_ble_eq_true rfl⟩ (Nat.le_of_ble_eq_true rfl) (Nat.le_of_ble_eq_true rfl) rfl rfl (Nat.le_of_ble_eq_true rfl) rfl (dL_law_12 14 rfl) ?_
        refine R_aload_n (i := 2) (dL_law_12 15 rfl) rfl rfl ?_
        refine R_aload_n (i := 0) (dL_law_12 16 rfl) rfl rfl ?_
        refine R_iload_n (i := 3) (dL_law_12 17 rfl) rfl rfl ?_
        refine R_iconst (dL_law_12 18 rfl) rfl ?_
        refine R_iadd (dL_law_12 19 rfl) ?_
        obtain ⟨hg, H⟩ := ite_G H
        refine R_ialdF 0 (by decide) hg (dL_law_12 20 rfl) ?_
        obtain ⟨r691, M692, hr, H⟩ := ob_E H
        refine R_cV (st' := [.inl r691, .inl r689]) [.inl (q_ff g 0 (w32 (x3 + 1)).toNat)] [.inl r689] (t_X10_ask l g ad S _ (q_ag_sub hS (Nat.le_of_ble_eq_true rfl) (Nat.le_of_ble_eq_true rfl))   (q_ff g 0 (w32 (x3 + 1)).toNat) hr) msX10_ask (Or.inl tb_1493) (Or.inl ⟨38, 10, _, _, _, (cl38 hS), rfl⟩) ⟨Nat.le_of_ble_eq_true rfl, Nat.le_of_ble_eq_true rfl⟩ (Nat.le_of_ble_eq_true rfl) (Nat.le_of_ble_eq_true rfl) rfl rfl (Nat.le_of_ble_eq_true rfl) rfl (dL_law_12 21 rfl) ?_
        refine R_icmp_eq (tgt := 1676) (dL_law_12 22 rfl) (by decide) (fun hc => ?_) (fun hc => ?_)
        · have H := ite_T H hc
          refine R_iinc (i := 3) (ls' := [some (.inr (.inr (some (g.2.2.2.1 0)))), some (.inr (.inr (some (ad 0)))), some (.inr (.inr (some (ad 38)))), some (.inl (w32 (x3 + 7)))]) (dL_law_19 48 rfl) rfl (Nat.le_of_ble_eq_true rfl) rfl rfl ?_
          refine R_goto (tgt := 18) (dL_law_19 49 rfl) (by decide) ?_
          exact ih (w32 (x3 + 7)) M692 H
        · have H := ite_F H hc
          refine R_iconst (dL_law_12 23 rfl) rfl ?_
          exact R_iret rfl (by decide +kernel) (Nat.le_of_ble_eq_true rfl) (Nat.le_of_ble_eq_true rfl) (dL_law_12 24 rfl) (by obtain ⟨e1, e2⟩ := Prod.mk.inj (Option.some.inj H); subst e1; subst e2; exact hP)
      have H := ite_F H hc29
      by_cases hc30 : b_and (q_ff g 0 (x3).toNat) 63 = 30
      · have H := ite_T H hc30
        refine R_tsIn (c0 := 30) (tgt := 1137) (dL_law_0 21 rfl) hc30 (by decide) (by decide) rfl (by decide) ?_
        refine R_aload_n (i := 1) (dL_law_12 25 rfl) rfl rfl ?_
        refine R_aload_n (i := 0) (dL_law_12 26 rfl) rfl rfl ?_
        refine R_iload_n (i := 3) (dL_law_12 27 rfl) rfl rfl ?_
        refine R_iconst (dL_law_12 28 rfl) rfl ?_
        refine R_iadd (dL_law_12 29 rfl) ?_
        obtain ⟨hg, H⟩ := ite_G H
        refine R_ialdF 0 (by decide) hg (dL_law_12 30 rfl) ?_
        refine R_aload_n (i := 0) (dL_law_12 31 rfl) rfl rfl ?_
        refine R_iload_n (i := 3) (dL_law_12 32 rfl) rfl rfl ?_
        refine R_iconst (dL_law_12 33 rfl) rfl ?_
        refine R_iadd (dL_law_12 34 rfl) ?_
        obtain ⟨hg, H⟩ := ite_G H
        refine R_ialdF 0 (by decide) hg (dL_law_12 35 rfl) ?_
        refine R_aload_n (i := 0) (dL_law_12 36 rfl) rfl rfl ?_
        refine R_iload_n (i := 3) (dL_law_12 37 rfl) rfl rfl ?_
        refine R_iconst (dL_law_12 38 rfl) rfl ?_
        refine R_iadd (dL_law_12 39 rfl) ?_
        obtain ⟨hg, H⟩ := ite_G H
        refine R_ialdF 0 (by decide) hg (dL_law_12 40 rfl) ?_
        refine R_aload_n (i := 0) (dL_law_12 41 rfl) rfl rfl ?_
        refine R_iload_n (i := 3) (dL_law_12 42 rfl) rfl rfl ?_
        refine R_iconst (dL_law_12 43 rfl) rfl ?_
        refine R_iadd (dL_law_12 44 rfl) ?_
        obtain ⟨hg, H⟩ := ite_G H
        refine R_ialdF 0 (by decide) hg (dL_law_12 45 rfl) ?_
        obtain ⟨r693, M694, hr, H⟩ := ob_E H
        refine R_cV (st' := [.inl r693]) [.inl (q_ff g 0 (w32 (x3 + 1)).toNat), .inl (q_ff g 0 (w32 (x3 + 2)).toNat), .inl (q_ff g 0 (w32 (x3 + 3)).toNat), .inl (q_ff g 0 (w32 (x3 + 4)).toNat)] [] (t_X9_would l g ad S _ (q_ag_sub hS (Nat.le_of_ble_eq_true rfl) (Nat.le_of_ble_eq_true rfl))   (q_ff g 0 (w32 (x3 + 1)).toNat) (q_ff g 0 (w32 (x3 + 2)).toNat) (q_ff g 0 (w32 (x3 + 3)).toNat) (q_ff g 0 (w32 (x3 + 4)).toNat) hr) msX9_would (Or.inl tb_940) (Or.inl ⟨0, 9, _, _, _, (cl0 hS), rfl⟩) ⟨Nat.le_of_ble_eq_true rfl, Nat.le_of_ble_eq_true rfl⟩ (Nat.le_of_ble_eq_true rfl) (Nat.le_of_ble_eq_true rfl) rfl rfl (Nat.le_of_ble_eq_true rfl) rfl (dL_law_12 46 rfl) ?_
        refine R_aload_n (i := 2) (dL_law_12 47 rfl) rfl rfl ?_
        refine R_aload_n (i := 0) (dL_law_12 48 rfl) rfl rfl ?_
        refine R_iload_n (i := 3) (dL_law_12 49 rfl) rfl rfl ?_
        refine R_iconst (dL_law_12 50 rfl) rfl ?_
        refine R_iadd (dL_law_12 51 rfl) ?_
        obtain ⟨hg, H⟩ := ite_G H
        refine R_ialdF 0 (by decide) hg (dL_law_12 52 rfl) ?_
        refine R_aload_n (i := 0) (dL_law_12 53 rfl) rfl rfl ?_
        refine R_iload_n (i := 3) (dL_law_12 54 rfl) rfl rfl ?_
        refine R_iconst (dL_law_12 55 rfl) rfl ?_
        refine R_iadd (dL_law_12 56 rfl) ?_
        obtain ⟨hg, H⟩ := ite_G H
        refine R_ialdF 0 (by decide) hg (dL_law_12 57 rfl) ?_
        refine R_aload_n (i := 0) (dL_law_12 58 rfl) rfl rfl ?_
        refine R_iload_n (i := 3) (dL_law_12 59 rfl) rfl rfl ?_
        refine R_iconst (dL_law_13 0 rfl) rfl ?_
        refine R_iadd (dL_law_13 1 rfl) ?_
        obtain ⟨hg, H⟩ := ite_G H
        refine R_ialdF 0 (by decide) hg (dL_law_13 2 rfl) ?_
        refine R_aload_n (i := 0) (dL_law_13 3 rfl) rfl rfl ?_
        refine R_iload_n (i := 3) (dL_law_13 4 rfl) rfl rfl ?_
        refine R_iconst (dL_law_13 5 rfl) rfl ?_
        refine R_iadd (dL_law_13 6 rfl) ?_
        obtain ⟨hg, H⟩ := ite_G H
        refine R_ialdF 0 (by decide) hg (dL_law_13 7 rfl) ?_
        obtain ⟨r695, M696, hr, H⟩ := ob_E H
        refine R_cV (st' := [.inl r695, .inl r693]) [.inl (q_ff g 0 (w32 (x3 + 1)).toNat), .inl (q_ff g 0 (w32 (x3 + 2)).toNat), .inl (q_ff g 0 (w32 (x3 + 3)).toNat), .inl (q_ff g 0 (w32 (x3 + 4)).toNat)] [.inl r693] (t_X10_would l g ad S _ (q_ag_sub hS (Nat.le_of_ble_eq_true rfl) (Nat.le_of_ble_eq_true rfl))   (q_ff g 0 (w32 (x3 + 1)).toNat) (q_ff g 0 (w32 (x3 + 2)).toNat) (q_ff g 0 (w32 (x3 + 3)).toNat) (q_ff g 0 (w32 (x3 + 4)).toNat) hr) msX10_would (Or.inl tb_1497) (Or.inl ⟨38, 10, _, _, _, (cl38 hS), rfl⟩) ⟨Nat.le_of_ble_eq_true rfl, Nat.le_of_ble_eq_true rfl⟩ (Nat.le_of_ble_eq_true rfl) (Nat.le_of_ble_eq_true rfl) rfl rfl (Nat.le_of_ble_eq_true rfl) rfl (dL_law_13 8 rfl) ?_
        refine R_icmp_eq (tgt := 1676) (dL_law_13 9 rfl) (by decide) (fun hc => ?_) (fun hc => ?_)
        · have H := ite_T H hc
          refine R_iinc (i := 3) (ls' := [some (.inr (.inr (some (g.2.2.2.1 0)))), some (.inr (.inr (some (ad 0)))), some (.inr (.inr (some (ad 38)))), some (.inl (w32 (x3 + 7)))]) (dL_law_19 48 rfl) rfl (Nat.le_of_ble_eq_true rfl) rfl rfl ?_
          refine R_goto (tgt := 18) (dL_law_19 49 rfl) (by decide) ?_
          exact ih (w32 (x3 + 7)) M696 H
        · have H := ite_F H hc
          refine R_iconst (dL_law_13 10 rfl) rfl ?_
          exact R_iret rfl (by decide +kernel) (Nat.le_of_ble_eq_true rfl) (Nat.le_of_ble_eq_true rfl) (dL_law_13 11 rfl) (by obtain ⟨e1, e2⟩ := Prod.mk.inj (Option.some.inj H); subst e1; subst e2; exact hP)
      have H := ite_F H hc30
      by_cases hc31 : b_and (q_ff g 0 (x3).toNat) 63 = 31
      · have H := ite_T H hc31
        refine R_tsIn (c0 := 31) (tgt := 1190) (dL_law_0 21 rfl) hc31 (by decide) (by decide) rfl (by decide) ?_
        refine R_aload_n (i := 1) (dL_law_13 12 rfl) rfl rfl ?_
        obtain ⟨r697, M698, hr, H⟩ := ob_E H
        refine R_cV (st' := [.inl r697]) [] [] (t_X9_clash l g ad S _ (q_ag_sub hS (Nat.le_of_ble_eq_true rfl) (Nat.le_of_ble_eq_true rfl))   hr) msX9_clash (Or.inl tb_946) (Or.inl ⟨0, 9, _, _, _, (cl0 hS), rfl⟩) ⟨Nat.le_of_ble_eq_true rfl, Nat.le_of_ble_eq_true rfl⟩ (Nat.le_of_ble_eq_true rfl) (Nat.le_of_ble_eq_true rfl) rfl rfl (Nat.le_of_ble_eq_true rfl) rfl (dL_law_13 13 rfl) ?_
        refine R_aload_n (i := 2) (dL_law_13 14 rfl) rfl rfl ?_
        obtain ⟨r699, M700, hr, H⟩ := ob_E H
        refine R_cV (st' := [.inl r699, .inl r697]) [] [.inl r697] (t_X10_clash l g ad S _ (q_ag_sub hS (Nat.le_of_ble_eq_true rfl) (Nat.le_of_ble_eq_true rfl))   hr) msX10_clash (Or.inl tb_1501) (Or.inl ⟨38, 10, _, _, _, (cl38 hS), rfl⟩) ⟨Nat.le_of_ble_eq_true rfl, Nat.le_of_ble_eq_true rfl⟩ (Nat.le_of_ble_eq_true rfl) (Nat.le_of_ble_eq_true rfl) rfl rfl (Nat.le_of_ble_eq_true rfl) rfl (dL_law_13 15 rfl) ?_
        refine R_icmp_eq (tgt := 1676) (dL_law_13 16 rfl) (by decide) (fun hc => ?_) (fun hc => ?_)
        · have H := ite_T H hc
          refine R_iinc (i := 3) (ls' := [some (.inr (.inr (some (g.2.2.2.1 0)))), some (.inr (.inr (some (ad 0)))), some (.inr (.inr (some (ad 38)))), some (.inl (w32 (x3 + 7)))]) (dL_law_19 48 rfl) rfl (Nat.le_of_ble_eq_true rfl) rfl rfl ?_
          refine R_goto (tgt := 18) (dL_law_19 49 rfl) (by decide) ?_
          exact ih (w32 (x3 + 7)) M700 H
        · have H := ite_F H hc
          refine R_iconst (dL_law_13 17 rfl) rfl ?_
          exact R_iret rfl (by decide +kernel) (Nat.le_of_ble_eq_true rfl) (Nat.le_of_ble_eq_true rfl) (dL_law_13 18 rfl) (by obtain ⟨e1, e2⟩ := Prod.mk.inj (Option.some.inj H); subst e1; subst e2; exact hP)
      have H := ite_F H hc31
      by_cases hc32 : b_and (q_ff g 0 (x3).toNat) 63 = 32
      · have H := ite_T H hc32
        refine R_tsIn (c0 := 32) (tgt := 1203) (dL_law_0 21 rfl) hc32 (by decide) (by decide) rfl (by decide) ?_
        refine R_aload_n (i := 1) (dL_law_13 19 rfl) rfl rfl ?_
        obtain ⟨r701, M702, hr, H⟩ := ob_E H
        refine R_cV (st' := [.inl r701]) [] [] (t_X9_idle l g ad S _ (q_ag_sub hS (Nat.le_of_ble_eq_true rfl) (Nat.le_of_ble_eq_true rfl))   hr) msX9_idle (Or.inl tb_950) (Or.inl ⟨0, 9, _, _, _, (cl0 hS), rfl⟩) ⟨Nat.le_of_ble_eq_true rfl, Nat.le_of_ble_eq_true rfl⟩ (Nat.le_of_ble_eq_true rfl) (Nat.le_of_ble_eq_true rfl) rfl rfl (Nat.le_of_ble_eq_true rfl) rfl (dL_law_13 20 rfl) ?_
        refine R_aload_n (i := 2) (dL_law_13 21 rfl) rfl rfl ?_
        obtain ⟨r703, M704, hr, H⟩ := ob_E H
        refine R_cV (st' := [.inl r703, .inl r701]) [] [.inl r701] (t_X10_idle l g ad S _ (q_ag_sub hS (Nat.le_of_ble_eq_true rfl) (Nat.le_of_ble_eq_true rfl))   hr) msX10_idle (Or.inl tb_1509) (Or.inl ⟨38, 10, _, _, _, (cl38 hS), rfl⟩) ⟨Nat.le_of_ble_eq_true rfl, Nat.le_of_ble_eq_true rfl⟩ (Nat.le_of_ble_eq_true rfl) (Nat.le_of_ble_eq_true rfl) rfl rfl (Nat.le_of_ble_eq_true rfl) rfl (dL_law_13 22 rfl) ?_
        refine R_icmp_eq (tgt := 1676) (dL_law_13 23 rfl) (by decide) (fun hc => ?_) (fun hc => ?_)
        · have H := ite_T H hc
          refine R_iinc (i := 3) (ls' := [some (.inr (.inr (some (g.2.2.2.1 0)))), some (.inr (.inr (some (ad 0)))), some (.inr (.inr (some (ad 38)))), some (.inl (w32 (x3 + 7)))]) (dL_law_19 48 rfl) rfl (Nat.le_of_ble_eq_true rfl) rfl rfl ?_
          refine R_goto (tgt := 18) (dL_law_19 49 rfl) (by decide) ?_
          exact ih (w32 (x3 + 7)) M704 H
        · have H := ite_F H hc
          refine R_iconst (dL_law_13 24 rfl) rfl ?_
          exact R_iret rfl (by decide +kernel) (Nat.le_of_ble_eq_true rfl) (Nat.le_of_ble_eq_true rfl) (dL_law_13 25 rfl) (by obtain ⟨e1, e2⟩ := Prod.mk.inj (Option.some.inj H); subst e1; subst e2; exact hP)
      have H := ite_F H hc32
      by_cases hc33 : b_and (q_ff g 0 (x3).toNat) 63 = 33
      · have H := ite_T H hc33
        refine R_tsIn (c0 := 33) (tgt := 1216) (dL_law_0 21 rfl) hc33 (by decide) (by decide) rfl (by decide) ?_
        refine R_aload_n (i := 1) (dL_law_13 26 rfl) rfl rfl ?_
        refine R_aload_n (i := 0) (dL_law_13 27 rfl) rfl rfl ?_
        refine R_iload_n (i := 3) (dL_law_13 28 rfl) rfl rfl ?_
        refine R_iconst (dL_law_13 29 rfl) rfl ?_
        refine R_iadd (dL_law_13 30 rfl) ?_
        obtain ⟨hg, H⟩ := ite_G H
        refine R_ialdF 0 (by decide) hg (dL_law_13 31 rfl) ?_
        refine R_aload_n (i := 0) (dL_law_13 32 rfl) rfl rfl ?_
        refine R_iload_n (i := 3) (dL_law_13 33 rfl) rfl rfl ?_
        refine R_iconst (dL_law_13 34 rfl) rfl ?_
        refine R_iadd (dL_law_13 35 rfl) ?_
        obtain ⟨hg, H⟩ := ite_G H
        refine R_ialdF 0 (by decide) hg (dL_law_13 36 rfl) ?_
        refine R_aload_n (i := 0) (dL_law_13 37 rfl) rfl rfl ?_
        refine R_iload_n (i := 3) (dL_law_13 38 rfl) rfl rfl ?_
        refine R_iconst (dL_law_13 39 rfl) rfl ?_
        refine R_iadd (dL_law_13 40 rfl) ?_
        obtain ⟨hg, H⟩ := ite_G H
        refine R_ialdF 0 (by decide) hg (dL_law_13 41 rfl) ?_
        obtain ⟨r705, hr, H⟩ := op_E H
        refine R_cV (st' := [.inl r705]) [.inl (q_ff g 0 (w32 (x3 + 1)).toNat), .inl (q_ff g 0 (w32 (x3 + 2)).toNat), .inl (q_ff g 0 (w32 (x3 + 3)).toNat)] [] (t_X9_bill l g ad S _ (q_ag_sub hS (Nat.le_of_ble_eq_true rfl) (Nat.le_of_ble_eq_true rfl))   (q_ff g 0 (w32 (x3 + 1)).toNat) (q_ff g 0 (w32 (x3 + 2)).toNat) (q_ff g 0 (w32 (x3 + 3)).toNat) hr) msX9_bill (Or.inl tb_954) (Or.inl ⟨0, 9, _, _, _, (cl0 hS), rfl⟩) ⟨Nat.le_of_ble_eq_true rfl, Nat.le_of_ble_eq_true rfl⟩ (Nat.le_of_ble_eq_true rfl) (Nat.le_of_ble_eq_true rfl) rfl rfl (Nat.le_of_ble_eq_true rfl) rfl (dL_law_13 42 rfl) ?_
        refine R_aload_n (i := 2) (dL_law_13 43 rfl) rfl rfl ?_
        refine R_aload_n (i := 0) (dL_law_13 44 rfl) rfl rfl ?_
        refine R_iload_n (i := 3) (dL_law_13 45 rfl) rfl rfl ?_
        refine R_iconst (dL_law_13 46 rfl) rfl ?_
        refine R_iadd (dL_law_13 47 rfl) ?_
        obtain ⟨hg, H⟩ := ite_G H
        refine R_ialdF 0 (by decide) hg (dL_law_13 48 rfl) ?_
        refine R_aload_n (i := 0) (dL_law_13 49 rfl) rfl rfl ?_
        refine R_iload_n (i := 3) (dL_law_13 50 rfl) rfl rfl ?_
        refine R_iconst (dL_law_13 51 rfl) rfl ?_
        refine R_iadd (dL_law_13 52 rfl) ?_
        obtain ⟨hg, H⟩ := ite_G H
        refine R_ialdF 0 (by decide) hg (dL_law_13 53 rfl) ?_
        refine R_aload_n (i := 0) (dL_law_13 54 rfl) rfl rfl ?_
        refine R_iload_n (i := 3) (dL_law_13 55 rfl) rfl rfl ?_
        refine R_iconst (dL_law_13 56 rfl) rfl ?_
        refine R_iadd (dL_law_13 57 rfl) ?_
        obtain ⟨hg, H⟩ := ite_G H
        refine R_ialdF 0 (by decide) hg (dL_law_13 58 rfl) ?_
        obtain ⟨r706, hr, H⟩ := op_E H
        refine R_cV (st' := [.inl r706, .inl r705]) [.inl (q_ff g 0 (w32 (x3 + 1)).toNat), .inl (q_ff g 0 (w32 (x3 + 2)).toNat), .inl (q_ff g 0 (w32 (x3 + 3)).toNat)] [.inl r705] (t_X10_bill l g ad S _ (q_ag_sub hS (Nat.le_of_ble_eq_true rfl) (Nat.le_of_ble_eq_true rfl))   (q_ff g 0 (w32 (x3 + 1)).toNat) (q_ff g 0 (w32 (x3 + 2)).toNat) (q_ff g 0 (w32 (x3 + 3)).toNat) hr) msX10_bill (Or.inl tb_1513) (Or.inl ⟨38, 10, _, _, _, (cl38 hS), rfl⟩) ⟨Nat.le_of_ble_eq_true rfl, Nat.le_of_ble_eq_true rfl⟩ (Nat.le_of_ble_eq_true rfl) (Nat.le_of_ble_eq_true rfl) rfl rfl (Nat.le_of_ble_eq_true rfl) rfl (dL_law_13 59 rfl) ?_
        refine R_icmp_eq (tgt := 1676) (dL_law_14 0 rfl) (by decide) (fun hc => ?_) (fun hc => ?_)
        · have H := ite_T H hc
          refine R_iinc (i := 3) (ls' := [some (.inr (.inr (some (g.2.2.2.1 0)))), some (.inr (.inr (some (ad 0)))), some (.inr (.inr (some (ad 38)))), some (.inl (w32 (x3 + 7)))]) (dL_law_19 48 rfl) rfl (Nat.le_of_ble_eq_true rfl) rfl rfl ?_
          refine R_goto (tgt := 18) (dL_law_19 49 rfl) (by decide) ?_
          exact ih (w32 (x3 + 7)) M H
        · have H := ite_F H hc
          refine R_iconst (dL_law_14 1 rfl) rfl ?_
          exact R_iret rfl (by decide +kernel) (Nat.le_of_ble_eq_true rfl) (Nat.le_of_ble_eq_true rfl) (dL_law_14 2 rfl) (by obtain ⟨e1, e2⟩ := Prod.mk.inj (Option.some.inj H); subst e1; subst e2; exact hP)
      have H := ite_F H hc33
      by_cases hc34 : b_and (q_ff g 0 (x3).toNat) 63 = 34
      · have H := ite_T H hc34
        refine R_tsIn (c0 := 34) (tgt := 1259) (dL_law_0 21 rfl) hc34 (by decide) (by decide) rfl (by decide) ?_
        refine R_aload_n (i := 1) (dL_law_14 3 rfl) rfl rfl ?_
        refine R_aload_n (i := 0) (dL_law_14 4 rfl) rfl rfl ?_
        refine R_iload_n (i := 3) (dL_law_14 5 rfl) rfl rfl ?_
        refine R_iconst (dL_law_14 6 rfl) rfl ?_
        refine R_iadd (dL_law_14 7 rfl) ?_
        obtain ⟨hg, H⟩ := ite_G H
        refine R_ialdF 0 (by decide) hg (dL_law_14 8 rfl) ?_
        obtain ⟨r707, M708, hr, H⟩ := ob_E H
        refine R_cV (st' := [.inl r707]) [.inl (q_ff g 0 (w32 (x3 + 1)).toNat)] [] (t_X9_match l g ad S _ (q_ag_sub hS (Nat.le_of_ble_eq_true rfl) (Nat.le_of_ble_eq_true rfl))   (q_ff g 0 (w32 (x3 + 1)).toNat) hr) msX9_match (Or.inl tb_964) (Or.inl ⟨0, 9, _, _, _, (cl0 hS), rfl⟩) ⟨Nat.le_of_ble_eq_true rfl, Nat.le_of_ble_eq_true rfl⟩ (Nat.le_of_ble_eq_true rfl) (Nat.le_of_ble_eq_true rfl) rfl rfl (Nat.le_of_ble_eq_true rfl) rfl (dL_law_14 9 rfl) ?_
        refine R_aload_n (i := 2) (dL_law_14 10 rfl) rfl rfl ?_
        refine R_aload_n (i := 0) (dL_law_14 11 rfl) rfl rfl ?_
        refine R_iload_n (i := 3) (dL_law_14 12 rfl) rfl rfl ?_
        refine R_iconst (dL_law_14 13 rfl) rfl ?_
        refine R_iadd (dL_law_14 14 rfl) ?_
        obtain ⟨hg, H⟩ := ite_G H
        refine R_ialdF 0 (by decide) hg (dL_law_14 15 rfl) ?_
        obtain ⟨r709, M710, hr, H⟩ := ob_E H
        refine R_cV (st' := [.inl r709, .inl r707]) [.inl (q_ff g 0 (w32 (x3 + 1)).toNat)] [.inl r707] (t_X10_match l g ad S _ (q_ag_sub hS (Nat.le_of_ble_eq_true rfl) (Nat.le_of_ble_eq_true rfl))   (q_ff g 0 (w32 (x3 + 1)).toNat) hr) msX10_match (Or.inl tb_1517) (Or.inl ⟨38, 10, _, _, _, (cl38 hS), rfl⟩) ⟨Nat.le_of_ble_eq_true rfl, Nat.le_of_ble_eq_true rfl⟩ (Nat.le_of_ble_eq_true rfl) (Nat.le_of_ble_eq_true rfl) rfl rfl (Nat.le_of_ble_eq_true rfl) rfl (dL_law_14 16 rfl) ?_
        refine R_icmp_eq (tgt := 1676) (dL_law_14 17 rfl) (by decide) (fun hc => ?_) (fun hc => ?_)
        · have H := ite_T H hc
          refine R_iinc (i := 3) (ls' := [some (.inr (.inr (some (g.2.2.2.1 0)))), some (.inr (.inr (some (ad 0)))), some (.inr (.inr (some (ad 38)))), some (.inl (w32 (x3 + 7)))]) (dL_law_19 48 rfl) rfl (Nat.le_of_ble_eq_true rfl) rfl rfl ?_
          refine R_goto (tgt := 18) (dL_law_19 49 rfl) (by decide) ?_
          exact ih (w32 (x3 + 7)) M710 H
        · have H := ite_F H hc
          refine R_iconst (dL_law_14 18 rfl) rfl ?_
          exact R_iret rfl (by decide +kernel) (Nat.le_of_ble_eq_true rfl) (Nat.le_of_ble_eq_true rfl) (dL_law_14 19 rfl) (by obtain ⟨e1, e2⟩ := Prod.mk.inj (Option.some.inj H); subst e1; subst e2; exact hP)
      have H := ite_F H hc34
      by_cases hc35 : b_and (q_ff g 0 (x3).toNat) 63 = 35
      · have H := ite_T H hc35
        refine R_tsIn (c0 := 35) (tgt := 1282) (dL_law_0 21 rfl) hc35 (by decide) (by decide) rfl (by decide) ?_
        refine R_aload_n (i := 1) (dL_law_14 20 rfl) rfl rfl ?_
        refine R_aload_n (i := 0) (dL_law_14 21 rfl) rfl rfl ?_
        refine R_iload_n (i := 3) (dL_law_14 22 rfl) rfl rfl ?_
        refine R_iconst (dL_law_14 23 rfl) rfl ?_
        refine R_iadd (dL_law_14 24 rfl) ?_
        obtain ⟨hg, H⟩ := ite_G H
        refine R_ialdF 0 (by decide) hg (dL_law_14 25 rfl) ?_
        obtain ⟨r711, M712, hr, H⟩ := ob_E H
        refine R_cV (st' := [.inl r711]) [.inl (q_ff g 0 (w32 (x3 + 1)).toNat)] [] (t_X9_film l g ad S _ (q_ag_sub hS (Nat.le_of_ble_eq_true rfl) (Nat.le_of_ble_eq_true rfl))   (q_ff g 0 (w32 (x3 + 1)).toNat) hr) msX9_film (Or.inl tb_992) (Or.inl ⟨0, 9, _, _, _, (cl0 hS), rfl⟩) ⟨Nat.le_of_ble_eq_true rfl, Nat.le_of_ble_eq_true rfl⟩ (Nat.le_of_ble_eq_true rfl) (Nat.le_of_ble_eq_true rfl) rfl rfl (Nat.le_of_ble_eq_true rfl) rfl (dL_law_14 26 rfl) ?_
        refine R_aload_n (i := 2) (dL_law_14 27 rfl) rfl rfl ?_
        refine R_aload_n (i := 0) (dL_law_14 28 rfl) rfl rfl ?_
        refine R_iload_n (i := 3) (dL_law_14 29 rfl) rfl rfl ?_
        refine R_iconst (dL_law_14 30 rfl) rfl ?_
        refine R_iadd (dL_law_14 31 rfl) ?_
        obtain ⟨hg, H⟩ := ite_G H
        refine R_ialdF 0 (by decide) hg (dL_law_14 32 rfl) ?_
        obtain ⟨r713, M714, hr, H⟩ := ob_E H
        refine R_cV (st' := [.inl r713, .inl r711]) [.inl (q_ff g 0 (w32 (x3 + 1)).toNat)] [.inl r711] (t_X10_film l g ad S _ (q_ag_sub hS (Nat.le_of_ble_eq_true rfl) (Nat.le_of_ble_eq_true rfl))   (q_ff g 0 (w32 (x3 + 1)).toNat) hr) msX10_film (Or.inl tb_1521) (Or.inl ⟨38, 10, _, _, _, (cl38 hS), rfl⟩) ⟨Nat.le_of_ble_eq_true rfl, Nat.le_of_ble_eq_true rfl⟩ (Nat.le_of_ble_eq_true rfl) (Nat.le_of_ble_eq_true rfl) rfl rfl (Nat.le_of_ble_eq_true rfl) rfl (dL_law_14 33 rfl) ?_
        refine R_icmp_eq (tgt := 1676) (dL_law_14 34 rfl) (by decide) (fun hc => ?_) (fun hc => ?_)
        · have H := ite_T H hc
          refine R_iinc (i := 3) (ls' := [some (.inr (.inr (some (g.2.2.2.1 0)))), some (.inr (.inr (some (ad 0)))), some (.inr (.inr (some (ad 38)))), some (.inl (w32 (x3 + 7)))]) (dL_law_19 48 rfl) rfl (Nat.le_of_ble_eq_true rfl) rfl rfl ?_
          refine R_goto (tgt := 18) (dL_law_19 49 rfl) (by decide) ?_
          exact ih (w32 (x3 + 7)) M714 H
        · have H := ite_F H hc
          refine R_iconst (dL_law_14 35 rfl) rfl ?_
          exact R_iret rfl (by decide +kernel) (Nat.le_of_ble_eq_true rfl) (Nat.le_of_ble_eq_true rfl) (dL_law_14 36 rfl) (by obtain ⟨e1, e2⟩ := Prod.mk.inj (Option.some.inj H); subst e1; subst e2; exact hP)
      have H := ite_F H hc35
      by_cases hc36 : b_and (q_ff g 0 (x3).toNat) 63 = 36
      · have H := ite_T H hc36
        refine R_tsIn (c0 := 36) (tgt := 1305) (dL_law_0 21 rfl) hc36 (by decide) (by decide) rfl (by decide) ?_
        refine R_aload_n (i := 1) (dL_law_14 37 rfl) rfl rfl ?_
        obtain ⟨r715, M716, hr, H⟩ := ob_E H
        refine R_cV (st' := [.inl r715]) [] [] (t_X9_laws l g ad S _ (q_ag_sub hS (Nat.le_of_ble_eq_true rfl) (Nat.le_of_ble_eq_true rfl))   hr) msX9_laws (Or.inl tb_1005) (Or.inl ⟨0, 9, _, _, _, (cl0 hS), rfl⟩) ⟨Nat.le_of_ble_eq_true rfl, Nat.le_of_ble_eq_true rfl⟩ (Nat.le_of_ble_eq_true rfl) (Nat.le_of_ble_eq_true rfl) rfl rfl (Nat.le_of_ble_eq_true rfl) rfl (dL_law_14 38 rfl) ?_
        refine R_aload_n (i := 2) (dL_law_14 39 rfl) rfl rfl ?_
        obtain ⟨r717, M718, hr, H⟩ := ob_E H
        refine R_cV (st' := [.inl r717, .inl r715]) [] [.inl r715] (t_X10_laws l g ad S _ (q_ag_sub hS (Nat.le_of_ble_eq_true rfl) (Nat.le_of_ble_eq_true rfl))   hr) msX10_laws (Or.inl tb_1525) (Or.inl ⟨38, 10, _, _, _, (cl38 hS), rfl⟩) ⟨Nat.le_of_ble_eq_true rfl, Nat.le_of_ble_eq_true rfl⟩ (Nat.le_of_ble_eq_true rfl) (Nat.le_of_ble_eq_true rfl) rfl rfl (Nat.le_of_ble_eq_true rfl) rfl (dL_law_14 40 rfl) ?_
        refine R_icmp_eq (tgt := 1676) (dL_law_14 41 rfl) (by decide) (fun hc => ?_) (fun hc => ?_)
        · have H := ite_T H hc
          refine R_iinc (i := 3) (ls' := [some (.inr (.inr (some (g.2.2.2.1 0)))), some (.inr (.inr (some (ad 0)))), some (.inr (.inr (some (ad 38)))), some (.inl (w32 (x3 + 7)))]) (dL_law_19 48 rfl) rfl (Nat.le_of_ble_eq_true rfl) rfl rfl ?_
          refine R_goto (tgt := 18) (dL_law_19 49 rfl) (by decide) ?_
          exact ih (w32 (x3 + 7)) M718 H
        · have H := ite_F H hc
          refine R_iconst (dL_law_14 42 rfl) rfl ?_
          exact R_iret rfl (by decide +kernel) (Nat.le_of_ble_eq_true rfl) (Nat.le_of_ble_eq_true rfl) (dL_law_14 43 rfl) (by obtain ⟨e1, e2⟩ := Prod.mk.inj (Option.some.inj H); subst e1; subst e2; exact hP)
      have H := ite_F H hc36
      by_cases hc37 : b_and (q_ff g 0 (x3).toNat) 63 = 37
      · have H := ite_T H hc37
        refine R_tsIn (c0 := 37) (tgt := 1318) (dL_law_0 21 rfl) hc37 (by decide) (by decide) rfl (by decide) ?_
        refine R_aload_n (i := 1) (dL_law_14 44 rfl) rfl rfl ?_
        refine R_aload_n (i := 0) (dL_law_14 45 rfl) rfl rfl ?_
        refine R_iload_n (i := 3) (dL_law_14 46 rfl) rfl rfl ?_
        refine R_iconst (dL_law_14 47 rfl) rfl ?_
        refine R_iadd (dL_law_14 48 rfl) ?_
        obtain ⟨hg, H⟩ := ite_G H
        refine R_ialdF 0 (by decide) hg (dL_law_14 49 rfl) ?_
        refine R_aload_n (i := 0) (dL_law_14 50 rfl) rfl rfl ?_
        refine R_iload_n (i := 3) (dL_law_14 51 rfl) rfl rfl ?_
        refine R_iconst (dL_law_14 52 rfl) rfl ?_
        refine R_iadd (dL_law_14 53 rfl) ?_
        obtain ⟨hg, H⟩ := ite_G H
        refine R_ialdF 0 (by decide) hg (dL_law_14 54 rfl) ?_
        obtain ⟨r719, M720, hr, H⟩ := ob_E H
        refine R_cV (st' := [.inl r719]) [.inl (q_ff g 0 (w32 (x3 + 1)).toNat), .inl (q_ff g 0 (w32 (x3 + 2)).toNat)] [] (t_X9_drawn l g ad S _ (q_ag_sub hS (Nat.le_of_ble_eq_true rfl) (Nat.le_of_ble_eq_true rfl))   (q_ff g 0 (w32 (x3 + 1)).toNat) (q_ff g 0 (w32 (x3 + 2)).toNat) hr) msX9_drawn (Or.inl tb_1013) (Or.inl ⟨0, 9, _, _, _, (cl0 hS), rfl⟩) ⟨Nat.le_of_ble_eq_true rfl, Nat.le_of_ble_eq_true rfl⟩ (Nat.le_of_ble_eq_true rfl) (Nat.le_of_ble_eq_true rfl) rfl rfl (Nat.le_of_ble_eq_true rfl) rfl (dL_law_14 55 rfl) ?_
        refine R_aload_n (i := 2) (dL_law_14 56 rfl) rfl rfl ?_
        refine R_aload_n (i := 0) (dL_law_14 57 rfl) rfl rfl ?_
        refine R_iload_n (i := 3) (dL_law_14 58 rfl) rfl rfl ?_
        refine R_iconst (dL_law_14 59 rfl) rfl ?_
        refine R_iadd (dL_law_15 0 rfl) ?_
        obtain ⟨hg, H⟩ := ite_G H
        refine R_ialdF 0 (by decide) hg (dL_law_15 1 rfl) ?_
        refine R_aload_n (i := 0) (dL_law_15 2 rfl) rfl rfl ?_
        refine R_iload_n (i := 3) (dL_law_15 3 rfl) rfl rfl ?_
        refine R_iconst (dL_law_15 4 rfl) rfl ?_
        refine R_iadd (dL_law_15 5 rfl) ?_
        obtain ⟨hg, H⟩ := ite_G H
        refine R_ialdF 0 (by decide) hg (dL_law_15 6 rfl) ?_
        obtain ⟨r721, M722, hr, H⟩ := ob_E H
        refine R_cV (st' := [.inl r721, .inl r719]) [.inl (q_ff g 0 (w32 (x3 + 1)).toNat), .inl (q_ff g 0 (w32 (x3 + 2)).toNat)] [.inl r719] (t_X10_drawn l g ad S _ (q_ag_sub hS (Nat.le_of_ble_eq_true rfl) (Nat.le_of_ble_eq_true rfl))   (q_ff g 0 (w32 (x3 + 1)).toNat) (q_ff g 0 (w32 (x3 + 2)).toNat) hr) msX10_drawn (Or.inl tb_1529) (Or.inl ⟨38, 10, _, _, _, (cl38 hS), rfl⟩) ⟨Nat.le_of_ble_eq_true rfl, Nat.le_of_ble_eq_true rfl⟩ (Nat.le_of_ble_eq_true rfl) (Nat.le_of_ble_eq_true rfl) rfl rfl (Nat.le_of_ble_eq_true rfl) rfl (dL_law_15 7 rfl) ?_
        refine R_icmp_eq (tgt := 1676) (dL_law_15 8 rfl) (by decide) (fun hc => ?_) (fun hc => ?_)
        · have H := ite_T H hc
          refine R_iinc (i := 3) (ls' := [some (.inr (.inr (some (g.2.2.2.1 0)))), some (.inr (.inr (some (ad 0)))), some (.inr (.inr (some (ad 38)))), some (.inl (w32 (x3 + 7)))]) (dL_law_19 48 rfl) rfl (Nat.le_of_ble_eq_true rfl) rfl rfl ?_
          refine R_goto (tgt := 18) (dL_law_19 49 rfl) (by decide) ?_
          exact ih (w32 (x3 + 7)) M722 H
        · have H := ite_F H hc
          refine R_iconst (dL_law_15 9 rfl) rfl ?_
          exact R_iret rfl (by decide +kernel) (Nat.le_of_ble_eq_true rfl) (Nat.le_of_ble_eq_true rfl) (dL_law_15 10 rfl) (by obtain ⟨e1, e2⟩ := Prod.mk.inj (Option.some.inj H); subst e1; subst e2; exact hP)
      have H := ite_F H hc37
      by_cases hc38 : b_and (q_ff g 0 (x3).toNat) 63 = 38
      · have H := ite_T H hc38
        refine R_tsIn (c0 := 38) (tgt := 1351) (dL_law_0 21 rfl) hc38 (by decide) (by decide) rfl (by decide) ?_
        refine R_aload_n (i := 1) (dL_law_15 11 rfl) rfl rfl ?_
        refine R_aload_n (i := 0) (dL_law_15 12 rfl) rfl rfl ?_
        refine R_iload_n (i := 3) (dL_law_15 13 rfl) rfl rfl ?_
        refine R_iconst (dL_law_15 14 rfl) rfl ?_
        refine R_iadd (dL_law_15 15 rfl) ?_
        obtain ⟨hg, H⟩ := ite_G H
        refine R_ialdF 0 (by decide) hg (dL_law_15 16 rfl) ?_
        refine R_aload_n (i := 0) (dL_law_15 17 rfl) rfl rfl ?_
        refine R_iload_n (i := 3) (dL_law_15 18 rfl) rfl rfl ?_
        refine R_iconst (dL_law_15 19 rfl) rfl ?_
        refine R_iadd (dL_law_15 20 rfl) ?_
        obtain ⟨hg, H⟩ := ite_G H
        refine R_ialdF 0 (by decide) hg (dL_law_15 21 rfl) ?_
        refine R_aload_n (i := 0) (dL_law_15 22 rfl) rfl rfl ?_
        refine R_iload_n (i := 3) (dL_law_15 23 rfl) rfl rfl ?_
        refine R_iconst (dL_law_15 24 rfl) rfl ?_
        refine R_iadd (dL_law_15 25 rfl) ?_
        obtain ⟨hg, H⟩ := ite_G H
        refine R_ialdF 0 (by decide) hg (dL_law_15 26 rfl) ?_
        refine R_aload_n (i := 0) (dL_law_15 27 rfl) rfl rfl ?_
        refine R_iload_n (i := 3) (dL_law_15 28 rfl) rfl rfl ?_
        refine R_iconst (dL_law_15 29 rfl) rfl ?_
        refine R_iadd (dL_law_15 30 rfl) ?_
        obtain ⟨hg, H⟩ := ite_G H
        refine R_ialdF 0 (by decide) hg (dL_law_15 31 rfl) ?_
        refine R_aload_n (i := 0) (dL_law_15 32 rfl) rfl rfl ?_
        refine R_iload_n (i := 3) (dL_law_15 33 rfl) rfl rfl ?_
        refine R_iconst (dL_law_15 34 rfl) rfl ?_
        refine R_iadd (dL_law_15 35 rfl) ?_
        obtain ⟨hg, H⟩ := ite_G H
        refine R_ialdF 0 (by decide) hg (dL_law_15 36 rfl) ?_
        obtain ⟨r723, M724, hr, H⟩ := ob_E H
        refine R_cV (st' := [.inr (.inl r723)]) [.inl (q_ff g 0 (w32 (x3 + 1)).toNat), .inl (q_ff g 0 (w32 (x3 + 2)).toNat), .inl (q_ff g 0 (w32 (x3 + 3)).toNat), .inl (q_ff g 0 (w32 (x3 + 4)).toNat), .inl (q_ff g 0 (w32 (x3 + 5)).toNat)] [] (t_X9_chance l g ad S _ (q_ag_sub hS (Nat.le_of_ble_eq_true rfl) (Nat.le_of_ble_eq_true rfl))   (q_ff g 0 (w32 (x3 + 1)).toNat) (q_ff g 0 (w32 (x3 + 2)).toNat) (q_ff g 0 (w32 (x3 + 3)).toNat) (q_ff g 0 (w32 (x3 + 4)).toNat) (q_ff g 0 (w32 (x3 + 5)).toNat) hr) msX9_chance (Or.inl tb_1024) (Or.inl ⟨0, 9, _, _, _, (cl0 hS), rfl⟩) ⟨Nat.le_of_ble_eq_true rfl, Nat.le_of_ble_eq_true rfl⟩ (Nat.le_of_ble_eq_true rfl) (Nat.le_of_ble_eq_true rfl) rfl rfl (Nat.le_of_ble_eq_true rfl) rfl (dL_law_15 37 rfl) ?_
        refine R_aload_n (i := 2) (dL_law_15 38 rfl) rfl rfl ?_
        refine R_aload_n (i := 0) (dL_law_15 39 rfl) rfl rfl ?_
        refine R_iload_n (i := 3) (dL_law_15 40 rfl) rfl rfl ?_
        refine R_iconst (dL_law_15 41 rfl) rfl ?_
        refine R_iadd (dL_law_15 42 rfl) ?_
        obtain ⟨hg, H⟩ := ite_G H
        refine R_ialdF 0 (by decide) hg (dL_law_15 43 rfl) ?_
        refine R_aload_n (i := 0) (dL_law_15 44 rfl) rfl rfl ?_
        refine R_iload_n (i := 3) (dL_law_15 45 rfl) rfl rfl ?_
        refine R_iconst (dL_law_15 46 rfl) rfl ?_
        refine R_iadd (dL_law_15 47 rfl) ?_
        obtain ⟨hg, H⟩ := ite_G H
        refine R_ialdF 0 (by decide) hg (dL_law_15 48 rfl) ?_
        refine R_aload_n (i := 0) (dL_law_15 49 rfl) rfl rfl ?_
        refine R_iload_n (i := 3) (dL_law_15 50 rfl) rfl rfl ?_
        refine R_iconst (dL_law_15 51 rfl) rfl ?_
        refine R_iadd (dL_law_15 52 rfl) ?_
        obtain ⟨hg, H⟩ := ite_G H
        refine R_ialdF 0 (by decide) hg (dL_law_15 53 rfl) ?_
        refine R_aload_n (i := 0) (dL_law_15 54 rfl) rfl rfl ?_
        refine R_iload_n (i := 3) (dL_law_15 55 rfl) rfl rfl ?_
        refine R_iconst (dL_law_15 56 rfl) rfl ?_
        refine R_iadd (dL_law_15 57 rfl) ?_
        obtain ⟨hg, H⟩ := ite_G H
        refine R_ialdF 0 (by decide) hg (dL_law_15 58 rfl) ?_
        refine R_aload_n (i := 0) (dL_law_15 59 rfl) rfl rfl ?_
        refine R_iload_n (i := 3) (dL_law_16 0 rfl) rfl rfl ?_
        refine R_iconst (dL_law_16 1 rfl) rfl ?_
        refine R_iadd (dL_law_16 2 rfl) ?_
        obtain ⟨hg, H⟩ := ite_G H
        refine R_ialdF 0 (by decide) hg (dL_law_16 3 rfl) ?_
        obtain ⟨r725, M726, hr, H⟩ := ob_E H
        refine R_cV (st' := [.inr (.inl r725), .inr (.inl r723)]) [.inl (q_ff g 0 (w32 (x3 + 1)).toNat), .inl (q_ff g 0 (w32 (x3 + 2)).toNat), .inl (q_ff g 0 (w32 (x3 + 3)).toNat), .inl (q_ff g 0 (w32 (x3 + 4)).toNat), .inl (q_ff g 0 (w32 (x3 + 5)).toNat)] [.inr (.inl r723)] (t_X10_chance l g ad S _ (q_ag_sub hS (Nat.le_of_ble_eq_true rfl) (Nat.le_of_ble_eq_true rfl))   (q_ff g 0 (w32 (x3 + 1)).toNat) (q_ff g 0 (w32 (x3 + 2)).toNat) (q_ff g 0 (w32 (x3 + 3)).toNat) (q_ff g 0 (w32 (x3 + 4)).toNat) (q_ff g 0 (w32 (x3 + 5)).toNat) hr) msX10_chance (Or.inl tb_1540) (Or.inl ⟨38, 10, _, _, _, (cl38 hS), rfl⟩) ⟨Nat.le_of_ble_eq_true rfl, Nat.le_of_ble_eq_true rfl⟩ (Nat.le_of_ble_eq_true rfl) (Nat.le_of_ble_eq_true rfl) rfl rfl (Nat.le_of_ble_eq_true rfl) rfl (dL_law_16 4 rfl) ?_
        refine R_lcmp (dL_law_16 5 rfl) ?_
        refine R_if_eq (tgt := 1676) (dL_law_16 6 rfl) (by decide) (fun hc => ?_) (fun hc => ?_)
        · have H := ite_T H hc
          refine R_iinc (i := 3) (ls' := [some (.inr (.inr (some (g.2.2.2.1 0)))), some (.inr (.inr (some (ad 0)))), some (.inr (.inr (some (ad 38)))), some (.inl (w32 (x3 + 7)))]) (dL_law_19 48 rfl) rfl (Nat.le_of_ble_eq_true rfl) rfl rfl ?_
          refine R_goto (tgt := 18) (dL_law_19 49 rfl) (by decide) ?_
          exact ih (w32 (x3 + 7)) M726 H
        · have H := ite_F H hc
          refine R_iconst (dL_law_16 7 rfl) rfl ?_
          exact R_iret rfl (by decide +kernel) (Nat.le_of_ble_eq_true rfl) (Nat.le_of_ble_eq_true rfl) (dL_law_16 8 rfl) (by obtain ⟨e1, e2⟩ := Prod.mk.inj (Option.some.inj H); subst e1; subst e2; exact hP)
      have H := ite_F H hc38
      by_cases hc39 : b_and (q_ff g 0 (x3).toNat) 63 = 39
      · have H := ite_T H hc39
        refine R_tsIn (c0 := 39) (tgt := 1415) (dL_law_0 21 rfl) hc39 (by decide) (by decide) rfl (by decide) ?_
        refine R_aload_n (i := 1) (dL_law_16 9 rfl) rfl rfl ?_
        obtain ⟨r727, M728, hr, H⟩ := ob_E H
        refine R_cV (st' := [.inl r727]) [] [] (t_X9_image l g ad S _ (q_ag_sub hS (Nat.le_of_ble_eq_true rfl) (Nat.le_of_ble_eq_true rfl))   hr) msX9_image (Or.inl tb_1028) (Or.inl ⟨0, 9, _, _, _, (cl0 hS), rfl⟩) ⟨Nat.le_of_ble_eq_true rfl, Nat.le_of_ble_eq_true rfl⟩ (Nat.le_of_ble_eq_true rfl) (Nat.le_of_ble_eq_true rfl) rfl rfl (Nat.le_of_ble_eq_true rfl) rfl (dL_law_16 10 rfl) ?_
        refine R_aload_n (i := 2) (dL_law_16 11 rfl) rfl rfl ?_
        obtain ⟨r729, M730, hr, H⟩ := ob_E H
        refine R_cV (st' := [.inl r729, .inl r727]) [] [.inl r727] (t_X10_image l g ad S _ (q_ag_sub hS (Nat.le_of_ble_eq_true rfl) (Nat.le_of_ble_eq_true rfl))   hr) msX10_image (Or.inl tb_1544) (Or.inl ⟨38, 10, _, _, _, (cl38 hS), rfl⟩) ⟨Nat.le_of_ble_eq_true rfl, Nat.le_of_ble_eq_true rfl⟩ (Nat.le_of_ble_eq_true rfl) (Nat.le_of_ble_eq_true rfl) rfl rfl (Nat.le_of_ble_eq_true rfl) rfl (dL_law_16 12 rfl) ?_
        refine R_icmp_eq (tgt := 1676) (dL_law_16 13 rfl) (by decide) (fun hc => ?_) (fun hc => ?_)
        · have H := ite_T H hc
          refine R_iinc (i := 3) (ls' := [some (.inr (.inr (some (g.2.2.2.1 0)))), some (.inr (.inr (some (ad 0)))), some (.inr (.inr (some (ad 38)))), some (.inl (w32 (x3 + 7)))]) (dL_law_19 48 rfl) rfl (Nat.le_of_ble_eq_true rfl) rfl rfl ?_
          refine R_goto (tgt := 18) (dL_law_19 49 rfl) (by decide) ?_
          exact ih (w32 (x3 + 7)) M730 H
        · have H := ite_F H hc
          refine R_iconst (dL_law_16 14 rfl) rfl ?_
          exact R_iret rfl (by decide +kernel) (Nat.le_of_ble_eq_true rfl) (Nat.le_of_ble_eq_true rfl) (dL_law_16 15 rfl) (by obtain ⟨e1, e2⟩ := Prod.mk.inj (Option.some.inj H); subst e1; subst e2; exact hP)
      have H := ite_F H hc39
      by_cases hc40 : b_and (q_ff g 0 (x3).toNat) 63 = 40
      · have H := ite_T H hc40
        refine R_tsIn (c0 := 40) (tgt := 1428) (dL_law_0 21 rfl) hc40 (by decide) (by decide) rfl (by decide) ?_
        refine R_aload_n (i := 1) (dL_law_16 16 rfl) rfl rfl ?_
        obtain ⟨r731, M732, hr, H⟩ := ob_E H
        refine R_cV (st' := [.inl r731]) [] [] (t_X9_back l g ad S _ (q_ag_sub hS (Nat.le_of_ble_eq_true rfl) (Nat.le_of_ble_eq_true rfl))   hr) msX9_back (Or.inl tb_1033) (Or.inl ⟨0, 9, _, _, _, (cl0 hS), rfl⟩) ⟨Nat.le_of_ble_eq_true rfl, Nat.le_of_ble_eq_true rfl⟩ (Nat.le_of_ble_eq_true rfl) (Nat.le_of_ble_eq_true rfl) rfl rfl (Nat.le_of_ble_eq_true rfl) rfl (dL_law_16 17 rfl) ?_
        refine R_aload_n (i := 2) (dL_law_16 18 rfl) rfl rfl ?_
        obtain ⟨r733, M734, hr, H⟩ := ob_E H
        refine R_cV (st' := [.inl r733, .inl r731]) [] [.inl r731] (t_X10_back l g ad S _ (q_ag_sub hS (Nat.le_of_ble_eq_true rfl) (Nat.le_of_ble_eq_true rfl))   hr) msX10_back (Or.inl tb_1548) (Or.inl ⟨38, 10, _, _, _, (cl38 hS), rfl⟩) ⟨Nat.le_of_ble_eq_true rfl, Nat.le_of_ble_eq_true rfl⟩ (Nat.le_of_ble_eq_true rfl) (Nat.le_of_ble_eq_true rfl) rfl rfl (Nat.le_of_ble_eq_true rfl) rfl (dL_law_16 19 rfl) ?_
        refine R_icmp_eq (tgt := 1676) (dL_law_16 20 rfl) (by decide) (fun hc => ?_) (fun hc => ?_)
        · have H := ite_T H hc
          refine R_iinc (i := 3) (ls' := [some (.inr (.inr (some (g.2.2.2.1 0)))), some (.inr (.inr (some (ad 0)))), some (.inr (.inr (some (ad 38)))), some (.inl (w32 (x3 + 7)))]) (dL_law_19 48 rfl) rfl (Nat.le_of_ble_eq_true rfl) rfl rfl ?_
          refine R_goto (tgt := 18) (dL_law_19 49 rfl) (by decide) ?_
          exact ih (w32 (x3 + 7)) M734 H
        · have H := ite_F H hc
          refine R_iconst (dL_law_16 21 rfl) rfl ?_
          exact R_iret rfl (by decide +kernel) (Nat.le_of_ble_eq_true rfl) (Nat.le_of_ble_eq_true rfl) (dL_law_16 22 rfl) (by obtain ⟨e1, e2⟩ := Prod.mk.inj (Option.some.inj H); subst e1; subst e2; exact hP)
      have H := ite_F H hc40
      by_cases hc41 : b_and (q_ff g 0 (x3).toNat) 63 = 41
      · have H := ite_T H hc41
        refine R_tsIn (c0 := 41) (tgt := 1441) (dL_law_0 21 rfl) hc41 (by decide) (by decide) rfl (by decide) ?_
        refine R_aload_n (i := 1) (dL_law_16 23 rfl) rfl rfl ?_
        refine R_aload_n (i := 0) (dL_law_16 24 rfl) rfl rfl ?_
        refine R_iload_n (i := 3) (dL_law_16 25 rfl) rfl rfl ?_
        refine R_iconst (dL_law_16 26 rfl) rfl ?_
        refine R_iadd (dL_law_16 27 rfl) ?_
        obtain ⟨hg, H⟩ := ite_G H
        refine R_ialdF 0 (by decide) hg (dL_law_16 28 rfl) ?_
        refine R_aload_n (i := 0) (dL_law_16 29 rfl) rfl rfl ?_
        refine R_iload_n (i := 3) (dL_law_16 30 rfl) rfl rfl ?_
        refine R_iconst (dL_law_16 31 rfl) rfl ?_
        refine R_iadd (dL_law_16 32 rfl) ?_
        obtain ⟨hg, H⟩ := ite_G H
        refine R_ialdF 0 (by decide) hg (dL_law_16 33 rfl) ?_
        refine R_aload_n (i := 0) (dL_law_16 34 rfl) rfl rfl ?_
        refine R_iload_n (i := 3) (dL_law_16 35 rfl) rfl rfl ?_
        refine R_iconst (dL_law_16 36 rfl) rfl ?_
        refine R_iadd (dL_law_16 37 rfl) ?_
        obtain ⟨hg, H⟩ := ite_G H
        refine R_ialdF 0 (by decide) hg (dL_law_16 38 rfl) ?_
        obtain ⟨r735, M736, hr, H⟩ := ob_E H
        refine R_cV (st' := [.inl r735]) [.inl (q_ff g 0 (w32 (x3 + 1)).toNat), .inl (q_ff g 0 (w32 (x3 + 2)).toNat), .inl (q_ff g 0 (w32 (x3 + 3)).toNat)] [] (t_X9_sheet l g ad S _ (q_ag_sub hS (Nat.le_of_ble_eq_true rfl) (Nat.le_of_ble_eq_true rfl))   (q_ff g 0 (w32 (x3 + 1)).toNat) (q_ff g 0 (w32 (x3 + 2)).toNat) (q_ff g 0 (w32 (x3 + 3)).toNat) hr) msX9_sheet (Or.inl tb_1037) (Or.inl ⟨0, 9, _, _, _, (cl0 hS), rfl⟩) ⟨Nat.le_of_ble_eq_true rfl, Nat.le_of_ble_eq_true rfl⟩ (Nat.le_of_ble_eq_true rfl) (Nat.le_of_ble_eq_true rfl) rfl rfl (Nat.le_of_ble_eq_true rfl) rfl (dL_law_16 39 rfl) ?_
        refine R_aload_n (i := 2) (dL_law_16 40 rfl) rfl rfl ?_
        refine R_aload_n (i := 0) (dL_law_16 41 rfl) rfl rfl ?_
        refine R_iload_n (i := 3) (dL_law_16 42 rfl) rfl rfl ?_
        refine R_iconst (dL_law_16 43 rfl) rfl ?_
        refine R_iadd (dL_law_16 44 rfl) ?_
        obtain ⟨hg, H⟩ := ite_G H
        refine R_ialdF 0 (by decide) hg (dL_law_16 45 rfl) ?_
        refine R_aload_n (i := 0) (dL_law_16 46 rfl) rfl rfl ?_
        refine R_iload_n (i := 3) (dL_law_16 47 rfl) rfl rfl ?_
        refine R_iconst (dL_law_16 48 rfl) rfl ?_
        refine R_iadd (dL_law_16 49 rfl) ?_
        obtain ⟨hg, H⟩ := ite_G H
        refine R_ialdF 0 (by decide) hg (dL_law_16 50 rfl) ?_
        refine R_aload_n (i := 0) (dL_law_16 51 rfl) rfl rfl ?_
        refine R_iload_n (i := 3) (dL_law_16 52 rfl) rfl rfl ?_
        refine R_iconst (dL_law_16 53 rfl) rfl ?_
        refine R_iadd (dL_law_16 54 rfl) ?_
        obtain ⟨hg, H⟩ := ite_G H
        refine R_ialdF 0 (by decide) hg (dL_law_16 55 rfl) ?_
        obtain ⟨r737, M738, hr, H⟩ := ob_E H
        refine R_cV (st' := [.inl r737, .inl r735]) [.inl (q_ff g 0 (w32 (x3 + 1)).toNat), .inl (q_ff g 0 (w32 (x3 + 2)).toNat), .inl (q_ff g 0 (w32 (x3 + 3)).toNat)] [.inl r735] (t_X10_sheet l g ad S _ (q_ag_sub hS (Nat.le_of_ble_eq_true rfl) (Nat.le_of_ble_eq_true rfl))   (q_ff g 0 (w32 (x3 + 1)).toNat) (q_ff g 0 (w32 (x3 + 2)).toNat) (q_ff g 0 (w32 (x3 + 3)).toNat) hr) msX10_sheet (Or.inl tb_1552) (Or.inl ⟨38, 10, _, _, _, (cl38 hS), rfl⟩) ⟨Nat.le_of_ble_eq_true rfl, Nat.le_of_ble_eq_true rfl⟩ (Nat.le_of_ble_eq_true rfl) (Nat.le_of_ble_eq_true rfl) rfl rfl (Nat.le_of_ble_eq_true rfl) rfl (dL_law_16 56 rfl) ?_
        refine R_icmp_eq (tgt := 1676) (dL_law_16 57 rfl) (by decide) (fun hc => ?_) (fun hc => ?_)
        · have H := ite_T H hc
          refine R_iinc (i := 3) (ls' := [some (.inr (.inr (some (g.2.2.2.1 0)))), some (.inr (.inr (some (ad 0)))), some (.inr (.inr (some (ad 38)))), some (.inl (w32 (x3 + 7)))]) (dL_law_19 48 rfl) rfl (Nat.le_of_ble_eq_true rfl) rfl rfl ?_
          refine R_goto (tgt := 18) (dL_law_19 49 rfl) (by decide) ?_
          exact ih (w32 (x3 + 7)) M738 H
        · have H := ite_F H hc
          refine R_iconst (dL_law_16 58 rfl) rfl ?_
          exact R_iret rfl (by decide +kernel) (Nat.le_of_ble_eq_true rfl) (Nat.le_of_ble_eq_true rfl) (dL_law_16 59 rfl) (by obtain ⟨e1, e2⟩ := Prod.mk.inj (Option.some.inj H); subst e1; subst e2; exact hP)
      have H := ite_F H hc41
      by_cases hc42 : b_and (q_ff g 0 (x3).toNat) 63 = 42
      · have H := ite_T H hc42
        refine R_tsIn (c0 := 42) (tgt := 1484) (dL_law_0 21 rfl) hc42 (by decide) (by decide) rfl (by decide) ?_
        refine R_aload_n (i := 1) (dL_law_17 0 rfl) rfl rfl ?_
        refine R_aload_n (i := 0) (dL_law_17 1 rfl) rfl rfl ?_
        refine R_iload_n (i := 3) (dL_law_17 2 rfl) rfl rfl ?_
        refine R_iconst (dL_law_17 3 rfl) rfl ?_
        refine R_iadd (dL_law_17 4 rfl) ?_
        obtain ⟨hg, H⟩ := ite_G H
        refine R_ialdF 0 (by decide) hg (dL_law_17 5 rfl) ?_
        refine R_aload_n (i := 0) (dL_law_17 6 rfl) rfl rfl ?_
        refine R_iload_n (i := 3) (dL_law_17 7 rfl) rfl rfl ?_
        refine R_iconst (dL_law_17 8 rfl) rfl ?_
        refine R_iadd (dL_law_17 9 rfl) ?_
        obtain ⟨hg, H⟩ := ite_G H
        refine R_ialdF 0 (by decide) hg (dL_law_17 10 rfl) ?_
        refine R_aload_n (i := 0) (dL_law_17 11 rfl) rfl rfl ?_
        refine R_iload_n (i := 3) (dL_law_17 12 rfl) rfl rfl ?_
        refine R_iconst (dL_law_17 13 rfl) rfl ?_
        refine R_iadd (dL_law_17 14 rfl) ?_
        obtain ⟨hg, H⟩ := ite_G H
        refine R_ialdF 0 (by decide) hg (dL_law_17 15 rfl) ?_
        obtain ⟨r739, M740, hr, H⟩ := ob_E H
        refine R_cV (st' := [.inl r739]) [.inl (q_ff g 0 (w32 (x3 + 1)).toNat), .inl (q_ff g 0 (w32 (x3 + 2)).toNat), .inl (q_ff g 0 (w32 (x3 + 3)).toNat)] [] (t_X9_cell l g ad S _ (q_ag_sub hS (Nat.le_of_ble_eq_true rfl) (Nat.le_of_ble_eq_true rfl))   (q_ff g 0 (w32 (x3 + 1)).toNat) (q_ff g 0 (w32 (x3 + 2)).toNat) (q_ff g 0 (w32 (x3 + 3)).toNat) hr) msX9_cell (Or.inl tb_1041) (Or.inl ⟨0, 9, _, _, _, (cl0 hS), rfl⟩) ⟨Nat.le_of_ble_eq_true rfl, Nat.le_of_ble_eq_true rfl⟩ (Nat.le_of_ble_eq_true rfl) (Nat.le_of_ble_eq_true rfl) rfl rfl (Nat.le_of_ble_eq_true rfl) rfl (dL_law_17 16 rfl) ?_
        refine R_aload_n (i := 2) (dL_law_17 17 rfl) rfl rfl ?_
        refine R_aload_n (i := 0) (dL_law_17 18 rfl) rfl rfl ?_
        refine R_iload_n (i := 3) (dL_law_17 19 rfl) rfl rfl ?_
        refine R_iconst (dL_law_17 20 rfl) rfl ?_
        refine R_iadd (dL_law_17 21 rfl) ?_
        obtain ⟨hg, H⟩ := ite_G H
        refine R_ialdF 0 (by decide) hg (dL_law_17 22 rfl) ?_
        refine R_aload_n (i := 0) (dL_law_17 23 rfl) rfl rfl ?_
        refine R_iload_n (i := 3) (dL_law_17 24 rfl) rfl rfl ?_
        refine R_iconst (dL_law_17 25 rfl) rfl ?_
        refine R_iadd (dL_law_17 26 rfl) ?_
        obtain ⟨hg, H⟩ := ite_G H
        refine R_ialdF 0 (by decide) hg (dL_law_17 27 rfl) ?_
        refine R_aload_n (i := 0) (dL_law_17 28 rfl) rfl rfl ?_
        refine R_iload_n (i := 3) (dL_law_17 29 rfl) rfl rfl ?_
        refine R_iconst (dL_law_17 30 rfl) rfl ?_
        refine R_iadd (dL_law_17 31 rfl) ?_
        obtain ⟨hg, H⟩ := ite_G H
        refine R_ialdF 0 (by decide) hg (dL_law_17 32 rfl) ?_
        obtain ⟨r741, M742, hr, H⟩ := ob_E H
        refine R_cV (st' := [.inl r741, .inl r739]) [.inl (q_ff g 0 (w32 (x3 + 1)).toNat), .inl (q_ff g 0 (w32 (x3 + 2)).toNat), .inl (q_ff g 0 (w32 (x3 + 3)).toNat)] [.inl r739] (t_X10_cell l g ad S _ (q_ag_sub hS (Nat.le_of_ble_eq_true rfl) (Nat.le_of_ble_eq_true rfl))   (q_ff g 0 (w32 (x3 + 1)).toNat) (q_ff g 0 (w32 (x3 + 2)).toNat) (q_ff g 0 (w32 (x3 + 3)).toNat) hr) msX10_cell (Or.inl tb_1556) (Or.inl ⟨38, 10, _, _, _, (cl38 hS), rfl⟩) ⟨Nat.le_of_ble_eq_true rfl, Nat.le_of_ble_eq_true rfl⟩ (Nat.le_of_ble_eq_true rfl) (Nat.le_of_ble_eq_true rfl) rfl rfl (Nat.le_of_ble_eq_true rfl) rfl (dL_law_17 33 rfl) ?_
        refine R_icmp_eq (tgt := 1676) (dL_law_17 34 rfl) (by decide) (fun hc => ?_) (fun hc => ?_)
        · have H := ite_T H hc
          refine R_iinc (i := 3) (ls' := [some (.inr (.inr (some (g.2.2.2.1 0)))), some (.inr (.inr (some (ad 0)))), some (.inr (.inr (some (ad 38)))), some (.inl (w32 (x3 + 7)))]) (dL_law_19 48 rfl) rfl (Nat.le_of_ble_eq_true rfl) rfl rfl ?_
          refine R_goto (tgt := 18) (dL_law_19 49 rfl) (by decide) ?_
          exact ih (w32 (x3 + 7)) M742 H
        · have H := ite_F H hc
          refine R_iconst (dL_law_17 35 rfl) rfl ?_
          exact R_iret rfl (by decide +kernel) (Nat.le_of_ble_eq_true rfl) (Nat.le_of_ble_eq_true rfl) (dL_law_17 36 rfl) (by obtain ⟨e1, e2⟩ := Prod.mk.inj (Option.some.inj H); subst e1; subst e2; exact hP)
      have H := ite_F H hc42
      by_cases hc43 : b_and (q_ff g 0 (x3).toNat) 63 = 43
      · have H := ite_T H hc43
        refine R_tsIn (c0 := 43) (tgt := 1527) (dL_law_0 21 rfl) hc43 (by decide) (by decide) rfl (by decide) ?_
        refine R_aload_n (i := 1) (dL_law_17 37 rfl) rfl rfl ?_
        refine R_aload_n (i := 0) (dL_law_17 38 rfl) rfl rfl ?_
        refine R_iload_n (i := 3) (dL_law_17 39 rfl) rfl rfl ?_
        refine R_iconst (dL_law_17 40 rfl) rfl ?_
        refine R_iadd (dL_law_17 41 rfl) ?_
        obtain ⟨hg, H⟩ := ite_G H
        refine R_ialdF 0 (by decide) hg (dL_law_17 42 rfl) ?_
        refine R_aload_n (i := 0) (dL_law_17 43 rfl) rfl rfl ?_
        refine R_iload_n (i := 3) (dL_law_17 44 rfl) rfl rfl ?_
        refine R_iconst (dL_law_17 45 rfl) rfl ?_
        refine R_iadd (dL_law_17 46 rfl) ?_
        obtain ⟨hg, H⟩ := ite_G H
        refine R_ialdF 0 (by decide) hg (dL_law_17 47 rfl) ?_
        refine R_aload_n (i := 0) (dL_law_17 48 rfl) rfl rfl ?_
        refine R_iload_n (i := 3) (dL_law_17 49 rfl) rfl rfl ?_
        refine R_iconst (dL_law_17 50 rfl) rfl ?_
        refine R_iadd (dL_law_17 51 rfl) ?_
        obtain ⟨hg, H⟩ := ite_G H
        refine R_ialdF 0 (by decide) hg (dL_law_17 52 rfl) ?_
        refine R_aload_n (i := 0) (dL_law_17 53 rfl) rfl rfl ?_
        refine R_iload_n (i := 3) (dL_law_17 54 rfl) rfl rfl ?_
        refine R_iconst (dL_law_17 55 rfl) rfl ?_
        refine R_iadd (dL_law_17 56 rfl) ?_
        obtain ⟨hg, H⟩ := ite_G H
        refine R_ialdF 0 (by decide) hg (dL_law_17 57 rfl) ?_
        refine R_aload_n (i := 0) (dL_law_17 58 rfl) rfl rfl ?_
        refine R_iload_n (i := 3) (dL_law_17 59 rfl) rfl rfl ?_
        refine R_iconst (dL_law_18 0 rfl) rfl ?_
        refine R_iadd (dL_law_18 1 rfl) ?_
        obtain ⟨hg, H⟩ := ite_G H
        refine R_ialdF 0 (by decide) hg (dL_law_18 2 rfl) ?_
        obtain ⟨r743, M744, hr, H⟩ := ob_E H
        refine R_cV (st' := [.inl r743]) [.inl (q_ff g 0 (w32 (x3 + 1)).toNat), .inl (q_ff g 0 (w32 (x3 + 2)).toNat), .inl (q_ff g 0 (w32 (x3 + 3)).toNat), .inl (q_ff g 0 (w32 (x3 + 4)).toNat), .inl (q_ff g 0 (w32 (x3 + 5)).toNat)] [] (t_X9_copy l g ad S _ (q_ag_sub hS (Nat.le_of_ble_eq_true rfl) (Nat.le_of_ble_eq_true rfl))   (q_ff g 0 (w32 (x3 + 1)).toNat) (q_ff g 0 (w32 (x3 + 2)).toNat) (q_ff g 0 (w32 (x3 + 3)).toNat) (q_ff g 0 (w32 (x3 + 4)).toNat) (q_ff g 0 (w32 (x3 + 5)).toNat) hr) msX9_copy (Or.inl tb_1045) (Or.inl ⟨0, 9, _, _, _, (cl0 hS), rfl⟩) ⟨Nat.le_of_ble_eq_true rfl, Nat.le_of_ble_eq_true rfl⟩ (Nat.le_of_ble_eq_true rfl) (Nat.le_of_ble_eq_true rfl) rfl rfl (Nat.le_of_ble_eq_true rfl) rfl (dL_law_18 3 rfl) ?_
        refine R_aload_n (i := 2) (dL_law_18 4 rfl) rfl rfl ?_
        refine R_aload_n (i := 0) (dL_law_18 5 rfl) rfl rfl ?_
        refine R_iload_n (i := 3) (dL_law_18 6 rfl) rfl rfl ?_
        refine R_iconst (dL_law_18 7 rfl) rfl ?_
        refine R_iadd (dL_law_18 8 rfl) ?_
        obtain ⟨hg, H⟩ := ite_G H
        refine R_ialdF 0 (by decide) hg (dL_law_18 9 rfl) ?_
        refine R_aload_n (i := 0) (dL_law_18 10 rfl) rfl rfl ?_
        refine R_iload_n (i := 3) (dL_law_18 11 rfl) rfl rfl ?_
        refine R_iconst (dL_law_18 12 rfl) rfl ?_
        refine R_iadd (dL_law_18 13 rfl) ?_
        obtain ⟨hg, H⟩ := ite_G H
        refine R_ialdF 0 (by decide) hg (dL_law_18 14 rfl) ?_
        refine R_aload_n (i := 0) (dL_law_18 15 rfl) rfl rfl ?_
        refine R_iload_n (i := 3) (dL_law_18 16 rfl) rfl rfl ?_
        refine R_iconst (dL_law_18 17 rfl) rfl ?_
        refine R_iadd (dL_law_18 18 rfl) ?_
        obtain ⟨hg, H⟩ := ite_G H
        refine R_ialdF 0 (by decide) hg (dL_law_18 19 rfl) ?_
        refine R_aload_n (i := 0) (dL_law_18 20 rfl) rfl rfl ?_
        refine R_iload_n (i := 3) (dL_law_18 21 rfl) rfl rfl ?_
        refine R_iconst (dL_law_18 22 rfl) rfl ?_
        refine R_iadd (dL_law_18 23 rfl) ?_
        obtain ⟨hg, H⟩ := ite_G H
        refine R_ialdF 0 (by decide) hg (dL_law_18 24 rfl) ?_
        refine R_aload_n (i := 0) (dL_law_18 25 rfl) rfl rfl ?_
        refine R_iload_n (i := 3) (dL_law_18 26 rfl) rfl rfl ?_
        refine R_iconst (dL_law_18 27 rfl) rfl ?_
        refine R_iadd (dL_law_18 28 rfl) ?_
        obtain ⟨hg, H⟩ := ite_G H
        refine R_ialdF 0 (by decide) hg (dL_law_18 29 rfl) ?_
        obtain ⟨r745, M746, hr, H⟩ := ob_E H
        refine R_cV (st' := [.inl r745, .inl r743]) [.inl (q_ff g 0 (w32 (x3 + 1)).toNat), .inl (q_ff g 0 (w32 (x3 + 2)).toNat), .inl (q_ff g 0 (w32 (x3 + 3)).toNat), .inl (q_ff g 0 (w32 (x3 + 4)).toNat), .inl (q_ff g 0 (w32 (x3 + 5)).toNat)] [.inl r743] (t_X10_copy l g ad S _ (q_ag_sub hS (Nat.le_of_ble_eq_true rfl) (Nat.le_of_ble_eq_true rfl))   (q_ff g 0 (w32 (x3 + 1)).toNat) (q_ff g 0 (w32 (x3 + 2)).toNat) (q_ff g 0 (w32 (x3 + 3)).toNat) (q_ff g 0 (w32 (x3 + 4)).toNat) (q_ff g 0 (w32 (x3 + 5)).toNat) hr) msX10_copy (Or.inl tb_1560) (Or.inl ⟨38, 10, _, _, _, (cl38 hS), rfl⟩) ⟨Nat.le_of_ble_eq_true rfl, Nat.le_of_ble_eq_true rfl⟩ (Nat.le_of_ble_eq_true rfl) (Nat.le_of_ble_eq_true rfl) rfl rfl (Nat.le_of_ble_eq_true rfl) rfl (dL_law_18 30 rfl) ?_
        refine R_icmp_eq (tgt := 1676) (dL_law_18 31 rfl) (by decide) (fun hc => ?_) (fun hc => ?_)
        · have H := ite_T H hc
          refine R_iinc (i := 3) (ls' := [some (.inr (.inr (some (g.2.2.2.1 0)))), some (.inr (.inr (some (ad 0)))), some (.inr (.inr (some (ad 38)))), some (.inl (w32 (x3 + 7)))]) (dL_law_19 48 rfl) rfl (Nat.le_of_ble_eq_true rfl) rfl rfl ?_
          refine R_goto (tgt := 18) (dL_law_19 49 rfl) (by decide) ?_
          exact ih (w32 (x3 + 7)) M746 H
        · have H := ite_F H hc
          refine R_iconst (dL_law_18 32 rfl) rfl ?_
          exact R_iret rfl (by decide +kernel) (Nat.le_of_ble_eq_true rfl) (Nat.le_of_ble_eq_true rfl) (dL_law_18 33 rfl) (by obtain ⟨e1, e2⟩ := Prod.mk.inj (Option.some.inj H); subst e1; subst e2; exact hP)
      have H := ite_F H hc43
      by_cases hc44 : b_and (q_ff g 0 (x3).toNat) 63 = 44
      · have H := ite_T H hc44
        refine R_tsIn (c0 := 44) (tgt := 1590) (dL_law_0 21 rfl) hc44 (by decide) (by decide) rfl (by decide) ?_
        refine R_aload_n (i := 1) (dL_law_18 34 rfl) rfl rfl ?_
        refine R_aload_n (i := 0) (dL_law_18 35 rfl) rfl rfl ?_
        refine R_iload_n (i := 3) (dL_law_18 36 rfl) rfl rfl ?_
        refine R_iconst (dL_law_18 37 rfl) rfl ?_
        refine R_iadd (dL_law_18 38 rfl) ?_
        obtain ⟨hg, H⟩ := ite_G H
        refine R_ialdF 0 (by decide) hg (dL_law_18 39 rfl) ?_
        refine R_aload_n (i := 0) (dL_law_18 40 rfl) rfl rfl ?_
        refine R_iload_n (i := 3) (dL_law_18 41 rfl) rfl rfl ?_
        refine R_iconst (dL_law_18 42 rfl) rfl ?_
        refine R_iadd (dL_law_18 43 rfl) ?_
        obtain ⟨hg, H⟩ := ite_G H
        refine R_ialdF 0 (by decide) hg (dL_law_18 44 rfl) ?_
        refine R_aload_n (i := 0) (dL_law_18 45 rfl) rfl rfl ?_
        refine R_iload_n (i := 3) (dL_law_18 46 rfl) rfl rfl ?_
        refine R_iconst (dL_law_18 47 rfl) rfl ?_
        refine R_iadd (dL_law_18 48 rfl) ?_
        obtain ⟨hg, H⟩ := ite_G H
        refine R_ialdF 0 (by decide) hg (dL_law_18 49 rfl) ?_
        refine R_aload_n (i := 0) (dL_law_18 50 rfl) rfl rfl ?_
        refine R_iload_n (i := 3) (dL_law_18 51 rfl) rfl rfl ?_
        refine R_iconst (dL_law_18 52 rfl) rfl ?_
        refine R_iadd (dL_law_18 53 rfl) ?_
        obtain ⟨hg, H⟩ := ite_G H
        refine R_ialdF 0 (by decide) hg (dL_law_18 54 rfl) ?_
        obtain ⟨r747, M748, hr, H⟩ := ob_E H
        refine R_cV (st' := [.inl r747]) [.inl (q_ff g 0 (w32 (x3 + 1)).toNat), .inl (q_ff g 0 (w32 (x3 + 2)).toNat), .inl (q_ff g 0 (w32 (x3 + 3)).toNat), .inl (q_ff g 0 (w32 (x3 + 4)).toNat)] [] (t_X9_linesBy l g ad S _ (q_ag_sub hS (Nat.le_of_ble_eq_true rfl) (Nat.le_of_ble_eq_true rfl))   (q_ff g 0 (w32 (x3 + 1)).toNat) (q_ff g 0 (w32 (x3 + 2)).toNat) (q_ff g 0 (w32 (x3 + 3)).toNat) (q_ff g 0 (w32 (x3 + 4)).toNat) hr) msX9_linesBy (Or.inl tb_1056) (Or.inl ⟨0, 9, _, _, _, (cl0 hS), rfl⟩) ⟨Nat.le_of_ble_eq_true rfl, Nat.le_of_ble_eq_true rfl⟩ (Nat.le_of_ble_eq_true rfl) (Nat.le_of_ble_eq_true rfl) rfl rfl (Nat.le_of_ble_eq_true rfl) rfl (dL_law_18 55 rfl) ?_
        refine R_aload_n (i := 2) (dL_law_18 56 rfl) rfl rfl ?_
        refine R_aload_n (i := 0) (dL_law_18 57 rfl) rfl rfl ?_
        refine R_iload_n (i := 3) (dL_law_18 58 rfl) rfl rfl ?_
        refine R_iconst (dL_law_18 59 rfl) rfl ?_
        refine R_iadd (dL_law_19 0 rfl) ?_
        obtain ⟨hg, H⟩ := ite_G H
        refine R_ialdF 0 (by decide) hg (dL_law_19 1 rfl) ?_
        refine R_aload_n (i := 0) (dL_law_19 2 rfl) rfl rfl ?_
        refine R_iload_n (i := 3) (dL_law_19 3 rfl) rfl rfl ?_
        refine R_iconst (dL_law_19 4 rfl) rfl ?_
        refine R_iadd (dL_law_19 5 rfl) ?_
        obtain ⟨hg, H⟩ := ite_G H
        refine R_ialdF 0 (by decide) hg (dL_law_19 6 rfl) ?_
        refine R_aload_n (i := 0) (dL_law_19 7 rfl) rfl rfl ?_
        refine R_iload_n (i := 3) (dL_law_19 8 rfl) rfl rfl ?_
        refine R_iconst (dL_law_19 9 rfl) rfl ?_
        refine R_iadd (dL_law_19 10 rfl) ?_
        obtain ⟨hg, H⟩ := ite_G H
        refine R_ialdF 0 (by decide) hg (dL_law_19 11 rfl) ?_
        refine R_aload_n (i := 0) (dL_law_19 12 rfl) rfl rfl ?_
        refine R_iload_n (i := 3) (dL_law_19 13 rfl) rfl rfl ?_
        refine R_iconst (dL_law_19 14 rfl) rfl ?_
        refine R_iadd (dL_law_19 15 rfl) ?_
        obtain ⟨hg, H⟩ := ite_G H
        refine R_ialdF 0 (by decide) hg (dL_law_19 16 rfl) ?_
        obtain ⟨r749, M750, hr, H⟩ := ob_E H
        refine R_cV (st' := [.inl r749, .inl r747]) [.inl (q_ff g 0 (w32 (x3 + 1)).toNat), .inl (q_ff g 0 (w32 (x3 + 2)).toNat), .inl (q_ff g 0 (w32 (x3 + 3)).toNat), .inl (q_ff g 0 (w32 (x3 + 4)).toNat)] [.inl r747] (t_X10_linesBy l g ad S _ (q_ag_sub hS (Nat.le_of_ble_eq_true rfl) (Nat.le_of_ble_eq_true rfl))   (q_ff g 0 (w32 (x3 + 1)).toNat) (q_ff g 0 (w32 (x3 + 2)).toNat) (q_ff g 0 (w32 (x3 + 3)).toNat) (q_ff g 0 (w32 (x3 + 4)).toNat) hr) msX10_linesBy (Or.inl tb_1564) (Or.inl ⟨38, 10, _, _, _, (cl38 hS), rfl⟩) ⟨Nat.le_of_ble_eq_true rfl, Nat.le_of_ble_eq_true rfl⟩ (Nat.le_of_ble_eq_true rfl) (Nat.le_of_ble_eq_true rfl) rfl rfl (Nat.le_of_ble_eq_true rfl) rfl (dL_law_19 17 rfl) ?_
        refine R_icmp_eq (tgt := 1676) (dL_law_19 18 rfl) (by decide) (fun hc => ?_) (fun hc => ?_)
        · have H := ite_T H hc
          refine R_iinc (i := 3) (ls' := [some (.inr (.inr (some (g.2.2.2.1 0)))), some (.inr (.inr (some (ad 0)))), some (.inr (.inr (some (ad 38)))), some (.inl (w32 (x3 + 7)))]) (dL_law_19 48 rfl) rfl (Nat.le_of_ble_eq_true rfl) rfl rfl ?_
          refine R_goto (tgt := 18) (dL_law_19 49 rfl) (by decide) ?_
          exact ih (w32 (x3 + 7)) M750 H
        · have H := ite_F H hc
          refine R_iconst (dL_law_19 19 rfl) rfl ?_
          exact R_iret rfl (by decide +kernel) (Nat.le_of_ble_eq_true rfl) (Nat.le_of_ble_eq_true rfl) (dL_law_19 20 rfl) (by obtain ⟨e1, e2⟩ := Prod.mk.inj (Option.some.inj H); subst e1; subst e2; exact hP)
      have H := ite_F H hc44
      by_cases hc45 : b_and (q_ff g 0 (x3).toNat) 63 = 45
      · have H := ite_T H hc45
        refine R_tsIn (c0 := 45) (tgt := 1643) (dL_law_0 21 rfl) hc45 (by decide) (by decide) rfl (by decide) ?_
        refine R_aload_n (i := 1) (dL_law_19 21 rfl) rfl rfl ?_
        refine R_aload_n (i := 0) (dL_law_19 22 rfl) rfl rfl ?_
        refine R_iload_n (i := 3) (dL_law_19 23 rfl) rfl rfl ?_
        refine R_iconst (dL_law_19 24 rfl) rfl ?_
        refine R_iadd (dL_law_19 25 rfl) ?_
        obtain ⟨hg, H⟩ := ite_G H
        refine R_ialdF 0 (by decide) hg (dL_law_19 26 rfl) ?_
        refine R_aload_n (i := 0) (dL_law_19 27 rfl) rfl rfl ?_
        refine R_iload_n (i := 3) (dL_law_19 28 rfl) rfl rfl ?_
        refine R_iconst (dL_law_19 29 rfl) rfl ?_
        refine R_iadd (dL_law_19 30 rfl) ?_
        obtain ⟨hg, H⟩ := ite_G H
        refine R_ialdF 0 (by decide) hg (dL_law_19 31 rfl) ?_
        obtain ⟨r751, hr, H⟩ := op_E H
        refine R_cV (st' := [.inl r751]) [.inl (q_ff g 0 (w32 (x3 + 1)).toNat), .inl (q_ff g 0 (w32 (x3 + 2)).toNat)] [] (t_X9_taken l g ad S _ (q_ag_sub hS (Nat.le_of_ble_eq_true rfl) (Nat.le_of_ble_eq_true rfl))   (q_ff g 0 (w32 (x3 + 1)).toNat) (q_ff g 0 (w32 (x3 + 2)).toNat) hr) msX9_taken (Or.inl tb_1060) (Or.inl ⟨0, 9, _, _, _, (cl0 hS), rfl⟩) ⟨Nat.le_of_ble_eq_true rfl, Nat.le_of_ble_eq_true rfl⟩ (Nat.le_of_ble_eq_true rfl) (Nat.le_of_ble_eq_true rfl) rfl rfl (Nat.le_of_ble_eq_true rfl) rfl (dL_law_19 32 rfl) ?_
        refine R_aload_n (i := 2) (dL_law_19 33 rfl) rfl rfl ?_
        refine R_aload_n (i := 0) (dL_law_19 34 rfl) rfl rfl ?_
        refine R_iload_n (i := 3) (dL_law_19 35 rfl) rfl rfl ?_
        refine R_iconst (dL_law_19 36 rfl) rfl ?_
        refine R_iadd (dL_law_19 37 rfl) ?_
        obtain ⟨hg, H⟩ := ite_G H
        refine R_ialdF 0 (by decide) hg (dL_law_19 38 rfl) ?_
        refine R_aload_n (i := 0) (dL_law_19 39 rfl) rfl rfl ?_
        refine R_iload_n (i := 3) (dL_law_19 40 rfl) rfl rfl ?_
        refine R_iconst (dL_law_19 41 rfl) rfl ?_
        refine R_iadd (dL_law_19 42 rfl) ?_
        obtain ⟨hg, H⟩ := ite_G H
        refine R_ialdF 0 (by decide) hg (dL_law_19 43 rfl) ?_
        obtain ⟨r752, hr, H⟩ := op_E H
        refine R_cV (st' := [.inl r752, .inl r751]) [.inl (q_ff g 0 (w32 (x3 + 1)).toNat), .inl (q_ff g 0 (w32 (x3 + 2)).toNat)] [.inl r751] (t_X10_taken l g ad S _ (q_ag_sub hS (Nat.le_of_ble_eq_true rfl) (Nat.le_of_ble_eq_true rfl))   (q_ff g 0 (w32 (x3 + 1)).toNat) (q_ff g 0 (w32 (x3 + 2)).toNat) hr) msX10_taken (Or.inl tb_1569) (Or.inl ⟨38, 10, _, _, _, (cl38 hS), rfl⟩) ⟨Nat.le_of_ble_eq_true rfl, Nat.le_of_ble_eq_true rfl⟩ (Nat.le_of_ble_eq_true rfl) (Nat.le_of_ble_eq_true rfl) rfl rfl (Nat.le_of_ble_eq_true rfl) rfl (dL_law_19 44 rfl) ?_
        refine R_icmp_eq (tgt := 1676) (dL_law_19 45 rfl) (by decide) (fun hc => ?_) (fun hc => ?_)
        · have H := ite_T H hc
          refine R_iinc (i := 3) (ls' := [some (.inr (.inr (some (g.2.2.2.1 0)))), some (.inr (.inr (some (ad 0)))), some (.inr (.inr (some (ad 38)))), some (.inl (w32 (x3 + 7)))]) (dL_law_19 48 rfl) rfl (Nat.le_of_ble_eq_true rfl) rfl rfl ?_
          refine R_goto (tgt := 18) (dL_law_19 49 rfl) (by decide) ?_
          exact ih (w32 (x3 + 7)) M H
        · have H := ite_F H hc
          refine R_iconst (dL_law_19 46 rfl) rfl ?_
          exact R_iret rfl (by decide +kernel) (Nat.le_of_ble_eq_true rfl) (Nat.le_of_ble_eq_true rfl) (dL_law_19 47 rfl) (by obtain ⟨e1, e2⟩ := Prod.mk.inj (Option.some.inj H); subst e1; subst e2; exact hP)
      have H := ite_F H hc45
      refine R_tsOut (tgt := 1676) (dL_law_0 21 rfl) (by omega) (by decide) ?_
      refine R_iinc (i := 3) (ls' := [some (.inr (.inr (some (g.2.2.2.1 0)))), some (.inr (.inr (some (ad 0)))), some (.inr (.inr (some (ad 38)))), some (.inl (w32 (x3 + 7)))]) (dL_law_19 48 rfl) rfl (Nat.le_of_ble_eq_true rfl) rfl rfl ?_
      refine R_goto (tgt := 18) (dL_law_19 49 rfl) (by decide) ?_
      exact ih (w32 (x3 + 7)) M H
def f_L_law_tail (g : GG) (M : Mem) : Option (Int × Mem) :=
  f_L_law_tail_L18 g
    100000 0 M
set_option maxHeartbeats 8000000 in
theorem tt_L_law (l : Launch) (g : GG) (ad : Nat → Nat) (S : SW) (M : Mem) (hS : q_ag 0 63 ad S) {r : Int} {M' : Mem} (H : f_L_law_tail g M = some (r, M')) {Post : PP} (hP : Post (some (.inl r)) S M') : RW l g ML_law room_1 600000 7302250 Post 16 S M 63 32288 [some (.inr (.inr (some (g.2.2.2.1 0)))), some (.inr (.inr (some (ad 0)))), some (.inr (.inr (some (ad 38)))), none] [] := by
  unfold f_L_law_tail at H
  refine R_iconst (dL_law_0 8 rfl) rfl ?_
  refine R_istore_n (i := 3) (ls' := [some (.inr (.inr (some (g.2.2.2.1 0)))), some (.inr (.inr (some (ad 0)))), some (.inr (.inr (some (ad 38)))), some (.inl 0)]) (dL_law_0 9 rfl) rfl (Nat.le_of_ble_eq_true rfl) (Nat.le_of_ble_eq_true rfl) rfl rfl ?_
  exact t_L_law_tail_L18 l g ad S hS  hP 100000 0 M H 
def f_L_law (g : GG) (M : Mem) : Option (Int × Mem) :=
  ob (f_X9_init (mup M 0 (fun _ => 0))) fun rc1 Mc1 =>
  ob (f_X10_init (mup Mc1 38 (fun _ => 0))) fun rc2 Mc2 =>
  f_L_law_tail g Mc2
set_option maxHeartbeats 8000000 in
set_option maxRecDepth 20000 in
theorem t_law (l : Launch) (g : GG) (M : Mem) {r : Int} {M' : Mem} (H : f_L_law g M = some (r, M')) : RW l g ML_law room_1 600000 7302250 (fun r2 _ _ => r2 = some (.inl r)) 0 [] M 0 0 [some (.inr (.inr (some (g.2.2.2.1 0)))), none, none, none] [] := by
  unfold f_L_law at H
  refine R_new2 (S' := fun q0 => [(q0, .inr (9, [some none, some none, some none, some none, some none, some none, some none, some none, some none, none, none, none, none]))]) (k' := 1) (n' := 13) cgX9 [some none, some none, some none, some none, some none, some none, some none, some none, some none, none, none, none, none] fsX9 tb_89 tb_90 tb_70 rfl rfl (Nat.le_of_ble_eq_true rfl) (Nat.le_of_ble_eq_true rfl) rfl (fun _ => rfl) (dL_law_0 0 rfl) (fun q0 => ?_)
  refine R_dup rfl (dL_law_0 1 rfl) ?_
  obtain ⟨rc1, Mc1, hr, H⟩ := ob_E H
  refine R_callI (rest := [.inr (.inr (some q0))]) (As := []) (t_X9_init l g q0 _ hr) msX9_init (Or.inl tb_91) ⟨(Nat.le_of_ble_eq_true rfl), (Nat.le_of_ble_eq_true rfl)⟩ ⟨(Nat.le_of_ble_eq_true rfl), (Nat.le_of_ble_eq_true rfl)⟩ rfl rfl (Nat.le_of_ble_eq_true rfl) (dL_law_0 2 rfl) ?_
  rintro _ _ _ ⟨rfl, rfl, q1, q2, q3, q4, q5, q6, q7, q8, q9, q10, q11, q12, q13, q14, q15, q16, q17, q18, q19, q20, q21, q22, q23, q24, q25, q26, q27, q28, q29, q30, q31, q32, q33, q34, q35, q36, q37, rfl⟩
  refine R_kn (k' := 38) (n' := 19504) rfl rfl (st' := [.inr (.inr (some q0))]) rfl ?_
  refine R_astore_n (i := 1) (ls' := [some (.inr (.inr (some (g.2.2.2.1 0)))), some (.inr (.inr (some q0))), none, none]) (dL_law_0 3 rfl) rfl (Nat.le_of_ble_eq_true rfl) (Nat.le_of_ble_eq_true rfl) rfl rfl ?_
  refine R_new2 (S' := fun q38 => [(q0, .inr (9, [some (some q1), some (some q3), some (some q7), some (some q12), some (some q21), some (some q27), some (some q31), some (some q33), some (some q37), none, none, none, none])), (q1, .inr (7, [some (some q2)])), (q2, .inl 4320), (q3, .inr (3, [some (some q4), some (some q5), some (some q6), none])), (q4, .inl 10), (q5, .inl 10), (q6, .inl 7200), (q7, .inr (0, [some (some q8), some (some q9), some (some q10), some (some q11), none])), (q8, .inl 12), (q9, .inl 12), (q10, .inl 12), (q11, .inl 12), (q12, .inr (6, [some (some q13), some (some q17), some (some q18), some (some q19), some (some q20), none, none, none])), (q13, .inr (5, [some (some q14), some (some q15), some (some q16), none])), (q14, .inl 160), (q15, .inl 161), (q16, .inl 161), (q17, .inl 960), (q18, .inl 18), (q19, .inl 31), (q20, .inl 6), (q21, .inr (1, [some (some q22), some (some q23), some (some q24), some (some q25), some (some q26), none, none])), (q22, .inl 720), (q23, .inl 36), (q24, .inl 640), (q25, .inl 640), (q26, .inl 4096), (q27, .inr (8, [some (some q28), some (some q29), some (some q30), none, none])), (q28, .inl 40), (q29, .inl 4), (q30, .inl 4), (q31, .inr (2, [some (some q32), none, none, none, none, none, none])), (q32, .inl 10), (q33, .inr (4, [some (some q34), some (some q35), some (some q36)])), (q34, .inl 4), (q35, .inl 4), (q36, .inl 160), (q37, .inl 4), (q38, .inr (10, [none, some none, some none, none, some none, none, none, some none, some none, some none, none, some none, some none, none, none, none, none, none, none, none, none, some none, some none, some none, some none, some none, none, none, none, none, some none, some none, none, none, none, some none, some none, some none, some none, some none, none, some none, some none, some none, none, none, some none]))]) (k' := 39) (n' := 19551) cgX10 [none, some none, some none, none, some none, none, none, some none, some none, some none, none, some none, some none, none, none, none, none, none, none, none, none, some none, some none, some none, some none, some none, none, none, none, none, some none, some none, none, none, none, some none, some none, some none, some none, some none, none, some none, some none, some none, none, none, some none] fsX10 tb_1069 tb_1070 tb_87 rfl rfl (Nat.le_of_ble_eq_true rfl) (Nat.le_of_ble_eq_true rfl) rfl (fun _ => rfl) (dL_law_0 4 rfl) (fun q38 => ?_)
  refine R_dup rfl (dL_law_0 5 rfl) ?_
  obtain ⟨rc2, Mc2, hr, H⟩ := ob_E H
  refine R_callI (rest := [.inr (.inr (some q38))]) (As := []) (t_X10_init l g q0 q1 q2 q3 q4 q5 q6 q7 q8 q9 q10 q11 q12 q13 q14 q15 q16 q17 q18 q19 q20 q21 q22 q23 q24 q25 q26 q27 q28 q29 q30 q31 q32 q33 q34 q35 q36 q37 q38 _ hr) msX10_init (Or.inl tb_1071) ⟨(Nat.le_of_ble_eq_true rfl), (Nat.le_of_ble_eq_true rfl)⟩ ⟨(Nat.le_of_ble_eq_true rfl), (Nat.le_of_ble_eq_true rfl)⟩ rfl rfl (Nat.le_of_ble_eq_true rfl) (dL_law_0 6 rfl) ?_
  rintro _ _ _ ⟨rfl, rfl, q39, q40, q41, q42, q43, q44, q45, q46, q47, q48, q49, q50, q51, q52, q53, q54, q55, q56, q57, q58, q59, q60, q61, q62, rfl⟩
  refine R_kn (k' := 63) (n' := 32288) rfl rfl (st' := [.inr (.inr (some q38))]) rfl ?_
  refine R_astore_n (i := 2) (ls' := [some (.inr (.inr (some (g.2.2.2.1 0)))), some (.inr (.inr (some q0))), some (.inr (.inr (some q38))), none]) (dL_law_0 7 rfl) rfl (Nat.le_of_ble_eq_true rfl) (Nat.le_of_ble_eq_true rfl) rfl rfl ?_
  refine tt_L_law l g (fun k => ([q0, q1, q2, q3, q4, q5, q6, q7, q8, q9, q10, q11, q12, q13, q14, q15, q16, q17, q18, q19, q20, q21, q22, q23, q24, q25, q26, q27, q28, q29, q30, q31, q32, q33, q34, q35, q36, q37, q38, q39, q40, q41, q42, q43, q44, q45, q46, q47, q48, q49, q50, q51, q52, q53, q54, q55, q56, q57, q58, q59, q60, q61, q62] : List Nat).getD k 0) [(q0, .inr (9, [some (some q1), some (some q3), some (some q7), some (some q12), some (some q21), some (some q27), some (some q31), some (some q33), some (some q37), none, none, none, none])), (q1, .inr (7, [some (some q2)])), (q2, .inl 4320), (q3, .inr (3, [some (some q4), some (some q5), some (some q6), none])), (q4, .inl 10), (q5, .inl 10), (q6, .inl 7200), (q7, .inr (0, [some (some q8), some (some q9), some (some q10), some (some q11), none])), (q8, .inl 12), (q9, .inl 12), (q10, .inl 12), (q11, .inl 12), (q12, .inr (6, [some (some q13), some (some q17), some (some q18), some (some q19), some (some q20), none, none, none])), (q13, .inr (5, [some (some q14), some (some q15), some (some q16), none])), (q14, .inl 160), (q15, .inl 161), (q16, .inl 161), (q17, .inl 960), (q18, .inl 18), (q19, .inl 31), (q20, .inl 6), (q21, .inr (1, [some (some q22), some (some q23), some (some q24), some (some q25), some (some q26), none, none])), (q22, .inl 720), (q23, .inl 36), (q24, .inl 640), (q25, .inl 640), (q26, .inl 4096), (q27, .inr (8, [some (some q28), some (some q29), some (some q30), none, none])), (q28, .inl 40), (q29, .inl 4), (q30, .inl 4), (q31, .inr (2, [some (some q32), none, none, none, none, none, none])), (q32, .inl 10), (q33, .inr (4, [some (some q34), some (some q35), some (some q36)])), (q34, .inl 4), (q35, .inl 4), (q36, .inl 160), (q37, .inl 4), (q38, .inr (10, [none, some (some q39), some (some q40), none, some (some q41), none, none, some (some q42), some (some q43), some (some q44), none, some (some q45), some (some q46), none, none, none, none, none, none, none, none, some (some q47), some (some q48), some (some q49), some (some q50), some (some q51), none, none, none, none, some (some q52), some (some q53), none, none, none, some (some q54), some (some q55), some (some q56), some (some q57), some (some q58), none, some (some q59), some (some q60), some (some q61), none, none, some (some q62)])), (q39, .inl 10), (q40, .inl 10), (q41, .inl 4), (q42, .inl 52), (q43, .inl 4320), (q44, .inl 160), (q45, .inl 1200), (q46, .inl 24), (q47, .inl 10), (q48, .inl 4), (q49, .inl 4), (q50, .inl 160), (q51, .inl 53), (q52, .inl 96), (q53, .inl 200), (q54, .inl 200), (q55, .inl 6), (q56, .inl 720), (q57, .inl 640), (q58, .inl 720), (q59, .inl 40), (q60, .inl 4), (q61, .inl 4), (q62, .inl 4096)] _ (by intro k h1 h2; rcases (show k = 0 ∨ k = 1 ∨ k = 2 ∨ k = 3 ∨ k = 4 ∨ k = 5 ∨ k = 6 ∨ k = 7 ∨ k = 8 ∨ k = 9 ∨ k = 10 ∨ k = 11 ∨ k = 12 ∨ k = 13 ∨ k = 14 ∨ k = 15 ∨ k = 16 ∨ k = 17 ∨ k = 18 ∨ k = 19 ∨ k = 20 ∨ k = 21 ∨ k = 22 ∨ k = 23 ∨ k = 24 ∨ k = 25 ∨ k = 26 ∨ k = 27 ∨ k = 28 ∨ k = 29 ∨ k = 30 ∨ k = 31 ∨ k = 32 ∨ k = 33 ∨ k = 34 ∨ k = 35 ∨ k = 36 ∨ k = 37 ∨ k = 38 ∨ k = 39 ∨ k = 40 ∨ k = 41 ∨ k = 42 ∨ k = 43 ∨ k = 44 ∨ k = 45 ∨ k = 46 ∨ k = 47 ∨ k = 48 ∨ k = 49 ∨ k = 50 ∨ k = 51 ∨ k = 52 ∨ k = 53 ∨ k = 54 ∨ k = 55 ∨ k = 56 ∨ k = 57 ∨ k = 58 ∨ k = 59 ∨ k = 60 ∨ k = 61 ∨ k = 62 by omega) with rfl | rfl | rfl | rfl | rfl | rfl | rfl | rfl | rfl | rfl | rfl | rfl | rfl | rfl | rfl | rfl | rfl | rfl | rfl | rfl | rfl | rfl | rfl | rfl | rfl | rfl | rfl | rfl | rfl | rfl | rfl | rfl | rfl | rfl | rfl | rfl | rfl | rfl | rfl | rfl | rfl | rfl | rfl | rfl | rfl | rfl | rfl | rfl | rfl | rfl | rfl | rfl | rfl | rfl | rfl | rfl | rfl | rfl | rfl | rfl | rfl | rfl | rfl <;> rfl) H ?_
  exact rfl
