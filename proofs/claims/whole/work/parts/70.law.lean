/-! the law: every call answers alike -/
def P1 (x : Option (Int × Mem)) : Prop := ∃ M', x = some (1, M')
theorem P1.it {c : Prop} [Decidable c] {a b : Option (Int × Mem)} (h : c) (ha : P1 a) : P1 (if c then a else b) := by rw [if_pos h]; exact ha
theorem P1.el {c : Prop} [Decidable c] {a b : Option (Int × Mem)} (ha : c → P1 a) (hb : ¬ c → P1 b) : P1 (if c then a else b) := by
  by_cases h : c
  · rw [if_pos h]; exact ha h
  · rw [if_neg h]; exact hb h
theorem P1.ob {x : Option (Int × Mem)} {k : Int → Mem → Option (Int × Mem)} {r : Int} {M1 : Mem} (h : x = some (r, M1)) (hk : P1 (k r M1)) : P1 (ob x k) := by subst h; exact hk
theorem P1.bi {x : Option Int} {k : Int → Option (Int × Mem)} {r : Int} (h : x = some r) (hk : P1 (k r)) : P1 (x.bind k) := by subst h; exact hk
theorem lcmp_self (r : Int) : b_lcmp r r = 0 := by unfold b_lcmp; rw [if_neg (Int.lt_irrefl r), if_pos rfl]
theorem law_step (g : GG) (n : Nat) (x3 : Int) (M : Mem) (hin : 0 ≤ x3 ∧ x3 < (q_fl g 0 : Int)) (hend : ¬ w32 ((q_fl g 0 : Int) - 7) < x3) (hx : ∀ i : Nat, 1 ≤ i → i ≤ 6 → 0 ≤ w32 (x3 + (i : Int)) ∧ w32 (x3 + (i : Int)) < (q_fl g 0 : Int)) (hr : ∀ i, r32 (q_ff g 0 i)) (h : Inv M) (hk : ∀ M2, Inv M2 → P1 (f_L_law_tail_L18 g n (w32 (x3 + 7)) M2)) : P1 (f_L_law_tail_L18 g (n + 1) x3 M) := by
  have h1 := hx 1 (by decide) (by decide)
  have h2 := hx 2 (by decide) (by decide)
  have h3 := hx 3 (by decide) (by decide)
  have h4 := hx 4 (by decide) (by decide)
  have h5 := hx 5 (by decide) (by decide)
  have h6 := hx 6 (by decide) (by decide)
  rw [f_L_law_tail_L18]
  rw [if_neg hend]
  refine P1.it hin ?_
  refine P1.el (fun _ => ?_) (fun _ => ?_)
  · obtain ⟨r, M1, M2, e1, e2, i2⟩ := op_line h (q_ff g 0 (w32 (x3 + 1)).toNat) (q_ff g 0 (w32 (x3 + 2)).toNat)
    exact P1.it h1 (P1.it h2 (P1.ob e1 (P1.it h1 (P1.it h2 (P1.ob e2 (P1.it rfl (hk M2 i2)))))))
  refine P1.el (fun _ => ?_) (fun _ => ?_)
  · exact P1.it h1 (P1.it h2 (P1.it h1 (P1.it h2 (P1.bi (op_lineTold h (q_ff g 0 (w32 (x3 + 1)).toNat) (q_ff g 0 (w32 (x3 + 2)).toNat)) (P1.it rfl (hk M h))))))
  refine P1.el (fun _ => ?_) (fun _ => ?_)
  · obtain ⟨r, M1, M2, e1, e2, i2⟩ := op_set h (q_ff g 0 (w32 (x3 + 1)).toNat) (q_ff g 0 (w32 (x3 + 2)).toNat)
    exact P1.it h1 (P1.it h2 (P1.ob e1 (P1.it h1 (P1.it h2 (P1.ob e2 (P1.it rfl (hk M2 i2)))))))
  refine P1.el (fun _ => ?_) (fun _ => ?_)
  · obtain ⟨r, M1, M2, e1, e2, i2⟩ := op_guest h (q_ff g 0 (w32 (x3 + 1)).toNat)
    exact P1.it h1 (P1.ob e1 (P1.it h1 (P1.ob e2 (P1.it rfl (hk M2 i2)))))
  refine P1.el (fun _ => ?_) (fun _ => ?_)
  · exact P1.it h1 (P1.it h1 (P1.bi (op_guestTold h (q_ff g 0 (w32 (x3 + 1)).toNat)) (P1.it rfl (hk M h))))
  refine P1.el (fun _ => ?_) (fun _ => ?_)
  · obtain ⟨r, M1, M2, e1, e2, i2⟩ := op_pays h (q_ff g 0 (w32 (x3 + 1)).toNat)
    exact P1.it h1 (P1.ob e1 (P1.it h1 (P1.ob e2 (P1.it rfl (hk M2 i2)))))
  refine P1.el (fun _ => ?_) (fun _ => ?_)
  · exact P1.it h1 (P1.it h1 (P1.it (op_count h (q_ff g 0 (w32 (x3 + 1)).toNat)).symm (hk M h)))
  refine P1.el (fun _ => ?_) (fun _ => ?_)
  · obtain ⟨r, M1, M2, e1, e2, i2⟩ := op_feed h (q_ff g 0 (w32 (x3 + 1)).toNat) (q_ff g 0 (w32 (x3 + 2)).toNat) (q_ff g 0 (w32 (x3 + 3)).toNat) (q_ff g 0 (w32 (x3 + 4)).toNat) (q_ff g 0 (w32 (x3 + 5)).toNat) (q_ff g 0 (w32 (x3 + 6)).toNat)
    exact P1.it h1 (P1.it h2 (P1.it h3 (P1.it h4 (P1.it h5 (P1.it h6 (P1.ob e1 (P1.it h1 (P1.it h2 (P1.it h3 (P1.it h4 (P1.it h5 (P1.it h6 (P1.ob e2 (P1.it rfl (hk M2 i2)))))))))))))))
  refine P1.el (fun _ => ?_) (fun _ => ?_)
  · obtain ⟨r, M1, M2, e1, e2, i2⟩ := op_text h 
    exact P1.ob e1 (P1.ob e2 (P1.it rfl (hk M2 i2)))
  refine P1.el (fun _ => ?_) (fun _ => ?_)
  · obtain ⟨r, M1, M2, e1, e2, i2⟩ := op_force h (q_ff g 0 (w32 (x3 + 1)).toNat)
    exact P1.it h1 (P1.ob e1 (P1.it h1 (P1.ob e2 (P1.it rfl (hk M2 i2)))))
  refine P1.el (fun _ => ?_) (fun _ => ?_)
  · obtain ⟨r, M1, M2, e1, e2, i2⟩ := op_asks h (q_ff g 0 (w32 (x3 + 1)).toNat) (q_ff g 0 (w32 (x3 + 2)).toNat) (q_ff g 0 (w32 (x3 + 3)).toNat) (q_ff g 0 (w32 (x3 + 4)).toNat) (q_ff g 0 (w32 (x3 + 5)).toNat)
    exact P1.it h1 (P1.it h2 (P1.it h3 (P1.it h4 (P1.it h5 (P1.ob e1 (P1.it h1 (P1.it h2 (P1.it h3 (P1.it h4 (P1.it h5 (P1.ob e2 (P1.it rfl (hk M2 i2)))))))))))))
  refine P1.el (fun _ => ?_) (fun _ => ?_)
  · obtain ⟨r, M1, M2, e1, e2, i2⟩ := op_know h (q_ff g 0 (w32 (x3 + 1)).toNat) (q_ff g 0 (w32 (x3 + 2)).toNat) (q_ff g 0 (w32 (x3 + 3)).toNat) (q_ff g 0 (w32 (x3 + 4)).toNat)
    exact P1.it h1 (P1.it h2 (P1.it h3 (P1.it h4 (P1.ob e1 (P1.it h1 (P1.it h2 (P1.it h3 (P1.it h4 (P1.ob e2 (P1.it rfl (hk M2 i2)))))))))))
  refine P1.el (fun _ => ?_) (fun _ => ?_)
  · obtain ⟨r, M1, M2, e1, e2, i2⟩ := op_forget h 
    exact P1.ob e1 (P1.ob e2 (P1.it rfl (hk M2 i2)))
  refine P1.el (fun _ => ?_) (fun _ => ?_)
  · exact P1.it h1 (P1.it h2 (P1.it h1 (P1.it h2 (P1.bi (op_factTold h (q_ff g 0 (w32 (x3 + 1)).toNat) (q_ff g 0 (w32 (x3 + 2)).toNat)) (P1.it rfl (hk M h))))))
  refine P1.el (fun _ => ?_) (fun _ => ?_)
  · obtain ⟨r, M1, M2, e1, e2, i2⟩ := op_sets h 
    exact P1.ob e1 (P1.ob e2 (P1.it rfl (hk M2 i2)))
  refine P1.el (fun _ => ?_) (fun _ => ?_)
  · obtain ⟨r, M1, M2, e1, e2, i2⟩ := op_first h (q_ff g 0 (w32 (x3 + 1)).toNat)
    exact P1.it h1 (P1.ob e1 (P1.it h1 (P1.ob e2 (P1.it rfl (hk M2 i2)))))
  refine P1.el (fun _ => ?_) (fun _ => ?_)
  · obtain ⟨r, M1, M2, e1, e2, i2⟩ := op_means h (q_ff g 0 (w32 (x3 + 1)).toNat) (q_ff g 0 (w32 (x3 + 2)).toNat)
    exact P1.it h1 (P1.it h2 (P1.ob e1 (P1.it h1 (P1.it h2 (P1.ob e2 (P1.it rfl (hk M2 i2)))))))
  refine P1.el (fun _ => ?_) (fun _ => ?_)
  · obtain ⟨r, M1, M2, e1, e2, i2⟩ := op_sure h (q_ff g 0 (w32 (x3 + 1)).toNat)
    exact P1.it h1 (P1.ob e1 (P1.it h1 (P1.ob e2 (P1.it rfl (hk M2 i2)))))
  refine P1.el (fun _ => ?_) (fun _ => ?_)
  · obtain ⟨r, M1, M2, e1, e2, i2⟩ := op_doubt h (q_ff g 0 (w32 (x3 + 1)).toNat)
    exact P1.it h1 (P1.ob e1 (P1.it h1 (P1.ob e2 (P1.it rfl (hk M2 i2)))))
  refine P1.el (fun _ => ?_) (fun _ => ?_)
  · obtain ⟨r, M1, M2, e1, e2, i2⟩ := op_odds h (q_ff g 0 (w32 (x3 + 1)).toNat) (q_ff g 0 (w32 (x3 + 2)).toNat) (q_ff g 0 (w32 (x3 + 3)).toNat)
    exact P1.it h1 (P1.it h2 (P1.it h3 (P1.ob e1 (P1.it h1 (P1.it h2 (P1.it h3 (P1.ob e2 (P1.it (lcmp_self r) (hk M2 i2)))))))))
  refine P1.el (fun _ => ?_) (fun _ => ?_)
  · obtain ⟨r, M1, M2, e1, e2, i2⟩ := op_has h (q_ff g 0 (w32 (x3 + 1)).toNat) (q_ff g 0 (w32 (x3 + 2)).toNat) (q_ff g 0 (w32 (x3 + 3)).toNat)
    exact P1.it h1 (P1.it h2 (P1.it h3 (P1.ob e1 (P1.it h1 (P1.it h2 (P1.it h3 (P1.ob e2 (P1.it (lcmp_self r) (hk M2 i2)))))))))
  refine P1.el (fun _ => ?_) (fun _ => ?_)
  · obtain ⟨r, M1, M2, e1, e2, i2⟩ := op_partsOfLine h (q_ff g 0 (w32 (x3 + 1)).toNat) (q_ff g 0 (w32 (x3 + 2)).toNat)
    exact P1.it h1 (P1.it h2 (P1.ob e1 (P1.it h1 (P1.it h2 (P1.ob e2 (P1.it rfl (hk M2 i2)))))))
  refine P1.el (fun _ => ?_) (fun _ => ?_)
  · obtain ⟨r, M1, M2, e1, e2, i2⟩ := op_safe h (q_ff g 0 (w32 (x3 + 1)).toNat)
    exact P1.it h1 (P1.ob e1 (P1.it h1 (P1.ob e2 (P1.it rfl (hk M2 i2)))))
  refine P1.el (fun _ => ?_) (fun _ => ?_)
  · obtain ⟨r, M1, M2, e1, e2, i2⟩ := op_risk h (q_ff g 0 (w32 (x3 + 1)).toNat) (q_ff g 0 (w32 (x3 + 2)).toNat) (q_ff g 0 (w32 (x3 + 3)).toNat)
    exact P1.it h1 (P1.it h2 (P1.it h3 (P1.ob e1 (P1.it h1 (P1.it h2 (P1.it h3 (P1.ob e2 (P1.it (lcmp_self r) (hk M2 i2)))))))))
  refine P1.el (fun _ => ?_) (fun _ => ?_)
  · obtain ⟨r, M1, M2, e1, e2, i2⟩ := op_order h (q_ff g 0 (w32 (x3 + 1)).toNat)
    exact P1.it h1 (P1.ob e1 (P1.it h1 (P1.ob e2 (P1.it rfl (hk M2 i2)))))
  refine P1.el (fun _ => ?_) (fun _ => ?_)
  · obtain ⟨r, M1, M2, e1, e2, i2⟩ := op_ordered h (q_ff g 0 (w32 (x3 + 1)).toNat)
    exact P1.it h1 (P1.ob e1 (P1.it h1 (P1.ob e2 (P1.it rfl (hk M2 i2)))))
  refine P1.el (fun _ => ?_) (fun _ => ?_)
  · obtain ⟨r, M1, M2, e1, e2, i2⟩ := op_middle h (q_ff g 0 (w32 (x3 + 1)).toNat)
    exact P1.it h1 (P1.ob e1 (P1.it h1 (P1.ob e2 (P1.it rfl (hk M2 i2)))))
  refine P1.el (fun _ => ?_) (fun _ => ?_)
  · obtain ⟨r, M1, M2, e1, e2, i2⟩ := op_taste h (q_ff g 0 (w32 (x3 + 1)).toNat)
    exact P1.it h1 (P1.ob e1 (P1.it h1 (P1.ob e2 (P1.it rfl (hk M2 i2)))))
  refine P1.el (fun _ => ?_) (fun _ => ?_)
  · obtain ⟨r, M1, M2, e1, e2, i2⟩ := op_two h (q_ff g 0 (w32 (x3 + 1)).toNat)
    exact P1.it h1 (P1.ob e1 (P1.it h1 (P1.ob e2 (P1.it rfl (hk M2 i2)))))
  refine P1.el (fun _ => ?_) (fun _ => ?_)
  · obtain ⟨r, M1, M2, e1, e2, i2⟩ := op_ask h (q_ff g 0 (w32 (x3 + 1)).toNat)
    exact P1.it h1 (P1.ob e1 (P1.it h1 (P1.ob e2 (P1.it rfl (hk M2 i2)))))
  refine P1.el (fun _ => ?_) (fun _ => ?_)
  · obtain ⟨r, M1, M2, e1, e2, i2⟩ := op_would h (q_ff g 0 (w32 (x3 + 1)).toNat) (q_ff g 0 (w32 (x3 + 2)).toNat) (q_ff g 0 (w32 (x3 + 3)).toNat) (q_ff g 0 (w32 (x3 + 4)).toNat)
    exact P1.it h1 (P1.it h2 (P1.it h3 (P1.it h4 (P1.ob e1 (P1.it h1 (P1.it h2 (P1.it h3 (P1.it h4 (P1.ob e2 (P1.it rfl (hk M2 i2)))))))))))
  refine P1.el (fun _ => ?_) (fun _ => ?_)
  · obtain ⟨r, M1, M2, e1, e2, i2⟩ := op_clash h 
    exact P1.ob e1 (P1.ob e2 (P1.it rfl (hk M2 i2)))
  refine P1.el (fun _ => ?_) (fun _ => ?_)
  · obtain ⟨r, M1, M2, e1, e2, i2⟩ := op_idle h 
    exact P1.ob e1 (P1.ob e2 (P1.it rfl (hk M2 i2)))
  refine P1.el (fun _ => ?_) (fun _ => ?_)
  · obtain ⟨r, e1, e2⟩ := op_bill h (q_ff g 0 (w32 (x3 + 1)).toNat) (q_ff g 0 (w32 (x3 + 2)).toNat) (q_ff g 0 (w32 (x3 + 3)).toNat)
    exact P1.it h1 (P1.it h2 (P1.it h3 (P1.bi e1 (P1.it h1 (P1.it h2 (P1.it h3 (P1.bi e2 (P1.it rfl (hk M h)))))))))
  refine P1.el (fun _ => ?_) (fun _ => ?_)
  · obtain ⟨r, M1, M2, e1, e2, i2⟩ := op_match h (q_ff g 0 (w32 (x3 + 1)).toNat)
    exact P1.it h1 (P1.ob e1 (P1.it h1 (P1.ob e2 (P1.it rfl (hk M2 i2)))))
  refine P1.el (fun _ => ?_) (fun _ => ?_)
  · obtain ⟨r, M1, M2, e1, e2, i2⟩ := op_film h (q_ff g 0 (w32 (x3 + 1)).toNat)
    exact P1.it h1 (P1.ob e1 (P1.it h1 (P1.ob e2 (P1.it rfl (hk M2 i2)))))
  refine P1.el (fun _ => ?_) (fun _ => ?_)
  · obtain ⟨r, M1, M2, e1, e2, i2⟩ := op_laws h 
    exact P1.ob e1 (P1.ob e2 (P1.it rfl (hk M2 i2)))
  refine P1.el (fun _ => ?_) (fun _ => ?_)
  · obtain ⟨r, M1, M2, e1, e2, i2⟩ := op_drawn h (q_ff g 0 (w32 (x3 + 1)).toNat) (q_ff g 0 (w32 (x3 + 2)).toNat)
    exact P1.it h1 (P1.it h2 (P1.ob e1 (P1.it h1 (P1.it h2 (P1.ob e2 (P1.it rfl (hk M2 i2)))))))
  refine P1.el (fun _ => ?_) (fun _ => ?_)
  · obtain ⟨r, M1, M2, e1, e2, i2⟩ := op_chance h (q_ff g 0 (w32 (x3 + 1)).toNat) (q_ff g 0 (w32 (x3 + 2)).toNat) (q_ff g 0 (w32 (x3 + 3)).toNat) (q_ff g 0 (w32 (x3 + 4)).toNat) (q_ff g 0 (w32 (x3 + 5)).toNat)
    exact P1.it h1 (P1.it h2 (P1.it h3 (P1.it h4 (P1.it h5 (P1.ob e1 (P1.it h1 (P1.it h2 (P1.it h3 (P1.it h4 (P1.it h5 (P1.ob e2 (P1.it (lcmp_self r) (hk M2 i2)))))))))))))
  refine P1.el (fun _ => ?_) (fun _ => ?_)
  · obtain ⟨r, M1, M2, e1, e2, i2⟩ := op_image h 
    exact P1.ob e1 (P1.ob e2 (P1.it rfl (hk M2 i2)))
  refine P1.el (fun _ => ?_) (fun _ => ?_)
  · obtain ⟨r, M1, M2, e1, e2, i2⟩ := op_back h 
    exact P1.ob e1 (P1.ob e2 (P1.it rfl (hk M2 i2)))
  refine P1.el (fun _ => ?_) (fun _ => ?_)
  · obtain ⟨r, M1, M2, e1, e2, i2⟩ := op_sheet h (q_ff g 0 (w32 (x3 + 1)).toNat) (q_ff g 0 (w32 (x3 + 2)).toNat) (q_ff g 0 (w32 (x3 + 3)).toNat)
    exact P1.it h1 (P1.it h2 (P1.it h3 (P1.ob e1 (P1.it h1 (P1.it h2 (P1.it h3 (P1.ob e2 (P1.it rfl (hk M2 i2)))))))))
  refine P1.el (fun _ => ?_) (fun _ => ?_)
  · obtain ⟨r, M1, M2, e1, e2, i2⟩ := op_cell h (q_ff g 0 (w32 (x3 + 1)).toNat) (q_ff g 0 (w32 (x3 + 2)).toNat) (q_ff g 0 (w32 (x3 + 3)).toNat)
    exact P1.it h1 (P1.it h2 (P1.it h3 (P1.ob e1 (P1.it h1 (P1.it h2 (P1.it h3 (P1.ob e2 (P1.it rfl (hk M2 i2)))))))))
  refine P1.el (fun _ => ?_) (fun _ => ?_)
  · obtain ⟨r, M1, M2, e1, e2, i2⟩ := op_copy h (q_ff g 0 (w32 (x3 + 1)).toNat) (q_ff g 0 (w32 (x3 + 2)).toNat) (q_ff g 0 (w32 (x3 + 3)).toNat) (q_ff g 0 (w32 (x3 + 4)).toNat) (q_ff g 0 (w32 (x3 + 5)).toNat) (hr _) (hr _) (hr _)
    exact P1.it h1 (P1.it h2 (P1.it h3 (P1.it h4 (P1.it h5 (P1.ob e1 (P1.it h1 (P1.it h2 (P1.it h3 (P1.it h4 (P1.it h5 (P1.ob e2 (P1.it rfl (hk M2 i2)))))))))))))
  refine P1.el (fun _ => ?_) (fun _ => ?_)
  · obtain ⟨r, M1, M2, e1, e2, i2⟩ := op_linesBy h (q_ff g 0 (w32 (x3 + 1)).toNat) (q_ff g 0 (w32 (x3 + 2)).toNat) (q_ff g 0 (w32 (x3 + 3)).toNat) (q_ff g 0 (w32 (x3 + 4)).toNat) (hr _)
    exact P1.it h1 (P1.it h2 (P1.it h3 (P1.it h4 (P1.ob e1 (P1.it h1 (P1.it h2 (P1.it h3 (P1.it h4 (P1.ob e2 (P1.it rfl (hk M2 i2)))))))))))
  refine P1.el (fun _ => ?_) (fun _ => ?_)
  · obtain ⟨r, e1, e2⟩ := op_taken h (q_ff g 0 (w32 (x3 + 1)).toNat) (q_ff g 0 (w32 (x3 + 2)).toNat)
    exact P1.it h1 (P1.it h2 (P1.bi e1 (P1.it h1 (P1.it h2 (P1.bi e2 (P1.it rfl (hk M h)))))))
  exact hk M h
theorem law_loop (g : GG) (hg : q_G g) : ∀ (n k : Nat) (M : Mem), q_fl g 0 + 7 ≤ 7 * k + 7 * n → 7 * k ≤ q_fl g 0 → Inv M → P1 (f_L_law_tail_L18 g n ((7 * k : Nat) : Int) M) := by
  have hL : q_fl g 0 ≤ 3584 := hg.2
  intro n
  induction n with
  | zero => intro k M h1 h2 h; omega
  | succ n ih =>
    intro k M h1 h2 h
    have e0 : w32 ((q_fl g 0 : Int) - 7) = (q_fl g 0 : Int) - 7 := w32_id (by omega) (by omega)
    by_cases hend : (q_fl g 0 : Int) - 7 < ((7 * k : Nat) : Int)
    · refine ⟨M, ?_⟩
      rw [f_L_law_tail_L18, if_pos (by rw [e0]; exact hend)]
    · have hlt : 7 * k + 7 ≤ q_fl g 0 := by clear e0; omega
      refine law_step g n _ M (by clear e0; exact ⟨by omega, by omega⟩) (by rw [e0]; exact hend) (fun i hi1 hi2 => ?_) (fun i => hg.1 0 i) h (fun M2 i2 => ?_)
      · clear e0
        rw [w32_id (by omega) (by omega)]; exact ⟨by omega, by omega⟩
      · have e7 : w32 (((7 * k : Nat) : Int) + 7) = ((7 * (k + 1) : Nat) : Int) := by clear e0; rw [w32_id (by omega) (by omega)]; omega
        rw [e7]
        exact ih (k + 1) M2 (by clear e0 e7; omega) (by clear e0 e7; omega) i2
