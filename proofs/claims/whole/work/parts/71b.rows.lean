/-! the start: the reference's tongues -/
def z_val (t : Nat) : Nat := ((((tb (6 * t) * 6 + tb (6 * t + 1)) * 6 + tb (6 * t + 2)) * 6 + tb (6 * t + 3)) * 6 + tb (6 * t + 4)) * 6 + tb (6 * t + 5)
def z_w (r : Nat) : Nat → Nat
  | 0 => 0
  | i + 1 => z_w r i ||| 2 ^ (r / 6 ^ i % 6)
theorem z_w_lt (r : Nat) : ∀ i : Nat, z_w r i < 64 := by
  intro i
  induction i with
  | zero => exact (by decide : (0 : Nat) < 64)
  | succ i ih => exact Nat.or_lt_two_pow (n := 6) ih (Nat.pow_lt_pow_right (by decide) (Nat.mod_lt _ (by decide)))
theorem z_val_lt : ∀ t : Nat, t < 720 → z_val t < 46656 := by decide +kernel
theorem z_val_s : ∀ t : Nat, t < 719 → z_val t < z_val (t + 1) := by decide +kernel
theorem z_val_w : ∀ t : Nat, t < 720 → z_w (z_val t) 6 = 63 := by decide +kernel
theorem z_val_d : ∀ t : Nat, t < 720 → ∀ s : Nat, s < 6 → z_val t / 6 ^ (5 - s) % 6 = tb (6 * t + s) := by decide +kernel
theorem z_val_m {t u : Nat} (hu : u < 720) (h : t < u) : z_val t < z_val u := by
  induction u with
  | zero => omega
  | succ u ih =>
    have h1 := z_val_s u (by omega)
    by_cases q : t = u
    · rw [q]; exact h1
    · exact Nat.lt_trans (ih (by omega) (by omega)) h1
/-- three figures to the base 6 -/
def z_lo (a : Nat) : Nat := (2 ^ (a % 6) ||| 2 ^ (a / 6 % 6)) ||| 2 ^ (a / 36 % 6)
theorem z_w_lo {a b : Nat} (hb : b < 216) : z_w (216 * a + b) 6 = z_lo b ||| z_lo a := by
  have e0 : (216 * a + b) / 6 ^ 0 % 6 = b % 6 := by rw [Nat.pow_zero, Nat.div_one]; omega
  have e1 : (216 * a + b) / 6 ^ 1 % 6 = b / 6 % 6 := by rw [Nat.pow_one]; omega
  have e2 : (216 * a + b) / 6 ^ 2 % 6 = b / 36 % 6 := by rw [show 6 ^ 2 = 36 from rfl]; omega
  have e3 : (216 * a + b) / 6 ^ 3 % 6 = a % 6 := by rw [show 6 ^ 3 = 216 from rfl]; omega
  have e4 : (216 * a + b) / 6 ^ 4 % 6 = a / 6 % 6 := by rw [show 6 ^ 4 = 1296 from rfl]; omega
  have e5 : (216 * a + b) / 6 ^ 5 % 6 = a / 36 % 6 := by rw [show 6 ^ 5 = 7776 from rfl]; omega
  rw [z_w, z_w, z_w, z_w, z_w, z_w, z_w, e0, e1, e2, e3, e4, e5, Nat.zero_or]
  unfold z_lo
  simp only [Nat.or_assoc]
def z_dg (r s : Nat) : Nat := r / 6 ^ (5 - s) % 6
def z_rk (r : Nat) : Nat := (List.range 6).foldl (fun a s => a + z_trn s * (z_dg r s - ((List.range s).filter (fun j => Nat.blt (z_dg r j) (z_dg r s))).length)) 0
theorem z_rk_ok : ∀ a : Nat, a < 216 → ∀ b : Nat, b < 216 → z_lo b ||| z_lo a = 63 → z_rk (216 * a + b) < 720 ∧ z_val (z_rk (216 * a + b)) = 216 * a + b := by decide +kernel
theorem z_ex {r : Nat} (hr : r < 46656) (h : z_w r 6 = 63) : ∃ t, t < 720 ∧ z_val t = r := by
  have e : 216 * (r / 216) + r % 216 = r := Nat.div_add_mod r 216
  rw [← e, z_w_lo (Nat.mod_lt _ (by decide))] at h
  obtain ⟨h1, h2⟩ := z_rk_ok (r / 216) (by omega) (r % 216) (Nat.mod_lt _ (by decide)) h
  rw [e] at h1 h2
  exact ⟨_, h1, h2⟩
theorem z_isT {r p : Nat} (hr : r < 46656) (hp : p ≤ 720) (M : Mem) : ∃ M', f_X10_isTongue (r : Int) (p : Int) M = some (if z_w r 6 = 63 then 1 else 0, M') ∧ agx [43] M M' ∧ (∀ j : Nat, j < 6 * p → M' 43 j = M 43 j) ∧ (p < 720 → ∀ s : Nat, s < 6 → M' 43 (6 * p + s) = ((r / 6 ^ (5 - s) % 6 : Nat) : Int)) := by
  unfold f_X10_isTongue
  generalize hK : (fun (y312 : Int) (M313 : Mem) => if y312 = 63 then some ((1 : Int), M313) else some ((0 : Int), M313)) = K
  obtain ⟨n, ⟨a, b, M1⟩, e, h⟩ := loopN (N := 6) (F := fun n i (st : Int × Int × Mem) => f_X10_isTongue_L8 K (p : Int) n st.1 st.2.1 (5 - (i : Int)) st.2.2) (P := fun i st => st.1 = ((r / 6 ^ i : Nat) : Int) ∧ st.2.1 = ((z_w r i : Nat) : Int) ∧ agx [43] M st.2.2 ∧ (∀ j : Nat, j < 6 * p → st.2.2 43 j = M 43 j) ∧ (p < 720 → ∀ s : Nat, s < 6 → 6 - i ≤ s → st.2.2 43 (6 * p + s) = ((r / 6 ^ (5 - s) % 6 : Nat) : Int))) (by
    intro n i ⟨a, b, M1⟩ hi hP
    obtain ⟨p1, p2, p3, p4, p5⟩ := hP
    have p1 : a = ((r / 6 ^ i : Nat) : Int) := p1
    have p2 : b = ((z_w r i : Nat) : Int) := p2
    have p3 : agx [43] M M1 := p3
    have p4 : ∀ j : Nat, j < 6 * p → M1 43 j = M 43 j := p4
    have p5 : p < 720 → ∀ s : Nat, s < 6 → 6 - i ≤ s → M1 43 (6 * p + s) = ((r / 6 ^ (5 - s) % 6 : Nat) : Int) := p5
    subst p1 p2
    have hq : r / 6 ^ i < 2147483648 := Nat.lt_of_le_of_lt (Nat.div_le_self _ _) (by omega)
    have hm : r / 6 ^ i % 6 < 6 := Nat.mod_lt _ (by decide)
    have hw := z_w_lt r i
    have e1 : r / 6 ^ (i + 1) = r / 6 ^ i / 6 := by rw [Nat.pow_succ, Nat.div_div_eq_div_mul]
    have e2 : z_w r (i + 1) = z_w r i ||| 2 ^ (r / 6 ^ i % 6) := rfl
    have d6 : b_div ((r / 6 ^ i : Nat) : Int) 6 = ((r / 6 ^ i / 6 : Nat) : Int) := b_div_n hq (b := 6) (by decide)
    have m6 : b_rem ((r / 6 ^ i : Nat) : Int) 6 = ((r / 6 ^ i % 6 : Nat) : Int) := b_rem_n hq (b := 6) (by decide)
    have eo : b_or ((z_w r i : Nat) : Int) (b_shl 1 ((r / 6 ^ i % 6 : Nat) : Int)) = ((z_w r i ||| 2 ^ (r / 6 ^ i % 6) : Nat) : Int) := by
      rw [b_shl_1 _ (by omega), b_or_n (by omega) (Nat.lt_of_lt_of_le (Nat.pow_lt_pow_right (by decide) hm) (by decide))]
    have ed : w32 ((5 - (i : Int)) + (-1)) = 5 - ((i + 1 : Nat) : Int) := by rw [w32_id (by omega) (by omega)]; omega
    by_cases hp7 : p < 720
    · refine ⟨(((r / 6 ^ (i + 1) : Nat) : Int), ((z_w r (i + 1) : Nat) : Int), mset M1 43 (6 * p + (5 - i)) ((r / 6 ^ i % 6 : Nat) : Int)), ?_, rfl, rfl, p3.mset (by decide), fun j hj => ?_, fun _ s hs1 hs2 => ?_⟩
      · show f_X10_isTongue_L8 K (p : Int) (n + 1) ((r / 6 ^ i : Nat) : Int) ((z_w r i : Nat) : Int) (5 - (i : Int)) M1 = f_X10_isTongue_L8 K (p : Int) n ((r / 6 ^ (i + 1) : Nat) : Int) ((z_w r (i + 1) : Nat) : Int) (5 - ((i + 1 : Nat) : Int)) (mset M1 43 (6 * p + (5 - i)) ((r / 6 ^ i % 6 : Nat) : Int))
        have ew : w32 (w32 (6 * (p : Int)) + (5 - (i : Int))) = ((6 * p + (5 - i) : Nat) : Int) := by
          clear d6 m6 eo ed
          rw [w32_id (z := 6 * (p : Int)) (by omega) (by omega), w32_id (by omega) (by omega)]; omega
        rw [f_X10_isTongue_L8, if_neg (by clear ew d6 m6 eo ed; omega), if_pos (by clear ew d6 m6 eo ed; omega), ew, if_pos (by clear ew d6 m6 eo ed; exact ⟨by omega, by omega⟩), Int.toNat_natCast, d6, m6, eo, ed, e1, e2]
      · show mset M1 43 (6 * p + (5 - i)) ((r / 6 ^ i % 6 : Nat) : Int) 43 j = M 43 j
        clear d6 m6 eo ed
        rw [mset_i (by omega)]; exact p4 j hj
      · show mset M1 43 (6 * p + (5 - i)) ((r / 6 ^ i % 6 : Nat) : Int) 43 (6 * p + s) = _
        clear d6 m6 eo ed
        by_cases q : s = 5 - i
        · rw [q, mset_at, show 5 - (5 - i) = i by omega]
        · rw [mset_i (by omega)]; exact p5 hp7 s hs1 (by omega)
    · refine ⟨(((r / 6 ^ (i + 1) : Nat) : Int), ((z_w r (i + 1) : Nat) : Int), M1), ?_, rfl, rfl, p3, p4, fun z => absurd z hp7⟩
      show f_X10_isTongue_L8 K (p : Int) (n + 1) ((r / 6 ^ i : Nat) : Int) ((z_w r i : Nat) : Int) (5 - (i : Int)) M1 = f_X10_isTongue_L8 K (p : Int) n ((r / 6 ^ (i + 1) : Nat) : Int) ((z_w r (i + 1) : Nat) : Int) (5 - ((i + 1 : Nat) : Int)) M1
      rw [f_X10_isTongue_L8, if_neg (by clear d6 m6 eo ed; omega), if_neg (by clear d6 m6 eo ed; omega), d6, m6, eo, ed, e1, e2]) 6 100000 0 ((r : Int), 0, M) rfl (by decide) ⟨by show (r : Int) = ((r / 6 ^ 0 : Nat) : Int); rw [Nat.pow_zero, Nat.div_one], rfl, agx.refl, fun _ _ => rfl, fun _ s hs1 hs2 => absurd hs2 (by omega)⟩
  have e : f_X10_isTongue_L8 K (p : Int) 100000 (r : Int) 0 5 M = f_X10_isTongue_L8 K (p : Int) (n + 1) a b (5 - ((6 : Nat) : Int)) M1 := e
  obtain ⟨h1, h2, h3, h4, h5⟩ := h
  have h2 : b = ((z_w r 6 : Nat) : Int) := h2
  rw [e, f_X10_isTongue_L8, if_pos (by decide), ← hK]
  refine ⟨M1, ?_, h3, h4, fun z s hs => h5 z s hs (by omega)⟩
  show (if b = 63 then some ((1 : Int), M1) else some ((0 : Int), M1)) = some (if z_w r 6 = 63 then 1 else 0, M1)
  by_cases q : z_w r 6 = 63
  · rw [if_pos q, if_pos (by rw [h2, q]; rfl)]
  · rw [if_neg q, if_neg (by omega)]
def z_RI (M : Mem) (r : Nat) (m : Nat) (st : Mem) : Prop := m ≤ 720 ∧ (∀ t, t < m → z_val t < r) ∧ (∀ t, t < 720 → m ≤ t → r ≤ z_val t) ∧ agx [43] M st ∧ ∀ j : Nat, j < 6 * m → st 43 j = ((tb j : Nat) : Int)
theorem z_rows (M : Mem) : ∃ M', f_X10_init_tail_L1146 100000 0 0 M = some (0, M') ∧ agx [43] M M' ∧ TB M' := by
  obtain ⟨n, ⟨a, M1⟩, e, h⟩ := loopN (N := 46656) (F := fun n i (st : Int × Mem) => f_X10_init_tail_L1146 n st.1 (i : Int) st.2) (P := fun r st => ∃ m : Nat, st.1 = (m : Int) ∧ z_RI M r m st.2) (by
    intro n r ⟨a, M1⟩ hr hP
    obtain ⟨m, q0, q1, q2, q3, q4, q5⟩ := hP
    have q0 : a = (m : Int) := q0
    have q4 : agx [43] M M1 := q4
    have q5 : ∀ j : Nat, j < 6 * m → M1 43 j = ((tb j : Nat) : Int) := q5
    subst q0
    obtain ⟨M2, s1, s2, s3, s4⟩ := z_isT hr q1 M1
    by_cases hw : z_w r 6 = 63
    · rw [if_pos hw] at s1
      obtain ⟨t, t1, t2⟩ := z_ex hr hw
      have hmt : m ≤ t := by
        rcases Nat.lt_or_ge t m with z | z
        · have := q2 t z; omega
        · exact z
      have hm : m < 720 := by omega
      have htm : t = m := by
        rcases Nat.lt_or_ge m t with z | z
        · have z1 := z_val_m t1 z
          have z2 := q3 m hm (Nat.le_refl _)
          omega
        · omega
      subst htm
      refine ⟨(((t + 1 : Nat) : Int), M2), ?_, t + 1, rfl, by omega, fun t' ht' => ?_, fun t' ht1 ht2 => ?_, q4.trans s2, fun j hj => ?_⟩
      · show f_X10_init_tail_L1146 (n + 1) (t : Int) (r : Int) M1 = f_X10_init_tail_L1146 n ((t + 1 : Nat) : Int) ((r + 1 : Nat) : Int) M2
        rw [f_X10_init_tail_L1146, if_pos (by omega)]
        refine ob_I s1 ?_
        rw [if_neg (by decide), w32_n1 (by omega), w32_n1 (by omega)]
      · by_cases z : t' = t
        · rw [z]; omega
        · have := q2 t' (by omega); omega
      · have := z_val_m ht1 (show t < t' by omega); omega
      · by_cases z : j < 6 * t
        · show M2 43 j = _
          rw [s3 j z]; exact q5 j z
        · obtain ⟨s, rfl⟩ : ∃ s, j = 6 * t + s := ⟨j - 6 * t, by omega⟩
          show M2 43 (6 * t + s) = _
          rw [s4 t1 s (by omega), ← t2, z_val_d t t1 s (by omega)]
    · rw [if_neg hw] at s1
      refine ⟨((m : Int), M2), ?_, m, rfl, q1, fun t' ht' => ?_, fun t' ht1 ht2 => ?_, q4.trans s2, fun j hj => ?_⟩
      · show f_X10_init_tail_L1146 (n + 1) (m : Int) (r : Int) M1 = f_X10_init_tail_L1146 n (m : Int) ((r + 1 : Nat) : Int) M2
        rw [f_X10_init_tail_L1146, if_pos (by omega)]
        refine ob_I s1 ?_
        rw [if_pos rfl, w32_n1 (by omega), Int.add_zero, w32_id (by omega) (by omega)]
      · have := q2 t' ht'; omega
      · have z1 := q3 t' ht1 ht2
        rcases Nat.lt_or_ge r (z_val t') with z | z
        · omega
        · exact absurd (by rw [show r = z_val t' by omega]; exact z_val_w t' ht1) hw
      · show M2 43 j = _
        rw [s3 j hj]; exact q5 j hj) 46656 100000 0 (0, M) rfl (by decide) ⟨0, rfl, by decide, fun t ht => absurd ht (Nat.not_lt_zero _), fun _ _ _ => Nat.zero_le _, agx.refl, fun j hj => absurd hj (Nat.not_lt_zero _)⟩
  have e : f_X10_init_tail_L1146 100000 0 0 M = f_X10_init_tail_L1146 (n + 1) a ((46656 : Nat) : Int) M1 := e
  rw [e, f_X10_init_tail_L1146, if_neg (by decide)]
  obtain ⟨m, q0, q1, q2, q3, q4, q5⟩ := h
  refine ⟨M1, rfl, q4, fun j hj => q5 j ?_⟩
  have hm : m = 720 := by
    rcases Nat.lt_or_ge m 720 with z | z
    · have z1 := q3 m z (Nat.le_refl _)
      have z2 := z_val_lt m z
      omega
    · omega
  omega
