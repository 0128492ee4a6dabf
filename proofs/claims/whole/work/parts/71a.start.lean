/-! the start: the class's tongues -/
def z_trn (i : Nat) : Nat := ([120, 24, 6, 2, 1, 1] : List Nat).getD i 1
theorem z_trn_e : ∀ i : Nat, i < 6 → (if 1 < rd 6 frT (i : Int) then rd 6 frT (i : Int) else 1) = ((z_trn i : Nat) : Int) := by decide +kernel
theorem z_trn_p : ∀ i : Nat, i < 6 → 0 < z_trn i ∧ z_trn i < 200 := by decide +kernel
/-- the part at a place of those that are left -/
def z_mem (u k : Nat) : Nat := ((List.range 6).filter (fun j => (u >>> j) % 2 == 1)).getD k 32
theorem z_mem_e : ∀ u : Nat, u < 64 → ∀ k : Nat, k < 6 → f_X7_member (u : Int) (k : Int) = some ((z_mem u k : Nat) : Int) := by decide +kernel
def z_rs (t : Nat) : Nat → Nat
  | 0 => t
  | i + 1 => z_rs t i % z_trn i
def z_un (t : Nat) : Nat → Nat
  | 0 => 63
  | i + 1 => z_un t i ^^^ (z_un t i &&& 2 ^ tb (6 * t + i))
theorem z_tab : ∀ t : Nat, t < 720 → ∀ i : Nat, i < 6 → z_rs t i < 720 ∧ z_un t i < 64 ∧ z_rs t i / z_trn i < 6 ∧ z_mem (z_un t i) (z_rs t i / z_trn i) = tb (6 * t + i) := by decide +kernel
theorem z_spell {t : Nat} (ht : t < 720) (M : Mem) : ∃ M', f_X7_spell (t : Int) M = some (0, M') ∧ agx [2] M M' ∧ ∀ j : Nat, M' 2 j = if 6 * t ≤ j ∧ j < 6 * t + 6 then ((tb j : Nat) : Int) else M 2 j := by
  unfold f_X7_spell
  obtain ⟨n, ⟨a, b, M1⟩, e, h⟩ := loopN (N := 6) (F := fun n i (st : Int × Int × Mem) => f_X7_spell_L8 (t : Int) n st.1 st.2.1 (i : Int) st.2.2) (P := fun i st => st.1 = ((z_rs t i : Nat) : Int) ∧ st.2.1 = ((z_un t i : Nat) : Int) ∧ agx [2] M st.2.2 ∧ ∀ j : Nat, st.2.2 2 j = if 6 * t ≤ j ∧ j < 6 * t + i then ((tb j : Nat) : Int) else M 2 j) (by
    intro n i ⟨a, b, M1⟩ hi hP
    obtain ⟨p1, p2, p3, p4⟩ := hP
    have p1 : a = ((z_rs t i : Nat) : Int) := p1
    have p2 : b = ((z_un t i : Nat) : Int) := p2
    have p3 : agx [2] M M1 := p3
    have p4 : ∀ j : Nat, M1 2 j = if 6 * t ≤ j ∧ j < 6 * t + i then ((tb j : Nat) : Int) else M 2 j := p4
    subst p1 p2
    obtain ⟨k1, k2, k3, k4⟩ := z_tab t ht i hi
    obtain ⟨t1, t2⟩ := z_trn_p i hi
    have htb := tb_lt t ht i hi
    have hpw : 2 ^ tb (6 * t + i) < 2147483648 := Nat.lt_of_lt_of_le (Nat.pow_lt_pow_right (by decide) htb) (by decide)
    have ew : w32 (w32 ((t : Int) * 6) + (i : Int)) = ((6 * t + i : Nat) : Int) := by
      rw [w32_id (z := (t : Int) * 6) (by omega) (by omega), w32_id (by omega) (by omega)]; omega
    refine ⟨(((z_rs t (i + 1) : Nat) : Int), ((z_un t (i + 1) : Nat) : Int), mset M1 2 (6 * t + i) ((tb (6 * t + i) : Nat) : Int)), ?_, rfl, rfl, p3.mset (by decide), fun j => ?_⟩
    · show f_X7_spell_L8 (t : Int) (n + 1) ((z_rs t i : Nat) : Int) ((z_un t i : Nat) : Int) (i : Int) M1 = f_X7_spell_L8 (t : Int) n ((z_rs t (i + 1) : Nat) : Int) ((z_un t (i + 1) : Nat) : Int) ((i + 1 : Nat) : Int) (mset M1 2 (6 * t + i) ((tb (6 * t + i) : Nat) : Int))
      have e1 : z_rs t (i + 1) = z_rs t i % z_trn i := rfl
      have e2 : z_un t (i + 1) = z_un t i ^^^ (z_un t i &&& 2 ^ tb (6 * t + i)) := rfl
      rw [f_X7_spell_L8, if_pos (by clear ew; omega), z_trn_e i hi, if_pos (by clear ew; omega), b_div_n (by clear ew; omega) (by clear ew; omega), z_mem_e _ k2 _ k3, k4, ew, e1, e2]
      simp only [Option.bind_some]
      rw [if_pos (by clear ew; omega), b_rem_n (by clear ew; omega) (by clear ew; omega), b_shl_1 _ (by clear ew; omega), b_andn_n (by clear ew; omega) hpw, w32_n1 (by clear ew; omega), wr_n (by clear ew; omega)]
    · show mset M1 2 (6 * t + i) ((tb (6 * t + i) : Nat) : Int) 2 j = _
      clear ew
      by_cases q : j = 6 * t + i
      · subst q
        rw [mset_at, if_pos ⟨by omega, by omega⟩]
      · rw [mset_i q]
        refine (p4 j).trans ?_
        by_cases q2 : 6 * t ≤ j ∧ j < 6 * t + i
        · rw [if_pos q2, if_pos ⟨by omega, by omega⟩]
        · rw [if_neg q2, if_neg (by omega)]) 6 100000 0 ((t : Int), 63, M) rfl (by decide) ⟨rfl, rfl, agx.refl, fun j => by
      show M 2 j = _
      rw [if_neg (by omega)]⟩
  have e : f_X7_spell_L8 (t : Int) 100000 (t : Int) 63 0 M = f_X7_spell_L8 (t : Int) (n + 1) a b ((6 : Nat) : Int) M1 := e
  rw [e, f_X7_spell_L8, if_neg (by decide)]
  exact ⟨M1, rfl, h.2.2.1, h.2.2.2⟩
theorem z_X7 (M : Mem) : ∃ M', f_X7_init M = some (0, M') ∧ agx [2] M M' ∧ ∀ j : Nat, j < 4320 → M' 2 j = ((tb j : Nat) : Int) := by
  unfold f_X7_init f_X7_init_tail
  obtain ⟨n, M1, e, h⟩ := loopN (N := 720) (F := fun n i (st : Mem) => f_X7_init_tail_L15 n (i : Int) st) (P := fun i st => agx [2] M st ∧ ∀ j : Nat, j < 6 * i → st 2 j = ((tb j : Nat) : Int)) (by
    intro n i M1 hi hP
    obtain ⟨p1, p2⟩ := hP
    obtain ⟨M2, s1, s2, s3⟩ := z_spell hi M1
    refine ⟨M2, ?_, p1.trans s2, fun j hj => ?_⟩
    · show f_X7_init_tail_L15 (n + 1) (i : Int) M1 = f_X7_init_tail_L15 n ((i + 1 : Nat) : Int) M2
      rw [f_X7_init_tail_L15, if_pos (by omega)]
      refine ob_I s1 ?_
      rw [w32_n1 (by omega)]
    · rw [s3 j]
      by_cases q : 6 * i ≤ j ∧ j < 6 * i + 6
      · rw [if_pos q]
      · rw [if_neg q]; exact p2 j (by omega)) 720 100000 0 (mup M 2 (fun _ => 0)) rfl (by decide) ⟨agx.refl.mup (by decide), fun j hj => absurd hj (Nat.not_lt_zero _)⟩
  have e : f_X7_init_tail_L15 100000 0 (mup M 2 (fun _ => 0)) = f_X7_init_tail_L15 (n + 1) ((720 : Nat) : Int) M1 := e
  rw [e, f_X7_init_tail_L15, if_neg (by decide)]
  exact ⟨M1, rfl, h.1, fun j hj => h.2 j (by omega)⟩
