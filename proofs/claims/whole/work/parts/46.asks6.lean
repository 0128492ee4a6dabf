/-! meals, lots -/
def mealB (M : Mem) (s t i : Nat) : Bool := (List.range i).all (fun l => decide (M 50 (40 * s + l) = ((hd M l t : Nat) : Int)))
theorem mealB_s (M : Mem) (s t i : Nat) : mealB M s t (i + 1) = (mealB M s t i && decide (M 50 (40 * s + i) = ((hd M i t : Nat) : Int))) := by unfold mealB; rw [List.range_succ, List.all_append]; simp
theorem mealB_f {M : Mem} {s t i N : Nat} (hi : i < N) (h : ¬ M 50 (40 * s + i) = ((hd M i t : Nat) : Int)) : mealB M s t N = false := by
  unfold mealB
  rw [List.all_eq_false]
  exact ⟨i, List.mem_range.mpr hi, by simp [h]⟩
theorem c_isMeal {M : Mem} {s t : Nat} (h : Inv M) (hs : s < 4) (ht : t < 720) : f_X9_isMeal (s : Int) (t : Int) M = some (bi (mealB M s t (ln M))) := by
  have l2 := h.1.1.2.1
  have e33 : M 3 3 = (ln M : Int) := by rw [h.2.1.1.1, h.1.1.1]
  have hS := h.2.2.2.2.2.1.2
  unfold f_X9_isMeal
  obtain ⟨y, e, hy⟩ := loopX (N := ln M) (F := fun n i (_ : Unit) => f_X9_isMeal_L2 (s : Int) (t : Int) M n (i : Int)) (P := fun i _ => mealB M s t i = true) (Q := fun y => y = bi (mealB M s t (ln M))) (by
    intro n i st hi hP
    have er : f_X4_read (s : Int) (i : Int) M = M 50 (40 * s + i) := by rw [f_X4_read, w40 hs (by omega), rd_n (by omega), hS _ (by omega)]
    by_cases hz : M 50 (40 * s + i) = ((hd M i t : Nat) : Int)
    · left
      refine ⟨(), ?_, by rw [mealB_s, hP]; simp [hz]⟩
      show f_X9_isMeal_L2 (s : Int) (t : Int) M (n + 1) (i : Int) = f_X9_isMeal_L2 (s : Int) (t : Int) M n ((i + 1 : Nat) : Int)
      rw [f_X9_isMeal_L2, if_pos (by omega), er, c_had h.2.1.1 (by omega) ht, if_pos hz, w32_n1 (by omega)]
    · right
      refine ⟨0, ?_, by rw [mealB_f hi hz]; rfl⟩
      show f_X9_isMeal_L2 (s : Int) (t : Int) M (n + 1) (i : Int) = _
      rw [f_X9_isMeal_L2, if_pos (by omega), er, c_had h.2.1.1 (by omega) ht, if_neg hz]) (by
    intro n st hP
    refine ⟨1, ?_, by rw [hP]; rfl⟩
    show f_X9_isMeal_L2 (s : Int) (t : Int) M (n + 1) ((ln M : Nat) : Int) = _
    rw [f_X9_isMeal_L2, if_neg (by omega)]) (ln M) 100000 0 () (by omega) (by omega) rfl
  have e : f_X9_isMeal_L2 (s : Int) (t : Int) M 100000 0 = some y := e
  rw [e, hy]
theorem r_isMeal {K : Int → Mem → Option (Int × Mem)} {x2 : Int} {M M2 : Mem} {s k : Nat} (h : Inv M) (ha : agr M M2) (ho : FO M M2) (hs : s < 4) (hk : k < (FT M).length) : f_X10_match_L63 K (s : Int) x2 (k : Int) 100000 1 0 M2 = K (bi (mealB M s ((FT M).getD k 0) (ln M))) M2 := by
  have l2 := h.1.1.2.1
  have hlen := FT_len M
  have e0 : M2 38 0 = (ln M : Int) := by rw [ha.s 0, h.1.1.1]
  have e50 : M2 50 = M 50 := ha.c 50 (by decide)
  obtain ⟨n, st, e, hP⟩ := loopN (N := ln M) (F := fun n i (st : Int) => f_X10_match_L63 K (s : Int) x2 (k : Int) n st (i : Int) M2) (P := fun i st => st = bi (mealB M s ((FT M).getD k 0) i)) (by
    intro n i st hi hP
    subst hP
    refine ⟨bi (mealB M s ((FT M).getD k 0) (i + 1)), ?_, rfl⟩
    show f_X10_match_L63 K (s : Int) x2 (k : Int) (n + 1) _ (i : Int) M2 = f_X10_match_L63 K (s : Int) x2 (k : Int) n _ ((i + 1 : Nat) : Int) M2
    rw [f_X10_match_L63, if_pos (by omega), w32_n1 (by omega), mealB_s]
    by_cases hb : mealB M s ((FT M).getD k 0) i = true
    · rw [if_neg (by rw [bi_0, hb]; decide), w40' hs (by omega), if_pos ⟨by omega, by omega⟩, if_pos ⟨by omega, by omega⟩, Int.toNat_natCast, Int.toNat_natCast, r_hi h.1 ha ho hk (by omega), Option.bind_some, e50, hb, Bool.true_and]
      by_cases hz : M 50 (40 * s + i) = ((hd M i ((FT M).getD k 0) : Nat) : Int)
      · rw [if_pos hz, decide_eq_true hz]; rfl
      · rw [if_neg hz, decide_eq_false hz]; rfl
    · rw [if_pos (by rw [bi_0]; exact Bool.eq_false_iff.mpr hb), Bool.eq_false_iff.mpr hb, Bool.false_and]; rfl) (ln M) 100000 0 1 (by omega) (by omega) rfl
  have e : f_X10_match_L63 K (s : Int) x2 (k : Int) 100000 1 0 M2 = f_X10_match_L63 K (s : Int) x2 (k : Int) (n + 1) st ((ln M : Nat) : Int) M2 := e
  rw [e, f_X10_match_L63, if_neg (by omega), hP]
theorem op_match {M : Mem} (h : Inv M) (x : Int) : OK2 (f_X9_match x) (f_X10_match x) M := by
  have hb2 : ∀ x : Int, f_X9_isSheet x = f_X9_within x 0 3 := fun _ => rfl
  by_cases h1 : f_X9_within x 0 3 = 0
  · exact OK2.no h (by rw [f_X9_match, hb2, if_pos h1]) (by rw [f_X10_match, in_w, if_pos h1])
  obtain ⟨s, rfl, hs⟩ := ish h1
  have hS := h.2.2.2.2.2.1
  have hr : (0 : Int) ≤ (s : Int) ∧ (s : Int) < 4 := ⟨by omega, by omega⟩
  obtain ⟨s1, s2, s3, s4, s5, s6⟩ := hS.1 s hs
  have ez : f_X4_sizeOf (s : Int) M = M 49 s := by rw [f_X4_sizeOf, rd_n hs, s2]
  have e33 : M 3 3 = M 38 0 := h.2.1.1.1
  by_cases h2 : M 48 s = -1
  · exact OK2.no h (by rw [f_X9_match, hb2, if_neg h1, c_missing hS hs, if_pos h2, if_neg (by decide)]) (by rw [f_X10_match, in_w, if_neg h1, if_pos hr, Int.toNat_natCast, if_pos h2])
  by_cases h3 : M 49 s = M 38 0
  · refine qry h fun M1 e1 a1 i1 c1 => ?_
    have hlen := FT_len M1
    have hcl : f_X9_match_L55 (s : Int) 100000 0 0 M1 = some (((ct M1 (fun t => mealB M1 s t (ln M1)) : Nat) : Int), M1) := by
      obtain ⟨n, st, e, hP⟩ := loopN (N := (FT M1).length) (F := fun n k (st : Int) => f_X9_match_L55 (s : Int) n st (k : Int) M1) (P := fun k st => st = ((ck (FT M1) (fun t => mealB M1 s t (ln M1)) k : Nat) : Int)) (by
        intro n k st hk hP
        subst hP
        have hle := ck_le (FT M1) (fun t => mealB M1 s t (ln M1)) k
        refine ⟨_, ?_, rfl⟩
        show f_X9_match_L55 (s : Int) (n + 1) _ (k : Int) M1 = f_X9_match_L55 (s : Int) n _ ((k + 1 : Nat) : Int) M1
        rw [f_X9_match_L55, if_pos (by rw [c1.1]; omega), c_tongueOf c1 hk, c_isMeal i1 hs (FT_lt (getD_mem hk)), Option.bind_some, ck_s hk, w32_n1 (a := k) (by omega)]
        by_cases hb : mealB M1 s ((FT M1).getD k 0) (ln M1) = true
        · rw [if_neg (by rw [bi_0, hb]; decide), if_pos hb, w32_n1 (by omega)]
        · rw [if_pos (by rw [bi_0]; exact Bool.eq_false_iff.mpr hb), if_neg hb] <;> simp only [Nat.add_zero]) (FT M1).length 100000 0 0 (by omega) (by omega) rfl
      have e : f_X9_match_L55 (s : Int) 100000 0 0 M1 = f_X9_match_L55 (s : Int) (n + 1) st (((FT M1).length : Nat) : Int) M1 := e
      rw [e, f_X9_match_L55, if_neg (by rw [c1.1]; omega), hP, ck_all]; rfl
    refine ⟨((ct M1 (fun t => mealB M1 s t (ln M1)) : Nat) : Int), M1, ?_, agq.refl, i1, c1, fun M3 e3 a3 o3 => ⟨M3, ?_, a3⟩⟩
    · rw [f_X9_match, hb2, if_neg h1, c_missing hS hs, if_neg h2, if_pos rfl, ez, if_pos (by rw [h3, e33])]
      exact ob_I e1 hcl
    · rw [f_X10_match, in_w, if_neg h1, if_pos hr, Int.toNat_natCast, a1.c 48 (by decide), if_neg h2, if_pos hr, a1.c 49 (by decide), a1.s 0, if_pos h3]
      refine ob_I e3 ?_
      obtain ⟨n, st, e, hP⟩ := loopN (N := (FT M1).length) (F := fun n k (st : Int) => f_X10_match_L49 (s : Int) n st (k : Int) M3) (P := fun k st => st = ((ck (FT M1) (fun t => mealB M1 s t (ln M1)) k : Nat) : Int)) (by
        intro n k st hk hP
        subst hP
        have hle := ck_le (FT M1) (fun t => mealB M1 s t (ln M1)) k
        refine ⟨_, ?_, rfl⟩
        show f_X10_match_L49 (s : Int) (n + 1) _ (k : Int) M3 = f_X10_match_L49 (s : Int) n _ ((k + 1 : Nat) : Int) M3
        rw [f_X10_match_L49, if_pos (by rw [o3.1]; omega), r_isMeal i1 a3 o3 hs hk, ck_s hk, w32_n1 (a := k) (by omega)]
        by_cases hb : mealB M1 s ((FT M1).getD k 0) (ln M1) = true
        · rw [if_neg (by rw [bi_0, hb]; decide), if_pos hb, w32_n1 (by omega)]
        · rw [if_pos (by rw [bi_0]; exact Bool.eq_false_iff.mpr hb), if_neg hb, Int.add_zero, w32_id (by omega) (by omega)] <;> simp only [Nat.add_zero]) (FT M1).length 100000 0 0 (by omega) (by omega) rfl
      have e : f_X10_match_L49 (s : Int) 100000 0 0 M3 = f_X10_match_L49 (s : Int) (n + 1) st (((FT M1).length : Nat) : Int) M3 := e
      rw [e, f_X10_match_L49, if_neg (by rw [o3.1]; omega), hP, ck_all]; rfl
  · exact OK2.no h (by rw [f_X9_match, hb2, if_neg h1, c_missing hS hs, if_neg h2, if_pos rfl, ez, e33, if_neg h3]) (by rw [f_X10_match, in_w, if_neg h1, if_pos hr, Int.toNat_natCast, if_neg h2, if_pos hr, if_neg h3])
/-! a lot -/
theorem w64_n1 {a : Nat} (h : a < 2147483647) : w64 ((a : Int) + 1) = ((a + 1 : Nat) : Int) := by
  rw [w64_id (by omega) (by omega)]; omega
def lotN (x N : Nat) : Nat := (x + 1) * 48271 % 2147483647 % N
theorem lot_e {x N : Nat} (hx : x < 200000) (hN : 0 < N) (hN2 : N ≤ 720) : w32 (b_lrem (b_lrem (w64 (w64 ((x : Int) + 1) * 48271)) 2147483647) (N : Int)) = ((lotN x N : Nat) : Int) := by
  have e1 : w64 ((x : Int) + 1) = ((x + 1 : Nat) : Int) := by rw [w64_id (by omega) (by omega)]; omega
  have e2 : w64 (((x + 1 : Nat) : Int) * 48271) = (((x + 1) * 48271 : Nat) : Int) := by rw [w64_id (by omega) (by omega)]; omega
  have h1 : (x + 1) * 48271 % 2147483647 < 2147483647 := Nat.mod_lt _ (by decide)
  have h2 : (x + 1) * 48271 % 2147483647 % N < N := Nat.mod_lt _ hN
  rw [e1, e2, show (2147483647 : Int) = ((2147483647 : Nat) : Int) from rfl, b_lrem_n (by omega) (by decide)]
  unfold lotN
  clear e1 e2
  generalize (x + 1) * 48271 % 2147483647 = y at h1 h2 ⊢
  rw [b_lrem_n (by omega) (by omega)]
  generalize y % N = z at h2 ⊢
  rw [w32_id (by omega) (by omega)]
theorem lotN_lt {x N : Nat} (hN : 0 < N) : lotN x N < N := Nat.mod_lt _ hN
theorem c_drawnBy {M : Mem} {x : Nat} (c : CH M) (hx : x < 200000) (hz : 0 < (FT M).length) : f_X1_drawnBy (x : Int) M = some (((FT M).getD (lotN x (FT M).length) 0 : Nat) : Int) := by
  have hlen := FT_len M
  unfold f_X1_drawnBy
  rw [c.1, if_pos (by omega), if_pos (by omega), lot_e hx hz hlen, c_tongueOf c (lotN_lt hz)]
theorem r_drawnOf {M M2 : Mem} {x : Nat} (ho : FO M M2) (hx : x < 200000) (hz : 0 < (FT M).length) : f_X10_drawnOf (x : Int) M2 = some ((lotN x (FT M).length : Nat) : Int) := by
  have hlen := FT_len M
  unfold f_X10_drawnOf
  rw [ho.1, if_pos (by omega), lot_e hx hz hlen]
theorem op_drawn {M : Mem} (h : Inv M) (x y : Int) : OK2 (f_X9_drawn x y) (f_X10_drawn x y) M := by
  have hb : ∀ x, f_X9_isSign x = f_X9_within x 0 5 := fun _ => rfl
  have hb2 : ∀ x, f_X10_isSign x = f_X9_within x 0 5 := fun _ => rfl
  by_cases h1 : f_X9_within x 0 99999 = 0
  · exact OK2.no h (by rw [f_X9_drawn, if_pos h1]) (by rw [f_X10_drawn, in_w, if_pos h1])
  rcases sign_n (x := y) with h0 | ⟨s, rfl, hs, h0⟩
  · exact OK2.no h (by rw [f_X9_drawn, if_neg h1, hb, if_pos h0]) (by rw [f_X10_drawn, in_w, if_neg h1, hb2, if_pos h0])
  have h1' := h1
  rw [wi_0] at h1'
  obtain ⟨d, rfl⟩ : ∃ d : Nat, x = (d : Int) := ⟨x.toNat, by omega⟩
  have hd2 : d < 200000 := by omega
  refine qry h fun M1 e1 a1 i1 c1 => ?_
  by_cases hz : (FT M1).length = 0
  · refine ⟨-1, M1, ?_, agq.refl, i1, c1, fun M3 e3 a3 o3 => ⟨M3, ?_, a3⟩⟩
    · rw [f_X9_drawn, if_neg h1, hb, if_neg h0]; exact ob_I e1 (by rw [c1.1, if_pos (by omega)])
    · rw [f_X10_drawn, in_w, if_neg h1, hb2, if_neg h0]; exact ob_I e3 (by rw [o3.1, if_pos (by omega)])
  · have hz2 : 0 < (FT M1).length := by omega
    have hlt := lotN_lt (x := d) hz2
    refine ⟨((tb (6 * (FT M1).getD (lotN d (FT M1).length) 0 + s) : Nat) : Int), M1, ?_, agq.refl, i1, c1, fun M3 e3 a3 o3 => ⟨M3, ?_, a3⟩⟩
    · rw [f_X9_drawn, if_neg h1, hb, if_neg h0]
      refine ob_I e1 ?_
      rw [if_neg (by rw [c1.1]; omega), c_drawnBy c1 hd2 hz2, Option.bind_some, c_partOf i1.2.1.1 (FT_lt (getD_mem hlt)) hs]
    · rw [f_X10_drawn, in_w, if_neg h1, hb2, if_neg h0]
      refine ob_I e3 ?_
      rw [if_neg (by rw [o3.1]; omega), r_drawnOf o3 hd2 hz2, Option.bind_some, r_pi i1.1 a3 o3 hlt hs, Option.bind_some]
/-- how many seeds fall on what is shunned -/
def chB (M : Mem) (g l d : Nat) (k : Nat) : Bool := !(hd M l ((FT M).getD (lotN (d + k) (FT M).length) 0) &&& shn M g == 0)
def chA (M : Mem) (g l d : Nat) (n : Nat) : Nat := su (fun k => if chB M g l d k then 1 else 0) n
theorem op_chance {M : Mem} (h : Inv M) (x y z u p : Int) : OK2 (f_X9_chance x y z u p) (f_X10_chance x y z u p) M := by
  have hb4 : ∀ x, f_X9_isFractionPart x = f_X9_within x 0 1 := fun _ => rfl
  rcases isg_n h (x := x) with h0 | ⟨g, rfl, hg, hg2, h0⟩
  · exact OK2.no h (by rw [f_X9_chance, if_pos h0]) (by rw [f_X10_chance, isg_e h, if_pos h0])
  rcases isl_n h (x := y) with h1 | ⟨l, rfl, hl, hl2, h1⟩
  · exact OK2.no h (by rw [f_X9_chance, if_neg h0, if_pos h1]) (by rw [f_X10_chance, isg_e h, if_neg h0, isl_e h, if_pos h1])
  by_cases h2 : f_X9_within z 0 99999 = 0
  · exact OK2.no h (by rw [f_X9_chance, if_neg h0, if_neg h1, if_pos h2]) (by rw [f_X10_chance, isg_e h, if_neg h0, isl_e h, if_neg h1, in_w, if_pos h2])
  by_cases h3 : f_X9_within u 1 30 = 0
  · exact OK2.no h (by rw [f_X9_chance, if_neg h0, if_neg h1, if_neg h2, if_pos h3]) (by rw [f_X10_chance, isg_e h, if_neg h0, isl_e h, if_neg h1, in_w, if_neg h2, in_w, if_pos h3])
  by_cases h4 : f_X9_within p 0 1 = 0
  · exact OK2.no h (by rw [f_X9_chance, if_neg h0, if_neg h1, if_neg h2, if_neg h3, hb4, if_pos h4]) (by rw [f_X10_chance, isg_e h, if_neg h0, isl_e h, if_neg h1, in_w, if_neg h2, in_w, if_neg h3, in_w, if_pos h4])
  have h2' := h2
  have h3' := h3
  have h4' := h4
  rw [wi_0] at h2' h3' h4'
  obtain ⟨d, rfl⟩ : ∃ d : Nat, z = (d : Int) := ⟨z.toNat, by omega⟩
  obtain ⟨n, rfl⟩ : ∃ d : Nat, u = (d : Int) := ⟨u.toNat, by omega⟩
  have hd2 : d ≤ 99999 := by omega
  have hn1 : 1 ≤ n := by omega
  have hn2 : n ≤ 30 := by omega
  have hp : p = 0 ∨ p = 1 := by omega
  refine qry h fun M1 e1 a1 i1 c1 => ?_
  have hlen := FT_len M1
  obtain ⟨hs1, hs2⟩ := shn_e i1.2.2.1 hg2
  have er : rd 4 (M1 37) (g : Int) = ((shn M1 g : Nat) : Int) := by rw [rd_n hg2, (i1.2.2.1.2.2.2.1 g hg2).1, hs1]
  by_cases hz : (FT M1).length = 0
  · refine ⟨-4611686018427387904, M1, ?_, agq.refl, i1, c1, fun M3 e3 a3 o3 => ⟨M3, ?_, a3⟩⟩
    · rw [f_X9_chance, if_neg h0, if_neg h1, if_neg h2, if_neg h3, hb4, if_neg h4]
      exact ob_I e1 (by rw [if_pos (by rw [c1.1]; omega)])
    · rw [f_X10_chance, rguest_n a1 i1, if_neg h0, isl_e i1, line_n h a1, if_neg h1, in_w, if_neg h2, in_w, if_neg h3, in_w, if_neg h4]
      refine ob_I e3 ?_
      rw [f_X10_chance_L62, if_pos (by omega), if_neg (by rw [o3.1]; omega), if_pos (by rw [o3.1]; omega)]
  · have hz2 : 0 < (FT M1).length := by omega
    have hle : ∀ k, chA M1 g l d k ≤ k := fun k => su_le1 (fun k => if_le1) k
    have hs : ∀ k, chA M1 g l d (k + 1) = chA M1 g l d k + if chB M1 g l d k then 1 else 0 := fun k => su_s _ _
    refine ⟨frv (chA M1 g l d n) n p, M1, ?_, agq.refl, i1, c1, fun M3 e3 a3 o3 => ⟨M3, ?_, a3⟩⟩
    · rw [f_X9_chance, if_neg h0, if_neg h1, if_neg h2, if_neg h3, hb4, if_neg h4]
      refine ob_I e1 ?_
      rw [if_neg (by rw [c1.1]; omega)]
      obtain ⟨nn, st, e, hP⟩ := loopN (N := n) (F := fun nn k (st : Int) => f_X9_chance_L74 (fun y297 M298 => (f_X9_fraction y297 (n : Int) p).bind fun r299 => some (r299, M298)) (g : Int) (l : Int) (d : Int) (n : Int) p nn st (k : Int) M1) (P := fun k st => st = ((chA M1 g l d k : Nat) : Int)) (by
        intro nn k st hk hP
        subst hP
        have hlk := hle k
        have ht := FT_lt (getD_mem (lotN_lt (x := d + k) hz2))
        have hh := hd_lt (M := M1) (l := l) ht
        have ew : ∀ _ : Unit, w32 ((d : Int) + (k : Int)) = ((d + k : Nat) : Int) := fun _ => by rw [w32_id (by omega) (by omega)]; omega
        refine ⟨((chA M1 g l d (k + 1) : Nat) : Int), ?_, rfl⟩
        show f_X9_chance_L74 _ (g : Int) (l : Int) (d : Int) (n : Int) p (nn + 1) _ (k : Int) M1 = f_X9_chance_L74 _ (g : Int) (l : Int) (d : Int) (n : Int) p nn _ ((k + 1 : Nat) : Int) M1
        rw [f_X9_chance_L74, if_pos (by omega), ew (), c_drawnBy c1 (by omega) hz2, Option.bind_some, c_had i1.2.1.1 hl2 ht, er, b_and_n (by omega) (by omega), hs k, w32_n1 (a := k) (by omega)]
        by_cases hb : hd M1 l ((FT M1).getD (lotN (d + k) (FT M1).length) 0) &&& shn M1 g = 0
        · rw [if_pos (by omega), if_neg (show ¬ chB M1 g l d k = true from nbeq_f hb)] <;> simp only [Nat.add_zero]
        · rw [if_neg (by omega), if_pos (show chB M1 g l d k = true from nbeq_t hb), w32_n1 (by omega)]) n 100000 0 0 (by omega) (by omega) rfl
      have e : f_X9_chance_L74 (fun y297 M298 => (f_X9_fraction y297 (n : Int) p).bind fun r299 => some (r299, M298)) (g : Int) (l : Int) (d : Int) (n : Int) p 100000 0 0 M1 = f_X9_chance_L74 (fun y297 M298 => (f_X9_fraction y297 (n : Int) p).bind fun r299 => some (r299, M298)) (g : Int) (l : Int) (d : Int) (n : Int) p (nn + 1) st ((n : Nat) : Int) M1 := e
      rw [e, f_X9_chance_L74, if_neg (by omega), hP, c_fraction (hle n) (by omega) (by omega) hp]; rfl
    · rw [f_X10_chance, rguest_n a1 i1, if_neg h0, isl_e i1, line_n h a1, if_neg h1, in_w, if_neg h2, in_w, if_neg h3, in_w, if_neg h4]
      refine ob_I e3 ?_
      obtain ⟨nn, st, e, hP⟩ := loopN (N := n) (F := fun nn k (st : Int) => f_X10_chance_L62 (fun y560 M561 => if M561 38 40 = 0 then some ((-4611686018427387904), M561) else (f_X10_lowest y560 (n : Int) p).bind fun r562 => some (r562, M561)) (g : Int) (l : Int) (d : Int) (n : Int) p nn st (k : Int) M3) (P := fun k st => st = ((chA M1 g l d k : Nat) : Int)) (by
        intro nn k st hk hP
        subst hP
        have hlk := hle k
        have hlt := lotN_lt (x := d + k) hz2
        have hh := hd_lt (M := M1) (l := l) (FT_lt (getD_mem hlt))
        have ew : ∀ _ : Unit, w32 ((d : Int) + (k : Int)) = ((d + k : Nat) : Int) := fun _ => by rw [w32_id (by omega) (by omega)]; omega
        refine ⟨((chA M1 g l d (k + 1) : Nat) : Int), ?_, rfl⟩
        show f_X10_chance_L62 _ (g : Int) (l : Int) (d : Int) (n : Int) p (nn + 1) _ (k : Int) M3 = f_X10_chance_L62 _ (g : Int) (l : Int) (d : Int) (n : Int) p nn _ ((k + 1 : Nat) : Int) M3
        rw [f_X10_chance_L62, if_pos (by omega), if_pos (by rw [o3.1]; omega), ew (), r_drawnOf o3 (by omega) hz2, Option.bind_some, if_pos ⟨by omega, by omega⟩, Int.toNat_natCast, r_hi i1.1 a3 o3 hlt hl2, Option.bind_some, if_pos ⟨by omega, by omega⟩, Int.toNat_natCast, a3.c 41 (by decide), hs1, b_and_n (by omega) (by omega), hs k, w32_n1 (a := k) (by omega)]
        by_cases hb : hd M1 l ((FT M1).getD (lotN (d + k) (FT M1).length) 0) &&& shn M1 g = 0
        · rw [if_pos (by omega), if_neg (show ¬ chB M1 g l d k = true from nbeq_f hb), Int.add_zero, w64_id (by omega) (by omega)] <;> simp only [Nat.add_zero]
        · rw [if_neg (by omega), if_pos (show chB M1 g l d k = true from nbeq_t hb), w64_n1 (by omega)]) n 100000 0 0 (by omega) (by omega) rfl
      have e : f_X10_chance_L62 (fun y560 M561 => if M561 38 40 = 0 then some ((-4611686018427387904), M561) else (f_X10_lowest y560 (n : Int) p).bind fun r562 => some (r562, M561)) (g : Int) (l : Int) (d : Int) (n : Int) p 100000 0 0 M3 = f_X10_chance_L62 (fun y560 M561 => if M561 38 40 = 0 then some ((-4611686018427387904), M561) else (f_X10_lowest y560 (n : Int) p).bind fun r562 => some (r562, M561)) (g : Int) (l : Int) (d : Int) (n : Int) p (nn + 1) st ((n : Nat) : Int) M3 := e
      rw [e, f_X10_chance_L62, if_neg (by omega), hP, if_neg (by rw [o3.1]; omega), r_lowest (hle n) (by omega) (by omega) hp]; rfl
