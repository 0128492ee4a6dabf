/-! what fits: the reference, after finding -/
theorem FO.of {M M2 M3 : Mem} {L : List Nat} (h : FO M M2) (ha : agx L M2 M3) (hL : 38 ∉ L ∧ 56 ∉ L ∧ 58 ∉ L := by decide) : FO M M3 := by
  unfold FO
  rw [ha 38 hL.1, ha 58 hL.2.2, ha 56 hL.2.1]
  exact h
theorem r_pi {M M2 : Mem} {k s : Nat} (h : RA M) (ha : agr M M2) (ho : FO M M2) (hk : k < (FT M).length) (hs : s < 6) : f_X10_partIn (k : Int) (s : Int) M2 = some ((tb (6 * (FT M).getD k 0 + s) : Nat) : Int) := by
  have hlt := FT_lt (getD_mem hk)
  have hlen := FT_len M
  have e : w32 (w32 (6 * (((FT M).getD k 0 : Nat) : Int)) + (s : Int)) = ((6 * (FT M).getD k 0 + s : Nat) : Int) := by
    rw [w32_id (z := 6 * (((FT M).getD k 0 : Nat) : Int)) (by omega) (by omega), w32_id (by omega) (by omega)]; omega
  rw [f_X10_partIn, if_pos ⟨by omega, by omega⟩, Int.toNat_natCast, ho.2.1 k hk, e, if_pos ⟨by omega, by omega⟩, Int.toNat_natCast, ha.c 43 (by decide), h.2.2.1 _ (by omega)]
theorem r_hx {M M2 : Mem} {t l : Nat} (h : RA M) (ha : agr M M2) (ht : t < 720) (hl : l < 10) : f_X10_hasIn (l : Int) (t : Int) M2 = some ((hd M l t : Nat) : Int) := by
  have h1 := h.1.2.2 l hl
  have h2 := r_hasIn (M := M2) (l := l) (t := t) (sg := sgn M l) hl ht (by rw [ha.c 39 (by decide)]; exact h1.1) h1.2.1 (by rw [ha.eTB]; exact h.2.2.1)
  exact h2
theorem r_hi {M M2 : Mem} {k l : Nat} (h : RA M) (ha : agr M M2) (ho : FO M M2) (hk : k < (FT M).length) (hl : l < 10) : f_X10_hasIn (l : Int) (M2 58 k) M2 = some ((hd M l ((FT M).getD k 0) : Nat) : Int) := by
  rw [ho.2.1 k hk]
  exact r_hx h ha (FT_lt (getD_mem hk)) hl
theorem r_meansIn {M M2 : Mem} {s p : Nat} (h : RA M) (ha : agr M M2) (ho : FO M M2) (hs : s < 6) : f_X10_meansIn (s : Int) (p : Int) M2 = some ((ct M (fun t => tb (6 * t + s) == p) : Nat) : Int) := by
  have hlen := FT_len M
  unfold f_X10_meansIn
  obtain ⟨n, st, e, hP⟩ := loopN (N := (FT M).length) (F := fun n k (st : Int) => f_X10_meansIn_L5 (s : Int) (p : Int) M2 n st (k : Int)) (P := fun k st => st = ((ck (FT M) (fun t => tb (6 * t + s) == p) k : Nat) : Int)) (by
    intro n k st hk hP
    subst hP
    have hle := ck_le (FT M) (fun t => tb (6 * t + s) == p) k
    refine ⟨_, ?_, rfl⟩
    show f_X10_meansIn_L5 (s : Int) (p : Int) M2 (n + 1) _ (k : Int) = f_X10_meansIn_L5 (s : Int) (p : Int) M2 n _ ((k + 1 : Nat) : Int)
    rw [f_X10_meansIn_L5, if_pos (by rw [ho.1]; omega), r_pi h ha ho hk hs, Option.bind_some, ck_s hk, w32_n1 (a := k) (by omega)]
    by_cases hb : tb (6 * (FT M).getD k 0 + s) = p
    · rw [if_pos (by omega), if_pos (beq_t hb), w32_n1 (by omega)]
    · rw [if_neg (by omega), if_neg (beq_f hb), Int.add_zero, w32_id (by omega) (by omega)] <;> simp only [Nat.add_zero]) (FT M).length 100000 0 0 (by omega) (by omega) rfl
  have e : f_X10_meansIn_L5 (s : Int) (p : Int) M2 100000 0 0 = f_X10_meansIn_L5 (s : Int) (p : Int) M2 (n + 1) st (((FT M).length : Nat) : Int) := e
  rw [e, f_X10_meansIn_L5, if_neg (by rw [ho.1]; omega), hP, ck_all]
  rfl
/-- how many parts a sign has -/
def unl (M : Mem) (s : Nat) : Nat := su (fun p => if 0 < ct M (fun t => tb (6 * t + s) == p) then 1 else 0) 6
theorem su_le1 {f : Nat → Nat} (h : ∀ k, f k ≤ 1) (n : Nat) : su f n ≤ n := by
  induction n with
  | zero => exact Nat.le_refl _
  | succ n ih => rw [su_s]; have := h n; omega
theorem if_le1 {c : Prop} [Decidable c] : (if c then (1 : Nat) else 0) ≤ 1 := by split <;> omega
theorem r_unlikeOf {M M2 : Mem} {s : Nat} (h : RA M) (ha : agr M M2) (ho : FO M M2) (hs : s < 6) : f_X10_unlikeOf (s : Int) M2 = some ((unl M s : Nat) : Int) := by
  unfold f_X10_unlikeOf
  obtain ⟨n, st, e, hP⟩ := loopN (N := 6) (F := fun n k (st : Int) => f_X10_unlikeOf_L4 (s : Int) M2 n st (k : Int)) (P := fun k st => st = ((su (fun p => if 0 < ct M (fun t => tb (6 * t + s) == p) then 1 else 0) k : Nat) : Int)) (by
    intro n k st hk hP
    subst hP
    have hle := su_le1 (f := fun p => if 0 < ct M (fun t => tb (6 * t + s) == p) then 1 else 0) (fun p => if_le1) k
    refine ⟨_, ?_, rfl⟩
    show f_X10_unlikeOf_L4 (s : Int) M2 (n + 1) _ (k : Int) = f_X10_unlikeOf_L4 (s : Int) M2 n _ ((k + 1 : Nat) : Int)
    rw [f_X10_unlikeOf_L4, if_pos (by omega), r_meansIn h ha ho hs, Option.bind_some, su_s, w32_n1 (a := k) (by omega)]
    by_cases hb : 0 < ct M (fun t => tb (6 * t + s) == k)
    · rw [if_pos (by omega), if_pos hb, w32_n1 (by omega)]
    · rw [if_neg (by omega), if_neg hb, Int.add_zero, w32_id (by omega) (by omega)] <;> simp only [Nat.add_zero]) 6 100000 0 0 (by omega) (by omega) rfl
  have e : f_X10_unlikeOf_L4 (s : Int) M2 100000 0 0 = f_X10_unlikeOf_L4 (s : Int) M2 (n + 1) st ((6 : Nat) : Int) := e
  rw [e, f_X10_unlikeOf_L4, if_neg (by decide), hP]
  rfl
/-! the class, of its caches -/
theorem ct_le (M : Mem) (P : Nat → Bool) : ct M P ≤ 720 := Nat.le_trans List.countP_le_length (FT_len M)
theorem c_meaning {M : Mem} {s p : Nat} (h : CH M) (hs : s < 6) (hp : p < 6) : f_X1_meaning (s : Int) (p : Int) M = ((ct M (fun t => tb (6 * t + s) == p) : Nat) : Int) := by
  rw [f_X1_meaning, w6 hs hp, rd_n (by omega), h.2.2.1 s hs p hp]
theorem c_meaningsOf {M : Mem} {s : Nat} (h : CH M) (hs : s < 6) : f_X1_meaningsOf (s : Int) M = some ((unl M s : Nat) : Int) := by
  unfold f_X1_meaningsOf
  obtain ⟨n, st, e, hP⟩ := loopN (N := 6) (F := fun n k (st : Int) => f_X1_meaningsOf_L4 (s : Int) M n st (k : Int)) (P := fun k st => st = ((su (fun p => if 0 < ct M (fun t => tb (6 * t + s) == p) then 1 else 0) k : Nat) : Int)) (by
    intro n k st hk hP
    subst hP
    have hle := su_le1 (f := fun p => if 0 < ct M (fun t => tb (6 * t + s) == p) then 1 else 0) (fun p => if_le1) k
    refine ⟨_, ?_, rfl⟩
    show f_X1_meaningsOf_L4 (s : Int) M (n + 1) _ (k : Int) = f_X1_meaningsOf_L4 (s : Int) M n _ ((k + 1 : Nat) : Int)
    rw [f_X1_meaningsOf_L4, if_pos (by omega), c_meaning h hs hk, su_s, w32_n1 (a := k) (by omega)]
    by_cases hb : 0 < ct M (fun t => tb (6 * t + s) == k)
    · rw [if_pos (by omega), if_pos hb, w32_n1 (by omega)]
    · rw [if_neg (by omega), if_neg hb] <;> simp only [Nat.add_zero]) 6 100000 0 0 (by omega) (by omega) rfl
  have e : f_X1_meaningsOf_L4 (s : Int) M 100000 0 0 = f_X1_meaningsOf_L4 (s : Int) M (n + 1) st ((6 : Nat) : Int) := e
  rw [e, f_X1_meaningsOf_L4, if_neg (by decide), hP]
  rfl
theorem c_tongueOf {M : Mem} {k : Nat} (h : CH M) (hk : k < (FT M).length) : f_X1_tongueOf (k : Int) M = (((FT M).getD k 0 : Nat) : Int) := by
  have := FT_len M
  rw [f_X1_tongueOf, rd_n (by omega), h.2.1 k hk]
theorem sign_n {x : Int} : f_X9_within x 0 5 = 0 ∨ ∃ s : Nat, x = (s : Int) ∧ s < 6 ∧ ¬ f_X9_within x 0 5 = 0 := by
  by_cases h : f_X9_within x 0 5 = 0
  · exact Or.inl h
  · right
    have h1 := h
    rw [wi_0] at h1
    exact ⟨x.toNat, by omega, by omega, h⟩
/-- a query: what the class's caches and the reference's finding give -/
theorem qry {M : Mem} (h : Inv M) {p q : Mem → Option (Int × Mem)}
    (hp : ∀ M1 : Mem, f_X9_fitting M = some (0, M1) → agq M M1 → Inv M1 → CH M1 → ∃ r M2, p M = some (r, M2) ∧ agq M1 M2 ∧ Inv M2 ∧ CH M2 ∧ ∀ M3 : Mem, f_X10_finds M2 = some (0, M3) → agr M2 M3 → FO M2 M3 → ∃ M4, q M2 = some (r, M4) ∧ agr M2 M4) : OK2 p q M := by
  obtain ⟨M1, e1, a1, i1, c1, z1⟩ := h.fit
  obtain ⟨r, M2, e2, a2, i2, c2, k⟩ := hp M1 e1 a1 i1 c1
  obtain ⟨M3, e3, a3, o3⟩ := r_finds i2.1
  obtain ⟨M4, e4, a4⟩ := k M3 e3 a3 o3
  exact ⟨r, M2, M4, e2, e4, i2.rq c2 a4⟩
theorem op_sets {M : Mem} (h : Inv M) : OK2 f_X9_sets f_X10_sets M := by
  refine qry h fun M1 e1 a1 i1 c1 => ⟨((FT M1).length : Int), M1, ?_, agq.refl, i1, c1, fun M3 e3 a3 o3 => ⟨M3, ?_, a3⟩⟩
  · rw [f_X9_sets]; exact ob_I e1 (by rw [c1.1])
  · rw [f_X10_sets]; exact ob_I e3 (by rw [o3.1])
theorem op_first {M : Mem} (h : Inv M) (x : Int) : OK2 (f_X9_first x) (f_X10_first x) M := by
  have hb : f_X9_isSign x = f_X9_within x 0 5 := rfl
  have hb2 : f_X10_isSign x = f_X9_within x 0 5 := rfl
  rcases sign_n (x := x) with h0 | ⟨s, rfl, hs, h0⟩
  · exact OK2.no h (by rw [f_X9_first, hb, if_pos h0]) (by rw [f_X10_first, hb2, if_pos h0])
  refine qry h fun M1 e1 a1 i1 c1 => ?_
  by_cases hz : (FT M1).length = 0
  · refine ⟨-1, M1, ?_, agq.refl, i1, c1, fun M3 e3 a3 o3 => ⟨M3, ?_, a3⟩⟩
    · rw [f_X9_first, hb, if_neg h0]; exact ob_I e1 (by rw [c1.1, if_pos (by omega)])
    · rw [f_X10_first, hb2, if_neg h0]; exact ob_I e3 (by rw [o3.1, if_pos (by omega)])
  · refine ⟨((tb (6 * (FT M1).getD 0 0 + s) : Nat) : Int), M1, ?_, agq.refl, i1, c1, fun M3 e3 a3 o3 => ⟨M3, ?_, a3⟩⟩
    · rw [f_X9_first, hb, if_neg h0]
      refine ob_I e1 ?_
      have e0 := c_tongueOf c1 (k := 0) (by omega)
      rw [c1.1, if_neg (by omega), show (0 : Int) = ((0 : Nat) : Int) from rfl, e0, c_partOf i1.2.1.1 (FT_lt (getD_mem (by omega))) hs]
    · rw [f_X10_first, hb2, if_neg h0]
      refine ob_I e3 ?_
      rw [o3.1, if_neg (by omega), show (0 : Int) = ((0 : Nat) : Int) from rfl, r_pi i1.1 a3 o3 (by omega) hs, Option.bind_some]
theorem op_means {M : Mem} (h : Inv M) (x y : Int) : OK2 (f_X9_means x y) (f_X10_means x y) M := by
  have hb : ∀ x, f_X9_isSign x = f_X9_within x 0 5 := fun _ => rfl
  have hb2 : ∀ x, f_X10_isSign x = f_X9_within x 0 5 := fun _ => rfl
  have hb3 : ∀ x, f_X9_isPart x = f_X9_within x 0 5 := fun _ => rfl
  rcases sign_n (x := x) with h0 | ⟨s, rfl, hs, h0⟩
  · exact OK2.no h (by rw [f_X9_means, hb, if_pos h0]) (by rw [f_X10_means, hb2, if_pos h0])
  rcases sign_n (x := y) with h1 | ⟨p, rfl, hp, h1⟩
  · exact OK2.no h (by rw [f_X9_means, hb, if_neg h0, hb3, if_pos h1]) (by rw [f_X10_means, hb2, if_neg h0, hb2, if_pos h1])
  refine qry h fun M1 e1 a1 i1 c1 => ⟨((ct M1 (fun t => tb (6 * t + s) == p) : Nat) : Int), M1, ?_, agq.refl, i1, c1, fun M3 e3 a3 o3 => ⟨M3, ?_, a3⟩⟩
  · rw [f_X9_means, hb, if_neg h0, hb3, if_neg h1]; exact ob_I e1 (by rw [c_meaning c1 hs hp])
  · rw [f_X10_means, hb2, if_neg h0, hb2, if_neg h1]
    exact ob_I e3 (by rw [r_meansIn i1.1 a3 o3 hs, Option.bind_some])
theorem op_odds {M : Mem} (h : Inv M) (x y z : Int) : OK2 (f_X9_odds x y z) (f_X10_odds x y z) M := by
  have hb : ∀ x, f_X9_isSign x = f_X9_within x 0 5 := fun _ => rfl
  have hb2 : ∀ x, f_X10_isSign x = f_X9_within x 0 5 := fun _ => rfl
  have hb3 : ∀ x, f_X9_isPart x = f_X9_within x 0 5 := fun _ => rfl
  have hb4 : ∀ x, f_X9_isFractionPart x = f_X9_within x 0 1 := fun _ => rfl
  rcases sign_n (x := x) with h0 | ⟨s, rfl, hs, h0⟩
  · exact OK2.no h (by rw [f_X9_odds, hb, if_pos h0]) (by rw [f_X10_odds, hb2, if_pos h0])
  rcases sign_n (x := y) with h1 | ⟨p, rfl, hp, h1⟩
  · exact OK2.no h (by rw [f_X9_odds, hb, if_neg h0, hb3, if_pos h1]) (by rw [f_X10_odds, hb2, if_neg h0, hb2, if_pos h1])
  by_cases h2 : f_X9_within z 0 1 = 0
  · exact OK2.no h (by rw [f_X9_odds, hb, if_neg h0, hb3, if_neg h1, hb4, if_pos h2]) (by rw [f_X10_odds, hb2, if_neg h0, hb2, if_neg h1, in_w, if_pos h2])
  have h2' := h2
  rw [wi_0] at h2'
  refine qry h fun M1 e1 a1 i1 c1 => ?_
  have hlen := FT_len M1
  have hc : ct M1 (fun t => tb (6 * t + s) == p) ≤ (FT M1).length := List.countP_le_length
  by_cases hz : (FT M1).length = 0
  · refine ⟨-4611686018427387904, M1, ?_, agq.refl, i1, c1, fun M3 e3 a3 o3 => ⟨M3, ?_, a3⟩⟩
    · rw [f_X9_odds, hb, if_neg h0, hb3, if_neg h1, hb4, if_neg h2]
      refine ob_I e1 ?_
      rw [c_meaning c1 hs hp, c1.1, hz, show ct M1 (fun t => tb (6 * t + s) == p) = 0 by omega]
      show (f_X9_fraction 0 0 z).bind _ = _
      rw [c_fraction0]; rfl
    · rw [f_X10_odds, hb2, if_neg h0, hb2, if_neg h1, in_w, if_neg h2]
      refine ob_I e3 ?_
      rw [r_meansIn i1.1 a3 o3 hs, Option.bind_some, f_X10_ofAll, o3.1, if_pos (by omega)]; rfl
  · refine ⟨frv (ct M1 (fun t => tb (6 * t + s) == p)) (FT M1).length z, M1, ?_, agq.refl, i1, c1, fun M3 e3 a3 o3 => ⟨M3, ?_, a3⟩⟩
    · rw [f_X9_odds, hb, if_neg h0, hb3, if_neg h1, hb4, if_neg h2]
      refine ob_I e1 ?_
      rw [c_meaning c1 hs hp, c1.1, c_fraction hc (by omega) (by omega) (by omega)]; rfl
    · rw [f_X10_odds, hb2, if_neg h0, hb2, if_neg h1, in_w, if_neg h2]
      refine ob_I e3 ?_
      rw [r_meansIn i1.1 a3 o3 hs, Option.bind_some, f_X10_ofAll, o3.1, if_neg (by omega), r_lowest hc (by omega) (by omega) (by omega)]; rfl
/-- a part that all have is the part of the first -/
theorem sure_p {M : Mem} {s p : Nat} (hz : 0 < (FT M).length) (h : ct M (fun t => tb (6 * t + s) == p) = (FT M).length) : p = tb (6 * (FT M).getD 0 0 + s) := by
  unfold ct at h
  rw [List.countP_eq_length] at h
  have := h _ (getD_mem hz)
  simp at this
  exact this.symm
theorem ct_pos {M : Mem} {P : Nat → Bool} : 0 < ct M P ↔ ∃ t ∈ FT M, P t = true := by
  unfold ct; rw [List.countP_pos_iff]
theorem su_1 {f : Nat → Nat} {a : Nat} : ∀ n : Nat, (∀ k, k < n → k ≠ a → f k = 0) → su f n = if a < n then f a else 0 := by
  intro n
  induction n with
  | zero => intro _; rfl
  | succ n ih =>
    intro h
    rw [su_s, ih (fun k hk => h k (by omega))]
    by_cases e : a < n
    · rw [if_pos e, if_pos (by omega), h n (by omega) (by omega)]; rfl
    · rw [if_neg e]
      by_cases e2 : a = n
      · subst e2; rw [if_pos (by omega), Nat.zero_add]
      · rw [if_neg (by omega), h n (by omega) (fun q => e2 q.symm)]
theorem su_2 {f : Nat → Nat} {a : Nat} : ∀ n : Nat, a < n → f a ≤ su f n := by
  intro n
  induction n with
  | zero => intro h; omega
  | succ n ih =>
    intro h
    rw [su_s]
    by_cases e : a = n
    · subst e; omega
    · have := ih (by omega); omega
theorem su_3 {f : Nat → Nat} {a b : Nat} : ∀ n : Nat, a < b → b < n → f a + f b ≤ su f n := by
  intro n
  induction n with
  | zero => intro _ h; omega
  | succ n ih =>
    intro h1 h
    rw [su_s]
    by_cases e : b = n
    · subst e; have := su_2 (f := f) (a := a) b h1; omega
    · have := ih h1 (by omega); omega
theorem unl_1 {M : Mem} {s : Nat} (hs : s < 6) (hz : 0 < (FT M).length) : unl M s = 1 ↔ ct M (fun t => tb (6 * t + s) == tb (6 * (FT M).getD 0 0 + s)) = (FT M).length := by
  have h0 := getD_mem hz
  have hp0 := tb_lt _ (FT_lt h0) s hs
  generalize hp : tb (6 * (FT M).getD 0 0 + s) = p0 at hp0
  have hc0 : 0 < ct M (fun t => tb (6 * t + s) == p0) := ct_pos.mpr ⟨_, h0, beq_t hp⟩
  constructor
  · intro hu
    unfold ct
    rw [List.countP_eq_length]
    intro t ht
    have hpt := tb_lt _ (FT_lt ht) s hs
    by_cases e : tb (6 * t + s) = p0
    · simp [e]
    · exfalso
      have hc1 : 0 < ct M (fun q => tb (6 * q + s) == tb (6 * t + s)) := ct_pos.mpr ⟨t, ht, by simp⟩
      unfold unl at hu
      rcases Nat.lt_or_gt_of_ne e with h1 | h1
      · have := su_3 (f := fun p => if 0 < ct M (fun t => tb (6 * t + s) == p) then 1 else 0) 6 h1 hp0
        simp only [hc0, hc1, if_true] at this
        omega
      · have := su_3 (f := fun p => if 0 < ct M (fun t => tb (6 * t + s) == p) then 1 else 0) 6 h1 hpt
        simp only [hc0, hc1, if_true] at this
        omega
  · intro hall
    have hall2 := hall
    unfold ct at hall2
    rw [List.countP_eq_length] at hall2
    unfold unl
    rw [su_1 (a := p0) 6 (fun k hk hne => ?_), if_pos hp0, if_pos hc0]
    rw [if_neg]
    intro hc
    obtain ⟨t, ht, hk2⟩ := ct_pos.mp hc
    have := hall2 t ht
    simp at this hk2
    omega
theorem op_sure {M : Mem} (h : Inv M) (x : Int) : OK2 (f_X9_sure x) (f_X10_sure x) M := by
  have hb : f_X9_isSign x = f_X9_within x 0 5 := rfl
  have hb2 : f_X10_isSign x = f_X9_within x 0 5 := rfl
  rcases sign_n (x := x) with h0 | ⟨s, rfl, hs, h0⟩
  · exact OK2.no h (by rw [f_X9_sure, hb, if_pos h0]) (by rw [f_X10_sure, hb2, if_pos h0])
  refine qry h fun M1 e1 a1 i1 c1 => ?_
  have hlen := FT_len M1
  by_cases hz : (FT M1).length = 0
  · refine ⟨-1, M1, ?_, agq.refl, i1, c1, fun M3 e3 a3 o3 => ⟨M3, ?_, a3⟩⟩
    · rw [f_X9_sure, hb, if_neg h0]
      refine ob_I e1 ?_
      rw [f_X9_sure_L17, if_pos (by decide), if_neg (by rw [c1.1]; omega)]
    · rw [f_X10_sure, hb2, if_neg h0]
      refine ob_I e3 ?_
      have hu : unl M1 s = 0 := by
        unfold unl
        rw [su_c (g := fun _ => 0) (fun k _ => ?_), su_z]
        rw [if_neg]
        have : ct M1 (fun t => tb (6 * t + s) == k) ≤ (FT M1).length := List.countP_le_length
        omega
      rw [r_unlikeOf i1.1 a3 o3 hs, Option.bind_some, hu, if_neg (by decide)]
  · have hz2 : 0 < (FT M1).length := by omega
    have hp0 := tb_lt _ (FT_lt (getD_mem hz2)) s hs
    by_cases hu : unl M1 s = 1
    · have hall := (unl_1 hs hz2).mp hu
      refine ⟨((tb (6 * (FT M1).getD 0 0 + s) : Nat) : Int), M1, ?_, agq.refl, i1, c1, fun M3 e3 a3 o3 => ⟨M3, ?_, a3⟩⟩
      · rw [f_X9_sure, hb, if_neg h0]
        refine ob_I e1 ?_
        obtain ⟨y, e, hy⟩ := loopX (N := 6) (F := fun n k (_ : Unit) => f_X9_sure_L17 (s : Int) n (k : Int) M1) (P := fun k _ => k ≤ tb (6 * (FT M1).getD 0 0 + s)) (Q := fun y => y = (((tb (6 * (FT M1).getD 0 0 + s) : Nat) : Int), M1)) (by
          intro n k st hk hP
          show (∃ st' : Unit, f_X9_sure_L17 (s : Int) (n + 1) (k : Int) M1 = f_X9_sure_L17 (s : Int) n ((k + 1 : Nat) : Int) M1 ∧ _) ∨ ∃ r, f_X9_sure_L17 (s : Int) (n + 1) (k : Int) M1 = some r ∧ _
          rw [f_X9_sure_L17, if_pos (by omega), if_pos (by rw [c1.1]; omega), c_meaning c1 hs hk, c1.1, w32_n1 (by omega)]
          by_cases he : ct M1 (fun t => tb (6 * t + s) == k) = (FT M1).length
          · right
            have := sure_p hz2 he
            exact ⟨_, by rw [if_pos (by omega)], by rw [← this]⟩
          · left
            refine ⟨(), by rw [if_neg (by omega)], ?_⟩
            have : k ≠ tb (6 * (FT M1).getD 0 0 + s) := fun q => he (by rw [q]; exact hall)
            omega) (by
          intro n st hP
          omega) 6 100000 0 () (by omega) (by omega) (Nat.zero_le _)
        have e : f_X9_sure_L17 (s : Int) 100000 0 M1 = some y := e
        rw [e, hy]
      · rw [f_X10_sure, hb2, if_neg h0]
        refine ob_I e3 ?_
        rw [r_unlikeOf i1.1 a3 o3 hs, Option.bind_some, hu, if_pos (by rfl), show (0 : Int) = ((0 : Nat) : Int) from rfl, r_pi i1.1 a3 o3 hz2 hs, Option.bind_some]
    · refine ⟨-1, M1, ?_, agq.refl, i1, c1, fun M3 e3 a3 o3 => ⟨M3, ?_, a3⟩⟩
      · rw [f_X9_sure, hb, if_neg h0]
        refine ob_I e1 ?_
        obtain ⟨y, e, hy⟩ := loopX (N := 6) (F := fun n k (_ : Unit) => f_X9_sure_L17 (s : Int) n (k : Int) M1) (P := fun k _ => True) (Q := fun y => y = ((-1 : Int), M1)) (by
          intro n k st hk hP
          show (∃ st' : Unit, f_X9_sure_L17 (s : Int) (n + 1) (k : Int) M1 = f_X9_sure_L17 (s : Int) n ((k + 1 : Nat) : Int) M1 ∧ _) ∨ ∃ r, f_X9_sure_L17 (s : Int) (n + 1) (k : Int) M1 = some r ∧ _
          rw [f_X9_sure_L17, if_pos (by omega), if_pos (by rw [c1.1]; omega), c_meaning c1 hs hk, c1.1, w32_n1 (by omega)]
          left
          have hne : ¬ ((ct M1 (fun t => tb (6 * t + s) == k) : Nat) : Int) = (((FT M1).length : Nat) : Int) := by
           intro he
           have he2 : ct M1 (fun t => tb (6 * t + s) == k) = (FT M1).length := by omega
           have := sure_p hz2 he2
           rw [this] at he2
           exact hu ((unl_1 hs hz2).mpr he2)
          exact ⟨(), by rw [if_neg hne], trivial⟩) (by
          intro n st hP
          refine ⟨_, ?_, rfl⟩
          show f_X9_sure_L17 (s : Int) (n + 1) ((6 : Nat) : Int) M1 = _
          rw [f_X9_sure_L17, if_neg (by decide)]) 6 100000 0 () (by omega) (by omega) trivial
        have e : f_X9_sure_L17 (s : Int) 100000 0 M1 = some y := e
        rw [e, hy]
      · rw [f_X10_sure, hb2, if_neg h0]
        refine ob_I e3 ?_
        rw [r_unlikeOf i1.1 a3 o3 hs, Option.bind_some, if_neg (by omega)]
/-- the sign of most parts -/
def mosA (M : Mem) : Nat → Nat
  | 0 => 0
  | k + 1 => if unl M (mosA M k) < unl M (k + 1) then k + 1 else mosA M k
theorem mosA_le (M : Mem) : ∀ k : Nat, mosA M k ≤ k := by
  intro k
  induction k with
  | zero => exact Nat.le_refl _
  | succ k ih => unfold mosA; split <;> omega
theorem c_doubtL {M : Mem} (h : CH M) : f_X9_doubt_L36 100000 0 1 M = some (((mosA M 5 : Nat) : Int), M) := by
  obtain ⟨n, st, e, hP⟩ := loopN (N := 5) (F := fun n k (st : Int) => f_X9_doubt_L36 n st ((k + 1 : Nat) : Int) M) (P := fun k st => st = ((mosA M k : Nat) : Int)) (by
    intro n k st hk hP
    subst hP
    have hle := mosA_le M k
    refine ⟨_, ?_, rfl⟩
    show f_X9_doubt_L36 (n + 1) _ ((k + 1 : Nat) : Int) M = f_X9_doubt_L36 n _ ((k + 1 + 1 : Nat) : Int) M
    rw [f_X9_doubt_L36, if_pos (by omega), c_meaningsOf h (by omega), Option.bind_some, c_meaningsOf h (by omega), Option.bind_some, w32_n1 (by omega)]
    rw [show mosA M (k + 1) = if unl M (mosA M k) < unl M (k + 1) then k + 1 else mosA M k from rfl]
    by_cases hb : unl M (mosA M k) < unl M (k + 1)
    · rw [if_pos (by omega), if_pos hb]
    · rw [if_neg (by omega), if_neg hb]) 5 100000 0 0 (by omega) (by omega) rfl
  have e : f_X9_doubt_L36 100000 0 1 M = f_X9_doubt_L36 (n + 1) st ((5 + 1 : Nat) : Int) M := e
  rw [e, f_X9_doubt_L36, if_neg (by decide), hP]
theorem r_doubtL {K : Int → Mem → Option (Int × Mem)} {x : Int} {M M2 : Mem} (h : RA M) (ha : agr M M2) (ho : FO M M2) : f_X10_doubt_L23 K x 100000 0 1 M2 = K ((mosA M 5 : Nat) : Int) M2 := by
  obtain ⟨n, st, e, hP⟩ := loopN (N := 5) (F := fun n k (st : Int) => f_X10_doubt_L23 K x n st ((k + 1 : Nat) : Int) M2) (P := fun k st => st = ((mosA M k : Nat) : Int)) (by
    intro n k st hk hP
    subst hP
    have hle := mosA_le M k
    refine ⟨_, ?_, rfl⟩
    show f_X10_doubt_L23 K x (n + 1) _ ((k + 1 : Nat) : Int) M2 = f_X10_doubt_L23 K x n _ ((k + 1 + 1 : Nat) : Int) M2
    rw [f_X10_doubt_L23, if_pos (by omega), r_unlikeOf h ha ho (by omega), Option.bind_some, r_unlikeOf h ha ho (by omega), Option.bind_some, w32_n1 (by omega)]
    rw [show mosA M (k + 1) = if unl M (mosA M k) < unl M (k + 1) then k + 1 else mosA M k from rfl]
    by_cases hb : unl M (mosA M k) < unl M (k + 1)
    · rw [if_pos (by omega), if_pos hb]
    · rw [if_neg (by omega), if_neg hb]) 5 100000 0 0 (by omega) (by omega) rfl
  have e : f_X10_doubt_L23 K x 100000 0 1 M2 = f_X10_doubt_L23 K x (n + 1) st ((5 + 1 : Nat) : Int) M2 := e
  rw [e, f_X10_doubt_L23, if_neg (by decide), hP]
theorem op_doubt {M : Mem} (h : Inv M) (x : Int) : OK2 (f_X9_doubt x) (f_X10_doubt x) M := by
  have hb : f_X9_isSign x = f_X9_within x 0 5 := rfl
  have hb2 : f_X10_isSign x = f_X9_within x 0 5 := rfl
  by_cases hm : x = -1
  · have h0 : f_X9_within x 0 5 = 0 := by rw [wi_0]; omega
    refine qry h fun M1 e1 a1 i1 c1 => ⟨((mosA M1 5 : Nat) : Int), M1, ?_, agq.refl, i1, c1, fun M3 e3 a3 o3 => ⟨M3, ?_, a3⟩⟩
    · rw [f_X9_doubt, hb, if_pos h0, if_pos hm]
      refine ob_I e1 ?_
      rw [if_pos hm, c_doubtL c1]
    · rw [f_X10_doubt, if_pos hm]
      refine ob_I e3 ?_
      rw [r_doubtL i1.1 a3 o3, if_pos hm]
  rcases sign_n (x := x) with h0 | ⟨s, rfl, hs, h0⟩
  · exact OK2.no h (by rw [f_X9_doubt, hb, if_pos h0, if_neg hm]) (by rw [f_X10_doubt, if_neg hm, hb2, if_pos h0])
  refine qry h fun M1 e1 a1 i1 c1 => ⟨((unl M1 s : Nat) : Int), M1, ?_, agq.refl, i1, c1, fun M3 e3 a3 o3 => ⟨M3, ?_, a3⟩⟩
  · rw [f_X9_doubt, hb, if_neg h0]
    refine ob_I e1 ?_
    rw [if_neg hm, c_meaningsOf c1 hs, Option.bind_some]
  · rw [f_X10_doubt, if_neg hm, hb2, if_neg h0]
    refine ob_I e3 ?_
    rw [r_doubtL i1.1 a3 o3, if_neg hm, r_unlikeOf i1.1 a3 o3 hs, Option.bind_some]
