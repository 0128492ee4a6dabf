/-! bills -/
def pvA (M : Mem) (set : Nat) : Nat → Int
  | 0 => 0
  | l + 1 => if (set >>> l) % 2 = 1 then pvA M set l + PR M l else pvA M set l
theorem pvA_b {M : Mem} (h : RLn M) (set : Nat) : ∀ l : Nat, l ≤ 10 → 0 ≤ pvA M set l ∧ pvA M set l ≤ 99 * (l : Int) := by
  intro l
  induction l with
  | zero => intro _; exact ⟨by unfold pvA; decide, by unfold pvA; decide⟩
  | succ l ih =>
    intro hl
    obtain ⟨h1, h2⟩ := ih (by omega)
    have h3 := (h.2.2 l (by omega)).2.2.2
    rw [show pvA M set (l + 1) = if (set >>> l) % 2 = 1 then pvA M set l + PR M l else pvA M set l from rfl]
    unfold PR
    split
    · exact ⟨by omega, by omega⟩
    · exact ⟨by omega, by omega⟩
theorem c_pricesOf {M : Mem} {set : Nat} (h : Inv M) (hs : set < 1024) : f_X3_pricesOf (set : Int) M = some (pvA M set (ln M)) := by
  have l2 := h.1.1.2.1
  have e33 : M 3 3 = (ln M : Int) := by rw [h.2.1.1.1, h.1.1.1]
  unfold f_X3_pricesOf
  obtain ⟨n, st, e, hP⟩ := loopN (N := ln M) (F := fun n i (st : Int) => f_X3_pricesOf_L4 (set : Int) M n st (i : Int)) (P := fun i st => st = pvA M set i) (by
    intro n i st hi hP
    subst hP
    have hb := pvA_b h.1.1 set i (by omega)
    have hp := (h.1.1.2.2 i (by omega)).2.2.2
    have ep : f_X3_priceOf (i : Int) M = PR M i := by rw [f_X3_priceOf, rd_n (by omega), (h.2.1.1.2.1 i (by omega)).2]; rfl
    refine ⟨pvA M set (i + 1), ?_, rfl⟩
    show f_X3_pricesOf_L4 (set : Int) M (n + 1) _ (i : Int) = f_X3_pricesOf_L4 (set : Int) M n _ ((i + 1 : Nat) : Int)
    rw [f_X3_pricesOf_L4, if_pos (by omega), r_bit (by omega) (by omega), ep, w32_n1 (a := i) (by omega), show pvA M set (i + 1) = if (set >>> i) % 2 = 1 then pvA M set i + PR M i else pvA M set i from rfl]
    by_cases hb2 : (set >>> i) % 2 = 1
    · rw [if_neg (by rw [hb2]; decide), if_pos hb2, w32_id (by unfold PR; omega) (by unfold PR; omega)]
    · rw [if_pos (by rw [show (set >>> i) % 2 = 0 by omega]; rfl), if_neg hb2]) (ln M) 100000 0 0 (by omega) (by omega) rfl
  have e : f_X3_pricesOf_L4 (set : Int) M 100000 0 0 = f_X3_pricesOf_L4 (set : Int) M (n + 1) st ((ln M : Nat) : Int) := e
  rw [e, f_X3_pricesOf_L4, if_neg (by omega), hP]
theorem r_pricesL {K : Int → Option Int} {x1 x2 x3 x4 x5 x6 : Int} {M : Mem} {set : Nat} (h : Inv M) (hs : set < 1024) : f_X10_bill_L64 K x1 x2 x3 x4 x5 x6 (set : Int) M 100000 0 0 = K (pvA M set (ln M)) := by
  have l2 := h.1.1.2.1
  have e0 : M 38 0 = (ln M : Int) := h.1.1.1
  obtain ⟨n, st, e, hP⟩ := loopN (N := ln M) (F := fun n i (st : Int) => f_X10_bill_L64 K x1 x2 x3 x4 x5 x6 (set : Int) M n st (i : Int)) (P := fun i st => st = pvA M set i) (by
    intro n i st hi hP
    subst hP
    have hb := pvA_b h.1.1 set i (by omega)
    have hp := (h.1.1.2.2 i (by omega)).2.2.2
    refine ⟨pvA M set (i + 1), ?_, rfl⟩
    show f_X10_bill_L64 K x1 x2 x3 x4 x5 x6 (set : Int) M (n + 1) _ (i : Int) = f_X10_bill_L64 K x1 x2 x3 x4 x5 x6 (set : Int) M n _ ((i + 1 : Nat) : Int)
    rw [f_X10_bill_L64, if_pos (by omega), r_bit (by omega) (by omega), w32_n1 (a := i) (by omega), show pvA M set (i + 1) = if (set >>> i) % 2 = 1 then pvA M set i + PR M i else pvA M set i from rfl]
    by_cases hb2 : (set >>> i) % 2 = 1
    · rw [if_pos (by rw [hb2]; rfl), if_pos hb2, if_pos ⟨by omega, by omega⟩, Int.toNat_natCast, w32_id (by omega) (by omega)]; rfl
    · rw [if_neg (by rw [show (set >>> i) % 2 = 0 by omega]; decide), if_neg hb2, Int.add_zero, w32_id (by omega) (by omega)]) (ln M) 100000 0 0 (by omega) (by omega) rfl
  have e : f_X10_bill_L64 K x1 x2 x3 x4 x5 x6 (set : Int) M 100000 0 0 = f_X10_bill_L64 K x1 x2 x3 x4 x5 x6 (set : Int) M (n + 1) st ((ln M : Nat) : Int) := e
  rw [e, f_X10_bill_L64, if_neg (by omega), hP]
def bl (H : Nat → Bool) (a0 : Nat) : Nat → Nat × Nat × Nat
  | 0 => (0, a0, 0)
  | k + 1 => if H k then ((bl H a0 k).1 + 1, (bl H a0 k).2.1 &&& k, (bl H a0 k).2.2 ||| k) else bl H a0 k
theorem bl_s (H : Nat → Bool) (a0 k : Nat) : bl H a0 (k + 1) = if H k then ((bl H a0 k).1 + 1, (bl H a0 k).2.1 &&& k, (bl H a0 k).2.2 ||| k) else bl H a0 k := rfl
theorem bl_b (H : Nat → Bool) {a0 : Nat} (h : a0 < 1024) : ∀ k : Nat, k ≤ 1024 → (bl H a0 k).1 ≤ k ∧ (bl H a0 k).2.1 < 1024 ∧ (bl H a0 k).2.2 < 1024 := by
  intro k
  induction k with
  | zero => intro _; exact ⟨Nat.le_refl _, h, by show (0 : Nat) < 1024; decide⟩
  | succ k ih =>
    intro hk
    obtain ⟨h1, h2, h3⟩ := ih (by omega)
    rw [bl_s]
    split
    · exact ⟨by show (bl H a0 k).1 + 1 ≤ k + 1; omega, Nat.lt_of_le_of_lt Nat.and_le_left h2, Nat.or_lt_two_pow (n := 10) h3 (by omega)⟩
    · exact ⟨by omega, h2, h3⟩
theorem bl_rel (H : Nat → Bool) {n : Nat} (hn : n ≤ 10) : ∀ k : Nat, k ≤ 2 ^ n → (bl H (2 ^ n - 1) k).1 = (bl H 1023 k).1 ∧ (bl H (2 ^ n - 1) k).2.2 = (bl H 1023 k).2.2 ∧ (bl H (2 ^ n - 1) k).2.1 = (bl H 1023 k).2.1 &&& (2 ^ n - 1) ∧ (0 < (bl H 1023 k).1 → (bl H 1023 k).2.1 < 2 ^ n) := by
  intro k
  induction k with
  | zero =>
    intro _
    refine ⟨rfl, rfl, ?_, fun h => absurd h (Nat.lt_irrefl 0)⟩
    show 2 ^ n - 1 = 1023 &&& (2 ^ n - 1)
    have h1 : 2 ^ n ≤ 2 ^ 10 := Nat.pow_le_pow_right (by decide) hn
    have h2 : 0 < 2 ^ n := Nat.two_pow_pos n
    have h3 : (2 : Nat) ^ 10 = 1024 := by decide
    rw [Nat.and_comm, show (1023 : Nat) = 2 ^ 10 - 1 by decide, Nat.and_two_pow_sub_one_eq_mod, Nat.mod_eq_of_lt (by omega)]
  | succ k ih =>
    intro hk
    obtain ⟨h1, h2, h3, h4⟩ := ih (by omega)
    rw [bl_s, bl_s]
    split
    · refine ⟨by show (bl H (2 ^ n - 1) k).1 + 1 = (bl H 1023 k).1 + 1; rw [h1], by show (bl H (2 ^ n - 1) k).2.2 ||| k = (bl H 1023 k).2.2 ||| k; rw [h2], ?_, fun _ => ?_⟩
      · show (bl H (2 ^ n - 1) k).2.1 &&& k = ((bl H 1023 k).2.1 &&& k) &&& (2 ^ n - 1)
        rw [h3, Nat.and_assoc, Nat.and_assoc, Nat.and_comm k]
      · show (bl H 1023 k).2.1 &&& k < 2 ^ n
        exact Nat.lt_of_le_of_lt Nat.and_le_right (by omega)
    · exact ⟨h1, h2, h3, h4⟩
def bhit (M : Mem) (n sum : Int) (set : Nat) : Bool := decide (((popc set : Nat) : Int) = n) && decide (pvA M set (ln M) = sum)
theorem c_every {M : Mem} (h : Inv M) : f_X3_everyLine M = ((2 ^ ln M - 1 : Nat) : Int) := by
  have l2 := h.1.1.2.1
  have e33 : M 3 3 = (ln M : Int) := by rw [h.2.1.1.1, h.1.1.1]
  have h1 : 2 ^ ln M ≤ 2 ^ 10 := Nat.pow_le_pow_right (by decide) l2
  have h2 : 0 < 2 ^ ln M := Nat.two_pow_pos _
  have h3 : (2 : Nat) ^ 10 = 1024 := by decide
  rw [f_X3_everyLine, e33, b_shl_n (by omega)]
  generalize 2 ^ ln M = z at h1 h2 ⊢
  rw [w32_id (by omega) (by omega)]; omega
theorem op_bill {M : Mem} (h : Inv M) (n sum w : Int) : ∃ r, f_X9_bill n sum w M = some r ∧ f_X10_bill n sum w M = some r := by
  by_cases h1 : f_X9_within n 0 10 = 0
  · exact ⟨-2, by rw [f_X9_bill, if_pos h1], by rw [f_X10_bill, in_w, if_pos h1]⟩
  by_cases h2 : f_X9_within sum 0 999 = 0
  · exact ⟨-2, by rw [f_X9_bill, if_neg h1, if_pos h2], by rw [f_X10_bill, in_w, if_neg h1, in_w, if_pos h2]⟩
  by_cases h3 : f_X9_within w 0 2 = 0
  · exact ⟨-2, by rw [f_X9_bill, if_neg h1, if_neg h2, if_pos h3], by rw [f_X10_bill, in_w, if_neg h1, in_w, if_neg h2, in_w, if_pos h3]⟩
  have h3' := h3
  rw [wi_0] at h3'
  have l2 := h.1.1.2.1
  have e0 : M 38 0 = (ln M : Int) := h.1.1.1
  have hev := c_every h
  have p1 : 2 ^ ln M ≤ 2 ^ 10 := Nat.pow_le_pow_right (by decide) l2
  have p2 : 0 < 2 ^ ln M := Nat.two_pow_pos _
  have p3 : (2 : Nat) ^ 10 = 1024 := by decide
  have hrel := bl_rel (bhit M n sum) l2 (2 ^ ln M) (Nat.le_refl _)
  have eshl : b_shl 1 (M 38 0) = ((2 ^ ln M : Nat) : Int) := by rw [e0, b_shl_n (by omega)]
  generalize hZ : 2 ^ ln M = Z at p1 p2 hrel hev eshl
  have hZ2 : Z ≤ 1024 := by omega
  obtain ⟨nn, ⟨sa, sb, sc⟩, e, q1, q2, q3⟩ := loopN (N := Z) (F := fun k i (st : Int × Int × Int) => f_X9_bill_L55 (fun y277 y278 y279 => if w = 0 then some y277 else if y277 = 0 then some y277 else if w = 1 then some y278 else some y279) n sum w (((Z - 1 : Nat) : Int)) M k st.1 st.2.1 st.2.2 (i : Int)) (P := fun i st => st.1 = (((bl (bhit M n sum) (Z - 1) i).1 : Nat) : Int) ∧ st.2.1 = (((bl (bhit M n sum) (Z - 1) i).2.1 : Nat) : Int) ∧ st.2.2 = (((bl (bhit M n sum) (Z - 1) i).2.2 : Nat) : Int)) (by
    intro k i ⟨sa, sb, sc⟩ hi ⟨q1, q2, q3⟩
    have w1 : sa = (((bl (bhit M n sum) (Z - 1) i).1 : Nat) : Int) := q1
    have w2 : sb = (((bl (bhit M n sum) (Z - 1) i).2.1 : Nat) : Int) := q2
    have w3 : sc = (((bl (bhit M n sum) (Z - 1) i).2.2 : Nat) : Int) := q3
    clear q1 q2 q3
    subst w1 w2 w3
    obtain ⟨b1, b2, b3⟩ := bl_b (bhit M n sum) (a0 := Z - 1) (by omega) i (by omega)
    refine ⟨((((bl (bhit M n sum) (Z - 1) (i + 1)).1 : Nat) : Int), (((bl (bhit M n sum) (Z - 1) (i + 1)).2.1 : Nat) : Int), (((bl (bhit M n sum) (Z - 1) (i + 1)).2.2 : Nat) : Int)), ?_, rfl, rfl, rfl⟩
    show f_X9_bill_L55 _ n sum w (((Z - 1 : Nat) : Int)) M (k + 1) _ _ _ (i : Int) = f_X9_bill_L55 _ n sum w (((Z - 1 : Nat) : Int)) M k _ _ _ ((i + 1 : Nat) : Int)
    rw [f_X9_bill_L55, if_neg (by omega), bitc_n (by omega), c_pricesOf h (by omega), Option.bind_some, w32_n1 (a := i) (by omega), bl_s]
    by_cases c1 : ((popc i : Nat) : Int) = n
    · rw [if_pos c1]
      by_cases c2 : pvA M i (ln M) = sum
      · have hh : bhit M n sum i = true := by unfold bhit; rw [decide_eq_true c1, decide_eq_true c2]; rfl
        rw [if_pos c2, if_pos hh, w32_n1 (by omega), b_and_n (by omega) (by omega), b_or_n (by omega) (by omega)]
      · have hh : ¬ bhit M n sum i = true := by unfold bhit; rw [decide_eq_false c2, Bool.and_false]; decide
        rw [if_neg c2, if_neg hh]
    · have hh : ¬ bhit M n sum i = true := by unfold bhit; rw [decide_eq_false c1, Bool.false_and]; decide
      rw [if_neg c1, if_neg hh]) Z 100000 0 (0, ((Z - 1 : Nat) : Int), 0) (by omega) (by omega) ⟨rfl, rfl, rfl⟩
  have e : f_X9_bill_L55 (fun y277 y278 y279 => if w = 0 then some y277 else if y277 = 0 then some y277 else if w = 1 then some y278 else some y279) n sum w (((Z - 1 : Nat) : Int)) M 100000 0 (((Z - 1 : Nat) : Int)) 0 0 = f_X9_bill_L55 (fun y277 y278 y279 => if w = 0 then some y277 else if y277 = 0 then some y277 else if w = 1 then some y278 else some y279) n sum w (((Z - 1 : Nat) : Int)) M (nn + 1) sa sb sc ((Z : Nat) : Int) := e
  obtain ⟨n2, ⟨ra, rb, rc⟩, e2, r1, r2, r3⟩ := loopN (N := Z) (F := fun k i (st : Int × Int × Int) => f_X10_bill_L47 (fun y539 y540 y541 => if w = 0 then some y539 else if w = 2 then some y541 else if y539 = 0 then some 0 else some y540) n sum w M k st.1 st.2.1 st.2.2 (i : Int)) (P := fun i st => st.1 = (((bl (bhit M n sum) 1023 i).1 : Nat) : Int) ∧ st.2.1 = (((bl (bhit M n sum) 1023 i).2.1 : Nat) : Int) ∧ st.2.2 = (((bl (bhit M n sum) 1023 i).2.2 : Nat) : Int)) (by
    intro k i ⟨sa, sb, sc⟩ hi ⟨q1, q2, q3⟩
    have w1 : sa = (((bl (bhit M n sum) 1023 i).1 : Nat) : Int) := q1
    have w2 : sb = (((bl (bhit M n sum) 1023 i).2.1 : Nat) : Int) := q2
    have w3 : sc = (((bl (bhit M n sum) 1023 i).2.2 : Nat) : Int) := q3
    clear q1 q2 q3
    subst w1 w2 w3
    obtain ⟨b1, b2, b3⟩ := bl_b (bhit M n sum) (a0 := 1023) (by omega) i (by omega)
    refine ⟨((((bl (bhit M n sum) 1023 (i + 1)).1 : Nat) : Int), (((bl (bhit M n sum) 1023 (i + 1)).2.1 : Nat) : Int), (((bl (bhit M n sum) 1023 (i + 1)).2.2 : Nat) : Int)), ?_, rfl, rfl, rfl⟩
    show f_X10_bill_L47 _ n sum w M (k + 1) _ _ _ (i : Int) = f_X10_bill_L47 _ n sum w M k _ _ _ ((i + 1 : Nat) : Int)
    rw [f_X10_bill_L47, if_pos (by rw [eshl]; omega), r_pricesL h (by omega), r_ones (by omega), Option.bind_some, w32_n1 (a := i) (by omega), bl_s]
    by_cases c1 : ((popc i : Nat) : Int) = n
    · rw [if_pos c1]
      by_cases c2 : pvA M i (ln M) = sum
      · have hh : bhit M n sum i = true := by unfold bhit; rw [decide_eq_true c1, decide_eq_true c2]; rfl
        rw [if_pos c2, if_pos hh, w32_n1 (by omega), b_and_n (by omega) (by omega), b_or_n (by omega) (by omega)]
      · have hh : ¬ bhit M n sum i = true := by unfold bhit; rw [decide_eq_false c2, Bool.and_false]; decide
        rw [if_neg c2, if_neg hh]
    · have hh : ¬ bhit M n sum i = true := by unfold bhit; rw [decide_eq_false c1, Bool.false_and]; decide
      rw [if_neg c1, if_neg hh]) Z 100000 0 (0, 1023, 0) (by omega) (by omega) ⟨rfl, rfl, rfl⟩
  have e2 : f_X10_bill_L47 (fun y539 y540 y541 => if w = 0 then some y539 else if w = 2 then some y541 else if y539 = 0 then some 0 else some y540) n sum w M 100000 0 1023 0 0 = f_X10_bill_L47 (fun y539 y540 y541 => if w = 0 then some y539 else if w = 2 then some y541 else if y539 = 0 then some 0 else some y540) n sum w M (n2 + 1) ra rb rc ((Z : Nat) : Int) := e2
  have w1 : sa = (((bl (bhit M n sum) (Z - 1) Z).1 : Nat) : Int) := q1
  have w2 : sb = (((bl (bhit M n sum) (Z - 1) Z).2.1 : Nat) : Int) := q2
  have w3 : sc = (((bl (bhit M n sum) (Z - 1) Z).2.2 : Nat) : Int) := q3
  have v1 : ra = (((bl (bhit M n sum) 1023 Z).1 : Nat) : Int) := r1
  have v2 : rb = (((bl (bhit M n sum) 1023 Z).2.1 : Nat) : Int) := r2
  have v3 : rc = (((bl (bhit M n sum) 1023 Z).2.2 : Nat) : Int) := r3
  obtain ⟨g1, g2, g3, g4⟩ := hrel
  have hall : 0 < (bl (bhit M n sum) 1023 Z).1 → (bl (bhit M n sum) (Z - 1) Z).2.1 = (bl (bhit M n sum) 1023 Z).2.1 := fun q => by
    have := g4 q
    rw [g3, ← hZ, Nat.and_two_pow_sub_one_eq_mod, hZ, Nat.mod_eq_of_lt this]
  have hany0 : (bl (bhit M n sum) 1023 Z).1 = 0 → (bl (bhit M n sum) 1023 Z).2.2 = 0 := by
    have : ∀ k, (bl (bhit M n sum) 1023 k).1 = 0 → (bl (bhit M n sum) 1023 k).2.2 = 0 := by
      intro k
      induction k with
      | zero => intro _; rfl
      | succ k ih =>
        rw [bl_s]
        split
        · intro q; exact absurd q (Nat.succ_ne_zero _)
        · exact ih
    exact this Z
  refine ⟨if w = 0 then ra else if w = 2 then rc else if ra = 0 then 0 else rb, ?_, ?_⟩
  · rw [f_X9_bill, if_neg h1, if_neg h2, if_neg h3, hev, e, f_X9_bill_L55, if_pos (by omega), w1, w2, w3, v1, v2, v3, g1, g2]
    by_cases c0 : w = 0
    · rw [if_pos c0, if_pos c0]
    · rw [if_neg c0, if_neg c0]
      by_cases cz : (bl (bhit M n sum) 1023 Z).1 = 0
      · rw [if_pos (by omega), hany0 cz, cz]
        by_cases c2 : w = 2
        · rw [if_pos c2]
        · rw [if_neg c2, if_pos (by rfl)]; rfl
      · rw [if_neg (by omega), hall (by omega)]
        by_cases c2 : w = 2
        · rw [if_neg (by omega), if_pos c2]
        · rw [if_pos (by omega), if_neg c2, if_neg (by omega)]
  · rw [f_X10_bill, in_w, if_neg h1, in_w, if_neg h2, in_w, if_neg h3, e2, f_X10_bill_L47, if_neg (by rw [eshl]; omega)]
    by_cases c0 : w = 0
    · rw [if_pos c0, if_pos c0]
    · rw [if_neg c0, if_neg c0]
      by_cases c2 : w = 2
      · rw [if_pos c2, if_pos c2]
      · rw [if_neg c2, if_neg c2]
        by_cases cz : ra = 0
        · rw [if_pos cz, if_pos cz]
        · rw [if_neg cz, if_neg cz]
