/-! what both have of a state: lines, facts (of the reference's cells) -/
def ln (M : Mem) : Nat := (M 38 0).toNat
def gn (M : Mem) : Nat := (M 38 3).toNat
def fn (M : Mem) : Nat := (M 38 6).toNat
def tn (M : Mem) : Nat := (M 38 13).toNat
def rl (M : Mem) : Nat := (M 38 14).toNat
def sgn (M : Mem) (l : Nat) : Nat := (M 39 l).toNat
def hd (M : Mem) (l t : Nat) : Nat := ps (sgn M l) t
/-- lines of the reference are sound -/
def RLn (M : Mem) : Prop := M 38 0 = (ln M : Int) ∧ ln M ≤ 10 ∧ ∀ l : Nat, l < 10 → M 39 l = (sgn M l : Int) ∧ sgn M l < 64 ∧ popc (sgn M l) ≤ 3 ∧ 0 ≤ M 40 l ∧ M 40 l ≤ 99
def fk (M : Mem) (f : Nat) : Nat := (M 42 (4 * f)).toNat
def fl (M : Mem) (f : Nat) : Nat := (M 42 (4 * f + 1)).toNat
def fp (M : Mem) (f : Nat) : Nat := (M 42 (4 * f + 2)).toNat
def fm (M : Mem) (f : Nat) : Nat := (M 42 (4 * f + 3)).toNat
def RF1 (M : Mem) (f : Nat) : Prop := M 42 (4 * f) = (fk M f : Int) ∧ fk M f ≤ 5 ∧ M 42 (4 * f + 1) = (fl M f : Int) ∧ fl M f < 10 ∧ M 42 (4 * f + 2) = (fp M f : Int) ∧ fp M f < 64 ∧ M 42 (4 * f + 3) = (fm M f : Int) ∧ fm M f < 10
def RFa (M : Mem) : Prop := M 38 6 = (fn M : Int) ∧ fn M ≤ 12 ∧ ∀ f : Nat, f < fn M → RF1 M f
/-- whether a fact of a kind holds -/
def hol (k p m h o : Nat) : Bool :=
  if k = 1 then h == p else if k = 2 then h &&& p == p else if k = 3 then (h &&& p == p) || !(decide (popc (h &&& p) < m)) else if k = 4 then h &&& o == p else if k = 5 then h &&& p == 0 else true
def fh (M : Mem) (f t : Nat) : Bool := hol (fk M f) (fp M f) (fm M f) (hd M (fl M f) t) (hd M (fm M f) t)
def bi (b : Bool) : Int := if b then 1 else 0
theorem bi_0 {b : Bool} : bi b = 0 ↔ b = false := by cases b <;> decide
theorem bi_t {a : Int} {b : Bool} (h : a = 1 ∨ a = 0) (h2 : a = 1 ↔ b = true) : a = bi b := by
  cases b with
  | true => exact h2.mpr rfl
  | false => rcases h with h | h
             · exact absurd (h2.mp h) (by decide)
             · exact h
theorem if_bi {c : Prop} [Decidable c] {b : Bool} (h : c ↔ b = true) : (if c then (1 : Int) else 0) = bi b := by
  by_cases hc : c
  · rw [if_pos hc, h.mp hc]; rfl
  · rw [if_neg hc]
    cases b with
    | true => exact absurd (h.mpr rfl) hc
    | false => rfl
theorem if_bi' {c : Prop} [Decidable c] {b : Bool} (h : c ↔ b = true) : (if c then some (1 : Int) else some 0) = some (bi b) := by
  rw [← if_bi h]; by_cases hc : c
  · rw [if_pos hc, if_pos hc]
  · rw [if_neg hc, if_neg hc]
theorem c_hol {k p m h o : Nat} (hp : p < 64) (hh : h < 64) (ho : o < 64) : f_X0_holds (k : Int) (p : Int) (m : Int) (h : Int) (o : Int) = bi (hol k p m h o) := by
  have hle : h &&& p < 64 := Nat.lt_of_le_of_lt Nat.and_le_left hh
  have a1 : b_and (h : Int) (p : Int) = ((h &&& p : Nat) : Int) := b_and_n (by omega) (by omega)
  have a2 : b_and (h : Int) (o : Int) = ((h &&& o : Nat) : Int) := b_and_n (by omega) (by omega)
  have a3 : f_J6_bitCount_0f7a4 ((h &&& p : Nat) : Int) = ((popc (h &&& p) : Nat) : Int) := bitc_n (by omega)
  unfold f_X0_holds hol
  rw [a1, a2, a3]
  by_cases k1 : k = 1
  · rw [if_pos (by omega), if_pos k1]; exact if_bi (by rw [beq_iff_eq]; omega)
  rw [if_neg (by omega), if_neg k1]
  by_cases k2 : k = 2
  · rw [if_pos (by omega), if_pos k2]; exact if_bi (by rw [beq_iff_eq]; omega)
  rw [if_neg (by omega), if_neg k2]
  by_cases k3 : k = 3
  · rw [if_pos (by omega), if_pos k3]
    by_cases e : h &&& p = p
    · rw [if_pos (by omega), e]; simp [bi]
    · rw [if_neg (by omega)]
      have e2 : (h &&& p == p) = false := by simp [e]
      rw [e2, Bool.false_or]
      by_cases e3 : popc (h &&& p) < m
      · rw [if_pos (by omega)]; simp [e3, bi]
      · rw [if_neg (by omega)]; simp [e3, bi]
  rw [if_neg (by omega), if_neg k3]
  by_cases k4 : k = 4
  · rw [if_pos (by omega), if_pos k4]; exact if_bi (by rw [beq_iff_eq]; omega)
  rw [if_neg (by omega), if_neg k4]
  by_cases k5 : k = 5
  · rw [if_pos (by omega), if_pos k5]; exact if_bi (by rw [beq_iff_eq]; omega)
  rw [if_neg (by omega), if_neg k5]
  rfl
theorem andn64 : ∀ p : Nat, p < 64 → ∀ h : Nat, h < 64 → (p ^^^ (p &&& h) = 0 ↔ h &&& p = p) := by decide +kernel
theorem r_holds {M : Mem} {f t : Nat} (hL : RLn M) (hF : RF1 M f) (hf : f < 13) (ht : t < 720) (hT : TB M) : f_X10_holds_ (f : Int) (t : Int) M = some (bi (fh M f t)) := by
  obtain ⟨f1, f2, f3, f4, f5, f6, f7, f8⟩ := hF
  obtain ⟨l1, l2, l3⟩ := hL
  have e0 : w32 (4 * (f : Int)) = ((4 * f : Nat) : Int) := by rw [w32_id (by omega) (by omega)]; omega
  have e1 : w32 (w32 (4 * (f : Int)) + 1) = ((4 * f + 1 : Nat) : Int) := by rw [e0, w32_id (by omega) (by omega)]; omega
  have e2 : w32 (w32 (4 * (f : Int)) + 2) = ((4 * f + 2 : Nat) : Int) := by rw [e0, w32_id (by omega) (by omega)]; omega
  have e3 : w32 (w32 (4 * (f : Int)) + 3) = ((4 * f + 3 : Nat) : Int) := by rw [e0, w32_id (by omega) (by omega)]; omega
  have h1 := r_hasIn f4 ht (l3 _ f4).1 (l3 _ f4).2.1 hT
  have h2 := r_hasIn f8 ht (l3 _ f8).1 (l3 _ f8).2.1 hT
  have b1 : ps (sgn M (fl M f)) t < 64 := ps_lt ht
  have b2 : ps (sgn M (fm M f)) t < 64 := ps_lt ht
  rw [f_X10_holds_, e1, e2, e3, e0, if_pos ⟨by omega, by omega⟩]
  simp only [Int.toNat_natCast, f1, f3, f5, f7, h1, Option.bind_some, h2]
  rw [if_pos ⟨by omega, by omega⟩, if_pos ⟨by omega, by omega⟩, if_pos ⟨by omega, by omega⟩]
  unfold fh hol hd
  generalize ps (sgn M (fl M f)) t = h at b1 ⊢
  generalize ps (sgn M (fm M f)) t = o at b2 ⊢
  generalize fk M f = k at f2 ⊢
  generalize fp M f = p at f6 ⊢
  generalize fm M f = m at f8 ⊢
  clear h1 h2 l3 e0 e1 e2 e3 f1 f3 f5 f7
  have hle : h &&& p < 64 := Nat.lt_of_le_of_lt Nat.and_le_left b1
  have a1 : b_and (p : Int) (h : Int) = ((h &&& p : Nat) : Int) := by rw [b_and_n (by omega) (by omega), Nat.and_comm]
  have a2 : b_and (h : Int) (o : Int) = ((h &&& o : Nat) : Int) := b_and_n (by omega) (by omega)
  have a3 : f_X10_ones ((h &&& p : Nat) : Int) = some ((popc (h &&& p) : Nat) : Int) := r_ones (by omega)
  have a4 : b_and (p : Int) (b_xor (h : Int) (-1)) = ((p ^^^ (p &&& h) : Nat) : Int) := b_andn_n (by omega) (by omega)
  have a5 := andn64 p f6 h b1
  rw [a1, a2, a3, a4]
  by_cases k1 : k = 1
  · rw [if_pos (by omega), if_pos k1]; exact if_bi' (by rw [beq_iff_eq]; omega)
  rw [if_neg (by omega), if_neg k1]
  by_cases k2 : k = 2
  · rw [if_pos (by omega), if_pos k2]; exact if_bi' (by rw [beq_iff_eq]; omega)
  rw [if_neg (by omega), if_neg k2]
  by_cases k3 : k = 3
  · rw [if_pos (by omega), if_pos k3]
    by_cases e : h &&& p = p
    · rw [if_pos (by omega), e]; simp [bi]
    · rw [if_neg (by omega), Option.bind_some]
      have e2 : (h &&& p == p) = false := by simp [e]
      rw [e2, Bool.false_or]
      by_cases e3 : popc (h &&& p) < m
      · rw [if_pos (by omega)]; simp [e3, bi]
      · rw [if_neg (by omega)]; simp [e3, bi]
  rw [if_neg (by omega), if_neg k3]
  by_cases k4 : k = 4
  · rw [if_pos (by omega), if_pos k4]; exact if_bi' (by rw [beq_iff_eq]; omega)
  rw [if_neg (by omega), if_neg k4]
  by_cases k5 : k = 5
  · rw [if_pos (by omega), if_pos k5]; exact if_bi' (by rw [beq_iff_eq]; omega)
  rw [if_neg (by omega), if_neg k5]
  rfl
/-- the facts (bits) that do not hold in a tongue -/
def bkA (M : Mem) (t i : Nat) : Nat := (List.range i).foldl (fun a f => if fh M f t then a else a ||| 2 ^ f) 0
def bk (M : Mem) (t : Nat) : Nat := bkA M t (fn M)
theorem bkA_s (M : Mem) (t i : Nat) : bkA M t (i + 1) = if fh M i t then bkA M t i else bkA M t i ||| 2 ^ i := by unfold bkA; rw [List.range_succ, List.foldl_append]; rfl
theorem bkA_lt (M : Mem) (t : Nat) : ∀ i : Nat, bkA M t i < 2 ^ i := by
  intro i
  induction i with
  | zero => exact Nat.one_pos
  | succ i ih =>
    rw [bkA_s]
    split
    · exact Nat.lt_of_lt_of_le ih (Nat.pow_le_pow_right (by decide) (Nat.le_succ i))
    · exact Nat.or_lt_two_pow (Nat.lt_of_lt_of_le ih (Nat.pow_le_pow_right (by decide) (Nat.le_succ i))) (Nat.pow_lt_pow_right (by decide) (Nat.lt_succ_self i))
theorem bkA_12 {M : Mem} {t i : Nat} (h : i ≤ 12) : bkA M t i < 4096 := Nat.lt_of_lt_of_le (bkA_lt M t i) (Nat.pow_le_pow_right (n := 2) (by decide) h)
