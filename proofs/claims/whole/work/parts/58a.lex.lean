/-! texts: the characters of the tape -/
theorem win_e (x a b : Int) : f_X9_within x a b = if a ≤ x ∧ x ≤ b then 1 else 0 := by
  unfold f_X9_within
  by_cases h1 : x < a
  · rw [if_pos h1, if_neg (by omega)]
  rw [if_neg h1]
  by_cases h2 : b < x
  · rw [if_pos h2, if_neg (by omega)]
  · rw [if_neg h2, if_pos (by omega)]
theorem in_e (x a b : Int) : f_X10_in x a b = if a ≤ x ∧ x ≤ b then 1 else 0 := by
  unfold f_X10_in
  by_cases h1 : x < a
  · rw [if_pos h1, if_neg (by omega)]
  rw [if_neg h1]
  by_cases h2 : b < x
  · rw [if_pos h2, if_neg (by omega)]
  · rw [if_neg h2, if_pos (by omega)]
def blk (x : Int) : Bool := decide (x = 32 ∨ x = 10)
def ltr (x : Int) : Bool := decide (97 ≤ x ∧ x ≤ 122)
def dgt (x : Int) : Bool := decide (48 ≤ x ∧ x ≤ 57)
theorem ltr_e (x : Int) : f_X10_in x 97 122 = if ltr x = true then 1 else 0 := by rw [in_e]; unfold ltr; simp only [decide_eq_true_eq]
theorem dgt_e (x : Int) : f_X10_in x 48 57 = if dgt x = true then 1 else 0 := by rw [in_e]; unfold dgt; simp only [decide_eq_true_eq]
theorem ltr_c (x : Int) : f_X5_isLetter x = if ltr x = true then 1 else 0 := by unfold f_X5_isLetter; rw [win_e]; unfold ltr; simp only [decide_eq_true_eq]
theorem dgt_c (x : Int) : f_X5_isDigit x = if dgt x = true then 1 else 0 := by unfold f_X5_isDigit; rw [win_e]; unfold dgt; simp only [decide_eq_true_eq]
theorem blk_c (x : Int) : f_X5_isBlank x = if blk x = true then 1 else 0 := by
  unfold f_X5_isBlank blk
  by_cases h1 : x = 32
  · rw [if_pos h1, if_pos (by simp [h1])]
  rw [if_neg h1]
  by_cases h2 : x = 10
  · rw [if_pos h2, if_pos (by simp [h2])]
  · rw [if_neg h2, if_neg (by simp [h1, h2])]
def runf (c : Nat → Int) (s : Nat) (f : Int → Bool) : Nat → Nat → Nat
  | 0, p => p
  | n + 1, p => if p < s ∧ f (c p) = true then runf c s f n (p + 1) else p
/-- the first place from p on where f ends, or s -/
def rn (c : Nat → Int) (s : Nat) (f : Int → Bool) (p : Nat) : Nat := runf c s f (s - p) p
section RUN
variable {c : Nat → Int} {s : Nat} {f : Int → Bool}
theorem rn_e (p : Nat) : rn c s f p = if p < s ∧ f (c p) = true then rn c s f (p + 1) else p := by
  unfold rn
  by_cases h : p < s
  · rw [show s - p = (s - (p + 1)) + 1 by omega, runf]
  · rw [show s - p = 0 by omega, runf, if_neg (fun q => h q.1)]
theorem rn_t {p : Nat} (h1 : p < s) (h2 : f (c p) = true) : rn c s f p = rn c s f (p + 1) := by rw [rn_e, if_pos ⟨h1, h2⟩]
theorem rn_f {p : Nat} (h2 : ¬ f (c p) = true) : rn c s f p = p := by rw [rn_e, if_neg (fun q => h2 q.2)]
theorem rn_s {p : Nat} (h1 : ¬ p < s) : rn c s f p = p := by rw [rn_e, if_neg (fun q => h1 q.1)]
theorem rn_all : ∀ d p : Nat, s - p = d → p ≤ s → p ≤ rn c s f p ∧ rn c s f p ≤ s ∧ (∀ j, p ≤ j → j < rn c s f p → f (c j) = true) ∧ (rn c s f p < s → ¬ f (c (rn c s f p)) = true) := by
  intro d
  induction d with
  | zero => intro p h1 h2; rw [rn_s (by omega)]; exact ⟨Nat.le_refl _, h2, fun j a b => by omega, fun q => by omega⟩
  | succ d ih =>
    intro p h1 h2
    by_cases hf : f (c p) = true
    · rw [rn_t (by omega) hf]
      obtain ⟨a1, a2, a3, a4⟩ := ih (p + 1) (by omega) (by omega)
      refine ⟨by omega, a2, fun j b1 b2 => ?_, a4⟩
      by_cases hj : j = p
      · rw [hj]; exact hf
      · exact a3 j (by omega) b2
    · rw [rn_f hf]; exact ⟨Nat.le_refl _, h2, fun j a b => by omega, fun _ => hf⟩
end RUN
theorem mset_mset (M : Mem) (k i : Nat) (v w : Int) : mset (mset M k i v) k i w = mset M k i w := by
  funext a b
  unfold mset
  by_cases h : a = k ∧ b = i
  · rw [if_pos h, if_pos h]
  · rw [if_neg h, if_neg h, if_neg h]
theorem mset_own {M : Mem} {k i : Nat} {v : Int} (h : M k i = v) : mset M k i v = M := by
  funext a b
  unfold mset
  by_cases h1 : a = k ∧ b = i
  · rw [if_pos h1, h1.1, h1.2]; exact h.symm
  · rw [if_neg h1]
section REF
variable {c : Nat → Int} {s : Nat} {M : Mem}
/-- the reference's tape -/
def TPE (c : Nat → Int) (s : Nat) (M : Mem) : Prop := s ≤ 160 ∧ M 38 10 = (s : Int) ∧ ∀ j, j < s → M 44 j = c j
theorem l0_go {K : Mem → Option (Int × Mem)} (h : TPE c s M) : ∀ d p n : Nat, s - p = d → p ≤ s → d < n → f_X10_next_L0 K n (mset M 38 26 (p : Int)) = K (mset M 38 26 ((rn c s blk p : Nat) : Int)) := by
  obtain ⟨h1, h2, h3⟩ := h
  intro d
  induction d with
  | zero =>
    intro p n e1 e2 e3
    obtain ⟨m, rfl⟩ : ∃ m, n = m + 1 := ⟨n - 1, by omega⟩
    rw [f_X10_next_L0, mset_at, mset_i (by decide), h2, if_neg (by omega), rn_s (by omega)]
  | succ d ih =>
    intro p n e1 e2 e3
    obtain ⟨m, rfl⟩ : ∃ m, n = m + 1 := ⟨n - 1, by omega⟩
    have i1 := ih (p + 1) m (by omega) (by omega) (by omega)
    rw [f_X10_next_L0, mset_at, mset_i (show (10 : Nat) ≠ 26 by decide), h2, if_pos (by omega), if_pos (by omega), mset_c (show (44 : Nat) ≠ 38 by decide), Int.toNat_natCast, h3 p (by omega), mset_mset, w32_n1 (by omega), i1]
    by_cases hb : blk (c p) = true
    · rw [rn_t (by omega) hb]
      unfold blk at hb
      have hb := of_decide_eq_true hb
      by_cases q : c p = 32
      · rw [if_pos q]
      · rw [if_neg q, if_pos (by omega), if_pos (by omega)]
    · rw [rn_f hb]
      unfold blk at hb
      simp at hb
      rw [if_neg hb.1, if_pos (by omega), if_neg hb.2]
theorem l103_go {K : Mem → Option (Int × Mem)} (h : TPE c s M) : ∀ d p n : Nat, s - p = d → p ≤ s → d < n → f_X10_next_L103 K n (mset M 38 26 (p : Int)) = K (mset M 38 26 ((rn c s ltr p : Nat) : Int)) := by
  obtain ⟨h1, h2, h3⟩ := h
  intro d
  induction d with
  | zero =>
    intro p n e1 e2 e3
    obtain ⟨m, rfl⟩ : ∃ m, n = m + 1 := ⟨n - 1, by omega⟩
    rw [f_X10_next_L103, mset_at, mset_i (by decide), h2, if_neg (by omega), rn_s (by omega)]
  | succ d ih =>
    intro p n e1 e2 e3
    obtain ⟨m, rfl⟩ : ∃ m, n = m + 1 := ⟨n - 1, by omega⟩
    have i1 := ih (p + 1) m (by omega) (by omega) (by omega)
    rw [f_X10_next_L103, mset_at, mset_i (show (10 : Nat) ≠ 26 by decide), h2, if_pos (by omega), if_pos (by omega), mset_c (show (44 : Nat) ≠ 38 by decide), Int.toNat_natCast, h3 p (by omega), mset_mset, w32_n1 (by omega), i1, ltr_e]
    by_cases hb : ltr (c p) = true
    · rw [rn_t (by omega) hb, if_pos hb, if_neg (by decide)]
    · rw [rn_f hb, if_neg hb, if_pos rfl]
/-- the number of the digits p .. e-1 behind v -/
def vlf (c : Nat → Int) : Nat → Nat → Int → Int
  | 0, _, v => v
  | n + 1, p, v => vlf c n (p + 1) (10 * v + c p - 48)
theorem vlf_r (hd : Prop) : ∀ (n p : Nat) (v : Int) (k : Nat), (∀ j, p ≤ j → j < p + n → dgt (c j) = true) → 0 ≤ v → v < 10 ^ k → n + k ≤ 4 → 0 ≤ vlf c n p v ∧ vlf c n p v < 10 ^ (n + k) := by
  intro n
  induction n with
  | zero => intro p v k _ h1 h2 _; rw [vlf, Nat.zero_add]; exact ⟨h1, h2⟩
  | succ n ih =>
    intro p v k hj h1 h2 h3
    have hp := of_decide_eq_true (hj p (Nat.le_refl _) (by omega))
    have e : (10 : Int) ^ (k + 1) = 10 ^ k * 10 := Int.pow_succ ..
    rw [vlf, show n + 1 + k = n + (k + 1) by omega]
    exact ih (p + 1) _ (k + 1) (fun j a b => hj j (by omega) (by omega)) (by omega) (by rw [e]; omega) (by omega)
end REF
