/-! division, fractions -/
theorem b_div_n {a b : Nat} (ha : a < 2147483648) (hb : b < 2147483648) : b_div (a : Int) (b : Int) = ((a / b : Nat) : Int) := by
  unfold b_div
  rw [Int32.toInt_div, ti32 ⟨by omega, by omega⟩, ti32 ⟨by omega, by omega⟩]
  have e : (a : Int).tdiv (b : Int) = ((a / b : Nat) : Int) := rfl
  have hle := Nat.div_le_self a b
  rw [e]
  generalize a / b = q at hle ⊢
  exact Int.bmod_eq_of_le (by omega) (by omega)
theorem b_rem_n {a b : Nat} (ha : a < 2147483648) (hb : b < 2147483648) : b_rem (a : Int) (b : Int) = ((a % b : Nat) : Int) := by
  have e : Int32.ofInt (a : Int) / Int32.ofInt (b : Int) = Int32.ofInt ((a / b : Nat) : Int) := by
    rw [← b_div_n ha hb]; unfold b_div; exact (Int32.ofInt_toInt _).symm
  have hle := Nat.mod_le a b
  have h2 := Nat.div_add_mod a b
  unfold b_rem
  rw [e, ← Int32.ofInt_mul, ← Int32.ofInt_sub]
  have e2 : (a : Int) - ((a / b : Nat) : Int) * (b : Int) = ((a % b : Nat) : Int) := by
    rw [← Int.natCast_mul, Nat.mul_comm (a / b) b]; omega
  rw [e2, ti32 ⟨by omega, by omega⟩]
theorem b_ldiv_n {a b : Nat} (ha : a < 9223372036854775808) (hb : b < 9223372036854775808) : b_ldiv (a : Int) (b : Int) = ((a / b : Nat) : Int) := by
  unfold b_ldiv
  rw [Int64.toInt_div, ti64 ⟨by omega, by omega⟩, ti64 ⟨by omega, by omega⟩]
  have e : (a : Int).tdiv (b : Int) = ((a / b : Nat) : Int) := rfl
  have hle := Nat.div_le_self a b
  rw [e]
  generalize a / b = q at hle ⊢
  exact Int.bmod_eq_of_le (by omega) (by omega)
theorem b_lrem_n {a b : Nat} (ha : a < 9223372036854775808) (hb : b < 9223372036854775808) : b_lrem (a : Int) (b : Int) = ((a % b : Nat) : Int) := by
  have e : Int64.ofInt (a : Int) / Int64.ofInt (b : Int) = Int64.ofInt ((a / b : Nat) : Int) := by
    rw [← b_ldiv_n ha hb]; unfold b_ldiv; exact (Int64.ofInt_toInt _).symm
  have hle := Nat.mod_le a b
  have h2 := Nat.div_add_mod a b
  unfold b_lrem
  rw [e, ← Int64.ofInt_mul, ← Int64.ofInt_sub]
  have e2 : (a : Int) - ((a / b : Nat) : Int) * (b : Int) = ((a % b : Nat) : Int) := by
    rw [← Int.natCast_mul, Nat.mul_comm (a / b) b]; omega
  rw [e2, ti64 ⟨by omega, by omega⟩]
theorem c_gcd : ∀ (k : Nat) (a b fuel turn : Nat), b ≤ a → a < 2 ^ k → a < 2147483648 → turn + 2 * k + 1 ≤ 64 → 2 * k + 2 < fuel → f_X9_commonDivisor_L7 fuel (a : Int) (b : Int) (turn : Int) = some ((Nat.gcd a b : Nat) : Int) := by
  intro k
  induction k with
  | zero =>
    intro a b fuel turn hba ha hA ht hf
    obtain ⟨n, rfl⟩ : ∃ n, fuel = n + 1 := ⟨fuel - 1, by omega⟩
    have h1 : a = 0 := by rw [Nat.pow_zero] at ha; omega
    have h2 : b = 0 := by omega
    subst h1; subst h2
    rw [f_X9_commonDivisor_L7, if_pos (by omega), if_neg (by decide)]; rfl
  | succ k ih =>
    intro a b fuel turn hba ha hA ht hf
    obtain ⟨n, rfl⟩ : ∃ n, fuel = n + 1 := ⟨fuel - 1, by omega⟩
    by_cases hb : b = 0
    · subst hb
      rw [f_X9_commonDivisor_L7, if_pos (by omega), if_neg (by decide), Nat.gcd_zero_right]
    · rw [f_X9_commonDivisor_L7, if_pos (by omega), if_pos (by omega), if_pos (by omega), b_rem_n (by omega) (by omega), w32_n1 (by omega)]
      have hm : a % b < b := Nat.mod_lt _ (by omega)
      obtain ⟨m, rfl⟩ : ∃ m, n = m + 1 := ⟨n - 1, by omega⟩
      have e1 : Nat.gcd a b = Nat.gcd b (a % b) := by rw [Nat.gcd_comm a b, Nat.gcd_rec b a, Nat.gcd_comm]
      by_cases hz : a % b = 0
      · rw [hz, f_X9_commonDivisor_L7, if_pos (by omega), if_neg (by decide), e1, hz, Nat.gcd_zero_right]
      · have hm2 : b % (a % b) < a % b := Nat.mod_lt _ (by omega)
        have hhalf : a % b < 2 ^ k := by
          have h1 := Nat.div_add_mod a b
          have h2 : 1 ≤ a / b := (Nat.one_le_div_iff (by omega)).mpr hba
          have h3 : b * 1 ≤ b * (a / b) := Nat.mul_le_mul_left b h2
          rw [Nat.pow_succ] at ha
          omega
        rw [f_X9_commonDivisor_L7, if_pos (by omega), if_pos (by omega), if_pos (by omega), b_rem_n (by omega) (by omega), w32_n1 (by omega), ih (a % b) (b % (a % b)) m (turn + 1 + 1) (by omega) hhalf (by omega) (by omega) (by omega)]
        have e2 : Nat.gcd b (a % b) = Nat.gcd (a % b) (b % (a % b)) := by rw [Nat.gcd_comm b (a % b), Nat.gcd_rec (a % b) b, Nat.gcd_comm]
        rw [e1, e2]
theorem r_gcd {K : Int → Option Int} {x0 x2 x4 : Int} : ∀ (b a fuel : Nat), a < 2147483648 → b < 2147483648 → b < fuel → f_X10_lowest_L16 K x0 x2 x4 fuel (a : Int) (b : Int) = K ((Nat.gcd a b : Nat) : Int) := by
  intro b
  induction b using Nat.strongRecOn with
  | _ b ih =>
    intro a fuel ha hb hf
    obtain ⟨n, rfl⟩ : ∃ n, fuel = n + 1 := ⟨fuel - 1, by omega⟩
    by_cases h0 : b = 0
    · subst h0
      rw [f_X10_lowest_L16, if_pos (by rfl), Nat.gcd_zero_right]
    · have hne : ¬ b_lcmp (b : Int) 0 = 0 := by unfold b_lcmp; rw [if_pos (by omega)]; decide
      have hm : a % b < b := Nat.mod_lt _ (by omega)
      rw [f_X10_lowest_L16, if_neg hne, if_pos (by omega), b_lrem_n (by omega) (by omega), ih (a % b) hm b n (by omega) (by omega) (by omega)]
      rw [Nat.gcd_comm a b, Nat.gcd_rec b a, Nat.gcd_comm]
/-- part p of a fraction in lowest terms -/
def frv (a b : Nat) (p : Int) : Int := if p = 0 then ((a / Nat.gcd a b : Nat) : Int) else ((b / Nat.gcd a b : Nat) : Int)
theorem c_fraction {a b : Nat} {p : Int} (hab : a ≤ b) (hb : 0 < b) (hb2 : b < 1024) (hp : p = 0 ∨ p = 1) : f_X9_fraction (a : Int) (b : Int) p = some (frv a b p) := by
  have hg : 0 < Nat.gcd a b := Nat.gcd_pos_of_pos_right _ hb
  have hgl : Nat.gcd a b ≤ b := Nat.le_of_dvd hb (Nat.gcd_dvd_right a b)
  have e : f_X9_commonDivisor (a : Int) (b : Int) = some ((Nat.gcd a b : Nat) : Int) := by
    unfold f_X9_commonDivisor
    have := c_gcd 10 b a 100000 0 hab (by simpa using hb2) (by omega) (by omega) (by omega)
    rw [Nat.gcd_comm] at this
    exact this
  unfold f_X9_fraction frv
  rw [e, Option.bind_some, if_pos (by omega), if_pos (by omega)]
  rcases hp with rfl | rfl
  · rw [if_pos rfl, if_pos (by omega), if_pos rfl, b_div_n (by omega) (by omega)]
  · rw [if_neg (by decide), if_pos (by omega), if_neg (by decide), b_div_n (by omega) (by omega)]
theorem c_fraction0 {p : Int} : f_X9_fraction 0 0 p = some (-4611686018427387904) := by
  unfold f_X9_fraction
  have e : f_X9_commonDivisor 0 0 = some 0 := by
    unfold f_X9_commonDivisor
    rw [f_X9_commonDivisor_L7, if_pos (by decide), if_neg (by decide)]
  rw [e, Option.bind_some, if_neg (by decide)]
theorem r_lowest {a b : Nat} {p : Int} (hab : a ≤ b) (hb : 0 < b) (hb2 : b < 1024) (hp : p = 0 ∨ p = 1) : f_X10_lowest (a : Int) (b : Int) p = some (frv a b p) := by
  have hg : 0 < Nat.gcd a b := Nat.gcd_pos_of_pos_right _ hb
  have hgl : Nat.gcd a b ≤ b := Nat.le_of_dvd hb (Nat.gcd_dvd_right a b)
  unfold f_X10_lowest
  by_cases ha : a = 0
  · subst ha
    rw [if_pos (by rfl)]
    unfold frv
    rw [Nat.gcd_zero_left, Nat.div_self hb, Nat.zero_div]
    rcases hp with rfl | rfl
    · rfl
    · rfl
  · have hne : ¬ b_lcmp (a : Int) 0 = 0 := by unfold b_lcmp; rw [if_pos (by omega)]; decide
    rw [if_neg hne, r_gcd b a 100000 (by omega) (by omega) (by omega)]
    unfold frv
    rcases hp with rfl | rfl
    · rw [if_pos rfl, if_pos (by omega), if_pos rfl, b_ldiv_n (by omega) (by omega)]
    · rw [if_neg (by decide), if_pos (by omega), if_neg (by decide), b_ldiv_n (by omega) (by omega)]
/-! counts over a list -/
def ck (L : List Nat) (P : Nat → Bool) (k : Nat) : Nat := (L.take k).countP P
theorem take_s {L : List Nat} {k : Nat} (h : k < L.length) : L.take (k + 1) = L.take k ++ [L.getD k 0] := by
  rw [List.take_add_one, List.getElem?_eq_getElem h]
  simp [List.getD, h]
theorem ck_s {L : List Nat} {P : Nat → Bool} {k : Nat} (h : k < L.length) : ck L P (k + 1) = ck L P k + if P (L.getD k 0) then 1 else 0 := by
  unfold ck
  rw [take_s h, List.countP_append, List.countP_singleton]
theorem ck_le (L : List Nat) (P : Nat → Bool) (k : Nat) : ck L P k ≤ L.length := by
  unfold ck
  exact Nat.le_trans List.countP_le_length (by rw [List.length_take]; omega)
theorem ck_all (L : List Nat) (P : Nat → Bool) : ck L P L.length = L.countP P := by unfold ck; rw [List.take_length]
theorem ck_0 (L : List Nat) (P : Nat → Bool) : ck L P 0 = 0 := rfl
/-- sums over the sets, of what is counted by a set -/
def su (f : Nat → Nat) (n : Nat) : Nat := (List.range n).foldl (fun a k => a + f k) 0
theorem su_s (f : Nat → Nat) (n : Nat) : su f (n + 1) = su f n + f n := by unfold su; rw [List.range_succ, List.foldl_append]; rfl
theorem su_0 (f : Nat → Nat) : su f 0 = 0 := rfl
theorem su_add (f g : Nat → Nat) (n : Nat) : su (fun k => f k + g k) n = su f n + su g n := by
  induction n with
  | zero => rfl
  | succ n ih => rw [su_s, su_s, su_s, ih]; omega
theorem su_z (n : Nat) : su (fun _ => 0) n = 0 := by
  induction n with
  | zero => rfl
  | succ n ih => rw [su_s, ih]
theorem su_c {f g : Nat → Nat} {n : Nat} (h : ∀ k, k < n → f k = g k) : su f n = su g n := by
  induction n with
  | zero => rfl
  | succ n ih => rw [su_s, su_s, ih (fun k hk => h k (by omega)), h n (by omega)]
theorem su_one {a v : Nat} (n : Nat) : su (fun k => if a == k then v else 0) n = if a < n then v else 0 := by
  induction n with
  | zero => rfl
  | succ n ih =>
    rw [su_s, ih]
    by_cases h1 : a < n
    · rw [if_pos h1, if_pos (show a < n + 1 by omega), if_neg (show ¬ (a == n) = true by simp; omega)]; omega
    · rw [if_neg h1]
      by_cases h2 : a = n
      · rw [if_pos (show (a == n) = true by simp [h2]), if_pos (show a < n + 1 by omega)]; omega
      · rw [if_neg (show ¬ (a == n) = true by simp [h2]), if_neg (show ¬ a < n + 1 by omega)]
def sl (L : List Nat) (f : Nat → Nat) : Nat := L.foldr (fun t a => f t + a) 0
theorem sl_c (t : Nat) (L : List Nat) (f : Nat → Nat) : sl (t :: L) f = f t + sl L f := rfl
theorem su_sl {h : Nat → Nat} {N : Nat} (w : Nat → Nat) : ∀ L : List Nat, (∀ t ∈ L, h t < N) → su (fun s => L.countP (fun t => h t == s) * w s) N = sl L (fun t => w (h t)) := by
  intro L
  induction L with
  | nil => intro _; show su (fun s => 0 * w s) N = 0; rw [su_c (g := fun _ => 0) (fun k _ => Nat.zero_mul _), su_z]
  | cons t L ih =>
    intro hL
    rw [sl_c, ← ih (fun q hq => hL q (List.mem_cons_of_mem _ hq))]
    have e : ∀ k, k < N → (t :: L).countP (fun t => h t == k) * w k = (if h t == k then w (h t) else 0) + L.countP (fun t => h t == k) * w k := by
      intro k _
      rw [List.countP_cons, Nat.add_mul]
      by_cases hk : h t = k
      · rw [if_pos (by simp [hk]), if_pos (by simp [hk]), hk]; omega
      · rw [if_neg (by simp [hk]), if_neg (by simp [hk])]; omega
    rw [su_c e, su_add, su_one, if_pos (hL t List.mem_cons_self)]
theorem sl_b (P : Nat → Bool) : ∀ L : List Nat, sl L (fun t => if P t then 1 else 0) = L.countP P := by
  intro L
  induction L with
  | nil => rfl
  | cons t L ih => rw [sl_c, ih, List.countP_cons]; omega
theorem sl_le {f : Nat → Nat} {c : Nat} : ∀ L : List Nat, (∀ t ∈ L, f t ≤ c) → sl L f ≤ L.length * c := by
  intro L
  induction L with
  | nil => intro _; exact Nat.zero_le _
  | cons t L ih =>
    intro h
    rw [sl_c, List.length_cons, Nat.succ_mul]
    have h1 := h t List.mem_cons_self
    have h2 := ih (fun q hq => h q (List.mem_cons_of_mem _ hq))
    omega
theorem sl_app (f : Nat → Nat) : ∀ L K : List Nat, sl (L ++ K) f = sl L f + sl K f := by
  intro L
  induction L with
  | nil => intro K; show sl K f = 0 + sl K f; omega
  | cons t L ih => intro K; show f t + sl (L ++ K) f = f t + sl L f + sl K f; rw [ih]; omega
def sk (L : List Nat) (f : Nat → Nat) (k : Nat) : Nat := sl (L.take k) f
theorem sk_s {L : List Nat} {f : Nat → Nat} {k : Nat} (h : k < L.length) : sk L f (k + 1) = sk L f k + f (L.getD k 0) := by
  unfold sk
  rw [take_s h, sl_app]; rfl
theorem sk_all (L : List Nat) (f : Nat → Nat) : sk L f L.length = sl L f := by unfold sk; rw [List.take_length]
theorem su_mono {f : Nat → Nat} {n m : Nat} (h : n ≤ m) : su f n ≤ su f m := by
  induction m with
  | zero => have : n = 0 := by omega
            subst this; exact Nat.le_refl _
  | succ m ih =>
    by_cases e : n = m + 1
    · subst e; exact Nat.le_refl _
    · have := ih (by omega); rw [su_s]; omega
theorem getD_mem {L : List Nat} {k : Nat} (h : k < L.length) : L.getD k 0 ∈ L := by
  have : L.getD k 0 = L[k] := by simp [List.getD, h]
  rw [this]; exact List.getElem_mem h
theorem beq_t {a b : Nat} (h : a = b) : (a == b) = true := beq_iff_eq.mpr h
theorem beq_f {a b : Nat} (h : ¬ a = b) : ¬ (a == b) = true := fun q => h (beq_iff_eq.mp q)
theorem nbeq_t {a b : Nat} (h : ¬ a = b) : (!(a == b)) = true := by rw [Bool.not_eq_true', beq_eq_false_iff_ne]; exact h
theorem nbeq_f {a b : Nat} (h : a = b) : ¬ (!(a == b)) = true := by rw [beq_t h]; decide
