/-! what a part of a text says: the codes from a place on, over a stack -/
def bo (code a b : Int) : Int := f_X10_bothOf code a b
def evs (c : Nat → Int) (nm : Nat → Int) : Nat → Nat → Nat → (Nat → Int) → (Nat → Int)
  | 0, _, _, st => st
  | k + 1, i, d, st =>
    if c i < 11 then evs c nm k (i + 1) (d + 1) (fun j => if j = d then nm (c i).toNat else st j)
    else if 100000 ≤ c i then evs c nm k (i + 1) (d + 1) (fun j => if j = d then c i - 100000 else st j)
    else if c i = 13 then evs c nm k (i + 1) d (fun j => if j = d - 1 then (if st (d - 1) = 0 then 1 else 0) else st j)
    else if c i = 19 then evs c nm k (i + 1) d (fun j => if j = d - 1 then w32 (-(st (d - 1))) else st j)
    else evs c nm k (i + 1) (d - 1) (fun j => if j = d - 2 then bo (c i) (st (d - 2)) (st (d - 1)) else st j)
/-- each code can be worked at its place, and one value is left -/
def wfc (c : Nat → Int) : Nat → Nat → Nat → Prop
  | 0, _, d => d = 1
  | k + 1, i, d =>
    ((0 ≤ c i ∧ c i < 6 ∨ 100000 ≤ c i ∧ c i < 110000) ∧ d + 1 ≤ 31 ∧ wfc c k (i + 1) (d + 1)) ∨
    ((c i = 13 ∨ c i = 19) ∧ 1 ≤ d ∧ wfc c k (i + 1) d) ∨
    ((c i = 11 ∨ c i = 12 ∨ 14 ≤ c i ∧ c i ≤ 18) ∧ 2 ≤ d ∧ wfc c k (i + 1) (d - 1))
/-- a step of the class, a code of the reference -/
def cvr (s c : Int) : Prop :=
  (0 ≤ c ∧ c < 6 ∧ s = 300 + c) ∨ (100000 ≤ c ∧ c < 110000 ∧ s = c - 99000) ∨ (s = 261 ∧ c = 13) ∨ (s = 262 ∧ c = 19) ∨ (s = 259 ∧ c = 11) ∨ (s = 260 ∧ c = 12) ∨ (s = 60 ∧ c = 14) ∨ (s = 61 ∧ c = 15) ∨ (s = 43 ∧ c = 16) ∨ (s = 45 ∧ c = 17) ∨ (s = 42 ∧ c = 18)
/-- the texts of the reference: a text's codes, where its parts begin -/
def txc (M : Mem) (t : Nat) : Nat → Int := fun i => M 45 (200 * t + i)
def txb (M : Mem) (t p : Nat) : Nat := (M 46 (4 * t + p)).toNat
def nmf (price set place ones guest left : Int) : Nat → Int := fun k => match k with
  | 0 => price
  | 1 => set
  | 2 => place
  | 3 => ones
  | 4 => guest
  | _ => left
def clm (p : Nat) (v : Int) : Int := if p = 0 then (if v = 0 then 0 else 1) else (if v < 0 then 0 else if (if p = 1 then 99 else 999) < v then (if p = 1 then 99 else 999) else v)
/-- what part p of text t says -/
def sy (M : Mem) (t p : Nat) (price set place guest left : Int) : Int :=
  clm p (evs (txc M t) (nmf price set place ((popc set.toNat : Nat) : Int) guest left) (txb M t (p + 1) - txb M t p) (txb M t p) 0 (fun _ => 0) 0)
/-- a sound text -/
def TX (M : Mem) (t : Nat) : Prop := ∀ p : Nat, p < 3 → M 46 (4 * t + p) = ((txb M t p : Nat) : Int) ∧ M 46 (4 * t + p + 1) = ((txb M t (p + 1) : Nat) : Int) ∧ txb M t p ≤ txb M t (p + 1) ∧ txb M t (p + 1) ≤ 160 ∧ wfc (txc M t) (txb M t (p + 1) - txb M t p) (txb M t p) 0
section WORTH
variable {x1 x2 x3 A B c : Int} {n : Nat} {M : Mem}
theorem r_w0 (hA : w32 (w32 (w32 (4 * M 38 14) + x1) + 1) = A) (h1 : 0 ≤ A ∧ A < 24) (h2 : ¬ x3 < M 46 A.toNat) : f_X10_worth_L16 x1 (n + 1) x2 x3 M = some (M 54 0, M) := by
  rw [f_X10_worth_L16, hA, if_pos h1, if_neg h2]
theorem r_w1 (hA : w32 (w32 (w32 (4 * M 38 14) + x1) + 1) = A) (h1 : 0 ≤ A ∧ A < 24) (h2 : x3 < M 46 A.toNat) (hB : w32 (w32 (200 * M 38 14) + x3) = B) (h3 : 0 ≤ B ∧ B < 1200) (hc : M 45 B.toNat = c) (h4 : c < 100000) (h5 : c < 11) (h6 : 0 ≤ c ∧ c < 6) (h7 : 0 ≤ x2 ∧ x2 < 200) :
    f_X10_worth_L16 x1 (n + 1) x2 x3 M = f_X10_worth_L16 x1 n (w32 (x2 + 1)) (w32 (x3 + 1)) (mset M 54 x2.toNat (M 55 c.toNat)) := by
  rw [f_X10_worth_L16, hA, if_pos h1, if_pos h2, hB, if_pos h3, hc, if_pos h4, if_pos h5, if_pos h5, if_pos h6, if_pos h7]
theorem r_w2 (hA : w32 (w32 (w32 (4 * M 38 14) + x1) + 1) = A) (h1 : 0 ≤ A ∧ A < 24) (h2 : x3 < M 46 A.toNat) (hB : w32 (w32 (200 * M 38 14) + x3) = B) (h3 : 0 ≤ B ∧ B < 1200) (hc : M 45 B.toNat = c) (h4 : ¬ c < 100000) (h5 : ¬ c < 11) (h7 : 0 ≤ x2 ∧ x2 < 200) :
    f_X10_worth_L16 x1 (n + 1) x2 x3 M = f_X10_worth_L16 x1 n (w32 (x2 + 1)) (w32 (x3 + 1)) (mset M 54 x2.toNat (w32 (c - 100000))) := by
  rw [f_X10_worth_L16, hA, if_pos h1, if_pos h2, hB, if_pos h3, hc, if_neg h4, if_neg h5, if_pos h7]
theorem r_w3 (hA : w32 (w32 (w32 (4 * M 38 14) + x1) + 1) = A) (h1 : 0 ≤ A ∧ A < 24) (h2 : x3 < M 46 A.toNat) (hB : w32 (w32 (200 * M 38 14) + x3) = B) (h3 : 0 ≤ B ∧ B < 1200) (hc : M 45 B.toNat = c) (h4 : c < 100000) (h5 : ¬ c < 11) (h6 : c = 13) (h7 : 0 ≤ w32 (x2 - 1) ∧ w32 (x2 - 1) < 200) :
    f_X10_worth_L16 x1 (n + 1) x2 x3 M = f_X10_worth_L16 x1 n x2 (w32 (x3 + 1)) (mset M 54 (w32 (x2 - 1)).toNat (if M 54 (w32 (x2 - 1)).toNat = 0 then 1 else 0)) := by
  rw [f_X10_worth_L16, hA, if_pos h1, if_pos h2, hB, if_pos h3, hc, if_pos h4, if_neg h5, if_pos h6, if_pos h7]
  by_cases hz : M 54 (w32 (x2 - 1)).toNat = 0
  · rw [if_pos hz, if_pos h7, if_pos hz]
  · rw [if_neg hz, if_pos h7, if_neg hz]
theorem r_w4 (hA : w32 (w32 (w32 (4 * M 38 14) + x1) + 1) = A) (h1 : 0 ≤ A ∧ A < 24) (h2 : x3 < M 46 A.toNat) (hB : w32 (w32 (200 * M 38 14) + x3) = B) (h3 : 0 ≤ B ∧ B < 1200) (hc : M 45 B.toNat = c) (h4 : c < 100000) (h5 : ¬ c < 11) (h6 : ¬ c = 13) (h8 : c = 19) (h7 : 0 ≤ w32 (x2 - 1) ∧ w32 (x2 - 1) < 200) :
    f_X10_worth_L16 x1 (n + 1) x2 x3 M = f_X10_worth_L16 x1 n x2 (w32 (x3 + 1)) (mset M 54 (w32 (x2 - 1)).toNat (w32 (-(M 54 (w32 (x2 - 1)).toNat)))) := by
  rw [f_X10_worth_L16, hA, if_pos h1, if_pos h2, hB, if_pos h3, hc, if_pos h4, if_neg h5, if_neg h6, if_pos h8, if_pos h7, if_pos h7]
theorem r_w5 (hA : w32 (w32 (w32 (4 * M 38 14) + x1) + 1) = A) (h1 : 0 ≤ A ∧ A < 24) (h2 : x3 < M 46 A.toNat) (hB : w32 (w32 (200 * M 38 14) + x3) = B) (h3 : 0 ≤ B ∧ B < 1200) (hc : M 45 B.toNat = c) (h4 : c < 100000) (h5 : ¬ c < 11) (h6 : ¬ c = 13) (h8 : ¬ c = 19) {a : Int} (ha : w32 (x2 + (-1)) = a) {a2 : Int} (ha2 : w32 (a - 1) = a2) (h7 : 0 ≤ a ∧ a < 200) (h9 : 0 ≤ a2 ∧ a2 < 200) :
    f_X10_worth_L16 x1 (n + 1) x2 x3 M = f_X10_worth_L16 x1 n a (w32 (x3 + 1)) (mset M 54 a2.toNat (f_X10_bothOf c (M 54 a2.toNat) (M 54 a.toNat))) := by
  rw [f_X10_worth_L16, hA, if_pos h1, if_pos h2, hB, if_pos h3, hc, if_pos h4, if_neg h5, if_neg h6, if_neg h8, ha, ha2, if_pos h9, if_pos h7, if_pos h9]
end WORTH
