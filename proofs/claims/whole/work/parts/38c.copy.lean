theorem r_copyL {B : Mem} {n a b : Nat} (ha : a + n ≤ 160) (hb : b + n ≤ 160) : ∃ B', f_X10_copy_L147 (n : Int) (a : Int) (b : Int) 100000 0 B = some ((n : Int), B') ∧ agx [50] B B' ∧ ∀ j : Nat, B' 50 j = if b ≤ j ∧ j < b + n then B 50 (a + (j - b)) else B 50 j := by
  by_cases hab : a < b
  · obtain ⟨k, A', e, g1, g2⟩ := loopN (N := n) (F := fun k i (M2 : Mem) => f_X10_copy_L147 (n : Int) (a : Int) (b : Int) k (i : Int) M2) (P := fun i M2 => agx [50] B M2 ∧ ∀ j : Nat, M2 50 j = if b + (n - i) ≤ j ∧ j < b + n then B 50 (a + (j - b)) else B 50 j) (by
      intro k i M2 hi hP
      obtain ⟨p1, p2⟩ := hP
      have e1 : w32 (w32 ((n : Int) - 1) - (i : Int)) = ((n - 1 - i : Nat) : Int) := by rw [w32_id (z := (n : Int) - 1) (by omega) (by omega), w32_id (by omega) (by omega)]; omega
      have e2 : w32 ((a : Int) + ((n - 1 - i : Nat) : Int)) = ((a + (n - 1 - i) : Nat) : Int) := by rw [w32_id (by omega) (by omega)]; omega
      have e3 : w32 ((b : Int) + ((n - 1 - i : Nat) : Int)) = ((b + (n - 1 - i) : Nat) : Int) := by rw [w32_id (by omega) (by omega)]; omega
      refine ⟨mset M2 50 (b + (n - 1 - i)) (M2 50 (a + (n - 1 - i))), ?_, p1.mset (by decide), fun j => ?_⟩
      · show f_X10_copy_L147 (n : Int) (a : Int) (b : Int) (k + 1) (i : Int) M2 = f_X10_copy_L147 (n : Int) (a : Int) (b : Int) k ((i + 1 : Nat) : Int) _
        rw [f_X10_copy_L147, if_pos (by omega), if_pos (by omega), e1, e2, e3, if_pos ⟨by omega, by omega⟩, if_pos ⟨by omega, by omega⟩, Int.toNat_natCast, Int.toNat_natCast, w32_n1 (by omega)]
      · have er : M2 50 (a + (n - 1 - i)) = B 50 (a + (n - 1 - i)) := by rw [p2, if_neg (by omega)]
        rw [mset_if, er, p2 j]
        by_cases e : j = b + (n - 1 - i)
        · rw [if_pos e, if_pos ⟨by omega, by omega⟩, e, Nat.add_sub_cancel_left]
        · rw [if_neg e]
          by_cases h1 : b + (n - i) ≤ j ∧ j < b + n
          · rw [if_pos h1, if_pos ⟨by omega, h1.2⟩]
          · rw [if_neg h1, if_neg (by omega)]) n 100000 0 B (by omega) (by omega) ⟨agx.refl, fun j => by rw [if_neg (by omega)]⟩
    have e : f_X10_copy_L147 (n : Int) (a : Int) (b : Int) 100000 0 B = f_X10_copy_L147 (n : Int) (a : Int) (b : Int) (k + 1) ((n : Nat) : Int) A' := e
    refine ⟨A', by rw [e, f_X10_copy_L147, if_neg (by omega)], g1, fun j => ?_⟩
    rw [g2 j, Nat.sub_self, Nat.add_zero]
  · obtain ⟨k, A', e, g1, g2⟩ := loopN (N := n) (F := fun k i (M2 : Mem) => f_X10_copy_L147 (n : Int) (a : Int) (b : Int) k (i : Int) M2) (P := fun i M2 => agx [50] B M2 ∧ ∀ j : Nat, M2 50 j = if b ≤ j ∧ j < b + i then B 50 (a + (j - b)) else B 50 j) (by
      intro k i M2 hi hP
      obtain ⟨p1, p2⟩ := hP
      have e2 : w32 ((a : Int) + (i : Int)) = ((a + i : Nat) : Int) := by rw [w32_id (by omega) (by omega)]; omega
      have e3 : w32 ((b : Int) + (i : Int)) = ((b + i : Nat) : Int) := by rw [w32_id (by omega) (by omega)]; omega
      refine ⟨mset M2 50 (b + i) (M2 50 (a + i)), ?_, p1.mset (by decide), fun j => ?_⟩
      · show f_X10_copy_L147 (n : Int) (a : Int) (b : Int) (k + 1) (i : Int) M2 = f_X10_copy_L147 (n : Int) (a : Int) (b : Int) k ((i + 1 : Nat) : Int) _
        rw [f_X10_copy_L147, if_pos (by omega), if_neg (by omega), e2, e3, if_pos ⟨by omega, by omega⟩, if_pos ⟨by omega, by omega⟩, Int.toNat_natCast, Int.toNat_natCast, w32_n1 (by omega)]
      · have er : M2 50 (a + i) = B 50 (a + i) := by rw [p2, if_neg (by omega)]
        rw [mset_if, er, p2 j]
        by_cases e : j = b + i
        · rw [if_pos e, if_pos ⟨by omega, by omega⟩, e, Nat.add_sub_cancel_left]
        · rw [if_neg e]
          by_cases h1 : b ≤ j ∧ j < b + i
          · rw [if_pos h1, if_pos ⟨h1.1, by omega⟩]
          · rw [if_neg h1, if_neg (by omega)]) n 100000 0 B (by omega) (by omega) ⟨agx.refl, fun j => by rw [if_neg (by omega)]⟩
    have e : f_X10_copy_L147 (n : Int) (a : Int) (b : Int) 100000 0 B = f_X10_copy_L147 (n : Int) (a : Int) (b : Int) (k + 1) ((n : Nat) : Int) A' := e
    exact ⟨A', by rw [e, f_X10_copy_L147, if_neg (by omega)], g1, g2⟩
