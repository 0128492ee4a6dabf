theorem b_rem64 : ∀ a : Nat, a < 10 → ∀ b : Nat, b < 64 → b_rem ((64 * a + b : Nat) : Int) 64 = (b : Int) := by decide +kernel
theorem b_div64 : ∀ a : Nat, a < 10 → ∀ b : Nat, b < 64 → b_div ((64 * a + b : Nat) : Int) 64 = (a : Int) := by decide +kernel
def mayv (M : Mem) (k : Nat) : Int := if popc (k % 64) ≤ 3 then mb M (k / 64) (k % 64) else 0
theorem r_mays {M : Mem} (h : RA M) : ∃ M', f_X10_mays M = some (0, M') ∧ agr M M' ∧ (∀ l : Nat, l < ln M → ∀ set : Nat, set < 64 → popc set ≤ 3 → M' 57 (64 * l + set) = mb M l set) := by
  obtain ⟨⟨l1, l2, l3⟩, hF, hT, ⟨t1, t2, t3, t4, t5, t6⟩⟩ := h
  unfold f_X10_mays
  obtain ⟨n, M', e, h1, h2⟩ := loopN (N := 64 * ln M) (F := fun n i (M1 : Mem) => f_X10_mays_L2 n (i : Int) M1) (P := fun i M1 => agr M M1 ∧ ∀ k : Nat, k < i → M1 57 k = mayv M k) (by
    intro n i M1 hi hP
    obtain ⟨ha, hb⟩ := hP
    show ∃ st', f_X10_mays_L2 (n + 1) (i : Int) M1 = f_X10_mays_L2 n ((i + 1 : Nat) : Int) st' ∧ _
    have hc : (i : Int) < w32 (64 * M1 38 0) := by rw [ha.s 0, l1, w32_id (by omega) (by omega)]; omega
    have hq : i / 64 < ln M := by omega
    have hm : i % 64 < 64 := Nat.mod_lt _ (by decide)
    have e1 := b_rem64 (i / 64) (by omega) (i % 64) hm
    have e2 := b_div64 (i / 64) (by omega) (i % 64) hm
    rw [Nat.div_add_mod] at e1 e2
    have hr : (0 : Int) ≤ (i : Int) ∧ (i : Int) < 640 := ⟨by omega, by omega⟩
    have fin : ∀ (M2 : Mem) (v : Int), agr M M2 → (∀ k : Nat, k < i → M2 57 k = mayv M k) → v = mayv M i → agr M (mset M2 57 i v) ∧ ∀ k : Nat, k < i + 1 → mset M2 57 i v 57 k = mayv M k := by
      intro M2 v g1 g2 g3
      refine ⟨g1.mset (by rfl), fun k hk => ?_⟩
      by_cases hki : k = i
      · subst hki; rw [mset_at]; exact g3
      · rw [mset_i hki]; exact g2 k (by omega)
    by_cases hp : popc (i % 64) ≤ 3
    · obtain ⟨M2, e3, g⟩ := r_asksOf (M := M1) (p := 0) (l := i / 64) (set := i % 64) (price := M 40 (i / 64)) (guest := 0) (left := 0) (Nat.lt_of_lt_of_le t5 t3) (by decide) (by rw [ha.s 14]; exact t4) (by rw [ha.eTX]; exact t6 _ t5) (by omega) (by omega) (by rw [ha.c 40 (by decide)])
      have ha2 : agr M M2 := ha.trans (agr.of g (by decide))
      have hb2 : ∀ k : Nat, k < i → M2 57 k = mayv M k := fun k hk => by rw [g 57 (by decide)]; exact hb k hk
      refine ⟨mset M2 57 i (mb M (i / 64) (i % 64)), ?_, fin M2 _ ha2 hb2 (by unfold mayv; rw [if_pos hp])⟩
      rw [f_X10_mays_L2, if_pos hc, e1, r_ones (by omega), Option.bind_some, if_neg (by omega), e2]
      refine ob_I e3 ?_
      rw [if_pos hr, Int.toNat_natCast, w32_n1 (by omega), ha.esy]
      rfl
    · refine ⟨mset M1 57 i 0, ?_, fin M1 _ ha hb (by unfold mayv; rw [if_neg hp])⟩
      rw [f_X10_mays_L2, if_pos hc, e1, r_ones (by omega), Option.bind_some, if_pos (by omega), if_pos hr, Int.toNat_natCast, w32_n1 (by omega)]) (64 * ln M) 100000 0 M (by omega) (by omega) ⟨agr.refl, fun k hk => absurd hk (Nat.not_lt_zero k)⟩
  have e : f_X10_mays_L2 100000 0 M = f_X10_mays_L2 (n + 1) ((64 * ln M : Nat) : Int) M' := e
  refine ⟨M', ?_, h1, fun l hl set hs hp => ?_⟩
  · rw [e, f_X10_mays_L2, if_neg]
    rw [h1.s 0, l1, w32_id (by omega) (by omega)]; omega
  · rw [h2 _ (by omega)]
    unfold mayv
    rw [show (64 * l + set) % 64 = set by omega, show (64 * l + set) / 64 = l by omega, if_pos hp]
theorem lawb_f {M : Mem} {t i : Nat} (hi : i < ln M) (h : mb M i (hd M i t) = 0) : lawb M t = false := by
  unfold lawb lawA
  rw [List.all_eq_false]
  exact ⟨i, List.mem_range.mpr hi, by simp [h]⟩
theorem r_mayBe {M : Mem} {t : Nat} (h : RLn M) (hT : TB M) (ht : t < 720) (hm : ∀ l : Nat, l < ln M → ∀ set : Nat, set < 64 → popc set ≤ 3 → M 57 (64 * l + set) = mb M l set) : f_X10_mayBe (t : Int) M = some (bi (lawb M t)) := by
  obtain ⟨l1, l2, l3⟩ := h
  unfold f_X10_mayBe
  obtain ⟨r, e, h1⟩ := loopX (N := ln M) (F := fun n i (_ : Unit) => f_X10_mayBe_L2 (t : Int) M n (i : Int)) (P := fun i _ => lawA M t i = true) (Q := fun r => r = bi (lawb M t)) (by
    intro n i st hi hP
    have hc : (i : Int) < M 38 0 := by rw [l1]; omega
    have hi10 : i < 10 := by omega
    have e1 := r_hasIn hi10 ht (l3 i hi10).1 (l3 i hi10).2.1 hT
    have h64 : ps (sgn M i) t < 64 := ps_lt ht
    have e2 : w32 (w32 (64 * (i : Int)) + ((ps (sgn M i) t : Nat) : Int)) = ((64 * i + ps (sgn M i) t : Nat) : Int) := by
      rw [w32_id (z := 64 * (i : Int)) (by omega) (by omega), w32_id (by omega) (by omega)]; omega
    have e3 : M 57 (64 * i + ps (sgn M i) t) = mb M i (hd M i t) := hm i hi _ h64 (by rw [ps_pc ht (l3 i hi10).2.1]; exact (l3 i hi10).2.2.1)
    have hb : (0 : Int) ≤ ((64 * i + ps (sgn M i) t : Nat) : Int) ∧ ((64 * i + ps (sgn M i) t : Nat) : Int) < 640 := ⟨by omega, by omega⟩
    by_cases hz : mb M i (hd M i t) = 0
    · right
      refine ⟨0, ?_, by rw [lawb_f hi hz]; rfl⟩
      show f_X10_mayBe_L2 (t : Int) M (n + 1) (i : Int) = _
      rw [f_X10_mayBe_L2, if_pos hc, e1, Option.bind_some, e2, if_pos hb, Int.toNat_natCast, e3, if_pos hz]
    · left
      refine ⟨(), ?_, by rw [lawA_s, hP]; simp [hz]⟩
      show f_X10_mayBe_L2 (t : Int) M (n + 1) (i : Int) = f_X10_mayBe_L2 (t : Int) M n ((i + 1 : Nat) : Int)
      rw [f_X10_mayBe_L2, if_pos hc, e1, Option.bind_some, e2, if_pos hb, Int.toNat_natCast, e3, if_neg hz, w32_n1 (by omega)]) (by
    intro n st hP
    refine ⟨1, ?_, by unfold lawb; rw [hP]; rfl⟩
    show f_X10_mayBe_L2 (t : Int) M (n + 1) ((ln M : Nat) : Int) = _
    rw [f_X10_mayBe_L2, if_neg (by rw [l1]; omega)]) (ln M) 100000 0 () (by omega) (by omega) rfl
  have e : f_X10_mayBe_L2 (t : Int) M 100000 0 = some r := e
  rw [e, h1]
