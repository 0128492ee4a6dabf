/-! tonight: what each guest likes of what is safe -/
def lv (M : Mem) (g l : Nat) : Int := if sfb M g l then ((lik M g l : Nat) : Int) else -1
theorem lv_b (M : Mem) (g l : Nat) : -1 ≤ lv M g l ∧ lv M g l ≤ 71280 := by
  have := lik_le M g l
  unfold lv
  split
  · exact ⟨by omega, by omega⟩
  · exact ⟨by omega, by omega⟩
theorem tb_sh {x l : Nat} : x.testBit l = true ↔ (x >>> l) % 2 = 1 := by
  unfold Nat.testBit
  rw [Nat.and_comm, Nat.and_one_is_mod, bne_iff_ne]
  omega
theorem bits_sh {f : Nat → Bool} {l n : Nat} (hl : l < n) : (bitsA f n >>> l) % 2 = 1 ↔ f l = true := by
  rw [← tb_sh, bitsA_b]
  simp [hl]
theorem w10' {a b : Nat} (ha : a < 10) (hb : b < 100) : w32 (w32 ((a : Int) * 10) + (b : Int)) = ((10 * a + b : Nat) : Int) := by
  rw [w32_id (z := (a : Int) * 10) (by omega) (by omega), w32_id (by omega) (by omega)]; omega
theorem c_planL {K : Mem → Option (Int × Mem)} {M M1 : Mem} {g : Nat} (h : Inv M) (c : CH M) (hg : g < 4) (ha : agx [19, 20, 28] M M1) :
    ∃ M2, f_X9_planTonight_L20 K (g : Int) ((bitsA (sfb M g) (ln M) : Nat) : Int) 100000 0 M1 = K M2 ∧ agx [19, 20, 28] M1 M2 ∧ (∀ l : Nat, l < ln M → M2 28 (10 * g + l) = lv M g l) ∧ ∀ j : Nat, (j < 10 * g ∨ 10 * g + 10 ≤ j) → M2 28 j = M1 28 j := by
  have l2 := h.1.1.2.1
  have e33 : M 3 3 = (ln M : Int) := by rw [h.2.1.1.1, h.1.1.1]
  obtain ⟨n, M2, e, g1, g2, g3⟩ := loopN (N := ln M) (F := fun n i (M2 : Mem) => f_X9_planTonight_L20 K (g : Int) ((bitsA (sfb M g) (ln M) : Nat) : Int) n (i : Int) M2) (P := fun i M2 => agx [19, 20, 28] M1 M2 ∧ (∀ l : Nat, l < i → M2 28 (10 * g + l) = lv M g l) ∧ ∀ j : Nat, (j < 10 * g ∨ 10 * g + 10 ≤ j) → M2 28 j = M1 28 j) (by
    intro n i M2 hi hP
    obtain ⟨p1, p2, p3⟩ := hP
    have hax : agx [19, 20, 28] M M2 := ha.trans p1
    have hq : agq M M2 := agq.of hax (by decide)
    have hC : CH M2 := c.of hq hax (by decide)
    have hb := bitsA_lt (sfb M g) (ln M)
    have hb2 : bitsA (sfb M g) (ln M) < 1024 := Nat.lt_of_lt_of_le hb (Nat.pow_le_pow_right (n := 2) (j := 10) (by decide) l2)
    have off : ∀ (v : Int) (M3 : Mem), f_X8_offer (g : Int) (i : Int) v M3 = some (0, mset M3 28 (10 * g + i) v) := by
      intro v M3
      rw [f_X8_offer, w10' (by omega) (by omega), wr_n (by omega)]
    have fin : ∀ (v : Int) (M3 : Mem), agx [19, 20] M2 M3 → v = lv M g i → agx [19, 20, 28] M1 (mset M3 28 (10 * g + i) v) ∧ (∀ l : Nat, l < i + 1 → mset M3 28 (10 * g + i) v 28 (10 * g + l) = lv M g l) ∧ ∀ j : Nat, (j < 10 * g ∨ 10 * g + 10 ≤ j) → mset M3 28 (10 * g + i) v 28 j = M1 28 j := by
      intro v M3 h3 hv
      refine ⟨(p1.trans (h3.mono (by decide))).mset (by decide), fun l hl => ?_, fun j hj => ?_⟩
      · by_cases e : l = i
        · subst e; rw [mset_at]; exact hv
        · rw [mset_i (by omega), h3 28 (by decide)]; exact p2 l (by omega)
      · rw [mset_i (by omega), h3 28 (by decide)]; exact p3 j hj
    have hbit := bits_sh (f := sfb M g) (l := i) (n := ln M) hi
    show ∃ st', f_X9_planTonight_L20 K (g : Int) ((bitsA (sfb M g) (ln M) : Nat) : Int) (n + 1) (i : Int) M2 = f_X9_planTonight_L20 K (g : Int) ((bitsA (sfb M g) (ln M) : Nat) : Int) n ((i + 1 : Nat) : Int) st' ∧ _
    rw [f_X9_planTonight_L20, if_pos (by rw [hax 3 (by decide), e33]; omega), r_bit hb2 (by omega), w32_n1 (by omega)]
    by_cases hs : sfb M g i = true
    · obtain ⟨M3, e3, h3⟩ := c_liking (M := M) (M1 := M2) (g := g) (l := i) h c hq hC hi (by omega)
      rw [if_neg (by rw [hbit.mpr hs]; decide)]
      exact ⟨_, ob_I e3 (ob_I (off _ M3) rfl), fin _ M3 h3 (by unfold lv; rw [if_pos hs])⟩
    · have hz : (bitsA (sfb M g) (ln M) >>> i) % 2 = 0 := by
        rcases Nat.mod_two_eq_zero_or_one (bitsA (sfb M g) (ln M) >>> i) with q | q
        · exact q
        · exact absurd (hbit.mp q) hs
      rw [if_pos (by rw [hz]; rfl)]
      exact ⟨_, ob_I (off _ M2) rfl, fin _ M2 agx.refl (by unfold lv; rw [if_neg hs])⟩) (ln M) 100000 0 M1 (by omega) (by omega) ⟨agx.refl, fun l hl => absurd hl (Nat.not_lt_zero _), fun _ _ => rfl⟩
  have e : f_X9_planTonight_L20 K (g : Int) ((bitsA (sfb M g) (ln M) : Nat) : Int) 100000 0 M1 = f_X9_planTonight_L20 K (g : Int) ((bitsA (sfb M g) (ln M) : Nat) : Int) (n + 1) ((ln M : Nat) : Int) M2 := e
  exact ⟨M2, by rw [e, f_X9_planTonight_L20, if_neg (by rw [g1 3 (by decide), ha 3 (by decide), e33]; omega)], g1, g2, g3⟩
theorem c_planO {K : Mem → Option (Int × Mem)} {M : Mem} (h : Inv M) (c : CH M) :
    ∃ M2, f_X9_planTonight_L2 K 100000 0 M = K M2 ∧ agx [19, 20, 28] M M2 ∧ ∀ g : Nat, g < gn M → ∀ l : Nat, l < ln M → M2 28 (10 * g + l) = lv M g l := by
  obtain ⟨g1, g2, g3, g4⟩ := h.2.2.1
  have l2 := h.1.1.2.1
  obtain ⟨n, M2, e, q1, q2⟩ := loopN (N := gn M) (F := fun n i (M2 : Mem) => f_X9_planTonight_L2 K n (i : Int) M2) (P := fun i M2 => agx [19, 20, 28] M M2 ∧ ∀ g : Nat, g < i → ∀ l : Nat, l < ln M → M2 28 (10 * g + l) = lv M g l) (by
    intro n i M2 hi hP
    obtain ⟨p1, p2⟩ := hP
    have hq : agq M M2 := agq.of p1 (by decide)
    have hC : CH M2 := c.of hq p1 (by decide)
    have hI : Inv M2 := h.q hq (fun _ => hC)
    have es := c_safeLines hI hC (g := i) (by omega)
    rw [hq.eq0.2.2.2, hq.eln] at es
    obtain ⟨M3, e3, r1, r2, r3⟩ := c_planL (K := fun M223 => f_X9_planTonight_L2 K n (w32 ((i : Int) + 1)) M223) h c (g := i) (by omega) p1
    refine ⟨M3, ?_, p1.trans r1, fun g hg l hl => ?_⟩
    · show f_X9_planTonight_L2 K (n + 1) (i : Int) M2 = f_X9_planTonight_L2 K n ((i + 1 : Nat) : Int) M3
      rw [f_X9_planTonight_L2, if_pos (by rw [p1 0 (by decide), g1, g2]; omega), es, Option.bind_some, e3, w32_n1 (by omega)]
    · by_cases e : g = i
      · subst e; exact r2 l hl
      · rw [r3 _ (by omega)]; exact p2 g (by omega) l hl) (gn M) 100000 0 M (by omega) (by omega) ⟨agx.refl, fun g hg => absurd hg (Nat.not_lt_zero _)⟩
  have e : f_X9_planTonight_L2 K 100000 0 M = f_X9_planTonight_L2 K (n + 1) ((gn M : Nat) : Int) M2 := e
  exact ⟨M2, by rw [e, f_X9_planTonight_L2, if_neg (by rw [q1 0 (by decide), g1, g2]; omega)], q1, q2⟩
theorem r_likesL {K : Mem → Option (Int × Mem)} {M M1 : Mem} {g : Nat} (h : Inv M) (hg : g < 4) (ha1 : agr M M1) (ho1 : FO M M1) :
    ∃ M2, f_X10_likes_L22 K (g : Int) ((bitsA (sfb M g) (ln M) : Nat) : Int) 100000 0 M1 = K M2 ∧ agx [54, 55, 59] M1 M2 ∧ (∀ l : Nat, l < ln M → M2 59 (10 * g + l) = lv M g l) ∧ ∀ j : Nat, (j < 10 * g ∨ 10 * g + 10 ≤ j) → M2 59 j = M1 59 j := by
  have l2 := h.1.1.2.1
  have e0 : M1 38 0 = (ln M : Int) := by rw [ha1.s 0, h.1.1.1]
  obtain ⟨n, M2, e, g1, g2, g3⟩ := loopN (N := ln M) (F := fun n i (M2 : Mem) => f_X10_likes_L22 K (g : Int) ((bitsA (sfb M g) (ln M) : Nat) : Int) n (i : Int) M2) (P := fun i M2 => agx [54, 55, 59] M1 M2 ∧ (∀ l : Nat, l < i → M2 59 (10 * g + l) = lv M g l) ∧ ∀ j : Nat, (j < 10 * g ∨ 10 * g + 10 ≤ j) → M2 59 j = M1 59 j) (by
    intro n i M2 hi hP
    obtain ⟨p1, p2, p3⟩ := hP
    have hr : agr M M2 := ha1.trans (agr.of p1 (by decide))
    have ho : FO M M2 := ho1.of p1 (by decide)
    have hb := bitsA_lt (sfb M g) (ln M)
    have hb2 : bitsA (sfb M g) (ln M) < 1024 := Nat.lt_of_lt_of_le hb (Nat.pow_le_pow_right (n := 2) (j := 10) (by decide) l2)
    have fin : ∀ (v : Int) (M3 : Mem), agx [54, 55] M2 M3 → v = lv M g i → agx [54, 55, 59] M1 (mset M3 59 (10 * g + i) v) ∧ (∀ l : Nat, l < i + 1 → mset M3 59 (10 * g + i) v 59 (10 * g + l) = lv M g l) ∧ ∀ j : Nat, (j < 10 * g ∨ 10 * g + 10 ≤ j) → mset M3 59 (10 * g + i) v 59 j = M1 59 j := by
      intro v M3 h3 hv
      refine ⟨(p1.trans (h3.mono (by decide))).mset (by decide), fun l hl => ?_, fun j hj => ?_⟩
      · by_cases e : l = i
        · subst e; rw [mset_at]; exact hv
        · rw [mset_i (by omega), h3 59 (by decide)]; exact p2 l (by omega)
      · rw [mset_i (by omega), h3 59 (by decide)]; exact p3 j hj
    have hbit := bits_sh (f := sfb M g) (l := i) (n := ln M) hi
    have hrg : (0 : Int) ≤ ((10 * g + i : Nat) : Int) ∧ ((10 * g + i : Nat) : Int) < 40 := ⟨by omega, by omega⟩
    show ∃ st', f_X10_likes_L22 K (g : Int) ((bitsA (sfb M g) (ln M) : Nat) : Int) (n + 1) (i : Int) M2 = f_X10_likes_L22 K (g : Int) ((bitsA (sfb M g) (ln M) : Nat) : Int) n ((i + 1 : Nat) : Int) st' ∧ _
    rw [f_X10_likes_L22, if_pos (by rw [p1 38 (by decide), e0]; omega), r_bit hb2 (by omega), w32_n1 (by omega), w10 (by omega) (by omega)]
    by_cases hs : sfb M g i = true
    · obtain ⟨M3, e3, h3⟩ := r_liking (M := M) (M1 := M2) (g := g) (l := i) h hr ho (by omega)
      rw [if_pos (by rw [hbit.mpr hs]; rfl)]
      exact ⟨_, ob_I e3 (by rw [if_pos hrg, Int.toNat_natCast]), fin _ M3 h3 (by unfold lv; rw [if_pos hs])⟩
    · have hz : (bitsA (sfb M g) (ln M) >>> i) % 2 = 0 := by
        rcases Nat.mod_two_eq_zero_or_one (bitsA (sfb M g) (ln M) >>> i) with q | q
        · exact q
        · exact absurd (hbit.mp q) hs
      rw [if_neg (by rw [hz]; decide)]
      exact ⟨_, by rw [if_pos hrg, Int.toNat_natCast], fin _ M2 agx.refl (by unfold lv; rw [if_neg hs])⟩) (ln M) 100000 0 M1 (by omega) (by omega) ⟨agx.refl, fun l hl => absurd hl (Nat.not_lt_zero _), fun _ _ => rfl⟩
  have e : f_X10_likes_L22 K (g : Int) ((bitsA (sfb M g) (ln M) : Nat) : Int) 100000 0 M1 = f_X10_likes_L22 K (g : Int) ((bitsA (sfb M g) (ln M) : Nat) : Int) (n + 1) ((ln M : Nat) : Int) M2 := e
  exact ⟨M2, by rw [e, f_X10_likes_L22, if_neg (by rw [g1 38 (by decide), e0]; omega)], g1, g2, g3⟩
theorem r_likes {M : Mem} (h : Inv M) : ∃ M2, f_X10_likes M = some (0, M2) ∧ agr M M2 ∧ ∀ g : Nat, g < gn M → ∀ l : Nat, l < ln M → M2 59 (10 * g + l) = lv M g l := by
  obtain ⟨g1, g2, g3, g4⟩ := h.2.2.1
  have l2 := h.1.1.2.1
  obtain ⟨M1, e1, a1, o1⟩ := r_finds h.1
  obtain ⟨n, M2, e, q1, q2⟩ := loopN (N := gn M) (F := fun n i (M2 : Mem) => f_X10_likes_L6 n (i : Int) M2) (P := fun i M2 => agx [54, 55, 59] M1 M2 ∧ ∀ g : Nat, g < i → ∀ l : Nat, l < ln M → M2 59 (10 * g + l) = lv M g l) (by
    intro n i M2 hi hP
    obtain ⟨p1, p2⟩ := hP
    have hr : agr M M2 := a1.trans (agr.of p1 (by decide))
    have ho : FO M M2 := o1.of p1 (by decide)
    have es := r_safeFor h hr ho (g := i) (by omega)
    obtain ⟨M3, e3, r1, r2, r3⟩ := r_likesL (K := fun M473 => f_X10_likes_L6 n (w32 ((i : Int) + 1)) M473) h (g := i) (by omega) hr ho
    refine ⟨M3, ?_, p1.trans r1, fun g hg l hl => ?_⟩
    · show f_X10_likes_L6 (n + 1) (i : Int) M2 = f_X10_likes_L6 n ((i + 1 : Nat) : Int) M3
      rw [f_X10_likes_L6, if_pos (by rw [hr.s 3, g2]; omega), es, Option.bind_some, e3, w32_n1 (by omega)]
    · by_cases e : g = i
      · subst e; exact r2 l hl
      · rw [r3 _ (by omega)]; exact p2 g (by omega) l hl) (gn M) 100000 0 M1 (by omega) (by omega) ⟨agx.refl, fun g hg => absurd hg (Nat.not_lt_zero _)⟩
  have e : f_X10_likes_L6 100000 0 M1 = f_X10_likes_L6 (n + 1) ((gn M : Nat) : Int) M2 := e
  have hr : agr M M2 := a1.trans (agr.of q1 (by decide))
  refine ⟨M2, ?_, hr, q2⟩
  unfold f_X10_likes
  refine ob_I e1 ?_
  rw [e, f_X10_likes_L6, if_neg (by rw [hr.s 3, g2]; omega)]
/-! plates in the middle -/
def moA (M : Mem) (set g : Nat) : Nat → Nat
  | 0 => 0
  | l + 1 => if (set >>> l) % 2 = 1 ∧ sfb M g l = true then (if moA M set g l < lik M g l then lik M g l else moA M set g l) else moA M set g l
theorem moA_le (M : Mem) (set g : Nat) : ∀ l : Nat, moA M set g l ≤ 71280 := by
  intro l
  induction l with
  | zero => exact Nat.zero_le _
  | succ l ih =>
    have := lik_le M g l
    rw [show moA M set g (l + 1) = if (set >>> l) % 2 = 1 ∧ sfb M g l = true then (if moA M set g l < lik M g l then lik M g l else moA M set g l) else moA M set g l from rfl]
    split
    · split
      · exact this
      · exact ih
    · exact ih
def miA (M : Mem) (set : Nat) (g : Nat) : Nat := su (fun g => moA M set g (ln M)) g
theorem miA_le (M : Mem) (set g : Nat) : miA M set g ≤ 71280 * g := by
  induction g with
  | zero => exact Nat.le_refl _
  | succ g ih =>
    have := moA_le M set g (ln M)
    have e : miA M set (g + 1) = miA M set g + moA M set g (ln M) := su_s _ _
    omega
theorem c_most {M M1 : Mem} {g set : Nat} (h : Inv M) (c : CH M) (hg : g < 4) (hs : set < 1024) (ha : agx [19, 20] M M1) :
    ∃ M2, f_X9_mostLiking (g : Int) ((set &&& bitsA (sfb M g) (ln M) : Nat) : Int) M1 = some (((moA M set g (ln M) : Nat) : Int), M2) ∧ agx [19, 20] M1 M2 := by
  have l2 := h.1.1.2.1
  have e33 : M 3 3 = (ln M : Int) := by rw [h.2.1.1.1, h.1.1.1]
  unfold f_X9_mostLiking
  obtain ⟨n, ⟨sa, M2⟩, e, q1, q2⟩ := loopN (N := ln M) (F := fun n i (st : Int × Mem) => f_X9_mostLiking_L6 (g : Int) ((set &&& bitsA (sfb M g) (ln M) : Nat) : Int) n st.1 (i : Int) st.2) (P := fun i st => st.1 = ((moA M set g i : Nat) : Int) ∧ agx [19, 20] M1 st.2) (by
    intro n i ⟨sa, M2⟩ hi ⟨q1, q2⟩
    have w1 : sa = ((moA M set g i : Nat) : Int) := q1
    have w2 : agx [19, 20] M1 M2 := q2
    clear q1 q2
    subst w1
    have hax : agx [19, 20] M M2 := ha.trans w2
    have hq : agq M M2 := agq.of hax (by decide)
    have hC : CH M2 := c.of hq hax (by decide)
    have hlt : set &&& bitsA (sfb M g) (ln M) < 1024 := Nat.lt_of_le_of_lt Nat.and_le_left hs
    have hbit : ((set &&& bitsA (sfb M g) (ln M)) >>> i) % 2 = 1 ↔ (set >>> i) % 2 = 1 ∧ sfb M g i = true := by
      rw [← tb_sh, Nat.testBit_and, Bool.and_eq_true, tb_sh, tb_sh, bits_sh hi]
    have em : moA M set g (i + 1) = if (set >>> i) % 2 = 1 ∧ sfb M g i = true then (if moA M set g i < lik M g i then lik M g i else moA M set g i) else moA M set g i := rfl
    by_cases hb : (set >>> i) % 2 = 1 ∧ sfb M g i = true
    · obtain ⟨M3, e3, h3⟩ := c_liking (M := M) (M1 := M2) (g := g) (l := i) h c hq hC hi (by omega)
      refine ⟨(((moA M set g (i + 1) : Nat) : Int), M3), ?_, rfl, w2.trans h3⟩
      show f_X9_mostLiking_L6 (g : Int) ((set &&& bitsA (sfb M g) (ln M) : Nat) : Int) (n + 1) _ (i : Int) M2 = f_X9_mostLiking_L6 (g : Int) ((set &&& bitsA (sfb M g) (ln M) : Nat) : Int) n _ ((i + 1 : Nat) : Int) M3
      rw [f_X9_mostLiking_L6, if_pos (by rw [hax 3 (by decide), e33]; omega), r_bit hlt (by omega), if_neg (by rw [hbit.mpr hb]; decide)]
      refine ob_I e3 ?_
      rw [w32_n1 (by omega), em, if_pos hb]
      by_cases hm : moA M set g i < lik M g i
      · rw [if_pos (by omega), if_pos hm]
      · rw [if_neg (by omega), if_neg hm]
    · have hz : ((set &&& bitsA (sfb M g) (ln M)) >>> i) % 2 = 0 := by
        rcases Nat.mod_two_eq_zero_or_one ((set &&& bitsA (sfb M g) (ln M)) >>> i) with q | q
        · exact q
        · exact absurd (hbit.mp q) hb
      refine ⟨(((moA M set g (i + 1) : Nat) : Int), M2), ?_, rfl, w2⟩
      show f_X9_mostLiking_L6 (g : Int) ((set &&& bitsA (sfb M g) (ln M) : Nat) : Int) (n + 1) _ (i : Int) M2 = f_X9_mostLiking_L6 (g : Int) ((set &&& bitsA (sfb M g) (ln M) : Nat) : Int) n _ ((i + 1 : Nat) : Int) M2
      rw [f_X9_mostLiking_L6, if_pos (by rw [hax 3 (by decide), e33]; omega), r_bit hlt (by omega), if_pos (by rw [hz]; rfl), w32_n1 (by omega), em, if_neg hb]) (ln M) 100000 0 (0, M1) (by omega) (by omega) ⟨rfl, agx.refl⟩
  have e : f_X9_mostLiking_L6 (g : Int) ((set &&& bitsA (sfb M g) (ln M) : Nat) : Int) 100000 0 0 M1 = f_X9_mostLiking_L6 (g : Int) ((set &&& bitsA (sfb M g) (ln M) : Nat) : Int) (n + 1) sa ((ln M : Nat) : Int) M2 := e
  have w1 : sa = ((moA M set g (ln M) : Nat) : Int) := q1
  have w2 : agx [19, 20] M1 M2 := q2
  exact ⟨M2, by rw [e, f_X9_mostLiking_L6, if_neg (by rw [w2 3 (by decide), ha 3 (by decide), e33]; omega), w1], w2⟩
theorem r_most {K : Int → Mem → Option (Int × Mem)} {x2 : Int} {M M2 : Mem} {g set : Nat} (h : Inv M) (hg : g < 4) (hs : set < 1024) (ha : agr M M2) (h59 : ∀ l : Nat, l < ln M → M2 59 (10 * g + l) = lv M g l) :
    f_X10_middle_L41 K (set : Int) x2 (g : Int) 100000 0 0 M2 = K ((moA M set g (ln M) : Nat) : Int) M2 := by
  have l2 := h.1.1.2.1
  have e0 : M2 38 0 = (ln M : Int) := by rw [ha.s 0, h.1.1.1]
  obtain ⟨n, st, e, hP⟩ := loopN (N := ln M) (F := fun n i (st : Int) => f_X10_middle_L41 K (set : Int) x2 (g : Int) n st (i : Int) M2) (P := fun i st => st = ((moA M set g i : Nat) : Int)) (by
    intro n i st hi hP
    subst hP
    have em : moA M set g (i + 1) = if (set >>> i) % 2 = 1 ∧ sfb M g i = true then (if moA M set g i < lik M g i then lik M g i else moA M set g i) else moA M set g i := rfl
    refine ⟨((moA M set g (i + 1) : Nat) : Int), ?_, rfl⟩
    show f_X10_middle_L41 K (set : Int) x2 (g : Int) (n + 1) _ (i : Int) M2 = f_X10_middle_L41 K (set : Int) x2 (g : Int) n _ ((i + 1 : Nat) : Int) M2
    rw [f_X10_middle_L41, if_pos (by omega), r_bit hs (by omega), w32_n1 (by omega)]
    by_cases hb : (set >>> i) % 2 = 1
    · rw [if_pos (by rw [hb]; rfl), w10 (by omega) (by omega), if_pos ⟨by omega, by omega⟩, Int.toNat_natCast, h59 i hi, em]
      by_cases hsf : sfb M g i = true
      · have elv : lv M g i = ((lik M g i : Nat) : Int) := by unfold lv; rw [if_pos hsf]
        rw [elv, if_pos (show (set >>> i) % 2 = 1 ∧ sfb M g i = true from ⟨hb, hsf⟩)]
        by_cases hm : moA M set g i < lik M g i
        · rw [if_pos (by omega), if_pos hm]
        · rw [if_neg (by omega), if_neg hm]
      · have elv : lv M g i = -1 := by unfold lv; rw [if_neg hsf]
        rw [elv, if_neg (show ¬ ((set >>> i) % 2 = 1 ∧ sfb M g i = true) from fun q => hsf q.2), if_neg (by omega)]
    · rw [if_neg (by rw [show (set >>> i) % 2 = 0 by omega]; decide), if_neg (by omega), em, if_neg (fun q => hb q.1)]) (ln M) 100000 0 0 (by omega) (by omega) rfl
  have e : f_X10_middle_L41 K (set : Int) x2 (g : Int) 100000 0 0 M2 = f_X10_middle_L41 K (set : Int) x2 (g : Int) (n + 1) st ((ln M : Nat) : Int) M2 := e
  rw [e, f_X10_middle_L41, if_neg (by omega), hP]
theorem op_middle {M : Mem} (h : Inv M) (x : Int) : OK2 (f_X9_middle x) (f_X10_middle x) M := by
  have hev := c_every h
  have hev2 : w32 (b_shl 1 (M 38 0) - 1) = f_X3_everyLine M := by rw [f_X3_everyLine, h.2.1.1.1]
  by_cases h0 : f_X9_within x 0 (f_X3_everyLine M) = 0
  · exact OK2.no h (by rw [f_X9_middle, if_pos h0]) (by rw [f_X10_middle, in_w, hev2, if_pos h0])
  have h0' := h0
  rw [wi_0, hev] at h0'
  have l2 := h.1.1.2.1
  obtain ⟨set, rfl⟩ : ∃ k : Nat, x = (k : Int) := ⟨x.toNat, by omega⟩
  have p1 : 2 ^ ln M ≤ 2 ^ 10 := Nat.pow_le_pow_right (by decide) l2
  have p3 : (2 : Nat) ^ 10 = 1024 := by decide
  have hs : set < 1024 := by omega
  obtain ⟨M1, e1, a1, i1, c1, z1⟩ := h.fit
  obtain ⟨g1, g2, g3, g4⟩ := i1.2.2.1
  obtain ⟨n, ⟨sa, M2⟩, e, q1, q2⟩ := loopN (N := gn M1) (F := fun n i (st : Int × Mem) => f_X9_middle_L28 (set : Int) n st.1 (i : Int) st.2) (P := fun i st => st.1 = ((miA M1 set i : Nat) : Int) ∧ agx [19, 20] M1 st.2) (by
    intro n i ⟨sa, M2⟩ hi ⟨q1, q2⟩
    have w1 : sa = ((miA M1 set i : Nat) : Int) := q1
    have w2 : agx [19, 20] M1 M2 := q2
    clear q1 q2
    subst w1
    have hq : agq M1 M2 := agq.of w2 (by decide)
    have hC : CH M2 := c1.of hq w2 (by decide)
    have hI : Inv M2 := i1.q hq (fun _ => hC)
    have es := c_safeLines hI hC (g := i) (by omega)
    rw [hq.eq0.2.2.2, hq.eln] at es
    obtain ⟨M3, e3, h3⟩ := c_most i1 c1 (g := i) (by omega) hs w2
    have hb := bitsA_12 (f := sfb M1 i) (i := ln M1) (by have := i1.1.1.2.1; omega)
    have hle := miA_le M1 set (i + 1)
    have em : miA M1 set (i + 1) = miA M1 set i + moA M1 set i (ln M1) := su_s _ _
    rw [em] at hle
    refine ⟨(((miA M1 set (i + 1) : Nat) : Int), M3), ?_, rfl, w2.trans h3⟩
    show f_X9_middle_L28 (set : Int) (n + 1) _ (i : Int) M2 = f_X9_middle_L28 (set : Int) n _ ((i + 1 : Nat) : Int) M3
    rw [f_X9_middle_L28, if_pos (by rw [w2 0 (by decide), g1, g2]; omega), es, Option.bind_some, b_and_n (by omega) (by omega)]
    refine ob_I e3 ?_
    rw [w32_n1 (by omega), w32_id (by omega) (by omega), em, ← Int.natCast_add]) (gn M1) 100000 0 (0, M1) (by omega) (by omega) ⟨rfl, agx.refl⟩
  have e : f_X9_middle_L28 (set : Int) 100000 0 0 M1 = f_X9_middle_L28 (set : Int) (n + 1) sa ((gn M1 : Nat) : Int) M2 := e
  have w1 : sa = ((miA M1 set (gn M1) : Nat) : Int) := q1
  have w2 : agx [19, 20] M1 M2 := q2
  have hq : agq M1 M2 := agq.of w2 (by decide)
  have c2 : CH M2 := c1.of hq w2 (by decide)
  have i2 : Inv M2 := i1.q hq (fun _ => c2)
  obtain ⟨M3, e3, a3, h59⟩ := r_likes i2
  have emi : miA M2 = miA M1 := by
    have emo : moA M2 = moA M1 := by
      funext s g l
      induction l with
      | zero => rfl
      | succ l ih =>
        show (if (s >>> l) % 2 = 1 ∧ sfb M2 g l = true then (if moA M2 s g l < lik M2 g l then lik M2 g l else moA M2 s g l) else moA M2 s g l) = (if (s >>> l) % 2 = 1 ∧ sfb M1 g l = true then (if moA M1 s g l < lik M1 g l then lik M1 g l else moA M1 s g l) else moA M1 s g l)
        rw [ih, hq.eq0.2.2.2, hq.eq0.2.1]
    funext s g; unfold miA; rw [emo, hq.eln]
  have egn : gn M2 = gn M1 := hq.egn
  obtain ⟨n3, st, e4, q3⟩ := loopN (N := gn M1) (F := fun n i (st : Int) => f_X10_middle_L27 (set : Int) n st (i : Int) M3) (P := fun i st => st = ((miA M1 set i : Nat) : Int)) (by
    intro n i st hi hP
    subst hP
    have hm := r_most (K := fun y488 M489 => f_X10_middle_L27 (set : Int) n (w32 (((miA M1 set i : Nat) : Int) + y488)) (w32 ((i : Int) + 1)) M489) (x2 := ((miA M1 set i : Nat) : Int)) i2 (g := i) (by omega) hs a3 (h59 i (by omega))
    have hle := miA_le M1 set (i + 1)
    have em : miA M1 set (i + 1) = miA M1 set i + moA M1 set i (ln M1) := su_s _ _
    have emo : moA M2 set i (ln M2) = moA M1 set i (ln M1) := by
      have q1 : miA M2 set (i + 1) = miA M2 set i + moA M2 set i (ln M2) := su_s _ _
      rw [emi] at q1
      omega
    rw [emo] at hm
    rw [em] at hle
    refine ⟨((miA M1 set (i + 1) : Nat) : Int), ?_, rfl⟩
    show f_X10_middle_L27 (set : Int) (n + 1) _ (i : Int) M3 = f_X10_middle_L27 (set : Int) n _ ((i + 1 : Nat) : Int) M3
    rw [f_X10_middle_L27, if_pos (by rw [a3.s 3, hq.s 3, g2]; omega), hm, w32_n1 (by omega), w32_id (by omega) (by omega), em, ← Int.natCast_add]) (gn M1) 100000 0 0 (by omega) (by omega) rfl
  have e4 : f_X10_middle_L27 (set : Int) 100000 0 0 M3 = f_X10_middle_L27 (set : Int) (n3 + 1) st ((gn M1 : Nat) : Int) M3 := e4
  refine ⟨((miA M1 set (gn M1) : Nat) : Int), M2, M3, ?_, ?_, i2.rq c2 a3⟩
  · rw [f_X9_middle, if_neg h0]
    refine ob_I e1 ?_
    rw [e, f_X9_middle_L28, if_neg (by rw [w2 0 (by decide), g1, g2]; omega), w1]
  · have hev3 : w32 (b_shl 1 (M2 38 0) - 1) = f_X3_everyLine M := by rw [hq.s 0, a1.s 0, hev2]
    rw [f_X10_middle, in_w, hev3, if_neg h0]
    refine ob_I e3 ?_
    rw [e4, f_X10_middle_L27, if_neg (by rw [a3.s 3, hq.s 3, g2]; omega), q3]
