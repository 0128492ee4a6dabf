theorem b_shl_n {k : Nat} (h : k < 30) : b_shl 1 (k : Int) = ((2 ^ k : Nat) : Int) := b_shl_1 k h
theorem r_factsL {K : Mem → Option (Int × Mem)} {M0 M1 : Mem} {t : Nat} (h : RA M0) (ht : t < 720) (ha : agr M0 M1) (h0 : M1 56 t = 0) :
    ∃ M2, f_X10_finds_L39 K (t : Int) 100000 0 M1 = K M2 ∧ agx [56] M1 M2 ∧ M2 56 t = (bk M0 t : Int) ∧ ∀ j : Nat, j ≠ t → M2 56 j = M1 56 j := by
  obtain ⟨hL, ⟨f1, f2, f3⟩, hT, hX⟩ := h
  have hr : (0 : Int) ≤ (t : Int) ∧ (t : Int) < 720 := ⟨by omega, by omega⟩
  obtain ⟨n, M2, e, g1, g2, g3⟩ := loopN (N := fn M0) (F := fun n i (M2 : Mem) => f_X10_finds_L39 K (t : Int) n (i : Int) M2) (P := fun i M2 => agx [56] M1 M2 ∧ M2 56 t = (bkA M0 t i : Int) ∧ ∀ j : Nat, j ≠ t → M2 56 j = M1 56 j) (by
    intro n i M2 hi hP
    obtain ⟨p1, p2, p3⟩ := hP
    have ha2 : agr M0 M2 := ha.trans (agr.of p1 (by decide))
    have hc : (i : Int) < M2 38 6 := by rw [ha2.s 6, f1]; omega
    have hh := r_holds (M := M2) (f := i) (t := t) (by rw [ha2.eRLn]; exact hL) (by have h1 := f3 i hi; unfold RF1 at h1 ⊢; rw [ha2.efk, ha2.efl, ha2.efp, ha2.efm, ha2.c 42 (by decide)]; exact h1) (by omega) ht (by rw [ha2.eTB]; exact hT)
    have hb := bkA_12 (M := M0) (t := t) (i := i) (by omega)
    have hneg : ¬ M2 56 (t : Int).toNat < 0 := by rw [Int.toNat_natCast, p2]; omega
    rw [ha2.efh] at hh
    show ∃ st', f_X10_finds_L39 K (t : Int) (n + 1) (i : Int) M2 = f_X10_finds_L39 K (t : Int) n ((i + 1 : Nat) : Int) st' ∧ _
    have fin : ∀ v : Int, v = (bkA M0 t (i + 1) : Int) → agx [56] M1 (mset M2 56 t v) ∧ mset M2 56 t v 56 t = (bkA M0 t (i + 1) : Int) ∧ ∀ j : Nat, j ≠ t → mset M2 56 t v 56 j = M1 56 j := by
      intro v hv
      refine ⟨p1.mset (by decide), by rw [mset_at]; exact hv, fun j hj => by rw [mset_i hj]; exact p3 j hj⟩
    by_cases hz : fh M0 i t = true
    · refine ⟨mset M2 56 t (b_or (bkA M0 t i : Int) 0), ?_, fin _ ?_⟩
      · rw [f_X10_finds_L39, if_pos hc, if_pos hr, if_neg hneg, if_pos hr, hh, Option.bind_some, if_neg (by rw [bi_0, hz]; decide), if_pos hr, Int.toNat_natCast, p2, w32_n1 (by omega)]
      · rw [show (0 : Int) = ((0 : Nat) : Int) from rfl, b_or_n (by omega) (by decide), Nat.or_zero, bkA_s, if_pos hz]
    · refine ⟨mset M2 56 t (b_or (bkA M0 t i : Int) (b_shl 1 (i : Int))), ?_, fin _ ?_⟩
      · rw [f_X10_finds_L39, if_pos hc, if_pos hr, if_neg hneg, if_pos hr, hh, Option.bind_some, if_pos (by rw [bi_0]; exact Bool.eq_false_iff.mpr hz), if_pos hr, Int.toNat_natCast, p2, w32_n1 (by omega)]
      · have h2i : 2 ^ i < 2 ^ 12 := Nat.pow_lt_pow_right (by decide) (by omega)
        have h12 : (2 : Nat) ^ 12 = 4096 := by decide
        rw [b_shl_n (by omega), b_or_n (by omega) (by omega), bkA_s, if_neg hz]) (fn M0) 100000 0 M1 (by omega) (by omega) ⟨agx.refl, h0, fun j _ => rfl⟩
  have e : f_X10_finds_L39 K (t : Int) 100000 0 M1 = f_X10_finds_L39 K (t : Int) (n + 1) ((fn M0 : Nat) : Int) M2 := e
  have ha2 : agr M0 M2 := ha.trans (agr.of g1 (by decide))
  refine ⟨M2, ?_, g1, g2, g3⟩
  rw [e, f_X10_finds_L39, if_neg (by rw [ha2.s 6, f1]; omega)]
theorem r_factsU {K : Mem → Option (Int × Mem)} {M0 M1 : Mem} {t : Nat} (h : RA M0) (ht : t < 720) (ha : agr M0 M1) (h0 : M1 56 t = -1) : f_X10_finds_L39 K (t : Int) 100000 0 M1 = K M1 := by
  rw [f_X10_finds_L39]
  by_cases hc : (0 : Int) < M1 38 6
  · rw [if_pos hc, if_pos ⟨by omega, by omega⟩, if_pos (by rw [Int.toNat_natCast, h0]; decide)]
  · rw [if_neg hc]
/-- what finds leaves -/
def FO (M M' : Mem) : Prop := M' 38 40 = ((FT M).length : Int) ∧ (∀ k : Nat, k < (FT M).length → M' 58 k = (((FT M).getD k 0 : Nat) : Int)) ∧ ∀ t : Nat, t < 720 → M' 56 t = if lawb M t then (bk M t : Int) else -1
theorem getD_app {l : List Nat} {a k : Nat} : (l ++ [a]).getD k 0 = if k < l.length then l.getD k 0 else if k = l.length then a else 0 := by
  simp only [List.getD, List.getElem?_append]
  by_cases h : k < l.length
  · rw [if_pos h, if_pos h]
  · rw [if_neg h, if_neg h]
    by_cases h2 : k = l.length
    · rw [if_pos h2, h2, Nat.sub_self]; rfl
    · rw [if_neg h2, show k - l.length = (k - l.length - 1) + 1 by omega]; simp
theorem r_finds {M : Mem} (h : RA M) : ∃ M', f_X10_finds M = some (0, M') ∧ agr M M' ∧ FO M M' := by
  obtain ⟨Ma, ea, a1, a2⟩ := r_mays h
  obtain ⟨hL, hF, hT, hX⟩ := id h
  obtain ⟨n, M', e, g1, g2, g3, g4, g5⟩ := loopN (N := 720) (F := fun n i (M2 : Mem) => f_X10_finds_L11 n (i : Int) M2) (P := fun i M2 => agr M M2 ∧ (∀ l : Nat, l < ln M → ∀ set : Nat, set < 64 → popc set ≤ 3 → M2 57 (64 * l + set) = mb M l set) ∧ M2 38 40 = ((FTA M i).length : Int) ∧ (∀ k : Nat, k < (FTA M i).length → M2 58 k = (((FTA M i).getD k 0 : Nat) : Int)) ∧ ∀ t : Nat, t < i → M2 56 t = if lawb M t then (bk M t : Int) else -1) (by
    intro n t M2 ht hP
    obtain ⟨p1, p2, p3, p4, p5⟩ := hP
    have hlen := FTA_len M t
    have hr : (0 : Int) ≤ (t : Int) ∧ (t : Int) < 720 := ⟨by omega, by omega⟩
    have hmb := r_mayBe (M := M2) (t := t) (by rw [p1.eRLn]; exact hL) (by rw [p1.eTB]; exact hT) ht (by rw [p1.eln, p1.emb]; exact p2)
    rw [p1.elawb] at hmb
    show ∃ st', f_X10_finds_L11 (n + 1) (t : Int) M2 = f_X10_finds_L11 n ((t + 1 : Nat) : Int) st' ∧ _
    have hc : (t : Int) < 720 := by omega
    have rest : ∀ (v : Int) (M3 : Mem), agx [56] M2 M3 → M3 56 t = v → (∀ j : Nat, j ≠ t → M3 56 j = M2 56 j) → v = (if lawb M t then (bk M t : Int) else -1) →
        ∃ st', (if 0 ≤ (t : Int) ∧ (t : Int) < 720 then
                if M3 56 (t : Int).toNat = 0 then
                  if 0 ≤ M3 38 40 ∧ M3 38 40 < 720 then
                    f_X10_finds_L11 n (w32 ((t : Int) + 1)) (mset (mset M3 58 (M3 38 40).toNat (t : Int)) 38 40 (w32 (((mset M3 58 (M3 38 40).toNat (t : Int)) 38 40) + 1)))
                  else none
                else
                  f_X10_finds_L11 n (w32 ((t : Int) + 1)) M3
              else none) = f_X10_finds_L11 n ((t + 1 : Nat) : Int) st' ∧ agr M st' ∧ (∀ l : Nat, l < ln M → ∀ set : Nat, set < 64 → popc set ≤ 3 → st' 57 (64 * l + set) = mb M l set) ∧ st' 38 40 = ((FTA M (t + 1)).length : Int) ∧ (∀ k : Nat, k < (FTA M (t + 1)).length → st' 58 k = (((FTA M (t + 1)).getD k 0 : Nat) : Int)) ∧ ∀ j : Nat, j < t + 1 → st' 56 j = if lawb M j then (bk M j : Int) else -1 := by
      intro v M3 q1 q2 q3 q4
      have s1 : agr M M3 := p1.trans (agr.of q1 (by decide))
      have s40 : M3 38 40 = ((FTA M t).length : Int) := by rw [q1 38 (by decide)]; exact p3
      have s56 : ∀ j : Nat, j < t + 1 → M3 56 j = if lawb M j then (bk M j : Int) else -1 := by
        intro j hj
        by_cases e : j = t
        · subst e; rw [q2, q4]
        · rw [q3 j e]; exact p5 j (by omega)
      rw [if_pos hr, Int.toNat_natCast, q2, w32_n1 (by omega)]
      by_cases hf : fits M t = true
      · have hv : v = 0 := by
          unfold fits at hf
          rw [Bool.and_eq_true, beq_iff_eq] at hf
          rw [q4, if_pos hf.1, hf.2]; rfl
        rw [if_pos hv, s40, if_pos ⟨by omega, by omega⟩, Int.toNat_natCast, mset_c (by decide), s40, w32_n1 (by omega)]
        have hl1 : (FTA M (t + 1)).length = (FTA M t).length + 1 := by rw [FTA_s, if_pos hf, List.length_append]; rfl
        refine ⟨_, rfl, (s1.mset (by rfl)).mset (by rfl), ?_, ?_, ?_, ?_⟩
        · intro l hl set hs hp
          rw [mset_c (by decide), mset_c (by decide), q1 57 (by decide)]
          exact p2 l hl set hs hp
        · rw [mset_at, hl1]
        · intro k hk
          rw [mset_c (by decide)]
          have e2 : (FTA M (t + 1)).getD k 0 = if k < (FTA M t).length then (FTA M t).getD k 0 else if k = (FTA M t).length then t else 0 := by rw [FTA_s, if_pos hf, getD_app]
          rw [e2]
          by_cases hk2 : k = (FTA M t).length
          · subst hk2; rw [mset_at, if_neg (Nat.lt_irrefl _), if_pos rfl]
          · rw [mset_i hk2, if_pos (by omega), q1 58 (by decide)]; exact p4 k (by omega)
        · intro j hj
          rw [mset_c (by decide), mset_c (by decide)]
          exact s56 j hj
      · have hv : v ≠ 0 := by
          intro h0
          apply hf
          unfold fits
          rw [q4] at h0
          by_cases hl : lawb M t = true
          · rw [if_pos hl] at h0
            rw [hl, Bool.true_and, beq_iff_eq]; omega
          · rw [if_neg hl] at h0; exact absurd h0 (by decide)
        have hl1 : FTA M (t + 1) = FTA M t := by rw [FTA_s, if_neg hf]
        rw [if_neg hv, hl1]
        refine ⟨M3, rfl, s1, ?_, s40, ?_, s56⟩
        · intro l hl set hs hp
          rw [q1 57 (by decide)]
          exact p2 l hl set hs hp
        · intro k hk
          rw [q1 58 (by decide)]; exact p4 k hk
    rw [f_X10_finds_L11, if_pos hc, hmb, Option.bind_some]
    by_cases hl : lawb M t = true
    · rw [if_neg (by rw [bi_0, hl]; decide), if_pos hr]
      have et : (t : Int).toNat = t := Int.toNat_natCast t
      obtain ⟨M3, e3, q1, q2, q3⟩ := r_factsL (K := fun M410 => if 0 ≤ (t : Int) ∧ (t : Int) < 720 then
                if M410 56 (t : Int).toNat = 0 then
                  if 0 ≤ M410 38 40 ∧ M410 38 40 < 720 then
                    f_X10_finds_L11 n (w32 ((t : Int) + 1)) (mset (mset M410 58 (M410 38 40).toNat (t : Int)) 38 40 (w32 (((mset M410 58 (M410 38 40).toNat (t : Int)) 38 40) + 1)))
                  else none
                else
                  f_X10_finds_L11 n (w32 ((t : Int) + 1)) M410
              else none) (M1 := mset M2 56 (t : Int).toNat 0) h ht (p1.mset (by rw [et]; rfl)) (by rw [et]; exact mset_at _ _ _ _)
      rw [e3]
      refine rest _ M3 ((agx.refl.mset (by decide)).trans q1) q2 (fun j hj => by rw [q3 j hj, et, mset_i hj]) ?_
      rw [if_pos hl]
    · rw [if_pos (by rw [bi_0]; exact Bool.eq_false_iff.mpr hl), if_pos hr, Int.toNat_natCast, r_factsU h ht (p1.mset (by rfl)) (mset_at _ _ _ _)]
      refine rest (-1) _ (agx.refl.mset (by decide)) (mset_at _ _ _ _) (fun j hj => mset_i hj) ?_
      rw [if_neg hl]) 720 100000 0 (mset Ma 38 40 0) (by omega) (by omega) ⟨a1.mset (by rfl), fun l hl set hs hp => by rw [mset_c (by decide)]; exact a2 l hl set hs hp, by rw [mset_at]; rfl, fun k hk => absurd hk (Nat.not_lt_zero k), fun k hk => absurd hk (Nat.not_lt_zero k)⟩
  have e : f_X10_finds_L11 100000 0 (mset Ma 38 40 0) = f_X10_finds_L11 (n + 1) ((720 : Nat) : Int) M' := e
  refine ⟨M', ?_, g1, g3, g4, g5⟩
  rw [f_X10_finds]
  refine ob_I ea ?_
  rw [e, f_X10_finds_L11, if_neg (by decide)]
