/-! what the class keeps of those that fit -/
def ca (M : Mem) (P : Nat → Bool) (i : Nat) : Nat := (FTA M i).countP P
theorem ca_s (M : Mem) (P : Nat → Bool) (i : Nat) : ca M P (i + 1) = if fits M i then ca M P i + (if P i then 1 else 0) else ca M P i := by
  unfold ca; rw [FTA_s]
  by_cases h : fits M i = true
  · rw [if_pos h, if_pos h, List.countP_append]
    by_cases hp : P i = true
    · simp [hp]
    · simp [hp]
  · rw [if_neg h, if_neg h]
theorem ca_le (M : Mem) (P : Nat → Bool) (i : Nat) : ca M P i ≤ i := Nat.le_trans List.countP_le_length (FTA_len M i)
def ct (M : Mem) (P : Nat → Bool) : Nat := (FT M).countP P
def loA (M : Mem) (i : Nat) : Nat := (List.range i).foldl (fun a t => if lawb M t && popc (bk M t) == 1 then a ||| bk M t else a) 0
def lone (M : Mem) : Nat := loA M 720
theorem loA_s (M : Mem) (i : Nat) : loA M (i + 1) = if lawb M i && popc (bk M i) == 1 then loA M i ||| bk M i else loA M i := by unfold loA; rw [List.range_succ, List.foldl_append]; rfl
theorem bk_lt {M : Mem} {t : Nat} (h : fn M ≤ 12) : bk M t < 4096 := bkA_12 h
theorem loA_lt {M : Mem} (h : fn M ≤ 12) : ∀ i : Nat, loA M i < 4096 := by
  intro i
  induction i with
  | zero => exact (by decide : (0 : Nat) < 4096)
  | succ i ih =>
    rw [loA_s]
    split
    · exact Nat.or_lt_two_pow (n := 12) ih (bk_lt h)
    · exact ih
def CH (M : Mem) : Prop := M 21 5 = ((FT M).length : Int) ∧ (∀ k : Nat, k < (FT M).length → M 22 k = (((FT M).getD k 0 : Nat) : Int)) ∧ (∀ s : Nat, s < 6 → ∀ p : Nat, p < 6 → M 23 (6 * s + p) = (ct M (fun t => tb (6 * t + s) == p) : Int)) ∧ (∀ l : Nat, l < ln M → ∀ set : Nat, set < 64 → M 24 (64 * l + set) = (ct M (fun t => hd M l t == set) : Int)) ∧ M 21 6 = (lone M : Int)
theorem c_clear {M : Mem} {ci N : Nat} (hN : N ≤ 5000) : ∃ M', f_X1_clear ci N M = some (0, M') ∧ agx [ci] M M' ∧ ∀ j : Nat, j < N → M' ci j = 0 := by
  unfold f_X1_clear
  obtain ⟨n, M2, e, g1, g2⟩ := loopN (N := N) (F := fun n i (M2 : Mem) => f_X1_clear_L2 ci N n (i : Int) M2) (P := fun i M2 => agx [ci] M M2 ∧ ∀ j : Nat, j < i → M2 ci j = 0) (by
    intro n i M2 hi hP
    obtain ⟨p1, p2⟩ := hP
    refine ⟨mset M2 ci i 0, ?_, p1.mset (List.mem_singleton.mpr rfl), fun j hj => ?_⟩
    · show f_X1_clear_L2 ci N (n + 1) (i : Int) M2 = f_X1_clear_L2 ci N n ((i + 1 : Nat) : Int) _
      rw [f_X1_clear_L2, if_pos (by omega), if_pos ⟨by omega, by omega⟩, Int.toNat_natCast, w32_n1 (by omega)]
    · by_cases e : j = i
      · subst e; rw [mset_at]
      · rw [mset_i e]; exact p2 j (by omega)) N 100000 0 M (by omega) (by omega) ⟨agx.refl, fun j hj => absurd hj (Nat.not_lt_zero _)⟩
  have e : f_X1_clear_L2 ci N 100000 0 M = f_X1_clear_L2 ci N (n + 1) ((N : Nat) : Int) M2 := e
  exact ⟨M2, by rw [e, f_X1_clear_L2, if_neg (by omega)], g1, g2⟩
theorem c_partOf {M : Mem} {t s : Nat} (h : CLn M) (ht : t < 720) (hs : s < 6) : f_X7_partOf (t : Int) (s : Int) M = (tb (6 * t + s) : Int) := by
  have e : w32 (w32 ((t : Int) * 6) + (s : Int)) = ((6 * t + s : Nat) : Int) := by
    rw [w32_id (z := (t : Int) * 6) (by omega) (by omega), w32_id (by omega) (by omega)]; omega
  rw [f_X7_partOf, e, rd_n (by omega), h.2.2.2 _ (by omega)]
theorem w6 {s p : Nat} (hs : s < 6) (hp : p < 6) : w32 (w32 ((s : Int) * 6) + (p : Int)) = ((6 * s + p : Nat) : Int) := by
  rw [w32_id (z := (s : Int) * 6) (by omega) (by omega), w32_id (by omega) (by omega)]; omega
theorem c_take1 {K : Mem → Option (Int × Mem)} {M1 : Mem} {t : Nat} (hc : CLn M1) (ht : t < 720) (hb : ∀ s : Nat, s < 6 → ∀ p : Nat, p < 6 → 0 ≤ M1 23 (6 * s + p) ∧ M1 23 (6 * s + p) ≤ 720) :
    ∃ M2, f_X1_take_L25 K (t : Int) 100000 0 M1 = K M2 ∧ agx [23] M1 M2 ∧ ∀ s : Nat, s < 6 → ∀ p : Nat, p < 6 → M2 23 (6 * s + p) = M1 23 (6 * s + p) + (if tb (6 * t + s) = p then 1 else 0) := by
  obtain ⟨n, M2, e, g1, g2⟩ := loopN (N := 6) (F := fun n i (M2 : Mem) => f_X1_take_L25 K (t : Int) n (i : Int) M2) (P := fun i M2 => agx [23] M1 M2 ∧ ∀ s : Nat, s < 6 → ∀ p : Nat, p < 6 → M2 23 (6 * s + p) = M1 23 (6 * s + p) + (if s < i ∧ tb (6 * t + s) = p then 1 else 0)) (by
    intro n i M2 hi hP
    obtain ⟨p1, p2⟩ := hP
    have hq : agq M1 M2 := agq.of p1 (by decide)
    have htb := tb_lt t ht i hi
    have h1 := p2 i hi _ htb
    have h2 := hb i hi _ htb
    rw [if_neg (by omega)] at h1
    refine ⟨mset M2 23 (6 * i + tb (6 * t + i)) (M2 23 (6 * i + tb (6 * t + i)) + 1), ?_, p1.mset (by decide), fun s hs p hp => ?_⟩
    · show f_X1_take_L25 K (t : Int) (n + 1) (i : Int) M2 = f_X1_take_L25 K (t : Int) n ((i + 1 : Nat) : Int) _
      rw [f_X1_take_L25, if_pos (by omega), c_partOf (by rw [hq.eCLn]; exact hc) ht hi, w6 hi htb, rd_n (by omega), wr_n (by omega), w32_n1 (by omega), w32_id (z := M2 23 (6 * i + tb (6 * t + i)) + 1) (by omega) (by omega)]
    · have h3 := p2 s hs p hp
      by_cases e : 6 * s + p = 6 * i + tb (6 * t + i)
      · have es : s = i := by omega
        subst es
        have ep : p = tb (6 * t + s) := by omega
        subst ep
        rw [mset_at, h1, if_pos ⟨by omega, rfl⟩]; omega
      · rw [mset_i e, h3]
        by_cases hc1 : s < i ∧ tb (6 * t + s) = p
        · rw [if_pos hc1, if_pos ⟨by omega, hc1.2⟩]
        · rw [if_neg hc1, if_neg]
          intro hc2
          by_cases es : s = i
          · subst es; exact e (by omega)
          · exact hc1 ⟨by omega, hc2.2⟩) 6 100000 0 M1 (by omega) (by omega) ⟨agx.refl, fun s hs p hp => by rw [if_neg (by omega), Int.add_zero]⟩
  have e : f_X1_take_L25 K (t : Int) 100000 0 M1 = f_X1_take_L25 K (t : Int) (n + 1) ((6 : Nat) : Int) M2 := e
  refine ⟨M2, by rw [e, f_X1_take_L25, if_neg (by decide)], g1, fun s hs p hp => ?_⟩
  rw [g2 s hs p hp]
  by_cases h : tb (6 * t + s) = p
  · rw [if_pos ⟨hs, h⟩, if_pos h]
  · rw [if_neg (fun q => h q.2), if_neg h]
theorem c_take2 {M1 : Mem} {t N : Nat} (hc : CLn M1) (hN : M1 3 3 = (N : Int)) (hN2 : N ≤ 10) (ht : t < 720) (hb : ∀ l : Nat, l < N → ∀ s : Nat, s < 64 → 0 ≤ M1 24 (64 * l + s) ∧ M1 24 (64 * l + s) ≤ 720) :
    ∃ M2, f_X1_take_L76 (t : Int) 100000 0 M1 = some (0, M2) ∧ agx [24] M1 M2 ∧ ∀ l : Nat, l < N → ∀ s : Nat, s < 64 → M2 24 (64 * l + s) = M1 24 (64 * l + s) + (if hd M1 l t = s then 1 else 0) := by
  obtain ⟨n, M2, e, g1, g2⟩ := loopN (N := N) (F := fun n i (M2 : Mem) => f_X1_take_L76 (t : Int) n (i : Int) M2) (P := fun i M2 => agx [24] M1 M2 ∧ ∀ l : Nat, l < N → ∀ s : Nat, s < 64 → M2 24 (64 * l + s) = M1 24 (64 * l + s) + (if l < i ∧ hd M1 l t = s then 1 else 0)) (by
    intro n i M2 hi hP
    obtain ⟨p1, p2⟩ := hP
    have hq : agq M1 M2 := agq.of p1 (by decide)
    have htb : hd M1 i t < 64 := hd_lt ht
    have h1 := p2 i hi _ htb
    have h2 := hb i hi _ htb
    rw [if_neg (by omega)] at h1
    refine ⟨mset M2 24 (64 * i + hd M1 i t) (M2 24 (64 * i + hd M1 i t) + 1), ?_, p1.mset (by decide), fun s hs p hp => ?_⟩
    · show f_X1_take_L76 (t : Int) (n + 1) (i : Int) M2 = f_X1_take_L76 (t : Int) n ((i + 1 : Nat) : Int) _
      rw [f_X1_take_L76, if_pos (by rw [p1 3 (by decide), hN]; omega), c_had (by rw [hq.eCLn]; exact hc) (by omega) ht, hq.ehd, wl64 (by omega) htb, rd_n (by omega), wr_n (by omega), w32_n1 (by omega), w32_id (z := M2 24 (64 * i + hd M1 i t) + 1) (by omega) (by omega)]
    · have h3 := p2 s hs p hp
      by_cases e : 64 * s + p = 64 * i + hd M1 i t
      · have es : s = i := by omega
        subst es
        have ep : p = hd M1 s t := by omega
        subst ep
        rw [mset_at, h1, if_pos ⟨by omega, rfl⟩]; omega
      · rw [mset_i e, h3]
        by_cases hc1 : s < i ∧ hd M1 s t = p
        · rw [if_pos hc1, if_pos ⟨by omega, hc1.2⟩]
        · rw [if_neg hc1, if_neg]
          intro hc2
          by_cases es : s = i
          · subst es; exact e (by omega)
          · exact hc1 ⟨by omega, hc2.2⟩) N 100000 0 M1 (by omega) (by omega) ⟨agx.refl, fun s hs p hp => by rw [if_neg (by omega), Int.add_zero]⟩
  have e : f_X1_take_L76 (t : Int) 100000 0 M1 = f_X1_take_L76 (t : Int) (n + 1) ((N : Nat) : Int) M2 := e
  refine ⟨M2, by rw [e, f_X1_take_L76, if_neg (by rw [g1 3 (by decide), hN]; omega)], g1, fun s hs p hp => ?_⟩
  rw [g2 s hs p hp]
  by_cases h : hd M1 s t = p
  · rw [if_pos ⟨hs, h⟩, if_pos h]
  · rw [if_neg (fun q => h q.2), if_neg h]
/-- the class's caches over the first tongues -/
def CHA (M : Mem) (i : Nat) (M2 : Mem) : Prop := M2 21 5 = ((FTA M i).length : Int) ∧ (∀ k : Nat, k < (FTA M i).length → M2 22 k = (((FTA M i).getD k 0 : Nat) : Int)) ∧ (∀ s : Nat, s < 6 → ∀ p : Nat, p < 6 → M2 23 (6 * s + p) = (ca M (fun t => tb (6 * t + s) == p) i : Int)) ∧ (∀ l : Nat, l < ln M → ∀ set : Nat, set < 64 → M2 24 (64 * l + set) = (ca M (fun t => hd M l t == set) i : Int)) ∧ M2 21 6 = (loA M i : Int)
theorem CHA.skip {M M2 : Mem} {i : Nat} (h : CHA M i M2) (hf : fits M i = false) : CHA M (i + 1) M2 ∨ (lawb M i && popc (bk M i) == 1) = true := by
  by_cases hl : (lawb M i && popc (bk M i) == 1) = true
  · exact Or.inr hl
  · left
    obtain ⟨h1, h2, h3, h4, h5⟩ := h
    have e : FTA M (i + 1) = FTA M i := by rw [FTA_s, hf]; rfl
    unfold CHA
    rw [e]
    refine ⟨h1, h2, fun s hs p hp => ?_, fun l hl set hs => ?_, ?_⟩
    · rw [ca_s, hf]; exact h3 s hs p hp
    · rw [ca_s, hf]; exact h4 l hl set hs
    · rw [loA_s, if_neg hl]; exact h5
theorem c_take {M M1 : Mem} {t : Nat} (h : RA M) (hc : CA M) (ht : t < 720) (ha : agx [19, 20, 21, 22, 23, 24, 25] M M1) (hC : CHA M t M1) (hf : fits M t = true) :
    ∃ M2, f_X1_take (t : Int) M1 = some (0, M2) ∧ agx [21, 22, 23, 24] M1 M2 ∧ CHA M (t + 1) M2 := by
  obtain ⟨⟨l1, l2, l3⟩, hF, hT, hX⟩ := h
  obtain ⟨cL, cF, cT⟩ := hc
  obtain ⟨h1, h2, h3, h4, h5⟩ := hC
  have hlen := FTA_len M t
  have hq : agq M M1 := agq.of ha (by decide)
  have e1 : wr M1 22 720 (M1 21 5) (t : Int) = mset M1 22 (FTA M t).length (t : Int) := by rw [h1, wr_n (by omega)]
  have hA : agx [21, 22] M1 (mset (mset M1 22 (FTA M t).length (t : Int)) 21 5 (((FTA M t).length + 1 : Nat) : Int)) := (agx.refl.mset (by decide)).mset (by decide)
  generalize hMA : mset (mset M1 22 (FTA M t).length (t : Int)) 21 5 (((FTA M t).length + 1 : Nat) : Int) = MA at hA
  have hqA : agq M MA := hq.trans (agq.of hA (by decide))
  obtain ⟨MB, eB, b1, b2⟩ := c_take1 (K := fun M8 => f_X1_take_L76 (t : Int) 100000 0 M8) (M1 := MA) (t := t) (by rw [hqA.eCLn]; exact cL) ht (fun s hs p hp => by
    rw [hA 23 (by decide), h3 s hs p hp]
    have := ca_le M (fun t => tb (6 * t + s) == p) t
    exact ⟨by omega, by omega⟩)
  have hqB : agq M MB := hqA.trans (agq.of b1 (by decide))
  obtain ⟨MC, eC, c1, c2⟩ := c_take2 (M1 := MB) (t := t) (N := ln M) (by rw [hqB.eCLn]; exact cL) (by rw [hqB.c 3 (by decide), cL.1, l1]) l2 ht (fun l hl s hs => by
    rw [b1 24 (by decide), hA 24 (by decide), h4 l hl s hs]
    have := ca_le M (fun t => hd M l t == s) t
    exact ⟨by omega, by omega⟩)
  have hAC : agx [23, 24] MA MC := (b1.mono (by decide)).trans (c1.mono (by decide))
  refine ⟨MC, ?_, (hA.mono (by decide)).trans (hAC.mono (by decide)), ?_⟩
  · rw [f_X1_take, e1, mset_c (by decide), h1, w32_n1 (by omega), hMA, eB]
    exact eC
  · have hl1 : (FTA M (t + 1)).length = (FTA M t).length + 1 := by rw [FTA_s, if_pos hf, List.length_append]; rfl
    refine ⟨?_, fun k hk => ?_, fun s hs p hp => ?_, fun l hl set hs => ?_, ?_⟩
    · rw [hAC 21 (by decide), ← hMA, mset_at, hl1]
    · rw [hAC 22 (by decide), ← hMA, mset_c (by decide)]
      have e2 : (FTA M (t + 1)).getD k 0 = if k < (FTA M t).length then (FTA M t).getD k 0 else if k = (FTA M t).length then t else 0 := by rw [FTA_s, if_pos hf, getD_app]
      rw [e2]
      by_cases hk2 : k = (FTA M t).length
      · subst hk2; rw [mset_at, if_neg (Nat.lt_irrefl _), if_pos rfl]
      · rw [mset_i hk2, if_pos (by omega)]; exact h2 k (by omega)
    · rw [c1 23 (by decide), b2 s hs p hp, hA 23 (by decide), h3 s hs p hp, ca_s, if_pos hf]
      by_cases hp2 : tb (6 * t + s) = p
      · rw [if_pos hp2, if_pos (by simp [hp2])]; omega
      · rw [if_neg hp2, if_neg (by simp [hp2])]; omega
    · rw [c2 l hl set hs, b1 24 (by decide), hA 24 (by decide), h4 l hl set hs, ca_s, if_pos hf, hqB.ehd]
      by_cases hp2 : hd M l t = set
      · rw [if_pos hp2, if_pos (by simp [hp2])]; omega
      · rw [if_neg hp2, if_neg (by simp [hp2])]; omega
    · rw [hAC 21 (by decide), ← hMA, mset_i (by decide), mset_c (by decide), h5, loA_s, if_neg]
      intro hx
      unfold fits at hf
      rw [Bool.and_eq_true, beq_iff_eq] at hf hx
      rw [hf.2] at hx
      exact absurd hx.2 (by decide)
theorem bm.of {M1 M2 : Mem} {r : Nat} {L : List Nat} (h : bm M1 r) (ha : agx L M1 M2) (hL : ∀ c ∈ L, 19 ≤ c ∧ c ≤ 30 ∧ c ≠ 25) : bm M2 r := by
  have hq : agq M1 M2 := agq.of ha (fun c hc => ⟨(hL c hc).1, (hL c hc).2.1⟩)
  intro l hl set hs hp
  rw [hq.eln] at hl
  rw [hq.esgn] at hp
  rw [ha 25 (fun hc => (hL 25 hc).2.2 rfl), h l hl set hs hp]
  unfold mbT
  rw [hq.esy, hq.ePR]
theorem agq.elawT {M M' : Mem} (h : agq M M') : lawT M' = lawT M := by funext r t; unfold lawT lawV mbT; rw [h.esy, h.ePR, h.eln, h.ehd]
theorem c_find {M : Mem} (h : RA M) (hc : CA M) : ∃ M', f_X1_find (M 0 11) M = some (0, M') ∧ agx [19, 20, 21, 22, 23, 24, 25] M M' ∧ CHA M 720 M' := by
  obtain ⟨hL, ⟨f1, f2, f3⟩, hT, ⟨t1, t2, t3, t4, t5, t6⟩⟩ := id h
  obtain ⟨cL, cF, k1, k2, k3⟩ := id hc
  have er : M 0 11 = (rl M : Int) := by rw [k2, t4]
  rw [er]
  have hA : agx [21] M (mset (mset M 21 5 0) 21 6 0) := (agx.refl.mset (by decide)).mset (by decide)
  generalize hMA : mset (mset M 21 5 0) 21 6 0 = MA at hA
  obtain ⟨MB, eB, b1, b2⟩ := c_clear (M := MA) (ci := 23) (N := 36) (by decide)
  obtain ⟨MC, eC, c1, c2⟩ := c_clear (M := MB) (ci := 24) (N := 640) (by decide)
  have hAC : agx [21, 23, 24] M MC := ((hA.mono (by decide)).trans (b1.mono (by decide))).trans (c1.mono (by decide))
  have hqC : agq M MC := agq.of hAC (by decide)
  obtain ⟨MD, eD, d1, d2⟩ := c_allow (M := MC) (r := rl M) (by rw [hqC.eRA]; exact h) (by rw [hqC.eCA]; exact hc) (by rw [hqC.etn]; exact t5)
  have hAD : agx [19, 20, 21, 22, 23, 24, 25] M MD := (hAC.mono (by decide)).trans (d1.mono (by decide))
  have start : CHA M 0 MD := by
    refine ⟨?_, fun k hk => absurd hk (Nat.not_lt_zero _), fun s hs p hp => ?_, fun l hl set hs => ?_, ?_⟩
    · rw [d1 21 (by decide), c1 21 (by decide), b1 21 (by decide), ← hMA, mset_i (by decide), mset_at]; rfl
    · rw [d1 23 (by decide), c1 23 (by decide), b2 _ (by omega)]; rfl
    · rw [d1 24 (by decide), c2 _ (by have := hL.2.1; omega)]; rfl
    · rw [d1 21 (by decide), c1 21 (by decide), b1 21 (by decide), ← hMA, mset_at]; rfl
  obtain ⟨n, M', e, g1, g2, g3⟩ := loopN (N := 720) (F := fun n i (M2 : Mem) => f_X1_find_L36 n (i : Int) M2) (P := fun i M2 => agx [19, 20, 21, 22, 23, 24, 25] M M2 ∧ bm M2 (rl M) ∧ CHA M i M2) (by
    intro n t M2 ht hP
    obtain ⟨p1, p2, p3⟩ := hP
    have hq : agq M M2 := agq.of p1 (by decide)
    have e1 := c_isLawful (M := M2) (r := rl M) (t := t) (by rw [hq.eRA]; exact h) (by rw [hq.eCA]; exact hc) ht p2
    rw [hq.elawT] at e1
    have e2 := c_brokenIn (M := M2) (t := t) (by rw [hq.eRA]; exact h) (by rw [hq.eCA]; exact hc) ht
    rw [hq.ebk] at e2
    have hb := bk_lt (M := M) (t := t) f2
    show ∃ st', f_X1_find_L36 (n + 1) (t : Int) M2 = f_X1_find_L36 n ((t + 1 : Nat) : Int) st' ∧ _
    rw [f_X1_find_L36, if_pos (by omega), e1, Option.bind_some, w32_n1 (by omega)]
    by_cases hl : lawb M t = true
    · have hl2 : lawT M (rl M) t = true := hl
      rw [if_neg (by rw [bi_0, hl2]; decide), e2, Option.bind_some]
      by_cases hz : bk M t = 0
      · rw [if_pos (by rw [hz]; rfl)]
        obtain ⟨M3, e3, q1, q2⟩ := c_take (M1 := M2) h hc ht p1 p3 (by unfold fits; rw [hl, hz]; rfl)
        exact ⟨M3, ob_I e3 rfl, p1.trans (q1.mono (by decide)), p2.of q1 (by decide), q2⟩
      · have hf : fits M t = false := by unfold fits; rw [hl]; simp [hz]
        rw [if_neg (by omega), bitc_n (by omega)]
        by_cases ho : popc (bk M t) = 1
        · rw [if_pos (by rw [ho]; rfl)]
          have hlt := loA_lt f2 t
          refine ⟨_, rfl, p1.mset (by decide), p2.of (agx.refl.mset (L := [21]) (by decide)) (by decide), ?_⟩
          obtain ⟨h1, h2, h3, h4, h5⟩ := p3
          have ee : FTA M (t + 1) = FTA M t := by rw [FTA_s, hf]; rfl
          unfold CHA
          rw [ee, mset_i (by decide), mset_c (by decide), mset_c (by decide), mset_c (by decide), mset_at, h5]
          refine ⟨h1, h2, fun s hs p hp => ?_, fun l hl set hs => ?_, ?_⟩
          · rw [ca_s, hf]; exact h3 s hs p hp
          · rw [ca_s, hf]; exact h4 l hl set hs
          · rw [b_or_n (by omega) (by omega), loA_s, if_pos (by simp [hl, ho])]
        · rw [if_neg (by omega)]
          rcases p3.skip hf with h1 | h1
          · exact ⟨M2, rfl, p1, p2, h1⟩
          · rw [Bool.and_eq_true, beq_iff_eq] at h1; exact absurd h1.2 ho
    · have hl2 : lawT M (rl M) t = false := Bool.eq_false_iff.mpr hl
      have hf : fits M t = false := by unfold fits; rw [Bool.eq_false_iff.mpr hl]; rfl
      rw [if_pos (by rw [bi_0]; exact hl2), bitc_m1, if_neg (by decide)]
      rcases p3.skip hf with h1 | h1
      · exact ⟨M2, rfl, p1, p2, h1⟩
      · rw [Bool.and_eq_true] at h1; exact absurd h1.1 hl) 720 100000 0 MD (by omega) (by omega) ⟨hAD, d2, start⟩
  have e : f_X1_find_L36 100000 0 MD = f_X1_find_L36 (n + 1) ((720 : Nat) : Int) M' := e
  refine ⟨M', ?_, g1, g3⟩
  rw [f_X1_find, hMA]
  refine ob_I eB ?_
  refine ob_I eC ?_
  refine ob_I eD ?_
  rw [e, f_X1_find_L36, if_neg (by decide)]
theorem agq.eCH0 {M M' : Mem} (h : agq M M') : FT M' = FT M ∧ ct M' = ct M ∧ lone M' = lone M := by
  refine ⟨h.eFT, ?_, ?_⟩
  · funext P; unfold ct; rw [h.eFT]
  · unfold lone loA; rw [h.elawb, h.ebk]
theorem CHA.done {M M' : Mem} (hq : agq M M') (h : CHA M 720 M') : CH M' := by
  obtain ⟨h1, h2, h3, h4, h5⟩ := h
  obtain ⟨e1, e2, e3⟩ := hq.eCH0
  unfold CH
  rw [e1, e2, e3, hq.eln, hq.ehd]
  exact ⟨h1, h2, h3, h4, h5⟩
/-- caches hold where nothing of them changes -/
theorem CH.of {M M' : Mem} {L : List Nat} (h : CH M) (hq : agq M M') (ha : agx L M M') (hL : ∀ c ∈ L, ¬ (21 ≤ c ∧ c ≤ 24) := by decide) : CH M' := by
  obtain ⟨e1, e2, e3⟩ := hq.eCH0
  unfold CH
  rw [e1, e2, e3, hq.eln, hq.ehd, ha 21 (fun hc => hL 21 hc ⟨by decide, by decide⟩), ha 22 (fun hc => hL 22 hc ⟨by decide, by decide⟩), ha 23 (fun hc => hL 23 hc ⟨by decide, by decide⟩), ha 24 (fun hc => hL 24 hc ⟨by decide, by decide⟩)]
  exact h
theorem c_fitting {M : Mem} (h : RA M) (hc : CA M) (hz : M 0 12 = 0 → CH M) : ∃ M', f_X9_fitting M = some (0, M') ∧ agq M M' ∧ CH M' ∧ M' 0 12 = 0 := by
  unfold f_X9_fitting
  by_cases h0 : M 0 12 = 0
  · exact ⟨M, by rw [if_pos h0], agq.refl, hz h0, h0⟩
  · rw [if_neg h0]
    obtain ⟨M1, e, a, b⟩ := c_find h hc
    have hq : agq M M1 := agq.of a (by decide)
    have h1 := CHA.done hq b
    have hq2 : agq M1 (mset M1 0 12 0) := agq.refl.mset (by rfl)
    exact ⟨mset M1 0 12 0, ob_I e rfl, hq.trans hq2, h1.of (L := [0]) hq2 (agx.refl.mset (by decide)) (by decide), mset_at _ _ _ _⟩
def anyT (M : Mem) (r : Nat) : Bool := (List.range 720).any (fun t => lawT M r t && bk M t == 0)
theorem anyT_t {M : Mem} {r t : Nat} (ht : t < 720) (h1 : lawT M r t = true) (h2 : bk M t = 0) : anyT M r = true := by
  unfold anyT; rw [List.any_eq_true]; exact ⟨t, List.mem_range.mpr ht, by rw [h1, h2]; rfl⟩
theorem c_anyBy {M : Mem} {r : Nat} (h : RA M) (hc : CA M) (hr : r < tn M) : ∃ M', f_X1_anyBy (r : Int) M = some (bi (anyT M r), M') ∧ agx [19, 20, 25] M M' := by
  obtain ⟨M1, e1, a1, a2⟩ := c_allow h hc hr
  have hq : agq M M1 := agq.of a1 (by decide)
  obtain ⟨y, e, h1⟩ := loopX (N := 720) (F := fun n i (_ : Unit) => f_X1_anyBy_L11 n (i : Int) M1) (P := fun i _ => ∀ t : Nat, t < i → (lawT M r t && bk M t == 0) = false) (Q := fun y => y = (bi (anyT M r), M1)) (by
    intro n t st ht hP
    have e1 := c_isLawful (M := M1) (r := r) (t := t) (by rw [hq.eRA]; exact h) (by rw [hq.eCA]; exact hc) ht a2
    rw [hq.elawT] at e1
    have e2 := c_brokenIn (M := M1) (t := t) (by rw [hq.eRA]; exact h) (by rw [hq.eCA]; exact hc) ht
    rw [hq.ebk] at e2
    show (∃ st' : Unit, f_X1_anyBy_L11 (n + 1) (t : Int) M1 = f_X1_anyBy_L11 n ((t + 1 : Nat) : Int) M1 ∧ _) ∨ ∃ r, f_X1_anyBy_L11 (n + 1) (t : Int) M1 = some r ∧ _
    rw [f_X1_anyBy_L11, if_pos (by omega), e1, Option.bind_some, w32_n1 (by omega)]
    have next : (lawT M r t && bk M t == 0) = false → ∀ j : Nat, j < t + 1 → (lawT M r j && bk M j == 0) = false := by
      intro hx j hj
      by_cases e : j = t
      · subst e; exact hx
      · exact hP j (by omega)
    by_cases hl : lawT M r t = true
    · rw [if_neg (by rw [bi_0, hl]; decide), e2, Option.bind_some]
      by_cases hz : bk M t = 0
      · rw [if_pos (by rw [hz]; rfl)]
        right
        exact ⟨_, rfl, by rw [anyT_t ht hl hz]; rfl⟩
      · rw [if_neg (by omega)]
        left
        exact ⟨(), rfl, next (by simp [hz])⟩
    · rw [if_pos (by rw [bi_0]; exact Bool.eq_false_iff.mpr hl)]
      left
      exact ⟨(), rfl, next (by rw [Bool.eq_false_iff.mpr hl]; rfl)⟩) (by
    intro n st hP
    refine ⟨(bi (anyT M r), M1), ?_, rfl⟩
    have : anyT M r = false := by
      unfold anyT; rw [List.any_eq_false]
      intro t ht
      rw [hP t (List.mem_range.mp ht)]; decide
    show f_X1_anyBy_L11 (n + 1) ((720 : Nat) : Int) M1 = _
    rw [f_X1_anyBy_L11, if_neg (by decide), this]; rfl) 720 100000 0 () (by omega) (by omega) (fun t ht => absurd ht (Nat.not_lt_zero _))
  refine ⟨M1, ?_, a1⟩
  unfold f_X1_anyBy
  refine ob_I e1 ?_
  have e : f_X1_anyBy_L11 100000 0 M1 = some y := e
  rw [e, h1]
