/-! would, clash, idle -/
theorem hd_e {M M' : Mem} (h3 : M' 39 = M 39) : hd M' = hd M := by funext l t; unfold hd sgn; rw [h3]
theorem lawb_e {M M' : Mem} (h0 : M' 38 0 = M 38 0) (h2 : M' 38 14 = M 38 14) (h3 : M' 39 = M 39) (h4 : M' 40 = M 40) (h6 : M' 45 = M 45) (h7 : M' 46 = M 46) : lawb M' = lawb M := by
  have eln : ln M' = ln M := by unfold ln; rw [h0]
  have erl : rl M' = rl M := by unfold rl; rw [h2]
  have ehd := hd_e h3
  have ePR : PR M' = PR M := by funext l; unfold PR; rw [h4]
  have esy : sy M' = sy M := by funext t p a b c d e; unfold sy txc txb; rw [h6, h7]
  have emb : mb M' = mb M := by funext l s; unfold mb; rw [esy, erl, ePR]
  funext t; unfold lawb lawA; rw [eln, emb, ehd]
theorem bkA_e {M M' : Mem} (h3 : M' 39 = M 39) {t : Nat} : ∀ i : Nat, (∀ j, j < 4 * i → M' 42 j = M 42 j) → bkA M' t i = bkA M t i := by
  intro i
  induction i with
  | zero => intro _; rfl
  | succ i ih =>
    intro h
    have e : fh M' i t = fh M i t := by
      unfold fh fk fl fp fm
      rw [h (4 * i) (by omega), h (4 * i + 1) (by omega), h (4 * i + 2) (by omega), h (4 * i + 3) (by omega), hd_e h3]
    rw [bkA_s, bkA_s, ih (fun j hj => h j (by omega)), e]
theorem or_pow_ne {x n : Nat} : ¬ (x ||| 2 ^ n) = 0 := by
  intro h
  have h1 : (x ||| 2 ^ n).testBit n = true := by rw [Nat.testBit_or, Nat.testBit_two_pow_self, Bool.or_true]
  rw [h, Nat.zero_testBit] at h1
  cases h1
theorem op_would {M : Mem} (h : Inv M) (a b c d : Int) : OK2 (f_X9_would a b c d) (f_X10_would a b c d) M := by
  have f1 := h.1.2.1.1
  have f2 := h.1.2.1.2.1
  have k1 := h.2.1.2.1.1
  by_cases hn : fn M = 12
  · exact OK2.no h (by rw [f_X9_would, if_neg (by rw [k1, f1]; omega)]) (by rw [f_X10_would, if_pos (by rw [f1]; omega)])
  by_cases hf : f_X9_mayBeFact a b c d M = 0
  · exact OK2.no h (by rw [f_X9_would, if_pos (by rw [k1, f1]; omega), if_pos hf]) (by rw [f_X10_would, if_neg (by rw [f1]; omega), fact_e h, if_pos hf])
  obtain ⟨kk, l, p, m, rfl, rfl, rfl, rfl, b1, b2, b3, b4, b5⟩ := fact_n h hf
  obtain ⟨M1, e1, a1, i1, c1, z1⟩ := h.fit
  obtain ⟨⟨hL, ⟨F1, F2, F3⟩, hT, hX⟩, ⟨cL, ⟨K1, K2⟩, cT⟩, hG, hP, hI, hS, hW, hC⟩ := id i1
  have efn : fn M1 = fn M := a1.efn
  have hlen := FT_len M1
  generalize hN : fn M = n at *
  have hn1 : n < 12 := by omega
  have h6 : M1 38 6 = (n : Int) := by rw [F1, efn]
  have eB := r_lays (M := M1) (a := (kk : Int)) (b := (l : Int)) (c := (p : Int)) (d := (m : Int)) h6 (by omega)
  have hM2q : ∀ j : Nat, mset (mset (mset (mset M1 42 (4 * n) (kk : Int)) 42 (4 * n + 1) (l : Int)) 42 (4 * n + 2) (p : Int)) 42 (4 * n + 3) (m : Int) 42 j = if j = 4 * n + 3 then (m : Int) else if j = 4 * n + 2 then (p : Int) else if j = 4 * n + 1 then (l : Int) else if j = 4 * n then (kk : Int) else M1 42 j := mset4
  have hML : agx [42] M1 (mset (mset (mset (mset M1 42 (4 * n) (kk : Int)) 42 (4 * n + 1) (l : Int)) 42 (4 * n + 2) (p : Int)) 42 (4 * n + 3) (m : Int)) := (((agx.refl.mset (by decide)).mset (by decide)).mset (by decide)).mset (by decide)
  generalize hMLe : mset (mset (mset (mset M1 42 (4 * n) (kk : Int)) 42 (4 * n + 1) (l : Int)) 42 (4 * n + 2) (p : Int)) 42 (4 * n + 3) (m : Int) = ML at eB hM2q hML
  have en1 : ∀ _ : Unit, w32 ((n : Int) + 1) = ((n + 1 : Nat) : Int) := fun _ => w32_n1 (by omega)
  have hL6 : ML 38 6 = (n : Int) := by rw [hML 38 (by decide)]; exact h6
  obtain ⟨g0, g1, g2, g3, g4⟩ := lays_at hM2q
  have hc : ∀ cc : Nat, cc ≠ 42 → cc ≠ 38 → mset ML 38 6 ((n + 1 : Nat) : Int) cc = M1 cc := fun cc q1 q2 => by rw [mset_c q2, hML cc (by simpa using q1)]
  have hs : ∀ j : Nat, j ≠ 6 → mset ML 38 6 ((n + 1 : Nat) : Int) 38 j = M1 38 j := fun j q => by rw [mset_i q, hML 38 (by decide)]
  have h42 : mset ML 38 6 ((n + 1 : Nat) : Int) 42 = ML 42 := mset_c (by decide)
  have h386 : mset ML 38 6 ((n + 1 : Nat) : Int) 38 6 = ((n + 1 : Nat) : Int) := mset_at _ _ _ _
  generalize hM2 : mset ML 38 6 ((n + 1 : Nat) : Int) = M2 at hc hs h42 h386
  have ehd : hd M2 = hd M1 := hd_e (hc 39 (by decide) (by decide))
  have elw : lawb M2 = lawb M1 := lawb_e (hs 0 (by decide)) (hs 14 (by decide)) (hc 39 (by decide) (by decide)) (hc 40 (by decide) (by decide)) (hc 45 (by decide) (by decide)) (hc 46 (by decide) (by decide))
  have efn2 : fn M2 = n + 1 := by unfold fn; rw [h386]; omega
  have hfk : fk M2 n = kk ∧ fl M2 n = l ∧ fp M2 n = p ∧ fm M2 n = m := by
    unfold fk fl fp fm
    rw [h42, g0, g1, g2, g3]
    exact ⟨Int.toNat_natCast _, Int.toNat_natCast _, Int.toNat_natCast _, Int.toNat_natCast _⟩
  have hRA2 : RA M2 := by
    refine ⟨(RLn_e (hs 0 (by decide)) (hc 39 (by decide) (by decide)) (hc 40 (by decide) (by decide))).mpr hL, ⟨by rw [efn2]; exact h386, by omega, fun f hf => ?_⟩, (TB_e (hc 43 (by decide) (by decide))).mpr hT, (RTx_e (hs 13 (by decide)) (hs 14 (by decide)) (hc 45 (by decide) (by decide)) (hc 46 (by decide) (by decide))).mpr hX⟩
    by_cases e : f = n
    · subst e
      obtain ⟨q1, q2, q3, q4⟩ := hfk
      unfold RF1
      rw [q1, q2, q3, q4, h42, g0, g1, g2, g3]
      exact ⟨rfl, b1, rfl, b3, rfl, b4, rfl, b5⟩
    · have h0 := F3 f (by omega)
      unfold RF1 fk fl fp fm at h0 ⊢
      rw [h42, g4 _ (by omega), g4 _ (by omega), g4 _ (by omega), g4 _ (by omega)]
      exact h0
  obtain ⟨M3, e3, a3, o3⟩ := r_finds hRA2
  have hfits : ∀ t, fits M2 t = (fits M1 t && hol kk p m (hd M1 l t) (hd M1 m t)) := by
    intro t
    have hb : bk M2 t = if hol kk p m (hd M1 l t) (hd M1 m t) then bk M1 t else bk M1 t ||| 2 ^ n := by
      unfold bk
      rw [efn2, efn, bkA_s, bkA_e (M := M1) (hc 39 (by decide) (by decide)) n (fun j hj => by rw [h42]; exact g4 j hj)]
      unfold fh
      obtain ⟨q1, q2, q3, q4⟩ := hfk
      rw [q1, q2, q3, q4, ehd]
    unfold fits
    rw [elw, hb]
    by_cases hh : hol kk p m (hd M1 l t) (hd M1 m t) = true
    · rw [if_pos hh, hh, Bool.and_true]
    · rw [if_neg hh, Bool.eq_false_iff.mpr hh, Bool.and_false]
      have : (bk M1 t ||| 2 ^ n == 0) = false := by simp only [beq_eq_false_iff_ne, ne_eq]; exact or_pow_ne
      rw [this, Bool.and_false]
  have hcount : (FT M2).length = ct M1 (fun t => hol kk p m (hd M1 l t) (hd M1 m t)) := by
    have e : FT M2 = (FT M1).filter (fun t => hol kk p m (hd M1 l t) (hd M1 m t)) := by
      unfold FT FTA
      rw [List.filter_filter]
      congr 1
      funext t
      rw [hfits t, Bool.and_comm]
    unfold ct
    rw [e, List.countP_eq_length_filter]
  have l10 : l < 10 := b3
  have hcls : f_X9_would_L42 (kk : Int) (l : Int) (p : Int) (m : Int) 100000 0 0 M1 = some (((ct M1 (fun t => hol kk p m (hd M1 l t) (hd M1 m t)) : Nat) : Int), M1) := by
    obtain ⟨nn, st, e, hPP⟩ := loopN (N := (FT M1).length) (F := fun nn k (st : Int) => f_X9_would_L42 (kk : Int) (l : Int) (p : Int) (m : Int) nn st (k : Int) M1) (P := fun k st => st = ((ck (FT M1) (fun t => hol kk p m (hd M1 l t) (hd M1 m t)) k : Nat) : Int)) (by
      intro nn k st hk hPP
      subst hPP
      have hle := ck_le (FT M1) (fun t => hol kk p m (hd M1 l t) (hd M1 m t)) k
      have ht := FT_lt (getD_mem hk)
      refine ⟨_, ?_, rfl⟩
      show f_X9_would_L42 (kk : Int) (l : Int) (p : Int) (m : Int) (nn + 1) _ (k : Int) M1 = f_X9_would_L42 (kk : Int) (l : Int) (p : Int) (m : Int) nn _ ((k + 1 : Nat) : Int) M1
      rw [f_X9_would_L42, if_pos (by rw [c1.1]; omega), c_tongueOf c1 hk, c_had cL b3 ht, c_had cL b5 ht, c_hol b4 (hd_lt ht) (hd_lt ht), ck_s hk, w32_n1 (a := k) (by omega)]
      by_cases hh : hol kk p m (hd M1 l ((FT M1).getD k 0)) (hd M1 m ((FT M1).getD k 0)) = true
      · rw [if_neg (by rw [bi_0, hh]; decide), if_pos hh, w32_n1 (by omega)]
      · rw [if_pos (by rw [bi_0]; exact Bool.eq_false_iff.mpr hh), if_neg hh] <;> simp only [Nat.add_zero]) (FT M1).length 100000 0 0 (by omega) (by omega) rfl
    have e : f_X9_would_L42 (kk : Int) (l : Int) (p : Int) (m : Int) 100000 0 0 M1 = f_X9_would_L42 (kk : Int) (l : Int) (p : Int) (m : Int) (nn + 1) st (((FT M1).length : Nat) : Int) M1 := e
    rw [e, f_X9_would_L42, if_neg (by rw [c1.1]; omega), hPP, ck_all]; rfl
  have e36 : M3 38 6 = ((n + 1 : Nat) : Int) := by rw [a3.s 6, h386]
  have en2 : ∀ _ : Unit, w32 (((n + 1 : Nat) : Int) - 1) = (n : Int) := fun _ => by rw [w32_id (by omega) (by omega)]; omega
  have eI : f_X10_isFact (kk : Int) (l : Int) (p : Int) (m : Int) M1 = f_X9_mayBeFact (kk : Int) (l : Int) (p : Int) (m : Int) M := by
    rw [fact_e i1, f_X9_mayBeFact, f_X9_mayBeFact, line_n h a1, line_n h a1]
  refine ⟨((ct M1 (fun t => hol kk p m (hd M1 l t) (hd M1 m t)) : Nat) : Int), M1, mset M3 38 6 (n : Int), ?_, ?_, ?_⟩
  · rw [f_X9_would, if_pos (by rw [k1, f1]; omega), if_neg hf]
    exact ob_I e1 hcls
  · rw [f_X10_would, if_neg (by rw [h6]; omega), eI, if_neg hf]
    refine ob_I eB ?_
    rw [hL6, en1 (), hM2]
    refine ob_I e3 ?_
    rw [e36, en2 (), mset_i (by decide), o3.1, hcount]
  · have hcc : ∀ cc : Nat, cc ≠ 42 → cc ≠ 38 → (cc < 53 ∨ 62 < cc) → ∀ j, mset M3 38 6 (n : Int) cc j = M1 cc j := fun cc q1 q2 q3 j => by
      rw [mset_c q2, a3 cc j, hc cc q1 q2]
      unfold SR
      have e1 : (cc == 38) = false := by simp; omega
      have e2 : (decide (53 ≤ cc) && decide (cc ≤ 62)) = false := by simp; omega
      rw [e1, e2]; rfl
    have hcf : ∀ cc : Nat, cc ≠ 42 → cc ≠ 38 → (cc < 53 ∨ 62 < cc) → mset M3 38 6 (n : Int) cc = M1 cc := fun cc q1 q2 q3 => funext fun j => hcc cc q1 q2 q3 j
    have hss : ∀ j : Nat, j ≠ 6 → SR 38 j = false → mset M3 38 6 (n : Int) 38 j = M1 38 j := fun j q q2 => by rw [mset_i q, a3.s j q2, hs j q]
    have h42' : ∀ j : Nat, j < 4 * n → mset M3 38 6 (n : Int) 42 j = M1 42 j := fun j hj => by rw [mset_c (by decide), a3.c 42 (by decide), h42, g4 j hj]
    have h6' : mset M3 38 6 (n : Int) 38 6 = (n : Int) := mset_at _ _ _ _
    generalize hM4 : mset M3 38 6 (n : Int) = M4 at hcf hss h42' h6' ⊢
    have efn4 : fn M4 = n := by unfold fn; rw [h6']; omega
    have elw4 : lawb M4 = lawb M1 := lawb_e (hss 0 (by decide) (by rfl)) (hss 14 (by decide) (by rfl)) (hcf 39 (by decide) (by decide) (by decide)) (hcf 40 (by decide) (by decide) (by decide)) (hcf 45 (by decide) (by decide) (by decide)) (hcf 46 (by decide) (by decide) (by decide))
    have ehd4 : hd M4 = hd M1 := hd_e (hcf 39 (by decide) (by decide) (by decide))
    have ebk4 : bk M4 = bk M1 := by funext t; unfold bk; rw [efn4, efn]; exact bkA_e (hcf 39 (by decide) (by decide) (by decide)) n h42'
    have efits4 : fits M4 = fits M1 := by funext t; unfold fits; rw [elw4, ebk4]
    have eFT4 : FT M4 = FT M1 := by unfold FT FTA; rw [efits4]
    have eln4 : ln M4 = ln M1 := by unfold ln; rw [hss 0 (by decide) (by rfl)]
    refine ⟨⟨(RLn_e (hss 0 (by decide) (by rfl)) (hcf 39 (by decide) (by decide) (by decide)) (hcf 40 (by decide) (by decide) (by decide))).mpr hL, ⟨by rw [efn4]; exact h6', by omega, fun f hf => ?_⟩, (TB_e (hcf 43 (by decide) (by decide) (by decide))).mpr hT, (RTx_e (hss 13 (by decide) (by rfl)) (hss 14 (by decide) (by rfl)) (hcf 45 (by decide) (by decide) (by decide)) (hcf 46 (by decide) (by decide) (by decide))).mpr hX⟩,
      ⟨(CLn_e (by rw [hcf 3 (by decide) (by decide) (by decide)]) (hss 0 (by decide) (by rfl)) (hcf 4 (by decide) (by decide) (by decide)) (hcf 39 (by decide) (by decide) (by decide)) (hcf 5 (by decide) (by decide) (by decide)) (hcf 40 (by decide) (by decide) (by decide)) (hcf 6 (by decide) (by decide) (by decide)) (hcf 2 (by decide) (by decide) (by decide))).mpr cL, ⟨by rw [hcf 7 (by decide) (by decide) (by decide), h6', K1, h6], fun f hf => ?_⟩, (CTx_e (by rw [hcf 12 (by decide) (by decide) (by decide)]) (hss 13 (by decide) (by rfl)) (by rw [hcf 0 (by decide) (by decide) (by decide)]) (hss 14 (by decide) (by rfl)) (hcf 45 (by decide) (by decide) (by decide)) (hcf 46 (by decide) (by decide) (by decide)) (hcf 17 (by decide) (by decide) (by decide)) (hcf 18 (by decide) (by decide) (by decide))).mpr cT⟩,
      (Gs_e (by rw [hcf 0 (by decide) (by decide) (by decide)]) (hss 3 (by decide) (by rfl)) (hcf 37 (by decide) (by decide) (by decide)) (hcf 41 (by decide) (by decide) (by decide)) (by rw [hcf 0 (by decide) (by decide) (by decide)]) (hss 5 (by decide) (by rfl))).mpr hG, (Tp_e (by rw [hcf 13 (by decide) (by decide) (by decide)]) (hss 10 (by decide) (by rfl)) (hcf 14 (by decide) (by decide) (by decide)) (hcf 44 (by decide) (by decide) (by decide))).mpr hP, ?_, (Sh_e (hcf 34 (by decide) (by decide) (by decide)) (hcf 48 (by decide) (by decide) (by decide)) (hcf 35 (by decide) (by decide) (by decide)) (hcf 49 (by decide) (by decide) (by decide)) (hcf 36 (by decide) (by decide) (by decide)) (hcf 50 (by decide) (by decide) (by decide))).mpr hS, (WD_e (hcf 52 (by decide) (by decide) (by decide))).mpr hW, fun _ => ?_⟩
    · have h0 := F3 f (by omega)
      unfold RF1 fk fl fp fm at h0 ⊢
      rw [h42' _ (by omega), h42' _ (by omega), h42' _ (by omega), h42' _ (by omega)]
      exact h0
    · rw [hcf 8 (by decide) (by decide) (by decide), hcf 9 (by decide) (by decide) (by decide), hcf 10 (by decide) (by decide) (by decide), hcf 11 (by decide) (by decide) (by decide), h42' _ (by omega), h42' _ (by omega), h42' _ (by omega), h42' _ (by omega)]
      exact K2 f (by omega)
    · have hI' := hI
      unfold Im at hI' ⊢
      rw [hcf 31 (by decide) (by decide) (by decide), hss 15 (by decide) (by rfl), hss 16 (by decide) (by rfl), hss 17 (by decide) (by rfl), hss 18 (by decide) (by rfl), hss 19 (by decide) (by rfl), hss 20 (by decide) (by rfl), hcf 32 (by decide) (by decide) (by decide), hcf 47 (by decide) (by decide) (by decide), hss 0 (by decide) (by rfl), hss 3 (by decide) (by rfl), h6', hss 13 (by decide) (by rfl), ← h6]
      exact hI'
    · have ect4 : ct M4 = ct M1 := by funext P; unfold ct; rw [eFT4]
      have elo4 : lone M4 = lone M1 := by unfold lone loA; rw [elw4, ebk4]
      unfold CH
      rw [eFT4, ect4, elo4, eln4, ehd4, hcf 21 (by decide) (by decide) (by decide), hcf 22 (by decide) (by decide) (by decide), hcf 23 (by decide) (by decide) (by decide), hcf 24 (by decide) (by decide) (by decide)]
      exact c1
/-! which facts alone keep -/
def fw (M : Mem) (f : Nat) : Nat := (List.range 720).countP (fun t => lawb M t && (bk M t ^^^ (bk M t &&& 2 ^ f) == 0))
theorem xor_0 (f : Nat) (hf : f < 12) (x : Nat) (hx : x < 4096) : (x ^^^ (x &&& 2 ^ f) = 0 ↔ x = 0 ∨ x = 2 ^ f) := by
  have h := xor_00 f hf (x / 64) (by omega) (x % 64) (by omega)
  rwa [Nat.div_add_mod] at h
theorem pop_1 (f : Nat) (hf : f < 12) (x : Nat) (hx : x < 4096) : ((popc x = 1 ∧ x.testBit f = true) ↔ x = 2 ^ f) := by
  have h := pop_10 f hf (x / 64) (by omega) (x % 64) (by omega)
  rwa [Nat.div_add_mod] at h
theorem r_fitWithout {M M2 : Mem} {f : Nat} (h : RA M) (ho : FO M M2) (hf : f < 12) : f_X10_fitWithout (f : Int) M2 = some ((fw M f : Nat) : Int) := by
  unfold f_X10_fitWithout
  obtain ⟨n, st, e, hP⟩ := loopN (N := 720) (F := fun n t (st : Int) => f_X10_fitWithout_L4 (f : Int) M2 n st (t : Int)) (P := fun t st => st = (((List.range t).countP (fun t => lawb M t && (bk M t ^^^ (bk M t &&& 2 ^ f) == 0)) : Nat) : Int)) (by
    intro n t st ht hP
    subst hP
    have hle : (List.range t).countP (fun t => lawb M t && (bk M t ^^^ (bk M t &&& 2 ^ f) == 0)) ≤ t := by
      have := List.countP_le_length (p := fun t => lawb M t && (bk M t ^^^ (bk M t &&& 2 ^ f) == 0)) (l := List.range t)
      rwa [List.length_range] at this
    have hb := bk_lt (M := M) (t := t) h.2.1.2.1
    have hpw : 2 ^ f < 4096 := Nat.pow_lt_pow_right (n := 12) (a := 2) (by decide) hf
    have e56 := ho.2.2 t ht
    refine ⟨_, ?_, rfl⟩
    show f_X10_fitWithout_L4 (f : Int) M2 (n + 1) _ (t : Int) = f_X10_fitWithout_L4 (f : Int) M2 n _ ((t + 1 : Nat) : Int)
    rw [f_X10_fitWithout_L4, if_pos (by omega), if_pos ⟨by omega, by omega⟩, Int.toNat_natCast, e56, w32_n1 (a := t) (by omega), List.range_succ, List.countP_append, List.countP_singleton]
    by_cases hl : lawb M t = true
    · rw [if_pos hl, if_neg (by omega), if_pos ⟨by omega, by omega⟩, b_shl_n (by omega), b_andn_n (by omega) (by omega), hl, Bool.true_and]
      by_cases hz : bk M t ^^^ (bk M t &&& 2 ^ f) = 0
      · rw [if_pos (by omega), if_pos (by simp [hz]), w32_n1 (by omega)]
      · rw [if_neg (by omega), if_neg (by simp [hz]), Int.add_zero, w32_id (by omega) (by omega)] <;> simp only [Nat.add_zero]
    · rw [if_neg hl, if_pos (by decide), Bool.eq_false_iff.mpr hl, Bool.false_and, if_neg (by decide), Int.add_zero, w32_id (by omega) (by omega)] <;> simp only [Nat.add_zero]) 720 100000 0 0 (by omega) (by omega) rfl
  have e : f_X10_fitWithout_L4 (f : Int) M2 100000 0 0 = f_X10_fitWithout_L4 (f : Int) M2 (n + 1) st ((720 : Nat) : Int) := e
  rw [e, f_X10_fitWithout_L4, if_neg (by decide), hP]; rfl
theorem bitsA_b (f : Nat → Bool) (j : Nat) : ∀ n : Nat, (bitsA f n).testBit j = (decide (j < n) && f j) := by
  intro n
  induction n with
  | zero => show (0 : Nat).testBit j = _; rw [Nat.zero_testBit]; simp
  | succ n ih =>
    rw [bitsA_s]
    by_cases e : j = n
    · subst e
      by_cases hf : f j = true
      · rw [if_pos hf, Nat.testBit_or, ih, Nat.testBit_two_pow]; simp [hf]
      · rw [if_neg hf, ih]; simp [hf]
    · have e2 : decide (n = j) = false := decide_eq_false (fun q => e q.symm)
      have e3 : decide (j < n + 1) = decide (j < n) := decide_eq_decide.mpr ⟨fun q => by omega, fun q => by omega⟩
      rw [e3]
      by_cases hf : f n = true
      · rw [if_pos hf, Nat.testBit_or, ih, Nat.testBit_two_pow, e2, Bool.or_false]
      · rw [if_neg hf, ih]
theorem loA_b {M : Mem} (h : fn M ≤ 12) {f : Nat} (hf : f < 12) : ∀ i : Nat, (loA M i).testBit f = true ↔ ∃ t, t < i ∧ lawb M t = true ∧ bk M t = 2 ^ f := by
  intro i
  induction i with
  | zero =>
    constructor
    · intro q
      have : loA M 0 = 0 := rfl
      rw [this, Nat.zero_testBit] at q; cases q
    · rintro ⟨t, ht, _⟩; omega
  | succ i ih =>
    rw [loA_s]
    have hp := pop_1 f hf (bk M i) (bk_lt h)
    by_cases hc : (lawb M i && popc (bk M i) == 1) = true
    · rw [if_pos hc, Nat.testBit_or, Bool.or_eq_true, ih]
      rw [Bool.and_eq_true, beq_iff_eq] at hc
      constructor
      · rintro (⟨t, h1, h2⟩ | q)
        · exact ⟨t, by omega, h2⟩
        · exact ⟨i, by omega, hc.1, hp.mp ⟨hc.2, q⟩⟩
      · rintro ⟨t, h1, h2, h3⟩
        by_cases e : t = i
        · subst e; exact Or.inr (hp.mpr h3).2
        · exact Or.inl ⟨t, by omega, h2, h3⟩
    · rw [if_neg hc, ih]
      constructor
      · rintro ⟨t, h1, h2⟩; exact ⟨t, by omega, h2⟩
      · rintro ⟨t, h1, h2, h3⟩
        by_cases e : t = i
        · subst e; exact absurd (by rw [h2, Bool.true_and, beq_iff_eq]; exact (hp.mpr h3).1) hc
        · exact ⟨t, by omega, h2, h3⟩
theorem loA_lt2 (M : Mem) : ∀ i : Nat, loA M i < 2 ^ fn M := by
  intro i
  induction i with
  | zero => exact Nat.two_pow_pos _
  | succ i ih =>
    rw [loA_s]
    split
    · exact Nat.or_lt_two_pow ih (bkA_lt M i (fn M))
    · exact ih
theorem testBit_big {x n j : Nat} (h : x < 2 ^ n) (hj : n ≤ j) : x.testBit j = false := Nat.testBit_lt_two_pow (Nat.lt_of_lt_of_le h (Nat.pow_le_pow_right (by decide) hj))
theorem lone_bits (M : Mem) : lone M = bitsA (fun f => (lone M).testBit f) (fn M) := by
  apply Nat.eq_of_testBit_eq
  intro j
  rw [bitsA_b]
  by_cases hj : j < fn M
  · simp [hj]
  · have h2 : (lone M).testBit j = false := testBit_big (loA_lt2 M 720) (j := j) (by omega)
    rw [h2]; simp [hj]
theorem fw_0 {M : Mem} (h : fn M ≤ 12) {f : Nat} (hf : f < 12) (hz : (FT M).length = 0) : 0 < fw M f ↔ (lone M).testBit f = true := by
  unfold fw lone
  rw [List.countP_pos_iff, loA_b h hf]
  constructor
  · rintro ⟨t, ht, q⟩
    rw [Bool.and_eq_true, beq_iff_eq, xor_0 f hf _ (bk_lt h)] at q
    rcases q.2 with q2 | q2
    · exfalso
      have : t ∈ FT M := by
        unfold FT FTA
        rw [List.mem_filter]
        exact ⟨ht, by unfold fits; rw [q.1, q2]; rfl⟩
      have := List.length_pos_of_mem this
      omega
    · exact ⟨t, List.mem_range.mp ht, q.1, q2⟩
  · rintro ⟨t, ht, q1, q2⟩
    exact ⟨t, List.mem_range.mpr ht, by rw [Bool.and_eq_true, beq_iff_eq, xor_0 f hf _ (bk_lt h)]; exact ⟨q1, Or.inr q2⟩⟩
theorem countP_iff {P Q : Nat → Bool} : ∀ L : List Nat, (∀ a ∈ L, Q a = true → P a = true) → L.countP Q ≤ L.countP P ∧ (L.countP P = L.countP Q ↔ ∀ a ∈ L, P a = true → Q a = true) := by
  intro L
  induction L with
  | nil => intro _; exact ⟨Nat.le_refl _, ⟨fun _ a ha => (by cases ha), fun _ => rfl⟩⟩
  | cons a L ih =>
    intro h
    obtain ⟨h1, h2⟩ := ih (fun b hb => h b (List.mem_cons_of_mem _ hb))
    rw [List.countP_cons, List.countP_cons]
    by_cases hq : Q a = true
    · have hp := h a List.mem_cons_self hq
      rw [if_pos hq, if_pos hp]
      refine ⟨by omega, ?_⟩
      constructor
      · intro q b hb
        rcases List.mem_cons.mp hb with rfl | hb
        · exact fun _ => hq
        · exact h2.mp (by omega) b hb
      · intro q
        have := h2.mpr (fun b hb => q b (List.mem_cons_of_mem _ hb))
        omega
    · rw [if_neg hq]
      by_cases hp : P a = true
      · rw [if_pos hp]
        refine ⟨by omega, ?_⟩
        constructor
        · intro q; omega
        · intro q; exact absurd (q a List.mem_cons_self hp) hq
      · rw [if_neg hp]
        refine ⟨by omega, ?_⟩
        constructor
        · intro q b hb
          rcases List.mem_cons.mp hb with rfl | hb
          · exact fun r => absurd r hp
          · exact h2.mp (by omega) b hb
        · intro q
          have := h2.mpr (fun b hb => q b (List.mem_cons_of_mem _ hb))
          omega
theorem fw_N {M : Mem} (h : fn M ≤ 12) {f : Nat} (hf : f < 12) : fw M f = (FT M).length ↔ (lone M).testBit f = false := by
  have e : (FT M).length = (List.range 720).countP (fits M) := by unfold FT FTA; rw [List.countP_eq_length_filter]
  have hci := countP_iff (P := fun t => lawb M t && (bk M t ^^^ (bk M t &&& 2 ^ f) == 0)) (Q := fits M) (List.range 720) (by
    intro t _ q
    unfold fits at q
    rw [Bool.and_eq_true, beq_iff_eq] at q
    rw [Bool.and_eq_true, beq_iff_eq, xor_0 f hf _ (bk_lt h)]
    exact ⟨q.1, Or.inl q.2⟩)
  rw [e]
  unfold fw lone
  rw [hci.2, ← Bool.not_eq_true, loA_b h hf]
  constructor
  · rintro q ⟨t, ht, q1, q2⟩
    have := q t (List.mem_range.mpr ht) (by rw [Bool.and_eq_true, beq_iff_eq, xor_0 f hf _ (bk_lt h)]; exact ⟨q1, Or.inr q2⟩)
    unfold fits at this
    rw [Bool.and_eq_true, beq_iff_eq, q2] at this
    exact absurd this.2 (by have := Nat.two_pow_pos f; omega)
  · intro q t ht r
    rw [Bool.and_eq_true, beq_iff_eq, xor_0 f hf _ (bk_lt h)] at r
    unfold fits
    rw [Bool.and_eq_true, beq_iff_eq]
    rcases r.2 with r2 | r2
    · exact ⟨r.1, r2⟩
    · exact absurd ⟨t, List.mem_range.mp ht, r.1, r2⟩ q
theorem op_clash {M : Mem} (h : Inv M) : OK2 f_X9_clash f_X10_clash M := by
  refine qry h fun M1 e1 a1 i1 c1 => ?_
  have hlen := FT_len M1
  have f1 := i1.1.2.1.1
  have f2 := i1.1.2.1.2.1
  by_cases hz : (FT M1).length = 0
  · refine ⟨((lone M1 : Nat) : Int), M1, ?_, agq.refl, i1, c1, fun M3 e3 a3 o3 => ⟨M3, ?_, a3⟩⟩
    · rw [f_X9_clash]
      refine ob_I e1 ?_
      rw [if_pos (by rw [c1.1]; omega), c1.2.2.2.2]
    · rw [f_X10_clash]
      refine ob_I e3 ?_
      obtain ⟨n, st, e, hP⟩ := loopN (N := fn M1) (F := fun n f (st : Int) => f_X10_clash_L8 n st (f : Int) M3) (P := fun f st => st = ((bitsA (fun f => (lone M1).testBit f) f : Nat) : Int)) (by
        intro n f st hf hP
        subst hP
        have hb12 := bitsA_12 (f := fun f => (lone M1).testBit f) (i := f) (by omega)
        have hw := fw_0 (M := M1) f2 (f := f) (by omega) hz
        refine ⟨_, ?_, rfl⟩
        show f_X10_clash_L8 (n + 1) _ (f : Int) M3 = f_X10_clash_L8 n _ ((f + 1 : Nat) : Int) M3
        rw [f_X10_clash_L8, if_pos (by rw [a3.s 6, f1]; omega), if_pos (by rw [o3.1]; omega), r_fitWithout i1.1 o3 (by omega), Option.bind_some, w32_n1 (by omega), bitsA_s]
        by_cases hq : (lone M1).testBit f = true
        · rw [if_pos (by have := hw.mpr hq; omega), or_step hb12 (by omega), if_pos hq]
        · rw [if_neg (by intro q; exact hq (hw.mp (by omega))), or_0 hb12, if_neg hq]) (fn M1) 100000 0 0 (by omega) (by omega) rfl
      have e : f_X10_clash_L8 100000 0 0 M3 = f_X10_clash_L8 (n + 1) st ((fn M1 : Nat) : Int) M3 := e
      rw [e, f_X10_clash_L8, if_neg (by rw [a3.s 6, f1]; omega), hP, ← lone_bits]
  · refine ⟨0, M1, ?_, agq.refl, i1, c1, fun M3 e3 a3 o3 => ⟨M3, ?_, a3⟩⟩
    · rw [f_X9_clash]
      refine ob_I e1 ?_
      rw [if_neg (by rw [c1.1]; omega)]
    · rw [f_X10_clash]
      refine ob_I e3 ?_
      rw [f_X10_clash_L8]
      by_cases q : (0 : Int) < M3 38 6
      · rw [if_pos q, if_neg (by rw [o3.1]; omega)]
      · rw [if_neg q]
theorem op_idle {M : Mem} (h : Inv M) : OK2 f_X9_idle f_X10_idle M := by
  refine qry h fun M1 e1 a1 i1 c1 => ?_
  have hlen := FT_len M1
  have f1 := i1.1.2.1.1
  have f2 := i1.1.2.1.2.1
  have e74 : M1 7 4 = (fn M1 : Int) := by rw [i1.2.1.2.1.1, f1]
  have hll := loA_lt f2 720
  refine ⟨((bitsA (fun f => !(lone M1).testBit f) (fn M1) : Nat) : Int), M1, ?_, agq.refl, i1, c1, fun M3 e3 a3 o3 => ⟨M3, ?_, a3⟩⟩
  · rw [f_X9_idle]
    refine ob_I e1 ?_
    have hp : 2 ^ fn M1 ≤ 2 ^ 12 := Nat.pow_le_pow_right (by decide) f2
    have hp2 : 0 < 2 ^ fn M1 := Nat.two_pow_pos _
    have h12 : (2 : Nat) ^ 12 = 4096 := by decide
    have ew : ∀ _ : Unit, w32 (((2 ^ fn M1 : Nat) : Int) - 1) = ((2 ^ fn M1 - 1 : Nat) : Int) := fun _ => by rw [w32_id (by omega) (by omega)]; omega
    have e3 : (2 ^ fn M1 - 1) ^^^ ((2 ^ fn M1 - 1) &&& lone M1) = bitsA (fun f => !(lone M1).testBit f) (fn M1) := by
      apply Nat.eq_of_testBit_eq
      intro j
      rw [Nat.testBit_xor, Nat.testBit_and, Nat.testBit_two_pow_sub_one, bitsA_b]
      by_cases hj : j < fn M1
      · simp [hj]
      · simp [hj]
    have hll2 : lone M1 < 4096 := hll
    rw [e74, b_shl_n (by omega), ew (), c1.2.2.2.2, b_andn_n (by omega) (by omega), e3]
  · rw [f_X10_idle]
    refine ob_I e3 ?_
    obtain ⟨n, st, e, hP⟩ := loopN (N := fn M1) (F := fun n f (st : Int) => f_X10_idle_L8 n st (f : Int) M3) (P := fun f st => st = ((bitsA (fun f => !(lone M1).testBit f) f : Nat) : Int)) (by
      intro n f st hf hP
      subst hP
      have hb12 := bitsA_12 (f := fun f => !(lone M1).testBit f) (i := f) (by omega)
      have hw := fw_N (M := M1) f2 (f := f) (by omega)
      refine ⟨_, ?_, rfl⟩
      show f_X10_idle_L8 (n + 1) _ (f : Int) M3 = f_X10_idle_L8 n _ ((f + 1 : Nat) : Int) M3
      rw [f_X10_idle_L8, if_pos (by rw [a3.s 6, f1]; omega), r_fitWithout i1.1 o3 (by omega), Option.bind_some, w32_n1 (by omega), bitsA_s, o3.1]
      by_cases hq : (lone M1).testBit f = false
      · rw [if_pos (by have := hw.mpr hq; omega), or_step hb12 (by omega), if_pos (by simp [hq])]
      · rw [if_neg (by intro q; exact hq (hw.mp (by omega))), or_0 hb12, if_neg (by simpa using hq)]) (fn M1) 100000 0 0 (by omega) (by omega) rfl
    have e : f_X10_idle_L8 100000 0 0 M3 = f_X10_idle_L8 (n + 1) st ((fn M1 : Nat) : Int) M3 := e
    rw [e, f_X10_idle_L8, if_neg (by rw [a3.s 6, f1]; omega), hP]
