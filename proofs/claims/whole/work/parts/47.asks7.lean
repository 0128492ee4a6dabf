/-! the film, laws, bills -/
theorem c_filmL {A : Mem} {s N : Nat} {v : Nat → Nat} (hs : s < 4) (hN : N ≤ 10) (h33 : A 3 3 = (N : Int)) (hsort : A 34 s = 2) (hv : ∀ B : Mem, (∀ c, c ≠ 36 → B c = A c) → ∀ l : Nat, l < N → f_X3_had (l : Int) (f_X1_tongueOf 0 B) B = ((v l : Nat) : Int)) :
    ∃ A', f_X9_film_L43 (s : Int) 100000 0 A = some ((N : Int), A') ∧ agx [36] A A' ∧ ∀ j : Nat, A' 36 j = if 40 * s ≤ j ∧ j < 40 * s + N then ((v (j - 40 * s) : Nat) : Int) else A 36 j := by
  obtain ⟨k, A', e, g1, g2⟩ := loopN (N := N) (F := fun k i (M2 : Mem) => f_X9_film_L43 (s : Int) k (i : Int) M2) (P := fun i M2 => agx [36] A M2 ∧ ∀ j : Nat, M2 36 j = if 40 * s ≤ j ∧ j < 40 * s + i then ((v (j - 40 * s) : Nat) : Int) else A 36 j) (by
    intro k i M2 hi hP
    obtain ⟨p1, p2⟩ := hP
    have ev := hv M2 (fun c hc => p1 c (by simpa using hc)) i hi
    have ew : f_X4_write (s : Int) (i : Int) ((v i : Nat) : Int) M2 = some (0, mset M2 36 (40 * s + i) ((v i : Nat) : Int)) := by
      have e2 : f_X4_sortOf (s : Int) M2 = 2 := by rw [f_X4_sortOf, rd_n hs, p1 34 (by decide)]; exact hsort
      rw [f_X4_write, e2, if_neg (by decide), if_neg (by decide), w40 hs (by omega), wr_n (by omega)]
    refine ⟨mset M2 36 (40 * s + i) ((v i : Nat) : Int), ?_, p1.mset (by decide), fun j => ?_⟩
    · show f_X9_film_L43 (s : Int) (k + 1) (i : Int) M2 = f_X9_film_L43 (s : Int) k ((i + 1 : Nat) : Int) _
      rw [f_X9_film_L43, if_pos (by rw [p1 3 (by decide), h33]; omega), ev]
      refine ob_I ew ?_
      rw [w32_n1 (by omega)]
    · rw [mset_if, p2]
      by_cases e : j = 40 * s + i
      · rw [if_pos e, if_pos ⟨by omega, by omega⟩, e, Nat.add_sub_cancel_left]
      · rw [if_neg e]
        by_cases h1 : 40 * s ≤ j ∧ j < 40 * s + i
        · rw [if_pos h1, if_pos ⟨h1.1, by omega⟩]
        · rw [if_neg h1, if_neg (by omega)]) N 100000 0 A (by omega) (by omega) ⟨agx.refl, fun j => by rw [if_neg (by omega)]⟩
  have e : f_X9_film_L43 (s : Int) 100000 0 A = f_X9_film_L43 (s : Int) (k + 1) ((N : Nat) : Int) A' := e
  exact ⟨A', by rw [e, f_X9_film_L43, if_neg (by rw [g1 3 (by decide), h33]; omega), g1 3 (by decide), h33], g1, g2⟩
theorem r_filmL {B : Mem} {s N : Nat} {v : Nat → Nat} (hs : s < 4) (hN : N ≤ 10) (h0 : B 38 0 = (N : Int)) (hv : ∀ B' : Mem, (∀ c, c ≠ 50 → B' c = B c) → ∀ l : Nat, l < N → f_X10_hasIn (l : Int) (B' 58 0) B' = some ((v l : Nat) : Int)) :
    ∃ B', f_X10_film_L45 (s : Int) 100000 0 B = some ((N : Int), B') ∧ agx [50] B B' ∧ ∀ j : Nat, B' 50 j = if 40 * s ≤ j ∧ j < 40 * s + 40 then (if j < 40 * s + N then ((v (j - 40 * s) : Nat) : Int) else 0) else B 50 j := by
  obtain ⟨k, A', e, g1, g2⟩ := loopN (N := 40) (F := fun k i (M2 : Mem) => f_X10_film_L45 (s : Int) k (i : Int) M2) (P := fun i M2 => agx [50] B M2 ∧ ∀ j : Nat, M2 50 j = if 40 * s ≤ j ∧ j < 40 * s + i then (if j < 40 * s + N then ((v (j - 40 * s) : Nat) : Int) else 0) else B 50 j) (by
    intro k i M2 hi hP
    obtain ⟨p1, p2⟩ := hP
    have fin : ∀ x : Int, x = (if 40 * s + i < 40 * s + N then ((v i : Nat) : Int) else 0) → agx [50] B (mset M2 50 (40 * s + i) x) ∧ ∀ j : Nat, mset M2 50 (40 * s + i) x 50 j = if 40 * s ≤ j ∧ j < 40 * s + (i + 1) then (if j < 40 * s + N then ((v (j - 40 * s) : Nat) : Int) else 0) else B 50 j := by
      intro x hx
      refine ⟨p1.mset (by decide), fun j => ?_⟩
      rw [mset_if, p2]
      by_cases e : j = 40 * s + i
      · rw [if_pos e, if_pos ⟨by omega, by omega⟩, e, Nat.add_sub_cancel_left]; exact hx
      · rw [if_neg e]
        by_cases h1 : 40 * s ≤ j ∧ j < 40 * s + i
        · rw [if_pos h1, if_pos (show 40 * s ≤ j ∧ j < 40 * s + (i + 1) from ⟨h1.1, by omega⟩)]
        · rw [if_neg h1, if_neg (show ¬ (40 * s ≤ j ∧ j < 40 * s + (i + 1)) by omega)]
    have hc : M2 38 0 = (N : Int) := by rw [p1 38 (by decide)]; exact h0
    by_cases hi2 : i < N
    · have ev := hv M2 (fun c hc => p1 c (by simpa using hc)) i hi2
      refine ⟨mset M2 50 (40 * s + i) ((v i : Nat) : Int), ?_, fin _ (by rw [if_pos (by omega)])⟩
      show f_X10_film_L45 (s : Int) (k + 1) (i : Int) M2 = f_X10_film_L45 (s : Int) k ((i + 1 : Nat) : Int) _
      rw [f_X10_film_L45, if_pos (by omega), if_pos (by rw [hc]; omega), ev, Option.bind_some, w40' hs (by omega), if_pos ⟨by omega, by omega⟩, Int.toNat_natCast, w32_n1 (by omega)]
    · refine ⟨mset M2 50 (40 * s + i) 0, ?_, fin _ (by rw [if_neg (by omega)])⟩
      show f_X10_film_L45 (s : Int) (k + 1) (i : Int) M2 = f_X10_film_L45 (s : Int) k ((i + 1 : Nat) : Int) _
      rw [f_X10_film_L45, if_pos (by omega), if_neg (by rw [hc]; omega), w40' hs (by omega), if_pos ⟨by omega, by omega⟩, Int.toNat_natCast, w32_n1 (by omega)]) 40 100000 0 B (by omega) (by omega) ⟨agx.refl, fun j => by rw [if_neg (by omega)]⟩
  have e : f_X10_film_L45 (s : Int) 100000 0 B = f_X10_film_L45 (s : Int) (k + 1) ((40 : Nat) : Int) A' := e
  exact ⟨A', by rw [e, f_X10_film_L45, if_neg (by decide), g1 38 (by decide), h0], g1, g2⟩
theorem op_film {M : Mem} (h : Inv M) (x : Int) : OK2 (f_X9_film x) (f_X10_film x) M := by
  have hb2 : ∀ x : Int, f_X9_isSheet x = f_X9_within x 0 3 := fun _ => rfl
  by_cases h1 : f_X9_within x 0 3 = 0
  · exact OK2.no h (by rw [f_X9_film, hb2, if_pos h1]) (by rw [f_X10_film, in_w, if_pos h1])
  obtain ⟨s, rfl, hs⟩ := ish h1
  have hr : (0 : Int) ≤ (s : Int) ∧ (s : Int) < 4 := ⟨by omega, by omega⟩
  obtain ⟨M1, e1, a1, i1, c1, z1⟩ := h.fit
  have hlen := FT_len M1
  have l2 := i1.1.1.2.1
  have e33 : M1 3 3 = (ln M1 : Int) := by rw [i1.2.1.1.1, i1.1.1.1]
  by_cases hz : (FT M1).length = 0
  · obtain ⟨M3, e3, a3, o3⟩ := r_finds i1.1
    refine ⟨-3, M1, M3, ?_, ?_, i1.rq c1 a3⟩
    · rw [f_X9_film, hb2, if_neg h1]; exact ob_I e1 (by rw [if_pos (by rw [c1.1]; omega)])
    · rw [f_X10_film, in_w, if_neg h1]; exact ob_I e3 (by rw [if_pos (by rw [o3.1]; omega)])
  · have hz2 : 0 < (FT M1).length := by omega
    obtain ⟨MA, eA, a5, a6, a7, a8⟩ := c_become (A := M1) (s := s) (sort := 2) (n := M1 3 3) hs
    have hqA : ∀ c, c ≠ 34 → c ≠ 35 → c ≠ 36 → MA c = M1 c := fun c q1 q2 q3 => a5 c (by simp; exact ⟨q1, q2, q3⟩)
    obtain ⟨MB, eB, b1, b2⟩ := c_filmL (A := MA) (s := s) (N := ln M1) (v := fun l => hd M1 l ((FT M1).getD 0 0)) hs l2 (by rw [hqA 3 (by decide) (by decide) (by decide)]; exact e33) (by rw [a6 s, if_pos rfl]) (fun B hB l hl => by
      have e22 : f_X1_tongueOf 0 B = (((FT M1).getD 0 0 : Nat) : Int) := by
        have e0 := c_tongueOf c1 (k := 0) hz2
        rw [← show f_X1_tongueOf 0 M1 = _ from e0, f_X1_tongueOf, f_X1_tongueOf, hB 22 (by decide), hqA 22 (by decide) (by decide) (by decide)]
      have e6 := c_had i1.2.1.1 (l := l) (t := (FT M1).getD 0 0) (by omega) (FT_lt (getD_mem hz2))
      rw [e22, ← e6, f_X3_had, f_X3_had, hB 6 (by decide), hqA 6 (by decide) (by decide) (by decide)])
    have hB34 : MB 34 = MA 34 := b1 34 (by decide)
    have hB35 : MB 35 = MA 35 := b1 35 (by decide)
    have hBo : ∀ c, c ≠ 34 → c ≠ 35 → c ≠ 36 → MB c = M1 c := fun c q1 q2 q3 => (b1 c (by simpa using q3)).trans (hqA c q1 q2 q3)
    have haB : agp (dd [34, 35, 36] []) M1 MB := agp.x (agp.x agp.refl a5 (by intro c hc j; simp at hc; rcases hc with rfl | rfl | rfl <;> rfl)) b1 (by intro c hc j; simp at hc; subst hc; rfl)
    have hRA : RA MB := by
      have hR := i1.1
      exact ⟨(RLn_e (haB.p 38 0) (haB.c 39) (haB.c 40)).mpr hR.1, (RFa_e (haB.p 38 6) (haB.c 42)).mpr hR.2.1, (TB_e (haB.c 43)).mpr hR.2.2.1, (RTx_e (haB.p 38 13) (haB.p 38 14) (haB.c 45) (haB.c 46)).mpr hR.2.2.2⟩
    obtain ⟨M3, e3, a3, o3⟩ := r_finds hRA
    have eln : ln MB = ln M1 := by unfold ln; rw [haB.p 38 0]
    have ehd : hd MB = hd M1 := hd_e (haB.c 39)
    have elw : lawb MB = lawb M1 := lawb_e (haB.p 38 0) (haB.p 38 14) (haB.c 39) (haB.c 40) (haB.c 45) (haB.c 46)
    have ebk : bk MB = bk M1 := by
      funext t; unfold bk
      have : fn MB = fn M1 := by unfold fn; rw [haB.p 38 6]
      rw [this]; exact bkA_e (haB.c 39) _ (fun j _ => by rw [haB.c 42])
    have eFT : FT MB = FT M1 := by unfold FT FTA; have : fits MB = fits M1 := by funext t; unfold fits; rw [elw, ebk]
                                   rw [this]
    have e380 : M3 38 0 = (ln M1 : Int) := by rw [a3.s 0, haB.p 38 0, i1.1.1.1]
    have hz3 : 0 < (FT MB).length := by rw [eFT]; exact hz2
    have hD : agx [48, 49] M3 (mset (mset M3 48 s 2) 49 s (M3 38 0)) := (agx.refl.mset (by decide)).mset (by decide)
    have h48 : ∀ j, mset (mset M3 48 s 2) 49 s (M3 38 0) 48 j = if j = s then 2 else M3 48 j := fun j => by rw [mset_c (by decide), mset_if]
    have h49 : ∀ j, mset (mset M3 48 s 2) 49 s (M3 38 0) 49 j = if j = s then M3 38 0 else M3 49 j := fun j => by rw [mset_if]; rfl
    generalize hMD : mset (mset M3 48 s 2) 49 s (M3 38 0) = MD at hD h48 h49
    obtain ⟨ME, eE, d1, d2⟩ := r_filmL (B := MD) (s := s) (N := ln M1) (v := fun l => hd M1 l ((FT M1).getD 0 0)) hs l2 (by rw [hD 38 (by decide)]; exact e380) (fun B' hB' l hl => by
      have hag : agx [48, 49, 50] M3 B' := fun c hc => by
        simp at hc
        rw [hB' c hc.2.2, hD c (by simp; exact ⟨hc.1, hc.2.1⟩)]
      have e58 : B' 58 0 = (((FT M1).getD 0 0 : Nat) : Int) := by rw [hag 58 (by decide), o3.2.1 0 hz3, eFT]
      have h39 := i1.1.1.2.2 l (by omega)
      rw [e58]
      exact r_hasIn (sg := sgn M1 l) (by omega) (FT_lt (getD_mem hz2)) (by rw [hag 39 (by decide), a3.c 39 (by decide), haB.c 39]; exact h39.1) h39.2.1 (by
        have : B' 43 = M1 43 := by rw [hag 43 (by decide), a3.c 43 (by decide), haB.c 43]
        exact (TB_e this).mpr i1.1.2.2.1))
    refine ⟨(ln M1 : Int), MB, ME, ?_, ?_, ?_⟩
    · rw [f_X9_film, hb2, if_neg h1]
      refine ob_I e1 ?_
      rw [if_neg (by rw [c1.1]; omega)]
      exact ob_I eA eB
    · rw [f_X10_film, in_w, if_neg h1]
      refine ob_I e3 ?_
      rw [if_neg (by rw [o3.1]; omega), if_pos hr, if_pos hr, Int.toNat_natCast, mset_c (d := 38) (by decide), hMD]
      exact eE
    · -- the mixed memory agrees with the first but for the sheets and scratch
      have hX : ∀ c j, dd [34, 35, 36, 48, 49, 50] [] c j = false → SR c j = false → ME c j = M1 c j := by
        intro c j hd1 hd2
        have hne : c ≠ 34 ∧ c ≠ 35 ∧ c ≠ 36 ∧ c ≠ 48 ∧ c ≠ 49 ∧ c ≠ 50 := by
          unfold dd at hd1
          simp at hd1
          exact ⟨hd1.1, hd1.2.1, hd1.2.2.1, hd1.2.2.2.1, hd1.2.2.2.2.1, hd1.2.2.2.2.2⟩
        obtain ⟨n1, n2, n3, n4, n5, n6⟩ := hne
        rw [d1 c (by simpa using n6), hD c (by simp; exact ⟨n4, n5⟩), a3 c j hd2, hBo c n1 n2 n3]
      have hM : Inv (fun c j => if SR c j then ME c j else M1 c j) := i1.rq c1 (fun c j hj => by simp [hj])
      have e36 : ME 36 = MB 36 := by rw [d1 36 (by decide), hD 36 (by decide), a3.c 36 (by decide)]
      refine Sh.inv hM (fun c j hj => ?_) ⟨fun j hj => ?_, fun j hj => ?_⟩
      · by_cases hsr : SR c j = true
        · simp [hsr]
        · simp only [hsr]
          exact hX c j hj (Bool.eq_false_iff.mpr hsr)
      · obtain ⟨s1, s2, s3, s4, s5, s6⟩ := i1.2.2.2.2.2.1.1 j hj
        have q34 : ME 34 j = if j = s then 2 else M1 34 j := by rw [d1 34 (by decide), hD 34 (by decide), a3.c 34 (by decide), hB34]; exact a6 j
        have q35 : ME 35 j = if j = s then M1 3 3 else M1 35 j := by rw [d1 35 (by decide), hD 35 (by decide), a3.c 35 (by decide), hB35]; exact a7 j
        have q48 : ME 48 j = if j = s then 2 else M1 48 j := by rw [d1 48 (by decide), h48, a3.c 48 (by decide), hBo 48 (by decide) (by decide) (by decide)]
        have q49 : ME 49 j = if j = s then M3 38 0 else M1 49 j := by rw [d1 49 (by decide), h49, a3.c 49 (by decide), hBo 49 (by decide) (by decide) (by decide)]
        rw [q34, q35, q48, q49, e380, e33]
        by_cases e : j = s
        · rw [if_pos e, if_pos e, if_pos e, if_pos e]; exact ⟨rfl, rfl, by decide, by decide, by omega, by omega⟩
        · rw [if_neg e, if_neg e, if_neg e, if_neg e]; exact ⟨s1, s2, s3, s4, s5, s6⟩
      · have q50 : MD 50 j = M1 50 j := by rw [hD 50 (by decide), a3.c 50 (by decide), hBo 50 (by decide) (by decide) (by decide)]
        have h36 := i1.2.2.2.2.2.1.2 j hj
        rw [e36, b2 j, d2 j, q50, a8 j, h36]
        by_cases q1 : 40 * s ≤ j ∧ j < 40 * s + ln M1
        · rw [if_pos q1, if_pos (show 40 * s ≤ j ∧ j < 40 * s + 40 from ⟨q1.1, by omega⟩), if_pos q1.2]
        · rw [if_neg q1]
          by_cases q2 : 40 * s ≤ j ∧ j < 40 * s + 40
          · rw [if_pos q2, if_pos q2, if_neg (show ¬ j < 40 * s + ln M1 by omega)]
          · rw [if_neg q2, if_neg q2]
/-! by which laws any fits -/
theorem anyT_FT {M M' : Mem} {t : Nat} (h0 : M' 38 0 = M 38 0) (h6 : M' 38 6 = M 38 6) (h14 : M' 38 14 = (t : Int)) (h39 : M' 39 = M 39) (h40 : M' 40 = M 40) (h42 : M' 42 = M 42) (h45 : M' 45 = M 45) (h46 : M' 46 = M 46) : 0 < (FT M').length ↔ anyT M t = true := by
  have eln : ln M' = ln M := by unfold ln; rw [h0]
  have erl : rl M' = t := by unfold rl; rw [h14]; omega
  have ehd : hd M' = hd M := hd_e h39
  have ePR : PR M' = PR M := by funext l; unfold PR; rw [h40]
  have esy : sy M' = sy M := by funext t p a b c d e; unfold sy txc txb; rw [h45, h46]
  have emb : mb M' = mbT M t := by funext l s; unfold mb mbT; rw [esy, erl, ePR]
  have elw : ∀ q, lawb M' q = lawT M t q := by intro q; unfold lawb lawT lawA lawV; rw [eln, emb, ehd]
  have ebk : bk M' = bk M := by
    funext q; unfold bk
    have : fn M' = fn M := by unfold fn; rw [h6]
    rw [this]; exact bkA_e h39 _ (fun j _ => by rw [h42])
  unfold anyT
  rw [List.any_eq_true]
  constructor
  · intro q
    obtain ⟨x, hm⟩ : ∃ x, x ∈ FT M' := ⟨_, getD_mem q⟩
    have h1 := FT_lt hm
    unfold FT FTA at hm
    have h2 := (List.mem_filter.mp hm).2
    refine ⟨x, List.mem_range.mpr h1, ?_⟩
    unfold fits at h2
    rw [elw, ebk] at h2
    exact h2
  · rintro ⟨q, hq, h2⟩
    have : q ∈ FT M' := by
      unfold FT FTA
      rw [List.mem_filter]
      exact ⟨hq, by unfold fits; rw [elw, ebk]; exact h2⟩
    exact List.length_pos_of_mem this
theorem op_laws {M : Mem} (h : Inv M) : OK2 f_X9_laws f_X10_laws M := by
  obtain ⟨hL, hF, hT, ⟨t1, t2, t3, t4, t5, t6⟩⟩ := id h.1
  have hk := h.2.1.2.2
  have e125 : M 12 5 = (tn M : Int) := by rw [hk.1, t1]
  obtain ⟨n, ⟨sa, M1⟩, e, p1, p2⟩ := loopN (N := tn M) (F := fun n i (st : Int × Mem) => f_X9_laws_L4 n st.1 (i : Int) st.2) (P := fun i st => st.1 = ((bitsA (anyT M) i : Nat) : Int) ∧ agx [19, 20, 25] M st.2) (by
    intro n i ⟨sa, M1⟩ hi ⟨q1, q2⟩
    have w1 : sa = ((bitsA (anyT M) i : Nat) : Int) := q1
    have w2 : agx [19, 20, 25] M M1 := q2
    clear q1 q2
    subst w1
    have hq : agq M M1 := agq.of w2 (by decide)
    have hb12 := bitsA_12 (f := anyT M) (i := i) (by omega)
    obtain ⟨M2, e2, g2⟩ := c_anyBy (M := M1) (r := i) (by rw [hq.eRA]; exact h.1) (by rw [hq.eCA]; exact h.2.1) (by rw [hq.etn]; exact hi)
    have ea : anyT M1 = anyT M := by funext r; unfold anyT; rw [hq.elawT, hq.ebk]
    rw [ea] at e2
    refine ⟨(((bitsA (anyT M) (i + 1) : Nat) : Int), M2), ?_, rfl, w2.trans g2⟩
    show f_X9_laws_L4 (n + 1) _ (i : Int) M1 = f_X9_laws_L4 n _ ((i + 1 : Nat) : Int) M2
    rw [f_X9_laws_L4, if_pos (by rw [w2 12 (by decide), e125]; omega)]
    refine ob_I e2 ?_
    rw [w32_n1 (by omega), bitsA_s]
    by_cases hb : anyT M i = true
    · rw [if_neg (by rw [bi_0, hb]; decide), or_step hb12 (by omega), if_pos hb]
    · rw [if_pos (by rw [bi_0]; exact Bool.eq_false_iff.mpr hb), if_neg hb]) (tn M) 100000 0 (0, M) (by omega) (by omega) ⟨rfl, agx.refl⟩
  have e : f_X9_laws_L4 100000 0 0 M = f_X9_laws_L4 (n + 1) sa ((tn M : Nat) : Int) M1 := e
  have p1 : sa = ((bitsA (anyT M) (tn M) : Nat) : Int) := p1
  have p2 : agx [19, 20, 25] M M1 := p2
  have hq : agq M M1 := agq.of p2 (by decide)
  have i1 : Inv M1 := h.q hq (fun q => (h.2.2.2.2.2.2.2 (by rw [← p2 0 (by decide)]; exact q)).of hq p2 (by decide))
  have ea : anyT M1 = anyT M := by funext r; unfold anyT; rw [hq.elawT, hq.ebk]
  -- the reference
  obtain ⟨n2, ⟨sb, M2⟩, e2, r1, r2⟩ := loopN (N := tn M) (F := fun n i (st : Int × Mem) => f_X10_laws_L9 (M1 38 14) n st.1 (i : Int) st.2) (P := fun i st => st.1 = ((bitsA (anyT M) i : Nat) : Int) ∧ ∀ c j : Nat, SR c j = false → ¬ (c = 38 ∧ j = 14) → st.2 c j = M1 c j) (by
    intro n i ⟨sb, M2⟩ hi ⟨q1, q2⟩
    have w1 : sb = ((bitsA (anyT M) i : Nat) : Int) := q1
    have w2 : ∀ c j : Nat, SR c j = false → ¬ (c = 38 ∧ j = 14) → M2 c j = M1 c j := q2
    clear q1 q2
    subst w1
    have hb12 := bitsA_12 (f := anyT M) (i := i) (by omega)
    have hcc : ∀ c : Nat, c ≠ 38 → (c < 53 ∨ 62 < c) → mset M2 38 14 (i : Int) c = M1 c := fun c hc hc2 => by
      rw [mset_c hc]; funext j
      refine w2 c j ?_ (fun q => hc q.1)
      unfold SR
      have e1 : (c == 38) = false := by simp; omega
      have e2 : (decide (53 ≤ c) && decide (c ≤ 62)) = false := by simp; omega
      rw [e1, e2]; rfl
    have hss : ∀ j : Nat, j ≠ 14 → SR 38 j = false → mset M2 38 14 (i : Int) 38 j = M1 38 j := fun j hj hj2 => by
      rw [mset_i hj]; exact w2 38 j hj2 (fun q => hj q.2)
    have h14 : mset M2 38 14 (i : Int) 38 14 = (i : Int) := mset_at _ _ _ _
    have hRA : RA (mset M2 38 14 (i : Int)) := by
      have hR := i1.1
      have et : tn (mset M2 38 14 (i : Int)) = tn M := by unfold tn; rw [hss 13 (by decide) (by rfl), p2 38 (by decide)]
      have er : rl (mset M2 38 14 (i : Int)) = i := by unfold rl; rw [h14]; omega
      refine ⟨(RLn_e (hss 0 (by decide) (by rfl)) (hcc 39 (by decide) (by decide)) (hcc 40 (by decide) (by decide))).mpr hR.1, (RFa_e (hss 6 (by decide) (by rfl)) (hcc 42 (by decide) (by decide))).mpr hR.2.1, (TB_e (hcc 43 (by decide) (by decide))).mpr hR.2.2.1, ?_, ?_, ?_, ?_, ?_, ?_⟩
      · rw [et, hss 13 (by decide) (by rfl), p2 38 (by decide)]; exact t1
      · rw [et]; exact t2
      · rw [et]; exact t3
      · rw [er]; exact h14
      · rw [er, et]; exact hi
      · rw [et, TX_e (M := M) ((hcc 45 (by decide) (by decide)).trans (p2 45 (by decide))) ((hcc 46 (by decide) (by decide)).trans (p2 46 (by decide)))]; exact t6
    obtain ⟨M3, e3, a3, o3⟩ := r_finds hRA
    have hany := anyT_FT (M := M1) (M' := mset M2 38 14 (i : Int)) (t := i) (hss 0 (by decide) (by rfl)) (hss 6 (by decide) (by rfl)) h14 (hcc 39 (by decide) (by decide)) (hcc 40 (by decide) (by decide)) (hcc 42 (by decide) (by decide)) (hcc 45 (by decide) (by decide)) (hcc 46 (by decide) (by decide))
    rw [ea] at hany
    refine ⟨(((bitsA (anyT M) (i + 1) : Nat) : Int), M3), ?_, rfl, fun c j hj hne => ?_⟩
    · show f_X10_laws_L9 (M1 38 14) (n + 1) _ (i : Int) M2 = f_X10_laws_L9 (M1 38 14) n _ ((i + 1 : Nat) : Int) M3
      rw [f_X10_laws_L9, if_pos (by rw [w2 38 13 (by rfl) (by decide), p2 38 (by decide), t1]; omega)]
      refine ob_I e3 ?_
      rw [w32_n1 (by omega), bitsA_s, o3.1]
      by_cases hb : anyT M i = true
      · have := hany.mpr hb
        rw [if_pos (by omega), or_step hb12 (by omega), if_pos hb]
      · rw [if_neg (fun q => hb (hany.mp (by omega))), or_0 hb12, if_neg hb]
    · show M3 c j = M1 c j
      rw [a3 c j hj]
      by_cases hc : c = 38
      · subst hc
        exact hss j (fun q => hne ⟨rfl, q⟩) hj
      · rw [mset_c hc]; exact w2 c j hj hne) (tn M) 100000 0 (0, M1) (by omega) (by omega) ⟨rfl, fun _ _ _ _ => rfl⟩
  have e2 : f_X10_laws_L9 (M1 38 14) 100000 0 0 M1 = f_X10_laws_L9 (M1 38 14) (n2 + 1) sb ((tn M : Nat) : Int) M2 := e2
  have r1 : sb = ((bitsA (anyT M) (tn M) : Nat) : Int) := r1
  have r2 : ∀ c j : Nat, SR c j = false → ¬ (c = 38 ∧ j = 14) → M2 c j = M1 c j := r2
  have hag : agr M1 (mset M2 38 14 (M1 38 14)) := fun c j hj => by
    by_cases hc : c = 38 ∧ j = 14
    · obtain ⟨rfl, rfl⟩ := hc; rw [mset_at]
    · by_cases hc1 : c = 38
      · subst hc1
        rw [mset_i (fun q => hc ⟨rfl, q⟩)]; exact r2 38 j hj hc
      · rw [mset_c hc1]; exact r2 c j hj hc
  refine ⟨((bitsA (anyT M) (tn M) : Nat) : Int), M1, mset M2 38 14 (M1 38 14), ?_, ?_, i1.q (agq.a hag) (fun q => (i1.2.2.2.2.2.2.2 (by rw [← hag.c 0 (by decide)]; exact q)).r hag)⟩
  · rw [f_X9_laws, e, f_X9_laws_L4, if_neg (by rw [p2 12 (by decide), e125]; omega), p1]
  · rw [f_X10_laws, e2, f_X10_laws_L9, if_neg (by rw [r2 38 13 (by rfl) (by decide), p2 38 (by decide), t1]; omega), r1]
