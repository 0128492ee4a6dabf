/-! the tape, the image, lines -/
def bt5 (a b c d e : Int) (i : Nat) : Int := if i = 0 then a else if i = 1 then b else if i = 2 then c else if i = 3 then d else e
theorem c_feedL {M : Mem} {a b c d e : Int} {n s : Nat} (hs : M 13 3 = (s : Int)) (hn : s + n ≤ 160) :
    ∃ M', f_X9_feed_L74 (n : Int) a b c d e 100000 0 M = some (((s + n : Nat) : Int), M') ∧ agp (dd [14] [(13, 3)]) M M' ∧ M' 13 3 = ((s + n : Nat) : Int) ∧ ∀ j : Nat, M' 14 j = if s ≤ j ∧ j < s + n then bt5 a b c d e (j - s) else M 14 j := by
  obtain ⟨k, M', e0, g1, g2, g3⟩ := loopN (N := n) (F := fun k i (M2 : Mem) => f_X9_feed_L74 (n : Int) a b c d e k (i : Int) M2) (P := fun i M2 => agp (dd [14] [(13, 3)]) M M2 ∧ M2 13 3 = ((s + i : Nat) : Int) ∧ ∀ j : Nat, M2 14 j = if s ≤ j ∧ j < s + i then bt5 a b c d e (j - s) else M 14 j) (by
    intro k i M2 hi hP
    obtain ⟨p1, p2, p3⟩ := hP
    have hadd : ∀ x : Int, f_X5_add x M2 = some (0, mset (mset M2 14 (s + i) x) 13 3 ((s + (i + 1) : Nat) : Int)) := by
      intro x
      rw [f_X5_add, if_pos (by rw [p2]; omega), p2, wr_n (by omega), mset_c (by decide), p2, w32_n1 (by omega)]; rfl
    have fin : ∀ x : Int, x = bt5 a b c d e i → agp (dd [14] [(13, 3)]) M (mset (mset M2 14 (s + i) x) 13 3 ((s + (i + 1) : Nat) : Int)) ∧ mset (mset M2 14 (s + i) x) 13 3 ((s + (i + 1) : Nat) : Int) 13 3 = ((s + (i + 1) : Nat) : Int) ∧ ∀ j : Nat, mset (mset M2 14 (s + i) x) 13 3 ((s + (i + 1) : Nat) : Int) 14 j = if s ≤ j ∧ j < s + (i + 1) then bt5 a b c d e (j - s) else M 14 j := by
      intro x hx
      refine ⟨(p1.mset (by rfl)).mset (by rfl), mset_at _ _ _ _, fun j => ?_⟩
      rw [mset_c (by decide)]
      by_cases ej : j = s + i
      · subst ej; rw [mset_at, if_pos ⟨by omega, by omega⟩, hx, Nat.add_sub_cancel_left]
      · rw [mset_i ej, p3 j]
        by_cases h1 : s ≤ j ∧ j < s + i
        · rw [if_pos h1, if_pos ⟨h1.1, by omega⟩]
        · rw [if_neg h1, if_neg (by omega)]
    have ei : w32 ((i : Int) + 1) = ((i + 1 : Nat) : Int) := w32_n1 (by omega)
    show ∃ st', f_X9_feed_L74 (n : Int) a b c d e (k + 1) (i : Int) M2 = f_X9_feed_L74 (n : Int) a b c d e k ((i + 1 : Nat) : Int) st' ∧ _
    rw [f_X9_feed_L74, if_pos (by omega), ei]
    by_cases h0 : i = 0
    · rw [if_pos (by omega)]; exact ⟨_, ob_I (hadd a) rfl, fin a (by unfold bt5; rw [if_pos h0])⟩
    rw [if_neg (by omega)]
    by_cases h1 : i = 1
    · rw [if_pos (by omega)]; exact ⟨_, ob_I (hadd b) rfl, fin b (by unfold bt5; rw [if_neg h0, if_pos h1])⟩
    rw [if_neg (by omega)]
    by_cases h2 : i = 2
    · rw [if_pos (by omega)]; exact ⟨_, ob_I (hadd c) rfl, fin c (by unfold bt5; rw [if_neg h0, if_neg h1, if_pos h2])⟩
    rw [if_neg (by omega)]
    by_cases h3 : i = 3
    · rw [if_pos (by omega)]; exact ⟨_, ob_I (hadd d) rfl, fin d (by unfold bt5; rw [if_neg h0, if_neg h1, if_neg h2, if_pos h3])⟩
    rw [if_neg (by omega)]
    exact ⟨_, ob_I (hadd e) rfl, fin e (by unfold bt5; rw [if_neg h0, if_neg h1, if_neg h2, if_neg h3])⟩) n 100000 0 M (by omega) (by omega) ⟨agp.refl, by rw [hs]; rfl, fun j => by rw [if_neg (by omega)]⟩
  have e1 : f_X9_feed_L74 (n : Int) a b c d e 100000 0 M = f_X9_feed_L74 (n : Int) a b c d e (k + 1) ((n : Nat) : Int) M' := e0
  exact ⟨M', by rw [e1, f_X9_feed_L74, if_neg (by omega), g2], g1, g2, g3⟩
theorem r_feedL {M : Mem} {a b c d e : Int} {n s : Nat} (hs : M 38 10 = (s : Int)) (hn : s + n ≤ 160) :
    ∃ M', f_X10_feed_L68 (n : Int) a b c d e 100000 0 M = some (((s + n : Nat) : Int), M') ∧ agp (dd [44] [(38, 10)]) M M' ∧ M' 38 10 = ((s + n : Nat) : Int) ∧ ∀ j : Nat, M' 44 j = if s ≤ j ∧ j < s + n then bt5 a b c d e (j - s) else M 44 j := by
  obtain ⟨k, M', e0, g1, g2, g3⟩ := loopN (N := n) (F := fun k i (M2 : Mem) => f_X10_feed_L68 (n : Int) a b c d e k (i : Int) M2) (P := fun i M2 => agp (dd [44] [(38, 10)]) M M2 ∧ M2 38 10 = ((s + i : Nat) : Int) ∧ ∀ j : Nat, M2 44 j = if s ≤ j ∧ j < s + i then bt5 a b c d e (j - s) else M 44 j) (by
    intro k i M2 hi hP
    obtain ⟨p1, p2, p3⟩ := hP
    have hr : (0 : Int) ≤ M2 38 10 ∧ M2 38 10 < 160 := by rw [p2]; exact ⟨by omega, by omega⟩
    have hadd : ∀ x : Int, mset (mset M2 44 (M2 38 10).toNat x) 38 10 (w32 ((mset M2 44 (M2 38 10).toNat x) 38 10 + 1)) = mset (mset M2 44 (s + i) x) 38 10 ((s + (i + 1) : Nat) : Int) := by
      intro x
      rw [mset_c (d := 38) (by decide), p2, Int.toNat_natCast, w32_n1 (by omega)]; rfl
    have fin : ∀ x : Int, x = bt5 a b c d e i → agp (dd [44] [(38, 10)]) M (mset (mset M2 44 (s + i) x) 38 10 ((s + (i + 1) : Nat) : Int)) ∧ mset (mset M2 44 (s + i) x) 38 10 ((s + (i + 1) : Nat) : Int) 38 10 = ((s + (i + 1) : Nat) : Int) ∧ ∀ j : Nat, mset (mset M2 44 (s + i) x) 38 10 ((s + (i + 1) : Nat) : Int) 44 j = if s ≤ j ∧ j < s + (i + 1) then bt5 a b c d e (j - s) else M 44 j := by
      intro x hx
      refine ⟨(p1.mset (by rfl)).mset (by rfl), mset_at _ _ _ _, fun j => ?_⟩
      rw [mset_c (by decide)]
      by_cases ej : j = s + i
      · subst ej; rw [mset_at, if_pos ⟨by omega, by omega⟩, hx, Nat.add_sub_cancel_left]
      · rw [mset_i ej, p3 j]
        by_cases h1 : s ≤ j ∧ j < s + i
        · rw [if_pos h1, if_pos ⟨h1.1, by omega⟩]
        · rw [if_neg h1, if_neg (by omega)]
    have ei : w32 ((i : Int) + 1) = ((i + 1 : Nat) : Int) := w32_n1 (by omega)
    show ∃ st', f_X10_feed_L68 (n : Int) a b c d e (k + 1) (i : Int) M2 = f_X10_feed_L68 (n : Int) a b c d e k ((i + 1 : Nat) : Int) st' ∧ _
    rw [f_X10_feed_L68, if_pos (by omega), ei]
    by_cases h0 : i = 0
    · rw [if_pos (by omega), if_pos hr, hadd]; exact ⟨_, rfl, fin a (by unfold bt5; rw [if_pos h0])⟩
    rw [if_neg (by omega)]
    by_cases h1 : i = 1
    · rw [if_pos (by omega), if_pos hr, hadd]; exact ⟨_, rfl, fin b (by unfold bt5; rw [if_neg h0, if_pos h1])⟩
    rw [if_neg (by omega)]
    by_cases h2 : i = 2
    · rw [if_pos (by omega), if_pos hr, hadd]; exact ⟨_, rfl, fin c (by unfold bt5; rw [if_neg h0, if_neg h1, if_pos h2])⟩
    rw [if_neg (by omega)]
    by_cases h3 : i = 3
    · rw [if_pos (by omega), if_pos hr, hadd]; exact ⟨_, rfl, fin d (by unfold bt5; rw [if_neg h0, if_neg h1, if_neg h2, if_pos h3])⟩
    rw [if_neg (by omega), if_pos hr, hadd]
    exact ⟨_, rfl, fin e (by unfold bt5; rw [if_neg h0, if_neg h1, if_neg h2, if_neg h3])⟩) n 100000 0 M (by omega) (by omega) ⟨agp.refl, by rw [hs]; rfl, fun j => by rw [if_neg (by omega)]⟩
  have e1 : f_X10_feed_L68 (n : Int) a b c d e 100000 0 M = f_X10_feed_L68 (n : Int) a b c d e (k + 1) ((n : Nat) : Int) M' := e0
  exact ⟨M', by rw [e1, f_X10_feed_L68, if_neg (by omega), g2], g1, g2, g3⟩
theorem bt5_r {a b c d e : Int} (ha : 0 ≤ a ∧ a ≤ 255) (hb : 0 ≤ b ∧ b ≤ 255) (hc : 0 ≤ c ∧ c ≤ 255) (hd : 0 ≤ d ∧ d ≤ 255) (he : 0 ≤ e ∧ e ≤ 255) (i : Nat) : 0 ≤ bt5 a b c d e i ∧ bt5 a b c d e i ≤ 255 := by
  unfold bt5
  split
  · exact ha
  · split
    · exact hb
    · split
      · exact hc
      · split
        · exact hd
        · exact he
theorem op_feed {M : Mem} (h : Inv M) (n a b c d e : Int) : OK2 (f_X9_feed n a b c d e) (f_X10_feed n a b c d e) M := by
  have hb : ∀ x : Int, f_X10_isByte x = f_X9_within x 0 255 := fun _ => rfl
  have hb2 : ∀ x : Int, f_X9_isByte x = f_X9_within x 0 255 := fun _ => rfl
  by_cases h1 : f_X9_within n 1 5 = 0
  · exact OK2.no h (by rw [f_X9_feed, if_pos h1]) (by rw [f_X10_feed, in_w, if_pos h1])
  by_cases h2 : f_X9_within a 0 255 = 0
  · exact OK2.no h (by rw [f_X9_feed, if_neg h1, hb2, if_pos h2]) (by rw [f_X10_feed, in_w, if_neg h1, hb, if_pos h2])
  by_cases h3 : f_X9_within b 0 255 = 0
  · exact OK2.no h (by rw [f_X9_feed, if_neg h1, hb2, if_neg h2, hb2, if_pos h3]) (by rw [f_X10_feed, in_w, if_neg h1, hb, if_neg h2, hb, if_pos h3])
  by_cases h4 : f_X9_within c 0 255 = 0
  · exact OK2.no h (by rw [f_X9_feed, if_neg h1, hb2, if_neg h2, hb2, if_neg h3, hb2, if_pos h4]) (by rw [f_X10_feed, in_w, if_neg h1, hb, if_neg h2, hb, if_neg h3, hb, if_pos h4])
  by_cases h5 : f_X9_within d 0 255 = 0
  · exact OK2.no h (by rw [f_X9_feed, if_neg h1, hb2, if_neg h2, hb2, if_neg h3, hb2, if_neg h4, hb2, if_pos h5]) (by rw [f_X10_feed, in_w, if_neg h1, hb, if_neg h2, hb, if_neg h3, hb, if_neg h4, hb, if_pos h5])
  by_cases h6 : f_X9_within e 0 255 = 0
  · exact OK2.no h (by rw [f_X9_feed, if_neg h1, hb2, if_neg h2, hb2, if_neg h3, hb2, if_neg h4, hb2, if_neg h5, hb2, if_pos h6]) (by rw [f_X10_feed, in_w, if_neg h1, hb, if_neg h2, hb, if_neg h3, hb, if_neg h4, hb, if_neg h5, hb, if_pos h6])
  obtain ⟨hR, hA, hG, ⟨p1, p2, p3, p4⟩, hI, hS, hW, hC⟩ := id h
  have b1 := h1
  have b2 := h2
  have b3 := h3
  have b4 := h4
  have b5 := h5
  have b6 := h6
  rw [wi_0] at b1 b2 b3 b4 b5 b6
  obtain ⟨k, rfl⟩ : ∃ k : Nat, n = (k : Int) := ⟨n.toNat, by omega⟩
  obtain ⟨s, hs⟩ : ∃ s : Nat, M 38 10 = (s : Int) := ⟨(M 38 10).toNat, by omega⟩
  have hs2 : M 13 3 = (s : Int) := by rw [p1, hs]
  by_cases hf : 160 < s + k
  · exact OK2.no h (by rw [f_X9_feed, if_neg h1, hb2, if_neg h2, hb2, if_neg h3, hb2, if_neg h4, hb2, if_neg h5, hb2, if_neg h6, hs2, w32_id (by omega) (by omega), if_pos (by omega)]) (by rw [f_X10_feed, in_w, if_neg h1, hb, if_neg h2, hb, if_neg h3, hb, if_neg h4, hb, if_neg h5, hb, if_neg h6, hs, w32_id (by omega) (by omega), if_pos (by omega)])
  · obtain ⟨M1, e1, a1, a2, a3⟩ := c_feedL (a := a) (b := b) (c := c) (d := d) (e := e) (n := k) hs2 (by omega)
    obtain ⟨M2, e2, d1, d2, d3⟩ := r_feedL (M := M1) (a := a) (b := b) (c := c) (d := d) (e := e) (n := k) (s := s) (by rw [a1.p 38 10]; exact hs) (by omega)
    have ha : agp (dd [14, 44] [(13, 3), (38, 10)]) M M2 := a1.dm.trans d1.dm
    refine ⟨((s + k : Nat) : Int), M1, M2, ?_, ?_, ?_⟩
    · rw [f_X9_feed, if_neg h1, hb2, if_neg h2, hb2, if_neg h3, hb2, if_neg h4, hb2, if_neg h5, hb2, if_neg h6, hs2, w32_id (by omega) (by omega), if_neg (by omega)]; exact e1
    · rw [f_X10_feed, in_w, if_neg h1, hb, if_neg h2, hb, if_neg h3, hb, if_neg h4, hb, if_neg h5, hb, if_neg h6, a1.p 38 10, hs, w32_id (by omega) (by omega), if_neg (by omega)]; exact e2
    · refine ⟨⟨(RLn_e (ha.p 38 0) (ha.c 39) (ha.c 40)).mpr hR.1, (RFa_e (ha.p 38 6) (ha.c 42)).mpr hR.2.1, (TB_e (ha.c 43)).mpr hR.2.2.1, (RTx_e (ha.p 38 13) (ha.p 38 14) (ha.c 45) (ha.c 46)).mpr hR.2.2.2⟩,
        ⟨(CLn_e (ha.p 3 3) (ha.p 38 0) (ha.c 4) (ha.c 39) (ha.c 5) (ha.c 40) (ha.c 6) (ha.c 2)).mpr hA.1, (CFa_e (ha.p 7 4) (ha.p 38 6) (ha.c 8) (ha.c 9) (ha.c 10) (ha.c 11) (ha.c 42)).mpr hA.2.1, (CTx_e (ha.p 12 5) (ha.p 38 13) (ha.p 0 11) (ha.p 38 14) (ha.c 45) (ha.c 46) (ha.c 17) (ha.c 18)).mpr hA.2.2⟩,
        (Gs_e (ha.p 0 9) (ha.p 38 3) (ha.c 37) (ha.c 41) (ha.p 0 10) (ha.p 38 5)).mpr hG, ⟨?_, ?_, ?_, fun j hj => ?_⟩, (Im_e (ha.c 31) (ha.p 38 15) (ha.p 38 16) (ha.p 38 17) (ha.p 38 18) (ha.p 38 19) (ha.p 38 20) (ha.c 32) (ha.c 47) (ha.p 38 0) (ha.p 38 3) (ha.p 38 6) (ha.p 38 13)).mpr hI, (Sh_e (ha.c 34) (ha.c 48) (ha.c 35) (ha.c 49) (ha.c 36) (ha.c 50)).mpr hS, (WD_e (ha.c 52)).mpr hW, fun q => ?_⟩
      · rw [d1.p 13 3, a2, d2]
      · rw [d2]; omega
      · rw [d2]; omega
      · rw [d1.c 14, a3 j, d3 j, a1.c 44]
        have hr := bt5_r (a := a) (b := b) (c := c) (d := d) (e := e) ⟨by omega, by omega⟩ ⟨by omega, by omega⟩ ⟨by omega, by omega⟩ ⟨by omega, by omega⟩ ⟨by omega, by omega⟩ (j - s)
        by_cases hj2 : s ≤ j ∧ j < s + k
        · rw [if_pos hj2, if_pos hj2]; exact ⟨rfl, hr⟩
        · rw [if_neg hj2, if_neg hj2]; exact p4 j hj
      · exact (CH_e (M := M) (ha.p 38 0) (ha.p 38 6) (ha.p 38 14) (ha.c 39) (ha.c 40) (ha.c 42) (ha.c 45) (ha.c 46) (ha.c 21) (ha.c 22) (ha.c 23) (ha.c 24)).mpr (hC (by rw [← ha.p 0 12]; exact q))
/-! the image -/
theorem r_imageL {M : Mem} : ∃ M', f_X10_image_L47 100000 0 M = some (M 38 0, M') ∧ agx [47] M M' ∧ ∀ j : Nat, j < 10 → M' 47 j = M 40 j := by
  obtain ⟨k, M', e0, g1, g2⟩ := loopN (N := 10) (F := fun k i (M2 : Mem) => f_X10_image_L47 k (i : Int) M2) (P := fun i M2 => agx [47] M M2 ∧ ∀ j : Nat, j < i → M2 47 j = M 40 j) (by
    intro k i M2 hi hP
    obtain ⟨p1, p2⟩ := hP
    refine ⟨mset M2 47 i (M2 40 i), ?_, p1.mset (by decide), fun j hj => ?_⟩
    · show f_X10_image_L47 (k + 1) (i : Int) M2 = f_X10_image_L47 k ((i + 1 : Nat) : Int) _
      rw [f_X10_image_L47, if_pos (by omega), if_pos ⟨by omega, by omega⟩, if_pos ⟨by omega, by omega⟩, Int.toNat_natCast, w32_n1 (by omega)]
    · by_cases e : j = i
      · subst e; rw [mset_at, p1 40 (by decide)]
      · rw [mset_i e]; exact p2 j (by omega)) 10 100000 0 M (by omega) (by omega) ⟨agx.refl, fun j hj => absurd hj (Nat.not_lt_zero _)⟩
  have e1 : f_X10_image_L47 100000 0 M = f_X10_image_L47 (k + 1) ((10 : Nat) : Int) M' := e0
  exact ⟨M', by rw [e1, f_X10_image_L47, if_neg (by decide), g1 38 (by decide)], g1, g2⟩
theorem r_backL {M : Mem} : ∃ M', f_X10_back_L52 100000 0 M = some (M 38 0, M') ∧ agx [40] M M' ∧ ∀ j : Nat, j < 10 → M' 40 j = M 47 j := by
  obtain ⟨k, M', e0, g1, g2⟩ := loopN (N := 10) (F := fun k i (M2 : Mem) => f_X10_back_L52 k (i : Int) M2) (P := fun i M2 => agx [40] M M2 ∧ ∀ j : Nat, j < i → M2 40 j = M 47 j) (by
    intro k i M2 hi hP
    obtain ⟨p1, p2⟩ := hP
    refine ⟨mset M2 40 i (M2 47 i), ?_, p1.mset (by decide), fun j hj => ?_⟩
    · show f_X10_back_L52 (k + 1) (i : Int) M2 = f_X10_back_L52 k ((i + 1 : Nat) : Int) _
      rw [f_X10_back_L52, if_pos (by omega), if_pos ⟨by omega, by omega⟩, if_pos ⟨by omega, by omega⟩, Int.toNat_natCast, w32_n1 (by omega)]
    · by_cases e : j = i
      · subst e; rw [mset_at, p1 47 (by decide)]
      · rw [mset_i e]; exact p2 j (by omega)) 10 100000 0 M (by omega) (by omega) ⟨agx.refl, fun j hj => absurd hj (Nat.not_lt_zero _)⟩
  have e1 : f_X10_back_L52 100000 0 M = f_X10_back_L52 (k + 1) ((10 : Nat) : Int) M' := e0
  exact ⟨M', by rw [e1, f_X10_back_L52, if_neg (by decide), g1 38 (by decide)], g1, g2⟩
theorem mcpy0 {M : Mem} {i j z q : Nat} (h : q < z) : mcpy M i j 0 0 z j q = M i q := by
  unfold mcpy; rw [mup_at, if_pos ⟨by omega, by omega⟩, Nat.sub_zero, Nat.zero_add]
theorem op_image {M : Mem} (h : Inv M) : OK2 f_X9_image f_X10_image M := by
  obtain ⟨⟨⟨l1, l2, l3⟩, ⟨f1, f2, f3⟩, hT, ⟨t1, t2, t3, t4, t5, t6⟩⟩, ⟨⟨c1, c2, c3, c4⟩, ⟨k1, k2⟩, ⟨q1, q2, q3⟩⟩, ⟨g1, g2, g3, g4, g5, g6, g7⟩, hP, ⟨i1, i2, i3, i4, i5, i6, i7, i8, i9⟩, hS, hW, hC⟩ := id h
  have e9 : f_X9_image M = some (M 3 3, mcpy (mset (mset (mset (mset (mset (mset M 31 1 1) 31 2 (M 3 3)) 31 3 (M 0 9)) 31 4 (M 7 4)) 31 5 (M 0 10)) 31 6 (M 0 11)) 5 32 0 0 10) := rfl
  generalize hM1 : mcpy (mset (mset (mset (mset (mset (mset M 31 1 1) 31 2 (M 3 3)) 31 3 (M 0 9)) 31 4 (M 7 4)) 31 5 (M 0 10)) 31 6 (M 0 11)) 5 32 0 0 10 = M1 at e9
  have ha1 : agp (dd [31, 32] []) M M1 := by
    rw [← hM1]
    exact agp.x ((((((agp.refl.mset (by rfl)).mset (by rfl)).mset (by rfl)).mset (by rfl)).mset (by rfl)).mset (by rfl)) (agx.refl.mcpy (L := [32]) (by decide)) (by intro c hc j; simp at hc; subst hc; rfl)
  have b1 : M1 31 1 = 1 := by rw [← hM1]; rfl
  have b2 : M1 31 2 = M 3 3 := by rw [← hM1]; rfl
  have b3 : M1 31 3 = M 0 9 := by rw [← hM1]; rfl
  have b4 : M1 31 4 = M 7 4 := by rw [← hM1]; rfl
  have b5 : M1 31 5 = M 0 10 := by rw [← hM1]; rfl
  have b6 : M1 31 6 = M 0 11 := by rw [← hM1]; rfl
  have b7 : ∀ j : Nat, j < 10 → M1 32 j = M 5 j := fun j hj => by rw [← hM1, mcpy0 hj]; rfl
  obtain ⟨M2, e2, d1, d2⟩ := r_imageL (M := mset (mset (mset (mset (mset (mset M1 38 15 1) 38 16 (M1 38 0)) 38 17 (M1 38 3)) 38 18 (M1 38 6)) 38 19 (M1 38 5)) 38 20 (M1 38 14))
  have e10 : f_X10_image M1 = some (M1 38 0, M2) := e2
  have hz : M1 38 0 = M 38 0 := ha1.p 38 0
  have ha : agp (dd [31, 32, 47] [(38, 15), (38, 16), (38, 17), (38, 18), (38, 19), (38, 20)]) M M2 := by
    refine agp.x (M1 := mset (mset (mset (mset (mset (mset M1 38 15 1) 38 16 (M1 38 0)) 38 17 (M1 38 3)) 38 18 (M1 38 6)) 38 19 (M1 38 5)) 38 20 (M1 38 14)) ?_ d1 (by intro c hc j; simp at hc; subst hc; rfl)
    refine agp.mset (agp.mset (agp.mset (agp.mset (agp.mset (agp.mset ?_ (by rfl)) (by rfl)) (by rfl)) (by rfl)) (by rfl)) (by rfl)
    exact ha1.dm
  refine ⟨M 38 0, M1, M2, by rw [e9, c1], by rw [e10, hz], ?_⟩
  have s15 : M2 38 15 = 1 := by rw [d1 38 (by decide)]; rfl
  have s16 : M2 38 16 = M 38 0 := by rw [d1 38 (by decide)]; exact hz
  have s17 : M2 38 17 = M 38 3 := by rw [d1 38 (by decide)]; exact ha1.p 38 3
  have s18 : M2 38 18 = M 38 6 := by rw [d1 38 (by decide)]; exact ha1.p 38 6
  have s19 : M2 38 19 = M 38 5 := by rw [d1 38 (by decide)]; exact ha1.p 38 5
  have s20 : M2 38 20 = M 38 14 := by rw [d1 38 (by decide)]; exact ha1.p 38 14
  have s31 : M2 31 = M1 31 := by rw [d1 31 (by decide)]; rfl
  have s32 : M2 32 = M1 32 := by rw [d1 32 (by decide)]; rfl
  have s47 : ∀ j : Nat, j < 10 → M2 47 j = M 40 j := fun j hj => by rw [d2 j hj]; show M1 40 j = M 40 j; rw [ha1.c 40]
  refine ⟨⟨(RLn_e (ha.p 38 0) (ha.c 39) (ha.c 40)).mpr ⟨l1, l2, l3⟩, (RFa_e (ha.p 38 6) (ha.c 42)).mpr ⟨f1, f2, f3⟩, (TB_e (ha.c 43)).mpr hT, (RTx_e (ha.p 38 13) (ha.p 38 14) (ha.c 45) (ha.c 46)).mpr ⟨t1, t2, t3, t4, t5, t6⟩⟩,
        ⟨(CLn_e (ha.p 3 3) (ha.p 38 0) (ha.c 4) (ha.c 39) (ha.c 5) (ha.c 40) (ha.c 6) (ha.c 2)).mpr ⟨c1, c2, c3, c4⟩, (CFa_e (ha.p 7 4) (ha.p 38 6) (ha.c 8) (ha.c 9) (ha.c 10) (ha.c 11) (ha.c 42)).mpr ⟨k1, k2⟩, (CTx_e (ha.p 12 5) (ha.p 38 13) (ha.p 0 11) (ha.p 38 14) (ha.c 45) (ha.c 46) (ha.c 17) (ha.c 18)).mpr ⟨q1, q2, q3⟩⟩,
        (Gs_e (ha.p 0 9) (ha.p 38 3) (ha.c 37) (ha.c 41) (ha.p 0 10) (ha.p 38 5)).mpr ⟨g1, g2, g3, g4, g5, g6, g7⟩, (Tp_e (ha.p 13 3) (ha.p 38 10) (ha.c 14) (ha.c 44)).mpr hP, ?_, (Sh_e (ha.c 34) (ha.c 48) (ha.c 35) (ha.c 49) (ha.c 36) (ha.c 50)).mpr hS, (WD_e (ha.c 52)).mpr hW, fun q => (CH_e (M := M) (ha.p 38 0) (ha.p 38 6) (ha.p 38 14) (ha.c 39) (ha.c 40) (ha.c 42) (ha.c 45) (ha.c 46) (ha.c 21) (ha.c 22) (ha.c 23) (ha.c 24)).mpr (hC (by rw [← ha.p 0 12]; exact q))⟩
  unfold Im
  rw [s31, s32, b1, b2, b3, b4, b5, b6, s15, s16, s17, s18, s19, s20, ha.p 38 0, ha.p 38 3, ha.p 38 6, ha.p 38 13]
  refine ⟨rfl, Or.inr rfl, c1, g1, k1, g5, q2, fun j hj => by rw [b7 j hj, s47 j hj]; exact (c2 j hj).2, fun _ => ⟨⟨by omega, by omega⟩, ⟨by omega, by omega⟩, ⟨by omega, by omega⟩, ⟨g6, g7⟩, ⟨by omega, by omega⟩, fun j hj => ?_⟩⟩
  rw [s47 j hj]
  exact (l3 j hj).2.2.2
theorem op_back {M : Mem} (h : Inv M) : OK2 f_X9_back f_X10_back M := by
  obtain ⟨⟨⟨l1, l2, l3⟩, ⟨f1, f2, f3⟩, hT, ⟨t1, t2, t3, t4, t5, t6⟩⟩, ⟨⟨c1, c2, c3, c4⟩, ⟨k1, k2⟩, ⟨q1, q2, q3⟩⟩, ⟨g1, g2, g3, g4, g5, g6, g7⟩, hP, ⟨i1, i2, i3, i4, i5, i6, i7, i8, i9⟩, hS, hW, hC⟩ := id h
  by_cases h0 : M 38 15 = 0
  · exact OK2.no h (by rw [f_X9_back, if_pos (by rw [i1, h0])]) (by rw [f_X10_back, if_pos h0])
  have h1 : M 38 15 = 1 := by omega
  obtain ⟨j1, j2, j3, j4, j5, j6⟩ := i9 h1
  have e9 : f_X9_back M = some (M 31 2, mset (mcpy (mset (mset (mset (mset (mset M 3 3 (M 31 2)) 0 9 (M 31 3)) 7 4 (M 31 4)) 0 10 (M 31 5)) 0 11 (M 31 6)) 32 5 0 0 10) 0 12 1) := by
    rw [f_X9_back, if_neg (by rw [i1]; exact h0)]; rfl
  generalize hM1 : mset (mcpy (mset (mset (mset (mset (mset M 3 3 (M 31 2)) 0 9 (M 31 3)) 7 4 (M 31 4)) 0 10 (M 31 5)) 0 11 (M 31 6)) 32 5 0 0 10) 0 12 1 = M1 at e9
  have ha1 : agp (dd [5] [(3, 3), (0, 9), (7, 4), (0, 10), (0, 11), (0, 12)]) M M1 := by
    rw [← hM1]
    exact agp.mset (agp.x (((((agp.refl.mset (by rfl)).mset (by rfl)).mset (by rfl)).mset (by rfl)).mset (by rfl)) (agx.refl.mcpy (L := [5]) (by decide)) (by intro c hc j; simp at hc; subst hc; rfl)) (by rfl)
  have b1 : M1 3 3 = M 31 2 := by rw [← hM1]; rfl
  have b2 : M1 0 9 = M 31 3 := by rw [← hM1]; rfl
  have b3 : M1 7 4 = M 31 4 := by rw [← hM1]; rfl
  have b4 : M1 0 10 = M 31 5 := by rw [← hM1]; rfl
  have b5 : M1 0 11 = M 31 6 := by rw [← hM1]; rfl
  have b6 : M1 0 12 = 1 := by rw [← hM1]; rfl
  have b7 : ∀ j : Nat, j < 10 → M1 5 j = M 32 j := fun j hj => by rw [← hM1, mset_c (by decide), mcpy0 hj]; rfl
  obtain ⟨M2, e2, d1, d2⟩ := r_backL (M := mset (mset (mset (mset (mset M1 38 0 (M1 38 16)) 38 3 (M1 38 17)) 38 6 (M1 38 18)) 38 5 (M1 38 19)) 38 14 (M1 38 20))
  have e10 : f_X10_back M1 = some (M1 38 16, M2) := by
    rw [f_X10_back, if_neg (by rw [ha1.p 38 15]; exact h0)]
    exact e2
  have ha : agp (dd [5, 40] [(3, 3), (0, 9), (7, 4), (0, 10), (0, 11), (0, 12), (38, 0), (38, 3), (38, 6), (38, 5), (38, 14)]) M M2 := by
    refine agp.x (M1 := mset (mset (mset (mset (mset M1 38 0 (M1 38 16)) 38 3 (M1 38 17)) 38 6 (M1 38 18)) 38 5 (M1 38 19)) 38 14 (M1 38 20)) ?_ d1 (by intro c hc j; simp at hc; subst hc; rfl)
    refine agp.mset (agp.mset (agp.mset (agp.mset (agp.mset ?_ (by rfl)) (by rfl)) (by rfl)) (by rfl)) (by rfl)
    exact ha1.dm
  have s0 : M2 38 0 = M 38 16 := by rw [d1 38 (by decide)]; exact ha1.p 38 16
  have s3 : M2 38 3 = M 38 17 := by rw [d1 38 (by decide)]; exact ha1.p 38 17
  have s6 : M2 38 6 = M 38 18 := by rw [d1 38 (by decide)]; exact ha1.p 38 18
  have s5 : M2 38 5 = M 38 19 := by rw [d1 38 (by decide)]; exact ha1.p 38 19
  have s14 : M2 38 14 = M 38 20 := by rw [d1 38 (by decide)]; exact ha1.p 38 20
  have s40 : ∀ j : Nat, j < 10 → M2 40 j = M 47 j := fun j hj => by rw [d2 j hj]; show M1 47 j = M 47 j; rw [ha1.c 47]
  have r3 : M2 3 3 = M 31 2 := by rw [d1 3 (by decide)]; exact b1
  have r9 : M2 0 9 = M 31 3 := by rw [d1 0 (by decide)]; exact b2
  have r7 : M2 7 4 = M 31 4 := by rw [d1 7 (by decide)]; exact b3
  have r10 : M2 0 10 = M 31 5 := by rw [d1 0 (by decide)]; exact b4
  have r11 : M2 0 11 = M 31 6 := by rw [d1 0 (by decide)]; exact b5
  have r12 : M2 0 12 = 1 := by rw [d1 0 (by decide)]; exact b6
  have r5 : ∀ j : Nat, j < 10 → M2 5 j = M 32 j := fun j hj => by rw [d1 5 (by decide)]; exact b7 j hj
  refine ⟨M 38 16, M1, M2, by rw [e9, i3], by rw [e10, ha1.p 38 16], ?_⟩
  have nl : ln M2 ≤ ln M := by unfold ln; rw [s0]; omega
  have nf : fn M2 ≤ fn M := by unfold fn; rw [s6]; omega
  have ng : gn M2 ≤ gn M := by unfold gn; rw [s3]; omega
  have nr : rl M2 < tn M := by unfold rl; rw [s14]; omega
  have et : tn M2 = tn M := by unfold tn; rw [ha.p 38 13]
  have esg : sgn M2 = sgn M := by funext l; unfold sgn; rw [ha.c 39]
  refine ⟨⟨⟨by unfold ln; rw [s0]; omega, by omega, fun l hl => ?_⟩, ⟨by unfold fn; rw [s6]; omega, by omega, fun f hf => ?_⟩, (TB_e (ha.c 43)).mpr hT, ⟨by rw [et, ha.p 38 13]; exact t1, by omega, by omega, by unfold rl; rw [s14]; omega, by omega, fun t ht => ?_⟩⟩,
    ⟨⟨by rw [r3, s0]; exact i3, fun l hl => ?_, fun l hl t ht => ?_, by rw [ha.c 2]; exact c4⟩, ⟨by rw [r7, s6]; exact i5, fun f hf => ?_⟩, ⟨by rw [ha.p 12 5, ha.p 38 13]; exact q1, by rw [r11, s14]; exact i7, fun t ht => ?_⟩⟩,
    ⟨by rw [r9, s3]; exact i4, by unfold gn; rw [s3]; omega, by omega, by rw [ha.c 37, ha.c 41]; exact g4, by rw [r10, s5]; exact i6, by rw [s5]; exact j4.1, by rw [s5]; exact j4.2⟩, (Tp_e (ha.p 13 3) (ha.p 38 10) (ha.c 14) (ha.c 44)).mpr hP, ?_, (Sh_e (ha.c 34) (ha.c 48) (ha.c 35) (ha.c 49) (ha.c 36) (ha.c 50)).mpr hS, (WD_e (ha.c 52)).mpr hW, fun q => by rw [r12] at q; exact absurd q (by decide)⟩
  · rw [esg, ha.c 39, s40 l hl]
    obtain ⟨a1, a2, a3, a4⟩ := l3 l hl
    exact ⟨a1, a2, a3, j6 l hl⟩
  · have h0 := f3 f (by omega)
    unfold RF1 fk fl fp fm at h0 ⊢
    rw [ha.c 42]
    exact h0
  · rw [TX_e (ha.c 45) (ha.c 46)]; exact t6 t (by omega)
  · rw [ha.c 4, ha.c 39, r5 l hl, s40 l hl]
    exact ⟨(c2 l hl).1, i8 l hl⟩
  · have eh : hd M2 = hd M := by funext l t; unfold hd; rw [esg]
    rw [eh, ha.c 6]; exact c3 l hl t ht
  · rw [ha.c 8, ha.c 9, ha.c 10, ha.c 11, ha.c 42]
    exact k2 f (by omega)
  · rw [CX_e (ha.c 45) (ha.c 46) (ha.c 17) (ha.c 18)]; exact q3 t (by omega)
  · unfold Im
    rw [ha.c 31, ha.p 38 15, ha.p 38 16, ha.p 38 17, ha.p 38 18, ha.p 38 19, ha.p 38 20, ha.c 32, ha.c 47, s0, s3, s6, ha.p 38 13]
    refine ⟨i1, i2, i3, i4, i5, i6, i7, i8, fun _ => ⟨⟨j1.1, by omega⟩, ⟨j2.1, by omega⟩, ⟨j3.1, by omega⟩, j4, j5, j6⟩⟩
