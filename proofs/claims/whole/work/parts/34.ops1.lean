/-! the calls that only set and tell -/
theorem op_lineTold {M : Mem} (h : Inv M) (x y : Int) : f_X10_lineTold x y M = some (f_X9_lineTold x y M) := by
  rw [f_X10_lineTold, f_X9_lineTold, isl_e h]
  rcases isl_n h (x := x) with h0 | ⟨l, rfl, hl, hl2, h0⟩
  · rw [if_pos h0, if_pos h0]
  · rw [if_neg h0, if_neg h0]
    have hr : (0 : Int) ≤ (l : Int) ∧ (l : Int) < 10 := ⟨by omega, by omega⟩
    by_cases hy0 : y = 0
    · rw [if_pos hy0, if_pos hr, Int.toNat_natCast, if_neg (by rw [wi_0]; omega), if_pos hy0, f_X3_signsOf, rd_n hl2, (h.2.1.1.2.1 l hl2).1]
    · rw [if_neg hy0]
      by_cases hy1 : y = 1
      · rw [if_pos hy1, if_pos hr, Int.toNat_natCast, if_neg (by rw [wi_0]; omega), if_neg hy0, f_X3_priceOf, rd_n hl2, (h.2.1.1.2.1 l hl2).2]
      · rw [if_neg hy1, if_pos (by rw [wi_0]; omega)]
theorem op_set {M : Mem} (h : Inv M) (x v : Int) : OK2 (f_X9_set x v) (f_X10_set x v) M := by
  rcases isl_n h (x := x) with h0 | ⟨l, rfl, hl, hl2, h0⟩
  · exact OK2.no h (by rw [f_X9_set, if_pos h0]) (by rw [f_X10_set, isl_e h, if_pos h0])
  · by_cases hv : f_X9_within v 1 99 = 0
    · exact OK2.no h (by rw [f_X9_set, if_neg h0, if_pos hv]) (by rw [f_X10_set, isl_e h, if_neg h0, in_w, if_pos hv])
    · obtain ⟨⟨⟨l1, l2, l3⟩, hF, hT, hX⟩, ⟨⟨c1, c2, c3, c4⟩, cF, cT⟩, hG, hP, hI, hS, hW, hC⟩ := id h
      refine ⟨M 5 l, mset (mset M 5 l v) 0 12 1, mset (mset (mset M 5 l v) 0 12 1) 40 l v, ?_, ?_, ?_⟩
      · rw [f_X9_set, if_neg h0, if_neg hv, f_X3_priceOf, rd_n hl2, wr_n hl2]
      · have e : f_X10_isLine (l : Int) (mset (mset M 5 l v) 0 12 1) = f_X9_isLine (l : Int) M := by rw [← isl_e h]; rfl
        rw [f_X10_set, e, if_neg h0, in_w, if_neg hv, if_pos ⟨by omega, by omega⟩, if_pos ⟨by omega, by omega⟩, Int.toNat_natCast, (c2 l hl2).2]
        rfl
      · rw [wi_0] at hv
        have e40 : ∀ j : Nat, mset (mset (mset M 5 l v) 0 12 1) 40 l v 40 j = if j = l then v else M 40 j := fun j => by
          by_cases e : j = l
          · subst e; rw [mset_at, if_pos rfl]
          · rw [mset_i e, if_neg e]; rfl
        have e5 : ∀ j : Nat, mset (mset (mset M 5 l v) 0 12 1) 40 l v 5 j = if j = l then v else M 5 j := fun j => by
          rw [mset_c (by decide), mset_c (by decide)]
          by_cases e : j = l
          · subst e; rw [mset_at, if_pos rfl]
          · rw [mset_i e, if_neg e]
        refine ⟨⟨⟨l1, l2, fun j hj => ?_⟩, (RFa_e (M := M)).mpr hF, (TB_e (M := M)).mpr hT, (RTx_e (M := M)).mpr hX⟩, ⟨⟨c1, fun j hj => ?_, c3, c4⟩, (CFa_e (M := M)).mpr cF, (CTx_e (M := M)).mpr cT⟩, (Gs_e (M := M)).mpr hG, (Tp_e (M := M)).mpr hP, (Im_e (M := M)).mpr hI, (Sh_e (M := M)).mpr hS, (WD_e (M := M)).mpr hW, fun q => absurd (show (1 : Int) = 0 from q) (by decide)⟩
        · obtain ⟨a1, a2, a3, a4, a5⟩ := l3 j hj
          refine ⟨a1, a2, a3, ?_⟩
          rw [e40]
          split
          · exact ⟨by omega, by omega⟩
          · exact ⟨a4, a5⟩
        · refine ⟨(c2 j hj).1, ?_⟩
          rw [e40, e5]
          split
          · rfl
          · exact (c2 j hj).2
theorem op_guest {M : Mem} (h : Inv M) (x : Int) : OK2 (f_X9_guest x) (f_X10_guest x) M := by
  obtain ⟨hR, hA, ⟨g1, g2, g3, g4, g5, g6, g7⟩, hP, hI, hS, hW, hC⟩ := id h
  by_cases hx : f_X9_isParts x = 0
  · exact OK2.no h (by rw [f_X9_guest, if_pos hx]) (by rw [f_X10_guest, in_w, if_pos (show f_X9_within x 0 63 = 0 from hx)])
  · have hx2 : ¬ f_X9_within x 0 63 = 0 := hx
    by_cases hg : gn M = 4
    · exact OK2.no h (by rw [f_X9_guest, if_neg hx, if_neg (by rw [g1, g2]; omega)]) (by rw [f_X10_guest, in_w, if_neg hx2, if_pos (by rw [g2]; omega)])
    · have hlt : gn M < 4 := by omega
      have ew : wr M 37 4 (M 0 9) x = mset M 37 (gn M) x := by rw [g1, g2, wr_n hlt]
      have e1 : w32 ((gn M : Int) + 1) = ((gn M + 1 : Nat) : Int) := w32_n1 (by omega)
      have e2 : w32 (((gn M + 1 : Nat) : Int) - 1) = (gn M : Int) := by rw [w32_id (by omega) (by omega)]; omega
      refine ⟨(gn M : Int), mset (mset M 37 (gn M) x) 0 9 ((gn M + 1 : Nat) : Int), mset (mset (mset (mset M 37 (gn M) x) 0 9 ((gn M + 1 : Nat) : Int)) 41 (gn M) x) 38 3 ((gn M + 1 : Nat) : Int), ?_, ?_, ?_⟩
      · have e7 : mset M 37 (gn M) x 0 9 = (gn M : Int) := g1.trans g2
        rw [f_X9_guest, if_neg hx, if_pos (by rw [g1, g2]; omega), ew, e7, e1, mset_at, e2]
      · have e3 : mset (mset M 37 (gn M) x) 0 9 ((gn M + 1 : Nat) : Int) 38 3 = (gn M : Int) := g2
        have e4 : mset (mset (mset M 37 (gn M) x) 0 9 ((gn M + 1 : Nat) : Int)) 41 (gn M) x 38 3 = (gn M : Int) := g2
        rw [f_X10_guest, in_w, if_neg hx2, e3, if_neg (by omega), if_pos ⟨by omega, by omega⟩, Int.toNat_natCast, e4, mset_at, e1, e2]
      · rw [wi_0] at hx2
        have en : gn (mset (mset (mset (mset M 37 (gn M) x) 0 9 ((gn M + 1 : Nat) : Int)) 41 (gn M) x) 38 3 ((gn M + 1 : Nat) : Int)) = gn M + 1 := by
          unfold gn; rw [mset_at]; omega
        refine ⟨⟨(RLn_e (M := M)).mpr hR.1, (RFa_e (M := M)).mpr hR.2.1, (TB_e (M := M)).mpr hR.2.2.1, (RTx_e (M := M)).mpr hR.2.2.2⟩, ⟨(CLn_e (M := M)).mpr hA.1, (CFa_e (M := M)).mpr hA.2.1, (CTx_e (M := M)).mpr hA.2.2⟩, ⟨rfl, ?_, ?_, fun j hj => ?_, g5, g6, g7⟩, (Tp_e (M := M)).mpr hP, ?_, (Sh_e (M := M)).mpr hS, (WD_e (M := M)).mpr hW, fun q => ?_⟩
        · rw [en, mset_at]
        · rw [en]; omega
        · show (mset M 37 (gn M) x 37 j = mset M 41 (gn M) x 41 j) ∧ 0 ≤ mset M 41 (gn M) x 41 j ∧ mset M 41 (gn M) x 41 j ≤ 63
          by_cases e : j = gn M
          · subst e; rw [mset_at, mset_at]; exact ⟨rfl, by omega, by omega⟩
          · rw [mset_i e, mset_i e]; exact g4 j hj
        · obtain ⟨i1, i2, i3, i4, i5, i6, i7, i8, i9⟩ := hI
          refine ⟨i1, i2, i3, i4, i5, i6, i7, i8, fun q => ?_⟩
          obtain ⟨j1, j2, j3⟩ := i9 q
          refine ⟨j1, ⟨j2.1, ?_⟩, j3⟩
          have j22 := j2.2
          show M 38 17 ≤ ((gn M + 1 : Nat) : Int)
          omega
        · exact (CH_e (M := M)).mpr (hC q)
theorem op_guestTold {M : Mem} (h : Inv M) (x : Int) : f_X10_guestTold x M = some (f_X9_guestTold x M) := by
  rw [f_X10_guestTold, f_X9_guestTold, isg_e h]
  rcases isg_n h (x := x) with h0 | ⟨l, rfl, hl, hl2, h0⟩
  · rw [if_pos h0, if_pos h0]
  · rw [if_neg h0, if_neg h0, if_pos ⟨by omega, by omega⟩, Int.toNat_natCast, rd_n hl2, (h.2.2.1.2.2.2.1 l hl2).1]
theorem op_pays {M : Mem} (h : Inv M) (v : Int) : OK2 (f_X9_pays v) (f_X10_pays v) M := by
  by_cases hv : f_X9_within v 0 999 = 0
  · exact OK2.no h (by rw [f_X9_pays, if_pos hv]) (by rw [f_X10_pays, in_w, if_pos hv])
  · obtain ⟨hR, hA, ⟨g1, g2, g3, g4, g5, g6, g7⟩, hP, hI, hS, hW, hC⟩ := id h
    refine ⟨M 0 10, mset M 0 10 v, mset (mset M 0 10 v) 38 5 v, by rw [f_X9_pays, if_neg hv], ?_, ?_⟩
    · rw [f_X10_pays, in_w, if_neg hv, g5]; rfl
    · rw [wi_0] at hv
      exact ⟨⟨(RLn_e (M := M)).mpr hR.1, (RFa_e (M := M)).mpr hR.2.1, (TB_e (M := M)).mpr hR.2.2.1, (RTx_e (M := M)).mpr hR.2.2.2⟩, ⟨(CLn_e (M := M)).mpr hA.1, (CFa_e (M := M)).mpr hA.2.1, (CTx_e (M := M)).mpr hA.2.2⟩, ⟨g1, g2, g3, g4, rfl, by show (0 : Int) ≤ v; omega, by show v ≤ (999 : Int); omega⟩, (Tp_e (M := M)).mpr hP, (Im_e (M := M)).mpr hI, (Sh_e (M := M)).mpr hS, (WD_e (M := M)).mpr hW, fun q => (CH_e (M := M)).mpr (hC q)⟩
theorem op_count {M : Mem} (h : Inv M) (x : Int) : f_X10_count x M = f_X9_count x M := by
  rw [f_X10_count, f_X9_count, h.2.1.1.1, h.2.2.1.1, h.2.1.2.1.1, h.2.2.1.2.2.2.2.1, h.2.1.2.2.1, h.2.1.2.2.2.1, h.2.2.2.1.1]
theorem op_force {M : Mem} (h : Inv M) (x : Int) : OK2 (f_X9_force x) (f_X10_force x) M := by
  obtain ⟨⟨hL, hF, hT, ⟨t1, t2, t3, t4, t5, t6⟩⟩, ⟨cL, cF, k1, k2, k3⟩, hG, hP, hI, hS, hW, hC⟩ := id h
  have e0 : w32 (M 12 5 - 1) = w32 (M 38 13 - 1) := by rw [k1]
  by_cases hx : f_X9_within x 0 (w32 (M 12 5 - 1)) = 0
  · exact OK2.no h (by rw [f_X9_force, if_pos hx]) (by rw [f_X10_force, in_w, ← e0, if_pos hx])
  · refine ⟨M 0 11, mset (mset M 0 11 x) 0 12 1, mset (mset (mset M 0 11 x) 0 12 1) 38 14 x, by rw [f_X9_force, if_neg hx], ?_, ?_⟩
    · have e3 : mset (mset M 0 11 x) 0 12 1 38 13 = M 38 13 := rfl
      rw [f_X10_force, in_w, e3, ← e0, if_neg hx, k2]; rfl
    · rw [wi_0, k1, t1, w32_id (by omega) (by omega)] at hx
      have er : rl (mset (mset (mset M 0 11 x) 0 12 1) 38 14 x) = x.toNat := by unfold rl; rw [mset_at]
      refine ⟨⟨(RLn_e (M := M)).mpr hL, (RFa_e (M := M)).mpr hF, (TB_e (M := M)).mpr hT, ⟨t1, t2, t3, ?_, ?_, ?_⟩⟩, ⟨(CLn_e (M := M)).mpr cL, (CFa_e (M := M)).mpr cF, k1, rfl, ?_⟩, (Gs_e (M := M)).mpr hG, (Tp_e (M := M)).mpr hP, (Im_e (M := M)).mpr hI, (Sh_e (M := M)).mpr hS, (WD_e (M := M)).mpr hW, fun q => absurd (show (1 : Int) = 0 from q) (by decide)⟩
      · rw [er, mset_at]; omega
      · rw [er]; show x.toNat < tn M; omega
      · rw [TX_e (M := M)]; exact t6
      · rw [CX_e (M := M)]; exact k3
theorem op_asks {M : Mem} (h : Inv M) (x1 x2 x3 x4 x5 : Int) : OK2 (f_X9_asks x1 x2 x3 x4 x5) (f_X10_asks x1 x2 x3 x4 x5) M := by
  obtain ⟨⟨⟨l1, l2, l3⟩, hF, hT, ⟨t1, t2, t3, t4, t5, t6⟩⟩, ⟨⟨c1, c2, c3, c4⟩, cF, k1, k2, k3⟩, hG, hP, hI, hS, hW, hC⟩ := id h
  rcases isl_n h (x := x2) with h0 | ⟨l, rfl, hl, hl2, h0⟩
  · exact OK2.no h (by rw [f_X9_asks, if_pos h0]) (by rw [f_X10_asks, isl_e h, if_pos h0])
  · by_cases a1 : f_X9_within x1 0 2 = 0
    · exact OK2.no h (by rw [f_X9_asks, if_neg h0, if_pos a1]) (by rw [f_X10_asks, isl_e h, if_neg h0, in_w, if_pos a1])
    by_cases a3 : f_X9_within x3 0 63 = 0
    · exact OK2.no h (by rw [f_X9_asks, if_neg h0, if_neg a1, f_X9_isParts, if_pos a3]) (by rw [f_X10_asks, isl_e h, if_neg h0, in_w, if_neg a1, in_w, if_pos a3])
    by_cases a4 : f_X9_within x4 0 3 = 0
    · exact OK2.no h (by rw [f_X9_asks, if_neg h0, if_neg a1, f_X9_isParts, if_neg a3, if_pos a4]) (by rw [f_X10_asks, isl_e h, if_neg h0, in_w, if_neg a1, in_w, if_neg a3, in_w, if_pos a4])
    by_cases a5 : f_X9_within x5 0 720 = 0
    · exact OK2.no h (by rw [f_X9_asks, if_neg h0, if_neg a1, f_X9_isParts, if_neg a3, if_neg a4, if_pos a5]) (by rw [f_X10_asks, isl_e h, if_neg h0, in_w, if_neg a1, in_w, if_neg a3, in_w, if_neg a4, in_w, if_pos a5])
    have a1' := a1
    have a3' := a3
    rw [wi_0] at a1' a3'
    obtain ⟨p, rfl⟩ : ∃ p : Nat, x1 = (p : Int) := ⟨x1.toNat, by omega⟩
    obtain ⟨st, rfl⟩ : ∃ s : Nat, x3 = (s : Int) := ⟨x3.toNat, by omega⟩
    have er : M 0 11 = (rl M : Int) := by rw [k2, t4]
    have ep : f_X3_priceOf (l : Int) M = M 40 l := by rw [f_X3_priceOf, rd_n hl2, (c2 l hl2).2]
    obtain ⟨M1, e1, b1⟩ := c_says (M := M) (t := rl M) (p := p) (set := st) (price := M 40 l) (place := (l : Int)) (guest := x4) (left := x5) (by omega) (by omega) (t6 _ t5) (k3 _ t5) (by omega)
    have hq : agq M M1 := agq.of b1 (by decide)
    have h1 : Inv M1 := h.q hq (fun q => (hC (by rw [b1 0 (by decide)] at q; exact q)).of hq b1 (by decide))
    obtain ⟨M2, e2, b2⟩ := r_asksOf (M := M1) (t := rl M) (p := p) (l := l) (set := st) (price := M 40 l) (guest := x4) (left := x5) (by omega) (by omega) (by rw [hq.s 14]; exact t4) (by rw [hq.eTX]; exact t6 _ t5) hl2 (by omega) (by rw [hq.c 40 (by decide)])
    rw [hq.esy] at e2
    have hr : agr M1 M2 := agr.of b2 (by decide)
    refine ⟨sy M (rl M) p (M 40 l) (st : Int) (l : Int) x4 x5, M1, M2, ?_, ?_, h1.q (agq.a hr) (fun q => (h1.2.2.2.2.2.2.2 (by rw [← hr.c 0 (by decide)]; exact q)).r hr)⟩
    · rw [f_X9_asks, if_neg h0, if_neg a1, f_X9_isParts, if_neg a3, if_neg a4, if_neg a5, er, ep]
      exact ob_I e1 rfl
    · rw [f_X10_asks, isl_e h1, show f_X9_isLine (l : Int) M1 = f_X9_isLine (l : Int) M by rw [f_X9_isLine, f_X9_isLine, hq.c 3 (by decide)], if_neg h0, in_w, if_neg a1, in_w, if_neg a3, in_w, if_neg a4, in_w, if_neg a5]
      exact ob_I e2 rfl
