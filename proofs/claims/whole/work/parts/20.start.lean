/-! THE START: from the law's entry, with the frozen things, to the plain function f_L_law -/
theorem q_st_K {s : State} {A : Array Value} (hts : ∀ w ∈ lw_tbl, w.before A s = true) : ∃ (D : va_G) (cI : ClassId), va_K D q_cl [(cI, .int)] s := by
  have ha : (Cond.arrayClass .int).before A s = true := hts _ (by decide +kernel)
  obtain ⟨cI, kA, comp, h1, h2, h3⟩ := Cond.arrayClass_spec ha
  have hk : ∀ (k : Nat) (q : vw_C), q_cl[k]? = some q → ∃ (cC : ClassId) (iS : Nat → Nat), u_Kn s q.1 q.2.1 q.2.2 cC iS := by
    intro k q hq
    match k, hq with
    | 0, hq => cases hq; exact u_known hts (fun w hw => (cgX0.2.1 w hw).1) (hts _ tb_154.1)
    | 1, hq => cases hq; exact u_known hts (fun w hw => (cgX1.2.1 w hw).1) (hts _ tb_454.1)
    | 2, hq => cases hq; exact u_known hts (fun w hw => (cgX2.2.1 w hw).1) (hts _ tb_509.1)
    | 3, hq => cases hq; exact u_known hts (fun w hw => (cgX3.2.1 w hw).1) (hts _ tb_131.1)
    | 4, hq => cases hq; exact u_known hts (fun w hw => (cgX4.2.1 w hw).1) (hts _ tb_538.1)
    | 5, hq => cases hq; exact u_known hts (fun w hw => (cgX5.2.1 w hw).1) (hts _ tb_187.1)
    | 6, hq => cases hq; exact u_known hts (fun w hw => (cgX6.2.1 w hw).1) (hts _ tb_181.1)
    | 7, hq => cases hq; exact u_known hts (fun w hw => (cgX7.2.1 w hw).1) (hts _ tb_98.1)
    | 8, hq => cases hq; exact u_known hts (fun w hw => (cgX8.2.1 w hw).1) (hts _ tb_484.1)
    | 9, hq => cases hq; exact u_known hts (fun w hw => (cgX9.2.1 w hw).1) (hts _ tb_90.1)
    | 10, hq => cases hq; exact u_known hts (fun w hw => (cgX10.2.1 w hw).1) (hts _ tb_1070.1)
    | k + 11, hq => simp [q_cl] at hq
  have hk2 : ∀ k : Nat, ∃ z : ClassId × (Nat → Nat), ∀ q : vw_C, q_cl[k]? = some q → u_Kn s q.1 q.2.1 q.2.2 z.1 z.2 := by
    intro k
    cases hq : q_cl[k]? with
    | none => exact ⟨(cI, fun _ => 0), fun q h => by cases h⟩
    | some q =>
      obtain ⟨cC, iS, h⟩ := hk k q hq
      exact ⟨(cC, iS), fun q2 h2 => by cases h2; exact h⟩
  obtain ⟨f, hf⟩ := Classical.axiomOfChoice hk2
  refine ⟨(fun k => (f k).1, fun k => (f k).2), cI, fun k q hq => hf k q hq, fun k q hq => ?_⟩
  match k, hq with
  | 0, hq => cases hq; exact ⟨fun n z => ⟨fun k h => (by cases h), kA, h2, comp, h3⟩, h1⟩
  | k + 1, hq => simp at hq
theorem q_st_T {s : State} {A : Array Value} (hts : ∀ w ∈ lw_tbl, w.before A s = true) : q_T s :=
  ⟨fun w hw => va_Nw.of (q_ok_tab hw.2) (hts w hw.1), by
    have h := hts (.arrayClass .int) (by decide +kernel)
    simpa only [Cond.before, Cond.holds, Cond.value] using h⟩
def q_tm (i : Nat) : Term := .string ((q_str.map (fun q => q.1)).getD i "") ((q_str.map (fun q => q.2.1)).getD i 0)
abbrev q_fc : List Cond := flatC (Jvm.Cond.and given_1 narrow_1)
theorem q_fc_ex : ∀ i : Nat, i < 14 → Cond.exactly (q_tm i) "java/lang/String" ∈ q_fc := by decide +kernel
theorem q_fc_co : ∀ i : Nat, i < 14 → Cond.eq (.field (q_tm i) "java/lang/String" "coder" "B") (.int 0) ∈ q_fc := by decide +kernel
theorem q_fc_ar : ∀ i : Nat, i < 14 → Cond.arrayOf (.field (q_tm i) "java/lang/String" "value" "[B") .byte ∈ q_fc := by decide +kernel
theorem q_fc_le : ∀ i : Nat, i < 14 → Cond.eq (.length (.field (q_tm i) "java/lang/String" "value" "[B")) (.int (Int32.ofNat (q_sl.getD i 0))) ∈ q_fc := by decide +kernel
theorem q_fc_el : ∀ i : Nat, i < 14 → ∀ j : Nat, j < q_sl.getD i 0 → Cond.eq (.elem (.field (q_tm i) "java/lang/String" "value" "[B") (.int (Int32.ofNat j))) (.int ((q_sB.getD i []).getD j 0)) ∈ q_fc := by decide +kernel
def q_fp : List ((Nat × Nat) × Nat) := [((1, 0), 273), ((1, 2), 102), ((1, 3), 114), ((1, 4), 123), ((1, 5), 134), ((1, 6), 146), ((1, 7), 161), ((1, 8), 177), ((1, 9), 194), ((1, 10), 211), ((1, 11), 230), ((1, 12), 249), ((2, 0), 274), ((2, 3), 115), ((2, 4), 124), ((2, 5), 135), ((2, 6), 147), ((2, 7), 162), ((2, 8), 178), ((2, 9), 195), ((2, 10), 212), ((2, 11), 231), ((2, 12), 250), ((3, 0), 275), ((3, 4), 125), ((3, 5), 136), ((3, 6), 148), ((3, 7), 163), ((3, 8), 179), ((3, 9), 196), ((3, 10), 213), ((3, 11), 232), ((3, 12), 251), ((4, 0), 276), ((4, 5), 137), ((4, 6), 149), ((4, 7), 164), ((4, 8), 180), ((4, 9), 197), ((4, 10), 214), ((4, 11), 233), ((4, 12), 252), ((5, 0), 277), ((5, 6), 150), ((5, 7), 165), ((5, 8), 181), ((5, 9), 198), ((5, 10), 215), ((5, 11), 234), ((5, 12), 253), ((6, 0), 278), ((6, 7), 166), ((6, 8), 182), ((6, 9), 199), ((6, 10), 216), ((6, 11), 235), ((6, 12), 254), ((7, 0), 279), ((7, 8), 183), ((7, 9), 200), ((7, 10), 217), ((7, 11), 236), ((7, 12), 255), ((8, 0), 280), ((8, 9), 201), ((8, 10), 218), ((8, 11), 237), ((8, 12), 256), ((9, 0), 281), ((9, 10), 219), ((9, 11), 238), ((9, 12), 257), ((10, 0), 282), ((10, 11), 239), ((10, 12), 258), ((11, 0), 283), ((11, 12), 259), ((12, 0), 284), ((13, 0), 272), ((13, 1), 91), ((13, 2), 101), ((13, 3), 113), ((13, 4), 122), ((13, 5), 133), ((13, 6), 145), ((13, 7), 160), ((13, 8), 176), ((13, 9), 193), ((13, 10), 210), ((13, 11), 229), ((13, 12), 248)]
theorem q_fp_ok : ∀ z ∈ q_fp, q_fc[z.2]? = some (Cond.not (Cond.eq (q_tm z.1.1) (q_tm z.1.2))) := by decide +kernel
theorem q_fp_all : ∀ i : Nat, i < 14 → ∀ j : Nat, j < 14 → i ≠ j → (∃ z ∈ q_fp, z.1 = (i, j)) ∨ ∃ z ∈ q_fp, z.1 = (j, i) := by decide +kernel
theorem q_fc_ne (i : Nat) (hi : i < 14) (j : Nat) (hj : j < 14) (h : i ≠ j) : Cond.not (Cond.eq (q_tm i) (q_tm j)) ∈ q_fc ∨ Cond.not (Cond.eq (q_tm j) (q_tm i)) ∈ q_fc := by
  rcases q_fp_all i hi j hj h with ⟨z, hz, e⟩ | ⟨z, hz, e⟩
  · have h1 := q_fp_ok z hz
    rw [e] at h1
    exact Or.inl (List.mem_of_getElem? h1)
  · have h1 := q_fp_ok z hz
    rw [e] at h1
    exact Or.inr (List.mem_of_getElem? h1)
theorem q_fc_sr : ∀ i : Nat, i < 14 → Cond.stringRef ((q_str.map (fun q => q.1)).getD i "") ((q_str.map (fun q => q.2.1)).getD i 0) ((q_str.map (fun q => q.2.2.1)).getD i "") ∈ lw_tbl := by decide +kernel
theorem q_fc_tu : ∀ j : Nat, j < 6 → Cond.eq (.elem (.static "CardNobodyReads" "TURNS" "[I") (.int (Int32.ofNat j))) (.int (Int32.ofInt (([120, 24, 6, 2, 1, 1] : List Int).getD j 0))) ∈ q_fc := by decide +kernel
theorem q_fc_ka : ∀ j : Nat, j < 6 → Cond.eq (.elem (.static "CardNobodyReads" "KIND_ABOVE" "[I") (.int (Int32.ofNat j))) (.int (Int32.ofInt (([-1, 0, 0, 2, 1, 2] : List Int).getD j 0))) ∈ q_fc := by decide +kernel
theorem q_st_Z {s : State} {b L : Nat} {xs : Nat → Int32} (hL : L ≤ 3584) (hts : ∀ w ∈ lw_tbl, w.before #[Value.ref b] s = true) (hX : va_X b L xs s s.heap) (hbl : b < s.heap.size) (hgv : (Jvm.Cond.and given_1 narrow_1).before #[Value.ref b] s = true) (D : va_G) (cI : ClassId) :
    ∃ (fz : Nat → Nat) (o : Option Nat), fz 0 = b ∧ q_Z (s.heap.size, D, cI, fz, o, L, fun i => (xs i).toInt) s s.heap := by
  have hs := flat_of_before _ hgv
  have hA : ∀ a : Nat, a < s.heap.size → ¬ (fun q : Nat => s.heap.size ≤ q) a := fun a h => Nat.not_le.mpr h
  obtain ⟨t1, e1, T1⟩ := va_Tof (tm := .static "CardNobodyReads" "TURNS" "[I") (ty := .int) (N := 6) (f := fun j => .int (Int32.ofInt (([120, 24, 6, 2, 1, 1] : List Int).getD j 0))) (by decide) (hs _ (by decide +kernel)) (va_eqt (hs (Cond.eq (.length (.static "CardNobodyReads" "TURNS" "[I")) (.int 6)) (by decide +kernel))) (fun j hj => va_eqt (hs _ (q_fc_tu j hj))) hA
  obtain ⟨t2, e2, T2⟩ := va_Tof (tm := .static "CardNobodyReads" "KIND_ABOVE" "[I") (ty := .int) (N := 6) (f := fun j => .int (Int32.ofInt (([-1, 0, 0, 2, 1, 2] : List Int).getD j 0))) (by decide) (hs _ (by decide +kernel)) (va_eqt (hs (Cond.eq (.length (.static "CardNobodyReads" "KIND_ABOVE" "[I")) (.int 6)) (by decide +kernel))) (fun j hj => va_eqt (hs _ (q_fc_ka j hj))) hA
  obtain ⟨adK, adV, hS, hE⟩ := vk_Sof (N := 14) (tm := q_tm) (len := q_sl) (byt := q_sB) (by decide +kernel) (fun i hi => hs _ (q_fc_ex i hi)) (fun i hi => hs _ (q_fc_co i hi)) (fun i hi => hs _ (q_fc_ar i hi)) (fun i hi => hs _ (q_fc_le i hi)) (fun i hi j hj => hs _ (q_fc_el i hi j hj)) (fun i j hi hj h => (q_fc_ne i hi j hj h).imp (hs _) (hs _)) hA
  have Z1 := va_Zref (hts (.laysStatic "CardNobodyReads" "TURNS" "[I") (by decide +kernel)) (hts (.initialized "CardNobodyReads") (by decide +kernel)) e1 hA
  have Z2 := va_Zref (hts (.laysStatic "CardNobodyReads" "KIND_ABOVE" "[I") (by decide +kernel)) (hts (.initialized "CardNobodyReads") (by decide +kernel)) e2 hA
  have Z3 := va_Zof (hts (.laysStatic "java/lang/String" "COMPACT_STRINGS" "Z") (by decide +kernel)) (hts (.initialized "java/lang/String") (by decide +kernel)) (va_eqi (hs (Cond.eq (.static "java/lang/String" "COMPACT_STRINGS" "Z") (.int 1)) (by decide +kernel))) hA
  have Z4 : ∃ o : Option Nat, va_Z "jdk/internal/util/Preconditions" "SIOOBE_FORMATTER" "Ljava/util/function/BiFunction;" (q_V (.inr (.inr o))) (fun q : Nat => s.heap.size ≤ q) s s.heap := by
    rcases va_Zqof (hts (.laysStatic "jdk/internal/util/Preconditions" "SIOOBE_FORMATTER" "Ljava/util/function/BiFunction;") (by decide +kernel)) (hts (.initialized "jdk/internal/util/Preconditions") (by decide +kernel)) (hs (Cond.isRef (.static "jdk/internal/util/Preconditions" "SIOOBE_FORMATTER" "Ljava/util/function/BiFunction;")) (by decide +kernel)) hA with h | ⟨t, h⟩
    · exact ⟨none, h⟩
    · exact ⟨some t, h⟩
  obtain ⟨o, Z4⟩ := Z4
  refine ⟨fun i => if i = 0 then b else if i = 1 then t1 else if i = 2 then t2 else if i < 30 then adK (i - 10) else adV (i - 30), o, rfl, ⟨?_, hL⟩, ?_, Z1, Z2, Z3, Z4, ?_, ?_⟩
  · intro j i
    match j with
    | 0 => exact x32_r (xs i)
    | 1 =>
      show r32 (([120, 24, 6, 2, 1, 1] : List Int).getD i 0)
      match i with
      | 0 | 1 | 2 | 3 | 4 | 5 => exact ⟨by decide, by decide⟩
      | i + 6 => simp [r32]
    | j + 2 =>
      show r32 (([-1, 0, 0, 2, 1, 2] : List Int).getD i 0)
      match i with
      | 0 | 1 | 2 | 3 | 4 | 5 => exact ⟨by decide, by decide⟩
      | i + 6 => simp [r32]
  · intro j hj
    match j, hj with
    | 0, _ =>
      obtain ⟨scr, h1, h2, h3, h4, h5⟩ := hX
      refine ⟨scr, h1, h2, h3, ?_, ?_, fun j hj => ?_, hA b hbl⟩
      · show L ≤ _
        omega
      · show _ = Int32.ofNat L
        rw [h4]
      · show _ = some (Value.int (Int32.ofInt (xs j).toInt))
        rw [h5 j hj, Int32.ofInt_toInt]
    | 1, _ => exact T1
    | 2, _ => exact T2
    | j + 3, h => omega
  · have k1 : ∀ i : Nat, i < 14 → (if 10 + i = 0 then b else if 10 + i = 1 then t1 else if 10 + i = 2 then t2 else if 10 + i < 30 then adK (10 + i - 10) else adV (10 + i - 30)) = adK i := by
      intro i hi
      rw [if_neg (by omega), if_neg (by omega), if_neg (by omega), if_pos (by omega), Nat.add_sub_cancel_left]
    have k2 : ∀ i : Nat, i < 14 → (if 30 + i = 0 then b else if 30 + i = 1 then t1 else if 30 + i = 2 then t2 else if 30 + i < 30 then adK (30 + i - 10) else adV (30 + i - 30)) = adV i := by
      intro i hi
      rw [if_neg (by omega), if_neg (by omega), if_neg (by omega), if_neg (by omega), Nat.add_sub_cancel_left]
    refine ⟨fun i hi => ?_, fun i j hi hj h => ?_⟩
    · have h := hS.1 i hi
      simp only [k1 i hi, k2 i hi]
      exact h
    · simp only [k1 i hi, k1 j hj] at h
      exact hS.2 i j hi hj h
  · intro i q hq
    have hi : i < 14 := (List.getElem?_eq_some_iff.mp hq).1
    have k1 : (if 10 + i = 0 then b else if 10 + i = 1 then t1 else if 10 + i = 2 then t2 else if 10 + i < 30 then adK (10 + i - 10) else adV (10 + i - 30)) = adK i := by
      rw [if_neg (by omega), if_neg (by omega), if_neg (by omega), if_pos (by omega), Nat.add_sub_cancel_left]
    have h1 := hts _ (q_fc_sr i hi)
    have h2 := hE i hi
    unfold q_tm at h2
    simp only [List.getD, List.getElem?_map, hq, Option.map_some, Option.getD_some] at h1 h2
    simp only [k1]
    exact vk_R.of h1 h2
theorem q_start {p : Program} {e : Env} {s : State} {m : MethodId} {below : List Frame} {meth : Method} {c : Code} (l : Launch) {b L : Nat} {xs : Nat → Int32} (hL : L ≤ 3584)
    (hx : p.tables.exec = Jvm.exec) (hb : c.code = code) (hr : meth.sig.returnType = ret) (hml : c.maxLocals = 4) (hown : s.vm.findClass "CardNobodyReadsLaw" = some m.cls) (hts : ∀ w ∈ lw_tbl, w.before #[Value.ref b] s = true) (hX : va_X b L xs s s.heap) (hbl : b < s.heap.size) (hlocks : meth.locks = false) (hgv : (Jvm.Cond.and given_1 narrow_1).before #[Value.ref b] s = true) (hnm : meth.name = x.name)
    (hlaw : ∀ g : GG, q_G g → ∃ M', f_L_law g (fun _ _ => 0) = some (1, M')) :
    W p l e room_1 s m #[Value.ref b] below meth c s.heap [] 0 0 (fun t => ∃ o, t.status = .running ∧ Ended t below o ∧ o = .returned (some (.int 1)) ∧ Framed s o t [] 600000 7302250) (entryFrame m ([Value.ref b] : List Value).toArray 4) := by
  obtain ⟨D, cI, hK⟩ := q_st_K hts
  obtain ⟨fz, o, hfz, hZ⟩ := q_st_Z hL hts hX hbl hgv D cI
  generalize hg : ((s.heap.size, D, cI, fz, o, L, fun i => (xs i).toInt) : GG) = g at hZ
  have g1 : g.1 = s.heap.size := by rw [← hg]
  have hK : q_K g s := by rw [← hg]; exact hK
  have g2 : g.2.2.2.1 0 = b := by rw [← hg]; exact hfz
  obtain ⟨M', hf⟩ := hlaw g hZ.1
  have hP : q_P g [] (fun _ _ => 0) s.heap := ⟨fun k q h => by simp [q_W] at h, fun i j p q h => by simp [q_W] at h, fun k q h => by simp [q_W] at h⟩
  have hC : q_C ML_law p s m meth c := ⟨hx, hb, hr, hml, hown, q_st_T hts, hlocks, hnm⟩
  have hl := lv_entry ([.ref b]) (n := 4) (Nat.le_of_ble_eq_true rfl)
  rw [lg_entry_eq]
  generalize (lg_sl ([.ref b]) ++ List.replicate (4 - (lg_sl ([.ref b])).length) Slot.unset).toArray = lsR at hl ⊢
  have hLs : q_L lsR 4 [some (.inr (.inr (some (g.2.2.2.1 0)))), none, none, none] := by
    refine ⟨hl.1, hl.2.1, fun i v hi => ?_⟩
    match i, hi with
    | 0, hi => cases hi; rw [g2]; exact hl.2.2 (0, .ref b) List.mem_cons_self
    | 1, hi => cases hi
    | 2, hi => cases hi
    | 3, hi => cases hi
    | i + 4, hi => simp at hi
  have hw := t_law l g (fun _ _ => 0) hf (fun v hv => by simp at hv; subst hv; exact True.intro) q_RL.nil (fun _ _ => ⟨by show (-2147483648 : Int) ≤ 0; decide, by show (0 : Int) < 2147483648; decide⟩) p e s m #[Value.ref b] below meth c s.heap [] lsR ⟨hC, va_S.rf, hP, hK, hZ, by rw [g1]; exact Nat.le_refl _, hLs⟩
  intro T hT X
  obtain ⟨t, st, o2, q1, q2, ⟨⟨r2, S2, M2, p1, p2, p3, p4, p5⟩, p6⟩, L2, ⟨f1, f2, f3, f4, f5, f6, f7, f8⟩, hfree⟩ := hw T hT X
  subst p1
  refine ⟨t, st, o2, q1, q2, p4, f1, f2, f3, f4, f5, f6, f7, fun a c0 ha => ?_⟩
  obtain ⟨c1, b1, b2, b3, b4⟩ := f8 a c0 ha
  refine ⟨c1, b1, b2, b3, fun i _ => b4 i fun hin => ?_⟩
  have h1 := hfree _ hin
  have h2 : a < s.heap.size := (Array.getElem?_eq_some_iff.mp ha).1
  have h3 : g.1 ≤ a := h1
  rw [g1] at h3
  exact Nat.lt_irrefl _ (Nat.lt_of_lt_of_le h2 h3)
