/-! calls, ends, contracts -/
theorem q_B.calling {g : GG} {S : SW} {M : Mem} {U : State} (gg : JFrame) (mk : MethodId) (a : Array Value) (h : q_B g S M U) : q_B g S M (U.calling gg mk a) := by
  obtain ⟨h1, h2, h3, h4, h5⟩ := h
  have hW : U.WarmedH (U.calling gg mk a).vm := State.WarmedH.refl U
  exact ⟨h1, h2, h3.moved (U := U.calling gg mk a) (Vm.Alike.refl U.vm), h4.warm hW, h5.warm hW⟩
theorem q_blind (av : List Value) (g : GG) (S : SW) (M : Mem) : FrameBlind (va_Pc av (q_B g S M)) := fun _ _ gg mk h => ⟨h.1, h.2.calling gg mk _⟩
/-- a method that may be called -/
def q_mb (mm : MM) (n : Nat) : Prop := q_in (.code mm.1 mm.2.1 mm.2.2.1 mm.2.2.2) ∧ q_in (.initialized mm.1.cls) ∧ (mm.1.cls ≠ "java/lang/invoke/MethodHandle" ∧ mm.1.cls ≠ "java/lang/invoke/VarHandle") ∧ (parseMethodDescriptor mm.1.desc).map (fun d => d.parameters.length) = some n
def q_ms (mm : MM) (n : Nat) : Prop := q_mb mm n ∧ q_in (.static mm.1)
def q_mv (mm : MM) (n : Nat) : Prop := q_mb mm n ∧ q_in (.instanceMethod mm.1) ∧ q_in (.selects mm.1.cls mm.1 mm.1)
def q_mi (mm : MM) (n : Nat) : Prop := q_mb mm n ∧ q_in (.instanceMethod mm.1) ∧ mm.1.name = "<init>" ∧ mm.2.2.2 = none
def q_ml (own : String) (index : Nat) (y : MethodName) : Prop := q_in (.methodLink own index y) ∨ ∃ host, q_in (.methodLinkNest own index y host)
/-- what may be sent a message of class C -/
def q_rc (g : GG) (S : SW) (b : Nat) (C : String) : Prop := (∃ (i ci : Nat) (fs : List (Option (Option Nat))) (T : u_T) (N : Nat), S[i]? = some (b, .inr (ci, fs)) ∧ q_cl[ci]? = some (C, T, N)) ∨ ∃ i, i < 14 ∧ b = g.2.2.2.1 (10 + i) ∧ C = "java/lang/String"
section CALLS
variable {l : Launch} {g : GG} {mm : MM} {R : Room} {mc ms : Nat} {Post : PP} {pc : Nat} {S : SW} {M : Mem} {k n : Nat} {ls : List (Option SV)} {st : List SV}
theorem q_pre {p : Program} {s : State} {m : MethodId} {meth : Method} {c : Code} {H : Heap} {locs : List Loc} {lsR : Array Slot} (X : q_X g mm S M ls p s m meth c H locs lsR) {U : State} (hU : U.heap = H) (hW : s.WarmedH U.vm) : q_B g S M U := by
  refine ⟨by rw [hU]; exact Nat.le_trans X.2.2.2.2.2.1 X.2.1.1, by rw [hU]; exact X.2.2.1, X.2.2.2.1.moved hW.alike, ?_, X.1.2.2.2.2.2.1.warm hW⟩
  rw [hU]
  exact (X.2.2.2.2.1.kept X.2.1.2.1).warm hW
theorem q_recv {p : Program} {s : State} {m : MethodId} {meth : Method} {c : Code} {H : Heap} {locs : List Loc} {lsR : Array Slot} (X : q_X g mm S M ls p s m meth c H locs lsR) {b : Nat} {C : String} (h : q_rc g S b C) : ∃ cellB : Cell, H[b]? = some cellB ∧ cellB.vm.isStatics = false ∧ s.vm.findClass C = some cellB.cls := by
  rcases h with ⟨i, ci, fs, T, N, hS, hc⟩ | ⟨i, hi, rfl, rfl⟩
  · have he := q_W_at (cI := g.2.2.1) (M := M) hS
    exact va_recv X.2.2.2.1 X.2.2.1.1 hc he
  · exact vk_recv (adK := fun i => g.2.2.2.1 (10 + i)) (i := i) X.2.2.2.2.1.2.2.2.2.2.2.1 hi X.2.1
theorem R_run {mc2 ms2 : Nat} {args2 : Array Value} {Post2 : PP} {rest : List SV}
    (hrun : q_RO ls → q_RL st → q_RM M → ∀ (p : Program) (e : Env) (s : State) (m : MethodId) (args : Array Value) (below : List Frame) (meth : Method) (c : Code) (H : Heap) (locs : List Loc) (lsR : Array Slot), q_X g mm S M ls p s m meth c H locs lsR → va_Run p l e R s m args below meth c H locs k n mc2 ms2 (F0 m pc lsR (st.map q_V)) (rest.map q_V) (q_Q g Post2 args2) (q_A g))
    (hrest : q_RL st → q_RL rest)
    (kk : ∀ (r : Option SV) (S' : SW) (M' : Mem), Post2 r S' M' → RW l g mm R mc ms Post (pc + 3) S' M' (k + mc2) (n + ms2) ls (r.toList ++ rest)) : RW l g mm R mc ms Post pc S M k n ls st := by
  intro hl hs hM p e s m args below meth c H locs lsR X T hT XX
  obtain ⟨v, st₀, t, T', L, h0, X', hL, e1, e2, ⟨⟨r, S', M', hp, hr, hM', ho, hP', hK'⟩, hz, hk⟩, stp⟩ := hrun hl hs hM p e s m args below meth c H locs lsR X T hT XX
  have hv : v = r.map q_V := by cases ho; rfl
  subst hv
  rw [h0] at hz hk
  have hres : q_RL (r.toList ++ rest) := by
    intro w hw
    rcases List.mem_append.mp hw with h | h
    · cases r with
      | none => simp at h
      | some r0 => simp at h; subst h; exact hr _ rfl
    · exact hrest hs w h
  have hS := X.2.1
  have hS' : va_S (q_A g) s.heap T'.heap (locs ++ L) := ⟨Nat.le_trans hS.1 (by rw [e1]; exact hz), fun q h1 h2 => by rw [e1, hk q (Nat.lt_of_lt_of_le h1 hS.1) h2]; exact hS.2.1 q h1 h2, fun q hq => by
      rcases List.mem_append.mp hq with h | h
      · exact hS.2.2 q h
      · exact hL q h⟩
  obtain ⟨t2, a1, b1⟩ := kk r S' M' hp hl hres hM' p e s m args below meth c T'.heap (locs ++ L) lsR ⟨X.1, hS', by rw [e1]; exact hP', X.2.2.2.1, X.2.2.2.2.1, X.2.2.2.2.2.1, X.2.2.2.2.2.2⟩ T' rfl X'
  refine ⟨t2, stp t2 ?_, b1⟩
  have e3 : (r.toList ++ rest).map q_V = (r.map q_V).toList ++ rest.map q_V := by cases r <;> simp
  rw [e3] at a1
  exact a1
theorem q_arg {st args2 rest : List SV} (h : q_RL st) (e : st = args2.reverse ++ rest) : q_RL args2 ∧ q_RL rest := by
  subst e
  exact ⟨fun v hv => h v (List.mem_append_left _ (List.mem_reverse.mpr hv)), fun v hv => h v (List.mem_append_right _ hv)⟩
theorem q_callB {mm2 : MM} {n2 : Nat} (hm : q_mb mm2 n2) {d2 mc2 ms2 : Nat} (hR : d2 + 1 ≤ R.frames ∧ 19 + mm2.2.2.1 + 64 * d2 ≤ R.locals) {s : State} {args : Array Value} (hT : q_T s) :
    (q_rm d2 mc2 ms2).cells = mc2 ∧ (q_rm d2 mc2 ms2).slots = ms2 ∧ (q_rm d2 mc2 ms2).frames + 1 ≤ R.frames ∧ 8 + (mm2.2.2.1 + 11) + (q_rm d2 mc2 ms2).locals ≤ R.locals ∧ (∀ w ∈ [Cond.code mm2.1 mm2.2.1 mm2.2.2.1 mm2.2.2.2], ∀ (a' : Array Value) (U : State), s.WarmedH U.vm → w.before a' U = true) ∧ Cond.code mm2.1 mm2.2.1 mm2.2.2.1 mm2.2.2.2 ∈ [Cond.code mm2.1 mm2.2.1 mm2.2.2.1 mm2.2.2.2] ∧ (Cond.code mm2.1 mm2.2.1 mm2.2.2.1 mm2.2.2.2).before args s = true ∧ (Cond.initialized mm2.1.cls).before args s = true ∧ (∀ sig, parseMethodDescriptor mm2.1.desc = some sig → n2 = sig.parameters.length) := by
  refine ⟨rfl, rfl, hR.1, ?_, fun w hw a' U hW => ?_, List.mem_cons_self, hT.use hm.1, hT.use hm.2.1, fun sig h => ?_⟩
  · show 8 + (mm2.2.2.1 + 11) + 64 * d2 ≤ R.locals
    omega
  · rcases List.mem_cons.mp hw with rfl | hw
    · exact (hT.warm hW).use hm.1
    · exact absurd hw List.not_mem_nil
  · have h2 := hm.2.2.2
    rw [h] at h2
    exact (Option.some.inj h2).symm
theorem R_callS {mm2 : MM} {d2 mc2 ms2 n2 : Nat} {args2 rest : List SV} {Post2 : PP} (hM2 : CT l g mm2 d2 mc2 ms2 S M args2 Post2) (hm : q_ms mm2 n2) {index : Nat} (hw : q_ml mm.1.cls index mm2.1) (hR : d2 + 1 ≤ R.frames ∧ 19 + mm2.2.2.1 + 64 * d2 ≤ R.locals) (hf : k + mc2 ≤ R.cells ∧ n + ms2 ≤ R.slots) (hlen : args2.length = n2) (hst : st = args2.reverse ++ rest) (hcat : (rest.map q_cat).sum ≤ 8) {pc' : Nat} (hd : q_d mm.2.1 pc (.invokestatic index) 3 pc')
    (kk : ∀ (r : Option SV) (S' : SW) (M' : Mem), Post2 r S' M' → RW l g mm R mc ms Post pc' S' M' (k + mc2) (n + ms2) ls (r.toList ++ rest)) : RW l g mm R mc ms Post pc S M k n ls st := by
  obtain ⟨hd, rfl⟩ := hd
  refine R_run (Post2 := Post2) (rest := rest) (args2 := (args2.map q_V).toArray) ?_ (fun h => (q_arg h hst).2) kk
  intro hl hs hM p e s m args below meth c H locs lsR X
  have hMet := hM2 (q_arg hs hst).1 hM
  obtain ⟨c1, c2, c3, c4, c5, c6, c7, c8, c9⟩ := q_callB (R := R) (mc2 := mc2) (ms2 := ms2) (args := args) hm.1 hR X.1.2.2.2.2.2.1
  have hp : PreS s H (va_Pc (args2.map q_V) (q_B g S M)) (args2.map q_V) := ⟨q_blind _ _ _ _, fun U hU hW => ⟨rfl, q_pre X hU hW⟩⟩
  have hstk : (F0 m pc lsR (st.map q_V)).stack = (args2.map q_V).reverse ++ rest.map q_V := by
    show st.map q_V = _
    rw [hst, List.map_append, List.map_reverse]
  rcases hw with hw | ⟨host, hw⟩
  · exact va_runS (Ts := []) (own := mm.1.cls) (n := n2) ⟨X.1.1, X.1.2.1, X.1.2.2.2.1, X.1.2.2.2.2.1, fun w h => absurd h List.not_mem_nil⟩ hMet ⟨⟨c1, c2, c3, c4, c5, c6, c7, c8, hm.1.2.2.1, c9, X.1.2.2.2.2.2.1.use hw⟩, X.1.2.2.2.2.2.1.use hm.2⟩ hp rfl (by rw [List.length_map]; exact hlen) X.2.2.2.2.2.2.1 hstk (lv_room (by rw [q_sum]; exact hcat)) hd hf
  · exact va_runSN (Ts := []) (own := mm.1.cls) (n := n2) (host := host) ⟨X.1.1, X.1.2.1, X.1.2.2.2.1, X.1.2.2.2.2.1, fun w h => absurd h List.not_mem_nil⟩ hMet ⟨⟨⟨c1, c2, c3, c4, c5, c6⟩, c7, c8, hm.1.2.2.1, c9, X.1.2.2.2.2.2.1.use hw⟩, X.1.2.2.2.2.2.1.use hm.2, trivial⟩ hp rfl (by rw [List.length_map]; exact hlen) X.2.2.2.2.2.2.1 hstk (lv_room (by rw [q_sum]; exact hcat)) hd hf
theorem R_callV {mm2 : MM} {d2 mc2 ms2 n2 b : Nat} {As rest : List SV} {Post2 : PP} (hM2 : CT l g mm2 d2 mc2 ms2 S M (.inr (.inr (some b)) :: As) Post2) (hm : q_mv mm2 n2) {index : Nat} (hw : q_ml mm.1.cls index mm2.1) (hrc : q_rc g S b mm2.1.cls) (hR : d2 + 1 ≤ R.frames ∧ 19 + mm2.2.2.1 + 64 * d2 ≤ R.locals) (hf : k + mc2 ≤ R.cells ∧ n + ms2 ≤ R.slots) (hlen : As.length = n2) (hst : st = As.reverse ++ .inr (.inr (some b)) :: rest) (hcat : (rest.map q_cat).sum ≤ 8) {pc' : Nat} (hd : q_d mm.2.1 pc (.invokevirtual index) 3 pc')
    (kk : ∀ (r : Option SV) (S' : SW) (M' : Mem), Post2 r S' M' → RW l g mm R mc ms Post pc' S' M' (k + mc2) (n + ms2) ls (r.toList ++ rest)) : RW l g mm R mc ms Post pc S M k n ls st := by
  obtain ⟨hd, rfl⟩ := hd
  have hst2 : st = (.inr (.inr (some b)) :: As : List SV).reverse ++ rest := by rw [hst]; simp
  refine R_run (Post2 := Post2) (rest := rest) (args2 := ((.inr (.inr (some b)) :: As : List SV).map q_V).toArray) ?_ (fun h => (q_arg h hst2).2) kk
  intro hl hs hM p e s m args below meth c H locs lsR X
  have hMet := hM2 (q_arg hs hst2).1 hM
  obtain ⟨c1, c2, c3, c4, c5, c6, c7, c8, c9⟩ := q_callB (R := R) (mc2 := mc2) (ms2 := ms2) (args := args) hm.1 hR X.1.2.2.2.2.2.1
  have hp : PreV s H mm2.1.cls b (va_Pc ((.inr (.inr (some b)) :: As : List SV).map q_V) (q_B g S M)) (As.map q_V) := ⟨q_blind _ _ _ _, q_recv X hrc, fun U hU hW => ⟨rfl, q_pre X hU hW⟩⟩
  have hstk : (F0 m pc lsR (st.map q_V)).stack = (As.map q_V).reverse ++ .ref b :: rest.map q_V := by
    show st.map q_V = _
    rw [hst, List.map_append, List.map_reverse]
    rfl
  rcases hw with hw | ⟨host, hw⟩
  · exact va_runV (Ts := []) (own := mm.1.cls) (n := n2) (C := mm2.1.cls) ⟨X.1.1, X.1.2.1, X.1.2.2.2.1, X.1.2.2.2.2.1, fun w h => absurd h List.not_mem_nil⟩ hMet ⟨⟨c1, c2, c3, c4, c5, c6, c7, c8, hm.1.2.2.1, c9, X.1.2.2.2.2.2.1.use hw⟩, X.1.2.2.2.2.2.1.use hm.2.1, X.1.2.2.2.2.2.1.use hm.2.2⟩ hp rfl (by rw [List.length_map]; exact hlen) X.2.2.2.2.2.2.1 hstk (lv_room (by rw [q_sum]; exact hcat)) hd hf
  · exact va_runVN (Ts := []) (own := mm.1.cls) (n := n2) (C := mm2.1.cls) (host := host) ⟨X.1.1, X.1.2.1, X.1.2.2.2.1, X.1.2.2.2.2.1, fun w h => absurd h List.not_mem_nil⟩ hMet ⟨⟨⟨c1, c2, c3, c4, c5, c6⟩, c7, c8, hm.1.2.2.1, c9, X.1.2.2.2.2.2.1.use hw⟩, X.1.2.2.2.2.2.1.use hm.2.1, X.1.2.2.2.2.2.1.use hm.2.2⟩ hp rfl (by rw [List.length_map]; exact hlen) X.2.2.2.2.2.2.1 hstk (lv_room (by rw [q_sum]; exact hcat)) hd hf
theorem R_callI {mm2 : MM} {d2 mc2 ms2 n2 b : Nat} {As rest : List SV} {Post2 : PP} (hM2 : CT l g mm2 d2 mc2 ms2 S M (.inr (.inr (some b)) :: As) Post2) (hm : q_mi mm2 n2) {index : Nat} (hw : q_ml mm.1.cls index mm2.1) (hR : d2 + 1 ≤ R.frames ∧ 19 + mm2.2.2.1 + 64 * d2 ≤ R.locals) (hf : k + mc2 ≤ R.cells ∧ n + ms2 ≤ R.slots) (hlen : As.length = n2) (hst : st = As.reverse ++ .inr (.inr (some b)) :: rest) (hcat : (rest.map q_cat).sum ≤ 8) {pc' : Nat} (hd : q_d mm.2.1 pc (.invokespecial index) 3 pc')
    (kk : ∀ (r : Option SV) (S' : SW) (M' : Mem), Post2 r S' M' → RW l g mm R mc ms Post pc' S' M' (k + mc2) (n + ms2) ls (r.toList ++ rest)) : RW l g mm R mc ms Post pc S M k n ls st := by
  obtain ⟨hd, rfl⟩ := hd
  have hst2 : st = (.inr (.inr (some b)) :: As : List SV).reverse ++ rest := by rw [hst]; simp
  refine R_run (Post2 := Post2) (rest := rest) (args2 := ((.inr (.inr (some b)) :: As : List SV).map q_V).toArray) ?_ (fun h => (q_arg h hst2).2) kk
  intro hl hs hM p e s m args below meth c H locs lsR X
  have hMet := hM2 (q_arg hs hst2).1 hM
  obtain ⟨c1, c2, c3, c4, c5, c6, c7, c8, c9⟩ := q_callB (R := R) (mc2 := mc2) (ms2 := ms2) (args := args) hm.1 hR X.1.2.2.2.2.2.1
  have hp : PreS s H (va_Pc ((.inr (.inr (some b)) :: As : List SV).map q_V) (q_B g S M)) (.ref b :: As.map q_V) := ⟨q_blind _ _ _ _, fun U hU hW => ⟨rfl, q_pre X hU hW⟩⟩
  have hstk : (F0 m pc lsR (st.map q_V)).stack = (As.map q_V).reverse ++ .ref b :: rest.map q_V := by
    show st.map q_V = _
    rw [hst, List.map_append, List.map_reverse]
    rfl
  obtain ⟨⟨y, cd, mL, rt⟩, hmm⟩ : ∃ z, z = mm2 := ⟨_, rfl⟩
  subst hmm
  have hrt : rt = none := hm.2.2.2
  subst hrt
  rcases hw with hw | ⟨host, hw⟩
  · exact va_runI (Ts := []) (own := mm.1.cls) (n := n2) ⟨X.1.1, X.1.2.1, X.1.2.2.2.1, X.1.2.2.2.2.1, fun w h => absurd h List.not_mem_nil⟩ hMet ⟨⟨c1, c2, c3, c4, c5, c6, c7, c8, hm.1.2.2.1, c9, X.1.2.2.2.2.2.1.use hw⟩, hm.2.2.1, X.1.2.2.2.2.2.1.use hm.2.1⟩ hp rfl (by rw [List.length_map]; exact hlen) X.2.2.2.2.2.2.1 hstk (lv_room (by rw [q_sum]; exact hcat)) hd hf
  · exact va_runIN (Ts := []) (own := mm.1.cls) (n := n2) (host := host) ⟨X.1.1, X.1.2.1, X.1.2.2.2.1, X.1.2.2.2.2.1, fun w h => absurd h List.not_mem_nil⟩ hMet ⟨⟨⟨c1, c2, c3, c4, c5, c6⟩, c7, c8, hm.1.2.2.1, c9, X.1.2.2.2.2.2.1.use hw⟩, hm.2.2.1, X.1.2.2.2.2.2.1.use hm.2.1⟩ hp rfl (by rw [List.length_map]; exact hlen) X.2.2.2.2.2.2.1 hstk (lv_room (by rw [q_sum]; exact hcat)) hd hf
/-! ends -/
theorem q_end {p : Program} {s : State} {m : MethodId} {meth : Method} {c : Code} {H : Heap} {locs : List Loc} {lsR : Array Slot} {args : Array Value} (hM : q_RM M) (X : q_X g mm S M ls p s m meth c H locs lsR) {r : Option SV} (hp : Post r S M) (hr : ∀ v, r = some v → q_R v) {t : State} (ht : t.heap = H) (hW : s.WarmedH t.vm) : q_Q g Post args s (.returned (r.map q_V)) t :=
  ⟨⟨r, S, M, hp, hr, hM, rfl, by rw [ht]; exact X.2.2.1, X.2.2.2.1.moved hW.alike⟩, X.2.1.F ht⟩
theorem R_iret {v : Int} {ty : FieldType} (hr : mm.2.2.2 = some ty) (hn : narrow ty (.int (Int32.ofInt v)) = .int (Int32.ofInt v)) (hk : k ≤ mc) (hn2 : n ≤ ms) {pc' : Nat} (hd : q_d mm.2.1 pc (.ireturn) 1 pc') (hp : Post (some (.inl v)) S M) : RW l g mm R mc ms Post pc S M k n ls [.inl v] := by
  obtain ⟨hd, rfl⟩ := hd
  intro hl hs hM p e s m args below meth c H locs lsR X
  refine W.widen hk hn2 ?_
  exact W.zret (ty := ty) X.1.1 X.1.2.1 (X.1.2.2.1.trans hr) hn (fun t ht hW => q_end (r := some (.inl v)) hM X hp (fun w hw => by cases hw; exact hs.hd) ht hW) (fun q hq => X.2.1.2.2 q hq) hd X.1.2.2.2.2.2.2.1
theorem R_lret {v : Int} (hr : mm.2.2.2 = some .long) (hk : k ≤ mc) (hn2 : n ≤ ms) {pc' : Nat} (hd : q_d mm.2.1 pc (.lreturn) 1 pc') (hp : Post (some (.inr (.inl v))) S M) : RW l g mm R mc ms Post pc S M k n ls [.inr (.inl v)] := by
  obtain ⟨hd, rfl⟩ := hd
  intro hl hs hM p e s m args below meth c H locs lsR X
  refine W.widen hk hn2 ?_
  exact W.lret X.1.1 X.1.2.1 (X.1.2.2.1.trans hr) (fun t ht hW => q_end (r := some (.inr (.inl v))) hM X hp (fun w hw => by cases hw; exact hs.hd) ht hW) (fun q hq => X.2.1.2.2 q hq) hd X.1.2.2.2.2.2.2.1
theorem q_V_ref (v : Option Nat) : q_V (.inr (.inr v)) = .null ∨ ∃ a, q_V (.inr (.inr v)) = .ref a := by
  cases v with
  | none => exact Or.inl rfl
  | some a => exact Or.inr ⟨a, rfl⟩
theorem R_aret {v : Option Nat} {rt : FieldType} (hr : mm.2.2.2 = some rt) (hrt : (∃ n, rt = .object n) ∨ ∃ t, rt = .array t) (hk : k ≤ mc) (hn2 : n ≤ ms) {pc' : Nat} (hd : q_d mm.2.1 pc (.areturn) 1 pc') (hp : Post (some (.inr (.inr v))) S M) : RW l g mm R mc ms Post pc S M k n ls [.inr (.inr v)] := by
  obtain ⟨hd, rfl⟩ := hd
  intro hl hs hM p e s m args below meth c H locs lsR X
  refine W.widen hk hn2 ?_
  exact W.aret (v := q_V (.inr (.inr v))) X.1.1 X.1.2.1 (X.1.2.2.1.trans hr) hrt (q_V_ref v) (fun t ht hW => q_end (r := some (.inr (.inr v))) hM X hp (fun w hw => by cases hw; exact trivial) ht hW) (fun q hq => X.2.1.2.2 q hq) hd X.1.2.2.2.2.2.2.1
theorem R_vret (hr : mm.2.2.2 = none) (hk : k ≤ mc) (hn2 : n ≤ ms) {pc' : Nat} (hd : q_d mm.2.1 pc (.return_) 1 pc') (hp : Post none S M) : RW l g mm R mc ms Post pc S M k n ls [] := by
  obtain ⟨hd, rfl⟩ := hd
  intro hl hs hM p e s m args below meth c H locs lsR X
  refine W.widen hk hn2 ?_
  exact W.vret X.1.1 X.1.2.1 (X.1.2.2.1.trans hr) (fun t ht hW => q_end (r := none) hM X hp (fun w hw => by cases hw) ht hW) (fun q hq => X.2.1.2.2 q hq) hd X.1.2.2.2.2.2.2.1
end CALLS
/-- the locals at a method's entry -/
def q_ent : List SV → List (Option SV)
  | [] => []
  | .inl z :: l => some (.inl z) :: q_ent l
  | .inr (.inl z) :: l => some (.inr (.inl z)) :: none :: q_ent l
  | .inr (.inr r) :: l => some (.inr (.inr r)) :: q_ent l
theorem q_ent_at : ∀ (vs : List SV) (i j : Nat) (v : SV), (q_ent vs)[j]? = some (some v) → (i + j, q_V v) ∈ lv_args i (vs.map q_V) := by
  intro vs
  induction vs with
  | nil => intro i j v h; simp [q_ent] at h
  | cons w vs ih =>
    intro i j v h
    rcases w with z | (z | r)
    · cases j with
      | zero => simp [q_ent] at h; subst h; simp [lv_args]
      | succ j =>
        simp [q_ent] at h
        have h2 := ih (i + 1) j v h
        rw [List.map_cons, lv_args]
        refine List.mem_cons_of_mem _ ?_
        rw [if_neg (by simp [q_V, Value.category]), show i + (j + 1) = i + 1 + j by omega]
        exact h2
    · cases j with
      | zero => simp [q_ent] at h; subst h; simp [lv_args]
      | succ j =>
        cases j with
        | zero => simp [q_ent] at h
        | succ j =>
          simp [q_ent] at h
          have h2 := ih (i + 2) j v h
          rw [List.map_cons, lv_args]
          refine List.mem_cons_of_mem _ ?_
          rw [if_pos (by simp [q_V, Value.category]), show i + (j + 1 + 1) = i + 2 + j by omega]
          exact h2
    · have hc : ¬ (q_V (.inr (.inr r))).category = 2 := by rw [q_cat_eq]; simp [q_cat]
      cases j with
      | zero => simp [q_ent] at h; subst h; simp [lv_args]
      | succ j =>
        simp [q_ent] at h
        have h2 := ih (i + 1) j v h
        rw [List.map_cons, lv_args]
        refine List.mem_cons_of_mem _ ?_
        rw [if_neg hc, show i + (j + 1) = i + 1 + j by omega]
        exact h2
theorem q_ent_len : ∀ vs : List SV, (lg_sl (vs.map q_V)).length = (q_ent vs).length := by
  intro vs
  induction vs with
  | nil => rfl
  | cons w vs ih => rcases w with z | (z | (_ | a)) <;> simp [q_ent, lg_sl, q_V, Value.category] at ih ⊢ <;> omega
theorem q_ent_R : ∀ (vs : List SV), q_RL vs → q_RO (q_ent vs) := by
  intro vs
  induction vs with
  | nil => intro _ v h; simp [q_ent] at h
  | cons w vs ih =>
    intro h v hv
    rcases w with z | (z | r)
    · simp [q_ent] at hv
      rcases hv with rfl | hv
      · exact h.hd
      · exact ih h.tl v hv
    · simp [q_ent] at hv
      rcases hv with rfl | hv
      · exact h.hd
      · exact ih h.tl v hv
    · simp [q_ent] at hv
      rcases hv with rfl | hv
      · exact h.hd
      · exact ih h.tl v hv
theorem CT_of {l : Launch} {g : GG} {mm : MM} {d mc ms : Nat} {S : SW} {M : Mem} {args : List SV} {Post : PP} (hy : plainName mm.1.cls = true) (hlen : (q_ent args).length ≤ mm.2.2.1) {ls0 : List (Option SV)} (he : q_ent args ++ List.replicate (mm.2.2.1 - (q_ent args).length) none = ls0)
    (body : RW l g mm (q_rm d mc ms) mc ms Post 0 S M 0 0 ls0 []) : CT l g mm d mc ms S M args Post := by
  subst he
  intro hr hM
  refine Met.ofW (cc := mm.2.1) (maxL := mm.2.2.1) (ret := mm.2.2.2) hy rfl ?_
  intro p e s m args' below meth c s₁ B hml hv
  obtain ⟨rfl, hB, hP, hK, hZ, hT⟩ := hv
  have hl := lv_entry (args.map q_V) (n := mm.2.2.1) (by rw [q_ent_len]; exact hlen)
  rw [lg_entry_eq]
  generalize (lg_sl (args.map q_V) ++ List.replicate (mm.2.2.1 - (lg_sl (args.map q_V)).length) Slot.unset).toArray = lsR at hl ⊢
  have hL : q_L lsR mm.2.2.1 (q_ent args ++ List.replicate (mm.2.2.1 - (q_ent args).length) none) := by
    refine ⟨hl.1, hl.2.1, fun i v hi => ?_⟩
    by_cases h : i < (q_ent args).length
    · rw [List.getElem?_append_left h] at hi
      have h2 := q_ent_at args 0 i v hi
      rw [Nat.zero_add] at h2
      exact hl.2.2 _ h2
    · rw [List.getElem?_append_right (by omega)] at hi
      have h3 := List.eq_of_mem_replicate (List.mem_of_getElem? hi)
      cases h3
  have hRO : q_RO (q_ent args ++ List.replicate (mm.2.2.1 - (q_ent args).length) none) := by
    intro v hv
    rcases List.mem_append.mp hv with h | h
    · exact q_ent_R args hr v h
    · cases List.eq_of_mem_replicate h
  have hC : q_C mm p s m meth c := ⟨B.exec, B.bytes, B.returns, hml, findClass_of_methodNamed B.named, hT, B.notSynchronized, (name_of_methodNamed B.named B.method).1⟩
  exact body hRO q_RL.nil hM p e s m (args.map q_V).toArray below meth c s.heap [] lsR ⟨hC, va_S.rf, hP, hK, hZ, hB, hL⟩
theorem q_room_mono {s : State} {pl : Platform} {r r' : Room} (hf : r.frames ≤ r'.frames) (hl : r.locals ≤ r'.locals) (hc : r.cells ≤ r'.cells) (hs : r.slots ≤ r'.slots) (h : s.hasRoom pl r' = true) : s.hasRoom pl r = true := by
  simp only [State.hasRoom, Bool.and_eq_true, decide_eq_true_eq] at h ⊢
  obtain ⟨⟨⟨⟨y, a, b, c, d, e⟩, f⟩, g⟩, i⟩ := h
  exact ⟨⟨⟨⟨by omega, by omega, by omega, by omega, by omega, e⟩, by omega⟩, by omega⟩, i⟩
theorem CT_mono {l : Launch} {g : GG} {mm : MM} {d d2 mc ms : Nat} {S : SW} {M : Mem} {args : List SV} {Post : PP} (h : CT l g mm d mc ms S M args Post) (hd : d ≤ d2) : CT l g mm d2 mc ms S M args Post := by
  intro hr hM p e ha hcs hk s m a below hfr happ hP hK
  obtain ⟨a1, a2, a3, a4, a5, a6, a7, a8⟩ := (Spec.appliesLoose_iff hfr).mp happ
  refine h hr hM p e ha hcs hk s m a below hfr ((Spec.appliesLoose_iff hfr).mpr ⟨a1, a2, a3, a4, a5, a6, ?_, a8⟩) hP hK
  exact q_room_mono (r := q_rm d mc ms) (r' := q_rm d2 mc ms) hd (Nat.mul_le_mul_left 64 hd) (Nat.le_refl _) (Nat.le_refl _) a7
/-- an exact answer: this value, this memory, the same cells -/
def q_ex (S : SW) (r : Option SV) (M' : Mem) : PP := fun r2 S2 M2 => r2 = r ∧ S2 = S ∧ M2 = M'
section EXACT
variable {l : Launch} {g : GG} {mm : MM} {R : Room} {mc ms : Nat} {Post : PP} {pc : Nat} {S : SW} {M M2 : Mem} {k n : Nat} {ls : List (Option SV)} {st st' : List SV}
theorem R_cS {mm2 : MM} {d2 n2 : Nat} {r : Option SV} (args2 rest : List SV) (hM2 : CT l g mm2 d2 0 0 S M args2 (q_ex S r M2)) (hm : q_ms mm2 n2) {index : Nat} (hw : q_ml mm.1.cls index mm2.1) (hR : d2 + 1 ≤ R.frames ∧ 19 + mm2.2.2.1 + 64 * d2 ≤ R.locals) (hk : k ≤ R.cells) (hn : n ≤ R.slots) (hlen : args2.length = n2) (hst : st = args2.reverse ++ rest) (hcat : (rest.map q_cat).sum ≤ 8) (hst' : r.toList ++ rest = st') {pc' : Nat} (hd : q_d mm.2.1 pc (.invokestatic index) 3 pc')
    (kk : RW l g mm R mc ms Post pc' S M2 k n ls st') : RW l g mm R mc ms Post pc S M k n ls st := by
  obtain ⟨hd, rfl⟩ := hd
  subst hst'
  refine R_callS (rest := rest) hM2 hm hw hR ⟨hk, hn⟩ hlen hst hcat ⟨hd, rfl⟩ ?_
  rintro r2 S2 M3 ⟨rfl, rfl, rfl⟩
  exact kk
theorem R_cV {mm2 : MM} {d2 n2 b : Nat} {r : Option SV} (As rest : List SV) (hM2 : CT l g mm2 d2 0 0 S M (.inr (.inr (some b)) :: As) (q_ex S r M2)) (hm : q_mv mm2 n2) {index : Nat} (hw : q_ml mm.1.cls index mm2.1) (hrc : q_rc g S b mm2.1.cls) (hR : d2 + 1 ≤ R.frames ∧ 19 + mm2.2.2.1 + 64 * d2 ≤ R.locals) (hk : k ≤ R.cells) (hn : n ≤ R.slots) (hlen : As.length = n2) (hst : st = As.reverse ++ .inr (.inr (some b)) :: rest) (hcat : (rest.map q_cat).sum ≤ 8) (hst' : r.toList ++ rest = st') {pc' : Nat} (hd : q_d mm.2.1 pc (.invokevirtual index) 3 pc')
    (kk : RW l g mm R mc ms Post pc' S M2 k n ls st') : RW l g mm R mc ms Post pc S M k n ls st := by
  obtain ⟨hd, rfl⟩ := hd
  subst hst'
  refine R_callV (rest := rest) hM2 hm hw hrc hR ⟨hk, hn⟩ hlen hst hcat ⟨hd, rfl⟩ ?_
  rintro r2 S2 M3 ⟨rfl, rfl, rfl⟩
  exact kk
end EXACT
/-! the told functions -/
theorem ite_T {α : Sort _} {c : Prop} [Decidable c] {x y o : α} (h : (if c then x else y) = o) (hc : c) : x = o := (if_pos hc).symm.trans h
theorem ite_F {α : Sort _} {c : Prop} [Decidable c] {x y o : α} (h : (if c then x else y) = o) (hc : ¬ c) : y = o := (if_neg hc).symm.trans h
/-- a guard: what is told behind it holds where it holds -/
theorem ite_G {α : Type} {c : Prop} [Decidable c] {x : Option α} {o : α} (h : (if c then x else none) = some o) : c ∧ x = some o := by
  by_cases hc : c
  · exact ⟨hc, ite_T h hc⟩
  · exact absurd (ite_F h hc) (by simp)
def ob {α : Type} (x : Option (Int × Mem)) (k : Int → Mem → Option α) : Option α := match x with
  | none => none
  | some p => k p.1 p.2
theorem ob_E {α : Type} {x : Option (Int × Mem)} {k : Int → Mem → Option α} {o : α} (h : ob x k = some o) : ∃ (r : Int) (M1 : Mem), x = some (r, M1) ∧ k r M1 = some o := by
  cases x with
  | none => cases h
  | some p => exact ⟨p.1, p.2, rfl, h⟩
theorem ob_I {α : Type} {x : Option (Int × Mem)} {k : Int → Mem → Option α} {o : Option α} {r : Int} {M1 : Mem} (h : x = some (r, M1)) (hk : k r M1 = o) : ob x k = o := by subst h; exact hk
theorem op_E {α : Type} {x : Option Int} {k : Int → Option α} {o : α} (h : x.bind k = some o) : ∃ r : Int, x = some r ∧ k r = some o := by
  cases x with
  | none => cases h
  | some p => exact ⟨p, rfl, h⟩
def rd (N : Nat) (f : Nat → Int) (i : Int) : Int := if 0 ≤ i ∧ i < (N : Int) then f i.toNat else 0
def wr (M : Mem) (c N : Nat) (i v : Int) : Mem := if 0 ≤ i ∧ i < (N : Int) then mset M c i.toNat v else M
def frT : Nat → Int := fun j => ([120, 24, 6, 2, 1, 1] : List Int).getD j 0
def frK : Nat → Int := fun j => ([-1, 0, 0, 2, 1, 2] : List Int).getD j 0
theorem q_nbz {v : Int} (h : v = 0 ∨ v = 1) : narrow .boolean (.int (Int32.ofInt v)) = .int (Int32.ofInt v) := by
  rcases h with rfl | rfl <;> rfl
theorem q_fbz {v : Int} (h : v = 0 ∨ v = 1) : fits .boolean (.int (Int32.ofInt v)) = true := by
  rcases h with rfl | rfl <;> rfl
def mcpy (M : Mem) (i j sp dp z : Nat) : Mem := mup M j (fun x => if dp ≤ x ∧ x < dp + z then M i (sp + (x - dp)) else M j x)
theorem sc_nar2 (a : Int) : narrow .char (.int (Int32.ofInt (b_i2c a))) = .int (Int32.ofInt (b_i2c a)) := by
  unfold b_i2c
  rw [Int32.ofInt_toInt]
  exact pk_nc _
theorem sc_nar3 {a : Int} (h : b_i2c a = a) : narrow .char (.int (Int32.ofInt a)) = .int (Int32.ofInt a) := by
  have h2 := sc_nar2 a
  rw [h] at h2
  exact h2
