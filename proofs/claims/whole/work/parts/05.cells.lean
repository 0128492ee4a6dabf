/-! fields, rows of numbers, new cells, calls, ends -/
def q_cg (ci : Nat) (C : String) (T : u_T) (N : Nat) (ty : Nat → FieldType) : Prop := q_cl[ci]? = some (C, T, N) ∧ (∀ w ∈ u_ws C T N, q_in w) ∧ (∀ k, k < N → parseFieldDescriptor (T k).2.2.1 = some (ty k)) ∧ (∀ a, a < N → ∀ b, b < N → a ≠ b → (T a).2.1 ≠ (T b).2.1)
def q_fk (own : String) (index : Nat) (t : String × String × String × Bool) : Prop := q_in (.fieldLink own index t.1 t.2.1 t.2.2.1) ∨ ∃ host, q_in (.fieldLinkNest own index t.1 t.2.1 t.2.2.1 host)
theorem mup_self (M : Mem) (k : Nat) : mup M k (M k) = M := by
  funext i
  unfold mup
  split
  · next h => rw [h]
  · rfl
theorem q_W_put {cI : ClassId} {M : Mem} {S : SW} {i a ci j : Nat} {fs : List (Option (Option Nat))} (v : Int) (hS : S[i]? = some (a, .inr (ci, fs))) (hf : fs[j]? = some none) :
    (q_W cI M 0 S).set i (a, .inr (ci, (q_F (M i) 0 fs).set j (.int (Int32.ofInt v)))) = q_W cI (mset M i j v) 0 S := by
  rw [q_F_set v hf, mset_mup]
  have h := q_W_set (cI := cI) (M := M) (c' := .inr (ci, fs)) (fun x => if x = j then v else M i x) hS
  rw [q_set_same hS] at h
  exact h
theorem q_W_putR {cI : ClassId} {M : Mem} {S : SW} {i a ci j : Nat} {fs : List (Option (Option Nat))} (r : Option Nat) (hS : S[i]? = some (a, .inr (ci, fs))) (hf : j < fs.length) :
    (q_W cI M 0 S).set i (a, .inr (ci, (q_F (M i) 0 fs).set j (q_V (.inr (.inr r))))) = q_W cI M 0 (S.set i (a, .inr (ci, fs.set j (some r)))) := by
  rw [q_F_setR r hf]
  have h := q_W_set (cI := cI) (M := M) (c' := .inr (ci, fs.set j (some r))) (M i) hS
  rw [mup_self] at h
  exact h
theorem q_W_upd {cI : ClassId} {M : Mem} {S : SW} {i a N : Nat} (x : Nat) (v : Int) (hS : S[i]? = some (a, .inl N)) :
    (q_W cI M 0 S).set i (a, .inl (cI, N, .inl (upd (fun j => Int32.ofInt (M i j)) x (Int32.ofInt v)))) = q_W cI (mset M i x v) 0 S := by
  have e : upd (fun j => Int32.ofInt (M i j)) x (Int32.ofInt v) = fun j => Int32.ofInt (if j = x then v else M i j) := by
    funext j
    unfold upd
    split <;> rfl
  rw [e, mset_mup]
  have h := q_W_set (cI := cI) (M := M) (c' := .inl N) (fun j => if j = x then v else M i j) hS
  rw [q_set_same hS] at h
  exact h
section CELLS
variable {l : Launch} {g : GG} {mm : MM} {R : Room} {mc ms : Nat} {Post : PP} {pc : Nat} {S : SW} {M : Mem} {k n : Nat} {ls : List (Option SV)} {st : List SV}
theorem R_getI {ci N : Nat} {C : String} {T : u_T} {ty : Nat → FieldType} (hC : q_cg ci C T N ty) (i : Nat) {a : Nat} {fs : List (Option (Option Nat))} (hS : S[i]? = some (a, .inr (ci, fs))) (j : Nat) (hj : j < N) (hf : fs[j]? = some none) {index : Nat} (hw : q_fk mm.1.cls index (T j)) {pc' : Nat} (hd : q_d mm.2.1 pc (.getfield index) 3 pc')
    (kk : RW l g mm R mc ms Post pc' S M k n ls (.inl (M i j) :: st)) : RW l g mm R mc ms Post pc S M k n ls (.inr (.inr (some a)) :: st) := by
  obtain ⟨hd, rfl⟩ := hd
  intro hl hs hM p e s m args below meth c H locs lsR X
  have kw := kk hl (q_RL.cons (hM i j) hs.tl) hM p e s m args below meth c H locs lsR X
  have he := q_W_at (cI := g.2.2.1) (M := M) hS
  have hv : (q_F (M i) 0 fs)[j]? = some (.int (Int32.ofInt (M i j))) := by rw [q_F_get, hf]; simp
  rcases hw with hw | ⟨host, hw⟩
  · exact va_get (own := mm.1.cls) (ref := (T j).1) (Ts := u_ws C T N) X.1.1 X.1.2.1 (fun w h => X.1.2.2.2.2.2.1.use (hC.2.1 w h)) (fun w h => h) X.1.2.2.2.2.1 X.2.2.2.1 X.2.2.1.1 i he hC.1 j hj (X.1.2.2.2.2.2.1.use hw) (fun _ h => h) hv hd kw
  · exact va_getN (own := mm.1.cls) (ref := (T j).1) (Ts := u_ws C T N) X.1.1 X.1.2.1 (fun w h => X.1.2.2.2.2.2.1.use (hC.2.1 w h)) (fun w h => h) X.1.2.2.2.2.1 X.2.2.2.1 X.2.2.1.1 i he hC.1 j hj (X.1.2.2.2.2.2.1.use hw) (fun _ h => h) hv hd kw
theorem R_getR {ci N : Nat} {C : String} {T : u_T} {ty : Nat → FieldType} (hC : q_cg ci C T N ty) (i : Nat) {a : Nat} {fs : List (Option (Option Nat))} (hS : S[i]? = some (a, .inr (ci, fs))) (j : Nat) (hj : j < N) {r : Option Nat} (hf : fs[j]? = some (some r)) {index : Nat} (hw : q_fk mm.1.cls index (T j)) {pc' : Nat} (hd : q_d mm.2.1 pc (.getfield index) 3 pc')
    (kk : RW l g mm R mc ms Post pc' S M k n ls (.inr (.inr r) :: st)) : RW l g mm R mc ms Post pc S M k n ls (.inr (.inr (some a)) :: st) := by
  obtain ⟨hd, rfl⟩ := hd
  intro hl hs hM p e s m args below meth c H locs lsR X
  have kw := kk hl (q_RL.cons trivial hs.tl) hM p e s m args below meth c H locs lsR X
  have he := q_W_at (cI := g.2.2.1) (M := M) hS
  have hv : (q_F (M i) 0 fs)[j]? = some (q_V (.inr (.inr r))) := by rw [q_F_get, hf]; rcases r with _ | r <;> rfl
  rcases hw with hw | ⟨host, hw⟩
  · exact va_get (own := mm.1.cls) (ref := (T j).1) (Ts := u_ws C T N) X.1.1 X.1.2.1 (fun w h => X.1.2.2.2.2.2.1.use (hC.2.1 w h)) (fun w h => h) X.1.2.2.2.2.1 X.2.2.2.1 X.2.2.1.1 i he hC.1 j hj (X.1.2.2.2.2.2.1.use hw) (fun _ h => h) hv hd kw
  · exact va_getN (own := mm.1.cls) (ref := (T j).1) (Ts := u_ws C T N) X.1.1 X.1.2.1 (fun w h => X.1.2.2.2.2.2.1.use (hC.2.1 w h)) (fun w h => h) X.1.2.2.2.2.1 X.2.2.2.1 X.2.2.1.1 i he hC.1 j hj (X.1.2.2.2.2.2.1.use hw) (fun _ h => h) hv hd kw
theorem R_putI {ci N : Nat} {C : String} {T : u_T} {ty : Nat → FieldType} (hC : q_cg ci C T N ty) (i : Nat) {a : Nat} {fs : List (Option (Option Nat))} (hS : S[i]? = some (a, .inr (ci, fs))) (j : Nat) (hj : j < N) (hf : fs[j]? = some none) {v : Int} (hty : narrow (ty j) (.int (Int32.ofInt v)) = .int (Int32.ofInt v)) (hfit : fits (ty j) (.int (Int32.ofInt v)) = true) (hfin : (T j).2.2.2 = false) {index : Nat} (hw : q_fk mm.1.cls index (T j)) {pc' : Nat} (hd : q_d mm.2.1 pc (.putfield index) 3 pc')
    (kk : RW l g mm R mc ms Post pc' S (mset M i j v) k n ls st) : RW l g mm R mc ms Post pc S M k n ls (.inl v :: .inr (.inr (some a)) :: st) := by
  obtain ⟨hd, rfl⟩ := hd
  intro hl hs hM p e s m args below meth c H locs lsR X
  have he := q_W_at (cI := g.2.2.1) (M := M) hS
  have key : ∀ (H1 : Heap) (locs1 : List Loc), va_P g.2.1 q_cl ((q_W g.2.2.1 M 0 S).set i (a, .inr (ci, (q_F (M i) 0 fs).set j (.int (Int32.ofInt v))))) H1 → va_D (q_A g) ((q_W g.2.2.1 M 0 S).set i (a, .inr (ci, (q_F (M i) 0 fs).set j (.int (Int32.ofInt v))))) → va_S (q_A g) s.heap H1 locs1 → W p l e R s m args below meth c H1 locs1 k n (MQ below (q_Q g Post) args s mc ms (q_A g)) (F0 m (pc + 3) lsR (st.map q_V)) := by
    intro H1 locs1 h1 h2 h3
    rw [q_W_put v hS hf] at h1 h2
    exact kk hl hs.tl.tl (hM.set hs.hd) p e s m args below meth c H1 locs1 lsR ⟨X.1, h3, ⟨h1, h2⟩, X.2.2.2.1, X.2.2.2.2.1, X.2.2.2.2.2.1, X.2.2.2.2.2.2⟩
  have hl2 : j < (q_F (M i) 0 fs).length := by rw [q_F_len]; exact (List.getElem?_eq_some_iff.mp hf).1
  rcases hw with hw | ⟨host, hw⟩
  · exact va_put (own := mm.1.cls) (ref := (T j).1) (Ts := u_ws C T N) X.1.1 X.1.2.1 (fun w h => X.1.2.2.2.2.2.1.use (hC.2.1 w h)) (fun w h => h) ty hC.2.2.1 hC.2.2.2 X.1.2.2.2.2.1 X.2.2.2.1 X.2.2.1.1 X.2.2.1.2 X.2.1 i he hC.1 j hj (X.1.2.2.2.2.2.1.use hw) (fun _ h => h) hfin (hC.2.2.1 j hj) hty hfit hl2 hd key
  · exact va_putN (own := mm.1.cls) (ref := (T j).1) (Ts := u_ws C T N) X.1.1 X.1.2.1 (fun w h => X.1.2.2.2.2.2.1.use (hC.2.1 w h)) (fun w h => h) ty hC.2.2.1 hC.2.2.2 X.1.2.2.2.2.1 X.2.2.2.1 X.2.2.1.1 X.2.2.1.2 X.2.1 i he hC.1 j hj (X.1.2.2.2.2.2.1.use hw) (fun _ h => h) hfin (hC.2.2.1 j hj) hty hfit hl2 hd key
theorem R_putR {ci N : Nat} {C : String} {T : u_T} {ty : Nat → FieldType} (hC : q_cg ci C T N ty) (i : Nat) {a : Nat} {fs : List (Option (Option Nat))} (hS : S[i]? = some (a, .inr (ci, fs))) (j : Nat) (hj : j < N) (hf : j < fs.length) {r : Nat} (hty : narrow (ty j) (.ref r) = .ref r) (hfit : fits (ty j) (.ref r) = true) (hfin : (T j).2.2.2 = true) (hin : mm.1.name = "<init>") (hdecl : (T j).1 = mm.1.cls) {index : Nat} (hw : q_in (.fieldLink mm.1.cls index (T j).1 (T j).2.1 (T j).2.2.1)) {pc' : Nat} (hd : q_d mm.2.1 pc (.putfield index) 3 pc') {S' : SW} (hS' : S.set i (a, .inr (ci, fs.set j (some (some r)))) = S')
    (kk : RW l g mm R mc ms Post pc' S' M k n ls st) : RW l g mm R mc ms Post pc S M k n ls (.inr (.inr (some r)) :: .inr (.inr (some a)) :: st) := by
  obtain ⟨hd, rfl⟩ := hd
  subst hS'
  intro hl hs hM p e s m args below meth c H locs lsR X
  have he := q_W_at (cI := g.2.2.1) (M := M) hS
  have hl2 : j < (q_F (M i) 0 fs).length := by rw [q_F_len]; exact hf
  refine va_putF (own := mm.1.cls) (ref := (T j).1) (Ts := u_ws C T N) X.1.1 X.1.2.1 (fun w h => X.1.2.2.2.2.2.1.use (hC.2.1 w h)) (fun w h => h) ty hC.2.2.1 hC.2.2.2 X.1.2.2.2.2.1 X.2.2.2.1 X.2.2.1.1 X.2.2.1.2 X.2.1 i he hC.1 j hj (X.1.2.2.2.2.2.1.use hw) (fun _ h => h) hfin (X.1.2.2.2.2.2.2.2.trans hin) hdecl (hC.2.2.1 j hj) hty hfit hl2 hd ?_
  intro H1 locs1 h1 h2 h3
  have e1 := q_W_putR (cI := g.2.2.1) (M := M) (some r) hS hf
  rw [e1] at h1 h2
  exact kk hl hs.tl.tl hM p e s m args below meth c H1 locs1 lsR ⟨X.1, h3, ⟨h1, h2⟩, X.2.2.2.1, X.2.2.2.2.1, X.2.2.2.2.2.1, X.2.2.2.2.2.2⟩
theorem R_iald (i : Nat) {a N : Nat} (hS : S[i]? = some (a, .inl N)) {x : Int} (hin : 0 ≤ x ∧ x < N) {pc' : Nat} (hd : q_d mm.2.1 pc (.iaload) 1 pc')
    (kk : RW l g mm R mc ms Post pc' S M k n ls (.inl (M i x.toNat) :: st)) : RW l g mm R mc ms Post pc S M k n ls (.inl x :: .inr (.inr (some a)) :: st) := by
  obtain ⟨hd, rfl⟩ := hd
  intro hl hs hM p e s m args below meth c H locs lsR X
  have kw := kk hl (q_RL.cons (hM i _) hs.tl.tl) hM p e s m args below meth c H locs lsR X
  have he := q_W_at (cI := g.2.2.1) (M := M) hS
  refine va_iald X.1.1 X.1.2.1 X.2.2.2.1 X.2.2.1.1 i 0 he rfl (q_in_vp hs.hd hin) hd ?_
  rw [q_pos hin.1 hs.hd]
  exact kw
theorem R_iast (i : Nat) {a N : Nat} (hS : S[i]? = some (a, .inl N)) {x v : Int} (hin : 0 ≤ x ∧ x < N) {pc' : Nat} (hd : q_d mm.2.1 pc (.iastore) 1 pc')
    (kk : RW l g mm R mc ms Post pc' S (mset M i x.toNat v) k n ls st) : RW l g mm R mc ms Post pc S M k n ls (.inl v :: .inl x :: .inr (.inr (some a)) :: st) := by
  obtain ⟨hd, rfl⟩ := hd
  intro hl hs hM p e s m args below meth c H locs lsR X
  have he := q_W_at (cI := g.2.2.1) (M := M) hS
  refine va_iast X.1.1 X.1.2.1 X.2.2.2.1 X.2.2.1.1 X.2.2.1.2 X.2.1 i 0 he rfl (q_in_vp hs.tl.hd hin) hd ?_
  intro H1 locs1 h1 h2 h3
  rw [q_pos hin.1 hs.tl.hd, q_W_upd x.toNat v hS] at h1 h2
  exact kk hl hs.tl.tl.tl (hM.set hs.hd) p e s m args below meth c H1 locs1 lsR ⟨X.1, h3, ⟨h1, h2⟩, X.2.2.2.1, X.2.2.2.2.1, X.2.2.2.2.2.1, X.2.2.2.2.2.2⟩
theorem q_nat32 {N : Nat} (h : N < 2147483648) : r32 (N : Int) := by unfold r32; omega
theorem R_alen (i : Nat) {a N : Nat} (hS : S[i]? = some (a, .inl N)) (hN : N < 2147483648) {pc' : Nat} (hd : q_d mm.2.1 pc (.arraylength) 1 pc')
    (kk : RW l g mm R mc ms Post pc' S M k n ls (.inl (N : Int) :: st)) : RW l g mm R mc ms Post pc S M k n ls (.inr (.inr (some a)) :: st) := by
  obtain ⟨hd, rfl⟩ := hd
  intro hl hs hM p e s m args below meth c H locs lsR X
  have kw := kk hl (q_RL.cons (q_nat32 hN) hs.tl) hM p e s m args below meth c H locs lsR X
  have he := q_W_at (cI := g.2.2.1) (M := M) hS
  exact va_alen X.1.1 X.1.2.1 X.2.2.2.1 X.2.2.1.1 i 0 he rfl (Int32.ofInt_eq_ofNat (n := N)).symm hd kw
/-- the frozen rows -/
theorem R_ialdF (j : Nat) (hj : j < 3) {x : Int} (hin : 0 ≤ x ∧ x < q_fl g j) {pc' : Nat} (hd : q_d mm.2.1 pc (.iaload) 1 pc')
    (kk : RW l g mm R mc ms Post pc' S M k n ls (.inl (q_ff g j x.toNat) :: st)) : RW l g mm R mc ms Post pc S M k n ls (.inl x :: .inr (.inr (some (g.2.2.2.1 j))) :: st) := by
  obtain ⟨hd, rfl⟩ := hd
  intro hl hs hM p e s m args below meth c H locs lsR X
  have kw := kk hl (q_RL.cons (X.2.2.2.2.1.1.1 j _) hs.tl.tl) hM p e s m args below meth c H locs lsR X
  exact va_ti X.1.1 X.1.2.1 (X.2.2.2.2.1.2.1 j hj) X.2.1 (q_in_vp hs.hd hin) (by rw [q_pos hin.1 hs.hd]; rfl) hd kw
theorem R_alenF (j : Nat) (hj : j < 3) {pc' : Nat} (hd : q_d mm.2.1 pc (.arraylength) 1 pc')
    (kk : RW l g mm R mc ms Post pc' S M k n ls (.inl (q_fl g j : Int) :: st)) : RW l g mm R mc ms Post pc S M k n ls (.inr (.inr (some (g.2.2.2.1 j))) :: st) := by
  obtain ⟨hd, rfl⟩ := hd
  intro hl hs hM p e s m args below meth c H locs lsR X
  have hN : q_fl g j < 2147483648 := by
    have h := X.2.2.2.2.1.1.2
    rcases j with _ | j
    · show g.2.2.2.2.2.1 < _; omega
    · show 6 < _; omega
  have kw := kk hl (q_RL.cons (q_nat32 hN) hs.tl) hM p e s m args below meth c H locs lsR X
  exact va_tlen X.1.1 X.1.2.1 (X.2.2.2.2.1.2.1 j hj) X.2.1 (Int32.ofInt_eq_ofNat (n := q_fl g j)).symm hd kw
theorem R_gets {C nm d : String} {v : SV} (sel : ∀ (s : State) (H : Heap), q_Z g s H → va_Z C nm d (q_V v) (q_A g) s H) (hv : q_R v) {index : Nat} (hw : q_in (.fieldLink mm.1.cls index C nm d) ∨ ∃ host, q_in (.fieldLinkNest mm.1.cls index C nm d host)) {pc' : Nat} (hd : q_d mm.2.1 pc (.getstatic index) 3 pc')
    (kk : RW l g mm R mc ms Post pc' S M k n ls (v :: st)) : RW l g mm R mc ms Post pc S M k n ls st := by
  obtain ⟨hd, rfl⟩ := hd
  intro hl hs hM p e s m args below meth c H locs lsR X
  have kw := kk hl (q_RL.cons hv hs) hM p e s m args below meth c H locs lsR X
  rcases hw with hw | ⟨host, hw⟩
  · exact va_gets X.1.1 X.1.2.1 (sel s s.heap X.2.2.2.2.1) X.2.1 X.1.2.2.2.2.1 (X.1.2.2.2.2.2.1.use hw) (fun _ h => h) hd kw
  · exact va_getsN X.1.1 X.1.2.1 (sel s s.heap X.2.2.2.2.1) X.2.1 X.1.2.2.2.2.1 (X.1.2.2.2.2.2.1.use hw) (fun _ h => h) hd kw
theorem sel_T (s : State) (H : Heap) (h : q_Z g s H) : va_Z "CardNobodyReads" "TURNS" "[I" (q_V (.inr (.inr (some (g.2.2.2.1 1))))) (q_A g) s H := h.2.2.1
theorem sel_K (s : State) (H : Heap) (h : q_Z g s H) : va_Z "CardNobodyReads" "KIND_ABOVE" "[I" (q_V (.inr (.inr (some (g.2.2.2.1 2))))) (q_A g) s H := h.2.2.2.1
theorem sel_C (s : State) (H : Heap) (h : q_Z g s H) : va_Z "java/lang/String" "COMPACT_STRINGS" "Z" (q_V (.inl 1)) (q_A g) s H := h.2.2.2.2.1
theorem sel_F (s : State) (H : Heap) (h : q_Z g s H) : va_Z "jdk/internal/util/Preconditions" "SIOOBE_FORMATTER" "Ljava/util/function/BiFunction;" (q_V (.inr (.inr g.2.2.2.2.1))) (q_A g) s H := h.2.2.2.2.2.1
theorem q_sB_get (i j : Nat) : (q_sB.getD i []).getD j 0 = Int32.ofInt ((q_sb i).getD j 0) := by
  unfold q_sB q_sb
  rw [List.getD_eq_getElem?_getD, List.getD_eq_getElem?_getD, List.getD_eq_getElem?_getD, List.getD_eq_getElem?_getD, List.getElem?_map, List.getElem?_map]
  cases q_str[i]? with
  | none => rfl
  | some q =>
    simp only [Option.map_some, Option.getD_some, List.getElem?_map]
    cases q.2.2.2[j]? <;> rfl
theorem q_sb_r (i j : Nat) : 0 ≤ (q_sb i).getD j 0 ∧ (q_sb i).getD j 0 < 128 := by
  have h : ∀ q ∈ q_str, ∀ b ∈ q.2.2.2, 0 ≤ b ∧ b < 128 := by decide +kernel
  unfold q_sb
  rw [List.getD_eq_getElem?_getD, List.getD_eq_getElem?_getD, List.getElem?_map]
  cases hq : q_str[i]? with
  | none => simp
  | some q =>
    simp only [Option.map_some, Option.getD_some]
    cases hb : q.2.2.2[j]? with
    | none => simp
    | some b => exact h q (List.mem_of_getElem? hq) b (List.mem_of_getElem? hb)
theorem R_bald (i : Nat) (hi : i < 14) {x : Int} (hin : 0 ≤ x ∧ x < (q_sl.getD i 0 : Nat)) {pc' : Nat} (hd : q_d mm.2.1 pc (.baload) 1 pc')
    (kk : RW l g mm R mc ms Post pc' S M k n ls (.inl ((q_sb i).getD x.toNat 0) :: st)) : RW l g mm R mc ms Post pc S M k n ls (.inl x :: .inr (.inr (some (g.2.2.2.1 (30 + i)))) :: st) := by
  obtain ⟨hd, rfl⟩ := hd
  intro hl hs hM p e s m args below meth c H locs lsR X
  have hr : r32 ((q_sb i).getD x.toNat 0) := by have := q_sb_r i x.toNat; unfold r32; omega
  have kw := kk hl (q_RL.cons hr hs.tl.tl) hM p e s m args below meth c H locs lsR X
  exact va_tb X.1.1 X.1.2.1 (X.2.2.2.2.1.2.2.2.2.2.2.1.1 i hi).2.2.2 X.2.1 (q_in_vp hs.hd hin) (by rw [q_pos hin.1 hs.hd]; show Value.int _ = _; rw [q_sB_get]; rfl) hd kw
theorem R_blen (i : Nat) (hi : i < 14) {pc' : Nat} (hd : q_d mm.2.1 pc (.arraylength) 1 pc')
    (kk : RW l g mm R mc ms Post pc' S M k n ls (.inl ((q_sl.getD i 0 : Nat) : Int) :: st)) : RW l g mm R mc ms Post pc S M k n ls (.inr (.inr (some (g.2.2.2.1 (30 + i)))) :: st) := by
  obtain ⟨hd, rfl⟩ := hd
  intro hl hs hM p e s m args below meth c H locs lsR X
  have hN : ∀ i, i < 14 → q_sl.getD i 0 < 2147483648 := by decide +kernel
  have kw := kk hl (q_RL.cons (q_nat32 (hN i hi)) hs.tl) hM p e s m args below meth c H locs lsR X
  exact va_tlen X.1.1 X.1.2.1 (X.2.2.2.2.1.2.2.2.2.2.2.1.1 i hi).2.2.2 X.2.1 (Int32.ofInt_eq_ofNat (n := q_sl.getD i 0)).symm hd kw
theorem R_strV (i : Nat) (hi : i < 14) {index : Nat} (hw : q_in (.fieldLink mm.1.cls index "java/lang/String" "value" "[B")) {pc' : Nat} (hd : q_d mm.2.1 pc (.getfield index) 3 pc')
    (kk : RW l g mm R mc ms Post pc' S M k n ls (.inr (.inr (some (g.2.2.2.1 (30 + i)))) :: st)) : RW l g mm R mc ms Post pc S M k n ls (.inr (.inr (some (g.2.2.2.1 (10 + i)))) :: st) := by
  obtain ⟨hd, rfl⟩ := hd
  intro hl hs hM p e s m args below meth c H locs lsR X
  have kw := kk hl (q_RL.cons trivial hs.tl) hM p e s m args below meth c H locs lsR X
  exact vk_getf X.1.1 X.1.2.1 (X.2.2.2.2.1.2.2.2.2.2.2.1.1 i hi).2.2.1 X.2.1 X.1.2.2.2.2.1 (X.1.2.2.2.2.2.1.use hw) (fun _ h => h) hd kw
theorem R_strC (i : Nat) (hi : i < 14) {index : Nat} (hw : q_in (.fieldLink mm.1.cls index "java/lang/String" "coder" "B")) {pc' : Nat} (hd : q_d mm.2.1 pc (.getfield index) 3 pc')
    (kk : RW l g mm R mc ms Post pc' S M k n ls (.inl 0 :: st)) : RW l g mm R mc ms Post pc S M k n ls (.inr (.inr (some (g.2.2.2.1 (10 + i)))) :: st) := by
  obtain ⟨hd, rfl⟩ := hd
  intro hl hs hM p e s m args below meth c H locs lsR X
  have kw := kk hl (q_RL.cons z32 hs.tl) hM p e s m args below meth c H locs lsR X
  exact vk_getf X.1.1 X.1.2.1 (X.2.2.2.2.1.2.2.2.2.2.2.1.1 i hi).2.1 X.2.1 X.1.2.2.2.2.1 (X.1.2.2.2.2.2.1.use hw) (fun _ h => h) hd kw
theorem q_Ah {s : State} (h : g.1 ≤ s.heap.size) : ∀ q, s.heap.size ≤ q → q_A g q := fun q hq => Nat.le_trans h hq
theorem R_newa {N : Nat} {z : Int} (hz : z = (N : Int)) (hb4 : N * componentBytes .int ≤ 536870912) (hk : k + 1 ≤ R.cells) (hn : n + N ≤ R.slots) {pc' : Nat} (hd : q_d mm.2.1 pc (.newarray .int) 2 pc')
    (kk : ∀ q : Nat, RW l g mm R mc ms Post pc' (S ++ [(q, .inl N)]) (mup M S.length (fun _ => 0)) (k + 1) (n + N) ls (.inr (.inr (some q)) :: st)) : RW l g mm R mc ms Post pc S M k n ls (.inl z :: st) := by
  obtain ⟨hd, rfl⟩ := hd
  subst hz
  intro hl hs hM p e s m args below meth c H locs lsR X
  have h0 : (0 : Int) ≤ (N : Int) := by omega
  refine va_newa (atype := .int) (ty := .int) (N' := N) (a0 := (N, .inl (fun _ => Int32.ofInt 0))) X.1.1 X.1.2.1 (by exact (word_at (State.WarmedH.refl s) (Or.inr ⟨_, rfl⟩) X.1.2.2.2.2.2.1.2)) rfl X.2.2.2.1 X.2.2.1.1 X.2.2.1.2 X.2.1 (q_Ah X.2.2.2.2.2.1) (fun cA => rfl) (by rw [i0, lt32 hs.hd z32]; omega) (by rw [q_pos h0 hs.hd]; rfl) hb4 hk hn hd ?_
  intro q cA H1 hK1 hP1 hD1 hS1
  have e1 := (hK1.2 0 (g.2.2.1, .int) rfl).2
  have e2 := (hK1.2 1 (cA, .int) rfl).2
  have e3 : cA = g.2.2.1 := Option.some.inj (e2.symm.trans e1)
  subst e3
  have e4 := q_W_push g.2.2.1 M S q (.inl N) (fun _ => 0)
  have hP2 : va_P g.2.1 q_cl (q_W g.2.2.1 M 0 S ++ [(q, q_E g.2.2.1 (fun _ => 0) (.inl N))]) H1 := hP1
  have hD2 : va_D (q_A g) (q_W g.2.2.1 M 0 S ++ [(q, q_E g.2.2.1 (fun _ => 0) (.inl N))]) := hD1
  rw [e4] at hP2 hD2
  exact kk q hl (q_RL.cons trivial hs.tl) (hM.up (fun _ => z32)) p e s m args below meth c H1 locs lsR ⟨X.1, hS1, ⟨hP2, hD2⟩, X.2.2.2.1, X.2.2.2.2.1, X.2.2.2.2.2.1, X.2.2.2.2.2.2⟩
theorem R_new {ci N : Nat} {C : String} {T : u_T} {ty : Nat → FieldType} (hC : q_cg ci C T N ty) (fs : List (Option (Option Nat))) (hfs : ∀ j, j < N → defaultValue (ty j) = vp_V (q_F (fun _ => 0) 0 fs) j) {index : Nat} (hcl : q_in (.classLink mm.1.cls index C)) (hinst : q_in (.instantiable C N)) (hini : q_in (.initialized C)) (hk : k + 1 ≤ R.cells) (hn : n + N ≤ R.slots) {pc' : Nat} (hd : q_d mm.2.1 pc (.new index) 3 pc')
    (kk : ∀ q : Nat, RW l g mm R mc ms Post pc' (S ++ [(q, .inr (ci, fs))]) (mup M S.length (fun _ => 0)) (k + 1) (n + N) ls (.inr (.inr (some q)) :: st)) : RW l g mm R mc ms Post pc S M k n ls st := by
  obtain ⟨hd, rfl⟩ := hd
  intro hl hs hM p e s m args below meth c H locs lsR X
  refine va_new (own := mm.1.cls) (Ts := u_ws C T N) (fs := q_F (fun _ => 0) 0 fs) X.1.1 X.1.2.1 (fun w h => X.1.2.2.2.2.2.1.use (hC.2.1 w h)) (fun w h => h) ty hC.2.2.1 X.1.2.2.2.2.1 (X.1.2.2.2.2.2.1.use hcl) (X.1.2.2.2.2.2.1.use hinst) (X.1.2.2.2.2.2.1.use hini) X.2.2.2.1 X.2.2.1.1 X.2.2.1.2 X.2.1 (q_Ah X.2.2.2.2.2.1) hC.1 hfs hk hn hd ?_
  intro q H1 hP1 hD1 hS1
  have e4 := q_W_push g.2.2.1 M S q (.inr (ci, fs)) (fun _ => 0)
  have hP2 : va_P g.2.1 q_cl (q_W g.2.2.1 M 0 S ++ [(q, q_E g.2.2.1 (fun _ => 0) (.inr (ci, fs)))]) H1 := hP1
  have hD2 : va_D (q_A g) (q_W g.2.2.1 M 0 S ++ [(q, q_E g.2.2.1 (fun _ => 0) (.inr (ci, fs)))]) := hD1
  rw [e4] at hP2 hD2
  exact kk q hl (q_RL.cons trivial hs) (hM.up (fun _ => z32)) p e s m args below meth c H1 locs lsR ⟨X.1, hS1, ⟨hP2, hD2⟩, X.2.2.2.1, X.2.2.2.2.1, X.2.2.2.2.2.1, X.2.2.2.2.2.2⟩
theorem q_sum (st : List SV) : ((st.map q_V).map fun v => v.category).sum = (st.map q_cat).sum := by
  congr 1
  rw [List.map_map]
  exact List.map_congr_left (fun v _ => q_cat_eq v)
theorem R_objInit {a : Nat} {index : Nat} (hlink : q_in (.methodLink mm.1.cls index Lib.objectInit)) (hinst : q_in (.instanceMethod Lib.objectInit)) (hcode : q_in (.code Lib.objectInit ⟨#[0xb1]⟩ 1 none)) (hf : 1 ≤ R.frames) (hlo : 20 ≤ R.locals) (hcat : (st.map q_cat).sum ≤ 8) {pc' : Nat} (hd : q_d mm.2.1 pc (.invokespecial index) 3 pc')
    (kk : RW l g mm R mc ms Post pc' S M k n ls st) : RW l g mm R mc ms Post pc S M k n ls (.inr (.inr (some a)) :: st) := by
  obtain ⟨hd, rfl⟩ := hd
  intro hl hs hM p e s m args below meth c H locs lsR X
  have kw := kk hl hs.tl hM p e s m args below meth c H locs lsR X
  refine W.objInit (own := mm.1.cls) X.1.1 X.1.2.1 X.1.2.2.2.2.1 (X.1.2.2.2.2.2.1.use hlink) (X.1.2.2.2.2.2.1.use hinst) (X.1.2.2.2.2.2.1.use hcode) rfl (by rw [X.1.2.2.2.1]; exact X.2.2.2.2.2.2.1) rfl hd hf ?_ (W.eq (g2 := F0 m (pc + 3) lsR (st.map q_V)) rfl kw)
  have h := lv_room (m := m) (pc := pc) (ls := lsR) (rest := []) (st := st.map q_V) (by rw [q_sum]; exact hcat)
  have h2 : 2 * (F0 m pc lsR ((Sum.inr (Sum.inr (some a)) :: st : List SV).map q_V)).monitorRoom + ((st.map q_V).map fun v => v.category).sum ≤ 8 := h
  exact Nat.le_trans (Nat.add_le_add_right h2 12) hlo
theorem R_copy (i j : Nat) {a b N1 N2 : Nat} (hi : S[i]? = some (a, .inl N1)) (hj : S[j]? = some (b, .inl N2)) {sp dp z : Int} (h1 : 0 ≤ sp) (h2 : 0 ≤ dp) (h3 : 0 ≤ z) (h4 : sp + z ≤ N1) (h5 : dp + z ≤ N2) {index : Nat} (hlink : q_in (.methodLink mm.1.cls index arraycopyName)) (hnat : q_in (.native arraycopyName)) (hstat : q_in (.static arraycopyName)) (hini : q_in (.initialized "java/lang/System")) (hf : 1 ≤ R.frames) (hlo : 64 ≤ R.locals) (hcat : (st.map q_cat).sum ≤ 8) {pc' : Nat} (hd : q_d mm.2.1 pc (.invokestatic index) 3 pc')
    (kk : RW l g mm R mc ms Post pc' S (mup M j (fun x => if dp.toNat ≤ x ∧ x < dp.toNat + z.toNat then M i (sp.toNat + (x - dp.toNat)) else M j x)) k n ls st) : RW l g mm R mc ms Post pc S M k n ls (.inl z :: .inl dp :: .inr (.inr (some b)) :: .inl sp :: .inr (.inr (some a)) :: st) := by
  obtain ⟨hd, rfl⟩ := hd
  intro hl hs hM p e s m args below meth c H locs lsR X
  have rz : r32 z := hs.hd
  have rd : r32 dp := hs.tl.hd
  have rs : r32 sp := hs.tl.tl.tl.hd
  have e1 := q_pos h1 rs
  have e2 := q_pos h2 rd
  have e3 := q_pos h3 rz
  refine va_copyi X.1.1 X.1.2.1 (by rw [X.1.2.2.2.1]; exact X.2.2.2.2.2.2.1.symm) X.1.2.2.2.2.1 (X.1.2.2.2.2.2.1.use hlink) (X.1.2.2.2.2.2.1.use hnat) (X.1.2.2.2.2.2.1.use hstat) (X.1.2.2.2.2.2.1.use hini) X.2.2.2.1 X.2.2.1.1 X.2.2.1.2 X.2.1 i j 0 0 (ty := .int) (q_W_at hi) (q_W_at hj) rfl rfl rfl (by rw [i0, lt32 rs z32]; omega) (by rw [i0, lt32 rd z32]; omega) (by rw [i0, lt32 rz z32]; omega) (by rw [e1, e3]; omega) (by rw [e2, e3]; omega) (fun _ _ => rfl) hf ?_ hd ?_
  · rw [q_sum]
    have hw : nativeFrameWords "java/lang/System" "arraycopy" 5 ≤ 40 := by decide +kernel
    omega
  · intro H1 locs1 hP1 hD1 hS1
    have ef : va_cpy (fun x => Int32.ofInt (M i x)) (fun x => Int32.ofInt (M j x)) (Int32.ofInt sp).toNatClampNeg (Int32.ofInt dp).toNatClampNeg (Int32.ofInt z).toNatClampNeg = fun x => Int32.ofInt ((fun x => if dp.toNat ≤ x ∧ x < dp.toNat + z.toNat then M i (sp.toNat + (x - dp.toNat)) else M j x) x) := by
      funext x
      rw [e1, e2, e3]
      unfold va_cpy
      show (if _ then _ else _) = Int32.ofInt (if _ then _ else _)
      split <;> rfl
    have h := q_W_set (cI := g.2.2.1) (M := M) (c' := .inl N2) (fun x => if dp.toNat ≤ x ∧ x < dp.toNat + z.toNat then M i (sp.toNat + (x - dp.toNat)) else M j x) hj
    rw [q_set_same hj] at h
    have hP2 : va_P g.2.1 q_cl ((q_W g.2.2.1 M 0 S).set j (b, q_E g.2.2.1 (fun x => if dp.toNat ≤ x ∧ x < dp.toNat + z.toNat then M i (sp.toNat + (x - dp.toNat)) else M j x) (.inl N2))) H1 := by
      rw [ef] at hP1
      exact hP1
    have hD2 : va_D (q_A g) ((q_W g.2.2.1 M 0 S).set j (b, q_E g.2.2.1 (fun x => if dp.toNat ≤ x ∧ x < dp.toNat + z.toNat then M i (sp.toNat + (x - dp.toNat)) else M j x) (.inl N2))) := by
      rw [ef] at hD1
      exact hD1
    rw [h] at hP2 hD2
    exact kk hl hs.tl.tl.tl.tl.tl (hM.up (fun x => by split <;> exact hM _ _)) p e s m args below meth c H1 locs1 lsR ⟨X.1, hS1, ⟨hP2, hD2⟩, X.2.2.2.1, X.2.2.2.2.1, X.2.2.2.2.2.1, X.2.2.2.2.2.2⟩
theorem R_mmax {a b : Int} {index : Nat} (hlink : q_in (.methodLink mm.1.cls index Lib.Math.max.name)) (hstat : q_in (.static Lib.Math.max.name)) (hini : q_in (.initialized "java/lang/Math")) (hcode : q_in (.code Lib.Math.max.name Lib.Math.max.code 2 (some .int))) (hf : 1 ≤ R.frames) (hlo : 64 ≤ R.locals) (hcat : (st.map q_cat).sum ≤ 8) (hk : k ≤ R.cells) (hn : n ≤ R.slots) {pc' : Nat} (hd : q_d mm.2.1 pc (.invokestatic index) 3 pc')
    (kk : RW l g mm R mc ms Post pc' S M k n ls (.inl (if a < b then b else a) :: st)) : RW l g mm R mc ms Post pc S M k n ls (.inl b :: .inl a :: st) := by
  obtain ⟨hd, rfl⟩ := hd
  intro hl hs hM p e s m args below meth c H locs lsR X
  have hr : r32 (if a < b then b else a) := by
    split
    · exact hs.hd
    · exact hs.tl.hd
  have kw := kk hl (q_RL.cons hr hs.tl.tl) hM p e s m args below meth c H locs lsR X
  refine va_mmax X.1.1 X.1.2.1 (by rw [X.1.2.2.2.1]; exact X.2.2.2.2.2.2.1.symm) X.1.2.2.2.2.1 (X.1.2.2.2.2.2.1.use hlink) (X.1.2.2.2.2.2.1.use hstat) (X.1.2.2.2.2.2.1.use hini) (X.1.2.2.2.2.2.1.use hcode) hf (by rw [q_sum]; omega) hk hn hd (W.eq ?_ kw)
  have e1 : (if Int32.ofInt a < Int32.ofInt b then Int32.ofInt b else Int32.ofInt a) = Int32.ofInt (if a < b then b else a) := by
    by_cases h : a < b
    · rw [if_pos h, if_pos ((lt32 hs.tl.hd hs.hd).mpr h)]
    · rw [if_neg h, if_neg (fun q => h ((lt32 hs.tl.hd hs.hd).mp q))]
  rw [e1]
  rfl
theorem R_mmin {a b : Int} {index : Nat} (hlink : q_in (.methodLink mm.1.cls index Lib.Math.min.name)) (hstat : q_in (.static Lib.Math.min.name)) (hini : q_in (.initialized "java/lang/Math")) (hcode : q_in (.code Lib.Math.min.name Lib.Math.min.code 2 (some .int))) (hf : 1 ≤ R.frames) (hlo : 64 ≤ R.locals) (hcat : (st.map q_cat).sum ≤ 8) (hk : k ≤ R.cells) (hn : n ≤ R.slots) {pc' : Nat} (hd : q_d mm.2.1 pc (.invokestatic index) 3 pc')
    (kk : RW l g mm R mc ms Post pc' S M k n ls (.inl (if b < a then b else a) :: st)) : RW l g mm R mc ms Post pc S M k n ls (.inl b :: .inl a :: st) := by
  obtain ⟨hd, rfl⟩ := hd
  intro hl hs hM p e s m args below meth c H locs lsR X
  have hr : r32 (if b < a then b else a) := by
    split
    · exact hs.hd
    · exact hs.tl.hd
  have kw := kk hl (q_RL.cons hr hs.tl.tl) hM p e s m args below meth c H locs lsR X
  refine va_mmin X.1.1 X.1.2.1 (by rw [X.1.2.2.2.1]; exact X.2.2.2.2.2.2.1.symm) X.1.2.2.2.2.1 (X.1.2.2.2.2.2.1.use hlink) (X.1.2.2.2.2.2.1.use hstat) (X.1.2.2.2.2.2.1.use hini) (X.1.2.2.2.2.2.1.use hcode) hf (by rw [q_sum]; omega) hk hn hd (W.eq ?_ kw)
  have e1 : (if Int32.ofInt b < Int32.ofInt a then Int32.ofInt b else Int32.ofInt a) = Int32.ofInt (if b < a then b else a) := by
    by_cases h : b < a
    · rw [if_pos h, if_pos ((lt32 hs.hd hs.tl.hd).mpr h)]
    · rw [if_neg h, if_neg (fun q => h ((lt32 hs.hd hs.tl.hd).mp q))]
  rw [e1]
  rfl
end CELLS
