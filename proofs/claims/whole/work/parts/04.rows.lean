/-! one row an instruction, over RW -/
theorem lt32 {a b : Int} (ha : r32 a) (hb : r32 b) : Int32.ofInt a < Int32.ofInt b ↔ a < b := by rw [Int32.lt_iff_toInt_lt, ti32 ha, ti32 hb]
theorem le32 {a b : Int} (ha : r32 a) (hb : r32 b) : Int32.ofInt a ≤ Int32.ofInt b ↔ a ≤ b := by rw [Int32.le_iff_toInt_le, ti32 ha, ti32 hb]
theorem eq32 {a b : Int} (ha : r32 a) (hb : r32 b) : Int32.ofInt a = Int32.ofInt b ↔ a = b := by rw [← Int32.toInt_inj, ti32 ha, ti32 hb]
theorem lt64 {a b : Int} (ha : r64 a) (hb : r64 b) : Int64.ofInt a < Int64.ofInt b ↔ a < b := by rw [Int64.lt_iff_toInt_lt, ti64 ha, ti64 hb]
theorem eq64 {a b : Int} (ha : r64 a) (hb : r64 b) : Int64.ofInt a = Int64.ofInt b ↔ a = b := by rw [← Int64.toInt_inj, ti64 ha, ti64 hb]
theorem z32 : r32 0 := by unfold r32; omega
theorem z64 : r64 0 := by unfold r64; omega
theorem i0 : (0 : Int32) = Int32.ofInt 0 := rfl
theorem l0 : (0 : Int64) = Int64.ofInt 0 := rfl
def q_c (z : Int) : Bool := decide (-2147483648 ≤ z) && decide (z < 2147483648)
theorem q_c_r {z : Int} (h : q_c z = true) : r32 z := by
  unfold q_c at h
  simp only [Bool.and_eq_true, decide_eq_true_eq] at h
  exact h
theorem q_pos {m : Int} (h : 0 ≤ m) (hr : r32 m) : (Int32.ofInt m).toNatClampNeg = m.toNat := by
  have h1 := ti32 hr
  show (Int32.ofInt m).toInt.toNat = m.toNat
  rw [h1]
theorem q_in_vp {x : Int} {n : Nat} (hr : r32 x) (h : 0 ≤ x ∧ x < n) : vp_in (Int32.ofInt x) n := by
  rw [vp_in_iff, ti32 hr]
  exact h
section ROWS
variable {l : Launch} {g : GG} {mm : MM} {R : Room} {mc ms : Nat} {Post : PP} {pc : Nat} {S : SW} {M : Mem} {k n : Nat} {ls : List (Option SV)} {st : List SV}
theorem R_pure {pc' : Nat} {st' : List SV} (hr : q_RO ls → q_RL st → q_RL st')
    (row : q_RO ls → q_RL st → ∀ (p : Program) (e : Env) (s : State) (m : MethodId) (args : Array Value) (below : List Frame) (meth : Method) (c : Code) (H : Heap) (locs : List Loc) (lsR : Array Slot) (Q : State → Prop), q_X g mm S M ls p s m meth c H locs lsR → W p l e R s m args below meth c H locs k n Q (F0 m pc' lsR (st'.map q_V)) → W p l e R s m args below meth c H locs k n Q (F0 m pc lsR (st.map q_V)))
    (kk : RW l g mm R mc ms Post pc' S M k n ls st') : RW l g mm R mc ms Post pc S M k n ls st := by
  intro hl hs hM p e s m args below meth c H locs lsR X
  exact row hl hs p e s m args below meth c H locs lsR _ X (kk hl (hr hl hs) hM p e s m args below meth c H locs lsR X)
theorem R_mask {ls' : List (Option SV)} (bs : List Bool) (h : (bs.zipWith (fun b o => if b then o else none) ls) = ls') (kk : RW l g mm R mc ms Post pc S M k n ls' st) : RW l g mm R mc ms Post pc S M k n ls st := by
  have key : ∀ (i : Nat) (v : SV), ls'[i]? = some (some v) → ls[i]? = some (some v) := by
    intro i v hi
    rw [← h, List.getElem?_zipWith] at hi
    cases hb : bs[i]? with
    | none => simp [hb] at hi
    | some b =>
      cases ho : ls[i]? with
      | none => simp [hb, ho] at hi
      | some o => cases b <;> simp [hb, ho] at hi <;> rw [hi]
  intro hl hs hM p e s m args below meth c H locs lsR X
  refine kk (fun v hv => ?_) hs hM p e s m args below meth c H locs lsR ⟨X.1, X.2.1, X.2.2.1, X.2.2.2.1, X.2.2.2.2.1, X.2.2.2.2.2.1, X.2.2.2.2.2.2.1, X.2.2.2.2.2.2.2.1, fun i v hi => X.2.2.2.2.2.2.2.2 i v (key i v hi)⟩
  obtain ⟨i, hi⟩ := List.getElem?_of_mem hv
  exact hl.at (key i v hi)

theorem R_iadd {a b : Int} {pc' : Nat} (hd : q_d mm.2.1 pc (.iadd) 1 pc') (kk : RW l g mm R mc ms Post pc' S M k n ls (.inl (w32 (a + b)) :: st)) : RW l g mm R mc ms Post (pc) S M k n ls (.inl b :: .inl a :: st) := by
  obtain ⟨hd, rfl⟩ := hd
  exact R_pure (fun hl h => by exact q_RL.cons (w32_r _) h.tl.tl) (fun hl h p e s m args below meth c H locs lsR Q X kw => by exact lv_iadd X.1.1 X.1.2.1 hd (W.eq (by simp [q_V, of_w32, Int32.ofInt_add]) kw)) kk
theorem R_isub {a b : Int} {pc' : Nat} (hd : q_d mm.2.1 pc (.isub) 1 pc') (kk : RW l g mm R mc ms Post pc' S M k n ls (.inl (w32 (a - b)) :: st)) : RW l g mm R mc ms Post (pc) S M k n ls (.inl b :: .inl a :: st) := by
  obtain ⟨hd, rfl⟩ := hd
  exact R_pure (fun hl h => by exact q_RL.cons (w32_r _) h.tl.tl) (fun hl h p e s m args below meth c H locs lsR Q X kw => by exact lv_isub X.1.1 X.1.2.1 hd (W.eq (by simp [q_V, of_w32, Int32.ofInt_sub]) kw)) kk
theorem R_imul {a b : Int} {pc' : Nat} (hd : q_d mm.2.1 pc (.imul) 1 pc') (kk : RW l g mm R mc ms Post pc' S M k n ls (.inl (w32 (a * b)) :: st)) : RW l g mm R mc ms Post (pc) S M k n ls (.inl b :: .inl a :: st) := by
  obtain ⟨hd, rfl⟩ := hd
  exact R_pure (fun hl h => by exact q_RL.cons (w32_r _) h.tl.tl) (fun hl h p e s m args below meth c H locs lsR Q X kw => by exact lv_imul X.1.1 X.1.2.1 hd (W.eq (by simp [q_V, of_w32, Int32.ofInt_mul]) kw)) kk
theorem R_iand {a b : Int} {pc' : Nat} (hd : q_d mm.2.1 pc (.iand) 1 pc') (kk : RW l g mm R mc ms Post pc' S M k n ls (.inl (b_and a b) :: st)) : RW l g mm R mc ms Post (pc) S M k n ls (.inl b :: .inl a :: st) := by
  obtain ⟨hd, rfl⟩ := hd
  exact R_pure (fun hl h => by exact q_RL.cons (x32_r _) h.tl.tl) (fun hl h p e s m args below meth c H locs lsR Q X kw => by exact lv_iand X.1.1 X.1.2.1 hd (W.eq (by simp only [List.map_cons, q_V, b_and, Int32.ofInt_toInt, Int64.ofInt_toInt]) kw)) kk
theorem R_ior {a b : Int} {pc' : Nat} (hd : q_d mm.2.1 pc (.ior) 1 pc') (kk : RW l g mm R mc ms Post pc' S M k n ls (.inl (b_or a b) :: st)) : RW l g mm R mc ms Post (pc) S M k n ls (.inl b :: .inl a :: st) := by
  obtain ⟨hd, rfl⟩ := hd
  exact R_pure (fun hl h => by exact q_RL.cons (x32_r _) h.tl.tl) (fun hl h p e s m args below meth c H locs lsR Q X kw => by exact lv_ior X.1.1 X.1.2.1 hd (W.eq (by simp only [List.map_cons, q_V, b_or, Int32.ofInt_toInt, Int64.ofInt_toInt]) kw)) kk
theorem R_ixor {a b : Int} {pc' : Nat} (hd : q_d mm.2.1 pc (.ixor) 1 pc') (kk : RW l g mm R mc ms Post pc' S M k n ls (.inl (b_xor a b) :: st)) : RW l g mm R mc ms Post (pc) S M k n ls (.inl b :: .inl a :: st) := by
  obtain ⟨hd, rfl⟩ := hd
  exact R_pure (fun hl h => by exact q_RL.cons (x32_r _) h.tl.tl) (fun hl h p e s m args below meth c H locs lsR Q X kw => by exact lv_ixor X.1.1 X.1.2.1 hd (W.eq (by simp only [List.map_cons, q_V, b_xor, Int32.ofInt_toInt, Int64.ofInt_toInt]) kw)) kk
theorem R_ishl {a b : Int} {pc' : Nat} (hd : q_d mm.2.1 pc (.ishl) 1 pc') (kk : RW l g mm R mc ms Post pc' S M k n ls (.inl (b_shl a b) :: st)) : RW l g mm R mc ms Post (pc) S M k n ls (.inl b :: .inl a :: st) := by
  obtain ⟨hd, rfl⟩ := hd
  exact R_pure (fun hl h => by exact q_RL.cons (x32_r _) h.tl.tl) (fun hl h p e s m args below meth c H locs lsR Q X kw => by exact lv_ishl X.1.1 X.1.2.1 hd (W.eq (by simp only [List.map_cons, q_V, b_shl, Int32.ofInt_toInt, Int64.ofInt_toInt]) kw)) kk
theorem R_ishr {a b : Int} {pc' : Nat} (hd : q_d mm.2.1 pc (.ishr) 1 pc') (kk : RW l g mm R mc ms Post pc' S M k n ls (.inl (b_shr a b) :: st)) : RW l g mm R mc ms Post (pc) S M k n ls (.inl b :: .inl a :: st) := by
  obtain ⟨hd, rfl⟩ := hd
  exact R_pure (fun hl h => by exact q_RL.cons (x32_r _) h.tl.tl) (fun hl h p e s m args below meth c H locs lsR Q X kw => by exact lv_ishr X.1.1 X.1.2.1 hd (W.eq (by simp only [List.map_cons, q_V, b_shr, Int32.ofInt_toInt, Int64.ofInt_toInt]) kw)) kk
theorem R_iushr {a b : Int} {pc' : Nat} (hd : q_d mm.2.1 pc (.iushr) 1 pc') (kk : RW l g mm R mc ms Post pc' S M k n ls (.inl (b_ushr a b) :: st)) : RW l g mm R mc ms Post (pc) S M k n ls (.inl b :: .inl a :: st) := by
  obtain ⟨hd, rfl⟩ := hd
  exact R_pure (fun hl h => by exact q_RL.cons (x32_r _) h.tl.tl) (fun hl h p e s m args below meth c H locs lsR Q X kw => by exact lv_iushr X.1.1 X.1.2.1 hd rfl (W.eq (by simp only [List.map_cons, q_V, b_ushr, Int32.ofInt_toInt, Int64.ofInt_toInt]) kw)) kk
theorem R_idiv {a b : Int} (hb : b ≠ 0) {pc' : Nat} (hd : q_d mm.2.1 pc (.idiv) 1 pc') (kk : RW l g mm R mc ms Post pc' S M k n ls (.inl (b_div a b) :: st)) : RW l g mm R mc ms Post (pc) S M k n ls (.inl b :: .inl a :: st) := by
  obtain ⟨hd, rfl⟩ := hd
  exact R_pure (fun hl h => by exact q_RL.cons (x32_r _) h.tl.tl) (fun hl h p e s m args below meth c H locs lsR Q X kw => by exact lv_idiv X.1.1 X.1.2.1 hd (by rw [i0, eq32 h.hd z32]; exact hb) (W.eq (by simp only [List.map_cons, q_V, b_div, Int32.ofInt_toInt, Int64.ofInt_toInt]) kw)) kk
theorem R_irem {a b : Int} (hb : b ≠ 0) {pc' : Nat} (hd : q_d mm.2.1 pc (.irem) 1 pc') (kk : RW l g mm R mc ms Post pc' S M k n ls (.inl (b_rem a b) :: st)) : RW l g mm R mc ms Post (pc) S M k n ls (.inl b :: .inl a :: st) := by
  obtain ⟨hd, rfl⟩ := hd
  exact R_pure (fun hl h => by exact q_RL.cons (x32_r _) h.tl.tl) (fun hl h p e s m args below meth c H locs lsR Q X kw => by exact lv_irem X.1.1 X.1.2.1 hd (by rw [i0, eq32 h.hd z32]; exact hb) (W.eq (by simp only [List.map_cons, q_V, b_rem, Int32.ofInt_toInt, Int64.ofInt_toInt]) kw)) kk
theorem R_ineg {a : Int} {pc' : Nat} (hd : q_d mm.2.1 pc (.ineg) 1 pc') (kk : RW l g mm R mc ms Post pc' S M k n ls (.inl (w32 (-a)) :: st)) : RW l g mm R mc ms Post (pc) S M k n ls (.inl a :: st) := by
  obtain ⟨hd, rfl⟩ := hd
  exact R_pure (fun hl h => by exact q_RL.cons (w32_r _) h.tl) (fun hl h p e s m args below meth c H locs lsR Q X kw => by exact lv_ineg X.1.1 X.1.2.1 hd (W.eq (by simp [q_V, of_w32, Int32.ofInt_neg]) kw)) kk
theorem R_i2b {a : Int} {pc' : Nat} (hd : q_d mm.2.1 pc (.i2b) 1 pc') (kk : RW l g mm R mc ms Post pc' S M k n ls (.inl (b_i2b a) :: st)) : RW l g mm R mc ms Post (pc) S M k n ls (.inl a :: st) := by
  obtain ⟨hd, rfl⟩ := hd
  exact R_pure (fun hl h => by exact q_RL.cons (x32_r _) h.tl) (fun hl h p e s m args below meth c H locs lsR Q X kw => by exact lv_i2b X.1.1 X.1.2.1 hd rfl (W.eq (by simp only [List.map_cons, q_V, b_i2b, Int32.ofInt_toInt, Int64.ofInt_toInt]) kw)) kk
theorem R_i2s {a : Int} {pc' : Nat} (hd : q_d mm.2.1 pc (.i2s) 1 pc') (kk : RW l g mm R mc ms Post pc' S M k n ls (.inl (b_i2s a) :: st)) : RW l g mm R mc ms Post (pc) S M k n ls (.inl a :: st) := by
  obtain ⟨hd, rfl⟩ := hd
  exact R_pure (fun hl h => by exact q_RL.cons (x32_r _) h.tl) (fun hl h p e s m args below meth c H locs lsR Q X kw => by exact lv_i2s X.1.1 X.1.2.1 hd rfl (W.eq (by simp only [List.map_cons, q_V, b_i2s, Int32.ofInt_toInt, Int64.ofInt_toInt]) kw)) kk
theorem R_i2c {a : Int} {pc' : Nat} (hd : q_d mm.2.1 pc (.i2c) 1 pc') (kk : RW l g mm R mc ms Post pc' S M k n ls (.inl (b_i2c a) :: st)) : RW l g mm R mc ms Post (pc) S M k n ls (.inl a :: st) := by
  obtain ⟨hd, rfl⟩ := hd
  exact R_pure (fun hl h => by exact q_RL.cons (x32_r _) h.tl) (fun hl h p e s m args below meth c H locs lsR Q X kw => by exact lv_i2c X.1.1 X.1.2.1 hd rfl (W.eq (by simp only [List.map_cons, q_V, b_i2c, Int32.ofInt_toInt, Int64.ofInt_toInt]) kw)) kk
theorem ti_long {a : Int} (h : r32 a) : (Int32.ofInt a).toInt64 = Int64.ofInt a := by
  apply Int64.toInt_inj.1
  have h2 : r64 a := by unfold r32 at h; unfold r64; omega
  rw [Int32.toInt_toInt64, ti32 h, ti64 h2]
theorem r32_64 {a : Int} (h : r32 a) : r64 a := by unfold r32 at h; unfold r64; omega
theorem tl_int (a : Int) : (Int64.ofInt a).toInt32 = Int32.ofInt a := by simp
theorem R_i2l {a : Int} {pc' : Nat} (hd : q_d mm.2.1 pc (.i2l) 1 pc') (kk : RW l g mm R mc ms Post pc' S M k n ls (.inr (.inl (a)) :: st)) : RW l g mm R mc ms Post (pc) S M k n ls (.inl a :: st) := by
  obtain ⟨hd, rfl⟩ := hd
  exact R_pure (fun hl h => by exact q_RL.cons (r32_64 h.hd) h.tl) (fun hl h p e s m args below meth c H locs lsR Q X kw => by exact lv_i2l X.1.1 X.1.2.1 hd (ti_long h.hd) (W.eq (by simp [q_V]) kw)) kk
theorem R_l2i {a : Int} {pc' : Nat} (hd : q_d mm.2.1 pc (.l2i) 1 pc') (kk : RW l g mm R mc ms Post pc' S M k n ls (.inl (w32 a) :: st)) : RW l g mm R mc ms Post (pc) S M k n ls (.inr (.inl a) :: st) := by
  obtain ⟨hd, rfl⟩ := hd
  exact R_pure (fun hl h => by exact q_RL.cons (w32_r _) h.tl) (fun hl h p e s m args below meth c H locs lsR Q X kw => by exact lv_l2i X.1.1 X.1.2.1 hd (tl_int a) (W.eq (by simp [q_V, of_w32]) kw)) kk
theorem R_ladd {a b : Int} {pc' : Nat} (hd : q_d mm.2.1 pc (.ladd) 1 pc') (kk : RW l g mm R mc ms Post pc' S M k n ls (.inr (.inl (w64 (a + b))) :: st)) : RW l g mm R mc ms Post (pc) S M k n ls (.inr (.inl b) :: .inr (.inl a) :: st) := by
  obtain ⟨hd, rfl⟩ := hd
  exact R_pure (fun hl h => by exact q_RL.cons (w64_r _) h.tl.tl) (fun hl h p e s m args below meth c H locs lsR Q X kw => by exact lv_ladd X.1.1 X.1.2.1 hd (W.eq (by simp [q_V, of_w64, Int64.ofInt_add]) kw)) kk
theorem R_lmul {a b : Int} {pc' : Nat} (hd : q_d mm.2.1 pc (.lmul) 1 pc') (kk : RW l g mm R mc ms Post pc' S M k n ls (.inr (.inl (w64 (a * b))) :: st)) : RW l g mm R mc ms Post (pc) S M k n ls (.inr (.inl b) :: .inr (.inl a) :: st) := by
  obtain ⟨hd, rfl⟩ := hd
  exact R_pure (fun hl h => by exact q_RL.cons (w64_r _) h.tl.tl) (fun hl h p e s m args below meth c H locs lsR Q X kw => by exact lv_lmul X.1.1 X.1.2.1 hd (W.eq (by simp [q_V, of_w64, Int64.ofInt_mul]) kw)) kk
theorem R_ldiv {a b : Int} (hb : b ≠ 0) {pc' : Nat} (hd : q_d mm.2.1 pc (.ldiv) 1 pc') (kk : RW l g mm R mc ms Post pc' S M k n ls (.inr (.inl (b_ldiv a b)) :: st)) : RW l g mm R mc ms Post (pc) S M k n ls (.inr (.inl b) :: .inr (.inl a) :: st) := by
  obtain ⟨hd, rfl⟩ := hd
  exact R_pure (fun hl h => by exact q_RL.cons (x64_r _) h.tl.tl) (fun hl h p e s m args below meth c H locs lsR Q X kw => by exact lv_ldiv X.1.1 X.1.2.1 hd (by rw [l0, eq64 h.hd z64]; exact hb) (W.eq (by simp only [List.map_cons, q_V, b_ldiv, Int32.ofInt_toInt, Int64.ofInt_toInt]) kw)) kk
theorem R_lrem {a b : Int} (hb : b ≠ 0) {pc' : Nat} (hd : q_d mm.2.1 pc (.lrem) 1 pc') (kk : RW l g mm R mc ms Post pc' S M k n ls (.inr (.inl (b_lrem a b)) :: st)) : RW l g mm R mc ms Post (pc) S M k n ls (.inr (.inl b) :: .inr (.inl a) :: st) := by
  obtain ⟨hd, rfl⟩ := hd
  exact R_pure (fun hl h => by exact q_RL.cons (x64_r _) h.tl.tl) (fun hl h p e s m args below meth c H locs lsR Q X kw => by exact lv_lrem X.1.1 X.1.2.1 hd (by rw [l0, eq64 h.hd z64]; exact hb) (W.eq (by simp only [List.map_cons, q_V, b_lrem, Int32.ofInt_toInt, Int64.ofInt_toInt]) kw)) kk
def b_lcmp (a b : Int) : Int := if b < a then 1 else if a = b then 0 else -1
theorem b_lcmp_r (a b : Int) : r32 (b_lcmp a b) := by unfold b_lcmp r32; (repeat' split) <;> omega
theorem b_lcmp_of {a b : Int} (ha : r64 a) (hb : r64 b) : lg_cmp (Int64.ofInt a) (Int64.ofInt b) = Int32.ofInt (b_lcmp a b) := by
  unfold lg_cmp b_lcmp
  have h1 : (Int64.ofInt a > Int64.ofInt b) ↔ b < a := lt64 hb ha
  have h2 := eq64 ha hb
  by_cases c1 : b < a
  · rw [if_pos (h1.mpr c1), if_pos c1]; rfl
  · rw [if_neg (fun q => c1 (h1.mp q)), if_neg c1]
    by_cases c2 : a = b
    · rw [if_pos (h2.mpr c2), if_pos c2]; rfl
    · rw [if_neg (fun q => c2 (h2.mp q)), if_neg c2]; rfl
theorem R_lcmp {a b : Int} {pc' : Nat} (hd : q_d mm.2.1 pc (.lcmp) 1 pc') (kk : RW l g mm R mc ms Post pc' S M k n ls (.inl (b_lcmp a b) :: st)) : RW l g mm R mc ms Post (pc) S M k n ls (.inr (.inl b) :: .inr (.inl a) :: st) := by
  obtain ⟨hd, rfl⟩ := hd
  exact R_pure (fun hl h => by exact q_RL.cons (b_lcmp_r _ _) h.tl.tl) (fun hl h p e s m args below meth c H locs lsR Q X kw => by exact W.lcmp X.1.1 X.1.2.1 hd (W.eq (by rw [b_lcmp_of h.tl.hd h.hd]; rfl) kw)) kk
theorem R_iconst {z : Int} {pc' : Nat} (hd : q_d mm.2.1 pc (.iconst z) 1 pc') (hc : q_c z = true) (kk : RW l g mm R mc ms Post pc' S M k n ls (.inl z :: st)) : RW l g mm R mc ms Post (pc) S M k n ls (st) := by
  obtain ⟨hd, rfl⟩ := hd
  exact R_pure (fun hl h => by exact q_RL.cons (q_c_r hc) h) (fun hl h p e s m args below meth c H locs lsR Q X kw => by exact lv_iconst X.1.1 X.1.2.1 hd rfl kw) kk
theorem R_bipush {z : Int} {pc' : Nat} (hd : q_d mm.2.1 pc (.bipush z) 2 pc') (hc : q_c z = true) (hv : (Int8.ofInt z).toInt32 = Int32.ofInt z) (kk : RW l g mm R mc ms Post pc' S M k n ls (.inl z :: st)) : RW l g mm R mc ms Post (pc) S M k n ls (st) := by
  obtain ⟨hd, rfl⟩ := hd
  exact R_pure (fun hl h => by exact q_RL.cons (q_c_r hc) h) (fun hl h p e s m args below meth c H locs lsR Q X kw => by exact lv_bipush X.1.1 X.1.2.1 hd hv kw) kk
theorem R_sipush {z : Int} {pc' : Nat} (hd : q_d mm.2.1 pc (.sipush z) 3 pc') (hc : q_c z = true) (hv : (Int16.ofInt z).toInt32 = Int32.ofInt z) (kk : RW l g mm R mc ms Post pc' S M k n ls (.inl z :: st)) : RW l g mm R mc ms Post (pc) S M k n ls (st) := by
  obtain ⟨hd, rfl⟩ := hd
  exact R_pure (fun hl h => by exact q_RL.cons (q_c_r hc) h) (fun hl h p e s m args below meth c H locs lsR Q X kw => by exact lv_sipush X.1.1 X.1.2.1 hd hv kw) kk
theorem R_lconst {i : Fin 2} {z : Int} {pc' : Nat} (hd : q_d mm.2.1 pc (.lconst i) 1 pc') (hv : Int64.ofNat (i : Nat) = Int64.ofInt z) (hc : q_c z = true) (kk : RW l g mm R mc ms Post pc' S M k n ls (.inr (.inl z) :: st)) : RW l g mm R mc ms Post (pc) S M k n ls (st) := by
  obtain ⟨hd, rfl⟩ := hd
  exact R_pure (fun hl h => by exact q_RL.cons (r32_64 (q_c_r hc)) h) (fun hl h p e s m args below meth c H locs lsR Q X kw => by exact lv_lconst X.1.1 X.1.2.1 hd hv kw) kk
theorem R_ldc {z : Int} {index : Nat} (hw : q_in (.constant mm.1.cls index (Int32.ofInt z))) (hc : q_c z = true) {pc' : Nat} (hd : q_d mm.2.1 pc (.ldc index) 2 pc') (kk : RW l g mm R mc ms Post pc' S M k n ls (.inl z :: st)) : RW l g mm R mc ms Post (pc) S M k n ls (st) := by
  obtain ⟨hd, rfl⟩ := hd
  exact R_pure (fun hl h => by exact q_RL.cons (q_c_r hc) h) (fun hl h p e s m args below meth c H locs lsR Q X kw => by exact lv_ldc X.1.1 X.1.2.1 X.1.2.2.2.2.1 (X.1.2.2.2.2.2.1.use hw) hd kw) kk
theorem R_ldcw {z : Int} {index : Nat} (hw : q_in (.constant mm.1.cls index (Int32.ofInt z))) (hc : q_c z = true) {pc' : Nat} (hd : q_d mm.2.1 pc (.ldc_w index) 3 pc') (kk : RW l g mm R mc ms Post pc' S M k n ls (.inl z :: st)) : RW l g mm R mc ms Post (pc) S M k n ls (st) := by
  obtain ⟨hd, rfl⟩ := hd
  exact R_pure (fun hl h => by exact q_RL.cons (q_c_r hc) h) (fun hl h p e s m args below meth c H locs lsR Q X kw => by exact lv_ldcw X.1.1 X.1.2.1 X.1.2.2.2.2.1 (X.1.2.2.2.2.2.1.use hw) hd kw) kk
theorem R_ldc2 {z : Int} {index : Nat} (hw : q_in (.constantLong mm.1.cls index (Int64.ofInt z))) (hc : r64 z) {pc' : Nat} (hd : q_d mm.2.1 pc (.ldc2_w index) 3 pc') (kk : RW l g mm R mc ms Post pc' S M k n ls (.inr (.inl z) :: st)) : RW l g mm R mc ms Post (pc) S M k n ls (st) := by
  obtain ⟨hd, rfl⟩ := hd
  exact R_pure (fun hl h => by exact q_RL.cons hc h) (fun hl h p e s m args below meth c H locs lsR Q X kw => by exact lv_ldc2 X.1.1 X.1.2.1 X.1.2.2.2.2.1 (X.1.2.2.2.2.2.1.use hw) hd kw) kk
theorem R_ldcS (i : Nat) {q : String × Nat × String × List Int} (hq : q_str[i]? = some q) (ho : mm.1.cls = q.1) {pc' : Nat} (hd : q_d mm.2.1 pc (.ldc q.2.1) 2 pc') (kk : RW l g mm R mc ms Post pc' S M k n ls (.inr (.inr (some (g.2.2.2.1 (10 + i)))) :: st)) : RW l g mm R mc ms Post (pc) S M k n ls (st) := by
  obtain ⟨hd, rfl⟩ := hd
  exact R_pure (fun hl h => by exact q_RL.cons trivial h) (fun hl h p e s m args below meth c H locs lsR Q X kw => by exact va_ldcS X.1.1 X.1.2.1 (own := q.1) (by rw [← ho]; exact X.1.2.2.2.2.1) (X.2.2.2.2.1.2.2.2.2.2.2.2 i q hq) hd kw) kk
theorem R_dup {v : SV} (hv : q_cat v = 1) {pc' : Nat} (hd : q_d mm.2.1 pc (.dup) 1 pc') (kk : RW l g mm R mc ms Post pc' S M k n ls (v :: v :: st)) : RW l g mm R mc ms Post (pc) S M k n ls (v :: st) := by
  obtain ⟨hd, rfl⟩ := hd
  exact R_pure (fun hl h => by exact q_RL.cons h.hd h) (fun hl h p e s m args below meth c H locs lsR Q X kw => by exact lv_dup X.1.1 X.1.2.1 hd (by rw [q_cat_eq]; exact hv) kw) kk
theorem R_dup2 {v w : SV} (hv : q_cat v = 1) (hw : q_cat w = 1) {pc' : Nat} (hd : q_d mm.2.1 pc (.dup2) 1 pc') (kk : RW l g mm R mc ms Post pc' S M k n ls (v :: w :: v :: w :: st)) : RW l g mm R mc ms Post (pc) S M k n ls (v :: w :: st) := by
  obtain ⟨hd, rfl⟩ := hd
  exact R_pure (fun hl h => by exact q_RL.cons h.hd (q_RL.cons h.tl.hd h)) (fun hl h p e s m args below meth c H locs lsR Q X kw => by exact lv_dup2_11 X.1.1 X.1.2.1 hd (by rw [q_cat_eq]; exact hv) (by rw [q_cat_eq]; exact hw) kw) kk
theorem R_pop {v : SV} (hv : q_cat v = 1) {pc' : Nat} (hd : q_d mm.2.1 pc (.pop) 1 pc') (kk : RW l g mm R mc ms Post pc' S M k n ls (st)) : RW l g mm R mc ms Post (pc) S M k n ls (v :: st) := by
  obtain ⟨hd, rfl⟩ := hd
  exact R_pure (fun hl h => by exact h.tl) (fun hl h p e s m args below meth c H locs lsR Q X kw => by exact lv_pop X.1.1 X.1.2.1 hd (by rw [q_cat_eq]; exact hv) kw) kk
theorem R_goto {off : Int} {tgt : Nat} {pc' : Nat} (hd : q_d mm.2.1 pc (.goto off) 3 pc') (ht : (pc : Int) + off = (tgt : Int)) (kk : RW l g mm R mc ms Post (tgt) S M k n ls (st)) : RW l g mm R mc ms Post (pc) S M k n ls (st) := by
  obtain ⟨hd, rfl⟩ := hd
  exact R_pure (fun hl h => by exact h) (fun hl h p e s m args below meth c H locs lsR Q X kw => by exact lv_goto X.1.1 X.1.2.1 hd ht kw) kk
theorem R_iload {i : Nat} {x : Int} {pc' : Nat} (hd : q_d mm.2.1 pc (.iload i) 2 pc') (h : ls[i]? = some (some (.inl x))) (kk : RW l g mm R mc ms Post pc' S M k n ls (.inl x :: st)) : RW l g mm R mc ms Post (pc) S M k n ls (st) := by
  obtain ⟨hd, rfl⟩ := hd
  exact R_pure (fun hl hs => by exact q_RL.cons (hl.at h) hs) (fun hl hs p e s m args below meth c H locs lsR Q X kw => by exact lv_iload X.1.1 X.1.2.1 hd (X.2.2.2.2.2.2.2.2 i _ h) kw) kk
theorem R_iload_n {j : Fin 4} {i : Nat} {x : Int} {pc' : Nat} (hd : q_d mm.2.1 pc (.iload_n j) 1 pc') (hi : (j : Nat) = i) (h : ls[i]? = some (some (.inl x))) (kk : RW l g mm R mc ms Post pc' S M k n ls (.inl x :: st)) : RW l g mm R mc ms Post (pc) S M k n ls (st) := by
  obtain ⟨hd, rfl⟩ := hd
  exact R_pure (fun hl hs => by exact q_RL.cons (hl.at h) hs) (fun hl hs p e s m args below meth c H locs lsR Q X kw => by exact lv_iload_n X.1.1 X.1.2.1 hd hi (X.2.2.2.2.2.2.2.2 i _ h) kw) kk
theorem R_lload {i : Nat} {x : Int} {pc' : Nat} (hd : q_d mm.2.1 pc (.lload i) 2 pc') (h : ls[i]? = some (some (.inr (.inl x)))) (kk : RW l g mm R mc ms Post pc' S M k n ls (.inr (.inl x) :: st)) : RW l g mm R mc ms Post (pc) S M k n ls (st) := by
  obtain ⟨hd, rfl⟩ := hd
  exact R_pure (fun hl hs => by exact q_RL.cons (hl.at h) hs) (fun hl hs p e s m args below meth c H locs lsR Q X kw => by exact lv_lload X.1.1 X.1.2.1 hd (X.2.2.2.2.2.2.2.2 i _ h) kw) kk
theorem R_lload_n {j : Fin 4} {i : Nat} {x : Int} {pc' : Nat} (hd : q_d mm.2.1 pc (.lload_n j) 1 pc') (hi : (j : Nat) = i) (h : ls[i]? = some (some (.inr (.inl x)))) (kk : RW l g mm R mc ms Post pc' S M k n ls (.inr (.inl x) :: st)) : RW l g mm R mc ms Post (pc) S M k n ls (st) := by
  obtain ⟨hd, rfl⟩ := hd
  exact R_pure (fun hl hs => by exact q_RL.cons (hl.at h) hs) (fun hl hs p e s m args below meth c H locs lsR Q X kw => by exact lv_lload_n X.1.1 X.1.2.1 hd hi (X.2.2.2.2.2.2.2.2 i _ h) kw) kk
theorem R_aload {i : Nat} {x : Nat} {pc' : Nat} (hd : q_d mm.2.1 pc (.aload i) 2 pc') (h : ls[i]? = some (some (.inr (.inr (some x))))) (kk : RW l g mm R mc ms Post pc' S M k n ls (.inr (.inr (some x)) :: st)) : RW l g mm R mc ms Post (pc) S M k n ls (st) := by
  obtain ⟨hd, rfl⟩ := hd
  exact R_pure (fun hl hs => by exact q_RL.cons (hl.at h) hs) (fun hl hs p e s m args below meth c H locs lsR Q X kw => by exact lv_aload X.1.1 X.1.2.1 hd (X.2.2.2.2.2.2.2.2 i _ h) kw) kk
theorem R_aload_n {j : Fin 4} {i : Nat} {x : Nat} {pc' : Nat} (hd : q_d mm.2.1 pc (.aload_n j) 1 pc') (hi : (j : Nat) = i) (h : ls[i]? = some (some (.inr (.inr (some x))))) (kk : RW l g mm R mc ms Post pc' S M k n ls (.inr (.inr (some x)) :: st)) : RW l g mm R mc ms Post (pc) S M k n ls (st) := by
  obtain ⟨hd, rfl⟩ := hd
  exact R_pure (fun hl hs => by exact q_RL.cons (hl.at h) hs) (fun hl hs p e s m args below meth c H locs lsR Q X kw => by exact lv_aload_n X.1.1 X.1.2.1 hd hi (X.2.2.2.2.2.2.2.2 i _ h) kw) kk
theorem R_istore {i : Nat} {x : Int} {pc' : Nat} (hd : q_d mm.2.1 pc (.istore i) 2 pc') (hn : i < mm.2.2.1) (hi : i < ls.length) (hnl : q_nl ls i = true) {ls' : List (Option SV)} (he : (ls.set i (some (.inl x))) = ls') (kk : RW l g mm R mc ms Post pc' S M k n ls' (st)) : RW l g mm R mc ms Post (pc) S M k n ls (.inl x :: st) := by
  obtain ⟨hd, rfl⟩ := hd
  subst he
  intro hl hs hM p e s m args below meth c H locs lsR X
  exact lv_istore X.1.1 X.1.2.1 hd (X.2.2.2.2.2.2.has) hn rfl (fun lsR' hh => kk (hl.set hs.hd) hs.tl hM p e s m args below meth c H locs lsR' ⟨X.1, X.2.1, X.2.2.1, X.2.2.2.1, X.2.2.2.2.1, X.2.2.2.2.2.1, q_L.set1 hnl hi hh⟩)
theorem R_istore_n {j : Fin 4} {i : Nat} {x : Int} {pc' : Nat} (hd : q_d mm.2.1 pc (.istore_n j) 1 pc') (hj : (j : Nat) = i) (hn : i < mm.2.2.1) (hi : i < ls.length) (hnl : q_nl ls i = true) {ls' : List (Option SV)} (he : (ls.set i (some (.inl x))) = ls') (kk : RW l g mm R mc ms Post pc' S M k n ls' (st)) : RW l g mm R mc ms Post (pc) S M k n ls (.inl x :: st) := by
  obtain ⟨hd, rfl⟩ := hd
  subst he
  intro hl hs hM p e s m args below meth c H locs lsR X
  exact lv_istore_n X.1.1 X.1.2.1 hd hj (X.2.2.2.2.2.2.has) hn rfl (fun lsR' hh => kk (hl.set hs.hd) hs.tl hM p e s m args below meth c H locs lsR' ⟨X.1, X.2.1, X.2.2.1, X.2.2.2.1, X.2.2.2.2.1, X.2.2.2.2.2.1, q_L.set1 hnl hi hh⟩)
theorem R_astore {i : Nat} {x : Nat} {pc' : Nat} (hd : q_d mm.2.1 pc (.astore i) 2 pc') (hn : i < mm.2.2.1) (hi : i < ls.length) (hnl : q_nl ls i = true) {ls' : List (Option SV)} (he : (ls.set i (some (.inr (.inr (some x))))) = ls') (kk : RW l g mm R mc ms Post pc' S M k n ls' (st)) : RW l g mm R mc ms Post (pc) S M k n ls (.inr (.inr (some x)) :: st) := by
  obtain ⟨hd, rfl⟩ := hd
  subst he
  intro hl hs hM p e s m args below meth c H locs lsR X
  exact lv_astore X.1.1 X.1.2.1 hd (X.2.2.2.2.2.2.has) hn rfl (fun lsR' hh => kk (hl.set hs.hd) hs.tl hM p e s m args below meth c H locs lsR' ⟨X.1, X.2.1, X.2.2.1, X.2.2.2.1, X.2.2.2.2.1, X.2.2.2.2.2.1, q_L.set1 hnl hi hh⟩)
theorem R_astore_n {j : Fin 4} {i : Nat} {x : Nat} {pc' : Nat} (hd : q_d mm.2.1 pc (.astore_n j) 1 pc') (hj : (j : Nat) = i) (hn : i < mm.2.2.1) (hi : i < ls.length) (hnl : q_nl ls i = true) {ls' : List (Option SV)} (he : (ls.set i (some (.inr (.inr (some x))))) = ls') (kk : RW l g mm R mc ms Post pc' S M k n ls' (st)) : RW l g mm R mc ms Post (pc) S M k n ls (.inr (.inr (some x)) :: st) := by
  obtain ⟨hd, rfl⟩ := hd
  subst he
  intro hl hs hM p e s m args below meth c H locs lsR X
  exact lv_astore_n X.1.1 X.1.2.1 hd hj (X.2.2.2.2.2.2.has) hn rfl (fun lsR' hh => kk (hl.set hs.hd) hs.tl hM p e s m args below meth c H locs lsR' ⟨X.1, X.2.1, X.2.2.1, X.2.2.2.1, X.2.2.2.2.1, X.2.2.2.2.2.1, q_L.set1 hnl hi hh⟩)
theorem R_lstore {i : Nat} {x : Int} {pc' : Nat} (hd : q_d mm.2.1 pc (.lstore i) 2 pc') (hn : i + 1 < mm.2.2.1) (hi : i < ls.length) (hnl : q_nl ls i = true) {ls' : List (Option SV)} (he : ((ls.set i (some (.inr (.inl x)))).set (i + 1) none) = ls') (kk : RW l g mm R mc ms Post pc' S M k n ls' (st)) : RW l g mm R mc ms Post (pc) S M k n ls (.inr (.inl x) :: st) := by
  obtain ⟨hd, rfl⟩ := hd
  subst he
  intro hl hs hM p e s m args below meth c H locs lsR X
  exact lv_lstore X.1.1 X.1.2.1 hd (X.2.2.2.2.2.2.has) hn rfl (fun lsR' hh => kk (hl.set hs.hd).setN hs.tl hM p e s m args below meth c H locs lsR' ⟨X.1, X.2.1, X.2.2.1, X.2.2.2.1, X.2.2.2.2.1, X.2.2.2.2.2.1, q_L.set2 hnl hi hh⟩)
theorem R_lstore_n {j : Fin 4} {i : Nat} {x : Int} {pc' : Nat} (hd : q_d mm.2.1 pc (.lstore_n j) 1 pc') (hj : (j : Nat) = i) (hn : i + 1 < mm.2.2.1) (hi : i < ls.length) (hnl : q_nl ls i = true) {ls' : List (Option SV)} (he : ((ls.set i (some (.inr (.inl x)))).set (i + 1) none) = ls') (kk : RW l g mm R mc ms Post pc' S M k n ls' (st)) : RW l g mm R mc ms Post (pc) S M k n ls (.inr (.inl x) :: st) := by
  obtain ⟨hd, rfl⟩ := hd
  subst he
  intro hl hs hM p e s m args below meth c H locs lsR X
  exact lv_lstore_n X.1.1 X.1.2.1 hd hj (X.2.2.2.2.2.2.has) hn rfl (fun lsR' hh => kk (hl.set hs.hd).setN hs.tl hM p e s m args below meth c H locs lsR' ⟨X.1, X.2.1, X.2.2.1, X.2.2.2.1, X.2.2.2.2.1, X.2.2.2.2.2.1, q_L.set2 hnl hi hh⟩)
theorem R_iinc {i : Nat} {x d : Int} {pc' : Nat} (hd : q_d mm.2.1 pc (.iinc i d) 3 pc') (h : ls[i]? = some (some (.inl x))) (hn : i < mm.2.2.1) (hnl : q_nl ls i = true) {ls' : List (Option SV)} (he : ls.set i (some (.inl (w32 (x + d)))) = ls') (kk : RW l g mm R mc ms Post pc' S M k n ls' (st)) : RW l g mm R mc ms Post (pc) S M k n ls (st) := by
  obtain ⟨hd, rfl⟩ := hd
  subst he
  intro hl hs hM p e s m args below meth c H locs lsR X
  have hi : i < ls.length := (List.getElem?_eq_some_iff.mp h).1
  have hm : (i, Value.int (Int32.ofInt x)) ∈ q_lv 0 ls := (q_lv_mem ls 0 _).mpr ⟨i, _, h, by rw [Nat.zero_add]; rfl⟩
  obtain ⟨j, hj⟩ := List.getElem?_of_mem hm
  refine lv_iinc (v := Int32.ofInt (w32 (x + d))) X.1.1 X.1.2.1 hd (X.2.2.2.2.2.2.has) hj (by rw [of_w32, Int32.ofInt_add]) hn rfl (fun lsR' hh => kk (hl.set (w32_r _)) hs hM p e s m args below meth c H locs lsR' ⟨X.1, X.2.1, X.2.2.1, X.2.2.2.1, X.2.2.2.2.1, X.2.2.2.2.2.1, q_L.set1 hnl hi hh⟩)
theorem R_icmp_eq {a b : Int} {off : Int} {tgt : Nat} {pc' : Nat} (hd : q_d mm.2.1 pc (.if_icmp .eq off) 3 pc') (ht : (pc : Int) + off = (tgt : Int)) (kt : a = b → RW l g mm R mc ms Post (tgt) S M k n ls (st)) (kf : ¬ (a = b) → RW l g mm R mc ms Post pc' S M k n ls (st)) : RW l g mm R mc ms Post (pc) S M k n ls (.inl b :: .inl a :: st) := by
  obtain ⟨hd, rfl⟩ := hd
  intro hl hs hM p e s m args below meth c H locs lsR X
  have hc : Int32.ofInt a = Int32.ofInt b ↔ a = b := eq32 hs.tl.hd hs.hd
  exact lv_icmp_eq X.1.1 X.1.2.1 hd ht (fun q => kt (hc.mp q) hl hs.tl.tl hM p e s m args below meth c H locs lsR X) (fun q => kf (fun z => q (hc.mpr z)) hl hs.tl.tl hM p e s m args below meth c H locs lsR X)
theorem R_icmp_ne {a b : Int} {off : Int} {tgt : Nat} {pc' : Nat} (hd : q_d mm.2.1 pc (.if_icmp .ne off) 3 pc') (ht : (pc : Int) + off = (tgt : Int)) (kt : ¬ (a = b) → RW l g mm R mc ms Post (tgt) S M k n ls (st)) (kf : a = b → RW l g mm R mc ms Post pc' S M k n ls (st)) : RW l g mm R mc ms Post (pc) S M k n ls (.inl b :: .inl a :: st) := by
  obtain ⟨hd, rfl⟩ := hd
  intro hl hs hM p e s m args below meth c H locs lsR X
  have hc : _ ↔ a = b := eq32 hs.tl.hd hs.hd
  exact lv_icmp_ne X.1.1 X.1.2.1 hd ht (fun q => kt (fun z => q (hc.mpr z)) hl hs.tl.tl hM p e s m args below meth c H locs lsR X) (fun q => kf (hc.mp q) hl hs.tl.tl hM p e s m args below meth c H locs lsR X)
theorem R_icmp_lt {a b : Int} {off : Int} {tgt : Nat} {pc' : Nat} (hd : q_d mm.2.1 pc (.if_icmp .lt off) 3 pc') (ht : (pc : Int) + off = (tgt : Int)) (kt : a < b → RW l g mm R mc ms Post (tgt) S M k n ls (st)) (kf : ¬ (a < b) → RW l g mm R mc ms Post pc' S M k n ls (st)) : RW l g mm R mc ms Post (pc) S M k n ls (.inl b :: .inl a :: st) := by
  obtain ⟨hd, rfl⟩ := hd
  intro hl hs hM p e s m args below meth c H locs lsR X
  have hc : Int32.ofInt a < Int32.ofInt b ↔ a < b := lt32 hs.tl.hd hs.hd
  exact lv_icmp_lt X.1.1 X.1.2.1 hd ht (fun q => kt (hc.mp q) hl hs.tl.tl hM p e s m args below meth c H locs lsR X) (fun q => kf (fun z => q (hc.mpr z)) hl hs.tl.tl hM p e s m args below meth c H locs lsR X)
theorem R_icmp_ge {a b : Int} {off : Int} {tgt : Nat} {pc' : Nat} (hd : q_d mm.2.1 pc (.if_icmp .ge off) 3 pc') (ht : (pc : Int) + off = (tgt : Int)) (kt : ¬ a < b → RW l g mm R mc ms Post (tgt) S M k n ls (st)) (kf : a < b → RW l g mm R mc ms Post pc' S M k n ls (st)) : RW l g mm R mc ms Post (pc) S M k n ls (.inl b :: .inl a :: st) := by
  obtain ⟨hd, rfl⟩ := hd
  intro hl hs hM p e s m args below meth c H locs lsR X
  have hc : Int32.ofInt b ≤ Int32.ofInt a ↔ ¬ a < b := by rw [← lt32 hs.tl.hd hs.hd]; exact Int32.not_lt.symm
  exact lv_icmp_ge X.1.1 X.1.2.1 hd ht (fun q => kt (hc.mp q) hl hs.tl.tl hM p e s m args below meth c H locs lsR X) (fun q => kf (Decidable.of_not_not (fun z => q (hc.mpr z))) hl hs.tl.tl hM p e s m args below meth c H locs lsR X)
theorem R_icmp_gt {a b : Int} {off : Int} {tgt : Nat} {pc' : Nat} (hd : q_d mm.2.1 pc (.if_icmp .gt off) 3 pc') (ht : (pc : Int) + off = (tgt : Int)) (kt : b < a → RW l g mm R mc ms Post (tgt) S M k n ls (st)) (kf : ¬ (b < a) → RW l g mm R mc ms Post pc' S M k n ls (st)) : RW l g mm R mc ms Post (pc) S M k n ls (.inl b :: .inl a :: st) := by
  obtain ⟨hd, rfl⟩ := hd
  intro hl hs hM p e s m args below meth c H locs lsR X
  have hc : Int32.ofInt b < Int32.ofInt a ↔ b < a := lt32 hs.hd hs.tl.hd
  exact lv_icmp_gt X.1.1 X.1.2.1 hd ht (fun q => kt (hc.mp q) hl hs.tl.tl hM p e s m args below meth c H locs lsR X) (fun q => kf (fun z => q (hc.mpr z)) hl hs.tl.tl hM p e s m args below meth c H locs lsR X)
theorem R_icmp_le {a b : Int} {off : Int} {tgt : Nat} {pc' : Nat} (hd : q_d mm.2.1 pc (.if_icmp .le off) 3 pc') (ht : (pc : Int) + off = (tgt : Int)) (kt : ¬ b < a → RW l g mm R mc ms Post (tgt) S M k n ls (st)) (kf : b < a → RW l g mm R mc ms Post pc' S M k n ls (st)) : RW l g mm R mc ms Post (pc) S M k n ls (.inl b :: .inl a :: st) := by
  obtain ⟨hd, rfl⟩ := hd
  intro hl hs hM p e s m args below meth c H locs lsR X
  have hc : Int32.ofInt a ≤ Int32.ofInt b ↔ ¬ b < a := by rw [← lt32 hs.hd hs.tl.hd]; exact Int32.not_lt.symm
  exact lv_icmp_le X.1.1 X.1.2.1 hd ht (fun q => kt (hc.mp q) hl hs.tl.tl hM p e s m args below meth c H locs lsR X) (fun q => kf (Decidable.of_not_not (fun z => q (hc.mpr z))) hl hs.tl.tl hM p e s m args below meth c H locs lsR X)
theorem R_if_eq {a : Int} {off : Int} {tgt : Nat} {pc' : Nat} (hd : q_d mm.2.1 pc (.ifCond .eq off) 3 pc') (ht : (pc : Int) + off = (tgt : Int)) (kt : a = 0 → RW l g mm R mc ms Post (tgt) S M k n ls (st)) (kf : ¬ (a = 0) → RW l g mm R mc ms Post pc' S M k n ls (st)) : RW l g mm R mc ms Post (pc) S M k n ls (.inl a :: st) := by
  obtain ⟨hd, rfl⟩ := hd
  intro hl hs hM p e s m args below meth c H locs lsR X
  have hc : Int32.ofInt a = 0 ↔ a = 0 := by rw [i0]; exact eq32 hs.hd z32
  exact lv_if_eq X.1.1 X.1.2.1 hd ht (fun q => kt (hc.mp q) hl hs.tl hM p e s m args below meth c H locs lsR X) (fun q => kf (fun z => q (hc.mpr z)) hl hs.tl hM p e s m args below meth c H locs lsR X)
theorem R_if_lt {a : Int} {off : Int} {tgt : Nat} {pc' : Nat} (hd : q_d mm.2.1 pc (.ifCond .lt off) 3 pc') (ht : (pc : Int) + off = (tgt : Int)) (kt : a < 0 → RW l g mm R mc ms Post (tgt) S M k n ls (st)) (kf : ¬ (a < 0) → RW l g mm R mc ms Post pc' S M k n ls (st)) : RW l g mm R mc ms Post (pc) S M k n ls (.inl a :: st) := by
  obtain ⟨hd, rfl⟩ := hd
  intro hl hs hM p e s m args below meth c H locs lsR X
  have hc : Int32.ofInt a < 0 ↔ a < 0 := by rw [i0]; exact lt32 hs.hd z32
  exact lv_if_lt X.1.1 X.1.2.1 hd ht (fun q => kt (hc.mp q) hl hs.tl hM p e s m args below meth c H locs lsR X) (fun q => kf (fun z => q (hc.mpr z)) hl hs.tl hM p e s m args below meth c H locs lsR X)
theorem R_if_ge {a : Int} {off : Int} {tgt : Nat} {pc' : Nat} (hd : q_d mm.2.1 pc (.ifCond .ge off) 3 pc') (ht : (pc : Int) + off = (tgt : Int)) (kt : ¬ a < 0 → RW l g mm R mc ms Post (tgt) S M k n ls (st)) (kf : a < 0 → RW l g mm R mc ms Post pc' S M k n ls (st)) : RW l g mm R mc ms Post (pc) S M k n ls (.inl a :: st) := by
  obtain ⟨hd, rfl⟩ := hd
  intro hl hs hM p e s m args below meth c H locs lsR X
  have hc : 0 ≤ Int32.ofInt a ↔ ¬ a < 0 := by rw [i0, ← lt32 hs.hd z32]; exact Int32.not_lt.symm
  exact lv_if_ge X.1.1 X.1.2.1 hd ht (fun q => kt (hc.mp q) hl hs.tl hM p e s m args below meth c H locs lsR X) (fun q => kf (Decidable.of_not_not (fun z => q (hc.mpr z))) hl hs.tl hM p e s m args below meth c H locs lsR X)
theorem R_if_gt {a : Int} {off : Int} {tgt : Nat} {pc' : Nat} (hd : q_d mm.2.1 pc (.ifCond .gt off) 3 pc') (ht : (pc : Int) + off = (tgt : Int)) (kt : 0 < a → RW l g mm R mc ms Post (tgt) S M k n ls (st)) (kf : ¬ (0 < a) → RW l g mm R mc ms Post pc' S M k n ls (st)) : RW l g mm R mc ms Post (pc) S M k n ls (.inl a :: st) := by
  obtain ⟨hd, rfl⟩ := hd
  intro hl hs hM p e s m args below meth c H locs lsR X
  have hc : 0 < Int32.ofInt a ↔ 0 < a := by rw [i0]; exact lt32 z32 hs.hd
  exact lv_if_gt X.1.1 X.1.2.1 hd ht (fun q => kt (hc.mp q) hl hs.tl hM p e s m args below meth c H locs lsR X) (fun q => kf (fun z => q (hc.mpr z)) hl hs.tl hM p e s m args below meth c H locs lsR X)
theorem R_if_le {a : Int} {off : Int} {tgt : Nat} {pc' : Nat} (hd : q_d mm.2.1 pc (.ifCond .le off) 3 pc') (ht : (pc : Int) + off = (tgt : Int)) (kt : ¬ 0 < a → RW l g mm R mc ms Post (tgt) S M k n ls (st)) (kf : 0 < a → RW l g mm R mc ms Post pc' S M k n ls (st)) : RW l g mm R mc ms Post (pc) S M k n ls (.inl a :: st) := by
  obtain ⟨hd, rfl⟩ := hd
  intro hl hs hM p e s m args below meth c H locs lsR X
  have hc : Int32.ofInt a ≤ 0 ↔ ¬ 0 < a := by rw [i0, ← lt32 z32 hs.hd]; exact Int32.not_lt.symm
  exact lv_if_le X.1.1 X.1.2.1 hd ht (fun q => kt (hc.mp q) hl hs.tl hM p e s m args below meth c H locs lsR X) (fun q => kf (Decidable.of_not_not (fun z => q (hc.mpr z))) hl hs.tl hM p e s m args below meth c H locs lsR X)
theorem R_if_ne {a : Int} {off : Int} {tgt : Nat} {pc' : Nat} (hd : q_d mm.2.1 pc (.ifCond .ne off) 3 pc') (ht : (pc : Int) + off = (tgt : Int)) (kt : ¬ (a = 0) → RW l g mm R mc ms Post (tgt) S M k n ls (st)) (kf : a = 0 → RW l g mm R mc ms Post pc' S M k n ls (st)) : RW l g mm R mc ms Post (pc) S M k n ls (.inl a :: st) := by
  obtain ⟨hd, rfl⟩ := hd
  intro hl hs hM p e s m args below meth c H locs lsR X
  have hc : Int32.ofInt a = 0 ↔ a = 0 := by rw [i0]; exact eq32 hs.hd z32
  exact lv_if_ne X.1.1 X.1.2.1 hd ht (fun q => kt (fun z => q (hc.mpr z)) hl hs.tl hM p e s m args below meth c H locs lsR X) (fun q => kf (hc.mp q) hl hs.tl hM p e s m args below meth c H locs lsR X)
theorem R_tsIn {dflt lo hi : Int} {offs : Array Int} {len : Nat} {x c0 : Int} {off : Int} {tgt : Nat} {pc' : Nat} (hd : q_d mm.2.1 pc (.tableswitch dflt lo hi offs) len pc') (hx : x = c0) (h1 : ¬ c0 < lo) (h2 : ¬ hi < c0) (ho : offs[(c0 - lo).toNat]? = some off) (ht : (pc : Int) + off = (tgt : Int)) (kk : RW l g mm R mc ms Post (tgt) S M k n ls (st)) : RW l g mm R mc ms Post (pc) S M k n ls (.inl x :: st) := by
  obtain ⟨hd, rfl⟩ := hd
  subst hx
  intro hl hs hM p e s m args below meth c H locs lsR X
  exact lv_tableIn X.1.1 X.1.2.1 hd (by rw [ti32 hs.hd]; exact h1) (by rw [ti32 hs.hd]; exact h2) (by rw [ti32 hs.hd]; exact ho) ht (kk hl hs.tl hM p e s m args below meth c H locs lsR X)
theorem R_tsOut {dflt lo hi : Int} {offs : Array Int} {len : Nat} {x : Int} {tgt : Nat} {pc' : Nat} (hd : q_d mm.2.1 pc (.tableswitch dflt lo hi offs) len pc') (h : x < lo ∨ hi < x) (ht : (pc : Int) + dflt = (tgt : Int)) (kk : RW l g mm R mc ms Post (tgt) S M k n ls (st)) : RW l g mm R mc ms Post (pc) S M k n ls (.inl x :: st) := by
  obtain ⟨hd, rfl⟩ := hd
  intro hl hs hM p e s m args below meth c H locs lsR X
  exact lv_tableOut X.1.1 X.1.2.1 hd (by rw [ti32 hs.hd]; exact h) ht (kk hl hs.tl hM p e s m args below meth c H locs lsR X)
theorem R_lookup {dflt : Int} {ps : Array (Int × Int)} {len : Nat} {x : Int} {off : Int} {tgt : Nat} {pc' : Nat} (hd : q_d mm.2.1 pc (.lookupswitch dflt ps) len pc') (hp : (ps.toList.zip (ps.toList.drop 1)).all (fun (a, next) => a.1 < next.1) = true) (ho : Op.lookupswitch.offset ps.toList dflt x = off) (ht : (pc : Int) + off = (tgt : Int)) (kk : RW l g mm R mc ms Post (tgt) S M k n ls (st)) : RW l g mm R mc ms Post (pc) S M k n ls (.inl x :: st) := by
  obtain ⟨hd, rfl⟩ := hd
  intro hl hs hM p e s m args below meth c H locs lsR X
  exact lv_lookup X.1.1 X.1.2.1 hd hp (by rw [ti32 hs.hd]; exact ho) ht (kk hl hs.tl hM p e s m args below meth c H locs lsR X)
end ROWS
