/-! texts: the cut and the reference's tokens are one -/
section LEXE
variable {c : Nat → Int} {s : Nat} {A B : Mem}
theorem wk_fst {p e k : Nat} (hk : k < 12) (h : WK c p e k) : FST c p e k := ⟨by omega, fun k' a b => by have := WK_one (by omega) hk b h; omega, fun _ => h⟩
theorem wstep {p e k : Nat} {f X Y : Option Int} (h : ∃ r, f = some r ∧ (r = 0 ∨ r = 1) ∧ (r = 1 ↔ WK c p e k)) (h1 : ¬ WK c p e k → ∃ w, FST c p e w ∧ X = some (wtk w)) (h2 : WK c p e k → ∃ w, FST c p e w ∧ Y = some (wtk w)) : ∃ w, FST c p e w ∧ (f.bind fun r => if r = 0 then X else Y) = some (wtk w) := by
  obtain ⟨r, r1, r2, r3⟩ := h
  subst r1
  show ∃ w, FST c p e w ∧ (if r = 0 then X else Y) = some (wtk w)
  rcases r2 with q | q
  · rw [if_pos q]; exact h1 (fun z => by have := r3.2 z; omega)
  · rw [if_neg (by omega)]; exact h2 (r3.1 q)
theorem word_go (h : TPC c s A) {p e : Nat} (hpe : p ≤ e) (hes : e ≤ s) : ∃ w, FST c p e w ∧ f_X5_word (p : Int) (e : Int) A = some (wtk w) := by
  unfold f_X5_word
  refine wstep (sp_go h (si := 1) (by decide) (by decide) hpe hes) (fun n1 => ?_) (fun y => ⟨0, wk_fst (by decide) y, rfl⟩)
  refine wstep (sp_go h (si := 2) (by decide) (by decide) hpe hes) (fun n2 => ?_) (fun y => ⟨1, wk_fst (by decide) y, rfl⟩)
  refine wstep (sp_go h (si := 3) (by decide) (by decide) hpe hes) (fun n3 => ?_) (fun y => ⟨2, wk_fst (by decide) y, rfl⟩)
  refine wstep (sp_go h (si := 4) (by decide) (by decide) hpe hes) (fun n4 => ?_) (fun y => ⟨9, wk_fst (by decide) y, rfl⟩)
  refine wstep (sp_go h (si := 5) (by decide) (by decide) hpe hes) (fun n5 => ?_) (fun y => ⟨10, wk_fst (by decide) y, rfl⟩)
  refine wstep (sp_go h (si := 6) (by decide) (by decide) hpe hes) (fun n6 => ?_) (fun y => ⟨11, wk_fst (by decide) y, rfl⟩)
  refine wstep (sp_go h (si := 7) (by decide) (by decide) hpe hes) (fun n7 => ?_) (fun y => ⟨3, wk_fst (by decide) y, rfl⟩)
  refine wstep (sp_go h (si := 8) (by decide) (by decide) hpe hes) (fun n8 => ?_) (fun y => ⟨4, wk_fst (by decide) y, rfl⟩)
  refine wstep (sp_go h (si := 9) (by decide) (by decide) hpe hes) (fun n9 => ?_) (fun y => ⟨5, wk_fst (by decide) y, rfl⟩)
  refine wstep (sp_go h (si := 10) (by decide) (by decide) hpe hes) (fun n10 => ?_) (fun y => ⟨6, wk_fst (by decide) y, rfl⟩)
  refine wstep (sp_go h (si := 11) (by decide) (by decide) hpe hes) (fun n11 => ?_) (fun y => ⟨7, wk_fst (by decide) y, rfl⟩)
  refine wstep (sp_go h (si := 12) (by decide) (by decide) hpe hes) (fun n12 => ?_) (fun y => ⟨8, wk_fst (by decide) y, rfl⟩)
  refine ⟨12, ⟨Nat.le_refl _, fun k hk => ?_, fun z => absurd z (by decide)⟩, rfl⟩
  have : k = 0 ∨ k = 1 ∨ k = 2 ∨ k = 3 ∨ k = 4 ∨ k = 5 ∨ k = 6 ∨ k = 7 ∨ k = 8 ∨ k = 9 ∨ k = 10 ∨ k = 11 := by omega
  rcases this with rfl | rfl | rfl | rfl | rfl | rfl | rfl | rfl | rfl | rfl | rfl | rfl
  · exact n1
  · exact n2
  · exact n3
  · exact n7
  · exact n8
  · exact n9
  · exact n10
  · exact n11
  · exact n12
  · exact n4
  · exact n5
  · exact n6
theorem wtk_v : ∀ w, w ≤ 12 → vtk (wtk w) := by unfold vtk; decide +kernel
theorem tok_go (h : TPC c s A) {q : Nat} (hq : q < s) (hc : ∃ x : Nat, c q = (x : Int) ∧ x < 256) : ∃ x, f_X5_tokenOf (q : Int) ((en c s q : Nat) : Int) A = some x ∧ TK c s q x ∧ vtk x := by
  have h160 := h.1
  obtain ⟨e1, e2⟩ := en_le (c := c) hq
  unfold f_X5_tokenOf
  rw [h.at hq, ltr_c, dgt_c]
  by_cases hl : ltr (c q) = true
  · rw [if_pos hl, if_neg (by decide)]
    obtain ⟨w, w1, w2⟩ := word_go h (p := q) (e := en c s q) (by omega) e2
    rw [w2]
    exact ⟨wtk w, rfl, ⟨fun _ => ⟨w, w1, rfl⟩, fun z => absurd hl z, fun z => absurd hl z⟩, wtk_v w w1.1⟩
  rw [if_neg hl, if_pos rfl]
  have ew : ∀ _ : Unit, w32 (((en c s q : Nat) : Int) - (q : Int)) = ((en c s q - q : Nat) : Int) := fun _ => by
    rw [w32_id (by omega) (by omega)]; omega
  by_cases hd : dgt (c q) = true
  · rw [if_pos hd, if_neg (by decide), ew ()]
    by_cases h4 : 4 < en c s q - q
    · rw [if_pos (by omega)]
      exact ⟨1, rfl, ⟨fun z => absurd z hl, fun _ _ => by rw [if_pos h4], fun _ z => absurd hd z⟩, Or.inl rfl⟩
    · rw [if_neg (by omega)]
      have een : en c s q = rn c s dgt q := by unfold en; rw [if_neg hl, if_pos hd, ← rn_t hq hd]
      obtain ⟨k1, k2, k3, k4⟩ := rn_all (c := c) (s := s) (f := dgt) _ q rfl (by omega)
      rw [← een] at k1 k2 k3
      have i1 := vl_go h (e := en c s q) e2 (en c s q - q) q 100000 0 0 rfl k1 (by omega) k3 (by omega) (by decide) (by decide)
      obtain ⟨r1, r2⟩ := vlf_r True (c := c) (en c s q - q) q 0 0 (fun j a b => k3 j a (by omega)) (by decide) (by decide) (by omega)
      have hp : (10 : Int) ^ (en c s q - q + 0) ≤ 10000 := by
        have : en c s q - q + 0 = 0 ∨ en c s q - q + 0 = 1 ∨ en c s q - q + 0 = 2 ∨ en c s q - q + 0 = 3 ∨ en c s q - q + 0 = 4 := by omega
        rcases this with z | z | z | z | z <;> rw [z] <;> decide
      unfold f_X5_value
      rw [i1]
      refine ⟨w32 (1000 + vlf c (en c s q - q) q 0), rfl, ⟨fun z => absurd z hl, fun _ _ => ?_, fun _ z => absurd hd z⟩, ?_⟩
      · rw [if_neg h4, w32_id (by omega) (by omega)]
      · rw [w32_id (by omega) (by omega)]
        generalize vlf c (en c s q - q) q 0 = v at r1 r2
        have a1 : 1000 ≤ 1000 + v := by omega
        have a2 : 1000 + v < 11000 := by omega
        unfold vtk
        exact Or.inr (Or.inr (Or.inr (Or.inr (Or.inr (Or.inr (Or.inr (Or.inr (Or.inr (Or.inr (Or.inr ⟨a1, a2⟩))))))))))
  · rw [if_neg hd, if_pos rfl]
    obtain ⟨x, x1, x2⟩ := hc
    obtain ⟨b1, r, b2, b3⟩ := ix_ok x x2
    rw [x1, b1, b2]
    show ∃ x', (if r < 0 then some 1 else some (x : Int)) = some x' ∧ _
    by_cases z : r < 0
    · rw [if_pos z]
      exact ⟨1, rfl, ⟨fun y => absurd y hl, fun _ y => absurd y hd, fun _ _ => by rw [x1, if_neg (b3.1 z)]⟩, Or.inl rfl⟩
    · rw [if_neg z]
      have hs : sgb (x : Int) = true := by
        by_cases y : sgb (x : Int) = true
        · exact y
        · exact absurd (b3.2 y) z
      refine ⟨(x : Int), rfl, ⟨fun y => absurd y hl, fun _ y => absurd y hd, fun _ _ => by rw [x1, if_pos hs]⟩, ?_⟩
      unfold sgb at hs
      have hs := of_decide_eq_true hs
      unfold vtk
      rcases hs with y | y | y | y | y | y | y | y <;> rw [y] <;> decide
/-- where the token i ends that the cut found before -/
def aeN (c : Nat → Int) (s : Nat) : Nat → Nat
  | 0 => 0
  | i + 1 => if rn c s blk (aeN c s i) < s then en c s (rn c s blk (aeN c s i)) else s
def psN (c : Nat → Int) (s : Nat) (i : Nat) : Nat := rn c s blk (aeN c s i)
theorem ae_le : ∀ i, aeN c s i ≤ s := by
  intro i
  cases i with
  | zero => exact Nat.zero_le _
  | succ i =>
    rw [aeN]
    by_cases h : rn c s blk (aeN c s i) < s
    · rw [if_pos h]; exact (en_le h).2
    · rw [if_neg h]; exact Nat.le_refl _
/-- the cut before place p with m tokens -/
def CI (c : Nat → Int) (s p m : Nat) (M : Mem) : Prop := p ≤ psN c s m ∧ m ≤ p ∧ ∀ i, i < m → psN c s i < s ∧ TK c s (psN c s i) (M 15 i) ∧ vtk (M 15 i) ∧ M 16 i = ((psN c s i : Nat) : Int)
theorem cut_go {K : Int → Mem → Option (Int × Mem)} (hc : ∀ j, j < s → ∃ x : Nat, c j = (x : Int) ∧ x < 256) : ∀ d p n m M, s - p = d → p ≤ s → d < n → TPC c s M → CI c s p m M →
    ∃ M' nt, f_X5_cut_L6 K n (m : Int) ((aeN c s m : Nat) : Int) (p : Int) M = K ((nt : Nat) : Int) M' ∧ CI c s s nt M' ∧ agx [15, 16] M M' := by
  intro d
  induction d with
  | zero =>
    intro p n m M e1 e2 e3 h hI
    obtain ⟨k, rfl⟩ : ∃ k, n = k + 1 := ⟨n - 1, by omega⟩
    have : p = s := by omega
    subst this
    exact ⟨M, m, by rw [f_X5_cut_L6, h.2.1, if_neg (by omega)], hI, fun _ _ => rfl⟩
  | succ d ih =>
    intro p n m M e1 e2 e3 h hI
    obtain ⟨k, rfl⟩ : ∃ k, n = k + 1 := ⟨n - 1, by omega⟩
    have h160 := h.1
    obtain ⟨i1, i2, i3⟩ := hI
    have hae := ae_le (c := c) (s := s) m
    obtain ⟨g1, g2, g3, g4⟩ := rn_all (c := c) (s := s) (f := blk) _ (aeN c s m) rfl hae
    have hps : psN c s m = rn c s blk (aeN c s m) := rfl
    rw [← hps] at g1 g2 g3 g4
    have skip : p + 1 ≤ psN c s m → ∃ M' nt, f_X5_cut_L6 K k (m : Int) ((aeN c s m : Nat) : Int) ((p + 1 : Nat) : Int) M = K ((nt : Nat) : Int) M' ∧ CI c s s nt M' ∧ agx [15, 16] M M' := fun z => ih (p + 1) k m M (by omega) (by omega) (by omega) h ⟨z, by omega, i3⟩
    rw [f_X5_cut_L6, h.2.1, if_pos (by omega), h.at (by omega), w32_n1 (a := p) (by omega), blk_c]
    by_cases q1 : p < aeN c s m
    · rw [if_pos (by omega)]; exact skip (by omega)
    rw [if_neg (by omega)]
    by_cases hb : blk (c p) = true
    · rw [if_pos hb, if_neg (by decide)]
      refine skip ?_
      by_cases z : p = psN c s m
      · rw [← z] at g4
        exact absurd hb (g4 (by omega))
      · omega
    · rw [if_neg hb, if_pos rfl]
      have hp : p = psN c s m := by
        by_cases z : p < psN c s m
        · exact absurd (g3 p (by omega) z) hb
        · omega
      obtain ⟨x, x1, x2, x3⟩ := tok_go h (q := p) (by omega) (hc p (by omega))
      obtain ⟨l1, l2⟩ := en_le (c := c) (s := s) (q := p) (by omega)
      have ea : aeN c s (m + 1) = en c s p := by rw [aeN, ← hps, ← hp, if_pos (by omega)]
      have hpos : aeN c s (m + 1) ≤ psN c s (m + 1) := (rn_all (c := c) (s := s) (f := blk) _ (aeN c s (m + 1)) rfl (ae_le _)).1
      rw [en_go h (by omega)]
      simp only [Option.bind_some]
      rw [x1]
      simp only [Option.bind_some]
      rw [w32_n1 (a := m) (by omega), wr_n (by omega), wr_n (by omega), ← ea]
      obtain ⟨M', nt, y1, y2, y3⟩ := ih (p + 1) k (m + 1) (mset (mset M 15 m x) 16 m (p : Int)) (by omega) (by omega) (by omega) ⟨h160, by rw [mset_c (by decide), mset_c (by decide)]; exact h.2.1, fun j hj => by rw [mset_c (by decide), mset_c (by decide)]; exact h.2.2 j hj⟩ ⟨by omega, by omega, fun i hi => by
        by_cases z : i = m
        · rw [z, mset_c (by decide), mset_at, mset_at, ← hp]
          exact ⟨by omega, x2, x3, rfl⟩
        · rw [mset_c (by decide), mset_i z, mset_i z, mset_c (by decide)]
          exact i3 i (by omega)⟩
      refine ⟨M', nt, y1, y2, fun c' hc' => ?_⟩
      rw [y3 c' hc', mset_c (fun z => hc' (by rw [z]; decide)), mset_c (fun z => hc' (by rw [z]; decide))]
theorem lex (hA : TPC c s A) (hB : TPE c s B) (hW : WD B) (hc : ∀ j, j < s → ∃ x : Nat, c j = (x : Int) ∧ x < 256) : ∃ A1 nt ae, f_X5_cut A = some (0, A1) ∧ agx [15, 16] A A1 ∧ nt ≤ 160 ∧ NXT A1 B nt ae ∧ A1 15 nt = 0 ∧ (∀ i, i < nt → vtk (A1 15 i)) ∧ ae 0 = 0 ∧ ∀ i, i ≤ nt → ∃ p : Nat, A1 16 i = (p : Int) ∧ p ≤ 160 := by
  have h160 := hA.1
  obtain ⟨M', nt, y1, ⟨y2, y3, y4⟩, y5⟩ := cut_go (K := fun y50 M51 => some ((0 : Int), (wr (wr M51 15 161 y50 0) 16 161 y50 ((wr M51 15 161 y50 0) 13 3)))) hc s 0 100000 0 A rfl (Nat.zero_le _) (by omega) hA ⟨Nat.zero_le _, Nat.le_refl _, fun i hi => by omega⟩
  have y1 : f_X5_cut A = some (0, (wr (wr M' 15 161 (nt : Int) 0) 16 161 (nt : Int) ((wr M' 15 161 (nt : Int) 0) 13 3))) := y1
  have h13 : M' 13 3 = (s : Int) := by rw [y5 13 (by decide)]; exact hA.2.1
  rw [wr_n (by omega), wr_n (by omega), mset_c (show (13 : Nat) ≠ 15 by decide), h13] at y1
  have hps : ∀ i, aeN c s i ≤ psN c s i ∧ psN c s i ≤ s := fun i => by
    have := rn_all (c := c) (s := s) (f := blk) _ (aeN c s i) rfl (ae_le _)
    exact ⟨this.1, this.2.1⟩
  have hn : psN c s nt = s := by have := (hps nt).2; omega
  have h16 : ∀ i, i ≤ nt → mset (mset M' 15 nt 0) 16 nt (s : Int) 16 i = ((psN c s i : Nat) : Int) := fun i hi => by
    by_cases z : i = nt
    · rw [z, mset_at, hn]
    · rw [mset_i z, mset_c (by decide)]; exact (y4 i (by omega)).2.2.2
  have h15 : ∀ i, i < nt → mset (mset M' 15 nt 0) 16 nt (s : Int) 15 i = M' 15 i := fun i hi => by
    rw [mset_c (by decide), mset_i (by omega)]
  have h15n : mset (mset M' 15 nt 0) 16 nt (s : Int) 15 nt = 0 := by rw [mset_c (by decide), mset_at]
  refine ⟨mset (mset M' 15 nt 0) 16 nt (s : Int), nt, fun i => ((aeN c s i : Nat) : Int), y1, fun c' hc' => by rw [mset_c (fun z => hc' (by rw [z]; decide)), mset_c (fun z => hc' (by rw [z]; decide)), y5 c' hc'], by omega, fun i hi B0 z1 z2 z3 z4 => ?_, h15n, fun i hi => by rw [h15 i hi]; exact (y4 i hi).2.2.1, rfl, fun i hi => ⟨psN c s i, h16 i hi, by have := (hps i).2; omega⟩⟩
  obtain ⟨B', b1, b2, b3, b4, b5⟩ := next_go (hB.e (M' := B0) z1 z3) (fun j hj => by rw [z2]; exact hW j hj) (ae_le i) z4
  refine ⟨B', b1, b2, ?_, by rw [h16 i hi]; exact b3, ?_⟩
  · show B' 38 26 = ((aeN c s (i + 1) : Nat) : Int)
    rw [aeN]
    by_cases z : rn c s blk (aeN c s i) < s
    · rw [if_pos z]; exact (b5 z).1
    · rw [if_neg z]; exact (b4 z).1
  · by_cases z : i < nt
    · rw [h15 i z]
      exact (b5 (y4 i z).1).2 _ (y4 i z).2.1
    · have : i = nt := by omega
      subst this
      rw [h15n]
      refine ⟨(b4 (by have := hn; unfold psN at this; omega)).2, fun y => absurd y (by decide)⟩
end LEXE
