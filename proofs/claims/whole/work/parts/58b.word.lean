/-! texts: digits and words of the reference -/
section REFB
variable {c : Nat → Int} {s : Nat} {M : Mem}
theorem l230_go {K : Int → Mem → Option (Int × Mem)} (h : TPE c s M) : ∀ d p n k : Nat, ∀ v : Int, s - p = d → p ≤ s → d < n → k ≤ p → (k ≤ 4 → 0 ≤ v ∧ v < 10 ^ k) →
    ∃ v' : Int, f_X10_next_L230 K n (k : Int) (mset (mset M 38 29 v) 38 26 (p : Int)) = K ((k + (rn c s dgt p - p) : Nat) : Int) (mset (mset M 38 29 v') 38 26 ((rn c s dgt p : Nat) : Int)) ∧ (k + (rn c s dgt p - p) ≤ 4 → v' = vlf c (rn c s dgt p - p) p v) := by
  obtain ⟨h1, h2, h3⟩ := h
  intro d
  induction d with
  | zero =>
    intro p n k v e1 e2 e3 e4 e5
    obtain ⟨m, rfl⟩ : ∃ m, n = m + 1 := ⟨n - 1, by omega⟩
    refine ⟨v, ?_, fun _ => ?_⟩
    · rw [f_X10_next_L230, mset_at, mset_i (by decide), mset_i (by decide), h2, if_neg (by omega), rn_s (by omega), Nat.sub_self, Nat.add_zero]
    · rw [rn_s (by omega), Nat.sub_self, vlf]
  | succ d ih =>
    intro p n k v e1 e2 e3 e4 e5
    obtain ⟨m, rfl⟩ : ∃ m, n = m + 1 := ⟨n - 1, by omega⟩
    have h44 : mset (mset M 38 29 v) 38 26 (p : Int) 44 p = c p := by rw [mset_c (by decide), mset_c (by decide), h3 p (by omega)]
    have body : ∀ f1 : Mem → Option (Int × Mem), f_X10_next_L230 K (m + 1) (k : Int) (mset (mset M 38 29 v) 38 26 (p : Int)) = if dgt (c p) = true then (if (k : Int) < 4 then f_X10_next_L230 K m (w32 ((k : Int) + 1)) (mset (mset M 38 29 (w32 (w32 (w32 (10 * v) + c p) - 48))) 38 26 ((p + 1 : Nat) : Int)) else f_X10_next_L230 K m (w32 ((k : Int) + 1)) (mset (mset M 38 29 0) 38 26 ((p + 1 : Nat) : Int))) else K (k : Int) (mset (mset M 38 29 v) 38 26 (p : Int)) := by
      intro _
      have sw : ∀ x : Int, mset (mset (mset (mset M 38 29 v) 38 26 (p : Int)) 38 29 x) 38 26 ((p + 1 : Nat) : Int) = mset (mset M 38 29 x) 38 26 ((p + 1 : Nat) : Int) := by
        intro x
        funext a b
        unfold mset
        by_cases q1 : a = 38 ∧ b = 26
        · rw [if_pos q1, if_pos q1]
        · rw [if_neg q1, if_neg q1]
          by_cases q2 : a = 38 ∧ b = 29
          · rw [if_pos q2, if_neg q1, if_pos q2]
          · rw [if_neg q2, if_neg q2, if_neg q1, if_neg q2]
      have e26 : ∀ x : Int, mset (mset (mset M 38 29 v) 38 26 (p : Int)) 38 29 x 38 26 = (p : Int) := fun x => by rw [mset_i (by decide), mset_at]
      have e29 : mset (mset M 38 29 v) 38 26 (p : Int) 38 29 = v := by rw [mset_i (by decide), mset_at]
      have e10 : mset (mset M 38 29 v) 38 26 (p : Int) 38 10 = (s : Int) := by rw [mset_i (by decide), mset_i (by decide), h2]
      rw [f_X10_next_L230, mset_at, e10, if_pos (by omega), if_pos (by omega), Int.toNat_natCast, h44, dgt_e]
      by_cases hb : dgt (c p) = true
      · rw [if_pos hb, if_neg (by decide), if_pos hb]
        by_cases hk : (k : Int) < 4
        · rw [if_pos hk, if_pos hk, if_pos (by omega), e26, e29, w32_n1 (a := p) (by omega), sw]
        · rw [if_neg hk, if_neg hk, e26, w32_n1 (a := p) (by omega), sw]
      · rw [if_neg hb, if_pos rfl, if_neg hb]
    rw [body (fun _ => none)]
    by_cases hb : dgt (c p) = true
    · have hd := of_decide_eq_true hb
      rw [rn_t (by omega) hb, if_pos hb]
      obtain ⟨g1, _, _, _⟩ := rn_all (c := c) (s := s) (f := dgt) _ (p + 1) rfl (by omega)
      have ek : k + (rn c s dgt (p + 1) - p) = (k + 1) + (rn c s dgt (p + 1) - (p + 1)) := by omega
      by_cases hk : (k : Int) < 4
      · have hv := e5 (by omega)
        have e : (10 : Int) ^ (k + 1) = 10 ^ k * 10 := Int.pow_succ ..
        have hk4 : (10 : Int) ^ k ≤ 1000 := by
          have : k = 0 ∨ k = 1 ∨ k = 2 ∨ k = 3 := by omega
          rcases this with rfl | rfl | rfl | rfl <;> decide
        have ew : ∀ _ : Unit, w32 (w32 (w32 (10 * v) + c p) - 48) = 10 * v + c p - 48 := fun _ => by
          rw [w32_id (z := 10 * v) (by omega) (by omega), w32_id (z := 10 * v + c p) (by omega) (by omega), w32_id (by omega) (by omega)]
        obtain ⟨v', i1, i2⟩ := ih (p + 1) m (k + 1) (10 * v + c p - 48) (by omega) (by omega) (by omega) (by omega) (fun _ => ⟨by omega, by rw [e]; omega⟩)
        refine ⟨v', ?_, fun q => ?_⟩
        · rw [if_pos hk, ew (), w32_n1 (a := k) (by omega), i1, ek]
        · rw [i2 (by omega), show rn c s dgt (p + 1) - p = (rn c s dgt (p + 1) - (p + 1)) + 1 by omega, vlf]
      · obtain ⟨v', i1, i2⟩ := ih (p + 1) m (k + 1) 0 (by omega) (by omega) (by omega) (by omega) (fun q => by omega)
        refine ⟨v', ?_, fun q => by omega⟩
        rw [if_neg hk, w32_n1 (a := k) (by omega), i1, ek]
    · rw [if_neg hb, rn_f hb, Nat.sub_self, Nat.add_zero]
      exact ⟨v, rfl, fun _ => by rw [vlf]⟩
/-! words -/
def wl (k : Nat) : Nat := [3, 5, 6, 5, 5, 5, 4, 5, 4, 2, 3, 3].getD k 0
def wdc (k j : Nat) : Nat := wds.getD (8 * k + j) 0
theorem wd_len : ∀ k, k < 12 → wl k ≤ 8 ∧ ∀ j, j < 8 → (wdc k j = 32 ↔ ¬ j < wl k) ∧ wdc k j < 256 := by decide +kernel
theorem wd_one : ∀ k, k < 12 → ∀ k', k' < 12 → wl k = wl k' → (∀ j, j < wl k → wdc k j = wdc k' j) → k = k' := by decide +kernel
/-- the characters p .. e-1 are the word k -/
def WK (c : Nat → Int) (p e k : Nat) : Prop := e - p = wl k ∧ ∀ j, j < wl k → c (p + j) = (wdc k j : Int)
theorem WK_one {p e k k' : Nat} (hk : k < 12) (hk' : k' < 12) (h : WK c p e k) (h' : WK c p e k') : k = k' :=
  wd_one k hk k' hk' (h.1.symm.trans h'.1) (fun j hj => by
    have a := h.2 j hj
    have b := h'.2 j (by have := h.1; have := h'.1; omega)
    rw [a] at b; exact Int.ofNat_inj.mp b)
/-- the column loop -/
theorem w26_go {K : Int → Option Int} {p e k : Nat} (h : TPE c s M) (hW : WD M) (hk : k < 12) (hpe : p ≤ e) (hes : e ≤ s) :
    ∀ d j n : Nat, 8 - j = d → j ≤ 8 → d < n → ∀ x : Int, (x = 0 ∨ x = 1) → ∃ y : Int, f_X10_wordFrom_L26 K (p : Int) (e : Int) (k : Int) M n x (j : Int) = K y ∧ (y = 0 ∨ y = 1) ∧ (y = 1 ↔ x = 1 ∧ ∀ i, j ≤ i → i < 8 → (if p + i < e then (wdc k i : Int) = c (p + i) else wdc k i = 32)) := by
  obtain ⟨h1, h2, h3⟩ := h
  intro d
  induction d with
  | zero =>
    intro j n e1 e2 e3 x hx
    obtain ⟨m, rfl⟩ : ∃ m, n = m + 1 := ⟨n - 1, by omega⟩
    exact ⟨x, by rw [f_X10_wordFrom_L26, if_neg (by omega)], hx, fun q => ⟨q, fun i a b => by omega⟩, fun q => q.1⟩
  | succ d ih =>
    intro j n e1 e2 e3 x hx
    obtain ⟨m, rfl⟩ : ∃ m, n = m + 1 := ⟨n - 1, by omega⟩
    have ew : ∀ _ : Unit, w32 (w32 (8 * (k : Int)) + (j : Int)) = ((8 * k + j : Nat) : Int) := fun _ => by
      rw [w32_id (z := 8 * (k : Int)) (by omega) (by omega), w32_id (by omega) (by omega)]; omega
    have ep : ∀ _ : Unit, w32 ((p : Int) + (j : Int)) = ((p + j : Nat) : Int) := fun _ => by
      rw [w32_id (by omega) (by omega)]; omega
    rw [f_X10_wordFrom_L26, if_pos (by omega)]
    rcases hx with rfl | rfl
    · exact ⟨0, by rw [if_pos rfl], Or.inl rfl, fun q => absurd q (by decide), fun q => absurd q.1 (by decide)⟩
    rw [if_neg (by decide), ew (), ep (), if_pos (by omega), Int.toNat_natCast, Int.toNat_natCast, hW _ (by omega), w32_n1 (a := j) (by omega)]
    show ∃ y : Int, (if ((p + j : Nat) : Int) < (e : Int) then if 0 ≤ ((p + j : Nat) : Int) ∧ ((p + j : Nat) : Int) < 160 then if ((wdc k j : Nat) : Int) = M 44 (p + j) then _ else _ else none else if ((wdc k j : Nat) : Int) = 32 then _ else _) = K y ∧ _
    have stp : ∀ x : Int, (x = 0 ∨ x = 1) → (x = 1 ↔ (if p + j < e then (wdc k j : Int) = c (p + j) else wdc k j = 32)) → ∃ y : Int, f_X10_wordFrom_L26 K (p : Int) (e : Int) (k : Int) M m x ((j + 1 : Nat) : Int) = K y ∧ (y = 0 ∨ y = 1) ∧ (y = 1 ↔ (1 : Int) = 1 ∧ ∀ i, j ≤ i → i < 8 → (if p + i < e then (wdc k i : Int) = c (p + i) else wdc k i = 32)) := by
      intro x hx hq
      obtain ⟨y, y1, y2, y3⟩ := ih (j + 1) m (by omega) (by omega) (by omega) x hx
      refine ⟨y, y1, y2, y3.trans ⟨fun q => ⟨rfl, fun i a b => ?_⟩, fun q => ⟨hq.2 (q.2 j (Nat.le_refl _) (by omega)), fun i a b => q.2 i (by omega) b⟩⟩⟩
      by_cases hi : i = j
      · rw [hi]; exact hq.1 q.1
      · exact q.2 i (by omega) b
    by_cases q1 : p + j < e
    · rw [if_pos (by omega), if_pos (by omega), h3 _ (by omega)]
      by_cases q2 : ((wdc k j : Nat) : Int) = c (p + j)
      · rw [if_pos q2]; exact stp 1 (Or.inr rfl) (by rw [if_pos q1]; exact ⟨fun _ => q2, fun _ => rfl⟩)
      · rw [if_neg q2]; exact stp 0 (Or.inl rfl) (by rw [if_pos q1]; exact ⟨fun q => absurd q (by decide), fun q => absurd q q2⟩)
    · rw [if_neg (by omega)]
      by_cases q2 : wdc k j = 32
      · rw [if_pos (by rw [q2]; rfl)]; exact stp 1 (Or.inr rfl) (by rw [if_neg q1]; exact ⟨fun _ => q2, fun _ => rfl⟩)
      · rw [if_neg (by omega)]; exact stp 0 (Or.inl rfl) (by rw [if_neg q1]; exact ⟨fun q => absurd q (by decide), fun q => absurd q q2⟩)
/-- all columns fit: the word -/
theorem col_e {p e k : Nat} (hk : k < 12) (hpe : p ≤ e) (h8 : e - p ≤ 8) (hl : ∀ j, p ≤ j → j < e → ltr (c j) = true) : (∀ i, 0 ≤ i → i < 8 → (if p + i < e then (wdc k i : Int) = c (p + i) else wdc k i = 32)) ↔ WK c p e k := by
  obtain ⟨d1, d2⟩ := wd_len k hk
  refine ⟨fun h => ?_, fun h i _ hi => ?_⟩
  · have a1 : e - p ≤ wl k := by
      by_cases q : e - p ≤ wl k
      · exact q
      · exfalso
        have := h (wl k) (Nat.zero_le _) (by omega)
        rw [if_pos (by omega)] at this
        have b := of_decide_eq_true (hl (p + wl k) (by omega) (by omega))
        have := (d2 (wl k) (by omega)).1.2 (by omega)
        omega
    have a2 : wl k ≤ e - p := by
      by_cases q : wl k ≤ e - p
      · exact q
      · exfalso
        have := h (e - p) (Nat.zero_le _) (by omega)
        rw [if_neg (by omega)] at this
        exact (d2 (e - p) (by omega)).1.1 this (by omega)
    refine ⟨by omega, fun j hj => ?_⟩
    have := h j (Nat.zero_le _) (by omega)
    rw [if_pos (by omega)] at this
    exact this.symm
  · by_cases q : p + i < e
    · rw [if_pos q]; exact (h.2 i (by have := h.1; omega)).symm
    · rw [if_neg q]; exact (d2 i hi).1.2 (by have := h.1; omega)
/-- the reference's word: the first that fits -/
theorem wf_go {p e : Nat} (h : TPE c s M) (hW : WD M) (hpe : p ≤ e) (hes : e ≤ s) (hl : ∀ j, p ≤ j → j < e → ltr (c j) = true) :
    ∀ d k n : Nat, 12 - k = d → k ≤ 12 → d < n → ∃ w : Nat, f_X10_wordFrom_L2 (p : Int) (e : Int) M n (k : Int) = some (w : Int) ∧ k ≤ w ∧ w ≤ 12 ∧ (∀ k', k ≤ k' → k' < w → ¬ WK c p e k') ∧ (w < 12 → WK c p e w) := by
  intro d
  induction d with
  | zero =>
    intro k n e1 e2 e3
    obtain ⟨m, rfl⟩ : ∃ m, n = m + 1 := ⟨n - 1, by omega⟩
    exact ⟨12, by rw [f_X10_wordFrom_L2, if_neg (by omega)]; rfl, e2, Nat.le_refl _, fun k' a b => by omega, fun q => by omega⟩
  | succ d ih =>
    intro k n e1 e2 e3
    obtain ⟨m, rfl⟩ : ∃ m, n = m + 1 := ⟨n - 1, by omega⟩
    have h160 := h.1
    have ew : ∀ _ : Unit, w32 ((e : Int) - (p : Int)) = ((e - p : Nat) : Int) := fun _ => by
      rw [w32_id (by omega) (by omega)]; omega
    obtain ⟨w, i1, i2, i3, i4, i5⟩ := ih (k + 1) m (by omega) (by omega) (by omega)
    have no : ¬ WK c p e k → ∃ w' : Nat, some (w : Int) = some (w' : Int) ∧ k ≤ w' ∧ w' ≤ 12 ∧ (∀ k', k ≤ k' → k' < w' → ¬ WK c p e k') ∧ (w' < 12 → WK c p e w') := by
      intro hn
      refine ⟨w, rfl, by omega, i3, fun k' a b => ?_, i5⟩
      by_cases q : k' = k
      · rw [q]; exact hn
      · exact i4 k' (by omega) b
    rw [f_X10_wordFrom_L2, if_pos (by omega), ew (), w32_n1 (a := k) (by omega), i1]
    by_cases h8 : (8 : Int) < ((e - p : Nat) : Int)
    · rw [if_pos h8]
      obtain ⟨y, y1, y2, y3⟩ := w26_go (K := fun y315 => if y315 = 0 then some (w : Int) else some (k : Int)) h hW (show k < 12 by omega) hpe hes 8 0 100000 rfl (by decide) (by decide) 0 (Or.inl rfl)
      have y1 : f_X10_wordFrom_L26 (fun y315 => if y315 = 0 then some (w : Int) else some (k : Int)) (p : Int) (e : Int) (k : Int) M 100000 0 0 = _ := y1
      have y0 : y = 0 := by
        rcases y2 with q | q
        · exact q
        · exact absurd (y3.1 q).1 (by decide)
      rw [y1, y0, if_pos rfl]
      exact no (fun q => by have := q.1; have := (wd_len k (by omega)).1; omega)
    · rw [if_neg h8]
      obtain ⟨y, y1, y2, y3⟩ := w26_go (K := fun y316 => if y316 = 0 then some (w : Int) else some (k : Int)) h hW (show k < 12 by omega) hpe hes 8 0 100000 rfl (by decide) (by decide) 1 (Or.inr rfl)
      have y1 : f_X10_wordFrom_L26 (fun y316 => if y316 = 0 then some (w : Int) else some (k : Int)) (p : Int) (e : Int) (k : Int) M 100000 1 0 = _ := y1
      rw [y1]
      have ce := col_e (c := c) (show k < 12 by omega) hpe (by omega) hl
      rcases y2 with q | q
      · rw [q, if_pos rfl]
        exact no (fun z => absurd (y3.2 ⟨rfl, ce.2 z⟩) (by rw [q]; decide))
      · rw [q, if_neg (by decide)]
        exact ⟨k, rfl, Nat.le_refl _, by omega, fun k' a b => by omega, fun _ => ce.1 (y3.1 q).2⟩
end REFB
