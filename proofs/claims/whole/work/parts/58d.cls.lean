/-! texts: one token of the class, from the characters -/
def wsi (si : Nat) : Nat := [0, 0, 1, 2, 9, 10, 11, 3, 4, 5, 6, 7, 8].getD si 0
theorem si_ok : ∀ si, 1 ≤ si → si < 13 → wsi si < 12 ∧ f_J0_length_8abf5 si = (wl (wsi si) : Int) ∧ ∀ j, j < wl (wsi si) → f_J0_charAt_5068e si (j : Int) = some (wdc (wsi si) j : Int) := by
  have h : ∀ si, si < 13 → 1 ≤ si → wsi si < 12 ∧ f_J0_length_8abf5 si = (wl (wsi si) : Int) ∧ ∀ j, j < wl (wsi si) → f_J0_charAt_5068e si (j : Int) = some (wdc (wsi si) j : Int) := by decide +kernel
  exact fun si a b => h si b a
theorem ix_ok : ∀ x : Nat, x < 256 → b_i2c (x : Int) = (x : Int) ∧ ∃ r, f_J0_indexOf_0f7a4 0 (x : Int) = some r ∧ (r < 0 ↔ ¬ sgb (x : Int) = true) := by
  have h : ∀ x : Nat, x < 256 → (decide (b_i2c (x : Int) = (x : Int)) && (match f_J0_indexOf_0f7a4 0 (x : Int) with | some r => decide (r < 0) == ! sgb (x : Int) | none => false)) = true := by decide +kernel
  intro x hx
  have q := h x hx
  rw [Bool.and_eq_true] at q
  refine ⟨of_decide_eq_true q.1, ?_⟩
  have q2 := q.2
  cases e : f_J0_indexOf_0f7a4 0 (x : Int) with
  | none => rw [e] at q2; exact absurd (show false = true from q2) (by decide)
  | some r =>
    rw [e] at q2
    refine ⟨r, rfl, ?_⟩
    have q3 : (decide (r < 0) == ! sgb (x : Int)) = true := q2
    cases hs : sgb (x : Int) <;> rw [hs] at q3 <;> simp at q3 <;> simp <;> omega
section CLS
variable {c : Nat → Int} {s : Nat} {A : Mem}
/-- the class's tape -/
def TPC (c : Nat → Int) (s : Nat) (A : Mem) : Prop := s ≤ 160 ∧ A 13 3 = (s : Int) ∧ ∀ j, j < s → A 14 j = c j
theorem TPC.at {p : Nat} (h : TPC c s A) (hp : p < s) : rd 160 (A 14) (p : Int) = c p := by rw [rd_n (by have := h.1; omega), h.2.2 p hp]
theorem en_go (h : TPC c s A) {q : Nat} (hq : q < s) : f_X5_endOf (q : Int) A = some ((en c s q : Nat) : Int) := by
  have h1 := h.1
  have go : ∀ (x3 x4 : Int) (f : Int → Bool), (∀ x : Int, f x = true ↔ ((x3 ≠ 0 ∧ ltr x = true) ∨ (x4 ≠ 0 ∧ dgt x = true))) → ∀ d p n : Nat, s - p = d → p ≤ s → d < n → f_X5_endOf_L29 x3 x4 A n (p : Int) = some ((rn c s f p : Nat) : Int) := by
    intro x3 x4 f hf d
    induction d with
    | zero =>
      intro p n e1 e2 e3
      obtain ⟨m, rfl⟩ : ∃ m, n = m + 1 := ⟨n - 1, by omega⟩
      rw [f_X5_endOf_L29, h.2.1, if_neg (by omega), rn_s (by omega)]
    | succ d ih =>
      intro p n e1 e2 e3
      obtain ⟨m, rfl⟩ : ∃ m, n = m + 1 := ⟨n - 1, by omega⟩
      have i1 := ih (p + 1) m (by omega) (by omega) (by omega)
      rw [f_X5_endOf_L29, h.2.1, if_pos (by omega), h.at (by omega), w32_n1 (by omega), i1, ltr_c, dgt_c]
      have hc := hf (c p)
      by_cases hb : f (c p) = true
      · rw [rn_t (by omega) hb]
        rcases hc.1 hb with ⟨z1, z2⟩ | ⟨z1, z2⟩
        · rw [if_neg z1, if_pos z2, if_neg (by decide)]
        · by_cases z3 : x3 = 0
          · rw [if_pos z3, if_neg z1, if_pos z2, if_neg (by decide)]
          · rw [if_neg z3, if_neg z1, if_pos z2, if_neg (show ¬ (1 : Int) = 0 by decide)]; split <;> rfl
      · rw [rn_f hb]
        by_cases z3 : x3 = 0
        · rw [if_pos z3]
          by_cases z4 : x4 = 0
          · rw [if_pos z4]
          · rw [if_neg z4, if_neg (fun z => hb (hc.2 (Or.inr ⟨z4, z⟩))), if_pos rfl]
        · rw [if_neg z3, if_neg (fun z => hb (hc.2 (Or.inl ⟨z3, z⟩))), if_pos rfl]
          by_cases z4 : x4 = 0
          · rw [if_pos z4]
          · rw [if_neg z4, if_neg (fun z => hb (hc.2 (Or.inr ⟨z4, z⟩))), if_pos rfl]
  unfold f_X5_endOf
  rw [h.at hq, w32_n1 (by omega), ltr_c, dgt_c]
  unfold en
  by_cases hl : ltr (c q) = true
  · have hd : ¬ dgt (c q) = true := by
      intro z
      have a := of_decide_eq_true hl
      have b := of_decide_eq_true z
      omega
    rw [if_pos hl, if_pos hl, if_neg hd]
    exact go 1 0 ltr (fun x => ⟨fun z => Or.inl ⟨by decide, z⟩, fun z => by rcases z with z | z; exact z.2; exact absurd rfl z.1⟩) (s - (q + 1)) (q + 1) 100000 rfl (by omega) (by omega)
  rw [if_neg hl, if_neg hl]
  by_cases hd : dgt (c q) = true
  · rw [if_pos hd, if_pos hd]
    exact go 0 1 dgt (fun x => ⟨fun z => Or.inr ⟨by decide, z⟩, fun z => by rcases z with z | z; exact absurd rfl z.1; exact z.2⟩) (s - (q + 1)) (q + 1) 100000 rfl (by omega) (by omega)
  · rw [if_neg hd, if_neg hd]
    have := go 0 0 (fun _ => false) (fun x => ⟨fun z => absurd z (by decide), fun z => by rcases z with z | z; exact absurd rfl z.1; exact absurd rfl z.1⟩) (s - (q + 1)) (q + 1) 100000 rfl (by omega) (by omega)
    rw [rn_f (by decide)] at this
    exact this
theorem en_le {q : Nat} (hq : q < s) : q < en c s q ∧ en c s q ≤ s := by
  unfold en
  have h1 := rn_all (c := c) (s := s) (f := ltr) _ (q + 1) rfl (by omega)
  have h2 := rn_all (c := c) (s := s) (f := dgt) _ (q + 1) rfl (by omega)
  by_cases hl : ltr (c q) = true
  · rw [if_pos hl]; omega
  rw [if_neg hl]
  by_cases hd : dgt (c q) = true
  · rw [if_pos hd]; omega
  · rw [if_neg hd]; omega
/-- the class's spelling -/
theorem sp_go (h : TPC c s A) {p e si : Nat} (h1 : 1 ≤ si) (h2 : si < 13) (hpe : p ≤ e) (hes : e ≤ s) : ∃ r, f_X5_spells si (p : Int) (e : Int) A = some r ∧ (r = 0 ∨ r = 1) ∧ (r = 1 ↔ WK c p e (wsi si)) := by
  obtain ⟨k1, k2, k3⟩ := si_ok si h1 h2
  have h160 := h.1
  have ew : ∀ _ : Unit, w32 ((e : Int) - (p : Int)) = ((e - p : Nat) : Int) := fun _ => by
    rw [w32_id (by omega) (by omega)]; omega
  unfold f_X5_spells
  rw [ew (), k2]
  by_cases hl : e - p = wl (wsi si)
  · rw [if_pos (by omega)]
    have go : ∀ d j n : Nat, wl (wsi si) - j = d → j ≤ wl (wsi si) → d < n → ∃ r, f_X5_spells_L15 si (p : Int) A n (j : Int) = some r ∧ (r = 0 ∨ r = 1) ∧ (r = 1 ↔ ∀ i, j ≤ i → i < wl (wsi si) → c (p + i) = (wdc (wsi si) i : Int)) := by
      intro d
      induction d with
      | zero =>
        intro j n e1 e2 e3
        obtain ⟨m, rfl⟩ : ∃ m, n = m + 1 := ⟨n - 1, by omega⟩
        exact ⟨1, by rw [f_X5_spells_L15, k2, if_neg (by omega)], Or.inr rfl, fun _ i a b => by omega, fun _ => rfl⟩
      | succ d ih =>
        intro j n e1 e2 e3
        obtain ⟨m, rfl⟩ : ∃ m, n = m + 1 := ⟨n - 1, by omega⟩
        obtain ⟨r, r1, r2, r3⟩ := ih (j + 1) m (by omega) (by omega) (by omega)
        have ep : ∀ _ : Unit, w32 ((p : Int) + (j : Int)) = ((p + j : Nat) : Int) := fun _ => by
          rw [w32_id (by omega) (by omega)]; omega
        rw [f_X5_spells_L15, k2, if_pos (by omega), k3 j (by omega), ep (), h.at (by omega), w32_n1 (by omega), r1]
        show ∃ r', (if c (p + j) = (wdc (wsi si) j : Int) then some r else some 0) = some r' ∧ _
        by_cases q : c (p + j) = (wdc (wsi si) j : Int)
        · rw [if_pos q]
          refine ⟨r, rfl, r2, r3.trans ⟨fun z i a b => ?_, fun z i a b => z i (by omega) b⟩⟩
          by_cases hi : i = j
          · rw [hi]; exact q
          · exact z i (by omega) b
        · rw [if_neg q]
          exact ⟨0, rfl, Or.inl rfl, fun z => absurd z (by decide), fun z => absurd (z j (Nat.le_refl _) (by omega)) q⟩
    obtain ⟨r, r1, r2, r3⟩ := go (wl (wsi si)) 0 100000 rfl (Nat.zero_le _) (by have := (wd_len _ k1).1; omega)
    exact ⟨r, r1, r2, r3.trans ⟨fun z => ⟨hl, fun j hj => z j (Nat.zero_le _) hj⟩, fun z i _ hi => z.2 i hi⟩⟩
  · rw [if_neg (by omega)]
    exact ⟨0, rfl, Or.inl rfl, fun z => absurd z (by decide), fun z => absurd z.1 hl⟩
theorem vl_go (h : TPC c s A) {e : Nat} (hes : e ≤ s) : ∀ d p n k : Nat, ∀ v : Int, e - p = d → p ≤ e → d < n → (∀ j, p ≤ j → j < e → dgt (c j) = true) → d + k ≤ 4 → 0 ≤ v → v < 10 ^ k → f_X5_value_L5 (e : Int) A n v (p : Int) = some (vlf c d p v) := by
  have h160 := h.1
  intro d
  induction d with
  | zero =>
    intro p n k v e1 e2 e3 hj hk v0 v1
    obtain ⟨m, rfl⟩ : ∃ m, n = m + 1 := ⟨n - 1, by omega⟩
    rw [f_X5_value_L5, if_neg (by omega), vlf]
  | succ d ih =>
    intro p n k v e1 e2 e3 hj hk v0 v1
    obtain ⟨m, rfl⟩ : ∃ m, n = m + 1 := ⟨n - 1, by omega⟩
    have hd := of_decide_eq_true (hj p (Nat.le_refl _) (by omega))
    have e10 : (10 : Int) ^ (k + 1) = 10 ^ k * 10 := Int.pow_succ ..
    have hk4 : (10 : Int) ^ k ≤ 1000 := by
      have : k = 0 ∨ k = 1 ∨ k = 2 ∨ k = 3 := by omega
      rcases this with rfl | rfl | rfl | rfl <;> decide
    have ew : ∀ _ : Unit, w32 (w32 (w32 (v * 10) + c p) - 48) = 10 * v + c p - 48 := fun _ => by
      rw [w32_id (z := v * 10) (by omega) (by omega), w32_id (z := v * 10 + c p) (by omega) (by omega), w32_id (by omega) (by omega)]; omega
    have i1 := ih (p + 1) m (k + 1) (10 * v + c p - 48) (by omega) (by omega) (by omega) (fun j a b => hj j (by omega) b) (by omega) (by omega) (by rw [e10]; omega)
    rw [f_X5_value_L5, if_pos (by omega), h.at (by omega), ew (), w32_n1 (by omega), i1, vlf]
end CLS
