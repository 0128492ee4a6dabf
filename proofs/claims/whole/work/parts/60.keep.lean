/-! texts: what a new text leaves of the others -/
theorem evs_c {c c' nm : Nat → Int} : ∀ (k i d : Nat) (st : Nat → Int), (∀ j, i ≤ j → j < i + k → c' j = c j) → evs c' nm k i d st = evs c nm k i d st := by
  intro k
  induction k with
  | zero => intro i d st h; rfl
  | succ k ih =>
    intro i d st h
    have h1 := h i (Nat.le_refl _) (by omega)
    have h2 : ∀ j, i + 1 ≤ j → j < i + 1 + k → c' j = c j := fun j a b => h j (by omega) (by omega)
    rw [evs, evs, h1, ih _ _ _ h2, ih _ _ _ h2, ih _ _ _ h2, ih _ _ _ h2, ih _ _ _ h2]
theorem wfc_c {c c' : Nat → Int} : ∀ (k i d : Nat), (∀ j, i ≤ j → j < i + k → c' j = c j) → wfc c k i d → wfc c' k i d := by
  intro k
  induction k with
  | zero => intro i d h w; exact w
  | succ k ih =>
    intro i d h w
    have h1 := h i (Nat.le_refl _) (by omega)
    have h2 : ∀ j, i + 1 ≤ j → j < i + 1 + k → c' j = c j := fun j a b => h j (by omega) (by omega)
    rw [wfc] at w ⊢
    rw [h1]
    rcases w with ⟨a, b, w⟩ | ⟨a, b, w⟩ | ⟨a, b, w⟩
    · exact Or.inl ⟨a, b, ih _ _ h2 w⟩
    · exact Or.inr (Or.inl ⟨a, b, ih _ _ h2 w⟩)
    · exact Or.inr (Or.inr ⟨a, b, ih _ _ h2 w⟩)
section KEEP
variable {M M' : Mem} {t : Nat}
theorem txb_k (ht : t < 6) (h46 : ∀ j, j < 4 * t → M' 46 j = M 46 j) {t' : Nat} (h : t' < t) {p : Nat} (hp : p ≤ 3) : txb M' t' p = txb M t' p := by
  unfold txb; rw [h46 _ (by omega)]
theorem TX_k (ht : t < 6) (h45 : ∀ j, j < 200 * t → M' 45 j = M 45 j) (h46 : ∀ j, j < 4 * t → M' 46 j = M 46 j) {t' : Nat} (h : t' < t) (hT : TX M t') : TX M' t' := by
  intro p hp
  obtain ⟨a1, a2, a3, a4, a5⟩ := hT p hp
  rw [txb_k ht h46 h (by omega), txb_k ht h46 h (by omega), h46 _ (by omega), h46 _ (by omega)]
  exact ⟨a1, a2, a3, a4, wfc_c _ _ _ (fun j b1 b2 => by unfold txc; rw [h45 _ (by omega)]) a5⟩
theorem CX_k (ht : t < 6) (h17 : ∀ j, j < 160 * t → M' 17 j = M 17 j) (h18 : ∀ j, j < 3 * t → M' 18 j = M 18 j) (h45 : ∀ j, j < 200 * t → M' 45 j = M 45 j) (h46 : ∀ j, j < 4 * t → M' 46 j = M 46 j) {t' : Nat} (h : t' < t) (hT : TX M t') (hC : CX M t') : CX M' t' := by
  obtain ⟨a1, a2, a3⟩ := hC
  have hb : txb M t' 3 ≤ 160 := (hT 2 (by decide)).2.2.2.1
  refine ⟨fun p hp => by rw [h18 _ (by omega), h46 _ (by omega)]; exact a1 p hp, by rw [h46 _ (by omega)]; exact a2, fun i hi => ?_⟩
  rw [txb_k ht h46 h (by omega)] at hi
  rw [h17 _ (by omega), h45 _ (by omega)]
  exact a3 i hi
theorem sy_k (ht : t < 6) (h45 : ∀ j, j < 200 * t → M' 45 j = M 45 j) (h46 : ∀ j, j < 4 * t → M' 46 j = M 46 j) {t' : Nat} (h : t' < t) (hT : TX M t') {p : Nat} (hp : p < 3) (a b c d e : Int) : sy M' t' p a b c d e = sy M t' p a b c d e := by
  obtain ⟨a1, a2, a3, a4, a5⟩ := hT p hp
  unfold sy
  rw [txb_k ht h46 h (by omega), txb_k ht h46 h (by omega), evs_c (c := txc M t') (c' := txc M' t') _ _ _ _ (fun j b1 b2 => by unfold txc; rw [h45 _ (by omega)])]
end KEEP
theorem CH_k {M M' : Mem} (esy : ∀ a b c d e, sy M' (rl M) 0 a b c d e = sy M (rl M) 0 a b c d e) (h0 : M' 38 0 = M 38 0) (h1 : M' 38 6 = M 38 6) (h2 : M' 38 14 = M 38 14) (h3 : M' 39 = M 39) (h4 : M' 40 = M 40) (h5 : M' 42 = M 42) (g1 : M' 21 = M 21) (g2 : M' 22 = M 22) (g3 : M' 23 = M 23) (g4 : M' 24 = M 24) : CH M' = CH M := by
  have eln : ln M' = ln M := by unfold ln; rw [h0]
  have efn : fn M' = fn M := by unfold fn; rw [h1]
  have erl : rl M' = rl M := by unfold rl; rw [h2]
  have ehd : hd M' = hd M := by funext l t; unfold hd sgn; rw [h3]
  have ePR : PR M' = PR M := by funext l; unfold PR; rw [h4]
  have efh : fh M' = fh M := by funext f t; unfold fh fk fl fp fm; rw [h5, ehd]
  have ebk : bk M' = bk M := by funext t; unfold bk bkA; rw [efh, efn]
  have emb : mb M' = mb M := by funext l s; unfold mb; rw [erl, ePR, esy]
  have elawb : lawb M' = lawb M := by funext t; unfold lawb lawA; rw [eln, emb, ehd]
  have efits : fits M' = fits M := by funext t; unfold fits; rw [elawb, ebk]
  have eFT : FT M' = FT M := by unfold FT FTA; rw [efits]
  have ect : ct M' = ct M := by funext P; unfold ct; rw [eFT]
  have elo : lone M' = lone M := by unfold lone loA; rw [elawb, ebk]
  unfold CH
  rw [eFT, ect, elo, eln, ehd, g1, g2, g3, g4]
