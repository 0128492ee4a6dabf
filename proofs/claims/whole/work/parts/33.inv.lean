/-! THE INVARIANT: the class's cells beside the reference's -/
def Gs (M : Mem) : Prop := M 0 9 = M 38 3 ∧ M 38 3 = (gn M : Int) ∧ gn M ≤ 4 ∧ (∀ g : Nat, g < 4 → M 37 g = M 41 g ∧ 0 ≤ M 41 g ∧ M 41 g ≤ 63) ∧ M 0 10 = M 38 5 ∧ 0 ≤ M 38 5 ∧ M 38 5 ≤ 999
def Tp (M : Mem) : Prop := M 13 3 = M 38 10 ∧ 0 ≤ M 38 10 ∧ M 38 10 ≤ 160 ∧ ∀ i : Nat, i < 160 → M 14 i = M 44 i ∧ 0 ≤ M 44 i ∧ M 44 i ≤ 255
def Im (M : Mem) : Prop := M 31 1 = M 38 15 ∧ (M 38 15 = 0 ∨ M 38 15 = 1) ∧ M 31 2 = M 38 16 ∧ M 31 3 = M 38 17 ∧ M 31 4 = M 38 18 ∧ M 31 5 = M 38 19 ∧ M 31 6 = M 38 20 ∧ (∀ l : Nat, l < 10 → M 32 l = M 47 l) ∧
  (M 38 15 = 1 → (0 ≤ M 38 16 ∧ M 38 16 ≤ M 38 0) ∧ (0 ≤ M 38 17 ∧ M 38 17 ≤ M 38 3) ∧ (0 ≤ M 38 18 ∧ M 38 18 ≤ M 38 6) ∧ (0 ≤ M 38 19 ∧ M 38 19 ≤ 999) ∧ (0 ≤ M 38 20 ∧ M 38 20 < M 38 13) ∧ ∀ l : Nat, l < 10 → 0 ≤ M 47 l ∧ M 47 l ≤ 99)
def Sh (M : Mem) : Prop := (∀ s : Nat, s < 4 → M 34 s = M 48 s ∧ M 35 s = M 49 s ∧ -1 ≤ M 48 s ∧ M 48 s ≤ 2 ∧ 0 ≤ M 49 s ∧ M 49 s ≤ 40) ∧ ∀ i : Nat, i < 160 → M 36 i = M 50 i
def wds : List Nat := [109, 97, 121, 32, 32, 32, 32, 32, 108, 105, 107, 101, 115, 32, 32, 32, 108, 101, 97, 114, 110, 115, 32, 32, 112, 114, 105, 99, 101, 32, 32, 32, 112, 97, 114, 116, 115, 32, 32, 32, 112, 108, 97, 99, 101, 32, 32, 32, 109, 97, 110, 121, 32, 32, 32, 32, 103, 117, 101, 115, 116, 32, 32, 32, 108, 101, 102, 116, 32, 32, 32, 32, 111, 114, 32, 32, 32, 32, 32, 32, 97, 110, 100, 32, 32, 32, 32, 32, 110, 111, 116, 32, 32, 32, 32, 32]
def WD (M : Mem) : Prop := ∀ i : Nat, i < 96 → M 52 i = ((wds.getD i 0 : Nat) : Int)
def Inv (M : Mem) : Prop := RA M ∧ CA M ∧ Gs M ∧ Tp M ∧ Im M ∧ Sh M ∧ WD M ∧ (M 0 12 = 0 → CH M)
/-- both answer alike, the class first, and the invariant holds behind them -/
def OK2 (p q : Mem → Option (Int × Mem)) (M : Mem) : Prop := ∃ r M1 M2, p M = some (r, M1) ∧ q M1 = some (r, M2) ∧ Inv M2
theorem OK2.no {p q : Mem → Option (Int × Mem)} {M : Mem} {r : Int} (h : Inv M) (h1 : p M = some (r, M)) (h2 : q M = some (r, M)) : OK2 p q M := ⟨r, M, M, h1, h2, h⟩
section SAME
variable {M M' : Mem}
theorem RLn_e (h0 : M' 38 0 = M 38 0 := by rfl) (h1 : M' 39 = M 39 := by rfl) (h2 : M' 40 = M 40 := by rfl) : RLn M' = RLn M := by unfold RLn sgn ln; rw [h0, h1, h2]
theorem RFa_e (h0 : M' 38 6 = M 38 6 := by rfl) (h1 : M' 42 = M 42 := by rfl) : RFa M' = RFa M := by unfold RFa RF1 fk fl fp fm fn; rw [h0, h1]
theorem TB_e (h0 : M' 43 = M 43 := by rfl) : TB M' = TB M := by unfold TB; rw [h0]
theorem TX_e (h0 : M' 45 = M 45 := by rfl) (h1 : M' 46 = M 46 := by rfl) : TX M' = TX M := by funext t; unfold TX txc txb; rw [h0, h1]
theorem CX_e (h0 : M' 45 = M 45 := by rfl) (h1 : M' 46 = M 46 := by rfl) (h2 : M' 17 = M 17 := by rfl) (h3 : M' 18 = M 18 := by rfl) : CX M' = CX M := by funext t; unfold CX txb; rw [h0, h1, h2, h3]
theorem RTx_e (h0 : M' 38 13 = M 38 13 := by rfl) (h1 : M' 38 14 = M 38 14 := by rfl) (h2 : M' 45 = M 45 := by rfl) (h3 : M' 46 = M 46 := by rfl) : RTx M' = RTx M := by unfold RTx tn rl; rw [h0, h1, TX_e h2 h3]
theorem CLn_e (h0 : M' 3 3 = M 3 3 := by rfl) (h1 : M' 38 0 = M 38 0 := by rfl) (h2 : M' 4 = M 4 := by rfl) (h3 : M' 39 = M 39 := by rfl) (h4 : M' 5 = M 5 := by rfl) (h5 : M' 40 = M 40 := by rfl) (h6 : M' 6 = M 6 := by rfl) (h7 : M' 2 = M 2 := by rfl) : CLn M' = CLn M := by unfold CLn hd sgn; rw [h0, h1, h2, h3, h4, h5, h6, h7]
theorem CFa_e (h0 : M' 7 4 = M 7 4 := by rfl) (h1 : M' 38 6 = M 38 6 := by rfl) (h2 : M' 8 = M 8 := by rfl) (h3 : M' 9 = M 9 := by rfl) (h4 : M' 10 = M 10 := by rfl) (h5 : M' 11 = M 11 := by rfl) (h6 : M' 42 = M 42 := by rfl) : CFa M' = CFa M := by unfold CFa fn; rw [h0, h1, h2, h3, h4, h5, h6]
theorem CTx_e (h0 : M' 12 5 = M 12 5 := by rfl) (h1 : M' 38 13 = M 38 13 := by rfl) (h2 : M' 0 11 = M 0 11 := by rfl) (h3 : M' 38 14 = M 38 14 := by rfl) (h4 : M' 45 = M 45 := by rfl) (h5 : M' 46 = M 46 := by rfl) (h6 : M' 17 = M 17 := by rfl) (h7 : M' 18 = M 18 := by rfl) : CTx M' = CTx M := by unfold CTx tn; rw [h0, h1, h2, h3, CX_e h4 h5 h6 h7]
theorem Gs_e (h0 : M' 0 9 = M 0 9 := by rfl) (h1 : M' 38 3 = M 38 3 := by rfl) (h2 : M' 37 = M 37 := by rfl) (h3 : M' 41 = M 41 := by rfl) (h4 : M' 0 10 = M 0 10 := by rfl) (h5 : M' 38 5 = M 38 5 := by rfl) : Gs M' = Gs M := by unfold Gs gn; rw [h0, h1, h2, h3, h4, h5]
theorem Tp_e (h0 : M' 13 3 = M 13 3 := by rfl) (h1 : M' 38 10 = M 38 10 := by rfl) (h2 : M' 14 = M 14 := by rfl) (h3 : M' 44 = M 44 := by rfl) : Tp M' = Tp M := by unfold Tp; rw [h0, h1, h2, h3]
theorem Im_e (h0 : M' 31 = M 31 := by rfl) (h1 : M' 38 15 = M 38 15 := by rfl) (h2 : M' 38 16 = M 38 16 := by rfl) (h3 : M' 38 17 = M 38 17 := by rfl) (h4 : M' 38 18 = M 38 18 := by rfl) (h5 : M' 38 19 = M 38 19 := by rfl) (h6 : M' 38 20 = M 38 20 := by rfl) (h7 : M' 32 = M 32 := by rfl) (h8 : M' 47 = M 47 := by rfl)
  (g0 : M' 38 0 = M 38 0 := by rfl) (g1 : M' 38 3 = M 38 3 := by rfl) (g2 : M' 38 6 = M 38 6 := by rfl) (g3 : M' 38 13 = M 38 13 := by rfl) : Im M' = Im M := by unfold Im; rw [h0, h1, h2, h3, h4, h5, h6, h7, h8, g0, g1, g2, g3]
theorem Sh_e (h0 : M' 34 = M 34 := by rfl) (h1 : M' 48 = M 48 := by rfl) (h2 : M' 35 = M 35 := by rfl) (h3 : M' 49 = M 49 := by rfl) (h4 : M' 36 = M 36 := by rfl) (h5 : M' 50 = M 50 := by rfl) : Sh M' = Sh M := by unfold Sh; rw [h0, h1, h2, h3, h4, h5]
theorem WD_e (h0 : M' 52 = M 52 := by rfl) : WD M' = WD M := by unfold WD; rw [h0]
end SAME
theorem CH_e {M M' : Mem} (h0 : M' 38 0 = M 38 0 := by rfl) (h1 : M' 38 6 = M 38 6 := by rfl) (h2 : M' 38 14 = M 38 14 := by rfl) (h3 : M' 39 = M 39 := by rfl) (h4 : M' 40 = M 40 := by rfl) (h5 : M' 42 = M 42 := by rfl) (h6 : M' 45 = M 45 := by rfl) (h7 : M' 46 = M 46 := by rfl) (g1 : M' 21 = M 21 := by rfl) (g2 : M' 22 = M 22 := by rfl) (g3 : M' 23 = M 23 := by rfl) (g4 : M' 24 = M 24 := by rfl) : CH M' = CH M := by
  have eln : ln M' = ln M := by unfold ln; rw [h0]
  have efn : fn M' = fn M := by unfold fn; rw [h1]
  have erl : rl M' = rl M := by unfold rl; rw [h2]
  have ehd : hd M' = hd M := by funext l t; unfold hd sgn; rw [h3]
  have ePR : PR M' = PR M := by funext l; unfold PR; rw [h4]
  have efh : fh M' = fh M := by funext f t; unfold fh fk fl fp fm; rw [h5, ehd]
  have ebk : bk M' = bk M := by funext t; unfold bk bkA; rw [efh, efn]
  have esy : sy M' = sy M := by funext t p a b c d e; unfold sy txc txb; rw [h6, h7]
  have emb : mb M' = mb M := by funext l s; unfold mb; rw [esy, erl, ePR]
  have elawb : lawb M' = lawb M := by funext t; unfold lawb lawA; rw [eln, emb, ehd]
  have efits : fits M' = fits M := by funext t; unfold fits; rw [elawb, ebk]
  have eFT : FT M' = FT M := by unfold FT FTA; rw [efits]
  have ect : ct M' = ct M := by funext P; unfold ct; rw [eFT]
  have elo : lone M' = lone M := by unfold lone loA; rw [elawb, ebk]
  unfold CH
  rw [eFT, ect, elo, eln, ehd, g1, g2, g3, g4]
/-- the invariant behind what only asks -/
theorem Inv.q {M M' : Mem} (h : Inv M) (hq : agq M M') (hC : M' 0 12 = 0 → CH M') : Inv M' := by
  obtain ⟨h1, h2, h3, h4, h5, h6, h7, h8⟩ := h
  refine ⟨by rw [hq.eRA]; exact h1, by rw [hq.eCA]; exact h2, ?_, ?_, ?_, ?_, ?_, hC⟩
  · rw [Gs_e (M := M) (hq.z 9) (hq.s 3) (hq.c 37 (by decide)) (hq.c 41 (by decide)) (hq.z 10) (hq.s 5)]; exact h3
  · rw [Tp_e (M := M) (by rw [hq.c 13 (by decide)]) (hq.s 10) (hq.c 14 (by decide)) (hq.c 44 (by decide))]; exact h4
  · rw [Im_e (M := M) (hq.c 31 (by decide)) (hq.s 15) (hq.s 16) (hq.s 17) (hq.s 18) (hq.s 19) (hq.s 20) (hq.c 32 (by decide)) (hq.c 47 (by decide)) (hq.s 0) (hq.s 3) (hq.s 6) (hq.s 13)]; exact h5
  · rw [Sh_e (M := M) (hq.c 34 (by decide)) (hq.c 48 (by decide)) (hq.c 35 (by decide)) (hq.c 49 (by decide)) (hq.c 36 (by decide)) (hq.c 50 (by decide))]; exact h6
  · rw [WD_e (M := M) (hq.c 52 (by decide))]; exact h7
/-- the class's caches, fresh -/
theorem Inv.fit {M : Mem} (h : Inv M) : ∃ M1, f_X9_fitting M = some (0, M1) ∧ agq M M1 ∧ Inv M1 ∧ CH M1 ∧ M1 0 12 = 0 := by
  obtain ⟨M1, e, a, b, c⟩ := c_fitting h.1 h.2.1 h.2.2.2.2.2.2.2
  exact ⟨M1, e, a, h.q a (fun _ => b), b, c⟩
/-- what the reference leaves keeps the class's caches -/
theorem CH.r {M M' : Mem} (h : CH M) (ha : agr M M') : CH M' := by
  have hq := agq.a ha
  obtain ⟨e1, e2, e3⟩ := hq.eCH0
  unfold CH
  rw [e1, e2, e3, hq.eln, hq.ehd, ha.c 21 (by decide), ha.c 22 (by decide), ha.c 23 (by decide), ha.c 24 (by decide)]
  exact h
theorem Inv.rq {M M' : Mem} (h : Inv M) (hC : CH M) (ha : agr M M') : Inv M' := h.q (agq.a ha) (fun _ => hC.r ha)
/-- ranges of arguments -/
theorem wi_0 {x a b : Int} : f_X9_within x a b = 0 ↔ ¬ (a ≤ x ∧ x ≤ b) := by
  unfold f_X9_within
  by_cases h1 : x < a
  · rw [if_pos h1]; omega
  · rw [if_neg h1]
    by_cases h2 : b < x
    · rw [if_pos h2]; omega
    · rw [if_neg h2]; omega
theorem in_w (x a b : Int) : f_X10_in x a b = f_X9_within x a b := rfl
theorem wi_n {x : Int} {b : Nat} (h : ¬ f_X9_within x 0 (b : Int) = 0) : ∃ k : Nat, x = (k : Int) ∧ k ≤ b := by
  rw [wi_0] at h
  exact ⟨x.toNat, by omega, by omega⟩
theorem isl_n {M : Mem} (h : Inv M) {x : Int} : f_X9_isLine x M = 0 ∨ ∃ l : Nat, x = (l : Int) ∧ l < ln M ∧ l < 10 ∧ ¬ f_X9_isLine x M = 0 := by
  by_cases h0 : f_X9_isLine x M = 0
  · exact Or.inl h0
  · right
    have h1 := h0
    have l1 := h.1.1.1
    have l2 := h.1.1.2.1
    rw [f_X9_isLine, wi_0, h.2.1.1.1, l1, w32_id (by omega) (by omega)] at h1
    exact ⟨x.toNat, by omega, by omega, by omega, h0⟩
theorem isl_e {M : Mem} (h : Inv M) (x : Int) : f_X10_isLine x M = f_X9_isLine x M := by
  rw [f_X9_isLine, f_X10_isLine, h.2.1.1.1]; rfl
theorem isg_n {M : Mem} (h : Inv M) {x : Int} : f_X9_isGuest x M = 0 ∨ ∃ l : Nat, x = (l : Int) ∧ l < gn M ∧ l < 4 ∧ ¬ f_X9_isGuest x M = 0 := by
  by_cases h0 : f_X9_isGuest x M = 0
  · exact Or.inl h0
  · right
    have h1 := h0
    obtain ⟨g1, g2, g3, g4⟩ := h.2.2.1
    rw [f_X9_isGuest, wi_0, g1, g2, w32_id (by omega) (by omega)] at h1
    exact ⟨x.toNat, by omega, by omega, by omega, h0⟩
theorem isg_e {M : Mem} (h : Inv M) (x : Int) : f_X10_isGuest x M = f_X9_isGuest x M := by
  rw [f_X9_isGuest, f_X10_isGuest, h.2.2.1.1]; rfl
