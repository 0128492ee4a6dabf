/-! which tongues fit -/
def PR (M : Mem) (l : Nat) : Int := M 40 l
/-- whether line l may have what it has in tongue t -/
def mb (M : Mem) (l set : Nat) : Int := sy M (rl M) 0 (PR M l) (set : Int) (l : Int) 0 0
def lawA (M : Mem) (t i : Nat) : Bool := (List.range i).all (fun l => !(mb M l (hd M l t) == 0))
def lawb (M : Mem) (t : Nat) : Bool := lawA M t (ln M)
theorem lawA_s (M : Mem) (t i : Nat) : lawA M t (i + 1) = (lawA M t i && !(mb M i (hd M i t) == 0)) := by unfold lawA; rw [List.range_succ, List.all_append]; simp
def fits (M : Mem) (t : Nat) : Bool := lawb M t && bk M t == 0
def FTA (M : Mem) (i : Nat) : List Nat := (List.range i).filter (fits M)
def FT (M : Mem) : List Nat := FTA M 720
theorem FTA_s (M : Mem) (i : Nat) : FTA M (i + 1) = if fits M i then FTA M i ++ [i] else FTA M i := by
  unfold FTA; rw [List.range_succ, List.filter_append]
  by_cases h : fits M i = true
  · rw [if_pos h]; simp [h]
  · rw [if_neg h]; simp [h]
theorem FTA_len (M : Mem) : ∀ i : Nat, (FTA M i).length ≤ i := by
  intro i
  unfold FTA
  have h := List.length_filter_le (fits M) (List.range i)
  rwa [List.length_range] at h
theorem FT_len (M : Mem) : (FT M).length ≤ 720 := FTA_len M 720
theorem FT_lt {M : Mem} {t : Nat} (h : t ∈ FT M) : t < 720 := by
  unfold FT FTA at h
  exact List.mem_range.mp (List.mem_filter.mp h).1
/-! the reference's scratch; what a call that only asks leaves -/
def SR (c j : Nat) : Bool := (c == 38 && ([26, 27, 28, 29, 30, 31, 32, 33, 34, 40, 44, 45] : List Nat).contains j) || (decide (53 ≤ c) && decide (c ≤ 62))
def agr (M M' : Mem) : Prop := ∀ c j : Nat, SR c j = false → M' c j = M c j
theorem agr.refl {M : Mem} : agr M M := fun _ _ _ => rfl
theorem agr.trans {M M1 M2 : Mem} (h1 : agr M M1) (h2 : agr M1 M2) : agr M M2 := fun c j h => (h2 c j h).trans (h1 c j h)
theorem agr.mset {M M1 : Mem} (h : agr M M1) {c i : Nat} {v : Int} (hc : SR c i = true) : agr M (mset M1 c i v) := fun d j hd => by
  by_cases e : d = c
  · subst e
    by_cases e2 : j = i
    · subst e2; rw [hc] at hd; cases hd
    · rw [mset_i e2]; exact h _ j hd
  · rw [mset_c e]; exact h d j hd
theorem agr.c {M M' : Mem} (h : agr M M') (c : Nat) (hc : c < 38 ∨ 38 < c ∧ c < 53) : M' c = M c := by
  funext j
  refine h c j ?_
  unfold SR
  have e1 : (c == 38) = false := by simp; omega
  have e2 : (decide (53 ≤ c) && decide (c ≤ 62)) = false := by simp; omega
  rw [e1, e2]; rfl
theorem agr.s {M M' : Mem} (h : agr M M') (j : Nat) (hj : SR 38 j = false := by decide) : M' 38 j = M 38 j := h 38 j hj
theorem agr.of {M M' : Mem} {L : List Nat} (h : agx L M M') (hL : ∀ c ∈ L, 53 ≤ c ∧ c ≤ 62) : agr M M' := by
  intro c j hj
  rw [h c]
  intro hc
  have h1 := hL c hc
  unfold SR at hj
  simp only [Bool.or_eq_false_iff, Bool.and_eq_false_iff, decide_eq_false_iff_not] at hj
  omega
theorem agr.eln {M M' : Mem} (h : agr M M') : ln M' = ln M := by unfold ln; rw [h.s 0]
theorem agr.egn {M M' : Mem} (h : agr M M') : gn M' = gn M := by unfold gn; rw [h.s 3]
theorem agr.efn {M M' : Mem} (h : agr M M') : fn M' = fn M := by unfold fn; rw [h.s 6]
theorem agr.etn {M M' : Mem} (h : agr M M') : tn M' = tn M := by unfold tn; rw [h.s 13]
theorem agr.erl {M M' : Mem} (h : agr M M') : rl M' = rl M := by unfold rl; rw [h.s 14]
theorem agr.esgn {M M' : Mem} (h : agr M M') : sgn M' = sgn M := by funext l; unfold sgn; rw [h.c 39 (by decide)]
theorem agr.ehd {M M' : Mem} (h : agr M M') : hd M' = hd M := by funext l t; unfold hd; rw [h.esgn]
theorem agr.ePR {M M' : Mem} (h : agr M M') : PR M' = PR M := by funext l; unfold PR; rw [h.c 40 (by decide)]
theorem agr.efk {M M' : Mem} (h : agr M M') : fk M' = fk M := by funext l; unfold fk; rw [h.c 42 (by decide)]
theorem agr.efl {M M' : Mem} (h : agr M M') : fl M' = fl M := by funext l; unfold fl; rw [h.c 42 (by decide)]
theorem agr.efp {M M' : Mem} (h : agr M M') : fp M' = fp M := by funext l; unfold fp; rw [h.c 42 (by decide)]
theorem agr.efm {M M' : Mem} (h : agr M M') : fm M' = fm M := by funext l; unfold fm; rw [h.c 42 (by decide)]
theorem agr.efh {M M' : Mem} (h : agr M M') : fh M' = fh M := by funext f t; unfold fh; rw [h.efk, h.efl, h.efp, h.efm, h.ehd]
theorem agr.ebk {M M' : Mem} (h : agr M M') : bk M' = bk M := by funext t; unfold bk bkA; rw [h.efh, h.efn]
theorem agr.etxc {M M' : Mem} (h : agr M M') : txc M' = txc M := by funext t i; unfold txc; rw [h.c 45 (by decide)]
theorem agr.etxb {M M' : Mem} (h : agr M M') : txb M' = txb M := by funext t i; unfold txb; rw [h.c 46 (by decide)]
theorem agr.esy {M M' : Mem} (h : agr M M') : sy M' = sy M := by funext t p a b c d e; unfold sy; rw [h.etxc, h.etxb]
theorem agr.emb {M M' : Mem} (h : agr M M') : mb M' = mb M := by funext l s; unfold mb; rw [h.esy, h.erl, h.ePR]
theorem agr.elawb {M M' : Mem} (h : agr M M') : lawb M' = lawb M := by funext t; unfold lawb lawA; rw [h.eln, h.emb, h.ehd]
theorem agr.efits {M M' : Mem} (h : agr M M') : fits M' = fits M := by funext t; unfold fits; rw [h.elawb, h.ebk]
theorem agr.eFT {M M' : Mem} (h : agr M M') : FT M' = FT M := by unfold FT FTA; rw [h.efits]
theorem agr.eTX {M M' : Mem} (h : agr M M') : TX M' = TX M := by funext t; unfold TX; rw [h.etxc, h.etxb, h.c 46 (by decide)]
theorem agr.eCX {M M' : Mem} (h : agr M M') : CX M' = CX M := by funext t; unfold CX; rw [h.etxb, h.c 46 (by decide), h.c 45 (by decide), h.c 17 (by decide), h.c 18 (by decide)]
theorem agr.eRLn {M M' : Mem} (h : agr M M') : RLn M' = RLn M := by unfold RLn; rw [h.eln, h.esgn, h.s 0, h.c 39 (by decide), h.c 40 (by decide)]
theorem agr.eRFa {M M' : Mem} (h : agr M M') : RFa M' = RFa M := by unfold RFa RF1; rw [h.efn, h.efk, h.efl, h.efp, h.efm, h.s 6, h.c 42 (by decide)]
theorem agr.eTB {M M' : Mem} (h : agr M M') : TB M' = TB M := by unfold TB; rw [h.c 43 (by decide)]
/-- the texts, the rule -/
def RTx (M : Mem) : Prop := M 38 13 = (tn M : Int) ∧ 1 ≤ tn M ∧ tn M ≤ 6 ∧ M 38 14 = (rl M : Int) ∧ rl M < tn M ∧ ∀ t : Nat, t < tn M → TX M t
theorem agr.eRTx {M M' : Mem} (h : agr M M') : RTx M' = RTx M := by unfold RTx; rw [h.etn, h.erl, h.eTX, h.s 13, h.s 14]
/-- what finding asks -/
def RA (M : Mem) : Prop := RLn M ∧ RFa M ∧ TB M ∧ RTx M
theorem agr.eRA {M M' : Mem} (h : agr M M') : RA M' = RA M := by unfold RA; rw [h.eRLn, h.eRFa, h.eTB, h.eRTx]
