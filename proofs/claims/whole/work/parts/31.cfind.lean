/-! the class's cells beside the reference's; memories that agree but for scratch and caches -/
def CLn (M : Mem) : Prop := M 3 3 = M 38 0 ∧ (∀ l : Nat, l < 10 → M 4 l = M 39 l ∧ M 5 l = M 40 l) ∧ (∀ l : Nat, l < 10 → ∀ t : Nat, t < 720 → M 6 (720 * l + t) = (hd M l t : Int)) ∧ ∀ i : Nat, i < 4320 → M 2 i = (tb i : Int)
def CFa (M : Mem) : Prop := M 7 4 = M 38 6 ∧ ∀ f : Nat, f < fn M → M 8 f = M 42 (4 * f) ∧ M 9 f = M 42 (4 * f + 1) ∧ M 10 f = M 42 (4 * f + 2) ∧ M 11 f = M 42 (4 * f + 3)
def CTx (M : Mem) : Prop := M 12 5 = M 38 13 ∧ M 0 11 = M 38 14 ∧ ∀ t : Nat, t < tn M → CX M t
def CA (M : Mem) : Prop := CLn M ∧ CFa M ∧ CTx M
def SQ (c j : Nat) : Bool := SR c j || (decide (19 ≤ c) && decide (c ≤ 30)) || (c == 0 && j == 12)
def agq (M M' : Mem) : Prop := ∀ c j : Nat, SQ c j = false → M' c j = M c j
def mix (M M' : Mem) : Mem := fun c j => if c < 38 then M c j else M' c j
theorem agq.refl {M : Mem} : agq M M := fun _ _ _ => rfl
theorem agq.trans {M M1 M2 : Mem} (h1 : agq M M1) (h2 : agq M1 M2) : agq M M2 := fun c j h => (h2 c j h).trans (h1 c j h)
theorem agq.mset {M M1 : Mem} (h : agq M M1) {c i : Nat} {v : Int} (hc : SQ c i = true) : agq M (mset M1 c i v) := fun d j hd => by
  by_cases e : d = c
  · subst e
    by_cases e2 : j = i
    · subst e2; rw [hc] at hd; cases hd
    · rw [mset_i e2]; exact h _ j hd
  · rw [mset_c e]; exact h d j hd
theorem agq.a {M M' : Mem} (h : agr M M') : agq M M' := fun c j hj => h c j (by unfold SQ at hj; rw [Bool.or_eq_false_iff, Bool.or_eq_false_iff] at hj; exact hj.1.1)
theorem agq.of {M M' : Mem} {L : List Nat} (h : agx L M M') (hL : ∀ c ∈ L, 19 ≤ c ∧ c ≤ 30) : agq M M' := by
  intro c j hj
  rw [h c]
  intro hc
  have h1 := hL c hc
  unfold SQ at hj
  simp only [Bool.or_eq_false_iff, Bool.and_eq_false_iff, decide_eq_false_iff_not] at hj
  omega
theorem agq.c {M M' : Mem} (h : agq M M') (c : Nat) (hc : 0 < c ∧ c < 19 ∨ 30 < c ∧ c < 38 ∨ 38 < c ∧ c < 53) : M' c = M c := by
  funext j
  refine h c j ?_
  unfold SQ SR
  have e1 : (c == 38) = false := by simp; omega
  have e2 : (decide (53 ≤ c) && decide (c ≤ 62)) = false := by simp; omega
  have e3 : (decide (19 ≤ c) && decide (c ≤ 30)) = false := by simp; omega
  have e4 : (c == 0) = false := by simp; omega
  rw [e1, e2, e3, e4]; rfl
theorem agq.s {M M' : Mem} (h : agq M M') (j : Nat) (hj : SQ 38 j = false := by decide) : M' 38 j = M 38 j := h 38 j hj
theorem agq.z {M M' : Mem} (h : agq M M') (j : Nat) (hj : SQ 0 j = false := by decide) : M' 0 j = M 0 j := h 0 j hj
theorem agq.r {M M' : Mem} (h : agq M M') : agr M (mix M M') := by
  intro c j hj
  unfold mix
  by_cases hc : c < 38
  · rw [if_pos hc]
  · rw [if_neg hc]
    refine h c j ?_
    unfold SQ
    have e3 : (decide (19 ≤ c) && decide (c ≤ 30)) = false := by simp; omega
    have e4 : (c == 0) = false := by simp; omega
    rw [hj, e3, e4]; rfl
theorem mix_e {M M' : Mem} {c : Nat} (h : 38 ≤ c) : mix M M' c = M' c := by
  funext j; unfold mix; rw [if_neg (by omega)]
theorem agq.eln {M M' : Mem} (h : agq M M') : ln M' = ln M := by unfold ln; rw [h.s 0]
theorem agq.egn {M M' : Mem} (h : agq M M') : gn M' = gn M := by unfold gn; rw [h.s 3]
theorem agq.efn {M M' : Mem} (h : agq M M') : fn M' = fn M := by unfold fn; rw [h.s 6]
theorem agq.etn {M M' : Mem} (h : agq M M') : tn M' = tn M := by unfold tn; rw [h.s 13]
theorem agq.erl {M M' : Mem} (h : agq M M') : rl M' = rl M := by unfold rl; rw [h.s 14]
theorem agq.esgn {M M' : Mem} (h : agq M M') : sgn M' = sgn M := by funext l; unfold sgn; rw [h.c 39 (by decide)]
theorem agq.ehd {M M' : Mem} (h : agq M M') : hd M' = hd M := by funext l t; unfold hd; rw [h.esgn]
theorem agq.ePR {M M' : Mem} (h : agq M M') : PR M' = PR M := by funext l; unfold PR; rw [h.c 40 (by decide)]
theorem agq.efk {M M' : Mem} (h : agq M M') : fk M' = fk M := by funext l; unfold fk; rw [h.c 42 (by decide)]
theorem agq.efl {M M' : Mem} (h : agq M M') : fl M' = fl M := by funext l; unfold fl; rw [h.c 42 (by decide)]
theorem agq.efp {M M' : Mem} (h : agq M M') : fp M' = fp M := by funext l; unfold fp; rw [h.c 42 (by decide)]
theorem agq.efm {M M' : Mem} (h : agq M M') : fm M' = fm M := by funext l; unfold fm; rw [h.c 42 (by decide)]
theorem agq.efh {M M' : Mem} (h : agq M M') : fh M' = fh M := by funext f t; unfold fh; rw [h.efk, h.efl, h.efp, h.efm, h.ehd]
theorem agq.ebk {M M' : Mem} (h : agq M M') : bk M' = bk M := by funext t; unfold bk bkA; rw [h.efh, h.efn]
theorem agq.etxc {M M' : Mem} (h : agq M M') : txc M' = txc M := by funext t i; unfold txc; rw [h.c 45 (by decide)]
theorem agq.etxb {M M' : Mem} (h : agq M M') : txb M' = txb M := by funext t i; unfold txb; rw [h.c 46 (by decide)]
theorem agq.esy {M M' : Mem} (h : agq M M') : sy M' = sy M := by funext t p a b c d e; unfold sy; rw [h.etxc, h.etxb]
theorem agq.emb {M M' : Mem} (h : agq M M') : mb M' = mb M := by funext l s; unfold mb; rw [h.esy, h.erl, h.ePR]
theorem agq.elawb {M M' : Mem} (h : agq M M') : lawb M' = lawb M := by funext t; unfold lawb lawA; rw [h.eln, h.emb, h.ehd]
theorem agq.efits {M M' : Mem} (h : agq M M') : fits M' = fits M := by funext t; unfold fits; rw [h.elawb, h.ebk]
theorem agq.eFT {M M' : Mem} (h : agq M M') : FT M' = FT M := by unfold FT FTA; rw [h.efits]
theorem agq.eTX {M M' : Mem} (h : agq M M') : TX M' = TX M := by funext t; unfold TX; rw [h.etxc, h.etxb, h.c 46 (by decide)]
theorem agq.eCX {M M' : Mem} (h : agq M M') : CX M' = CX M := by funext t; unfold CX; rw [h.etxb, h.c 46 (by decide), h.c 45 (by decide), h.c 17 (by decide), h.c 18 (by decide)]
theorem agq.eRLn {M M' : Mem} (h : agq M M') : RLn M' = RLn M := by unfold RLn; rw [h.eln, h.esgn, h.s 0, h.c 39 (by decide), h.c 40 (by decide)]
theorem agq.eRFa {M M' : Mem} (h : agq M M') : RFa M' = RFa M := by unfold RFa RF1; rw [h.efn, h.efk, h.efl, h.efp, h.efm, h.s 6, h.c 42 (by decide)]
theorem agq.eTB {M M' : Mem} (h : agq M M') : TB M' = TB M := by unfold TB; rw [h.c 43 (by decide)]
theorem agq.eRTx {M M' : Mem} (h : agq M M') : RTx M' = RTx M := by unfold RTx; rw [h.etn, h.erl, h.eTX, h.s 13, h.s 14]
theorem agq.eRA {M M' : Mem} (h : agq M M') : RA M' = RA M := by unfold RA; rw [h.eRLn, h.eRFa, h.eTB, h.eRTx]
theorem agq.eCLn {M M' : Mem} (h : agq M M') : CLn M' = CLn M := by unfold CLn; rw [h.ehd, h.s 0, h.c 3 (by decide), h.c 4 (by decide), h.c 39 (by decide), h.c 5 (by decide), h.c 40 (by decide), h.c 6 (by decide), h.c 2 (by decide)]
theorem agq.eCFa {M M' : Mem} (h : agq M M') : CFa M' = CFa M := by unfold CFa; rw [h.efn, h.s 6, h.c 7 (by decide), h.c 8 (by decide), h.c 9 (by decide), h.c 10 (by decide), h.c 11 (by decide), h.c 42 (by decide)]
theorem agq.eCTx {M M' : Mem} (h : agq M M') : CTx M' = CTx M := by unfold CTx; rw [h.etn, h.s 13, h.s 14, h.c 12 (by decide), h.z 11, h.eCX]
theorem agq.eCA {M M' : Mem} (h : agq M M') : CA M' = CA M := by unfold CA; rw [h.eCLn, h.eCFa, h.eCTx]
/-! the class finds -/
theorem hd_lt {M : Mem} {l t : Nat} (ht : t < 720) : hd M l t < 64 := ps_lt ht
theorem c_had {M : Mem} {l t : Nat} (h : CLn M) (hl : l < 10) (ht : t < 720) : f_X3_had (l : Int) (t : Int) M = (hd M l t : Int) := by
  have e : w32 (w32 ((l : Int) * 720) + (t : Int)) = ((720 * l + t : Nat) : Int) := by
    rw [w32_id (z := (l : Int) * 720) (by omega) (by omega), w32_id (by omega) (by omega)]; omega
  rw [f_X3_had, e, rd_n (by omega), h.2.2.1 l hl t ht]
theorem c_brokenIn {M : Mem} {t : Nat} (h : RA M) (hc : CA M) (ht : t < 720) : f_X0_brokenIn (t : Int) M = some (bk M t : Int) := by
  obtain ⟨hL, ⟨f1, f2, f3⟩, hT, hX⟩ := h
  obtain ⟨cL, ⟨k1, k2⟩, cT⟩ := hc
  unfold f_X0_brokenIn
  obtain ⟨n, st, e, hP⟩ := loopN (N := fn M) (F := fun n i (st : Int) => f_X0_brokenIn_L5 (t : Int) M n st (i : Int)) (P := fun i st => st = (bkA M t i : Int)) (by
    intro n i st hi hP
    subst hP
    obtain ⟨a1, a2, a3, a4, a5, a6, a7, a8⟩ := f3 i hi
    obtain ⟨b1, b2, b3, b4⟩ := k2 i hi
    have e8 : rd 12 (M 8) (i : Int) = (fk M i : Int) := by rw [rd_n (by omega), b1, a1]
    have e9 : rd 12 (M 9) (i : Int) = (fl M i : Int) := by rw [rd_n (by omega), b2, a3]
    have e10 : rd 12 (M 10) (i : Int) = (fp M i : Int) := by rw [rd_n (by omega), b3, a5]
    have e11 : rd 12 (M 11) (i : Int) = (fm M i : Int) := by rw [rd_n (by omega), b4, a7]
    have hcc : (i : Int) < M 7 4 := by rw [k1, f1]; omega
    have hb := bkA_12 (M := M) (t := t) (i := i) (by omega)
    have hh : f_X0_holds (fk M i : Int) (fp M i : Int) (fm M i : Int) (hd M (fl M i) t : Int) (hd M (fm M i) t : Int) = bi (fh M i t) := c_hol a6 (hd_lt ht) (hd_lt ht)
    show ∃ st', f_X0_brokenIn_L5 (t : Int) M (n + 1) _ (i : Int) = f_X0_brokenIn_L5 (t : Int) M n st' ((i + 1 : Nat) : Int) ∧ _
    rw [f_X0_brokenIn_L5, if_pos hcc, e8, e9, e10, e11, c_had cL a4 ht, c_had cL a8 ht, hh, w32_n1 (by omega)]
    by_cases hz : fh M i t = true
    · rw [if_neg (by rw [bi_0, hz]; decide)]
      exact ⟨_, rfl, by rw [bkA_s, if_pos hz]⟩
    · rw [if_pos (by rw [bi_0]; exact Bool.eq_false_iff.mpr hz)]
      refine ⟨_, rfl, ?_⟩
      have h2i : 2 ^ i < 2 ^ 12 := Nat.pow_lt_pow_right (by decide) (by omega)
      have h12 : (2 : Nat) ^ 12 = 4096 := by decide
      rw [b_shl_n (by omega), b_or_n (by omega) (by omega), bkA_s, if_neg hz]) (fn M) 100000 0 0 (by omega) (by omega) rfl
  have e : f_X0_brokenIn_L5 (t : Int) M 100000 0 0 = f_X0_brokenIn_L5 (t : Int) M (n + 1) st ((fn M : Nat) : Int) := e
  rw [e, f_X0_brokenIn_L5, if_neg (by rw [k1, f1]; omega), hP]
  rfl
/-- whether a line may have a set, by a text -/
def mbT (M : Mem) (r l set : Nat) : Int := sy M r 0 (PR M l) (set : Int) (l : Int) 0 0
def lawV (v : Nat → Nat → Int) (M : Mem) (t i : Nat) : Bool := (List.range i).all (fun l => !(v l (hd M l t) == 0))
theorem lawV_s (v : Nat → Nat → Int) (M : Mem) (t i : Nat) : lawV v M t (i + 1) = (lawV v M t i && !(v i (hd M i t) == 0)) := by unfold lawV; rw [List.range_succ, List.all_append]; simp
theorem lawV_f {v : Nat → Nat → Int} {M : Mem} {t i N : Nat} (hi : i < N) (h : v i (hd M i t) = 0) : lawV v M t N = false := by
  unfold lawV
  rw [List.all_eq_false]
  exact ⟨i, List.mem_range.mpr hi, by simp [h]⟩
def lawT (M : Mem) (r t : Nat) : Bool := lawV (mbT M r) M t (ln M)
def bm (M : Mem) (r : Nat) : Prop := ∀ l : Nat, l < ln M → ∀ set : Nat, set < 64 → popc set = popc (sgn M l) → M 25 (64 * l + set) = mbT M r l set
theorem wl64 {l s : Nat} (hl : l < 10) (hs : s < 64) : w32 (w32 ((l : Int) * 64) + (s : Int)) = ((64 * l + s : Nat) : Int) := by
  rw [w32_id (z := (l : Int) * 64) (by omega) (by omega), w32_id (by omega) (by omega)]; omega
theorem c_allowL {K : Mem → Option (Int × Mem)} {M0 M1 : Mem} {r l : Nat} (h : RA M0) (hc : CA M0) (hr : r < tn M0) (hl : l < ln M0) (ha : agx [19, 20, 25] M0 M1) :
    ∃ M2, f_X1_allow_L34 K (r : Int) (l : Int) ((popc (sgn M0 l) : Nat) : Int) (PR M0 l) 100000 0 M1 = K M2 ∧ agx [19, 20, 25] M1 M2 ∧ (∀ set : Nat, set < 64 → popc set = popc (sgn M0 l) → M2 25 (64 * l + set) = mbT M0 r l set) ∧ ∀ j : Nat, (j < 64 * l ∨ 64 * l + 64 ≤ j) → M2 25 j = M1 25 j := by
  obtain ⟨⟨l1, l2, l3⟩, hF, hT, ⟨t1, t2, t3, t4, t5, t6⟩⟩ := h
  obtain ⟨cL, cF, c1, c2, c3⟩ := hc
  obtain ⟨n, M2, e, g1, g2, g3⟩ := loopN (N := 64) (F := fun n i (M2 : Mem) => f_X1_allow_L34 K (r : Int) (l : Int) ((popc (sgn M0 l) : Nat) : Int) (PR M0 l) n (i : Int) M2) (P := fun i M2 => agx [19, 20, 25] M1 M2 ∧ (∀ set : Nat, set < i → popc set = popc (sgn M0 l) → M2 25 (64 * l + set) = mbT M0 r l set) ∧ ∀ j : Nat, (j < 64 * l ∨ 64 * l + 64 ≤ j) → M2 25 j = M1 25 j) (by
    intro n i M2 hi hP
    obtain ⟨p1, p2, p3⟩ := hP
    have hq : agq M0 M2 := agq.of (ha.trans p1) (by decide)
    show ∃ st', f_X1_allow_L34 K (r : Int) (l : Int) ((popc (sgn M0 l) : Nat) : Int) (PR M0 l) (n + 1) (i : Int) M2 = f_X1_allow_L34 K (r : Int) (l : Int) ((popc (sgn M0 l) : Nat) : Int) (PR M0 l) n ((i + 1 : Nat) : Int) st' ∧ _
    rw [f_X1_allow_L34, if_pos (by omega), bitc_n (by omega), w32_n1 (by omega)]
    by_cases hp : popc i = popc (sgn M0 l)
    · obtain ⟨M3, e3, g⟩ := c_says (M := M2) (t := r) (p := 0) (set := i) (price := PR M0 l) (place := (l : Int)) (guest := 0) (left := 0) (Nat.lt_of_lt_of_le hr t3) (by decide) (by rw [hq.eTX]; exact t6 r hr) (by rw [hq.eCX]; exact c3 r hr) (by omega)
      rw [hq.esy] at e3
      rw [if_pos (by omega)]
      refine ⟨mset M3 25 (64 * l + i) (mbT M0 r l i), ?_, (p1.trans (g.mono (by decide))).mset (by decide), ?_, ?_⟩
      · refine ob_I e3 ?_
        rw [wl64 (by omega) hi, wr_n (by omega)]
        rfl
      · intro set hs hps
        by_cases es : set = i
        · subst es; rw [mset_at]
        · rw [mset_i (by omega), g 25 (by decide)]; exact p2 set (by omega) hps
      · intro j hj
        rw [mset_i (by omega), g 25 (by decide)]; exact p3 j hj
    · rw [if_neg (by omega)]
      refine ⟨M2, rfl, p1, fun set hs hps => ?_, p3⟩
      by_cases es : set = i
      · subst es; exact absurd hps hp
      · exact p2 set (by omega) hps) 64 100000 0 M1 (by omega) (by omega) ⟨agx.refl, fun set hs => absurd hs (Nat.not_lt_zero _), fun j _ => rfl⟩
  have e : f_X1_allow_L34 K (r : Int) (l : Int) ((popc (sgn M0 l) : Nat) : Int) (PR M0 l) 100000 0 M1 = f_X1_allow_L34 K (r : Int) (l : Int) ((popc (sgn M0 l) : Nat) : Int) (PR M0 l) (n + 1) ((64 : Nat) : Int) M2 := e
  refine ⟨M2, ?_, g1, g2, g3⟩
  rw [e, f_X1_allow_L34, if_neg (by decide)]
theorem c_allow {M : Mem} {r : Nat} (h : RA M) (hc : CA M) (hr : r < tn M) : ∃ M', f_X1_allow (r : Int) M = some (0, M') ∧ agx [19, 20, 25] M M' ∧ bm M' r := by
  obtain ⟨⟨l1, l2, l3⟩, hF, hT, hX⟩ := id h
  obtain ⟨⟨c1, c2, c3, c4⟩, cF, cT⟩ := id hc
  unfold f_X1_allow
  obtain ⟨n, M2, e, g1, g2⟩ := loopN (N := ln M) (F := fun n i (M2 : Mem) => f_X1_allow_L3 (r : Int) n (i : Int) M2) (P := fun i M2 => agx [19, 20, 25] M M2 ∧ ∀ l : Nat, l < i → ∀ set : Nat, set < 64 → popc set = popc (sgn M l) → M2 25 (64 * l + set) = mbT M r l set) (by
    intro n i M2 hi hP
    obtain ⟨p1, p2⟩ := hP
    show ∃ st', f_X1_allow_L3 (r : Int) (n + 1) (i : Int) M2 = f_X1_allow_L3 (r : Int) n ((i + 1 : Nat) : Int) st' ∧ _
    have e1 : f_X3_signsOf (i : Int) M2 = (sgn M i : Int) := by
      rw [f_X3_signsOf, rd_n (by omega), p1 4 (by decide), (c2 i (by omega)).1, (l3 i (by omega)).1]
    have e2 : f_X3_priceOf (i : Int) M2 = PR M i := by
      rw [f_X3_priceOf, rd_n (by omega), p1 5 (by decide), (c2 i (by omega)).2]; rfl
    have hs64 := (l3 i (by omega)).2.1
    obtain ⟨M3, e3, q1, q2, q3⟩ := c_allowL (K := fun M7 => f_X1_allow_L3 (r : Int) n (w32 ((i : Int) + 1)) M7) (l := i) h hc hr hi p1
    refine ⟨M3, ?_, p1.trans q1, ?_⟩
    · rw [f_X1_allow_L3, if_pos (by rw [p1 3 (by decide), c1, l1]; omega), e1, e2, bitc_n (by omega), e3, w32_n1 (by omega)]
    · intro l hl set hs hp
      by_cases el : l = i
      · subst el; exact q2 set hs hp
      · rw [q3 _ (by omega)]; exact p2 l (by omega) set hs hp) (ln M) 100000 0 M (by omega) (by omega) ⟨agx.refl, fun l hl => absurd hl (Nat.not_lt_zero _)⟩
  have e : f_X1_allow_L3 (r : Int) 100000 0 M = f_X1_allow_L3 (r : Int) (n + 1) ((ln M : Nat) : Int) M2 := e
  have hq : agq M M2 := agq.of g1 (by decide)
  refine ⟨M2, ?_, g1, ?_⟩
  · rw [e, f_X1_allow_L3, if_neg (by rw [g1 3 (by decide), c1, l1]; omega)]
  · intro l hl set hs hp
    rw [hq.eln] at hl
    rw [hq.esgn] at hp
    rw [g2 l hl set hs hp]
    unfold mbT
    rw [hq.esy, hq.ePR]
theorem c_isLawful {M : Mem} {r t : Nat} (h : RA M) (hc : CA M) (ht : t < 720) (hm : bm M r) : f_X1_isLawful (t : Int) M = some (bi (lawT M r t)) := by
  obtain ⟨⟨l1, l2, l3⟩, hF, hT, hX⟩ := h
  obtain ⟨cL, cF, cT⟩ := hc
  unfold f_X1_isLawful
  obtain ⟨y, e, h1⟩ := loopX (N := ln M) (F := fun n i (_ : Unit) => f_X1_isLawful_L2 (t : Int) M n (i : Int)) (P := fun i _ => lawV (mbT M r) M t i = true) (Q := fun y => y = bi (lawT M r t)) (by
    intro n i st hi hP
    have hcc : (i : Int) < M 3 3 := by rw [cL.1, l1]; omega
    have hlt : hd M i t < 64 := hd_lt ht
    have e3 : M 25 (64 * i + hd M i t) = mbT M r i (hd M i t) := hm i hi _ hlt (ps_pc ht (l3 i (by omega)).2.1)
    by_cases hz : mbT M r i (hd M i t) = 0
    · right
      refine ⟨0, ?_, by unfold lawT; rw [lawV_f hi hz]; rfl⟩
      show f_X1_isLawful_L2 (t : Int) M (n + 1) (i : Int) = _
      rw [f_X1_isLawful_L2, if_pos hcc, c_had cL (by omega) ht, wl64 (by omega) hlt, rd_n (by omega), e3, if_pos hz]
    · left
      refine ⟨(), ?_, by rw [lawV_s, hP]; simp [hz]⟩
      show f_X1_isLawful_L2 (t : Int) M (n + 1) (i : Int) = f_X1_isLawful_L2 (t : Int) M n ((i + 1 : Nat) : Int)
      rw [f_X1_isLawful_L2, if_pos hcc, c_had cL (by omega) ht, wl64 (by omega) hlt, rd_n (by omega), e3, if_neg hz, w32_n1 (by omega)]) (by
    intro n st hP
    refine ⟨1, ?_, by unfold lawT; rw [hP]; rfl⟩
    show f_X1_isLawful_L2 (t : Int) M (n + 1) ((ln M : Nat) : Int) = _
    rw [f_X1_isLawful_L2, if_neg (by rw [cL.1, l1]; omega)]) (ln M) 100000 0 () (by omega) (by omega) rfl
  have e : f_X1_isLawful_L2 (t : Int) M 100000 0 = some y := e
  rw [e, h1]
