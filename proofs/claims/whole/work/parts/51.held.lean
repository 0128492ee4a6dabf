/-! texts: the reference's held signs and codes, as lists (the latest first) -/
def nth (l : List Int) (j : Nat) : Int := l.reverse.getD j 0
theorem nth_c (x : Int) (l : List Int) (j : Nat) : nth (x :: l) j = if j = l.length then x else nth l j := by
  unfold nth
  rw [List.reverse_cons]
  simp only [List.getD, List.getElem?_append, List.length_reverse]
  by_cases h : j < l.length
  · rw [if_pos h, if_neg (by omega)]
  · rw [if_neg h]
    by_cases h2 : j = l.length
    · rw [if_pos h2, h2, Nat.sub_self]; rfl
    · rw [if_neg h2, show j - l.length = (j - l.length - 1) + 1 by omega]
      have : l.reverse[j]? = none := List.getElem?_eq_none (by rw [List.length_reverse]; omega)
      rw [this]; simp
theorem nth_top (x : Int) (l : List Int) : nth (x :: l) l.length = x := by rw [nth_c, if_pos rfl]
theorem nth_lt {x : Int} {l : List Int} {j : Nat} (h : j < l.length) : nth (x :: l) j = nth l j := by rw [nth_c, if_neg (by omega)]
def opn (x : Int) : Nat := if x = 0 ∨ x = 13 ∨ x = 19 then 1 else 0
def cnt (l : List Int) : Nat := (l.map opn).sum
theorem cnt_c (x : Int) (l : List Int) : cnt (x :: l) = opn x + cnt l := by unfold cnt; rw [List.map_cons, List.sum_cons]
/-- unwinding: held signs of a rank and above come among the codes -/
def uw (p : Int) : List Int → List Int → List Int × List Int
  | [], cl => ([], cl)
  | x :: hl, cl => if f_X10_rank x < p then (x :: hl, cl) else uw p hl (x :: cl)
theorem uw_c (p x : Int) (hl cl : List Int) : uw p (x :: hl) cl = if f_X10_rank x < p then (x :: hl, cl) else uw p hl (x :: cl) := rfl
theorem uw_app {p q : Int} (hpq : q ≤ p) : ∀ (w hl cl : List Int), (∀ x ∈ w, p ≤ f_X10_rank x) → uw q (w ++ hl) cl = uw q hl (w.reverse ++ cl) := by
  intro w
  induction w with
  | nil => intro hl cl _; rfl
  | cons x w ih =>
    intro hl cl h
    have h1 := h x List.mem_cons_self
    rw [List.cons_append, uw_c, if_neg (by omega), ih hl (x :: cl) (fun y hy => h y (List.mem_cons_of_mem _ hy)), List.reverse_cons, List.append_assoc]
    rfl
theorem uw_len (p : Int) : ∀ (hl cl : List Int), (uw p hl cl).1.length + (uw p hl cl).2.length = hl.length + cl.length := by
  intro hl
  induction hl with
  | nil => intro cl; rfl
  | cons x hl ih =>
    intro cl
    rw [uw_c]
    split
    · rfl
    · rw [ih, List.length_cons, List.length_cons]; omega
theorem uw_stop {p x : Int} {hl cl : List Int} (h : f_X10_rank x < p) : uw p (x :: hl) cl = (x :: hl, cl) := by rw [uw_c, if_pos h]
section TXT
variable (A0 B0 : Mem) (t nt : Nat) (ae : Nat → Int)
def Dr (c j : Nat) : Bool := (c == 53) || (c == 38 && (j == 26 || j == 27 || j == 28 || j == 29 || j == 32 || j == 33 || j == 34)) || (c == 45 && decide (200 * t ≤ j))
/-- the reference's memory while it reads: before token i, with held signs and codes -/
def VB (B : Mem) (i : Nat) (g : Int) (hl cl : List Int) : Prop := agp (Dr t) B0 B ∧ (B 38 26 = ae i ∧ B 38 27 = g) ∧ B 38 34 = (cl.length : Int) ∧ B 38 32 = (hl.length : Int) ∧ B 38 33 = (cnt hl : Int) ∧ (∀ j, j < hl.length → B 53 j = nth hl j) ∧ ∀ j, j < cl.length → B 45 (200 * t + j) = nth cl j
end TXT
section HELD
variable {B0 : Mem} {t : Nat} {ae : Nat → Int} {g : Int}
theorem Dr_t {j : Nat} (h : j = 26 ∨ j = 27 ∨ j = 28 ∨ j = 29 ∨ j = 32 ∨ j = 33 ∨ j = 34) : Dr t 38 j = true := by
  unfold Dr
  rcases h with rfl | rfl | rfl | rfl | rfl | rfl | rfl <;> rfl
theorem Dr_13 : Dr t 38 13 = false := by rfl
theorem Dr_45 {j : Nat} : Dr t 45 (200 * t + j) = true := by
  unfold Dr
  have : decide (200 * t ≤ 200 * t + j) = true := decide_eq_true (by omega)
  rw [this]; rfl
theorem b_puts {B : Mem} {i : Nat} {hl cl : List Int} {x : Int} (ht : t < 6) (h13 : B0 38 13 = (t : Int)) (h : VB B0 t ae B i g hl cl) (hlen : cl.length < 200) : ∃ B', f_X10_puts x B = some (0, B') ∧ VB B0 t ae B' i g hl (x :: cl) := by
  obtain ⟨h1, h2, h3, h4, h5, h6, h7⟩ := h
  have e13 : B 38 13 = (t : Int) := by rw [h1 38 13 Dr_13]; exact h13
  have ew : ∀ _ : Unit, w32 (w32 (200 * (t : Int)) + (cl.length : Int)) = ((200 * t + cl.length : Nat) : Int) := fun _ => w2i ht hlen
  refine ⟨mset (mset B 45 (200 * t + cl.length) x) 38 34 ((cl.length + 1 : Nat) : Int), ?_, ?_, ?_, ?_, ?_, ?_, ?_, ?_⟩
  · have hin : (0 : Int) ≤ ((200 * t + cl.length : Nat) : Int) ∧ ((200 * t + cl.length : Nat) : Int) < 1200 := ⟨by omega, by omega⟩
    rw [f_X10_puts, e13, h3, ew (), if_pos hin, Int.toNat_natCast, mset_c (d := 38) (by decide), h3, w32_n1 (by omega)]
  · exact (h1.mset Dr_45).mset (Dr_t (by omega))
  · exact ⟨by rw [mset_i (by decide), mset_c (by decide)]; exact h2.1, by rw [mset_i (by decide), mset_c (by decide)]; exact h2.2⟩
  · rw [mset_at]; rfl
  · rw [mset_i (by decide), mset_c (by decide)]; exact h4
  · rw [mset_i (by decide), mset_c (by decide)]; exact h5
  · intro j hj; rw [mset_c (by decide), mset_c (by decide)]; exact h6 j hj
  · intro j hj
    rw [mset_c (by decide), mset_if, nth_c]
    by_cases e : j = cl.length
    · rw [if_pos (by omega), if_pos e]
    · rw [if_neg (by omega), if_neg e]
      rw [List.length_cons] at hj
      exact h7 j (by omega)
theorem b_holds {B : Mem} {i : Nat} {hl cl : List Int} {x : Int} (h : VB B0 t ae B i g hl cl) (hlen : hl.length < 200) : ∃ B', f_X10_holds x B = some (0, B') ∧ agp (Dr t) B0 B' ∧ (B' 38 26 = ae i ∧ B' 38 27 = g) ∧ B' 38 34 = (cl.length : Int) ∧ B' 38 32 = ((x :: hl).length : Int) ∧ B' 38 33 = B 38 33 ∧ (∀ j, j < (x :: hl).length → B' 53 j = nth (x :: hl) j) ∧ ∀ j, j < cl.length → B' 45 (200 * t + j) = nth cl j := by
  obtain ⟨h1, h2, h3, h4, h5, h6, h7⟩ := h
  refine ⟨mset (mset B 53 hl.length x) 38 32 ((hl.length + 1 : Nat) : Int), ?_, ?_, ?_, ?_, ?_, ?_, ?_, ?_⟩
  · rw [f_X10_holds, h4, if_pos ⟨by omega, by omega⟩, Int.toNat_natCast, mset_c (d := 38) (by decide), h4, w32_n1 (by omega)]
  · exact (h1.mset (by rfl)).mset (Dr_t (by omega))
  · exact ⟨by rw [mset_i (by decide), mset_c (by decide)]; exact h2.1, by rw [mset_i (by decide), mset_c (by decide)]; exact h2.2⟩
  · rw [mset_i (by decide), mset_c (by decide)]; exact h3
  · rw [mset_at]; rfl
  · rw [mset_i (by decide), mset_c (by decide)]
  · intro j hj
    rw [mset_c (by decide), mset_if, nth_c]
    by_cases e : j = hl.length
    · rw [if_pos e, if_pos e]
    · rw [if_neg e, if_neg e]
      rw [List.length_cons] at hj
      exact h6 j (by omega)
  · intro j hj; rw [mset_c (by decide), mset_c (by decide)]; exact h7 j hj
theorem b_opensOne {B : Mem} {i : Nat} {hl cl : List Int} {x : Int} (hx : opn x = 1) (h : VB B0 t ae B i g hl cl) (hlen : hl.length < 200) (hc : cnt hl ≤ 5) : (cnt hl = 5 → f_X10_opensOne x B = some (0, B)) ∧ (cnt hl < 5 → ∃ B', f_X10_opensOne x B = some (1, B') ∧ VB B0 t ae B' i g (x :: hl) cl) := by
  obtain ⟨h1, h2, h3, h4, h5, h6, h7⟩ := id h
  refine ⟨fun q => by rw [f_X10_opensOne, if_pos (by omega)], fun q => ?_⟩
  have e1 : ∀ _ : Unit, w32 (B 38 33 + 1) = ((cnt hl + 1 : Nat) : Int) := fun _ => by rw [h5, w32_n1 (by omega)]
  have hV : agp (Dr t) B0 (mset B 38 33 ((cnt hl + 1 : Nat) : Int)) := h1.mset (Dr_t (by omega))
  refine ⟨mset (mset (mset B 38 33 ((cnt hl + 1 : Nat) : Int)) 53 hl.length x) 38 32 ((hl.length + 1 : Nat) : Int), ?_, ?_, ?_, ?_, ?_, ?_, ?_, ?_⟩
  · have e4 : mset B 38 33 ((cnt hl + 1 : Nat) : Int) 38 32 = (hl.length : Int) := by rw [mset_i (by decide)]; exact h4
    have eh : f_X10_holds x (mset B 38 33 ((cnt hl + 1 : Nat) : Int)) = some (0, mset (mset (mset B 38 33 ((cnt hl + 1 : Nat) : Int)) 53 hl.length x) 38 32 ((hl.length + 1 : Nat) : Int)) := by
      rw [f_X10_holds, e4, if_pos ⟨by omega, by omega⟩, Int.toNat_natCast, mset_c (d := 38) (c := 53) (by decide), e4, w32_n1 (by omega)]
    rw [f_X10_opensOne, if_neg (by omega), e1 ()]
    exact ob_I eh rfl
  · exact (hV.mset (by rfl)).mset (Dr_t (by omega))
  · exact ⟨by rw [mset_i (by decide), mset_c (by decide), mset_i (by decide)]; exact h2.1, by rw [mset_i (by decide), mset_c (by decide), mset_i (by decide)]; exact h2.2⟩
  · rw [mset_i (by decide), mset_c (by decide), mset_i (by decide)]; exact h3
  · rw [mset_at]; rfl
  · rw [mset_i (by decide), mset_c (by decide), mset_at, cnt_c, hx, Nat.add_comm]
  · intro j hj
    rw [mset_c (by decide), mset_if, nth_c]
    by_cases e : j = hl.length
    · rw [if_pos e, if_pos e]
    · rw [if_neg e, if_neg e, mset_c (by decide)]
      rw [List.length_cons] at hj
      exact h6 j (by omega)
  · intro j hj; rw [mset_c (by decide), mset_c (by decide), mset_c (by decide)]; exact h7 j hj
theorem b_unwindsL {p : Int} (ht : t < 6) (h13 : B0 38 13 = (t : Int)) (hp : 0 < p) : ∀ (hl cl : List Int) (B : Mem) (i fuel : Nat), hl.length < fuel → VB B0 t ae B i g hl cl → hl.length + cl.length ≤ 160 →
    ∃ B', f_X10_unwinds_L0 p fuel B = some (0, B') ∧ VB B0 t ae B' i g (uw p hl cl).1 (uw p hl cl).2 := by
  intro hl
  induction hl with
  | nil =>
    intro cl B i fuel hf h _
    obtain ⟨n, rfl⟩ : ∃ n, fuel = n + 1 := ⟨fuel - 1, by omega⟩
    refine ⟨B, ?_, h⟩
    rw [f_X10_unwinds_L0, if_neg (by rw [h.2.2.2.1]; decide)]
  | cons x hl ih =>
    intro cl B i fuel hf h hlen
    obtain ⟨n, rfl⟩ : ∃ n, fuel = n + 1 := ⟨fuel - 1, by omega⟩
    obtain ⟨h1, h2, h3, h4, h5, h6, h7⟩ := id h
    rw [List.length_cons] at h4 hlen hf
    have ew : ∀ _ : Unit, w32 (B 38 32 - 1) = (hl.length : Int) := fun _ => by rw [h4, w32_id (by omega) (by omega)]; omega
    have e53 : B 53 hl.length = x := by rw [h6 _ (by rw [List.length_cons]; omega), nth_top]
    have hin : (0 : Int) ≤ (hl.length : Int) ∧ (hl.length : Int) < 200 := ⟨by omega, by omega⟩
    have e32 : mset B 38 32 (hl.length : Int) 38 32 = (hl.length : Int) := mset_at _ _ _ _
    have e53' : mset B 38 32 (hl.length : Int) 53 hl.length = x := by rw [mset_c (by decide)]; exact e53
    by_cases hr : f_X10_rank x < p
    · refine ⟨B, ?_, by rw [uw_stop hr]; exact h⟩
      rw [f_X10_unwinds_L0, if_pos (by rw [h4]; omega), ew (), if_pos hin, Int.toNat_natCast, e53, if_pos hr]
    · have hx0 : x ≠ 0 := by
        intro e; subst e
        apply hr
        show (0 : Int) < p
        exact hp
      -- the sign is taken off, the count of open ones falls with it
      have key : ∀ v : Int, v = (cnt hl : Int) → ∃ B', (ob (f_X10_puts x (mset (mset B 38 32 (hl.length : Int)) 38 33 v)) fun _ M323 => f_X10_unwinds_L0 p n M323) = some (0, B') ∧ VB B0 t ae B' i g (uw p (x :: hl) cl).1 (uw p (x :: hl) cl).2 := by
        intro v hv
        have hV : VB B0 t ae (mset (mset B 38 32 (hl.length : Int)) 38 33 v) i g hl cl := by
          refine ⟨(h1.mset (Dr_t (by omega))).mset (Dr_t (by omega)), ?_, ?_, ?_, ?_, ?_, ?_⟩
          · exact ⟨by rw [mset_i (by decide), mset_i (by decide)]; exact h2.1, by rw [mset_i (by decide), mset_i (by decide)]; exact h2.2⟩
          · rw [mset_i (by decide), mset_i (by decide)]; exact h3
          · rw [mset_i (by decide), mset_at]
          · rw [mset_at]; exact hv
          · intro j hj; rw [mset_c (by decide), mset_c (by decide), h6 j (by rw [List.length_cons]; omega), nth_lt hj]
          · intro j hj; rw [mset_c (by decide), mset_c (by decide)]; exact h7 j hj
        obtain ⟨B1, e1, v1⟩ := b_puts (x := x) ht h13 hV (by omega)
        obtain ⟨B2, e2, v2⟩ := ih (x :: cl) B1 i n (by omega) v1 (by rw [List.length_cons]; omega)
        refine ⟨B2, ob_I e1 e2, ?_⟩
        rw [uw_c, if_neg hr]; exact v2
      rw [cnt_c] at h5
      rw [f_X10_unwinds_L0, if_pos (by rw [h4]; omega), ew (), if_pos hin, Int.toNat_natCast, e53, if_neg hr, e32, if_pos hin, Int.toNat_natCast, e53']
      have e33 : mset B 38 32 (hl.length : Int) 38 33 = ((opn x + cnt hl : Nat) : Int) := by rw [mset_i (by decide)]; exact h5
      have hcl : cnt hl ≤ hl.length := by
        unfold cnt
        clear ih key h6 e53 e53' h ew h4 hlen hf hin e32 h5 e33
        induction hl with
        | nil => exact Nat.le_refl _
        | cons y l ih2 =>
          rw [List.map_cons, List.sum_cons, List.length_cons]
          have : opn y ≤ 1 := by unfold opn; split <;> omega
          omega
      by_cases q1 : x = 13
      · have ho : opn x = 1 := by rw [q1]; rfl
        rw [if_pos q1, e33, ho]
        exact key _ (by rw [w32_id (by omega) (by omega)]; omega)
      · rw [if_neg q1]
        by_cases q2 : x = 19
        · have ho : opn x = 1 := by rw [q2]; rfl
          rw [if_pos q2, e33, ho]
          exact key _ (by rw [w32_id (by omega) (by omega)]; omega)
        · have ho : opn x = 0 := by unfold opn; rw [if_neg (by omega)]
          rw [if_neg q2, e33, ho]
          exact key _ (by rw [w32_id (by omega) (by omega)]; omega)
theorem b_unwinds {p : Int} {B : Mem} {i : Nat} {hl cl : List Int} (ht : t < 6) (h13 : B0 38 13 = (t : Int)) (hp : 0 < p) (h : VB B0 t ae B i g hl cl) (hlen : hl.length + cl.length ≤ 160) : ∃ B', f_X10_unwinds p B = some (0, B') ∧ VB B0 t ae B' i g (uw p hl cl).1 (uw p hl cl).2 := b_unwindsL ht h13 hp hl cl B i 100000 (by omega) h hlen
end HELD
