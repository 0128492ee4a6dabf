/-! texts: one token of the reference, from the characters -/
def en (c : Nat → Int) (s p : Nat) : Nat := if ltr (c p) = true then rn c s ltr (p + 1) else if dgt (c p) = true then rn c s dgt (p + 1) else p + 1
def sgb (x : Int) : Bool := decide (x = 40 ∨ x = 41 ∨ x = 59 ∨ x = 43 ∨ x = 45 ∨ x = 42 ∨ x = 60 ∨ x = 61)
def wtk (w : Nat) : Int := [256, 257, 258, 300, 301, 302, 303, 304, 305, 259, 260, 261, 1].getD w 1
/-- w is the first word that fits, or 12 -/
def FST (c : Nat → Int) (p e w : Nat) : Prop := w ≤ 12 ∧ (∀ k, k < w → ¬ WK c p e k) ∧ (w < 12 → WK c p e w)
theorem FST.one {c : Nat → Int} {p e w w' : Nat} (h : FST c p e w) (h' : FST c p e w') : w = w' := by
  obtain ⟨a1, a2, a3⟩ := h
  obtain ⟨b1, b2, b3⟩ := h'
  by_cases q1 : w < w'
  · exact absurd (a3 (by omega)) (b2 w q1)
  by_cases q2 : w' < w
  · exact absurd (b3 (by omega)) (a2 w' q2)
  · omega
/-- x is the class's token at q -/
def TK (c : Nat → Int) (s q : Nat) (x : Int) : Prop :=
  (ltr (c q) = true → ∃ w, FST c q (en c s q) w ∧ x = wtk w) ∧ (¬ ltr (c q) = true → dgt (c q) = true → x = if 4 < en c s q - q then 1 else 1000 + vlf c (en c s q - q) q 0) ∧ (¬ ltr (c q) = true → ¬ dgt (c q) = true → x = if sgb (c q) = true then c q else 1)
theorem wtk_r : ∀ w, w ≤ 12 → rtok (wtk w) = (if w < 3 then 3 else if w < 9 then 2 else if w = 12 then -1 else (w : Int) - 5) ∧ (w < 9 → rval (wtk w) = if w < 3 then (w : Int) else (w : Int) - 3) ∧ (9 ≤ w → (259 ≤ wtk w ∧ wtk w ≤ 261) ∨ wtk w = 1) := by decide +kernel
theorem sg8 {α : Type} (x : Int) (a b : α) : (if x = 40 then a else if x = 41 then a else if x = 59 then a else if x = 43 then a else if x = 45 then a else if x = 42 then a else if x = 60 then a else if x = 61 then a else b) = if sgb x = true then a else b := by
  by_cases h : x = 40 ∨ x = 41 ∨ x = 59 ∨ x = 43 ∨ x = 45 ∨ x = 42 ∨ x = 60 ∨ x = 61
  · have hb : sgb x = true := by unfold sgb; exact decide_eq_true h
    rw [hb]
    rcases h with h | h | h | h | h | h | h | h <;> simp [h]
  · have hb : ¬ sgb x = true := by unfold sgb; rw [decide_eq_true_eq]; exact h
    simp only [not_or] at h
    obtain ⟨h1, h2, h3, h4, h5, h6, h7, h8⟩ := h
    rw [if_neg h1, if_neg h2, if_neg h3, if_neg h4, if_neg h5, if_neg h6, if_neg h7, if_neg h8, if_neg hb]
section REFC
variable {c : Nat → Int} {s : Nat} {B : Mem}
abbrev DN : Nat → Nat → Bool := dd [] [(38, 26), (38, 27), (38, 28), (38, 29)]
theorem TPE.e {M M' : Mem} (h : TPE c s M) (h1 : M' 44 = M 44) (h2 : M' 38 10 = M 38 10) : TPE c s M' := ⟨h.1, h2.trans h.2.1, fun j hj => by rw [h1]; exact h.2.2 j hj⟩
theorem next_go {p : Nat} (h : TPE c s B) (hW : WD B) (hp : p ≤ s) (h26 : B 38 26 = (p : Int)) : ∃ B', f_X10_next B = some (0, B') ∧ agp DN B B' ∧ B' 38 27 = ((rn c s blk p : Nat) : Int) ∧
    (¬ rn c s blk p < s → B' 38 26 = (s : Int) ∧ B' 38 28 = 0) ∧
    (rn c s blk p < s → B' 38 26 = ((en c s (rn c s blk p) : Nat) : Int) ∧ ∀ x, TK c s (rn c s blk p) x → B' 38 28 = rtok x ∧ (256 ≤ x → ¬ (259 ≤ x ∧ x ≤ 261) → B' 38 29 = rval x)) := by
  have h160 := h.1
  obtain ⟨g1, g2, g3, g4⟩ := rn_all (c := c) (s := s) (f := blk) _ p rfl hp
  unfold f_X10_next
  rw [← mset_own h26, l0_go h (s - p) p 100000 rfl hp (by omega)]
  generalize rn c s blk p = q at g1 g2 g3 g4
  rw [mset_own h26]
  show ∃ B', (if (mset (mset (mset (mset B 38 26 (q : Int)) 38 27 (mset B 38 26 (q : Int) 38 26)) 38 28 0) 38 29 0) 38 26 = _ then _ else _) = some ((0 : Int), B') ∧ _
  have eM : mset (mset (mset (mset B 38 26 (q : Int)) 38 27 (mset B 38 26 (q : Int) 38 26)) 38 28 0) 38 29 0 = mset (mset (mset (mset B 38 26 (q : Int)) 38 27 (q : Int)) 38 28 0) 38 29 0 := by rw [mset_at]
  rw [eM]
  have f1 : agp DN B (mset (mset (mset (mset B 38 26 (q : Int)) 38 27 (q : Int)) 38 28 0) 38 29 0) := agp.mset (agp.mset (agp.mset (agp.mset agp.refl (by rfl)) (by rfl)) (by rfl)) (by rfl)
  have f2 : mset (mset (mset (mset B 38 26 (q : Int)) 38 27 (q : Int)) 38 28 0) 38 29 0 38 26 = (q : Int) := by rw [mset_i (by decide), mset_i (by decide), mset_i (by decide), mset_at]
  have f3 : mset (mset (mset (mset B 38 26 (q : Int)) 38 27 (q : Int)) 38 28 0) 38 29 0 38 27 = (q : Int) := by rw [mset_i (by decide), mset_i (by decide), mset_at]
  have f4 : mset (mset (mset (mset B 38 26 (q : Int)) 38 27 (q : Int)) 38 28 0) 38 29 0 38 28 = 0 := by rw [mset_i (by decide), mset_at]
  have f5 : mset (mset (mset (mset B 38 26 (q : Int)) 38 27 (q : Int)) 38 28 0) 38 29 0 38 29 = 0 := mset_at _ _ _ _
  generalize mset (mset (mset (mset B 38 26 (q : Int)) 38 27 (q : Int)) 38 28 0) 38 29 0 = C at f1 f2 f3 f4 f5
  have hC : TPE c s C := h.e (f1.c 44 (by intro j; rfl)) (f1.p 38 10 (by rfl))
  have hWC : WD C := fun i hi => by rw [f1.c 52 (by intro j; rfl)]; exact hW i hi
  rw [f2, hC.2.1]
  by_cases hq0 : ¬ q < s
  · have hq := hq0
    refine ⟨C, by rw [if_pos (by omega)], f1, f3, fun _ => ⟨by rw [f2]; omega, f4⟩, fun z => absurd z hq⟩
  have hq : q < s := by omega
  rw [if_neg (by omega), if_pos (by omega), Int.toNat_natCast, hC.2.2 q hq, ltr_e, dgt_e]
  by_cases hl : ltr (c q) = true
  · -- a word
    rw [if_pos hl, if_neg (by decide)]
    have el := l103_go (K := fun M320 => (f_X10_wordFrom (M320 38 27) (M320 38 26) M320).bind fun r321 =>
                if r321 < 3 then
                  if r321 < 3 then
                    some ((0 : Int), (mset (mset M320 38 28 3) 38 29 r321))
                  else
                    some (0, (mset (mset M320 38 28 3) 38 29 (w32 (r321 - 3))))
                else
                  if r321 < 9 then
                    if r321 < 3 then
                      some (0, (mset (mset M320 38 28 2) 38 29 r321))
                    else
                      some (0, (mset (mset M320 38 28 2) 38 29 (w32 (r321 - 3))))
                  else
                    if r321 = 12 then
                      if r321 < 3 then
                        some (0, (mset (mset M320 38 28 (-1)) 38 29 r321))
                      else
                        some (0, (mset (mset M320 38 28 (-1)) 38 29 (w32 (r321 - 3))))
                    else
                      if r321 < 3 then
                        some (0, (mset (mset M320 38 28 (w32 ((w32 (4 + r321)) - 9))) 38 29 r321))
                      else
                        some (0, (mset (mset M320 38 28 (w32 ((w32 (4 + r321)) - 9))) 38 29 (w32 (r321 - 3))))) hC (s - q) q 100000 rfl g2 (by omega)
    rw [mset_own f2] at el
    have een : en c s q = rn c s ltr q := by unfold en; rw [if_pos hl, ← rn_t hq hl]
    obtain ⟨k1, k2, k3, k4⟩ := rn_all (c := c) (s := s) (f := ltr) _ q rfl g2
    rw [← een] at el k1 k2 k3
    have hD : TPE c s (mset C 38 26 ((en c s q : Nat) : Int)) := hC.e (mset_c (by decide)) (mset_i (by decide))
    have hWD : WD (mset C 38 26 ((en c s q : Nat) : Int)) := fun i hi => by rw [mset_c (by decide)]; exact hWC i hi
    have fD : agp DN B (mset C 38 26 ((en c s q : Nat) : Int)) := agp.mset f1 (by rfl)
    have d26 : mset C 38 26 ((en c s q : Nat) : Int) 38 26 = ((en c s q : Nat) : Int) := mset_at _ _ _ _
    have d27 : mset C 38 26 ((en c s q : Nat) : Int) 38 27 = (q : Int) := by rw [mset_i (by decide)]; exact f3
    generalize mset C 38 26 ((en c s q : Nat) : Int) = D at el hD hWD fD d26 d27
    obtain ⟨w, w1, w2, w3, w4, w5⟩ := wf_go hD hWD k1 k2 k3 12 0 100000 rfl (by decide) (by decide)
    have hF : FST c q (en c s q) w := ⟨w3, fun k hk => w4 k (Nat.zero_le _) hk, w5⟩
    have w1 : f_X10_wordFrom (q : Int) ((en c s q : Nat) : Int) D = some (w : Int) := w1
    have fin : ∀ (a b : Int), (∀ x, TK c s q x → a = rtok x ∧ (256 ≤ x → ¬ (259 ≤ x ∧ x ≤ 261) → b = rval x)) → ∃ B', some ((0 : Int), mset (mset D 38 28 a) 38 29 b) = some (0, B') ∧ agp DN B B' ∧ B' 38 27 = (q : Int) ∧ (¬ q < s → B' 38 26 = (s : Int) ∧ B' 38 28 = 0) ∧ (q < s → B' 38 26 = ((en c s q : Nat) : Int) ∧ ∀ x, TK c s q x → B' 38 28 = rtok x ∧ (256 ≤ x → ¬ (259 ≤ x ∧ x ≤ 261) → B' 38 29 = rval x)) := by
      intro a b hab
      refine ⟨_, rfl, agp.mset (agp.mset fD (by rfl)) (by rfl), by rw [mset_i (by decide), mset_i (by decide)]; exact d27, fun z => absurd hq z, fun _ => ⟨by rw [mset_i (by decide), mset_i (by decide)]; exact d26, fun x hx => ?_⟩⟩
      rw [mset_i (by decide), mset_at, mset_at]
      exact hab x hx
    have tk : ∀ a b : Int, (a = if w < 3 then 3 else if w < 9 then 2 else if w = 12 then -1 else (w : Int) - 5) → (w < 9 → b = if w < 3 then (w : Int) else (w : Int) - 3) → ∀ x, TK c s q x → a = rtok x ∧ (256 ≤ x → ¬ (259 ≤ x ∧ x ≤ 261) → b = rval x) := by
      intro a b ha hb x hx
      obtain ⟨w', u1, u2⟩ := hx.1 hl
      have := u1.one hF
      subst this
      obtain ⟨v1, v2, v3⟩ := wtk_r w' w3
      rw [u2]
      refine ⟨ha.trans v1.symm, fun z1 z2 => ?_⟩
      by_cases z : w' < 9
      · rw [hb z, v2 z]
      · exfalso
        rcases v3 (by omega) with v | v
        · exact z2 v
        · rw [v] at z1; exact absurd z1 (by decide)
    rw [el]
    show ∃ B', ((f_X10_wordFrom (D 38 27) (D 38 26) D).bind _) = some ((0 : Int), B') ∧ _
    rw [d27, d26, w1]
    show ∃ B', (if (w : Int) < 3 then _ else _) = some ((0 : Int), B') ∧ _
    have ew3 : 3 ≤ w → w32 ((w : Int) - 3) = (w : Int) - 3 := fun z => w32_id (by omega) (by omega)
    by_cases y1 : w < 3
    · rw [if_pos (by omega), if_pos (by omega)]
      exact fin _ _ (tk _ _ (by rw [if_pos y1]) (fun _ => by rw [if_pos y1]))
    rw [if_neg (by omega)]
    by_cases y2 : w < 9
    · rw [if_pos (by omega), if_neg (by omega), ew3 (by omega)]
      exact fin _ _ (tk _ _ (by rw [if_neg y1, if_pos y2]) (fun _ => by rw [if_neg y1]))
    rw [if_neg (by omega)]
    by_cases y3 : w = 12
    · rw [if_pos (by omega), if_neg (by omega)]
      exact fin _ _ (tk _ _ (by rw [if_neg y1, if_neg y2, if_pos y3]) (fun z => absurd z y2))
    · rw [if_neg (by omega), if_neg (by omega)]
      have ew5 : w32 (w32 (4 + (w : Int)) - 9) = (w : Int) - 5 := by rw [w32_id (z := 4 + (w : Int)) (by omega) (by omega), w32_id (by omega) (by omega)]; omega
      rw [ew5]
      exact fin _ _ (tk _ _ (by rw [if_neg y1, if_neg y2, if_neg y3]) (fun z => absurd z y2))
  rw [if_neg hl, if_pos rfl]
  by_cases hd : dgt (c q) = true
  · -- a number
    rw [if_pos hd, if_neg (by decide)]
    obtain ⟨v', i1, i2⟩ := l230_go (K := fun y318 M319 => if 4 < y318 then some ((0 : Int), (mset M319 38 28 (-1))) else some (0, (mset M319 38 28 1))) hC (s - q) q 100000 0 0 rfl g2 (by omega) (Nat.zero_le _) (fun _ => ⟨by decide, by decide⟩)
    rw [mset_own f5, mset_own f2] at i1
    have een : en c s q = rn c s dgt q := by unfold en; rw [if_neg hl, if_pos hd, ← rn_t hq hd]
    rw [← een, Nat.zero_add] at i1 i2
    have i1 : f_X10_next_L230 (fun y318 M319 => if 4 < y318 then some ((0 : Int), (mset M319 38 28 (-1))) else some (0, (mset M319 38 28 1))) 100000 0 C = if (4 : Int) < ((en c s q - q : Nat) : Int) then some ((0 : Int), mset (mset (mset C 38 29 v') 38 26 ((en c s q : Nat) : Int)) 38 28 (-1)) else some (0, mset (mset (mset C 38 29 v') 38 26 ((en c s q : Nat) : Int)) 38 28 1) := i1
    rw [i1]
    have f9 : ∀ a : Int, agp DN B (mset (mset (mset C 38 29 v') 38 26 ((en c s q : Nat) : Int)) 38 28 a) := fun a => agp.mset (agp.mset (agp.mset f1 (by rfl)) (by rfl)) (by rfl)
    by_cases h4 : 4 < en c s q - q
    · rw [if_pos (by omega)]
      refine ⟨_, rfl, f9 _, by rw [mset_i (by decide), mset_i (by decide), mset_i (by decide)]; exact f3, fun z => absurd hq z, fun _ => ⟨by rw [mset_i (by decide), mset_at], fun x hx => ?_⟩⟩
      rw [hx.2.1 hl hd, if_pos h4, mset_at]
      exact ⟨by rfl, fun z => absurd z (by decide)⟩
    · rw [if_neg (by omega)]
      refine ⟨_, rfl, f9 _, by rw [mset_i (by decide), mset_i (by decide), mset_i (by decide)]; exact f3, fun z => absurd hq z, fun _ => ⟨by rw [mset_i (by decide), mset_at], fun x hx => ?_⟩⟩
      have i2 := i2 (by omega)
      obtain ⟨k1, k2, k3, k4⟩ := rn_all (c := c) (s := s) (f := dgt) _ q rfl g2
      rw [← een] at k1 k2 k3
      obtain ⟨r1, r2⟩ := vlf_r True (c := c) (en c s q - q) q 0 0 (fun j a b => k3 j a (by omega)) (by decide) (by decide) (by omega)
      rw [hx.2.1 hl hd, if_neg h4, mset_at, mset_i (by decide), mset_i (by decide), mset_at, i2]
      generalize vlf c (en c s q - q) q 0 = v at r1 r2
      refine ⟨?_, fun _ _ => ?_⟩
      · unfold rtok; rw [if_neg (by omega), if_neg (by omega), if_neg (by omega), if_neg (by omega), if_neg (by omega)]
      · unfold rval; rw [if_neg (by omega), if_neg (by omega)]; omega
  · -- a sign
    rw [if_neg hd, if_pos rfl, sg8]
    have een : en c s q = q + 1 := by unfold en; rw [if_neg hl, if_neg hd]
    have w1 : ∀ a : Int, mset (mset C 38 28 a) 38 26 (w32 (mset C 38 28 a 38 26 + 1)) = mset (mset C 38 28 a) 38 26 ((en c s q : Nat) : Int) := fun a => by
      rw [mset_i (by decide), f2, w32_n1 (by omega), een]
    rw [w1, w1]
    have fin : ∀ a : Int, (∀ x, TK c s q x → a = rtok x ∧ x < 256) → ∃ B', some ((0 : Int), mset (mset C 38 28 a) 38 26 ((en c s q : Nat) : Int)) = some (0, B') ∧ agp DN B B' ∧ B' 38 27 = (q : Int) ∧ (¬ q < s → B' 38 26 = (s : Int) ∧ B' 38 28 = 0) ∧ (q < s → B' 38 26 = ((en c s q : Nat) : Int) ∧ ∀ x, TK c s q x → B' 38 28 = rtok x ∧ (256 ≤ x → ¬ (259 ≤ x ∧ x ≤ 261) → B' 38 29 = rval x)) := by
      intro a ha
      refine ⟨_, rfl, agp.mset (agp.mset f1 (by rfl)) (by rfl), by rw [mset_i (by decide), mset_i (by decide)]; exact f3, fun z => absurd hq z, fun _ => ⟨mset_at _ _ _ _, fun x hx => ?_⟩⟩
      rw [mset_i (by decide), mset_at]
      exact ⟨(ha x hx).1, fun z => by have := (ha x hx).2; omega⟩
    by_cases hs : sgb (c q) = true
    · rw [if_pos hs]
      refine fin _ (fun x hx => ?_)
      rw [hx.2.2 hl hd, if_pos hs]
      unfold sgb at hs
      have hs := of_decide_eq_true hs
      refine ⟨?_, by omega⟩
      unfold rtok
      rw [if_neg (by omega), if_pos (by omega)]
    · rw [if_neg hs]
      refine fin _ (fun x hx => ?_)
      rw [hx.2.2 hl hd, if_neg hs]
      exact ⟨by rfl, by decide⟩
end REFC
