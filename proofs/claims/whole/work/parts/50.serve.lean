/-! tonight: the best way -/
def prc (pr : Nat → Int) (v : Int) : Int := if v = -1 then 0 else pr v.toNat
def prS (pr : Nat → Int) (f : Nat → Int) : Nat → Int
  | 0 => 0
  | j + 1 => prS pr f j + prc pr (f j)
theorem prS_c {pr : Nat → Int} {f g : Nat → Int} : ∀ n : Nat, (∀ j, j < n → f j = g j) → prS pr f n = prS pr g n := by
  intro n
  induction n with
  | zero => intro _; rfl
  | succ n ih => intro h; show prS pr f n + prc pr (f n) = prS pr g n + prc pr (g n); rw [ih (fun j hj => h j (by omega)), h n (by omega)]
theorem prc_b {pr : Nat → Int} {N : Nat} (hp : ∀ l, l < N → 0 ≤ pr l ∧ pr l ≤ 99) {v : Int} (h1 : -1 ≤ v) (h2 : v < (N : Int)) : 0 ≤ prc pr v ∧ prc pr v ≤ 99 := by
  unfold prc
  by_cases e : v = -1
  · rw [if_pos e]; exact ⟨by omega, by omega⟩
  · rw [if_neg e]; exact hp _ (by omega)
theorem prS_b {pr : Nat → Int} {N : Nat} {f : Nat → Int} (hp : ∀ l, l < N → 0 ≤ pr l ∧ pr l ≤ 99) : ∀ n : Nat, (∀ j, j < n → -1 ≤ f j ∧ f j < (N : Int)) → 0 ≤ prS pr f n ∧ prS pr f n ≤ 99 * (n : Int) := by
  intro n
  induction n with
  | zero => intro _; exact ⟨by show (0 : Int) ≤ 0; omega, by show (0 : Int) ≤ _; omega⟩
  | succ n ih =>
    intro h
    obtain ⟨h1, h2⟩ := ih (fun j hj => h j (by omega))
    obtain ⟨h3, h4⟩ := prc_b hp (h n (by omega)).1 (h n (by omega)).2
    rw [show prS pr f (n + 1) = prS pr f n + prc pr (f n) from rfl]
    exact ⟨by omega, by omega⟩
/-- what both have of a plan -/
def oA (A : Mem) (N G : Nat) (pr : Nat → Int) (v : Nat → Nat → Int) : Prop := A 3 3 = (N : Int) ∧ (∀ l, l < N → A 5 l = pr l) ∧ ∀ g, g < G → ∀ l, l < N → A 28 (10 * g + l) = v g l
def oB (B : Mem) (N G : Nat) (C : Int) (pr : Nat → Int) (v : Nat → Nat → Int) : Prop := B 38 0 = (N : Int) ∧ B 38 3 = (G : Int) ∧ B 38 5 = C ∧ (∀ l, l < N → B 40 l = pr l) ∧ ∀ g, g < G → ∀ l, l < N → B 59 (10 * g + l) = v g l
def oR (A B : Mem) (N G : Nat) (pr : Nat → Int) : Prop := A 27 3 = B 38 44 ∧ -1 ≤ A 27 3 ∧ (0 ≤ A 27 3 → (∀ j, j < G → A 30 j = B 61 j ∧ -1 ≤ A 30 j ∧ A 30 j < (N : Int)) ∧ B 38 45 = prS pr (B 61) G)
def oP (A B : Mem) (N g : Nat) : Prop := ∀ j, j < g → A 29 j = B 60 j ∧ -1 ≤ A 29 j ∧ A 29 j < (N : Int)
def DA : Nat → Nat → Bool := dd [29, 30] [(27, 3)]
def DB : Nat → Nat → Bool := dd [60, 61] [(38, 44), (38, 45)]
theorem oA.of {A A' : Mem} {N G : Nat} {pr : Nat → Int} {v : Nat → Nat → Int} (h : oA A N G pr v) (ha : agp DA A A') : oA A' N G pr v := by
  unfold oA
  rw [ha.p 3 3, ha.c 5, ha.c 28]; exact h
theorem oB.of {B B' : Mem} {N G : Nat} {C : Int} {pr : Nat → Int} {v : Nat → Nat → Int} (h : oB B N G C pr v) (ha : agp DB B B') : oB B' N G C pr v := by
  unfold oB
  rw [ha.p 38 0, ha.p 38 3, ha.p 38 5, ha.c 40, ha.c 59]; exact h
/-- what a step of the search leaves -/
def oE (A B A' B' : Mem) (N G g : Nat) (pr : Nat → Int) : Prop := oR A' B' N G pr ∧ 0 ≤ A' 27 3 ∧ agp DA A A' ∧ agp DB B B' ∧ (∀ j, j < g → A' 29 j = A 29 j) ∧ ∀ j, j < g → B' 60 j = B 60 j
theorem r_copy4 {rO : Int → Int → Int → Mem → Option (Int × Mem)} {B : Mem} : ∃ B', f_X10_orders_L37 rO 100000 0 B = some (0, B') ∧ agx [61] B B' ∧ ∀ j : Nat, j < 4 → B' 61 j = B 60 j := by
  obtain ⟨k, M', e0, g1, g2⟩ := loopN (N := 4) (F := fun k i (M2 : Mem) => f_X10_orders_L37 rO k (i : Int) M2) (P := fun i M2 => agx [61] B M2 ∧ ∀ j : Nat, j < i → M2 61 j = B 60 j) (by
    intro k i M2 hi hP
    obtain ⟨p1, p2⟩ := hP
    refine ⟨mset M2 61 i (M2 60 i), ?_, p1.mset (by decide), fun j hj => ?_⟩
    · show f_X10_orders_L37 rO (k + 1) (i : Int) M2 = f_X10_orders_L37 rO k ((i + 1 : Nat) : Int) _
      rw [f_X10_orders_L37, if_pos (by omega), if_pos ⟨by omega, by omega⟩, if_pos ⟨by omega, by omega⟩, Int.toNat_natCast, w32_n1 (by omega)]
    · by_cases e : j = i
      · subst e; rw [mset_at, p1 60 (by decide)]
      · rw [mset_i e]; exact p2 j (by omega)) 4 100000 0 B (by omega) (by omega) ⟨agx.refl, fun j hj => absurd hj (Nat.not_lt_zero _)⟩
  have e1 : f_X10_orders_L37 rO 100000 0 B = f_X10_orders_L37 rO (k + 1) ((4 : Nat) : Int) M' := e0
  exact ⟨M', by rw [e1, f_X10_orders_L37, if_neg (by decide)], g1, g2⟩
theorem serve_end {rS : Int → Int → Int → Int → Mem → Option (Int × Mem)} {rO : Int → Int → Int → Mem → Option (Int × Mem)} {A B : Mem} {N G : Nat} {C c x p : Int} {pr : Nat → Int} {v : Nat → Nat → Int} (hG : G ≤ 4) (hB : oB B N G C pr v) (hR : oR A B N G pr) (hP : oP A B N G) (hx : 0 ≤ x) (hp : p = prS pr (B 60) G) :
    ∃ A' B', f_X8_serve rS (G : Int) (G : Int) c x A = some (0, A') ∧ f_X10_orders rO (G : Int) x p B = some (0, B') ∧ oE A B A' B' N G G pr := by
  obtain ⟨r1, r2, r3⟩ := hR
  by_cases hlt : A 27 3 < x
  · have ek : f_X8_keepIfBetter x A = some (0, mcpy (mset A 27 3 x) 29 30 0 0 4) := by rw [f_X8_keepIfBetter, if_pos hlt]
    obtain ⟨B', e2, d1, d2⟩ := r_copy4 (rO := rO) (B := mset (mset B 38 44 x) 38 45 p)
    have s27 : mcpy (mset A 27 3 x) 29 30 0 0 4 27 3 = x := rfl
    have s44 : B' 38 44 = x := by rw [d1 38 (by decide)]; rfl
    have s45 : B' 38 45 = p := by rw [d1 38 (by decide)]; rfl
    refine ⟨mcpy (mset A 27 3 x) 29 30 0 0 4, B', ?_, ?_, ⟨?_, ?_, ?_⟩, ?_, ?_, ?_, ?_, ?_⟩
    · rw [f_X8_serve, if_neg (by omega)]; exact ob_I ek rfl
    · rw [f_X10_orders, if_pos (by rw [hB.2.1])]
      by_cases h1 : B 38 44 = -1
      · rw [if_pos h1]; exact e2
      · rw [if_neg h1, if_pos (by rw [← r1]; exact hlt)]; exact e2
    · rw [s27, s44]
    · rw [s27]; omega
    · intro _
      have hb61 : ∀ j, j < G → B' 61 j = B 60 j := fun j hj => by rw [d2 j (by omega)]; rfl
      refine ⟨fun j hj => ?_, ?_⟩
      · obtain ⟨q1, q2, q3⟩ := hP j hj
        have ea : mcpy (mset A 27 3 x) 29 30 0 0 4 30 j = A 29 j := by rw [mcpy0 (by omega)]; rfl
        rw [ea, hb61 j hj]; exact ⟨q1, q2, q3⟩
      · rw [s45, hp]; exact prS_c G (fun j hj => (hb61 j hj).symm)
    · rw [s27]; exact hx
    · exact agp.x (agp.refl.mset (by rfl)) (agx.refl.mcpy (L := [30]) (by decide)) (by intro c hc j; simp at hc; subst hc; rfl)
    · exact agp.x ((agp.refl.mset (by rfl)).mset (by rfl)) d1 (by intro c hc j; simp at hc; subst hc; rfl)
    · intro j _; rfl
    · intro j _; rw [d1 60 (by decide)]; rfl
  · have ek : f_X8_keepIfBetter x A = some (0, A) := by rw [f_X8_keepIfBetter, if_neg hlt]
    refine ⟨A, B, ?_, ?_, ⟨r1, r2, r3⟩, by omega, agp.refl, agp.refl, fun _ _ => rfl, fun _ _ => rfl⟩
    · rw [f_X8_serve, if_neg (by omega)]; exact ob_I ek rfl
    · rw [f_X10_orders, if_pos (by rw [hB.2.1]), if_neg (by omega), if_neg (by omega)]
theorem oE.trans {A B A1 B1 A2 B2 : Mem} {N G g g2 : Nat} {pr : Nat → Int} (hg : g ≤ g2) (h1 : agp DA A A1 ∧ agp DB B B1 ∧ (∀ j, j < g → A1 29 j = A 29 j) ∧ ∀ j, j < g → B1 60 j = B 60 j) (h2 : oE A1 B1 A2 B2 N G g2 pr) : oE A B A2 B2 N G g pr := by
  obtain ⟨a1, a2, a3, a4⟩ := h1
  obtain ⟨b1, b2, b3, b4, b5, b6⟩ := h2
  exact ⟨b1, b2, a1.trans b3, a2.trans b4, fun j hj => (b5 j (by omega)).trans (a3 j hj), fun j hj => (b6 j (by omega)).trans (a4 j hj)⟩
theorem oR.set {A B : Mem} {N G i : Nat} {x y : Int} {pr : Nat → Int} (h : oR A B N G pr) : oR (mset A 29 i x) (mset B 60 i y) N G pr := h
theorem oP.set {A B : Mem} {N g : Nat} {x : Int} (h : oP A B N g) (h1 : -1 ≤ x) (h2 : x < (N : Int)) : oP (mset A 29 g x) (mset B 60 g x) N (g + 1) := by
  intro j hj
  rw [mset_if, mset_if]
  by_cases e : j = g
  · rw [if_pos e, if_pos e]; exact ⟨rfl, h1, h2⟩
  · rw [if_neg e, if_neg e]; exact h j (by omega)
theorem prS_set {pr : Nat → Int} {B : Mem} {g : Nat} {x : Int} : prS pr (mset B 60 g x 60) (g + 1) = prS pr (B 60) g + prc pr x := by
  rw [show prS pr (mset B 60 g x 60) (g + 1) = prS pr (mset B 60 g x 60) g + prc pr (mset B 60 g x 60 g) from rfl, mset_at, prS_c (g := B 60) g (fun j hj => by rw [mset_i (by omega)])]
theorem oP.of {A B A' B' : Mem} {N g : Nat} (h : oP A B N g) (h1 : ∀ j, j < g → A' 29 j = A 29 j) (h2 : ∀ j, j < g → B' 60 j = B 60 j) : oP A' B' N g := by
  intro j hj
  rw [h1 j hj, h2 j hj]; exact h j hj
theorem serve_go {N G : Nat} {C : Int} {pr : Nat → Int} {v : Nat → Nat → Int} (hN : N ≤ 10) (hG : G ≤ 4) (hC : 0 ≤ C ∧ C ≤ 999) (hpr : ∀ l, l < N → 0 ≤ pr l ∧ pr l ≤ 99) (hv : ∀ g l, -1 ≤ v g l ∧ v g l ≤ 71280) :
    ∀ (d g n1 n2 : Nat) (A B : Mem) (x p : Int), g + d = G → d < n1 → d < n2 → oA A N G pr v → oB B N G C pr v → oR A B N G pr → oP A B N g → 0 ≤ x → x ≤ 71280 * (g : Int) → p = prS pr (B 60) g →
      ∃ A' B', fz_X8_serve n1 (g : Int) (G : Int) (C - p) x A = some (0, A') ∧ fz_X10_orders n2 (g : Int) x p B = some (0, B') ∧ oE A B A' B' N G g pr := by
  intro d
  induction d with
  | zero =>
    intro g n1 n2 A B x p hg h1 h2 hA hB hR hP hx hx2 hp
    obtain ⟨m1, rfl⟩ : ∃ m, n1 = m + 1 := ⟨n1 - 1, by omega⟩
    obtain ⟨m2, rfl⟩ : ∃ m, n2 = m + 1 := ⟨n2 - 1, by omega⟩
    have e : g = G := by omega
    subst e
    exact serve_end hG hB hR hP hx hp
  | succ d ih =>
    intro g n1 n2 A B x p hg h1 h2 hA hB hR hP hx hx2 hp
    obtain ⟨m1, rfl⟩ : ∃ m, n1 = m + 1 := ⟨n1 - 1, by omega⟩
    obtain ⟨m2, rfl⟩ : ∃ m, n2 = m + 1 := ⟨n2 - 1, by omega⟩
    have hpb := prS_b (f := B 60) hpr g (fun j hj => by obtain ⟨q1, q2, q3⟩ := hP j hj; rw [← q1]; exact ⟨q2, q3⟩)
    rw [← hp] at hpb
    have eg : ∀ _ : Unit, w32 ((g : Int) + 1) = ((g + 1 : Nat) : Int) := fun _ => w32_n1 (by omega)
    -- the lines, one by one
    have inner : ∀ (r l f1 f2 : Nat) (A1 B1 : Mem), l + r = N → r < f1 → r < f2 → oA A1 N G pr v → oB B1 N G C pr v → oR A1 B1 N G pr → oP A1 B1 N g → 0 ≤ A1 27 3 → p = prS pr (B1 60) g →
        ∃ A' B', f_X8_serve_L42 (fz_X8_serve m1) (g : Int) (G : Int) (C - p) x f1 (l : Int) A1 = some (0, A') ∧ f_X10_orders_L83 (fz_X10_orders m2) (g : Int) x p f2 (l : Int) B1 = some (0, B') ∧ oE A1 B1 A' B' N G g pr := by
      clear hA hB hR hP hp
      intro r
      induction r with
      | zero =>
        intro l f1 f2 A1 B1 hl hf1 hf2 hA hB hR hP hz hp
        obtain ⟨k1, rfl⟩ : ∃ m, f1 = m + 1 := ⟨f1 - 1, by omega⟩
        obtain ⟨k2, rfl⟩ : ∃ m, f2 = m + 1 := ⟨f2 - 1, by omega⟩
        refine ⟨A1, B1, ?_, ?_, hR, hz, agp.refl, agp.refl, fun _ _ => rfl, fun _ _ => rfl⟩
        · rw [f_X8_serve_L42, if_neg (by rw [hA.1]; omega)]
        · rw [f_X10_orders_L83, if_neg (by rw [hB.1]; omega)]
      | succ r ihr =>
        intro l f1 f2 A1 B1 hl hf1 hf2 hA hB hR hP hz hp
        obtain ⟨k1, rfl⟩ : ∃ m, f1 = m + 1 := ⟨f1 - 1, by omega⟩
        obtain ⟨k2, rfl⟩ : ∃ m, f2 = m + 1 := ⟨f2 - 1, by omega⟩
        have hl2 : l < N := by omega
        have el : ∀ _ : Unit, w32 ((l : Int) + 1) = ((l + 1 : Nat) : Int) := fun _ => w32_n1 (by omega)
        have a28 : ∀ _ : Unit, rd 40 (A1 28) (w32 (w32 ((g : Int) * 10) + (l : Int))) = v g l := fun _ => by rw [w10' (by omega) (by omega), rd_n (by omega)]; exact hA.2.2 g (by omega) l hl2
        have a5 : ∀ _ : Unit, f_X3_priceOf (l : Int) A1 = pr l := fun _ => by rw [f_X3_priceOf, rd_n (by omega)]; exact hA.2.1 l hl2
        have b59 : B1 59 (10 * g + l) = v g l := hB.2.2.2.2 g (by omega) l hl2
        have b40 : B1 40 l = pr l := hB.2.2.2.1 l hl2
        have hvl := hv g l
        have hpl := hpr l hl2
        have hrg : (0 : Int) ≤ ((10 * g + l : Nat) : Int) ∧ ((10 * g + l : Nat) : Int) < 40 := ⟨by omega, by omega⟩
        have hrl : (0 : Int) ≤ (l : Int) ∧ (l : Int) < 10 := ⟨by omega, by omega⟩
        have hrgg : (0 : Int) ≤ (g : Int) ∧ (g : Int) < 4 := ⟨by omega, by omega⟩
        have hcl : (l : Int) < A1 3 3 := by rw [hA.1]; omega
        have hcl2 : (l : Int) < B1 38 0 := by rw [hB.1]; omega
        have ewp : ∀ _ : Unit, w32 (p + pr l) = p + pr l := fun _ => w32_id (by omega) (by omega)
        have skipA : v g l = -1 ∨ C - p < pr l → f_X8_serve_L42 (fz_X8_serve m1) (g : Int) (G : Int) (C - p) x (k1 + 1) (l : Int) A1 = f_X8_serve_L42 (fz_X8_serve m1) (g : Int) (G : Int) (C - p) x k1 ((l + 1 : Nat) : Int) A1 := by
          intro q
          rw [f_X8_serve_L42, if_pos hcl, a28 (), a5 (), el ()]
          by_cases q1 : v g l = -1
          · rw [if_pos q1]
          · rw [if_neg q1, if_pos (q.resolve_left q1)]
        have skipB : v g l = -1 ∨ C - p < pr l → f_X10_orders_L83 (fz_X10_orders m2) (g : Int) x p (k2 + 1) (l : Int) B1 = f_X10_orders_L83 (fz_X10_orders m2) (g : Int) x p k2 ((l + 1 : Nat) : Int) B1 := by
          intro q
          rw [f_X10_orders_L83, if_pos hcl2, w10 (by omega) (by omega), if_pos hrg, Int.toNat_natCast, b59, el ()]
          by_cases q1 : v g l = -1
          · rw [if_pos (by rw [q1]; decide)]
          · have q2 := q.resolve_left q1
            rw [if_neg (by omega), if_pos hrl, Int.toNat_natCast, b40, ewp (), hB.2.2.1, if_pos (by omega)]
        by_cases hs : v g l = -1 ∨ C - p < pr l
        · rw [skipA hs, skipB hs]
          exact ihr (l + 1) k1 k2 A1 B1 (by omega) (by omega) (by omega) hA hB hR hP hz hp
        · have q1 : ¬ v g l = -1 := fun q => hs (Or.inl q)
          have q2 : ¬ C - p < pr l := fun q => hs (Or.inr q)
          have q3 : 0 ≤ v g l := by omega
          have exv : ∀ _ : Unit, w32 (x + v g l) = x + v g l := fun _ => w32_id (by omega) (by omega)
          have ecp : ∀ _ : Unit, w32 (C - p - pr l) = C - (p + pr l) := fun _ => by rw [w32_id (by omega) (by omega)]; omega
          have hP2 := hP.set (x := (l : Int)) (by omega) (by omega)
          have hA2 : oA (mset A1 29 g (l : Int)) N G pr v := hA.of (agp.refl.mset (by rfl))
          have hB2 : oB (mset B1 60 g (l : Int)) N G C pr v := hB.of (agp.refl.mset (by rfl))
          have hpp : p + pr l = prS pr (mset B1 60 g (l : Int) 60) (g + 1) := by
            rw [prS_set, ← hp]
            unfold prc
            rw [if_neg (by omega), Int.toNat_natCast]
          obtain ⟨A2, B2, e1, e2, e3⟩ := ih (g + 1) m1 m2 (mset A1 29 g (l : Int)) (mset B1 60 g (l : Int)) (x + v g l) (p + pr l) (by omega) (by omega) (by omega) hA2 hB2 (oR.set hR) hP2 (by omega) (by omega) hpp
          have h5 := oE.trans (A := A1) (B := B1) (g := g) (Nat.le_succ g) ⟨agp.refl.mset (by rfl), agp.refl.mset (by rfl), fun j hj => mset_i (by omega), fun j hj => mset_i (by omega)⟩ e3
          obtain ⟨t1, t2, t3, t4, t5, t6⟩ := id h5
          obtain ⟨A3, B3, f1, f2, f3⟩ := ihr (l + 1) k1 k2 A2 B2 (by omega) (by omega) (by omega) (hA.of t3) (hB.of t4) t1 (hP.of t5 t6) t2 (by rw [hp]; exact prS_c g (fun j hj => (t6 j hj).symm))
          refine ⟨A3, B3, ?_, ?_, oE.trans (Nat.le_refl g) ⟨t3, t4, t5, t6⟩ f3⟩
          · rw [f_X8_serve_L42, if_pos hcl, a28 (), a5 (), el (), if_neg q1, if_neg q2, eg (), ecp (), exv (), show wr A1 29 4 (g : Int) (l : Int) = mset A1 29 g (l : Int) from wr_n (by omega)]
            exact ob_I e1 f1
          · have c59 : mset B1 60 g (l : Int) 59 (10 * g + l) = v g l := b59
            have c40 : mset B1 60 g (l : Int) 40 l = pr l := b40
            rw [f_X10_orders_L83, if_pos hcl2, w10 (by omega) (by omega), if_pos hrg, Int.toNat_natCast, Int.toNat_natCast, Int.toNat_natCast, b59, if_neg (by omega), if_pos hrl, b40, ewp (), hB.2.2.1, if_neg (by omega), if_pos hrgg, if_pos hrg, if_pos hrl, c59, c40, exv (), ewp (), eg (), el ()]
            exact ob_I e2 f2
    -- none first
    have hA2 : oA (mset A 29 g (-1)) N G pr v := hA.of (agp.refl.mset (by rfl))
    have hB2 : oB (mset B 60 g (-1)) N G C pr v := hB.of (agp.refl.mset (by rfl))
    have hP2 := hP.set (x := -1) (by omega) (by omega)
    have hpp : p = prS pr (mset B 60 g (-1) 60) (g + 1) := by
      rw [prS_set, ← hp]
      unfold prc
      rw [if_pos rfl, Int.add_zero]
    obtain ⟨A2, B2, e1, e2, e3⟩ := ih (g + 1) m1 m2 (mset A 29 g (-1)) (mset B 60 g (-1)) x p (by omega) (by omega) (by omega) hA2 hB2 (oR.set hR) hP2 hx (by omega) hpp
    have h5 := oE.trans (A := A) (B := B) (g := g) (Nat.le_succ g) ⟨agp.refl.mset (by rfl), agp.refl.mset (by rfl), fun j hj => mset_i (by omega), fun j hj => mset_i (by omega)⟩ e3
    obtain ⟨t1, t2, t3, t4, t5, t6⟩ := id h5
    obtain ⟨A3, B3, f1, f2, f3⟩ := inner N 0 100000 100000 A2 B2 (by omega) (by omega) (by omega) (hA.of t3) (hB.of t4) t1 (hP.of t5 t6) t2 (by rw [hp]; exact prS_c g (fun j hj => (t6 j hj).symm))
    refine ⟨A3, B3, ?_, ?_, oE.trans (Nat.le_refl g) ⟨t3, t4, t5, t6⟩ f3⟩
    · show f_X8_serve (fz_X8_serve m1) (g : Int) (G : Int) (C - p) x A = _
      rw [f_X8_serve, if_pos (by omega), if_pos (by omega), eg (), show wr A 29 4 (g : Int) (-1) = mset A 29 g (-1) from wr_n (by omega)]
      exact ob_I e1 f1
    · show f_X10_orders (fz_X10_orders m2) (g : Int) x p B = _
      rw [f_X10_orders, if_neg (by rw [hB.2.1]; omega), if_pos ⟨by omega, by omega⟩, eg (), Int.toNat_natCast]
      exact ob_I e2 f2
/-- the class's plan and the reference's -/
theorem c_spent {A : Mem} {N G : Nat} {pr : Nat → Int} {v : Nat → Nat → Int} (hA : oA A N G pr v) (hN : N ≤ 10) (hG : G ≤ 4) (hpr : ∀ l, l < N → 0 ≤ pr l ∧ pr l ≤ 99) (hb : ∀ j, j < G → -1 ≤ A 30 j ∧ A 30 j < (N : Int)) :
    ∃ A', f_X8_plan_L22 (G : Int) 100000 0 (mset A 27 4 0) = some (0, A') ∧ agp (dd [] [(27, 4)]) A A' ∧ A' 27 4 = prS pr (A 30) G := by
  obtain ⟨n, A', e, g1, g2⟩ := loopN (N := G) (F := fun n i (M2 : Mem) => f_X8_plan_L22 (G : Int) n (i : Int) M2) (P := fun i M2 => agp (dd [] [(27, 4)]) A M2 ∧ M2 27 4 = prS pr (A 30) i) (by
    intro n i M2 hi hP
    obtain ⟨p1, p2⟩ := hP
    obtain ⟨b1, b2⟩ := hb i hi
    have hs := prS_b hpr i (fun j hj => hb j (by omega))
    have hc := prc_b hpr b1 b2
    have e30 : rd 4 (M2 30) (i : Int) = A 30 i := by rw [rd_n (by omega), p1.c 30]
    have es : prS pr (A 30) (i + 1) = prS pr (A 30) i + prc pr (A 30 i) := rfl
    refine ⟨mset M2 27 4 (prS pr (A 30) (i + 1)), ?_, p1.mset (by rfl), mset_at _ _ _ _⟩
    show f_X8_plan_L22 (G : Int) (n + 1) (i : Int) M2 = f_X8_plan_L22 (G : Int) n ((i + 1 : Nat) : Int) _
    rw [f_X8_plan_L22, if_pos (by omega), e30, w32_n1 (by omega), p2, es]
    unfold prc at hc ⊢
    by_cases q : A 30 i = -1
    · rw [if_pos q] at hc
      rw [if_pos q, if_pos q, w32_id (by omega) (by omega)]
    · rw [if_neg q] at hc
      have ep : f_X3_priceOf (A 30 i) M2 = pr (A 30 i).toNat := by
        have e5 := hA.2.1 (A 30 i).toNat (by omega)
        have ei : A 30 i = (((A 30 i).toNat : Nat) : Int) := by omega
        rw [f_X3_priceOf, p1.c 5]
        rw [ei, rd_n (by omega), Int.toNat_natCast]
        exact e5
      rw [if_neg q, if_neg q, ep, w32_id (by omega) (by omega)]) G 100000 0 (mset A 27 4 0) (by omega) (by omega) ⟨agp.refl.mset (by rfl), mset_at _ _ _ _⟩
  have e : f_X8_plan_L22 (G : Int) 100000 0 (mset A 27 4 0) = f_X8_plan_L22 (G : Int) (n + 1) ((G : Nat) : Int) A' := e
  exact ⟨A', by rw [e, f_X8_plan_L22, if_neg (by omega)], g1, g2⟩
/-- tonight, of both -/
theorem tonight {M : Mem} (h : Inv M) (c : CH M) : ∃ A B, f_X9_planTonight M = some (0, A) ∧ Inv A ∧ CH A ∧ agq M A ∧ f_X10_tonight A = some (0, B) ∧ agr A B ∧ A 27 3 = B 38 44 ∧ A 27 4 = B 38 45 ∧ ∀ j, j < gn M → A 30 j = B 61 j := by
  obtain ⟨g1, g2, g3, g4, g5, g6, g7⟩ := h.2.2.1
  have l2 := h.1.1.2.1
  obtain ⟨M1, e1, a1, v1⟩ := c_planO (K := fun M224 => ob (f_X8_plan (M224 0 9) (M224 0 10) M224) fun r225 M226 => some (0, M226)) h c
  have hq1 : agq M M1 := agq.of a1 (by decide)
  have hpr : ∀ l, l < ln M → 0 ≤ PR M l ∧ PR M l ≤ 99 := fun l hl => (h.1.1.2.2 l (by omega)).2.2.2
  have hA1 : oA M1 (ln M) (gn M) (PR M) (lv M) := ⟨by rw [a1 3 (by decide), h.2.1.1.1, h.1.1.1], fun l hl => by rw [a1 5 (by decide), (h.2.1.1.2.1 l (by omega)).2]; rfl, v1⟩
  -- the reference's liking, over the memory behind the class's whole plan, is told of any memory that agrees
  obtain ⟨MB, eB, aB, vB⟩ := r_likes h
  have hB1 : oB (mset MB 38 44 (-1)) (ln M) (gn M) (M 38 5) (PR M) (lv M) := ⟨by rw [mset_i (by decide), aB.s 0, h.1.1.1], by rw [mset_i (by decide), aB.s 3, g2], by rw [mset_i (by decide), aB.s 5], fun l _ => by rw [mset_c (by decide), aB.c 40 (by decide)]; rfl, fun g hg l hl => by rw [mset_c (by decide)]; exact vB g hg l hl⟩
  have hR1 : oR (mset M1 27 3 (-1)) (mset MB 38 44 (-1)) (ln M) (gn M) (PR M) := ⟨rfl, by show (-1 : Int) ≤ -1; omega, fun q => absurd (show (0 : Int) ≤ -1 from q) (by decide)⟩
  have hA2 : oA (mset M1 27 3 (-1)) (ln M) (gn M) (PR M) (lv M) := hA1.of (agp.refl.mset (by rfl))
  obtain ⟨A2, B2, s1, s2, s3, s4, s5, s6, s7, s8⟩ := serve_go l2 g3 ⟨g6, g7⟩ hpr (lv_b M) (gn M) 0 6 6 (mset M1 27 3 (-1)) (mset MB 38 44 (-1)) 0 0 (by omega) (by omega) (by omega) hA2 hB1 hR1 (fun j hj => absurd hj (Nat.not_lt_zero _)) (by omega) (by omega) rfl
  obtain ⟨r1, r2, r3⟩ := s3
  obtain ⟨r4, r5⟩ := r3 s4
  obtain ⟨A3, t1, t2, t3⟩ := c_spent (hA2.of s5) l2 g3 hpr (fun j hj => (r4 j hj).2)
  have c09 : M1 0 9 = (gn M : Int) := by rw [a1 0 (by decide), g1, g2]
  have c010 : M1 0 10 = M 38 5 := by rw [a1 0 (by decide), g5]
  have hplan : f_X8_plan (M1 0 9) (M1 0 10) M1 = some (0, A3) := by
    rw [f_X8_plan, c09, c010]
    have s1' : fz_X8_serve 6 0 (gn M : Int) (M 38 5) 0 (mset M1 27 3 (-1)) = some (0, A2) := by
      have := s1
      rw [Int.sub_zero] at this
      exact this
    exact ob_I s1' t1
  have hqA : agq M1 A3 := by
    intro cc j hj
    have hne : ¬ (19 ≤ cc ∧ cc ≤ 30) := by
      intro q
      unfold SQ at hj
      rw [Bool.or_eq_false_iff, Bool.or_eq_false_iff] at hj
      have := hj.1.2
      rw [decide_eq_true q.1, decide_eq_true q.2] at this
      cases this
    have k1 : A3 cc j = A2 cc j := t2 cc j (by unfold dd; simp; omega)
    have k2 : A2 cc j = mset M1 27 3 (-1) cc j := s5 cc j (by unfold DA dd; simp; omega)
    rw [k1, k2, mset_c (by omega)]
  have hcA : ∀ cc, 21 ≤ cc → cc ≤ 24 → A3 cc = M1 cc := fun cc q1 q2 => by
    funext j
    have k1 : A3 cc j = A2 cc j := t2 cc j (by unfold dd; simp; omega)
    have k2 : A2 cc j = mset M1 27 3 (-1) cc j := s5 cc j (by unfold DA dd; simp; omega)
    rw [k1, k2, mset_c (by omega)]
  have hC1 : CH M1 := c.of hq1 a1 (by decide)
  have hC3 : CH A3 := by
    obtain ⟨x1, x2, x3⟩ := hqA.eCH0
    unfold CH
    rw [x1, x2, x3, hqA.eln, hqA.ehd, hcA 21 (by decide) (by decide), hcA 22 (by decide) (by decide), hcA 23 (by decide) (by decide), hcA 24 (by decide) (by decide)]
    exact hC1
  have hqM : agq M A3 := hq1.trans hqA
  have hI3 : Inv A3 := h.q hqM (fun _ => hC3)
  -- the reference over that memory
  obtain ⟨MC, eC, aC, vC⟩ := r_likes hI3
  have hlv : lv A3 = lv M := by funext g l; unfold lv; rw [hqM.eq0.2.1, hqM.eq0.2.2.2]
  rw [hqM.egn, hqM.eln, hlv] at vC
  have hB3 : oB (mset MC 38 44 (-1)) (ln M) (gn M) (M 38 5) (PR M) (lv M) := ⟨by rw [mset_i (by decide), aC.s 0, hqM.s 0, h.1.1.1], by rw [mset_i (by decide), aC.s 3, hqM.s 3, g2], by rw [mset_i (by decide), aC.s 5, hqM.s 5], fun l _ => by rw [mset_c (by decide), aC.c 40 (by decide), hqM.c 40 (by decide)]; rfl, fun g hg l hl => by rw [mset_c (by decide)]; exact vC g hg l hl⟩
  have hR3 : oR (mset M1 27 3 (-1)) (mset MC 38 44 (-1)) (ln M) (gn M) (PR M) := ⟨rfl, by show (-1 : Int) ≤ -1; omega, fun q => absurd (show (0 : Int) ≤ -1 from q) (by decide)⟩
  obtain ⟨A4, B4, u1, u2, u3, u4, u5, u6, u7, u8⟩ := serve_go l2 g3 ⟨g6, g7⟩ hpr (lv_b M) (gn M) 0 6 6 (mset M1 27 3 (-1)) (mset MC 38 44 (-1)) 0 0 (by omega) (by omega) (by omega) hA2 hB3 hR3 (fun j hj => absurd hj (Nat.not_lt_zero _)) (by omega) (by omega) rfl
  have eA : A4 = A2 := by
    rw [s1] at u1
    cases u1
    rfl
  subst eA
  obtain ⟨w1, w2, w3⟩ := u3
  obtain ⟨w4, w5⟩ := w3 u4
  have haB : agr A3 B4 := by
    intro cc j hj
    have k1 : B4 cc j = mset MC 38 44 (-1) cc j := u6 cc j (by
      unfold DB dd
      unfold SR at hj
      simp at hj ⊢
      obtain ⟨q1, q2⟩ := hj
      by_cases e : cc = 38
      · subst e; have := q1 rfl; simp at this ⊢; omega
      · simp [e]; omega)
    rw [k1]
    by_cases e : cc = 38
    · subst e
      rw [mset_i (fun q => by subst q; cases hj)]
      exact aC 38 j hj
    · rw [mset_c e]; exact aC cc j hj
  refine ⟨A3, B4, ?_, hI3, hC3, hqM, ?_, haB, ?_, ?_, ?_⟩
  · rw [f_X9_planTonight, e1]; exact ob_I hplan rfl
  · rw [f_X10_tonight]
    refine ob_I eC ?_
    exact ob_I u2 rfl
  · rw [t2.p 27 3]; exact w1
  · rw [t3, w5]; exact prS_c _ (fun j hj => (w4 j hj).1)
  · intro j hj
    rw [t2.c 30]; exact (w4 j hj).1
theorem op_order {M : Mem} (h : Inv M) (x : Int) : OK2 (f_X9_order x) (f_X10_order x) M := by
  rcases isg_n h (x := x) with h0 | ⟨g, rfl, hg, hg2, h0⟩
  · exact OK2.no h (by rw [f_X9_order, if_pos h0]) (by rw [f_X10_order, isg_e h, if_pos h0])
  obtain ⟨M1, e1, a1, i1, c1, z1⟩ := h.fit
  obtain ⟨A, B, t1, t2, t3, t4, t5, t6, t7, t8, t9⟩ := tonight i1 c1
  refine ⟨A 30 g, A, B, ?_, ?_, t2.rq t3 t6⟩
  · rw [f_X9_order, if_neg h0]
    exact ob_I e1 (ob_I t1 (by rw [rd_n hg2]))
  · rw [f_X10_order, rguest_n (a1.trans t4) t2, if_neg h0]
    refine ob_I t5 ?_
    rw [if_pos ⟨by omega, by omega⟩, Int.toNat_natCast, t9 g (by rw [a1.egn]; exact hg)]
theorem op_ordered {M : Mem} (h : Inv M) (x : Int) : OK2 (f_X9_ordered x) (f_X10_ordered x) M := by
  by_cases h0 : f_X9_within x 0 1 = 0
  · exact OK2.no h (by rw [f_X9_ordered, if_pos h0]) (by rw [f_X10_ordered, in_w, if_pos h0])
  obtain ⟨M1, e1, a1, i1, c1, z1⟩ := h.fit
  obtain ⟨A, B, t1, t2, t3, t4, t5, t6, t7, t8, t9⟩ := tonight i1 c1
  refine ⟨if x = 0 then A 27 3 else A 27 4, A, B, ?_, ?_, t2.rq t3 t6⟩
  · rw [f_X9_ordered, if_neg h0]
    refine ob_I e1 (ob_I t1 ?_)
    by_cases hx : x = 0
    · rw [if_pos hx, if_pos hx]
    · rw [if_neg hx, if_neg hx]
  · rw [f_X10_ordered, in_w, if_neg h0]
    refine ob_I t5 ?_
    rw [← t7, ← t8]
    by_cases hx : x = 0
    · rw [if_pos hx, if_pos hx]
    · rw [if_neg hx, if_neg hx]
