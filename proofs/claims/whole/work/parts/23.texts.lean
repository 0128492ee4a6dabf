/-! what a part of a text says: the codes from a place on, over a stack -/
def bo (code a b : Int) : Int := f_X10_bothOf code a b
def evs (c : Nat → Int) (nm : Nat → Int) : Nat → Nat → Nat → (Nat → Int) → (Nat → Int)
  | 0, _, _, st => st
  | k + 1, i, d, st =>
    if c i < 11 then evs c nm k (i + 1) (d + 1) (fun j => if j = d then nm (c i).toNat else st j)
    else if 100000 ≤ c i then evs c nm k (i + 1) (d + 1) (fun j => if j = d then c i - 100000 else st j)
    else if c i = 13 then evs c nm k (i + 1) d (fun j => if j = d - 1 then (if st (d - 1) = 0 then 1 else 0) else st j)
    else if c i = 19 then evs c nm k (i + 1) d (fun j => if j = d - 1 then w32 (-(st (d - 1))) else st j)
    else evs c nm k (i + 1) (d - 1) (fun j => if j = d - 2 then bo (c i) (st (d - 2)) (st (d - 1)) else st j)
/-- each code can be worked at its place, and one value is left -/
def wfc (c : Nat → Int) : Nat → Nat → Nat → Prop
  | 0, _, d => d = 1
  | k + 1, i, d =>
    ((0 ≤ c i ∧ c i < 6 ∨ 100000 ≤ c i ∧ c i < 110000) ∧ d + 1 ≤ 31 ∧ wfc c k (i + 1) (d + 1)) ∨
    ((c i = 13 ∨ c i = 19) ∧ 1 ≤ d ∧ wfc c k (i + 1) d) ∨
    ((c i = 11 ∨ c i = 12 ∨ 14 ≤ c i ∧ c i ≤ 18) ∧ 2 ≤ d ∧ wfc c k (i + 1) (d - 1))
/-- a step of the class, a code of the reference -/
def cvr (s c : Int) : Prop :=
  (0 ≤ c ∧ c < 6 ∧ s = 300 + c) ∨ (100000 ≤ c ∧ c < 110000 ∧ s = c - 99000) ∨ (s = 261 ∧ c = 13) ∨ (s = 262 ∧ c = 19) ∨ (s = 259 ∧ c = 11) ∨ (s = 260 ∧ c = 12) ∨ (s = 60 ∧ c = 14) ∨ (s = 61 ∧ c = 15) ∨ (s = 43 ∧ c = 16) ∨ (s = 45 ∧ c = 17) ∨ (s = 42 ∧ c = 18)
/-- the texts of the reference: a text's codes, where its parts begin -/
def txc (M : Mem) (t : Nat) : Nat → Int := fun i => M 45 (200 * t + i)
def txb (M : Mem) (t p : Nat) : Nat := (M 46 (4 * t + p)).toNat
def nmf (price set place ones guest left : Int) : Nat → Int := fun k => match k with
  | 0 => price
  | 1 => set
  | 2 => place
  | 3 => ones
  | 4 => guest
  | _ => left
def clm (p : Nat) (v : Int) : Int := if p = 0 then (if v = 0 then 0 else 1) else (if v < 0 then 0 else if (if p = 1 then 99 else 999) < v then (if p = 1 then 99 else 999) else v)
/-- what part p of text t says -/
def sy (M : Mem) (t p : Nat) (price set place guest left : Int) : Int :=
  clm p (evs (txc M t) (nmf price set place ((popc set.toNat : Nat) : Int) guest left) (txb M t (p + 1) - txb M t p) (txb M t p) 0 (fun _ => 0) 0)
/-- a sound text -/
def TX (M : Mem) (t : Nat) : Prop := ∀ p : Nat, p < 3 → M 46 (4 * t + p) = ((txb M t p : Nat) : Int) ∧ M 46 (4 * t + p + 1) = ((txb M t (p + 1) : Nat) : Int) ∧ txb M t p ≤ txb M t (p + 1) ∧ txb M t (p + 1) ≤ 160 ∧ wfc (txc M t) (txb M t (p + 1) - txb M t p) (txb M t p) 0
theorem r_worthL {M0 : Mem} {t p : Nat} {nm : Nat → Int} (ht : t < 6) (hp : p < 3) (hX : TX M0 t) (hr : M0 38 14 = (t : Int)) (hnm : ∀ j : Nat, j < 6 → M0 55 j = nm j) :
    ∀ (k i d : Nat) (st : Nat → Int) (fuel : Nat) (M : Mem), i + k = txb M0 t (p + 1) → k < fuel → wfc (txc M0 t) k i d → d ≤ 31 → (∀ j : Nat, j < d → M 54 j = st j) → agx [54] M0 M →
      ∃ M', f_X10_worth_L16 (p : Int) fuel (d : Int) (i : Int) M = some (evs (txc M0 t) nm k i d st 0, M') ∧ agx [54] M0 M' := by
  obtain ⟨x1, x2, x3, x4, x5⟩ := hX p hp
  have e1 : w32 (w32 (w32 (4 * (t : Int)) + (p : Int)) + 1) = ((4 * t + p + 1 : Nat) : Int) := by
    rw [w32_id (z := 4 * (t : Int)) (by omega) (by omega), w32_id (z := 4 * (t : Int) + (p : Int)) (by omega) (by omega), w32_id (by omega) (by omega)]; omega
  intro k
  induction k with
  | zero =>
    intro i d st fuel M hi hf hw hd hst hM
    obtain ⟨n, rfl⟩ : ∃ n, fuel = n + 1 := ⟨fuel - 1, by omega⟩
    rw [f_X10_worth_L16, hM 38 (by decide), hr, e1, if_pos ⟨by omega, by omega⟩, Int.toNat_natCast, hM 46 (by decide), x2, if_neg (by omega)]
    have hd1 : d = 1 := hw
    exact ⟨M, by rw [hst 0 (by omega)]; rfl, hM⟩
  | succ k ih =>
    intro i d st fuel M hi hf hw hd hst hM
    obtain ⟨n, rfl⟩ : ∃ n, fuel = n + 1 := ⟨fuel - 1, by omega⟩
    have e2 : w32 (w32 (200 * (t : Int)) + (i : Int)) = ((200 * t + i : Nat) : Int) := by
      rw [w32_id (z := 200 * (t : Int)) (by omega) (by omega), w32_id (by omega) (by omega)]; omega
    have hcode : M 45 (200 * t + i) = txc M0 t i := by rw [hM 45 (by decide)]; rfl
    have h55 : ∀ j : Nat, j < 6 → M 55 j = nm j := fun j hj => by rw [hM 55 (by decide)]; exact hnm j hj
    rw [f_X10_worth_L16, hM 38 (by decide), hr, e1, if_pos ⟨by omega, by omega⟩, Int.toNat_natCast, hM 46 (by decide), x2, if_pos (by omega), e2, if_pos ⟨by omega, by omega⟩, Int.toNat_natCast, hcode, w32_n1 (a := i) (by omega)]
    have key : ∀ (v : Int) (d' j : Nat) (st' : Nat → Int), d' ≤ 31 → wfc (txc M0 t) k (i + 1) d' → (∀ q : Nat, q < d' → mset M 54 j v 54 q = st' q) → ∃ M', f_X10_worth_L16 (p : Int) n (d' : Int) ((i + 1 : Nat) : Int) (mset M 54 j v) = some (evs (txc M0 t) nm k (i + 1) d' st' 0, M') ∧ agx [54] M0 M' := fun v d' j st' h1 h2 h3 => ih (i + 1) d' st' n (mset M 54 j v) (by omega) (by omega) h2 h1 h3 (hM.mset (by decide))
    rw [evs]
    rcases hw with ⟨hc, hd2, hw⟩ | ⟨hc, hd2, hw⟩ | ⟨hc, hd2, hw⟩
    · rcases hc with ⟨c1, c2⟩ | ⟨c1, c2⟩
      · rw [if_pos (by omega), if_pos (by omega), if_pos (by omega), if_pos ⟨by omega, by omega⟩, if_pos ⟨by omega, by omega⟩, if_pos (by omega), Int.toNat_natCast, h55 _ (by omega), w32_n1 (a := d) (by omega)]
        refine key _ (d + 1) d _ hd2 hw (fun q hq => ?_)
        by_cases hqd : q = d
        · subst hqd; rw [mset_at, if_pos rfl]
        · rw [mset_i hqd, if_neg hqd]; exact hst q (by omega)
      · rw [if_neg (by omega), if_neg (by omega), if_pos ⟨by omega, by omega⟩, if_neg (by omega), if_pos (by omega), Int.toNat_natCast, w32_n1 (a := d) (by omega), w32_id (z := txc M0 t i - 100000) (by omega) (by omega)]
        refine key _ (d + 1) d _ hd2 hw (fun q hq => ?_)
        by_cases hqd : q = d
        · subst hqd; rw [mset_at, if_pos rfl]
        · rw [mset_i hqd, if_neg hqd]; exact hst q (by omega)
    · have e3 : w32 ((d : Int) - 1) = ((d - 1 : Nat) : Int) := by rw [w32_id (by omega) (by omega)]; omega
      rw [if_pos (by omega), if_neg (by omega), e3, Int.toNat_natCast, hst (d - 1) (by omega)]
      have fin : ∀ v : Int, ∀ q : Nat, q < d → mset M 54 (d - 1) v 54 q = (fun j => if j = d - 1 then v else st j) q := by
        intro v q hq
        by_cases hqd : q = d - 1
        · subst hqd; rw [mset_at]; simp
        · rw [mset_i hqd]; simp only [hqd, if_false]; exact hst q hq
      rcases hc with hc | hc
      · rw [if_pos hc, if_pos ⟨by omega, by omega⟩, if_neg (by omega), if_neg (by omega), if_pos hc]
        by_cases hz : st (d - 1) = 0
        · rw [if_pos hz, if_pos ⟨by omega, by omega⟩]
          simp only [hz, if_true]
          exact key 1 d (d - 1) _ hd hw (fin 1)
        · rw [if_neg hz, if_pos ⟨by omega, by omega⟩]
          simp only [hz, if_false]
          exact key 0 d (d - 1) _ hd hw (fin 0)
      · rw [if_neg (by omega), if_pos hc, if_pos ⟨by omega, by omega⟩, if_pos ⟨by omega, by omega⟩, if_neg (by omega), if_neg (by omega), if_neg (by omega), if_pos hc]
        exact key _ d (d - 1) _ hd hw (fin _)
    · have e3 : w32 ((d : Int) + (-1)) = ((d - 1 : Nat) : Int) := by rw [w32_id (by omega) (by omega)]; omega
      have e4 : w32 (((d - 1 : Nat) : Int) - 1) = ((d - 2 : Nat) : Int) := by rw [w32_id (by omega) (by omega)]; omega
      rw [if_pos (by omega), if_neg (by omega), if_neg (by omega), if_neg (by omega), e3, e4, if_pos ⟨by omega, by omega⟩, if_pos ⟨by omega, by omega⟩, if_pos ⟨by omega, by omega⟩, if_neg (by omega), if_neg (by omega), if_neg (by omega), if_neg (by omega), Int.toNat_natCast, Int.toNat_natCast, hst (d - 1) (by omega), hst (d - 2) (by omega)]
      refine key _ (d - 1) (d - 2) _ (by omega) hw (fun q hq => ?_)
      by_cases hqd : q = d - 2
      · subst hqd; rw [mset_at]; simp only [if_true]; rfl
      · rw [mset_i hqd]; simp only [hqd, if_false]; exact hst q (by omega)
