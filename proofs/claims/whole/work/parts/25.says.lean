def pcA (x i : Nat) : Nat := (List.range i).foldl (fun s k => s + (x >>> k) % 2) 0
theorem pcA_s (x i : Nat) : pcA x (i + 1) = pcA x i + (x >>> i) % 2 := by unfold pcA; rw [List.range_succ, List.foldl_append]; rfl
theorem pcA_le (x : Nat) : ∀ i : Nat, pcA x i ≤ i := by
  intro i
  induction i with
  | zero => exact Nat.le_refl _
  | succ i ih => rw [pcA_s]; omega
theorem r_ones {x : Nat} (hx : x < 1024) : f_X10_ones (x : Int) = some ((popc x : Nat) : Int) := by
  unfold f_X10_ones
  obtain ⟨n, st, e, h⟩ := loopN (N := 12) (F := fun n i (st : Int) => f_X10_ones_L4 (x : Int) n st (i : Int)) (P := fun i st => st = ((pcA x i : Nat) : Int)) (by
    intro n i st hi hP
    subst hP
    refine ⟨((pcA x (i + 1) : Nat) : Int), ?_, rfl⟩
    have hle := pcA_le x i
    show f_X10_ones_L4 (x : Int) (n + 1) _ (i : Int) = _
    rw [f_X10_ones_L4, if_pos (by omega), r_bit hx hi, w32_n1 (by omega), w32_id (by omega) (by omega), pcA_s, Int.natCast_add (pcA x i)]) 12 100000 0 0 rfl (by decide) rfl
  have e : f_X10_ones_L4 (x : Int) 100000 0 0 = f_X10_ones_L4 (x : Int) (n + 1) st ((12 : Nat) : Int) := e
  rw [e, f_X10_ones_L4, if_neg (by decide), h]
  rfl
/-- the value of a part, of the codes -/
theorem r_worth {M : Mem} {t p : Nat} {nm : Nat → Int} (ht : t < 6) (hp : p < 3) (hr : M 38 14 = (t : Int)) (hX : TX M t) (hnm : ∀ j : Nat, j < 6 → M 55 j = nm j) :
    ∃ M', f_X10_worth (p : Int) M = some (evs (txc M t) nm (txb M t (p + 1) - txb M t p) (txb M t p) 0 (fun _ => 0) 0, M') ∧ agx [54] M M' := by
  obtain ⟨x1, x2, x3, x4, x5⟩ := hX p hp
  obtain ⟨M', e, h⟩ := r_worthL (cs := txc M t) ht hp hr x2 x4 (fun i => rfl) hnm (txb M t (p + 1) - txb M t p) (txb M t p) 0 (fun _ => 0) 100000 M (by omega) (by omega) x5 (by omega) (fun j hj => absurd hj (Nat.not_lt_zero _)) agx.refl
  have hA : w32 (w32 (4 * M 38 14) + (p : Int)) = ((4 * t + p : Nat) : Int) := by
    rw [hr, w32_id (z := 4 * (t : Int)) (by omega) (by omega), w32_id (by omega) (by omega)]; omega
  refine ⟨M', ?_, h⟩
  rw [f_X10_worth, hA, if_pos ⟨by omega, by omega⟩, Int.toNat_natCast, x1]
  exact e
theorem clm_w1 (v : Int) : f_X10_within v 0 99 = clm 1 v := by
  unfold f_X10_within clm
  simp
theorem clm_w2 (v : Int) : f_X10_within v 0 999 = clm 2 v := by
  unfold f_X10_within clm
  simp
theorem r_asksOf {M : Mem} {t p l set : Nat} {price guest left : Int} (ht : t < 6) (hp : p < 3) (hr : M 38 14 = (t : Int)) (hX : TX M t) (hl : l < 10) (hs : set < 1024) (hpr : M 40 l = price) :
    ∃ M', f_X10_asksOf (p : Int) (l : Int) (set : Int) guest left M = some (sy M t p price (set : Int) (l : Int) guest left, M') ∧ agx [54, 55] M M' := by
  have hnm : ∀ j : Nat, j < 6 → (mset (mset (mset (mset (mset (mset M 55 0 price) 55 1 (set : Int)) 55 2 (l : Int)) 55 3 ((popc set : Nat) : Int)) 55 4 guest) 55 5 left) 55 j = nmf price (set : Int) (l : Int) ((popc set : Nat) : Int) guest left j := by
    intro j hj
    match j, hj with
    | 0, _ => rfl
    | 1, _ => rfl
    | 2, _ => rfl
    | 3, _ => rfl
    | 4, _ => rfl
    | 5, _ => rfl
    | j + 6, h => omega
  have hag : agx [55] M (mset (mset (mset (mset (mset (mset M 55 0 price) 55 1 (set : Int)) 55 2 (l : Int)) 55 3 ((popc set : Nat) : Int)) 55 4 guest) 55 5 left) :=
    (((((agx.refl.mset (by decide)).mset (by decide)).mset (by decide)).mset (by decide)).mset (by decide)).mset (by decide)
  generalize hM1 : (mset (mset (mset (mset (mset (mset M 55 0 price) 55 1 (set : Int)) 55 2 (l : Int)) 55 3 ((popc set : Nat) : Int)) 55 4 guest) 55 5 left) = M1 at hnm hag
  have e45 : txc M1 t = txc M t := by funext i; unfold txc; rw [hag 45 (by decide)]
  have e46 : txb M1 t = txb M t := by funext i; unfold txb; rw [hag 46 (by decide)]
  have hX1 : TX M1 t := by
    intro q hq
    obtain ⟨x1, x2, x3⟩ := hX q hq
    rw [e45, e46, hag 46 (by decide)]
    exact ⟨x1, x2, x3⟩
  obtain ⟨M', e, h⟩ := r_worth ht hp (by rw [hag 38 (by decide)]; exact hr) hX1 hnm
  rw [e45, e46] at e
  refine ⟨M', ?_, (hag.mono (by decide)).trans (h.mono (by decide))⟩
  rw [f_X10_asksOf, if_pos ⟨by omega, by omega⟩, r_ones hs, Option.bind_some, Int.toNat_natCast, hpr, hM1]
  refine ob_I e ?_
  unfold sy
  rw [Int.toNat_natCast]
  generalize evs (txc M t) (nmf price (set : Int) (l : Int) ((popc set : Nat) : Int) guest left) (txb M t (p + 1) - txb M t p) (txb M t p) 0 (fun _ => 0) 0 = v
  match p, hp with
  | 0, _ =>
    rw [if_pos (by decide)]
    unfold clm
    rw [if_pos rfl]
    by_cases hv : v = 0
    · rw [if_pos hv, if_pos hv]
    · rw [if_neg hv, if_neg hv]
  | 1, _ => rw [if_neg (by decide), if_pos (by decide), clm_w1]
  | 2, _ => rw [if_neg (by decide), if_neg (by decide), clm_w2]
  | p + 3, h => omega
