/-! which tongues fit -/
def PR (M : Mem) (l : Nat) : Int := M 40 l
/-- whether line l may have what it has in tongue t -/
def mb (M : Mem) (l set : Nat) : Int := sy M (rl M) 0 (PR M l) (set : Int) (l : Int) 0 0
def lawA (M : Mem) (t i : Nat) : Bool := (List.range i).all (fun l => !(mb M l (hd M l t) == 0))
def lawb (M : Mem) (t : Nat) : Bool := lawA M t (ln M)
theorem lawA_s (M : Mem) (t i : Nat) : lawA M t (i + 1) = (lawA M t i && !(mb M i (hd M i t) == 0)) := by unfold lawA; rw [List.range_succ, List.all_append]; simp
def fits (M : Mem) (t : Nat) : Bool := lawb M t && bk M t == 0
def FTA (M : Mem) (i : Nat) : List Nat := (List.range i).filter (fits M)
def FT (M : Mem) : List Nat := FTA M 720
theorem FTA_s (M : Mem) (i : Nat) : FTA M (i + 1) = if fits M i then FTA M i ++ [i] else FTA M i := by
  unfold FTA; rw [List.range_succ, List.filter_append]
  by_cases h : fits M i = true
  · rw [if_pos h]; simp [h]
  · rw [if_neg h]; simp [h]
theorem FTA_len (M : Mem) : ∀ i : Nat, (FTA M i).length ≤ i := by
  intro i
  unfold FTA
  have h := List.length_filter_le (fits M) (List.range i)
  rwa [List.length_range] at h
theorem FT_len (M : Mem) : (FT M).length ≤ 720 := FTA_len M 720
theorem FT_lt {M : Mem} {t : Nat} (h : t ∈ FT M) : t < 720 := by
  unfold FT FTA at h
  exact List.mem_range.mp (List.mem_filter.mp h).1
/-! the reference's scratch; what a call that only asks leaves -/
def SR (c j : Nat) : Bool := (c == 38 && ([26, 27, 28, 29, 30, 31, 32, 33, 34, 40, 44, 45] : List Nat).contains j) || (decide (53 ≤ c) && decide (c ≤ 62))
def agr (M M' : Mem) : Prop := ∀ c j : Nat, SR c j = false → M' c j = M c j
theorem agr.refl {M : Mem} : agr M M := fun _ _ _ => rfl
theorem agr.trans {M M1 M2 : Mem} (h1 : agr M M1) (h2 : agr M1 M2) : agr M M2 := fun c j h => (h2 c j h).trans (h1 c j h)
theorem agr.mset {M M1 : Mem} (h : agr M M1) {c i : Nat} {v : Int} (hc : SR c i = true) : agr M (mset M1 c i v) := fun d j hd => by
  by_cases e : d = c
  · subst e
    by_cases e2 : j = i
    · subst e2; rw [hc] at hd; cases hd
    · rw [mset_i e2]; exact h _ j hd
  · rw [mset_c e]; exact h d j hd
theorem agr.c {M M' : Mem} (h : agr M M') (c : Nat) (hc : c < 38 ∨ 38 < c ∧ c < 53) : M' c = M c := by
  funext j
  refine h c j ?_
  unfold SR
  have e1 : (c == 38) = false := by simp; omega
  have e2 : (decide (53 ≤ c) && decide (c ≤ 62)) = false := by simp; omega
  rw [e1, e2]; rfl
theorem agr.s {M M' : Mem} (h : agr M M') (j : Nat) (hj : SR 38 j = false := by decide) : M' 38 j = M 38 j := h 38 j hj
theorem agr.of {M M' : Mem} {L : List Nat} (h : agx L M M') (hL : ∀ c ∈ L, 53 ≤ c ∧ c ≤ 62) : agr M M' := by
  intro c j hj
  rw [h c]
  intro hc
  have h1 := hL c hc
  unfold SR at hj
  simp only [Bool.or_eq_false_iff, Bool.and_eq_false_iff, decide_eq_false_iff_not] at hj
  omega
section AGR
variable {M M' : Mem} (h : agr M M')
include h
theorem agr.ln : ln M' = ln M := by unfold _root_.Jvm.Pilot.x; rfl
end AGR
