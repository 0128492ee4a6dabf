/-! texts: a ONE, and all levels together -/
section ONES
variable (A0 B0 : Mem) (t nt : Nat) (ae : Nat → Int)
def OK1 (need o : Nat) (F : Mem → Option (Int × Mem)) : Prop :=
  ∀ (A B : Mem) (i : Nat) (g : Int) (hl cl : List Int) (d : Nat) (mn : Int), VA A0 t A i cl → VB B0 t ae B i g hl cl → i ≤ nt → hl.length + cl.length ≤ i → cnt hl = o → d + need ≤ 31 → (A0 15 i = 261 → mn = 0) →
    ∃ r A' i', F A = some (r, A') ∧ agp (Dc t) A0 A' ∧ A' 12 7 = ((i' : Nat) : Int) ∧ i ≤ i' ∧ i' ≤ nt ∧
      ((r = 0 ∧ ∃ B', FL A0 B0 t B' i' ∧ ∀ f, f_X10_eRead_L14 KE (f + (i' - i) + 1) 1 mn B = some (0, B')) ∨
       (r = 1 ∧ ∃ (w : List Int) (B' : Mem) (g' mn' : Int), i < i' ∧ VA A0 t A' i' (w ++ cl) ∧ VB B0 t ae B' i' g' (uw 7 hl (w ++ cl)).1 (uw 7 hl (w ++ cl)).2 ∧ hl.length + (w ++ cl).length ≤ i' ∧ wd w.reverse d (d + 1) ∧ ∀ f, f_X10_eRead_L14 KE (f + (i' - i)) 1 mn B = f_X10_eRead_L14 KE f 0 mn' B'))
end ONES
section ONES2
variable {A0 B0 : Mem} {t nt : Nat} {ae : Nat → Int} {g : Int}
theorem OK1.f {need o : Nat} {F : Mem → Option (Int × Mem)} (h : OK1 A0 B0 t nt ae need o F) : OKf A0 B0 t nt ae 7 7 (fun _ _ _ => True) false need o F := by
  intro A B i g hl cl d mn hA hB hi hlen hcn htop hd hmn
  rw [if_neg (by decide)] at hmn
  obtain ⟨r, A2, i2, g1, g2, g3, g4, g5, g6⟩ := h A B i g hl cl d mn hA hB hi hlen hcn hd hmn
  refine ⟨r, A2, i2, g1, g2, g3, g4, g5, ?_⟩
  rcases g6 with h1 | ⟨e, w, B', g', mn', f1, f2, f3, f4, f5, f6⟩
  · exact Or.inl h1
  · have eu : uw 7 hl (w ++ cl) = (hl, w ++ cl) := by
      cases hl with
      | nil => rfl
      | cons y r => exact uw_stop (htop y r rfl)
    rw [eu] at f3
    exact Or.inr ⟨e, w, [], w ++ cl, B', g', mn', f1, f2, f3, fun x hx => (by cases hx), rfl, f4, f5, trivial, f6⟩
theorem OKf.need {p tp : Int} {ex : Int → List Int → List Int → Prop} {nots : Bool} {n1 n2 o : Nat} {F : Mem → Option (Int × Mem)} (h : OKf A0 B0 t nt ae p tp ex nots n1 o F) (hn : n1 ≤ n2) : OKf A0 B0 t nt ae p tp ex nots n2 o F :=
  fun A B i g hl cl d mn a1 a2 a3 a4 a5 a6 a7 a8 => h A B i g hl cl d mn a1 a2 a3 a4 a5 a6 (by omega) a8
/-- where an E can't go on, the reference stops, too -/
theorem dead {B : Mem} {i : Nat} {h1 c1 : List Int} (R : RDT A0 B0 t nt ae) (hi : i ≤ nt) (hB : VB B0 t ae B i g h1 c1) (hlen : h1.length + c1.length ≤ i) (hE : exE (A0 15 i) h1 c1) (h41 : A0 15 i = 41 → (uw 1 h1 c1).1 = []) (h59 : A0 15 i = 59 → (uw 1 h1 c1).1 ≠ []) :
    ∃ B', FL A0 B0 t B' i ∧ ∀ f mn, f_X10_eRead_L14 KE (f + 1) 0 mn B = some (0, B') := by
  obtain ⟨⟨⟨k1, k2, k3, k4⟩, k5⟩, k6⟩ := hE
  have k5 : A0 15 i ≠ 260 := fun e => by rw [e] at k5; cases k5
  have k6 : A0 15 i ≠ 259 := fun e => by rw [e] at k6; cases k6
  have hnt : A0 15 i ≠ 0 → i < nt := fun e => by
    have : i ≠ nt := by intro q; rw [q] at e; exact e R.2.2.2.2.1
    omega
  by_cases q41 : A0 15 i = 41
  · obtain ⟨B', f1, f2⟩ := (o_close (K := KE) R (hnt (by omega)) hB hlen q41).1 (h41 q41)
    exact ⟨B', f1, f2⟩
  by_cases q59 : A0 15 i = 59
  · have e1 := fun mn => o_semi (mn := mn) R (hnt (by omega)) hB hlen q59
    obtain ⟨B', v1, f1⟩ := e1 0
    refine ⟨B', v1.fl, fun f mn => ?_⟩
    have e0 := f1 f
    rw [if_neg (h59 q59)] at e0
    obtain ⟨B2, v2, f2⟩ := e1 mn
    have e2 := f2 f
    rw [if_neg (h59 q59)] at e2
    have : f_X10_eRead_L14 KE (f + 1) 0 mn B = f_X10_eRead_L14 KE (f + 1) 0 0 B := by
      obtain ⟨B3, n1, n2, n3, n4⟩ := b_next R hi hB
      have en : rtok (A0 15 i) = 59 := by rw [q59]; rfl
      rw [f_X10_eRead_L14, f_X10_eRead_L14]
      refine (ob_I n1 ?_).trans (ob_I n1 rfl).symm
      rw [if_pos rfl, if_pos rfl, n3, en, if_pos rfl, if_pos rfl]
    rw [this]; exact e0
  by_cases qc : A0 15 i = 60 ∨ A0 15 i = 61
  · have hs : sgo (A0 15 i) ≠ -1 ∧ f_X10_rank (sgo (A0 15 i)) = 4 := by
      rcases qc with e | e
      · rw [e]; decide
      · rw [e]; decide
    obtain ⟨B', f1, f2⟩ := (o_op (K := KE) R (hnt (by omega)) hB hlen hs.1).1 ⟨hs.2, k1 qc⟩
    exact ⟨B', f1, f2⟩
  · refine o_bad R hi hB ?_ q59 q41
    unfold sgo
    rw [if_neg k6, if_neg k5, if_neg (fun e => qc (Or.inl e)), if_neg (fun e => qc (Or.inr e)), if_neg k3, if_neg k4, if_neg k2]
end ONES2
