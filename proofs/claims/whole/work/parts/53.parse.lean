/-! texts: the class reads beside the reference -/
def wd : List Int → Nat → Nat → Prop
  | [], d, e => d = e
  | c :: l, d, e => ((0 ≤ c ∧ c < 6 ∨ 100000 ≤ c ∧ c < 110000) ∧ d + 1 ≤ 31 ∧ wd l (d + 1) e) ∨ ((c = 13 ∨ c = 19) ∧ 1 ≤ d ∧ wd l d e) ∨ ((c = 11 ∨ c = 12 ∨ 14 ≤ c ∧ c ≤ 18) ∧ 2 ≤ d ∧ wd l (d - 1) e)
theorem wd_app : ∀ (l k : List Int) (d e f : Nat), wd l d e → wd k e f → wd (l ++ k) d f := by
  intro l
  induction l with
  | nil => intro k d e f h1 h2; have h1 : d = e := h1; subst h1; exact h2
  | cons c l ih =>
    intro k d e f h1 h2
    rcases h1 with ⟨a, b, h⟩ | ⟨a, b, h⟩ | ⟨a, b, h⟩
    · exact Or.inl ⟨a, b, ih k _ _ _ h h2⟩
    · exact Or.inr (Or.inl ⟨a, b, ih k _ _ _ h h2⟩)
    · exact Or.inr (Or.inr ⟨a, b, ih k _ _ _ h h2⟩)
theorem wd_un {l : List Int} {c : Int} {d e : Nat} (h : wd l d (e + 1)) (hc : c = 13 ∨ c = 19) : wd (l ++ [c]) d (e + 1) := wd_app l [c] d (e + 1) (e + 1) h (Or.inr (Or.inl ⟨hc, by omega, rfl⟩))
theorem opn_sg {s : Int} (h : s = 11 ∨ s = 12 ∨ 14 ≤ s ∧ s ≤ 18) : opn s = 0 := by unfold opn; rw [if_neg (by omega)]
theorem wd_bi {l : List Int} {c : Int} {d e : Nat} (h : wd l d (e + 2)) (hc : c = 11 ∨ c = 12 ∨ 14 ≤ c ∧ c ≤ 18) : wd (l ++ [c]) d (e + 1) := wd_app l [c] d (e + 2) (e + 1) h (Or.inr (Or.inr ⟨hc, by omega, rfl⟩))
section PARSE
variable (A0 B0 : Mem) (t nt : Nat) (ae : Nat → Int)
def Dc (c j : Nat) : Bool := (c == 12 && (j == 6 || j == 7)) || (c == 17 && decide (160 * t ≤ j))
def VA (A : Mem) (i : Nat) (cl : List Int) : Prop := agp (Dc t) A0 A ∧ A 12 7 = (i : Int) ∧ A 12 6 = (cl.length : Int) ∧ ∀ j, j < cl.length → cvr (A 17 (160 * t + j)) (nth cl j)
/-- a function of the class that reads, at a level, beside the reference -/
def OKf (p tp : Int) (ex : Int → List Int → List Int → Prop) (nots : Bool) (need o : Nat) (F : Mem → Option (Int × Mem)) : Prop :=
  ∀ (A B : Mem) (i : Nat) (g : Int) (hl cl : List Int) (d : Nat) (mn : Int), VA A0 t A i cl → VB B0 t ae B i g hl cl → i ≤ nt → hl.length + cl.length ≤ i → cnt hl = o → (∀ y r, hl = y :: r → f_X10_rank y < tp) → d + need ≤ 31 → (if nots then mn = 1 else (A0 15 i = 261 → mn = 0)) →
    ∃ r A' i', F A = some (r, A') ∧ agp (Dc t) A0 A' ∧ A' 12 7 = ((i' : Nat) : Int) ∧ i ≤ i' ∧ i' ≤ nt ∧
      ((r = 0 ∧ ∃ B', FL A0 B0 t B' i' ∧ ∀ f, f_X10_eRead_L14 KE (f + (i' - i) + 1) 1 mn B = some (0, B')) ∨
       (r = 1 ∧ ∃ (w q cl1 : List Int) (B' : Mem) (g' mn' : Int), i < i' ∧ VA A0 t A' i' (w ++ cl) ∧ VB B0 t ae B' i' g' (q ++ hl) cl1 ∧ (∀ x ∈ q, p ≤ f_X10_rank x) ∧ q.reverse ++ cl1 = w ++ cl ∧ (q ++ hl).length + cl1.length ≤ i' ∧ wd w.reverse d (d + 1) ∧ ex (A0 15 i') (q ++ hl) cl1 ∧ ∀ f, f_X10_eRead_L14 KE (f + (i' - i)) 1 mn B = f_X10_eRead_L14 KE f 0 mn' B'))
end PARSE
section PSTEP
variable {A0 B0 : Mem} {t nt : Nat} {ae : Nat → Int} {g : Int}
theorem Dc_12 {j : Nat} (h : j = 6 ∨ j = 7) : Dc t 12 j = true := by
  unfold Dc
  rcases h with rfl | rfl <;> rfl
theorem Dc_17 {j : Nat} : Dc t 17 (160 * t + j) = true := by
  unfold Dc
  have : decide (160 * t ≤ 160 * t + j) = true := decide_eq_true (by omega)
  rw [this]; rfl
theorem a_token {A : Mem} {i : Nat} {cl : List Int} (h : VA A0 t A i cl) (hi : i ≤ 160) : f_X6_token A = A0 15 i := by
  rw [f_X6_token, h.2.1, rd_n (by omega), h.1 15 i (by rfl)]
theorem a_next {A : Mem} {i : Nat} {cl : List Int} (h : VA A0 t A i cl) (hi : i ≤ 160) : VA A0 t (mset A 12 7 (w32 (A 12 7 + 1))) (i + 1) cl := by
  obtain ⟨h1, h2, h3, h4⟩ := h
  refine ⟨h1.mset (Dc_12 (by omega)), ?_, ?_, fun j hj => ?_⟩
  · rw [mset_at, h2, w32_n1 (by omega)]
  · rw [mset_i (by decide)]; exact h3
  · rw [mset_c (by decide)]; exact h4 j hj
theorem a_write {A : Mem} {i : Nat} {cl : List Int} {s c : Int} (ht : t < 6) (h5 : A0 12 5 = (t : Int)) (h : VA A0 t A i cl) (hl : cl.length < 160) (hc : cvr s c) : ∃ A', f_X6_write s A = some (0, A') ∧ VA A0 t A' i (c :: cl) := by
  obtain ⟨h1, h2, h3, h4⟩ := h
  have e5 : A 12 5 = (t : Int) := by rw [h1 12 5 (by rfl)]; exact h5
  refine ⟨mset (mset A 17 (160 * t + cl.length) s) 12 6 ((cl.length + 1 : Nat) : Int), ?_, (h1.mset Dc_17).mset (Dc_12 (by omega)), ?_, ?_, fun j hj => ?_⟩
  · rw [f_X6_write, e5, h3, w160 ht hl, wr_n (by omega), mset_c (d := 12) (by decide), h3, w32_n1 (by omega)]
  · rw [mset_i (by decide), mset_c (by decide)]; exact h2
  · rw [mset_at]; rfl
  · rw [mset_c (by decide), mset_if, nth_c]
    by_cases e : j = cl.length
    · rw [if_pos (by omega), if_pos e]; exact hc
    · rw [if_neg (by omega), if_neg e]
      rw [List.length_cons] at hj
      exact h4 j (by omega)
/-- a loop of the class over one level's signs -/
theorem lv_loop {p tp2 p2 : Int} {ex2 : Int → List Int → List Int → Prop} {nots : Bool} {need2 o : Nat} {G : Mem → Option (Int × Mem)} {L : Nat → Int → Mem → Option (Int × Mem)} {tks : Int → Bool} (R : RDT A0 B0 t nt ae) (h5 : A0 12 5 = (t : Int))
    (hL : ∀ fuel n A, n < 160 → L (fuel + 1) n A = if tks (f_X6_token A) = true then ob (G (mset A 12 7 (w32 (A 12 7 + 1)))) fun r2 A2 => if r2 = 0 then some (0, A2) else ob (f_X6_write (f_X6_token A) A2) fun _ A3 => L fuel (w32 (n + 1)) A3 else some (1, A))
    (hG : OKf A0 B0 t nt ae p2 tp2 ex2 nots need2 o G) (hp : 0 < p) (hp2 : p ≤ p2) (htp : p < tp2)
    (hsg : ∀ x, tks x = true → x ≠ 0 ∧ sgo x ≠ -1 ∧ f_X10_rank (sgo x) = p ∧ p ≠ 4 ∧ cvr x (sgo x) ∧ (sgo x = 11 ∨ sgo x = 12 ∨ 14 ≤ sgo x ∧ sgo x ≤ 18) ∧ (if nots then sgo x ≤ 12 else 12 < sgo x)) :
    ∀ (m : Nat) (A B : Mem) (i i0 n fuel : Nat) (g : Int) (hl cl w q cl1 : List Int) (d : Nat) (mn : Int), i + m = nt → m < fuel → n + 1 ≤ i → i0 < i → VA A0 t A i (w ++ cl) → VB B0 t ae B i g (q ++ hl) cl1 → (∀ x ∈ q, p ≤ f_X10_rank x) → q.reverse ++ cl1 = w ++ cl → (q ++ hl).length + cl1.length ≤ i → cnt hl = o → (∀ y r, hl = y :: r → f_X10_rank y < p) → wd w.reverse d (d + 1) → d + 1 + need2 ≤ 31 → ex2 (A0 15 i) (q ++ hl) cl1 →
    ∃ r A' i', L fuel (n : Int) A = some (r, A') ∧ agp (Dc t) A0 A' ∧ A' 12 7 = ((i' : Nat) : Int) ∧ i ≤ i' ∧ i' ≤ nt ∧
      ((r = 0 ∧ ∃ B', FL A0 B0 t B' i' ∧ ∀ f, f_X10_eRead_L14 KE (f + (i' - i) + 1) 0 mn B = some (0, B')) ∨
       (r = 1 ∧ ∃ (w' q' cl1' : List Int) (B' : Mem) (g' mn' : Int), VA A0 t A' i' (w' ++ cl) ∧ VB B0 t ae B' i' g' (q' ++ hl) cl1' ∧ (∀ x ∈ q', p ≤ f_X10_rank x) ∧ q'.reverse ++ cl1' = w' ++ cl ∧ (q' ++ hl).length + cl1'.length ≤ i' ∧ wd w'.reverse d (d + 1) ∧ (ex2 (A0 15 i') (q' ++ hl) cl1' ∧ tks (A0 15 i') = false) ∧ ∀ f, f_X10_eRead_L14 KE (f + (i' - i)) 0 mn B = f_X10_eRead_L14 KE f 0 mn' B')) := by
  have r3 := R.2.2.1
  intro m
  induction m using Nat.strongRecOn with
  | _ m ih =>
    intro A B i i0 n fuel g hl cl w q cl1 d mn hm hf hn hi0 hA hB hq hw hlen hcn htop hwd hd hex
    obtain ⟨fu, rfl⟩ : ∃ k, fuel = k + 1 := ⟨fuel - 1, by omega⟩
    have etok := a_token hA (by omega)
    by_cases htk : tks (A0 15 i) = true
    · obtain ⟨x1, x2, x3, x4, x5, x6, x7⟩ := hsg _ htk
      have hi : i < nt := by
        have : i ≠ nt := by intro e; rw [e, R.2.2.2.2.1] at x1; exact x1 rfl
        omega
      have eul : ulv (sgo (A0 15 i)) = p := by unfold ulv; rw [if_neg (by rw [x3]; exact x4), x3]
      have euw : uw p (q ++ hl) cl1 = (hl, w ++ cl) := by
        rw [uw_app (Int.le_refl p) q hl cl1 hq, hw]
        cases hl with
        | nil => rfl
        | cons y r => exact uw_stop (htop y r rfl)
      have hul := uw_len p (q ++ hl) cl1
      rw [euw] at hul
      have hul : hl.length + (w ++ cl).length = (q ++ hl).length + cl1.length := hul
      obtain ⟨-, o2⟩ := o_op (K := KE) R hi hB (by omega) x2
      obtain ⟨B1, v1, s1⟩ := o2 (fun z => absurd (z.1.symm.trans x3) (fun e => x4 e.symm))
      rw [eul, euw] at v1
      have hop : opn (sgo (A0 15 i)) = 0 := opn_sg x6
      have hA1 := a_next hA (by omega)
      obtain ⟨r, A2, i2, g1, g2, g3, g4, g5, g6⟩ := hG _ B1 (i + 1) _ (sgo (A0 15 i) :: hl) (w ++ cl) (d + 1) (if 12 < sgo (A0 15 i) then 0 else 1) hA1 v1 (by omega) (by rw [List.length_cons]; omega) (by rw [cnt_c, hop, Nat.zero_add]; exact hcn) (fun y r e => by cases e; rw [x3]; exact htp) (by omega) (by
        cases nots with
        | true => rw [if_pos rfl] at x7 ⊢; rw [if_neg (by omega)]
        | false => rw [if_neg (by decide)] at x7 ⊢; intro _; rw [if_pos x7])
      have hnn : ((n : Nat) : Int) < 160 := by omega
      rcases g6 with ⟨rfl, B', f1, f2⟩ | ⟨rfl, w2, q2, cl2, B', g', mn', f1, f2, f3, f4, f5, f6, f7, f8, f9⟩
      · refine ⟨0, A2, i2, ?_, g2, g3, by omega, g5, Or.inl ⟨rfl, B', f1, fun f => ?_⟩⟩
        · rw [hL _ _ _ hnn, etok, if_pos htk]
          exact ob_I g1 (by rw [if_pos rfl])
        · rw [show f + (i2 - i) + 1 = (f + (i2 - (i + 1)) + 1) + 1 by omega, s1]
          exact f2 f
      · obtain ⟨A3, a1, a2⟩ := a_write (s := A0 15 i) (c := sgo (A0 15 i)) R.1 h5 f2 (by
          have := congrArg List.length f5
          simp only [List.length_append, List.length_reverse, List.length_cons] at this f6 ⊢
          omega) x5
        have hcl : (sgo (A0 15 i) :: (w2 ++ (w ++ cl))) = (sgo (A0 15 i) :: (w2 ++ w)) ++ cl := by simp
        rw [hcl] at a2
        have hql : q2 ++ sgo (A0 15 i) :: hl = (q2 ++ [sgo (A0 15 i)]) ++ hl := by simp
        rw [hql] at f3 f6 f8
        obtain ⟨r', A4, i4, k1, k2, k3, k4, k5, k6⟩ := ih (nt - i2) (by omega) A3 B' i2 i0 (n + 1) fu g' hl cl (sgo (A0 15 i) :: (w2 ++ w)) (q2 ++ [sgo (A0 15 i)]) cl2 d mn' (by omega) (by omega) (by omega) (by omega) a2 f3 (fun x hx => by
            rcases List.mem_append.mp hx with hx | hx
            · exact Int.le_trans hp2 (f4 x hx)
            · rw [List.mem_singleton.mp hx, x3]; exact Int.le_refl _) (by
            rw [List.reverse_append, List.reverse_singleton]
            simp only [List.singleton_append, List.cons_append, List.append_assoc, List.nil_append]
            rw [f5]) (by omega) hcn htop (by
            rw [List.reverse_cons, List.reverse_append]
            exact wd_bi (wd_app _ _ _ _ _ hwd f7) x6) hd f8
        have hwr : L (fu + 1) (n : Int) A = some (r', A4) := by
          rw [hL _ _ _ hnn, etok, if_pos htk]
          refine ob_I g1 ?_
          rw [if_neg (by decide)]
          refine ob_I a1 ?_
          rw [w32_n1 (by omega)]; exact k1
        refine ⟨r', A4, i4, hwr, k2, k3, by omega, k5, ?_⟩
        rcases k6 with ⟨rfl, B2, u1, u2⟩ | ⟨rfl, w3, q3, cl3, B2, g3, mn3, u1, u2, u3, u4, u5, u6, u7, u8⟩
        · refine Or.inl ⟨rfl, B2, u1, fun f => ?_⟩
          rw [show f + (i4 - i) + 1 = ((f + (i4 - i2) + 1) + (i2 - (i + 1))) + 1 by omega, s1, f9]
          exact u2 f
        · refine Or.inr ⟨rfl, w3, q3, cl3, B2, g3, mn3, u1, u2, u3, u4, u5, u6, u7, fun f => ?_⟩
          rw [show f + (i4 - i) = ((f + (i4 - i2)) + (i2 - (i + 1))) + 1 by omega, s1, f9]
          exact u8 f
    · refine ⟨1, A, i, ?_, hA.1, hA.2.1, Nat.le_refl _, by omega, Or.inr ⟨rfl, w, q, cl1, B, g, mn, hA, hB, hq, hw, hlen, hwd, ⟨hex, Bool.eq_false_iff.mpr htk⟩, fun f => by rw [Nat.sub_self]; rfl⟩⟩
      rw [hL _ _ _ (by omega), etok, if_neg htk]
/-- a level of the class: an inner one, then its loop -/
theorem lv_level {p tp2 p2 : Int} {ex2 : Int → List Int → List Int → Prop} {nots : Bool} {need2 o : Nat} {G F : Mem → Option (Int × Mem)} {L : Nat → Int → Mem → Option (Int × Mem)} {tks : Int → Bool} (R : RDT A0 B0 t nt ae) (h5 : A0 12 5 = (t : Int))
    (hF : ∀ A, F A = ob (G A) fun r A1 => if r = 0 then some (0, A1) else L 100000 0 A1)
    (hL : ∀ fuel n A, n < 160 → L (fuel + 1) n A = if tks (f_X6_token A) = true then ob (G (mset A 12 7 (w32 (A 12 7 + 1)))) fun r2 A2 => if r2 = 0 then some (0, A2) else ob (f_X6_write (f_X6_token A) A2) fun _ A3 => L fuel (w32 (n + 1)) A3 else some (1, A))
    (hG : OKf A0 B0 t nt ae p2 tp2 ex2 nots need2 o G) (hp : 0 < p) (hp2 : p ≤ p2) (htp : p < tp2)
    (hsg : ∀ x, tks x = true → x ≠ 0 ∧ sgo x ≠ -1 ∧ f_X10_rank (sgo x) = p ∧ p ≠ 4 ∧ cvr x (sgo x) ∧ (sgo x = 11 ∨ sgo x = 12 ∨ 14 ≤ sgo x ∧ sgo x ≤ 18) ∧ (if nots then sgo x ≤ 12 else 12 < sgo x)) :
    OKf A0 B0 t nt ae p p (fun x h c => ex2 x h c ∧ tks x = false) nots (need2 + 1) o F := by
  have r3 := R.2.2.1
  intro A B i g hl cl d mn hA hB hi hlen hcn htop hd hmn
  obtain ⟨r, A2, i2, g1, g2, g3, g4, g5, g6⟩ := hG A B i g hl cl d mn hA hB hi hlen hcn (fun y r e => Int.lt_trans (htop y r e) htp) (by omega) hmn
  rcases g6 with ⟨rfl, B', f1, f2⟩ | ⟨rfl, w, q, cl1, B', g', mn', f1, f2, f3, f4, f5, f6, f7, f8, f9⟩
  · exact ⟨0, A2, i2, by rw [hF]; exact ob_I g1 (by rw [if_pos rfl]), g2, g3, g4, g5, Or.inl ⟨rfl, B', f1, f2⟩⟩
  · obtain ⟨r', A4, i4, k1, k2, k3, k4, k5, k6⟩ := lv_loop R h5 hL hG hp hp2 htp hsg (nt - i2) A2 B' i2 i 0 100000 g' hl cl w q cl1 d mn' (by omega) (by omega) (by omega) f1 f2 f3 (fun x hx => Int.le_trans hp2 (f4 x hx)) f5 f6 hcn htop f7 (by omega) f8
    refine ⟨r', A4, i4, by rw [hF]; exact ob_I g1 (by rw [if_neg (by decide)]; exact k1), k2, k3, by omega, k5, ?_⟩
    rcases k6 with ⟨rfl, B2, u1, u2⟩ | ⟨rfl, w3, q3, cl3, B2, g3, mn3, u1, u2, u3, u4, u5, u6, u7, u8⟩
    · refine Or.inl ⟨rfl, B2, u1, fun f => ?_⟩
      rw [show f + (i4 - i) + 1 = (f + (i4 - i2) + 1) + (i2 - i) by omega, f9]
      exact u2 f
    · refine Or.inr ⟨rfl, w3, q3, cl3, B2, g3, mn3, by omega, u1, u2, u3, u4, u5, u6, u7, fun f => ?_⟩
      rw [show f + (i4 - i) = (f + (i4 - i2)) + (i2 - i) by omega, f9]
      exact u8 f
end PSTEP
