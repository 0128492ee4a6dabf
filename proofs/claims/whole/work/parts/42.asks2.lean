/-! what a line has, in those that fit -/
theorem c_having {M : Mem} {l s : Nat} (h : CH M) (hl : l < ln M) (hl2 : l < 10) (hs : s < 64) : f_X1_having (l : Int) (s : Int) M = ((ct M (fun t => hd M l t == s) : Nat) : Int) := by
  rw [f_X1_having, wl64 hl2 hs, rd_n (by omega), h.2.2.2.1 l hl s hs]
/-- how many have a set of a kind -/
def cw (M : Mem) (l : Nat) (Q : Nat → Bool) : Nat := ct M (fun t => Q (hd M l t))
def cwA (M : Mem) (l : Nat) (Q : Nat → Bool) (i : Nat) : Nat := su (fun s => ct M (fun t => hd M l t == s) * (if Q s then 1 else 0)) i
theorem cwA_64 (M : Mem) (l : Nat) (Q : Nat → Bool) : cwA M l Q 64 = cw M l Q := by
  unfold cwA cw ct
  rw [su_sl (h := fun t => hd M l t) (N := 64) (fun s => if Q s then 1 else 0) (FT M) (fun t ht => hd_lt (FT_lt ht)), sl_b]
theorem cwA_le (M : Mem) (l : Nat) (Q : Nat → Bool) {i : Nat} (h : i ≤ 64) : cwA M l Q i ≤ 720 := by
  have h1 : cwA M l Q i ≤ cwA M l Q 64 := su_mono h
  rw [cwA_64] at h1
  exact Nat.le_trans h1 (ct_le M _)
theorem cw_le (M : Mem) (l : Nat) (Q : Nat → Bool) : cw M l Q ≤ (FT M).length := List.countP_le_length
theorem cwA_s (M : Mem) (l : Nat) (Q : Nat → Bool) (i : Nat) : cwA M l Q (i + 1) = cwA M l Q i + (if Q i then ct M (fun t => hd M l t == i) else 0) := by
  unfold cwA; rw [su_s]
  by_cases h : Q i = true
  · simp [h]
  · simp [h]
theorem c_withAll {M : Mem} {l w : Nat} (h : CH M) (hl : l < ln M) (hl2 : l < 10) (hw : w < 64) : f_X1_withAll (l : Int) (w : Int) M = some ((cw M l (fun s => s &&& w == w) : Nat) : Int) := by
  unfold f_X1_withAll
  obtain ⟨n, st, e, hP⟩ := loopN (N := 64) (F := fun n i (st : Int) => f_X1_withAll_L5 (l : Int) (w : Int) M n st (i : Int)) (P := fun i st => st = ((cwA M l (fun s => s &&& w == w) i : Nat) : Int)) (by
    intro n i st hi hP
    subst hP
    have hle := cwA_le M l (fun s => s &&& w == w) (i := i + 1) (by omega)
    have es := cwA_s M l (fun s => s &&& w == w) i
    refine ⟨_, ?_, rfl⟩
    show f_X1_withAll_L5 (l : Int) (w : Int) M (n + 1) _ (i : Int) = f_X1_withAll_L5 (l : Int) (w : Int) M n _ ((i + 1 : Nat) : Int)
    rw [f_X1_withAll_L5, if_pos (by omega), b_and_n (by omega) (by omega), c_having h hl hl2 hi, w32_n1 (a := i) (by omega)]
    by_cases hb : i &&& w = w
    · rw [if_pos (by omega)]
      rw [if_pos (by simp [hb])] at es
      rw [w32_id (by omega) (by omega), es, ← Int.natCast_add]
    · rw [if_neg (by omega)]
      rw [if_neg (by simp [hb])] at es
      rw [es] <;> simp only [Nat.add_zero]) 64 100000 0 0 (by omega) (by omega) rfl
  have e : f_X1_withAll_L5 (l : Int) (w : Int) M 100000 0 0 = f_X1_withAll_L5 (l : Int) (w : Int) M (n + 1) st ((64 : Nat) : Int) := e
  rw [e, f_X1_withAll_L5, if_neg (by decide), hP, cwA_64]
theorem c_withAny {M : Mem} {l w : Nat} (h : CH M) (hl : l < ln M) (hl2 : l < 10) (hw : w < 64) : f_X1_withAny (l : Int) (w : Int) M = some ((cw M l (fun s => !(s &&& w == 0)) : Nat) : Int) := by
  unfold f_X1_withAny
  obtain ⟨n, st, e, hP⟩ := loopN (N := 64) (F := fun n i (st : Int) => f_X1_withAny_L5 (l : Int) (w : Int) M n st (i : Int)) (P := fun i st => st = ((cwA M l (fun s => !(s &&& w == 0)) i : Nat) : Int)) (by
    intro n i st hi hP
    subst hP
    have hle := cwA_le M l (fun s => !(s &&& w == 0)) (i := i + 1) (by omega)
    have es := cwA_s M l (fun s => !(s &&& w == 0)) i
    refine ⟨_, ?_, rfl⟩
    show f_X1_withAny_L5 (l : Int) (w : Int) M (n + 1) _ (i : Int) = f_X1_withAny_L5 (l : Int) (w : Int) M n _ ((i + 1 : Nat) : Int)
    rw [f_X1_withAny_L5, if_pos (by omega), b_and_n (by omega) (by omega), c_having h hl hl2 hi, w32_n1 (a := i) (by omega)]
    by_cases hb : i &&& w = 0
    · rw [if_pos (by omega)]
      rw [if_neg (by simp [hb])] at es
      rw [es] <;> simp only [Nat.add_zero]
    · rw [if_neg (by omega)]
      rw [if_pos (by simp [hb])] at es
      rw [w32_id (by omega) (by omega), es, ← Int.natCast_add]) 64 100000 0 0 (by omega) (by omega) rfl
  have e : f_X1_withAny_L5 (l : Int) (w : Int) M 100000 0 0 = f_X1_withAny_L5 (l : Int) (w : Int) M (n + 1) st ((64 : Nat) : Int) := e
  rw [e, f_X1_withAny_L5, if_neg (by decide), hP, cwA_64]
theorem line_n {M : Mem} (h : Inv M) {M1 : Mem} (ha : agq M M1) (x : Int) : f_X9_isLine x M1 = f_X9_isLine x M := by rw [f_X9_isLine, f_X9_isLine, ha.c 3 (by decide)]
theorem rline_n {M M1 : Mem} (h : Inv M) (ha : agq M M1) (h1 : Inv M1) (x : Int) : f_X10_isLine x M1 = f_X9_isLine x M := by rw [isl_e h1, line_n h ha]
theorem guest_n {M M1 : Mem} (ha : agq M M1) (x : Int) : f_X9_isGuest x M1 = f_X9_isGuest x M := by rw [f_X9_isGuest, f_X9_isGuest, ha.z 9]
theorem rguest_n {M M1 : Mem} (ha : agq M M1) (h1 : Inv M1) (x : Int) : f_X10_isGuest x M1 = f_X9_isGuest x M := by rw [isg_e h1, guest_n ha]
theorem op_has {M : Mem} (h : Inv M) (x y z : Int) : OK2 (f_X9_has x y z) (f_X10_has x y z) M := by
  have hb4 : ∀ x, f_X9_isFractionPart x = f_X9_within x 0 1 := fun _ => rfl
  have hb5 : ∀ x, f_X9_isParts x = f_X9_within x 0 63 := fun _ => rfl
  rcases isl_n h (x := x) with h0 | ⟨l, rfl, hl, hl2, h0⟩
  · exact OK2.no h (by rw [f_X9_has, if_pos h0]) (by rw [f_X10_has, isl_e h, if_pos h0])
  by_cases h1 : f_X9_within y 0 63 = 0
  · exact OK2.no h (by rw [f_X9_has, if_neg h0, hb5, if_pos h1]) (by rw [f_X10_has, isl_e h, if_neg h0, in_w, if_pos h1])
  by_cases h2 : f_X9_within z 0 1 = 0
  · exact OK2.no h (by rw [f_X9_has, if_neg h0, hb5, if_neg h1, hb4, if_pos h2]) (by rw [f_X10_has, isl_e h, if_neg h0, in_w, if_neg h1, in_w, if_pos h2])
  have h1' := h1
  have h2' := h2
  rw [wi_0] at h1' h2'
  obtain ⟨w, rfl⟩ : ∃ w : Nat, y = (w : Int) := ⟨y.toNat, by omega⟩
  refine qry h fun M1 e1 a1 i1 c1 => ?_
  have hl' : l < ln M1 := by rw [a1.eln]; exact hl
  have hlen := FT_len M1
  have hc := cw_le M1 l (fun s => s &&& w == w)
  have loop : ∀ (K : Int → Mem → Option (Int × Mem)) (M3 : Mem), agr M1 M3 → FO M1 M3 → f_X10_has_L41 K (l : Int) (w : Int) z 100000 0 0 M3 = K ((cw M1 l (fun s => s &&& w == w) : Nat) : Int) M3 := by
    intro K M3 a3 o3
    obtain ⟨n, st, e, hP⟩ := loopN (N := (FT M1).length) (F := fun n k (st : Int) => f_X10_has_L41 K (l : Int) (w : Int) z n st (k : Int) M3) (P := fun k st => st = ((ck (FT M1) (fun t => hd M1 l t &&& w == w) k : Nat) : Int)) (by
      intro n k st hk hP
      subst hP
      have hle := ck_le (FT M1) (fun t => hd M1 l t &&& w == w) k
      have h64 := hd_lt (M := M1) (l := l) (FT_lt (getD_mem hk))
      refine ⟨_, ?_, rfl⟩
      show f_X10_has_L41 K (l : Int) (w : Int) z (n + 1) _ (k : Int) M3 = f_X10_has_L41 K (l : Int) (w : Int) z n _ ((k + 1 : Nat) : Int) M3
      have a5 := andn64 w (by omega) _ h64
      rw [f_X10_has_L41, if_pos (by rw [o3.1]; omega), if_pos ⟨by omega, by omega⟩, Int.toNat_natCast, r_hi i1.1 a3 o3 hk hl2, Option.bind_some, b_andn_n (by omega) (by omega), ck_s hk, w32_n1 (a := k) (by omega)]
      by_cases hb : hd M1 l ((FT M1).getD k 0) &&& w = w
      · rw [if_pos (by have := a5.mpr hb; omega), if_pos (beq_t hb), w32_n1 (by omega)]
      · rw [if_neg (by intro q; exact hb (a5.mp (by omega))), if_neg (beq_f hb), Int.add_zero, w32_id (by omega) (by omega)] <;> simp only [Nat.add_zero]) (FT M1).length 100000 0 0 (by omega) (by omega) rfl
    have e : f_X10_has_L41 K (l : Int) (w : Int) z 100000 0 0 M3 = f_X10_has_L41 K (l : Int) (w : Int) z (n + 1) st (((FT M1).length : Nat) : Int) M3 := e
    rw [e, f_X10_has_L41, if_neg (by rw [o3.1]; omega), hP, ck_all]
    rfl
  by_cases hz : (FT M1).length = 0
  · refine ⟨-4611686018427387904, M1, ?_, agq.refl, i1, c1, fun M3 e3 a3 o3 => ⟨M3, ?_, a3⟩⟩
    · rw [f_X9_has, if_neg h0, hb5, if_neg h1, hb4, if_neg h2]
      refine ob_I e1 ?_
      rw [c_withAll c1 hl' hl2 (by omega), Option.bind_some, c1.1, hz, show cw M1 l (fun s => s &&& w == w) = 0 by omega]
      show (f_X9_fraction 0 0 z).bind _ = _
      rw [c_fraction0]; rfl
    · rw [f_X10_has, isl_e i1, line_n h a1, if_neg h0, in_w, if_neg h1, in_w, if_neg h2]
      refine ob_I e3 ?_
      rw [loop _ M3 a3 o3, f_X10_ofAll, o3.1, if_pos (by omega)]; rfl
  · refine ⟨frv (cw M1 l (fun s => s &&& w == w)) (FT M1).length z, M1, ?_, agq.refl, i1, c1, fun M3 e3 a3 o3 => ⟨M3, ?_, a3⟩⟩
    · rw [f_X9_has, if_neg h0, hb5, if_neg h1, hb4, if_neg h2]
      refine ob_I e1 ?_
      rw [c_withAll c1 hl' hl2 (by omega), Option.bind_some, c1.1, c_fraction hc (by omega) (by omega) (by omega)]; rfl
    · rw [f_X10_has, isl_e i1, line_n h a1, if_neg h0, in_w, if_neg h1, in_w, if_neg h2]
      refine ob_I e3 ?_
      rw [loop _ M3 a3 o3, f_X10_ofAll, o3.1, if_neg (by omega), r_lowest hc (by omega) (by omega) (by omega)]; rfl
/-- what a guest shuns -/
def shn (M : Mem) (g : Nat) : Nat := (M 41 g).toNat
theorem shn_e {M : Mem} (h : Gs M) {g : Nat} (hg : g < 4) : M 41 g = ((shn M g : Nat) : Int) ∧ shn M g < 64 := by
  obtain ⟨g1, g2, g3, g4, g5⟩ := h
  have := g4 g hg
  unfold shn
  exact ⟨by omega, by omega⟩
theorem agq.eshn {M M' : Mem} (h : agq M M') : shn M' = shn M := by funext g; unfold shn; rw [h.c 41 (by decide)]
theorem r_shunnedIn {M M2 : Mem} {g l : Nat} (h : Inv M) (ha : agr M M2) (ho : FO M M2) (hg : g < 4) (hl : l < 10) : f_X10_shunnedIn (g : Int) (l : Int) M2 = some ((cw M l (fun s => !(s &&& shn M g == 0)) : Nat) : Int) := by
  have hlen := FT_len M
  obtain ⟨hs1, hs2⟩ := shn_e h.2.2.1 hg
  unfold f_X10_shunnedIn
  obtain ⟨n, st, e, hP⟩ := loopN (N := (FT M).length) (F := fun n k (st : Int) => f_X10_shunnedIn_L5 (g : Int) (l : Int) M2 n st (k : Int)) (P := fun k st => st = ((ck (FT M) (fun t => !(hd M l t &&& shn M g == 0)) k : Nat) : Int)) (by
    intro n k st hk hP
    subst hP
    have hle := ck_le (FT M) (fun t => !(hd M l t &&& shn M g == 0)) k
    have h64 := hd_lt (M := M) (l := l) (FT_lt (getD_mem hk))
    refine ⟨_, ?_, rfl⟩
    show f_X10_shunnedIn_L5 (g : Int) (l : Int) M2 (n + 1) _ (k : Int) = f_X10_shunnedIn_L5 (g : Int) (l : Int) M2 n _ ((k + 1 : Nat) : Int)
    rw [f_X10_shunnedIn_L5, if_pos (by rw [ho.1]; omega), if_pos ⟨by omega, by omega⟩, Int.toNat_natCast, r_hi h.1 ha ho hk hl, Option.bind_some, if_pos ⟨by omega, by omega⟩, Int.toNat_natCast, ha.c 41 (by decide), hs1, b_and_n (by omega) (by omega), ck_s hk, w32_n1 (a := k) (by omega)]
    by_cases hb : hd M l ((FT M).getD k 0) &&& shn M g = 0
    · rw [if_pos (by omega), if_neg (nbeq_f hb), Int.add_zero, w32_id (by omega) (by omega)] <;> simp only [Nat.add_zero]
    · rw [if_neg (by omega), if_pos (nbeq_t hb), w32_n1 (by omega)]) (FT M).length 100000 0 0 (by omega) (by omega) rfl
  have e : f_X10_shunnedIn_L5 (g : Int) (l : Int) M2 100000 0 0 = f_X10_shunnedIn_L5 (g : Int) (l : Int) M2 (n + 1) st (((FT M).length : Nat) : Int) := e
  rw [e, f_X10_shunnedIn_L5, if_neg (by rw [ho.1]; omega), hP, ck_all]
  rfl
theorem op_risk {M : Mem} (h : Inv M) (x y z : Int) : OK2 (f_X9_risk x y z) (f_X10_risk x y z) M := by
  have hb4 : ∀ x, f_X9_isFractionPart x = f_X9_within x 0 1 := fun _ => rfl
  rcases isg_n h (x := x) with h0 | ⟨g, rfl, hg, hg2, h0⟩
  · exact OK2.no h (by rw [f_X9_risk, if_pos h0]) (by rw [f_X10_risk, isg_e h, if_pos h0])
  rcases isl_n h (x := y) with h1 | ⟨l, rfl, hl, hl2, h1⟩
  · exact OK2.no h (by rw [f_X9_risk, if_neg h0, if_pos h1]) (by rw [f_X10_risk, isg_e h, if_neg h0, isl_e h, if_pos h1])
  by_cases h2 : f_X9_within z 0 1 = 0
  · exact OK2.no h (by rw [f_X9_risk, if_neg h0, if_neg h1, hb4, if_pos h2]) (by rw [f_X10_risk, isg_e h, if_neg h0, isl_e h, if_neg h1, in_w, if_pos h2])
  have h2' := h2
  rw [wi_0] at h2'
  refine qry h fun M1 e1 a1 i1 c1 => ?_
  have hl' : l < ln M1 := by rw [a1.eln]; exact hl
  have hlen := FT_len M1
  obtain ⟨hs1, hs2⟩ := shn_e i1.2.2.1 hg2
  have hc := cw_le M1 l (fun s => !(s &&& shn M1 g == 0))
  have er : rd 4 (M1 37) (g : Int) = ((shn M1 g : Nat) : Int) := by rw [rd_n hg2, (i1.2.2.1.2.2.2.1 g hg2).1, hs1]
  by_cases hz : (FT M1).length = 0
  · refine ⟨-4611686018427387904, M1, ?_, agq.refl, i1, c1, fun M3 e3 a3 o3 => ⟨M3, ?_, a3⟩⟩
    · rw [f_X9_risk, if_neg h0, if_neg h1, hb4, if_neg h2]
      refine ob_I e1 ?_
      rw [er, c_withAny c1 hl' hl2 hs2, Option.bind_some, c1.1, hz, show cw M1 l (fun s => !(s &&& shn M1 g == 0)) = 0 by omega]
      show (f_X9_fraction 0 0 z).bind _ = _
      rw [c_fraction0]; rfl
    · rw [f_X10_risk, rguest_n a1 i1, if_neg h0, isl_e i1, line_n h a1, if_neg h1, in_w, if_neg h2]
      refine ob_I e3 ?_
      rw [r_shunnedIn i1 a3 o3 hg2 hl2, Option.bind_some, f_X10_ofAll, o3.1, if_pos (by omega)]; rfl
  · refine ⟨frv (cw M1 l (fun s => !(s &&& shn M1 g == 0))) (FT M1).length z, M1, ?_, agq.refl, i1, c1, fun M3 e3 a3 o3 => ⟨M3, ?_, a3⟩⟩
    · rw [f_X9_risk, if_neg h0, if_neg h1, hb4, if_neg h2]
      refine ob_I e1 ?_
      rw [er, c_withAny c1 hl' hl2 hs2, Option.bind_some, c1.1, c_fraction hc (by omega) (by omega) (by omega)]; rfl
    · rw [f_X10_risk, rguest_n a1 i1, if_neg h0, isl_e i1, line_n h a1, if_neg h1, in_w, if_neg h2]
      refine ob_I e3 ?_
      rw [r_shunnedIn i1 a3 o3 hg2 hl2, Option.bind_some, f_X10_ofAll, o3.1, if_neg (by omega), r_lowest hc (by omega) (by omega) (by omega)]; rfl
/-- lines that are safe for a guest -/
def sfb (M : Mem) (g l : Nat) : Bool := decide (0 < (FT M).length) && (cw M l (fun s => !(s &&& shn M g == 0)) == 0)
def bitsA (f : Nat → Bool) (i : Nat) : Nat := (List.range i).foldl (fun a l => if f l then a ||| 2 ^ l else a) 0
theorem bitsA_s (f : Nat → Bool) (i : Nat) : bitsA f (i + 1) = if f i then bitsA f i ||| 2 ^ i else bitsA f i := by unfold bitsA; rw [List.range_succ, List.foldl_append]; rfl
theorem bitsA_lt (f : Nat → Bool) : ∀ i : Nat, bitsA f i < 2 ^ i := by
  intro i
  induction i with
  | zero => exact Nat.one_pos
  | succ i ih =>
    rw [bitsA_s]
    split
    · exact Nat.or_lt_two_pow (Nat.lt_of_lt_of_le ih (Nat.pow_le_pow_right (by decide) (Nat.le_succ i))) (Nat.pow_lt_pow_right (by decide) (Nat.lt_succ_self i))
    · exact Nat.lt_of_lt_of_le ih (Nat.pow_le_pow_right (by decide) (Nat.le_succ i))
theorem bitsA_12 {f : Nat → Bool} {i : Nat} (h : i ≤ 12) : bitsA f i < 4096 := Nat.lt_of_lt_of_le (bitsA_lt f i) (Nat.pow_le_pow_right (n := 2) (by decide) h)
theorem bitsA_z {f : Nat → Bool} {i : Nat} (h : ∀ l, l < i → f l = false) : bitsA f i = 0 := by
  induction i with
  | zero => rfl
  | succ i ih => rw [bitsA_s, h i (by omega), ih (fun l hl => h l (by omega))]; rfl
theorem bitsA_c {f g : Nat → Bool} {i : Nat} (h : ∀ l, l < i → f l = g l) : bitsA f i = bitsA g i := by
  induction i with
  | zero => rfl
  | succ i ih => rw [bitsA_s, bitsA_s, h i (by omega), ih (fun l hl => h l (by omega))]
theorem or_step {x i : Nat} (hx : x < 4096) (hi : i < 12) : b_or (x : Int) (b_shl 1 (i : Int)) = ((x ||| 2 ^ i : Nat) : Int) := by
  have h2i : 2 ^ i < 2 ^ 12 := Nat.pow_lt_pow_right (by decide) (by omega)
  have h12 : (2 : Nat) ^ 12 = 4096 := by decide
  rw [b_shl_n (by omega), b_or_n (by omega) (by omega)]
theorem or_0 {x : Nat} (hx : x < 4096) : b_or (x : Int) 0 = (x : Int) := by
  rw [show (0 : Int) = ((0 : Nat) : Int) from rfl, b_or_n (by omega) (by decide), Nat.or_zero]
theorem c_safeLines {M : Mem} {g : Nat} (h : Inv M) (c : CH M) (hg : g < 4) : f_X9_safeLines (g : Int) M = some ((bitsA (sfb M g) (ln M) : Nat) : Int) := by
  have l2 := h.1.1.2.1
  obtain ⟨hs1, hs2⟩ := shn_e h.2.2.1 hg
  have er : rd 4 (M 37) (g : Int) = ((shn M g : Nat) : Int) := by rw [rd_n hg, (h.2.2.1.2.2.2.1 g hg).1, hs1]
  have e33 : M 3 3 = (ln M : Int) := by rw [h.2.1.1.1, h.1.1.1]
  unfold f_X9_safeLines
  obtain ⟨r, e, hr⟩ := loopX (N := ln M) (F := fun n i (st : Int) => f_X9_safeLines_L5 (g : Int) M n st (i : Int)) (P := fun i st => st = ((bitsA (sfb M g) i : Nat) : Int)) (Q := fun r => r = ((bitsA (sfb M g) (ln M) : Nat) : Int)) (by
    intro n i st hi hP
    subst hP
    have hb12 := bitsA_12 (f := sfb M g) (i := i) (by omega)
    by_cases hz : 0 < (FT M).length
    · left
      refine ⟨_, ?_, rfl⟩
      show f_X9_safeLines_L5 (g : Int) M (n + 1) _ (i : Int) = f_X9_safeLines_L5 (g : Int) M n _ ((i + 1 : Nat) : Int)
      rw [f_X9_safeLines_L5, if_pos (by omega), if_pos (by rw [c.1]; omega), er, c_withAny c hi (by omega) hs2, Option.bind_some, w32_n1 (by omega), bitsA_s]
      by_cases hb : cw M i (fun s => !(s &&& shn M g == 0)) = 0
      · rw [if_pos (by omega), or_step hb12 (by omega), if_pos (by unfold sfb; simp [hz, hb])]
      · rw [if_neg (by omega), if_neg (by unfold sfb; simp [hb])]
    · right
      refine ⟨_, ?_, rfl⟩
      show f_X9_safeLines_L5 (g : Int) M (n + 1) _ (i : Int) = _
      have hall : ∀ l, sfb M g l = false := fun l => by unfold sfb; simp [hz]
      rw [f_X9_safeLines_L5, if_pos (by omega), if_neg (by rw [c.1]; omega), bitsA_z (fun l _ => hall l), bitsA_z (fun l _ => hall l)]) (by
    intro n st hP
    refine ⟨_, ?_, rfl⟩
    show f_X9_safeLines_L5 (g : Int) M (n + 1) st ((ln M : Nat) : Int) = _
    rw [f_X9_safeLines_L5, if_neg (by omega), hP]) (ln M) 100000 0 0 (by omega) (by omega) rfl
  have e : f_X9_safeLines_L5 (g : Int) M 100000 0 0 = some r := e
  rw [e, hr]
theorem r_safeFor {M M2 : Mem} {g : Nat} (h : Inv M) (ha : agr M M2) (ho : FO M M2) (hg : g < 4) : f_X10_safeFor (g : Int) M2 = some ((bitsA (sfb M g) (ln M) : Nat) : Int) := by
  have l2 := h.1.1.2.1
  have e0 : M2 38 0 = (ln M : Int) := by rw [ha.s 0, h.1.1.1]
  unfold f_X10_safeFor
  obtain ⟨n, st, e, hP⟩ := loopN (N := ln M) (F := fun n i (st : Int) => f_X10_safeFor_L4 (g : Int) M2 n st (i : Int)) (P := fun i st => st = ((bitsA (sfb M g) i : Nat) : Int)) (by
    intro n i st hi hP
    subst hP
    have hb12 := bitsA_12 (f := sfb M g) (i := i) (by omega)
    refine ⟨_, ?_, rfl⟩
    show f_X10_safeFor_L4 (g : Int) M2 (n + 1) _ (i : Int) = f_X10_safeFor_L4 (g : Int) M2 n _ ((i + 1 : Nat) : Int)
    rw [f_X10_safeFor_L4, if_pos (by omega), ho.1, w32_n1 (by omega), bitsA_s]
    by_cases hz : 0 < (FT M).length
    · rw [if_pos (by omega), r_shunnedIn h ha ho hg (by omega), Option.bind_some]
      by_cases hb : cw M i (fun s => !(s &&& shn M g == 0)) = 0
      · rw [if_pos (by omega), or_step hb12 (by omega), if_pos (by unfold sfb; simp [hz, hb])]
      · rw [if_neg (by omega), or_0 hb12, if_neg (by unfold sfb; simp [hb])]
    · rw [if_neg (by omega), or_0 hb12, if_neg (by unfold sfb; simp [hz])]) (ln M) 100000 0 0 (by omega) (by omega) rfl
  have e : f_X10_safeFor_L4 (g : Int) M2 100000 0 0 = f_X10_safeFor_L4 (g : Int) M2 (n + 1) st ((ln M : Nat) : Int) := e
  rw [e, f_X10_safeFor_L4, if_neg (by omega), hP]
theorem op_safe {M : Mem} (h : Inv M) (x : Int) : OK2 (f_X9_safe x) (f_X10_safe x) M := by
  rcases isg_n h (x := x) with h0 | ⟨g, rfl, hg, hg2, h0⟩
  · exact OK2.no h (by rw [f_X9_safe, if_pos h0]) (by rw [f_X10_safe, isg_e h, if_pos h0])
  refine qry h fun M1 e1 a1 i1 c1 => ⟨((bitsA (sfb M1 g) (ln M1) : Nat) : Int), M1, ?_, agq.refl, i1, c1, fun M3 e3 a3 o3 => ⟨M3, ?_, a3⟩⟩
  · rw [f_X9_safe, if_neg h0]
    exact ob_I e1 (by rw [c_safeLines i1 c1 hg2, Option.bind_some])
  · rw [f_X10_safe, rguest_n a1 i1, if_neg h0]
    exact ob_I e3 (by rw [r_safeFor i1 a3 o3 hg2, Option.bind_some])
/-! parts in all, in any -/
def paA (M : Mem) (l i : Nat) : Nat := (List.range i).foldl (fun a s => if 0 < ct M (fun t => hd M l t == s) then a &&& s else a) 63
def pyA (M : Mem) (l i : Nat) : Nat := (List.range i).foldl (fun a s => if 0 < ct M (fun t => hd M l t == s) then a ||| s else a) 0
def qaA (M : Mem) (l k : Nat) : Nat := ((FT M).take k).foldl (fun a t => a &&& hd M l t) 63
def qyA (M : Mem) (l k : Nat) : Nat := ((FT M).take k).foldl (fun a t => a ||| hd M l t) 0
theorem paA_s (M : Mem) (l i : Nat) : paA M l (i + 1) = if 0 < ct M (fun t => hd M l t == i) then paA M l i &&& i else paA M l i := by unfold paA; rw [List.range_succ, List.foldl_append, List.foldl_cons, List.foldl_nil]
theorem pyA_s (M : Mem) (l i : Nat) : pyA M l (i + 1) = if 0 < ct M (fun t => hd M l t == i) then pyA M l i ||| i else pyA M l i := by unfold pyA; rw [List.range_succ, List.foldl_append, List.foldl_cons, List.foldl_nil]
theorem qaA_s {M : Mem} {l k : Nat} (h : k < (FT M).length) : qaA M l (k + 1) = qaA M l k &&& hd M l ((FT M).getD k 0) := by unfold qaA; rw [take_s h, List.foldl_append]; rfl
theorem qyA_s {M : Mem} {l k : Nat} (h : k < (FT M).length) : qyA M l (k + 1) = qyA M l k ||| hd M l ((FT M).getD k 0) := by unfold qyA; rw [take_s h, List.foldl_append]; rfl
theorem paA_b (M : Mem) (l j : Nat) : ∀ i : Nat, (paA M l i).testBit j = true ↔ ((63 : Nat).testBit j = true ∧ ∀ s, s < i → 0 < ct M (fun t => hd M l t == s) → s.testBit j = true) := by
  intro i
  induction i with
  | zero => exact ⟨fun h => ⟨h, fun s hs => absurd hs (Nat.not_lt_zero _)⟩, fun h => h.1⟩
  | succ i ih =>
    rw [paA_s]
    by_cases hc : 0 < ct M (fun t => hd M l t == i)
    · rw [if_pos hc, Nat.testBit_and, Bool.and_eq_true, ih]
      constructor
      · rintro ⟨⟨h1, h2⟩, h3⟩
        refine ⟨h1, fun s hs hp => ?_⟩
        by_cases e : s = i
        · subst e; exact h3
        · exact h2 s (by omega) hp
      · rintro ⟨h1, h2⟩
        exact ⟨⟨h1, fun s hs hp => h2 s (by omega) hp⟩, h2 i (by omega) hc⟩
    · rw [if_neg hc, ih]
      constructor
      · rintro ⟨h1, h2⟩
        refine ⟨h1, fun s hs hp => ?_⟩
        by_cases e : s = i
        · subst e; exact absurd hp hc
        · exact h2 s (by omega) hp
      · rintro ⟨h1, h2⟩
        exact ⟨h1, fun s hs hp => h2 s (by omega) hp⟩
theorem pyA_b (M : Mem) (l j : Nat) : ∀ i : Nat, (pyA M l i).testBit j = true ↔ ∃ s, s < i ∧ 0 < ct M (fun t => hd M l t == s) ∧ s.testBit j = true := by
  intro i
  induction i with
  | zero =>
    constructor
    · intro h
      have : pyA M l 0 = 0 := rfl
      rw [this, Nat.zero_testBit] at h; cases h
    · rintro ⟨s, hs, _⟩; omega
  | succ i ih =>
    rw [pyA_s]
    by_cases hc : 0 < ct M (fun t => hd M l t == i)
    · rw [if_pos hc, Nat.testBit_or, Bool.or_eq_true, ih]
      constructor
      · rintro (⟨s, h1, h2⟩ | h)
        · exact ⟨s, by omega, h2⟩
        · exact ⟨i, by omega, hc, h⟩
      · rintro ⟨s, h1, h2, h3⟩
        by_cases e : s = i
        · subst e; exact Or.inr h3
        · exact Or.inl ⟨s, by omega, h2, h3⟩
    · rw [if_neg hc, ih]
      constructor
      · rintro ⟨s, h1, h2⟩; exact ⟨s, by omega, h2⟩
      · rintro ⟨s, h1, h2, h3⟩
        by_cases e : s = i
        · subst e; exact absurd h2 hc
        · exact ⟨s, by omega, h2, h3⟩
theorem foldand_b (h : Nat → Nat) (j : Nat) : ∀ (L : List Nat) (a : Nat), (L.foldl (fun a t => a &&& h t) a).testBit j = true ↔ (a.testBit j = true ∧ ∀ t ∈ L, (h t).testBit j = true) := by
  intro L
  induction L with
  | nil => intro a; exact ⟨fun h => ⟨h, fun t ht => by cases ht⟩, fun h => h.1⟩
  | cons t L ih =>
    intro a
    rw [List.foldl_cons, ih, Nat.testBit_and, Bool.and_eq_true]
    constructor
    · rintro ⟨⟨h1, h2⟩, h3⟩
      refine ⟨h1, fun q hq => ?_⟩
      rcases List.mem_cons.mp hq with rfl | hq
      · exact h2
      · exact h3 q hq
    · rintro ⟨h1, h2⟩
      exact ⟨⟨h1, h2 t List.mem_cons_self⟩, fun q hq => h2 q (List.mem_cons_of_mem _ hq)⟩
theorem foldor_b (h : Nat → Nat) (j : Nat) : ∀ (L : List Nat) (a : Nat), (L.foldl (fun a t => a ||| h t) a).testBit j = true ↔ (a.testBit j = true ∨ ∃ t ∈ L, (h t).testBit j = true) := by
  intro L
  induction L with
  | nil => intro a; exact ⟨fun h => Or.inl h, fun h => by rcases h with h | ⟨t, ht, _⟩; exact h; cases ht⟩
  | cons t L ih =>
    intro a
    rw [List.foldl_cons, ih, Nat.testBit_or, Bool.or_eq_true]
    constructor
    · rintro ((h1 | h2) | ⟨q, hq, h3⟩)
      · exact Or.inl h1
      · exact Or.inr ⟨t, List.mem_cons_self, h2⟩
      · exact Or.inr ⟨q, List.mem_cons_of_mem _ hq, h3⟩
    · rintro (h1 | ⟨q, hq, h3⟩)
      · exact Or.inl (Or.inl h1)
      · rcases List.mem_cons.mp hq with rfl | hq
        · exact Or.inl (Or.inr h3)
        · exact Or.inr ⟨q, hq, h3⟩
theorem pa_qa (M : Mem) (l : Nat) : paA M l 64 = qaA M l (FT M).length := by
  apply Nat.eq_of_testBit_eq
  intro j
  rw [Bool.eq_iff_iff, paA_b]
  unfold qaA
  rw [List.take_length, foldand_b]
  refine ⟨fun ⟨h1, h2⟩ => ⟨h1, fun t ht => h2 _ (hd_lt (FT_lt ht)) (ct_pos.mpr ⟨t, ht, by simp⟩)⟩, fun ⟨h1, h2⟩ => ⟨h1, fun s hs hp => ?_⟩⟩
  obtain ⟨t, ht, h3⟩ := ct_pos.mp hp
  simp at h3
  rw [← h3]; exact h2 t ht
theorem py_qy (M : Mem) (l : Nat) : pyA M l 64 = qyA M l (FT M).length := by
  apply Nat.eq_of_testBit_eq
  intro j
  rw [Bool.eq_iff_iff, pyA_b]
  unfold qyA
  rw [List.take_length, foldor_b, Nat.zero_testBit]
  constructor
  · rintro ⟨s, hs, hp, hb⟩
    obtain ⟨t, ht, h3⟩ := ct_pos.mp hp
    simp at h3
    exact Or.inr ⟨t, ht, by rw [h3]; exact hb⟩
  · rintro (h | ⟨t, ht, hb⟩)
    · cases h
    · exact ⟨_, hd_lt (FT_lt ht), ct_pos.mpr ⟨t, ht, by simp⟩, hb⟩
theorem paA_lt (M : Mem) (l : Nat) : ∀ i : Nat, paA M l i < 64 := by
  intro i
  induction i with
  | zero => exact (by decide : (63 : Nat) < 64)
  | succ i ih =>
    rw [paA_s]; split
    · exact Nat.lt_of_le_of_lt Nat.and_le_left ih
    · exact ih
theorem pyA_lt (M : Mem) (l : Nat) : ∀ i : Nat, i ≤ 64 → pyA M l i < 64 := by
  intro i
  induction i with
  | zero => intro _; exact (by decide : (0 : Nat) < 64)
  | succ i ih =>
    intro hi
    rw [pyA_s]; split
    · exact Nat.or_lt_two_pow (n := 6) (ih (by omega)) (by omega)
    · exact ih (by omega)
theorem qaA_lt (M : Mem) (l k : Nat) : qaA M l k < 64 := by
  unfold qaA
  have : ∀ (L : List Nat) (a : Nat), a < 64 → L.foldl (fun a t => a &&& hd M l t) a < 64 := by
    intro L
    induction L with
    | nil => intro a h; exact h
    | cons t L ih => intro a h; exact ih _ (Nat.lt_of_le_of_lt Nat.and_le_left h)
  exact this _ _ (by decide)
theorem qyA_lt (M : Mem) (l k : Nat) : qyA M l k < 64 := by
  unfold qyA
  have : ∀ (L : List Nat) (a : Nat), (∀ t ∈ L, t < 720) → a < 64 → L.foldl (fun a t => a ||| hd M l t) a < 64 := by
    intro L
    induction L with
    | nil => intro a _ h; exact h
    | cons t L ih => intro a h1 h; exact ih _ (fun q hq => h1 q (List.mem_cons_of_mem _ hq)) (Nat.or_lt_two_pow (n := 6) h (hd_lt (h1 t List.mem_cons_self)))
  exact this _ _ (fun t ht => FT_lt (List.mem_of_mem_take ht)) (by decide)
theorem c_partsInAll {M : Mem} {l : Nat} (h : CH M) (hl : l < ln M) (hl2 : l < 10) : f_X1_partsInAll (l : Int) M = some ((paA M l 64 : Nat) : Int) := by
  unfold f_X1_partsInAll
  obtain ⟨n, st, e, hP⟩ := loopN (N := 64) (F := fun n i (st : Int) => f_X1_partsInAll_L5 (l : Int) M n st (i : Int)) (P := fun i st => st = ((paA M l i : Nat) : Int)) (by
    intro n i st hi hP
    subst hP
    have hlt := paA_lt M l i
    refine ⟨_, ?_, rfl⟩
    show f_X1_partsInAll_L5 (l : Int) M (n + 1) _ (i : Int) = f_X1_partsInAll_L5 (l : Int) M n _ ((i + 1 : Nat) : Int)
    rw [f_X1_partsInAll_L5, if_pos (by omega), c_having h hl hl2 hi, w32_n1 (a := i) (by omega), paA_s]
    by_cases hb : 0 < ct M (fun t => hd M l t == i)
    · rw [if_pos (by omega), b_and_n (by omega) (by omega), if_pos hb]
    · rw [if_neg (by omega), if_neg hb]) 64 100000 0 63 (by omega) (by omega) rfl
  have e : f_X1_partsInAll_L5 (l : Int) M 100000 63 0 = f_X1_partsInAll_L5 (l : Int) M (n + 1) st ((64 : Nat) : Int) := e
  rw [e, f_X1_partsInAll_L5, if_neg (by decide), hP]
theorem c_partsInAny {M : Mem} {l : Nat} (h : CH M) (hl : l < ln M) (hl2 : l < 10) : f_X1_partsInAny (l : Int) M = some ((pyA M l 64 : Nat) : Int) := by
  unfold f_X1_partsInAny
  obtain ⟨n, st, e, hP⟩ := loopN (N := 64) (F := fun n i (st : Int) => f_X1_partsInAny_L4 (l : Int) M n st (i : Int)) (P := fun i st => st = ((pyA M l i : Nat) : Int)) (by
    intro n i st hi hP
    subst hP
    have hlt := pyA_lt M l i (by omega)
    refine ⟨_, ?_, rfl⟩
    show f_X1_partsInAny_L4 (l : Int) M (n + 1) _ (i : Int) = f_X1_partsInAny_L4 (l : Int) M n _ ((i + 1 : Nat) : Int)
    rw [f_X1_partsInAny_L4, if_pos (by omega), c_having h hl hl2 hi, w32_n1 (a := i) (by omega), pyA_s]
    by_cases hb : 0 < ct M (fun t => hd M l t == i)
    · rw [if_pos (by omega), b_or_n (by omega) (by omega), if_pos hb]
    · rw [if_neg (by omega), if_neg hb]) 64 100000 0 0 (by omega) (by omega) rfl
  have e : f_X1_partsInAny_L4 (l : Int) M 100000 0 0 = f_X1_partsInAny_L4 (l : Int) M (n + 1) st ((64 : Nat) : Int) := e
  rw [e, f_X1_partsInAny_L4, if_neg (by decide), hP]
theorem r_partsL {K : Int → Int → Mem → Option (Int × Mem)} {x2 : Int} {M M2 : Mem} {l : Nat} (h : RA M) (ha : agr M M2) (ho : FO M M2) (hl : l < 10) : f_X10_partsOfLine_L36 K (l : Int) x2 100000 63 0 0 M2 = K ((paA M l 64 : Nat) : Int) ((pyA M l 64 : Nat) : Int) M2 := by
  have hlen := FT_len M
  obtain ⟨n, st, e, hP1, hP2⟩ := loopN (N := (FT M).length) (F := fun n k (st : Int × Int) => f_X10_partsOfLine_L36 K (l : Int) x2 n st.1 st.2 (k : Int) M2) (P := fun k st => st.1 = ((qaA M l k : Nat) : Int) ∧ st.2 = ((qyA M l k : Nat) : Int)) (by
    intro n k st hk hP
    obtain ⟨h1, h2⟩ := hP
    have hq1 := qaA_lt M l k
    have hq2 := qyA_lt M l k
    have h64 := hd_lt (M := M) (l := l) (FT_lt (getD_mem hk))
    refine ⟨(((qaA M l (k + 1) : Nat) : Int), ((qyA M l (k + 1) : Nat) : Int)), ?_, rfl, rfl⟩
    show f_X10_partsOfLine_L36 K (l : Int) x2 (n + 1) st.1 st.2 (k : Int) M2 = f_X10_partsOfLine_L36 K (l : Int) x2 n _ _ ((k + 1 : Nat) : Int) M2
    rw [f_X10_partsOfLine_L36, if_pos (by rw [ho.1]; omega), if_pos ⟨by omega, by omega⟩, Int.toNat_natCast, r_hi h ha ho hk hl, Option.bind_some, if_pos ⟨by omega, by omega⟩, Option.bind_some, h1, h2, b_and_n (by omega) (by omega), b_or_n (by omega) (by omega), w32_n1 (a := k) (by omega), qaA_s hk, qyA_s hk]) (FT M).length 100000 0 (63, 0) (by omega) (by omega) ⟨rfl, rfl⟩
  have e : f_X10_partsOfLine_L36 K (l : Int) x2 100000 63 0 0 M2 = f_X10_partsOfLine_L36 K (l : Int) x2 (n + 1) st.1 st.2 (((FT M).length : Nat) : Int) M2 := e
  rw [e, f_X10_partsOfLine_L36, if_neg (by rw [ho.1]; omega), hP1, hP2, pa_qa, py_qy]
theorem op_partsOfLine {M : Mem} (h : Inv M) (x y : Int) : OK2 (f_X9_partsOfLine x y) (f_X10_partsOfLine x y) M := by
  rcases isl_n h (x := x) with h0 | ⟨l, rfl, hl, hl2, h0⟩
  · exact OK2.no h (by rw [f_X9_partsOfLine, if_pos h0]) (by rw [f_X10_partsOfLine, isl_e h, if_pos h0])
  by_cases h1 : f_X9_within y 0 1 = 0
  · exact OK2.no h (by rw [f_X9_partsOfLine, if_neg h0, if_pos h1]) (by rw [f_X10_partsOfLine, isl_e h, if_neg h0, in_w, if_pos h1])
  refine qry h fun M1 e1 a1 i1 c1 => ?_
  have hl' : l < ln M1 := by rw [a1.eln]; exact hl
  have hlen := FT_len M1
  refine ⟨if (FT M1).length = 0 then -1 else if y = 0 then ((paA M1 l 64 : Nat) : Int) else ((pyA M1 l 64 : Nat) : Int), M1, ?_, agq.refl, i1, c1, fun M3 e3 a3 o3 => ⟨M3, ?_, a3⟩⟩
  · rw [f_X9_partsOfLine, if_neg h0, if_neg h1]
    refine ob_I e1 ?_
    rw [c1.1, c_partsInAll c1 hl' hl2, c_partsInAny c1 hl' hl2, Option.bind_some, Option.bind_some]
    by_cases hz : (FT M1).length = 0
    · rw [if_pos (by omega), if_pos hz]
    · rw [if_neg (by omega), if_neg hz]
      by_cases hy : y = 0
      · rw [if_pos hy, if_pos hy]
      · rw [if_neg hy, if_neg hy]
  · rw [f_X10_partsOfLine, isl_e i1, line_n h a1, if_neg h0, in_w, if_neg h1]
    refine ob_I e3 ?_
    rw [r_partsL i1.1 a3 o3 hl2, o3.1]
    by_cases hz : (FT M1).length = 0
    · rw [if_pos (by omega), if_pos hz]
    · rw [if_neg (by omega), if_neg hz]
      by_cases hy : y = 0
      · rw [if_pos hy, if_pos hy]
      · rw [if_neg hy, if_neg hy]
