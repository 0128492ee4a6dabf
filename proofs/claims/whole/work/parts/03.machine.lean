/-! THE PLAIN MACHINE: a method's run told over integers. A world is a list of cells (address, shape) and one memory: cell, place -> integer. -/
def w32 (z : Int) : Int := (z + 2147483648) % 4294967296 - 2147483648
def w64 (z : Int) : Int := (z + 9223372036854775808) % 18446744073709551616 - 9223372036854775808
def r32 (z : Int) : Prop := -2147483648 ≤ z ∧ z < 2147483648
def r64 (z : Int) : Prop := -9223372036854775808 ≤ z ∧ z < 9223372036854775808
theorem w32_r (z : Int) : r32 (w32 z) := by unfold r32 w32; omega
theorem w64_r (z : Int) : r64 (w64 z) := by unfold r64 w64; omega
theorem w32_id {z : Int} (h1 : -2147483648 ≤ z) (h2 : z < 2147483648) : w32 z = z := by unfold w32; omega
theorem w64_id {z : Int} (h1 : -9223372036854775808 ≤ z) (h2 : z < 9223372036854775808) : w64 z = z := by unfold w64; omega
theorem ti32 {z : Int} (h : r32 z) : (Int32.ofInt z).toInt = z := Int32.toInt_ofInt_of_le h.1 h.2
theorem ti64 {z : Int} (h : r64 z) : (Int64.ofInt z).toInt = z := Int64.toInt_ofInt_of_le h.1 h.2
theorem of_w32 (z : Int) : Int32.ofInt (w32 z) = Int32.ofInt z := by
  have e : w32 z = z - 4294967296 * ((z + 2147483648) / 4294967296) := by unfold w32; omega
  rw [e, Int32.ofInt_sub, Int32.ofInt_mul, show Int32.ofInt 4294967296 = 0 from rfl]
  simp
theorem of_w64 (z : Int) : Int64.ofInt (w64 z) = Int64.ofInt z := by
  have e : w64 z = z - 18446744073709551616 * ((z + 9223372036854775808) / 18446744073709551616) := by unfold w64; omega
  rw [e, Int64.ofInt_sub, Int64.ofInt_mul, show Int64.ofInt 18446744073709551616 = 0 from rfl]
  simp
theorem x32_r (x : Int32) : r32 x.toInt := ⟨Int32.le_toInt x, Int32.toInt_lt x⟩
theorem x64_r (x : Int64) : r64 x.toInt := ⟨Int64.le_toInt x, Int64.toInt_lt x⟩
def b_and (a b : Int) : Int := (Int32.ofInt a &&& Int32.ofInt b).toInt
def b_or (a b : Int) : Int := (Int32.ofInt a ||| Int32.ofInt b).toInt
def b_xor (a b : Int) : Int := (Int32.ofInt a ^^^ Int32.ofInt b).toInt
def b_shl (a b : Int) : Int := (Int32.ofInt a <<< (Int32.ofInt b &&& 31)).toInt
def b_shr (a b : Int) : Int := (Int32.ofInt a >>> (Int32.ofInt b &&& 31)).toInt
def b_ushr (a b : Int) : Int := (((Int32.ofInt a).toUInt32 >>> ((Int32.ofInt b).toUInt32 &&& Int32.toUInt32 31)).toInt32).toInt
def b_i2b (a : Int) : Int := (Int32.ofInt a).toInt8.toInt32.toInt
def b_i2s (a : Int) : Int := (Int32.ofInt a).toInt16.toInt32.toInt
def b_i2c (a : Int) : Int := ((Int32.ofInt a).toUInt32 % 65536).toInt32.toInt
def b_div (a b : Int) : Int := (Int32.ofInt a / Int32.ofInt b).toInt
def b_rem (a b : Int) : Int := (Int32.ofInt a - Int32.ofInt a / Int32.ofInt b * Int32.ofInt b).toInt
def b_ldiv (a b : Int) : Int := (Int64.ofInt a / Int64.ofInt b).toInt
def b_lrem (a b : Int) : Int := (Int64.ofInt a - Int64.ofInt a / Int64.ofInt b * Int64.ofInt b).toInt
/-- int, long, a reference or null -/
abbrev SV : Type := Int ⊕ (Int ⊕ Option Nat)
/-- an int array of a length; an object of a class, for each field: an int (it lies in the memory), or a reference -/
abbrev SC : Type := Nat ⊕ (Nat × List (Option (Option Nat)))
abbrev SW : Type := List (Nat × SC)
abbrev Mem : Type := Nat → Nat → Int
abbrev MM : Type := MethodName × ByteArray × Nat × Option FieldType
/-- the first address of the worlds; the classes' numbers; the class of int[]; the frozen addresses; the formatter; the script's length, the script -/
abbrev GG : Type := Nat × va_G × ClassId × (Nat → Nat) × Option Nat × Nat × (Nat → Int)
abbrev q_cl : List vw_C := [(RX0, TX0, 5), (RX1, TX1, 7), (RX2, TX2, 7), (RX3, TX3, 4), (RX4, TX4, 3), (RX5, TX5, 4), (RX6, TX6, 8), (RX7, TX7, 1), (RX8, TX8, 5), (RX9, TX9, 13), (RX10, TX10, 47)]
def q_V : SV → Value
  | .inl z => .int (Int32.ofInt z)
  | .inr (.inl z) => .long (Int64.ofInt z)
  | .inr (.inr none) => .null
  | .inr (.inr (some a)) => .ref a
def q_F (f : Nat → Int) : Nat → List (Option (Option Nat)) → List Value
  | _, [] => []
  | i, none :: l => .int (Int32.ofInt (f i)) :: q_F f (i + 1) l
  | i, some none :: l => .null :: q_F f (i + 1) l
  | i, some (some a) :: l => .ref a :: q_F f (i + 1) l
def q_E (cI : ClassId) (f : Nat → Int) : SC → va_E
  | .inl n => .inl (cI, n, .inl (fun j => Int32.ofInt (f j)))
  | .inr (ci, fs) => .inr (ci, q_F f 0 fs)
def q_W (cI : ClassId) (M : Mem) : Nat → SW → va_W
  | _, [] => []
  | i, (a, c) :: l => (a, q_E cI (M i) c) :: q_W cI M (i + 1) l
theorem q_W_get (cI : ClassId) (M : Mem) : ∀ (S : SW) (i k : Nat), (q_W cI M i S)[k]? = (S[k]?).map (fun q => (q.1, q_E cI (M (i + k)) q.2)) := by
  intro S
  induction S with
  | nil => intro i k; simp [q_W]
  | cons q l ih =>
    obtain ⟨a, c⟩ := q
    intro i k
    cases k with
    | zero => simp [q_W]
    | succ k => simp only [q_W, List.getElem?_cons_succ]; rw [ih, show i + 1 + k = i + (k + 1) by omega]
theorem q_W_at {cI : ClassId} {M : Mem} {S : SW} {k : Nat} {a : Nat} {c : SC} (h : S[k]? = some (a, c)) : (q_W cI M 0 S)[k]? = some (a, q_E cI (M k) c) := by
  rw [q_W_get, h, Nat.zero_add]; rfl
theorem q_W_len (cI : ClassId) (M : Mem) : ∀ (S : SW) (i : Nat), (q_W cI M i S).length = S.length := by
  intro S
  induction S with
  | nil => intro i; rfl
  | cons q l ih => obtain ⟨a, c⟩ := q; intro i; simp [q_W, ih]
/-- one cell's memory changes -/
def mup (M : Mem) (k : Nat) (g : Nat → Int) : Mem := fun i => if i = k then g else M i
def mset (M : Mem) (k i : Nat) (v : Int) : Mem := fun c j => if c = k ∧ j = i then v else M c j
theorem mset_mup (M : Mem) (k i : Nat) (v : Int) : mset M k i v = mup M k (fun j => if j = i then v else M k j) := by
  funext c j
  unfold mset mup
  by_cases h : c = k
  · subst h; by_cases h2 : j = i <;> simp [h2]
  · simp [h]
theorem q_W_set {cI : ClassId} {M : Mem} {S : SW} {k a : Nat} {c c' : SC} (g : Nat → Int) (h : S[k]? = some (a, c)) : (q_W cI M 0 S).set k (a, q_E cI g c') = q_W cI (mup M k g) 0 (S.set k (a, c')) := by
  apply List.ext_getElem?
  intro j
  have hk : k < S.length := (List.getElem?_eq_some_iff.mp h).1
  rw [List.getElem?_set, q_W_get, q_W_get, q_W_len, List.getElem?_set]
  by_cases e : k = j
  · subst e
    simp [hk, mup]
  · have e2 : ¬ j = k := fun q => e q.symm
    simp [e, e2, mup]
theorem q_set_same {S : SW} {k a : Nat} {c : SC} (h : S[k]? = some (a, c)) : S.set k (a, c) = S := by
  apply List.ext_getElem?
  intro j
  rw [List.getElem?_set]
  by_cases e : k = j
  · subst e; simp [(List.getElem?_eq_some_iff.mp h).1]; exact (List.getElem?_eq_some_iff.mp h).2.symm
  · simp [e]
theorem q_W_push (cI : ClassId) (M : Mem) (S : SW) (a : Nat) (c : SC) (g : Nat → Int) : q_W cI M 0 S ++ [(a, q_E cI g c)] = q_W cI (mup M S.length g) 0 (S ++ [(a, c)]) := by
  apply List.ext_getElem?
  intro j
  by_cases h : j < S.length
  · rw [List.getElem?_append_left (by rw [q_W_len]; exact h), q_W_get, q_W_get, List.getElem?_append_left h]
    have e : ¬ j = S.length := by omega
    simp [mup, e]
  · rw [List.getElem?_append_right (by rw [q_W_len]; omega), q_W_get, List.getElem?_append_right (by omega), q_W_len]
    by_cases e : j = S.length
    · subst e; simp [mup]
    · have e2 : j - S.length = (j - S.length - 1) + 1 := by omega
      rw [e2]; simp
theorem q_F_get (f : Nat → Int) : ∀ (fs : List (Option (Option Nat))) (i k : Nat), (q_F f i fs)[k]? = (fs[k]?).map (fun o => match o with | none => .int (Int32.ofInt (f (i + k))) | some none => .null | some (some a) => .ref a) := by
  intro fs
  induction fs with
  | nil => intro i k; simp [q_F]
  | cons o l ih =>
    intro i k
    cases k with
    | zero => rcases o with _ | (_ | a) <;> simp [q_F]
    | succ k => rcases o with _ | (_ | a) <;> (simp only [q_F, List.getElem?_cons_succ]; rw [ih, show i + 1 + k = i + (k + 1) by omega])
theorem q_F_len (f : Nat → Int) : ∀ (fs : List (Option (Option Nat))) (i : Nat), (q_F f i fs).length = fs.length := by
  intro fs
  induction fs with
  | nil => intro i; rfl
  | cons o l ih => intro i; rcases o with _ | (_ | a) <;> simp [q_F, ih]
theorem q_F_set {f : Nat → Int} {fs : List (Option (Option Nat))} {k : Nat} (v : Int) (h : fs[k]? = some none) : (q_F f 0 fs).set k (.int (Int32.ofInt v)) = q_F (fun j => if j = k then v else f j) 0 fs := by
  apply List.ext_getElem?
  intro j
  have hk : k < fs.length := (List.getElem?_eq_some_iff.mp h).1
  rw [List.getElem?_set, q_F_get, q_F_get, q_F_len, Nat.zero_add]
  by_cases e : k = j
  · subst e
    have hk2 : fs[k] = none := (List.getElem?_eq_some_iff.mp h).2
    simp [hk, hk2]
  · have e2 : ¬ j = k := fun q => e q.symm
    simp [e, e2]
theorem q_F_setR {f : Nat → Int} {fs : List (Option (Option Nat))} {k : Nat} (r : Option Nat) (h : k < fs.length) : (q_F f 0 fs).set k (q_V (.inr (.inr r))) = q_F f 0 (fs.set k (some r)) := by
  apply List.ext_getElem?
  intro j
  rw [List.getElem?_set, q_F_get, q_F_get, q_F_len, List.getElem?_set, Nat.zero_add]
  by_cases e : k = j
  · subst e
    rcases r with _ | a <;> simp [h, q_V]
  · simp [e]
/-! ranges -/
def q_R : SV → Prop
  | .inl z => r32 z
  | .inr (.inl z) => r64 z
  | .inr (.inr _) => True
def q_RM (M : Mem) : Prop := ∀ c i, r32 (M c i)
def q_RL (st : List SV) : Prop := ∀ v ∈ st, q_R v
def q_RO (ls : List (Option SV)) : Prop := ∀ v, some v ∈ ls → q_R v
theorem q_RL.tl {v : SV} {st : List SV} (h : q_RL (v :: st)) : q_RL st := fun w hw => h w (List.mem_cons_of_mem _ hw)
theorem q_RL.hd {v : SV} {st : List SV} (h : q_RL (v :: st)) : q_R v := h v List.mem_cons_self
theorem q_RL.cons {v : SV} {st : List SV} (hv : q_R v) (h : q_RL st) : q_RL (v :: st) := fun w hw => by
  rcases List.mem_cons.mp hw with rfl | hw
  · exact hv
  · exact h w hw
theorem q_RL.nil : q_RL [] := fun _ h => absurd h List.not_mem_nil
theorem q_RM.set {M : Mem} (h : q_RM M) {k i : Nat} {v : Int} (hv : r32 v) : q_RM (mset M k i v) := by
  intro c j
  unfold mset
  split
  · exact hv
  · exact h c j
theorem q_RM.up {M : Mem} (h : q_RM M) {k : Nat} {g : Nat → Int} (hg : ∀ j, r32 (g j)) : q_RM (mup M k g) := by
  intro c j
  unfold mup
  split
  · exact hg j
  · exact h c j
/-! the tables' words -/
def q_ok : Cond → Bool
  | .methodLinkNest .. => true
  | .fieldLinkNest .. => true
  | .arrayClass _ => false
  | w => w.onTables && w.keeps
def q_in (w : Cond) : Prop := w ∈ lw_tbl ∧ q_ok w = true
def q_T (U : State) : Prop := (∀ w : Cond, q_in w → va_Nw w U) ∧ (Cond.arrayClass .int).before #[] U = true
theorem q_ok_tab {w : Cond} (h : q_ok w = true) : w.onTables = true := by
  cases w <;> first | rfl | (simp [q_ok, Cond.onTables] at h)
theorem q_T.use {U : State} (h : q_T U) {w : Cond} (hw : q_in w) {A : Array Value} : w.before A U = true := va_Nw.use (q_ok_tab hw.2) (h.1 w hw)
theorem q_T.warm {s U : State} (hW : s.WarmedH U.vm) (h : q_T s) : q_T U := by
  refine ⟨fun w hw => ?_, word_at hW (Or.inr ⟨_, rfl⟩) h.2⟩
  have h1 := h.1 w hw
  have h2 := hw.2
  cases w
  case methodLinkNest a i x h => exact va_Nw.warmM hW h1
  case fieldLinkNest a i b n d h => exact va_Nw.warmF hW h1
  case arrayClass ty => simp [q_ok] at h2
  all_goals exact word_at hW (Or.inl h2) h1
/-! the frozen things: the script, two static rows, the texts -/
def q_str : List (String × Nat × String × List Int) := [
  ("CardNobodyReads$Tape", 61, "();+-*<=", [40, 41, 59, 43, 45, 42, 60, 61]),
  ("CardNobodyReads$Tape", 68, "may", [109, 97, 121]),
  ("CardNobodyReads$Tape", 74, "likes", [108, 105, 107, 101, 115]),
  ("CardNobodyReads$Tape", 76, "learns", [108, 101, 97, 114, 110, 115]),
  ("CardNobodyReads$Tape", 78, "or", [111, 114]),
  ("CardNobodyReads$Tape", 80, "and", [97, 110, 100]),
  ("CardNobodyReads$Tape", 82, "not", [110, 111, 116]),
  ("CardNobodyReads$Tape", 84, "price", [112, 114, 105, 99, 101]),
  ("CardNobodyReads$Tape", 88, "parts", [112, 97, 114, 116, 115]),
  ("CardNobodyReads$Tape", 90, "place", [112, 108, 97, 99, 101]),
  ("CardNobodyReads$Tape", 92, "many", [109, 97, 110, 121]),
  ("CardNobodyReads$Tape", 94, "guest", [103, 117, 101, 115, 116]),
  ("CardNobodyReads$Tape", 96, "left", [108, 101, 102, 116]),
  ("CardNobodyReads$Texts", 31, "may 1 ; likes 50 - price + many ; learns 720 - left ;", [109, 97, 121, 32, 49, 32, 59, 32, 108, 105, 107, 101, 115, 32, 53, 48, 32, 45, 32, 112, 114, 105, 99, 101, 32, 43, 32, 109, 97, 110, 121, 32, 59, 32, 108, 101, 97, 114, 110, 115, 32, 55, 50, 48, 32, 45, 32, 108, 101, 102, 116, 32, 59])]
def q_sb (i : Nat) : List Int := (q_str.map (fun q => q.2.2.2)).getD i []
def q_sl : List Nat := q_str.map (fun q => q.2.2.2.length)
def q_sB : List (List Int32) := q_str.map (fun q => q.2.2.2.map Int32.ofInt)
/-- the frozen rows of ints: their lengths, what they hold -/
def q_fl (g : GG) : Nat → Nat
  | 0 => g.2.2.2.2.2.1
  | _ => 6
def q_ff (g : GG) : Nat → Nat → Int
  | 0 => g.2.2.2.2.2.2
  | 1 => fun j => ([120, 24, 6, 2, 1, 1] : List Int).getD j 0
  | _ => fun j => ([-1, 0, 0, 2, 1, 2] : List Int).getD j 0
def q_A (g : GG) : Nat → Prop := fun q => g.1 ≤ q
def q_G (g : GG) : Prop := (∀ j i, r32 (q_ff g j i)) ∧ g.2.2.2.2.2.1 ≤ 3584
def q_Z (g : GG) (U : State) (H : Heap) : Prop :=
  q_G g ∧ (∀ j, j < 3 → va_T .int (g.2.2.2.1 j) (q_fl g j) (fun i => .int (Int32.ofInt (q_ff g j i))) (q_A g) U H) ∧
  va_Z "CardNobodyReads" "TURNS" "[I" (.ref (g.2.2.2.1 1)) (q_A g) U H ∧ va_Z "CardNobodyReads" "KIND_ABOVE" "[I" (.ref (g.2.2.2.1 2)) (q_A g) U H ∧
  va_Z "java/lang/String" "COMPACT_STRINGS" "Z" (.int 1) (q_A g) U H ∧ va_Z "jdk/internal/util/Preconditions" "SIOOBE_FORMATTER" "Ljava/util/function/BiFunction;" (q_V (.inr (.inr g.2.2.2.2.1))) (q_A g) U H ∧
  vk_S 14 q_sl q_sB (fun i => g.2.2.2.1 (10 + i)) (fun i => g.2.2.2.1 (30 + i)) (q_A g) U H ∧
  (∀ (i : Nat) (q : String × Nat × String × List Int), q_str[i]? = some q → vk_R q.1 q.2.1 q.2.2.1 (g.2.2.2.1 (10 + i)) U)
theorem q_Z.warm {g : GG} {s U : State} {H : Heap} (hW : s.WarmedH U.vm) (h : q_Z g s H) : q_Z g U H := by
  obtain ⟨h0, h1, h2, h3, h4, h5, h6, h7⟩ := h
  exact ⟨h0, fun j hj => (h1 j hj).moved hW.alike, h2.moved hW.alike, h3.moved hW.alike, h4.moved hW.alike, h5.moved hW.alike, h6.moved hW.alike, fun i q hq => (h7 i q hq).warm hW⟩
theorem q_Z.kept {g : GG} {U : State} {H H1 : Heap} (h : q_Z g U H) (hq : ∀ a : Nat, a < H.size → ¬ q_A g a → H1[a]? = H[a]?) : q_Z g U H1 := by
  obtain ⟨h0, h1, h2, h3, h4, h5, h6, h7⟩ := h
  exact ⟨h0, fun j hj => (h1 j hj).kept hq, h2.kept hq, h3.kept hq, h4.kept hq, h5.kept hq, h6.kept hq, h7⟩
/-! the world -/
def q_P (g : GG) (S : SW) (M : Mem) (H : Heap) : Prop := va_P g.2.1 q_cl (q_W g.2.2.1 M 0 S) H ∧ va_D (q_A g) (q_W g.2.2.1 M 0 S)
def q_K (g : GG) (U : State) : Prop := va_K g.2.1 q_cl [(g.2.2.1, .int)] U
theorem q_K.moved {g : GG} {u U : State} (hvm : u.vm.Alike U.vm) (h : q_K g u) : q_K g U := va_K.moved hvm h
/-! locals -/
def q_L (lsR : Array Slot) (n : Nat) (ls : List (Option SV)) : Prop := lsR.size = n ∧ lv_wf lsR ∧ ∀ (i : Nat) (v : SV), ls[i]? = some (some v) → lsR[i]? = some (.val (q_V v))
def q_lv : Nat → List (Option SV) → List (Nat × Value)
  | _, [] => []
  | i, none :: l => q_lv (i + 1) l
  | i, some v :: l => (i, q_V v) :: q_lv (i + 1) l
theorem q_lv_mem : ∀ (l : List (Option SV)) (i : Nat) (q : Nat × Value), q ∈ q_lv i l ↔ ∃ (k : Nat) (v : SV), l[k]? = some (some v) ∧ q = (i + k, q_V v) := by
  intro l
  induction l with
  | nil => intro i q; simp [q_lv]
  | cons o l ih =>
    intro i q
    rcases o with _ | v
    · simp only [q_lv]
      rw [ih]
      constructor
      · rintro ⟨k, v, h1, h2⟩
        exact ⟨k + 1, v, by simpa using h1, by rw [h2, show i + 1 + k = i + (k + 1) by omega]⟩
      · rintro ⟨k, v, h1, h2⟩
        cases k with
        | zero => simp at h1
        | succ k => exact ⟨k, v, by simpa using h1, by rw [h2, show i + 1 + k = i + (k + 1) by omega]⟩
    · simp only [q_lv, List.mem_cons]
      rw [ih]
      constructor
      · rintro (h | ⟨k, w, h1, h2⟩)
        · exact ⟨0, v, rfl, h⟩
        · exact ⟨k + 1, w, by simpa using h1, by rw [h2, show i + 1 + k = i + (k + 1) by omega]⟩
      · rintro ⟨k, w, h1, h2⟩
        cases k with
        | zero => left; simp at h1; subst h1; exact h2
        | succ k => right; exact ⟨k, w, by simpa using h1, by rw [h2, show i + 1 + k = i + (k + 1) by omega]⟩
theorem q_L.has {lsR : Array Slot} {n : Nat} {ls : List (Option SV)} (h : q_L lsR n ls) : lv_has lsR n (q_lv 0 ls) := by
  refine ⟨h.1, h.2.1, fun q hq => ?_⟩
  obtain ⟨k, v, h1, rfl⟩ := (q_lv_mem ls 0 q).mp hq
  rw [Nat.zero_add]
  exact h.2.2 k v h1
def q_cat : SV → Nat
  | .inr (.inl _) => 2
  | _ => 1
theorem q_cat_eq (v : SV) : (q_V v).category = q_cat v := by
  rcases v with z | (z | (_ | a)) <;> rfl
/-- no long lies across the place -/
def q_nl (ls : List (Option SV)) : Nat → Bool
  | 0 => true
  | j + 1 => match ls[j]? with
    | some (some (.inr (.inl _))) => false
    | _ => true
theorem q_L.set1 {lsR : Array Slot} {n : Nat} {ls : List (Option SV)} {i : Nat} {v : SV} (hnl : q_nl ls i = true) (hi : i < ls.length) (h : lv_has lsR n ((i, q_V v) :: (q_lv 0 ls).filter (fun q => !(q.1 == i) && !(q.1 + 1 == i && q.2.category == 2)))) : q_L lsR n (ls.set i (some v)) := by
  refine ⟨h.1, h.2.1, fun j w hj => ?_⟩
  rw [List.getElem?_set] at hj
  by_cases e : i = j
  · subst e
    simp [hi] at hj
    subst hj
    exact h.2.2 _ List.mem_cons_self
  · simp [e] at hj
    refine h.2.2 (j, q_V w) (List.mem_cons_of_mem _ (List.mem_filter.mpr ⟨(q_lv_mem ls 0 _).mpr ⟨j, w, hj, by rw [Nat.zero_add]⟩, ?_⟩))
    have e1 : ¬ j = i := fun q => e q.symm
    have e2 : ¬ (j + 1 = i ∧ (q_V w).category = 2) := by
      rintro ⟨rfl, h2⟩
      rw [q_cat_eq] at h2
      rcases w with z | (z | o)
      · simp [q_cat] at h2
      · simp [q_nl, hj] at hnl
      · simp [q_cat] at h2
    simp [e1]
    exact Classical.not_and_iff_not_or_not.mp e2
theorem q_L.set2 {lsR : Array Slot} {n : Nat} {ls : List (Option SV)} {i : Nat} {z : Int} (hnl : q_nl ls i = true) (hi : i < ls.length) (h : lv_has lsR n ((i, Value.long (Int64.ofInt z)) :: (q_lv 0 ls).filter (fun q => !(q.1 == i) && (!(q.1 == i + 1) && !(q.1 + 1 == i && q.2.category == 2))))) : q_L lsR n ((ls.set i (some (.inr (.inl z)))).set (i + 1) none) := by
  refine ⟨h.1, h.2.1, fun j w hj => ?_⟩
  rw [List.getElem?_set] at hj
  by_cases e0 : i + 1 = j
  · subst e0
    by_cases hl : i + 1 < (ls.set i (some (.inr (.inl z)) : Option SV)).length
    · rw [if_pos rfl, if_pos hl] at hj
      cases hj
    · rw [if_pos rfl, if_neg hl] at hj
      cases hj
  rw [if_neg e0, List.getElem?_set] at hj
  by_cases e : i = j
  · subst e
    simp [hi] at hj
    subst hj
    exact h.2.2 _ List.mem_cons_self
  · simp [e] at hj
    refine h.2.2 (j, q_V w) (List.mem_cons_of_mem _ (List.mem_filter.mpr ⟨(q_lv_mem ls 0 _).mpr ⟨j, w, hj, by rw [Nat.zero_add]⟩, ?_⟩))
    have e1 : ¬ j = i := fun q => e q.symm
    have e3 : ¬ j = i + 1 := fun q => e0 q.symm
    have e2 : ¬ (j + 1 = i ∧ (q_V w).category = 2) := by
      rintro ⟨rfl, h2⟩
      rw [q_cat_eq] at h2
      rcases w with z | (z | o)
      · simp [q_cat] at h2
      · simp [q_nl, hj] at hnl
      · simp [q_cat] at h2
    simp [e1, e3]
    exact Classical.not_and_iff_not_or_not.mp e2
theorem q_RO.set {ls : List (Option SV)} (h : q_RO ls) {i : Nat} {v : SV} (hv : q_R v) : q_RO (ls.set i (some v)) := by
  intro w hw
  rcases List.mem_or_eq_of_mem_set hw with h1 | h1
  · exact h w h1
  · cases h1; exact hv
theorem q_RO.setN {ls : List (Option SV)} (h : q_RO ls) {i : Nat} : q_RO (ls.set i none) := by
  intro w hw
  rcases List.mem_or_eq_of_mem_set hw with h1 | h1
  · exact h w h1
  · cases h1
theorem q_RO.at {ls : List (Option SV)} (h : q_RO ls) {i : Nat} {v : SV} (hi : ls[i]? = some (some v)) : q_R v := h v (List.mem_of_getElem? hi)
/-! a run: from here on the method comes to its end with Post -/
abbrev PP : Type := Option SV → SW → Mem → Prop
def q_Q (g : GG) (Post : PP) : Array Value → State → Outcome → State → Prop := fun _ st o t =>
  (∃ (r : Option SV) (S' : SW) (M' : Mem), Post r S' M' ∧ (∀ v, r = some v → q_R v) ∧ q_RM M' ∧ o = .returned (r.map q_V) ∧ q_P g S' M' t.heap ∧ q_K g t) ∧ va_F (q_A g) st t
def q_C (mm : MM) (p : Program) (s : State) (m : MethodId) (meth : Method) (c : Code) : Prop :=
  p.tables.exec = Jvm.exec ∧ c.code = mm.2.1 ∧ meth.sig.returnType = mm.2.2.2 ∧ c.maxLocals = mm.2.2.1 ∧ s.vm.findClass mm.1.cls = some m.cls ∧ q_T s ∧ meth.locks = false ∧ meth.name = mm.1.name
/-- what holds at a point of a run -/
def q_X (g : GG) (mm : MM) (S : SW) (M : Mem) (ls : List (Option SV)) (p : Program) (s : State) (m : MethodId) (meth : Method) (c : Code) (H : Heap) (locs : List Loc) (lsR : Array Slot) : Prop :=
  q_C mm p s m meth c ∧ va_S (q_A g) s.heap H locs ∧ q_P g S M H ∧ q_K g s ∧ q_Z g s s.heap ∧ g.1 ≤ s.heap.size ∧ q_L lsR mm.2.2.1 ls
def RW (l : Launch) (g : GG) (mm : MM) (R : Room) (mc ms : Nat) (Post : PP) (pc : Nat) (S : SW) (M : Mem) (k n : Nat) (ls : List (Option SV)) (st : List SV) : Prop :=
  q_RO ls → q_RL st → q_RM M → ∀ (p : Program) (e : Env) (s : State) (m : MethodId) (args : Array Value) (below : List Frame) (meth : Method) (c : Code) (H : Heap) (locs : List Loc) (lsR : Array Slot),
    q_X g mm S M ls p s m meth c H locs lsR → W p l e R s m args below meth c H locs k n (MQ below (q_Q g Post) args s mc ms (q_A g)) (F0 m pc lsR (st.map q_V))
/-- a method's contract -/
def q_B (g : GG) (S : SW) (M : Mem) (U : State) : Prop := g.1 ≤ U.heap.size ∧ q_P g S M U.heap ∧ q_K g U ∧ q_Z g U U.heap ∧ q_T U
def q_rm (d mc ms : Nat) : Room := { frames := d, cells := mc, slots := ms, locals := 64 * d }
def CT (l : Launch) (g : GG) (mm : MM) (d mc ms : Nat) (S : SW) (M : Mem) (args : List SV) (Post : PP) : Prop :=
  q_RL args → q_RM M → Met l mm.1 [.code mm.1 mm.2.1 mm.2.2.1 mm.2.2.2] (q_rm d mc ms) (va_Pc (args.map q_V) (q_B g S M)) (q_Q g Post) mc ms (q_A g)
/-- an instruction of a code, its length, the place behind it -/
def q_d (c : ByteArray) (pc : Nat) (ins : Instr) (len pc' : Nat) : Prop := decode c pc = .ok (ins, len) ∧ pc + len = pc'
theorem q_dt {c : ByteArray} {t : List (Nat × Instr × Nat × Nat)} (h : ∀ q ∈ t, decode c q.1 = .ok (q.2.1, q.2.2.1) ∧ q.1 + q.2.2.1 = q.2.2.2) (i : Nat) {pc : Nat} {ins : Instr} {len pc' : Nat} (hi : t[i]? = some (pc, ins, len, pc')) : q_d c pc ins len pc' := h (pc, ins, len, pc') (List.mem_of_getElem? hi)
