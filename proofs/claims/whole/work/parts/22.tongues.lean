/-! the tongues: part of a sign, 3 bits each -/
def TT : Nat := 455498570197711749010957904351519117023471056843734810162921130615690140906625219161976867188089757211984822289836946213513630993324236385992626680501062140103379639934333022361301337770890454276057898473653914239370824433533281276903682010010691692254286522419628286481360150510386636978374803053011684942246136894375944111488752302881636302840166691561026082781854187843485176063911291615212674499049565234106347119034341025517833785112194415339592576264218811789413984924671206143634283010728873478446161978329530037680317092429389171433091383857773827785695745376389739579430870883013590111868028652135241416524525837977341643650827293915682538566044042312392640945457192563037544840477500842267181450178712993602507073146567603823423511107383801465406477932442967914157593251793781694717957892565144624110856881451119845390363035753779570088129164224353818004046112153914519142496764939451275740186476426041694277009921494088007702335011167289990989973186186725255606208444007252495123323845432453230067664544374414351055491861193519444777540787052299141279302550125690788133243567719031930468100604514192908291576795428012225481902035161689160851557276861459112461555744143742803358969723879693876113968960667421240441771248904385537530389991290674850961215826498092782788995429269736508202071772896643559918846703402163093849870512719405415199444216544967716821161404762490233972128877821168449367646275707457343147684428838518192871467725964253963888070317644546495016128093716731707832161320202039481796607163180896798834776298677311067153409803258380593295373137717696718147162251953527761335996227103615276331872197669014523475086715648455099722867540099162723155105526010243889406164032353830284793979350108338610791023480216779181820347576758076144480211984850725339251657499940589925606937223824807751710142086742761650795368678779620620737339743349097817019231262301855116514058588198161646698192339240487135564501469765982460473042226657081457981159143731219918628544893325252115456798565454628325427092167391148181842321468736322455292057685470140018042999746547324133009294317117845325289620120663630153429479782808797576849403906180789454869758980819789126971239229765380223992385033500535060417412368667151245929961600924490051151561793504081402738487853733794730345268573789676200761534392088176852735403473339563280388780126573934684886911073057789176790123895575571633446264269307442133307801195993040474454725436930446883998811841539332866208346810979200539461829670426556095604125249680059564274825246034454379682655996838921405635357842863298093123946721112119059670220051884986444456121088396819467984431621692555924896462855757127781279308187710680714280175196954524649603146781827079048828512540071640018840203856560997958996929582512583247457396075904248485639417122219651541070906185767172252610393094881444052426979030837500512339589169284110883819444774507842446182145355453784046972870055200198225164846290655846977478572815443476204100071599930876085493594620271819956092247961644964499474569032543102442687645369850651281196340703851138577685625485843169619094858545797223509766598147642977680821365139054182851892715933096576142946215426158111380201111105843947777351330307214402626510641208882553463428875934256342813183115762551047128865095121703542610505599689181062105223903252703956187036134052115315883752164449219605138174423487215211713100602322296766558468678900914156244167688488529982478137482615455924367210380807650013451751413241200645565942463195503240673078845543224679591503843405214696888989375694068176344324558652048914704277633611345876326859193329349830821844708915474637494330839446372784954573334794547157842892577824023421526880291335589988081672313136623973094502362993591053073073955238488104376288305309842901611185246332512187178115246075794025128845296740349760736023796354354187003222108647160878590185059235014514008851758274758280
def tb (i : Nat) : Nat := (TT >>> (3 * i)) % 8
theorem tb_lt : ∀ t : Nat, t < 720 → ∀ s : Nat, s < 6 → tb (6 * t + s) < 6 := by decide +kernel
/-- the parts of the first signs of a set in a tongue -/
def psA (sg t i : Nat) : Nat := (List.range i).foldl (fun a s => if (sg >>> s) % 2 = 1 then a ||| 2 ^ tb (6 * t + s) else a) 0
def ps (sg t : Nat) : Nat := psA sg t 6
theorem psA_s (sg t i : Nat) : psA sg t (i + 1) = if (sg >>> i) % 2 = 1 then psA sg t i ||| 2 ^ tb (6 * t + i) else psA sg t i := by
  unfold psA; rw [List.range_succ, List.foldl_append]; rfl
theorem psA_lt {sg t : Nat} (ht : t < 720) : ∀ i : Nat, i ≤ 6 → psA sg t i < 64 := by
  intro i
  induction i with
  | zero => intro _; exact (by decide : (0 : Nat) < 64)
  | succ i ih =>
    intro h
    have h1 := ih (by omega)
    rw [psA_s]
    split
    · exact Nat.or_lt_two_pow (n := 6) h1 (Nat.pow_lt_pow_right (by decide) (tb_lt t ht i (by omega)))
    · exact h1
theorem ps_lt {sg t : Nat} (ht : t < 720) : ps sg t < 64 := psA_lt ht 6 (Nat.le_refl _)
theorem tb_ne : ∀ t : Nat, t < 720 → ∀ s : Nat, s < 6 → ∀ r : Nat, r < s → tb (6 * t + r) ≠ tb (6 * t + s) := by decide +kernel
theorem pc_or : ∀ a : Nat, a < 64 → ∀ k : Nat, k < 6 → (a >>> k) % 2 = 0 → popc (a ||| 2 ^ k) = popc a + 1 := by decide +kernel
theorem pc_bit : ∀ a : Nat, a < 64 → ∀ k : Nat, k < 6 → ∀ j : Nat, j < 6 → ((a ||| 2 ^ k) >>> j) % 2 = 1 → (a >>> j) % 2 = 1 ∨ j = k := by decide +kernel
theorem pc_mod : ∀ a : Nat, a < 64 → ∀ i : Nat, i < 6 → popc (a % 2 ^ (i + 1)) = popc (a % 2 ^ i) + (a >>> i) % 2 := by decide +kernel
theorem ps_pc {t sg : Nat} (ht : t < 720) (hs : sg < 64) : popc (ps sg t) = popc sg := by
  have h : ∀ i : Nat, i ≤ 6 → popc (psA sg t i) = popc (sg % 2 ^ i) ∧ ∀ k : Nat, k < 6 → (psA sg t i >>> k) % 2 = 1 → ∃ s, s < i ∧ tb (6 * t + s) = k := by
    intro i
    induction i with
    | zero =>
      intro _
      refine ⟨by rw [Nat.pow_zero, Nat.mod_one]; rfl, fun k _ h => ?_⟩
      have e : psA sg t 0 = 0 := rfl
      rw [e, Nat.zero_shiftRight] at h
      cases h
    | succ i ih =>
      intro hi
      obtain ⟨h1, h2⟩ := ih (by omega)
      have hlt := psA_lt (sg := sg) ht i (by omega)
      have htb := tb_lt t ht i (by omega)
      rw [psA_s, pc_mod sg hs i (by omega)]
      have h3 : (sg >>> i) % 2 = 0 ∨ (sg >>> i) % 2 = 1 := by omega
      rcases h3 with h3 | h3
      · rw [if_neg (by omega), h3]
        exact ⟨h1, fun k hk hb => by obtain ⟨s, a, b⟩ := h2 k hk hb; exact ⟨s, by omega, b⟩⟩
      · rw [if_pos h3, h3]
        have h4 : (psA sg t i >>> tb (6 * t + i)) % 2 = 0 := by
          rcases Nat.mod_two_eq_zero_or_one (psA sg t i >>> tb (6 * t + i)) with h | h
          · exact h
          · obtain ⟨s, a, b⟩ := h2 _ htb h
            exact absurd b (tb_ne t ht i (by omega) s a)
        refine ⟨by rw [pc_or _ hlt _ htb h4, h1], fun k hk hb => ?_⟩
        rcases pc_bit _ hlt _ htb k hk hb with h | h
        · obtain ⟨s, a, b⟩ := h2 k hk h; exact ⟨s, by omega, b⟩
        · exact ⟨i, by omega, h.symm⟩
  have h6 := (h 6 (Nat.le_refl _)).1
  rw [Nat.mod_eq_of_lt hs] at h6
  exact h6
theorem ps_0 (t : Nat) : ps 0 t = 0 := by
  have h : ∀ i, psA 0 t i = 0 := by
    intro i
    induction i with
    | zero => rfl
    | succ i ih => rw [psA_s, ih, Nat.zero_shiftRight]; rfl
  exact h 6
/-- the reference's table -/
def TB (M : Mem) : Prop := ∀ i : Nat, i < 4320 → M 43 i = ((tb i : Nat) : Int)
theorem r_bit {sg i : Nat} (h : sg < 1024) (hi : i < 12) : b_and (b_shr (sg : Int) (i : Int)) 1 = (((sg >>> i) % 2 : Nat) : Int) := by
  rw [b_shr_n sg h i hi, show (1 : Int) = ((1 : Nat) : Int) from rfl, b_and_n (Nat.lt_of_le_of_lt (Nat.shiftRight_le _ _) (by omega)) (by decide), Nat.and_one_is_mod]
theorem r_hasIn {M : Mem} {l t sg : Nat} (hl : l < 10) (ht : t < 720) (hs : M 39 l = (sg : Int)) (hsg : sg < 64) (hT : TB M) : f_X10_hasIn (l : Int) (t : Int) M = some ((ps sg t : Nat) : Int) := by
  unfold f_X10_hasIn
  obtain ⟨n, st, e, h⟩ := loopN (N := 6) (F := fun n i (st : Int) => f_X10_hasIn_L5 (l : Int) (t : Int) M n st (i : Int)) (P := fun i st => st = ((psA sg t i : Nat) : Int)) (by
    intro n i st hi hP
    subst hP
    have h1 := psA_lt (sg := sg) ht i (by omega)
    refine ⟨((psA sg t (i + 1) : Nat) : Int), ?_, rfl⟩
    show f_X10_hasIn_L5 (l : Int) (t : Int) M (n + 1) _ (i : Int) = _
    rw [f_X10_hasIn_L5, if_pos (by omega), if_pos ⟨by omega, by omega⟩, Int.toNat_natCast, hs, r_bit (by omega) (by omega), w32_n1 (by omega)]
    have e1 : w32 (w32 (6 * (t : Int)) + (i : Int)) = ((6 * t + i : Nat) : Int) := by
      rw [w32_id (z := 6 * (t : Int)) (by omega) (by omega), w32_id (by omega) (by omega)]; omega
    rw [e1]
    have h2 : (sg >>> i) % 2 = 0 ∨ (sg >>> i) % 2 = 1 := by omega
    rcases h2 with h2 | h2
    · rw [if_neg (by rw [h2]; decide), psA_s, if_neg (by rw [h2]; decide), show (0 : Int) = ((0 : Nat) : Int) from rfl, b_or_n (by omega) (by decide), Nat.or_zero]
    · rw [if_pos (by rw [h2]; decide), if_pos ⟨by omega, by omega⟩, Int.toNat_natCast, hT _ (by omega), b_shl_1 _ (Nat.lt_trans (tb_lt t ht i hi) (by decide)), psA_s, if_pos h2, b_or_n (by omega) (Nat.lt_of_lt_of_le (Nat.pow_lt_pow_right (by decide) (tb_lt t ht i hi)) (by decide))]) 6 100000 0 0 rfl (by decide) rfl
  have e : f_X10_hasIn_L5 (l : Int) (t : Int) M 100000 0 0 = f_X10_hasIn_L5 (l : Int) (t : Int) M (n + 1) st ((6 : Nat) : Int) := e
  rw [e, f_X10_hasIn_L5, if_neg (by decide), h]
  rfl
