/-! the law answers 1 -/
theorem law_pure : ∀ g : GG, q_G g → ∃ M', f_L_law g (fun _ _ => 0) = some (1, M') := by
  intro g hg
  obtain ⟨M1, A', e1, h1⟩ := z_X9
  obtain ⟨N, e2, h2⟩ := z_X10 h1
  have hL : q_fl g 0 ≤ 3584 := hg.2
  obtain ⟨M2, e3⟩ := law_loop g hg 100000 0 N (by omega) (Nat.zero_le _) h2
  refine ⟨M2, ?_⟩
  unfold f_L_law
  refine ob_I e1 ?_
  refine ob_I e2 ?_
  unfold f_L_law_tail
  exact e3
