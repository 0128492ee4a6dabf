section ONES2
variable {A0 B0 : Mem} {t nt : Nat} {ae : Nat → Int} {g : Int}
theorem lx_all (R : RDT A0 B0 t nt ae) (h5 : A0 12 5 = (t : Int)) : ∀ (e o : Nat), o + e = 5 → (∀ m, 3 * e + 1 ≤ m → OK1 A0 B0 t nt ae (1 + 5 * e) o ((fz_rd m).2.2 (o : Int))) ∧ (∀ m, 3 * e + 2 ≤ m → OKf A0 B0 t nt ae 3 4 exC true (1 + 5 * e + 3) o ((fz_rd m).2.1 (o : Int))) ∧ ∀ m, 3 * e + 3 ≤ m → OKf A0 B0 t nt ae 1 1 exE true (1 + 5 * e + 5) o ((fz_rd m).1 (o : Int)) := by
  intro e
  induction e with
  | zero =>
    intro o ho
    have h1 : ∀ m, 3 * 0 + 1 ≤ m → OK1 A0 B0 t nt ae (1 + 5 * 0) o ((fz_rd m).2.2 (o : Int)) := by
      intro m hm
      obtain ⟨k, rfl⟩ : ∃ k, m = k + 1 := ⟨m - 1, by omega⟩
      exact lx_one (rE := (fz_rd k).1) (rN := (fz_rd k).2.1) (rO := (fz_rd k).2.2) R h5 ho (fun q => by omega) (fun q => by omega)
    have h2 : ∀ m, 3 * 0 + 2 ≤ m → OKf A0 B0 t nt ae 3 4 exC true (1 + 5 * 0 + 3) o ((fz_rd m).2.1 (o : Int)) := by
      intro m hm
      obtain ⟨k, rfl⟩ : ∃ k, m = k + 1 := ⟨m - 1, by omega⟩
      exact lx_not (rE := (fz_rd k).1) (rN := (fz_rd k).2.1) (rO := (fz_rd k).2.2) R h5 (by omega) (lx_comp R h5 (lx_sum R h5 (lx_term R h5 (h1 k (by omega)).f))) (fun q => by omega)
    refine ⟨h1, h2, fun m hm => ?_⟩
    obtain ⟨k, rfl⟩ : ∃ k, m = k + 1 := ⟨m - 1, by omega⟩
    exact lx_either (rE := (fz_rd k).1) (rN := (fz_rd k).2.1) (rO := (fz_rd k).2.2) R h5 (lx_both R h5 (h2 k (by omega)))
  | succ e ih =>
    intro o ho
    obtain ⟨i1, i2, i3⟩ := ih (o + 1) (by omega)
    have h1 : ∀ m, 3 * (e + 1) + 1 ≤ m → OK1 A0 B0 t nt ae (1 + 5 * (e + 1)) o ((fz_rd m).2.2 (o : Int)) := by
      intro m hm
      obtain ⟨k, rfl⟩ : ∃ k, m = k + 1 := ⟨m - 1, by omega⟩
      exact lx_one (rE := (fz_rd k).1) (rN := (fz_rd k).2.1) (rO := (fz_rd k).2.2) R h5 ho (fun _ => i1 k (by omega)) (fun _ => i3 k (by omega))
    have h2 : ∀ m, 3 * (e + 1) + 2 ≤ m → OKf A0 B0 t nt ae 3 4 exC true (1 + 5 * (e + 1) + 3) o ((fz_rd m).2.1 (o : Int)) := by
      intro m hm
      obtain ⟨k, rfl⟩ : ∃ k, m = k + 1 := ⟨m - 1, by omega⟩
      exact lx_not (rE := (fz_rd k).1) (rN := (fz_rd k).2.1) (rO := (fz_rd k).2.2) R h5 (by omega) (lx_comp R h5 (lx_sum R h5 (lx_term R h5 (h1 k (by omega)).f))) (fun _ => (i2 k (by omega)).need (by omega))
    refine ⟨h1, h2, fun m hm => ?_⟩
    obtain ⟨k, rfl⟩ : ∃ k, m = k + 1 := ⟨m - 1, by omega⟩
    exact lx_either (rE := (fz_rd k).1) (rN := (fz_rd k).2.1) (rO := (fz_rd k).2.2) R h5 (lx_both R h5 (h2 k (by omega)))
end ONES2
