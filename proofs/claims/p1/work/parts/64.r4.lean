/-! ===== the cheapest chain, laid by the reference ===== -/
theorem fv_p {D : Int → Int → Int} {jt : Int → Int} {B : Int} {n : Nat} (hD : ∀ i : Nat, i < n → okE B (D 0 i) (D 1 i) (D 2 i) (D 3 i)) (hj : ∀ i : Nat, i < n → 0 ≤ jt i ∧ jt i ≤ 16) : ∀ j : Nat, 0 < j → j ≤ n → fd D jt j 0 = D 0 (fv D jt j) + jt (fv D jt j) ∧ (∀ i : Nat, (i : Int) < fv D jt j → fd D jt j 0 < D 0 i + jt i) ∧ ∀ i : Nat, i < j → fd D jt j 0 ≤ D 0 i + jt i := by
  intro j
  induction j with
  | zero => intro h _; omega
  | succ j ih =>
    intro _ hn
    have okf := (fd_ok hD hj j (by omega)).1
    have oke := hD j (by omega)
    have hjj := hj j (by omega)
    have oke' : okE (B + 16) (D 0 j) (D 1 j) (D 2 j) (D 3 j) := by
      obtain ⟨o1, o2, o3, o4⟩ := oke
      exact ⟨by omega, by omega, by omega, o4⟩
    have t := (t_e okf oke' hjj.1).1
    rw [fd_s.1, t, fv]
    by_cases c : fd D jt j 0 = -1 ∨ D 0 j + jt j < fd D jt j 0
    · rw [if_pos c, if_pos c]
      have low : ∀ i : Nat, i < j → D 0 j + jt j < D 0 i + jt i := fun i hi => by
        have okj := (fd_ok hD hj j (by omega)).2 (by omega)
        have b0 := okj.1
        obtain ⟨g1, g2, g3⟩ := ih (by omega) (by omega)
        have := g3 i hi
        omega
      refine ⟨rfl, fun i hi => low i (by omega), fun i hi => ?_⟩
      by_cases c2 : i = j
      · subst c2; omega
      · have := low i (by omega); omega
    · rw [if_neg c, if_neg c]
      have c2 : ¬ j = 0 := fun z => c (Or.inl (by subst z; rfl))
      obtain ⟨g1, g2, g3⟩ := ih (by omega) (by omega)
      refine ⟨g1, g2, fun i hi => ?_⟩
      by_cases c3 : i = j
      · subst c3; omega
      · exact g3 i (by omega)
