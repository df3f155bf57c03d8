/-! ===== the start: both objects made, the worlds joined ===== -/
theorem uvWs_end (G : UG) (H : Heap) (h : va_P G.1 uvCl (uvWs G 142 st_193 (rhoS st_193)) H) : va_P G.1 uvCl (uvWs G 142 st_193 uvR0) H := by
  intro k q hk
  have hlt : k < 142 := by
    have := (List.getElem?_eq_some_iff.mp hk).1
    simpa [uvWs] using this
  have e0 := uvWs_at (G := G) (n := 142) (σ := st_193) (ρ := uvR0) (o := (k : Int)) ⟨by omega, by omega⟩
  have e1 := uvWs_at (G := G) (n := 142) (σ := st_193) (ρ := rhoS st_193) (o := (k : Int)) ⟨by omega, by omega⟩
  simp only [Int.toNat_natCast] at e0 e1
  rw [e0] at hk
  cases hk
  have hq := h k _ e1
  by_cases c1 : uvKd k < 11
  · have hA : ∀ k : Nat, k < 142 → uvKd (k : Int) < 11 → ∀ j : Nat, j < uvNf (uvKd (k : Int)) → uvIr (uvKd (k : Int)) j = true → rhoS st_193 k j = uvR0 k j := by decide +kernel
    rw [uvCe_ob rfl c1] at hq ⊢
    have e : uvFs G.2.2.1 st_193 uvR0 k (uvKd k) = uvFs G.2.2.1 st_193 (rhoS st_193) k (uvKd k) := by
      unfold uvFs
      apply List.map_congr_left
      intro j hj
      have hj := List.mem_range.mp hj
      by_cases c2 : uvIr (uvKd k) j = true
      · rw [if_pos c2, if_pos c2, hA k hlt c1 j hj c2]
      · rw [if_neg c2, if_neg c2]
    rw [e]
    exact hq
  · by_cases c2 : uvKd k = 11
    · rw [uvCe_ar c2] at hq ⊢
      exact hq
    · have hB : ∀ k : Nat, k < 142 → ¬ uvKd (k : Int) < 11 → ¬ uvKd (k : Int) = 11 → ∀ j : Nat, j < uvLn k → rhoS st_193 k j = uvR0 k j := by decide +kernel
      have c3 : uvKd k = 11 + (uvKd k - 11) := by omega
      rw [uvCe_rr c3 (by omega)] at hq ⊢
      have hq : H[G.2.2.1 k]? = some (vp_cell _ _) := hq
      show H[G.2.2.1 k]? = some (vp_cell _ _)
      rw [hq, vp_cell_q, vp_cell_q]
      congr 1
      have hext : ∀ (cA : ClassId) (N : Nat) (f g : Nat → Value), (∀ j, j < N → f j = g j) → arrV cA N f = arrV cA N g := by
        intro cA N f g hfg
        unfold arrV
        congr 1
        apply Array.ext
        · simp
        · intro i h1 h2
          simp at h1 ⊢
          exact hfg i h1
      apply hext
      intro j hj
      rw [hB k hlt c1 c2 j hj]
