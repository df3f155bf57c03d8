/-! ===== the reference's chains ===== -/
def mV (σ α : St) (a kd k : Int) (m : Nat) (i : Int) : Prop := σ 137 (40 * k + i) = dp α a kd m 0 i ∧ σ 138 (40 * k + i) = dp α a kd m 1 i ∧ σ 139 (40 * k + i) = dp α a kd m 2 i ∧ σ 140 (40 * k + i) = dp α a kd m 3 i
def mE (σ : St) (F : Int → Int) : Prop := σ 118 34 = F 0 ∧ σ 118 35 = F 1 ∧ σ 118 36 = F 2 ∧ σ 118 37 = F 3
/-- only the running prices change -/
def mN (σ τ : St) : Prop := (∀ o, ¬ o = 118 → τ o = σ o) ∧ ∀ i, (i < 34 ∨ 37 < i) → τ 118 i = σ 118 i
theorem mN_t {σ τ ρ : St} (h1 : mN σ τ) (h2 : mN τ ρ) : mN σ ρ := ⟨fun o a => (h2.1 o a).trans (h1.1 o a), fun i a => (h2.2 i a).trans (h1.2 i a)⟩
theorem mN_J {σ τ α : St} (h : mN σ τ) (hJ : JM σ α) : JM τ α := JM_scr (fun i _ => h.2 i (by omega)) (fun o _ _ => h.1 o (by omega)) hJ
theorem m_103 {α : St} {a kd k i z1 z2 z3 z4 : Int} {m : Nat} (kx : St → Option (Int × St)) (hw : WF α) (hf : allF α a) (h0 : 0 ≤ k) (hk : k = α 0 1 - 1 - (m + 1 : Nat)) (hi : 0 ≤ i ∧ i < nCh α a k) : ∀ (r x : Nat) (σ : St) (n : Nat), JM σ α → mCh σ α a (k + 1) → (∀ j, 0 ≤ j → j < nCh α a (k + 1) → mV σ α a kd (k + 1) m j) → (x : Int) + r = nCh α a (k + 1) → mE σ (fd (dp α a kd m) (jnt α a k i) x) → r < n → ∃ τ, lp_X10_chains_103 z1 z2 k z3 z4 (uCh α a k i) (fitS α kd (uCh α a k i) k) kx n σ x = kx τ ∧ mE τ (fd (dp α a kd m) (jnt α a k i) (x + r)) ∧ mN σ τ := by
  intro r
  have w2 := hw.2.1.2.1
  have w3 := hw.1.2.1
  have n1 := nCh_r hw (show 0 ≤ k + 1 by omega) (show k + 1 < α 0 1 by omega) (hf (k + 1) (by omega) (by omega))
  have u := uCh_r (a := a) (k := k) (i := i) hw hi.1 hi.2
  have hjr : ∀ j : Nat, j < (nCh α a (k + 1)).toNat → 0 ≤ jnt α a k i j ∧ jnt α a k i j ≤ 16 := fun j hj => by
    have v := uCh_r (a := a) (k := k + 1) (i := (j : Int)) hw (by omega) (by omega)
    exact joiS_r hw.1 u.1.1 u.1.2 v.1.1 v.1.2
  have hDr : ∀ j : Nat, j < (nCh α a (k + 1)).toNat → okE (60 * (m + 1)) (dp α a kd m 0 j) (dp α a kd m 1 j) (dp α a kd m 2 j) (dp α a kd m 3 j) := fun j hj => dp_ok hw hf m (k + 1) (by omega) (by omega) j (by omega)
  induction r with
  | zero =>
    intro x σ n h hc hv h1 hE hn
    obtain ⟨n, rfl⟩ : ∃ k, n = k + 1 := ⟨n - 1, by omega⟩
    have hs := h.2.1.1
    have e1 := hc.1
    rw [lp_X10_chains_103]
    exact ⟨σ, by simp (disch := omega) only [↓rdA_t, ↓wrA_t, ↓ixA_t, ↓wrF_d, ↓bd2_s, ↓bd1_s, ↓bnd_d, ↓iww_t, ↓iww_f, ↓iwl_t, ↓iwl_f, ↓ilw_t, ↓ilw_f, ↓eww_t, ↓eww_f, ↓ewl_t, ↓ewl_f, ↓ez_t, ↓ez_f, ↓il_t, ↓il_f, il_t, il_f, ez_t, ez_f, if_true, if_false, upS_h, upS_o, upS_i, Int.reduceAdd, Int.reduceSub, Int.reduceMul, Int.reduceNeg, wI_id, e1], hE, fun _ _ => rfl, fun _ _ => rfl⟩
  | succ r ih =>
    intro x σ n h hc hv h1 hE hn
    obtain ⟨n, rfl⟩ : ∃ k, n = k + 1 := ⟨n - 1, by omega⟩
    have hs := h.2.1.1
    obtain ⟨e1, e3⟩ := hc
    have e4 := e3 x (by omega) (by omega)
    have v := uCh_r (a := a) (k := k + 1) (i := (x : Int)) hw (by omega) (by omega)
    have e5 := m_joint h.1 hw.1 u.1.1 u.1.2 v.1.1 v.1.2
    have ej : joiS α (uCh α a k i) (uCh α a (k + 1) x) = jnt α a k i x := rfl
    rw [ej] at e5
    have okf := (fd_ok hDr hjr x (by omega)).1
    have oke := hDr x (by omega)
    have oke' : okE (60 * (m + 1) + 16) (dp α a kd m 0 x) (dp α a kd m 1 x) (dp α a kd m 2 x) (dp α a kd m 3 x) := by
      obtain ⟨o1, o2, o3, o4⟩ := oke
      exact ⟨by omega, by omega, by omega, o4⟩
    obtain ⟨v0, v1, v2, v3⟩ := hv x (by omega) (by omega)
    obtain ⟨E0, E1, E2, E3⟩ := hE
    obtain ⟨τ, g1, g2, g3, g4⟩ := m_take (t := jnt α a k i x) (B := 60 * (m + 1) + 16) (show 0 ≤ 40 * (k + 1) + (x : Int) ∧ 40 * (k + 1) + (x : Int) < 320 by omega) E0 E1 E2 E3 v0 v1 v2 v3 okf oke' (by omega) (hjr x (by omega))
    have sc : mN σ τ := ⟨g3, g4⟩
    obtain ⟨ρ, f1, f2, f3⟩ := ih (x + 1) τ n (mN_J sc h) (by
      refine ⟨by rw [g3 136 (by omega)]; exact e1, fun j j1 j2 => by rw [g3 135 (by omega)]; exact e3 j j1 j2⟩) (fun j j1 j2 => by
      have q := hv j j1 j2
      unfold mV at q ⊢
      rw [g3 137 (by omega), g3 138 (by omega), g3 139 (by omega), g3 140 (by omega)]
      exact q) (by omega) g2 (by omega)
    rw [show x + 1 + r = x + (r + 1) by omega] at f2
    rw [show ((x + 1 : Nat) : Int) = (x : Int) + 1 by omega] at f1
    refine ⟨ρ, ?_, f2, mN_t sc f3⟩
    rw [← f1, lp_X10_chains_103]
    simp (disch := omega) only [↓rdA_t, ↓wrA_t, ↓ixA_t, ↓wrF_d, ↓bd2_s, ↓bd1_s, ↓bnd_d, ↓iww_t, ↓iww_f, ↓iwl_t, ↓iwl_f, ↓ilw_t, ↓ilw_f, ↓eww_t, ↓eww_f, ↓ewl_t, ↓ewl_f, ↓ez_t, ↓ez_f, ↓il_t, ↓il_f, il_t, il_f, ez_t, ez_f, if_true, if_false, upS_h, upS_o, upS_i, Int.reduceAdd, Int.reduceSub, Int.reduceMul, Int.reduceNeg, wI_id, e1, e4, e5, g1]
theorem m_162 {σ α : St} {a kd k i y : Int} {m : Nat} (kb : St → Int → Option (Int × St)) (h : JM σ α) (hw : WF α) (hf : allF α a) (h0 : 0 ≤ k) (hk : k = α 0 1 - 1 - (m : Nat)) (hi : 0 ≤ i ∧ i < nCh α a k) (z1 z2 : Int) (hE : ∀ m' : Nat, m = m' + 1 → mE σ (fd (dp α a kd m') (jnt α a k i) (nCh α a (k + 1)).toNat)) (hy : y = fitS α kd (uCh α a k i) k) : ∃ τ, jn_X10_chains_162 kb σ z1 z2 k i (40 * k + i) y = kb τ (i + 1) ∧ mV τ α a kd k m i ∧ (∀ o, (o < 137 ∨ 140 < o) → τ o = σ o) ∧ ∀ o j, ¬ j = 40 * k + i → τ o j = σ o j := by
  have w2 := hw.2.1.2.1
  have w3 := hw.1.2.1
  have hs := h.2.1.1
  have n0 := nCh_r hw h0 (show k < α 0 1 by omega) (hf k h0 (by omega))
  subst hy
  unfold jn_X10_chains_162
  cases m with
  | zero =>
    have ek : α 0 1 - 1 = k := by simpa using hk.symm
    have d0 : dp α a kd 0 0 i = fitS α kd (uCh α a k i) k := by rw [dp, ek]; rfl
    have d1 : dp α a kd 0 1 i = -1 := rfl
    have d2 : dp α a kd 0 2 i = fitS α kd (uCh α a k i) k := by rw [dp, ek]; rfl
    have d3 : dp α a kd 0 3 i = 1 := rfl
    simp (disch := omega) only [↓rdA_t, ↓wrA_t, ↓ixA_t, ↓wrF_d, ↓bd2_s, ↓bd1_s, ↓bnd_d, ↓iww_t, ↓iww_f, ↓iwl_t, ↓iwl_f, ↓ilw_t, ↓ilw_f, ↓eww_t, ↓eww_f, ↓ewl_t, ↓ewl_f, ↓ez_t, ↓ez_f, ↓il_t, ↓il_f, il_t, il_f, ez_t, ez_f, if_true, if_false, upS_h, upS_o, upS_i, Int.reduceAdd, Int.reduceSub, Int.reduceMul, Int.reduceNeg, wI_id, Int.add_zero]
    refine ⟨_, rfl, ⟨by simp (disch := omega) only [upS_h, upS_o, upS_i, Int.reduceAdd, Int.reduceSub, Int.reduceMul, Int.reduceNeg]; exact d0.symm, by simp (disch := omega) only [upS_h, upS_o, upS_i, Int.reduceAdd, Int.reduceSub, Int.reduceMul, Int.reduceNeg]; exact d1.symm, by simp (disch := omega) only [upS_h, upS_o, upS_i, Int.reduceAdd, Int.reduceSub, Int.reduceMul, Int.reduceNeg]; exact d2.symm, by simp (disch := omega) only [upS_h, upS_o, upS_i, Int.reduceAdd, Int.reduceSub, Int.reduceMul, Int.reduceNeg]; exact d3.symm⟩, fun o ho => by rw [upS_of (by omega), upS_of (by omega), upS_of (by omega), upS_of (by omega)], fun o j hj => by rw [upS_i hj, upS_i hj, upS_i hj, upS_i hj]⟩
  | succ m =>
    obtain ⟨E0, E1, E2, E3⟩ := hE m rfl
    obtain ⟨s0, s1, s2, s3⟩ := dp_s (α := α) (a := a) (kd := kd) (i := i) hk
    have n1 := nCh_r hw (show 0 ≤ k + 1 by omega) (show k + 1 < α 0 1 by omega) (hf (k + 1) (by omega) (by omega))
    have u := uCh_r (a := a) (k := k) (i := i) hw hi.1 hi.2
    have hjr : ∀ j : Nat, j < (nCh α a (k + 1)).toNat → 0 ≤ jnt α a k i j ∧ jnt α a k i j ≤ 16 := fun j hj => by
      have v := uCh_r (a := a) (k := k + 1) (i := (j : Int)) hw (by omega) (by omega)
      exact joiS_r hw.1 u.1.1 u.1.2 v.1.1 v.1.2
    have hDr : ∀ j : Nat, j < (nCh α a (k + 1)).toNat → okE (60 * (m + 1)) (dp α a kd m 0 j) (dp α a kd m 1 j) (dp α a kd m 2 j) (dp α a kd m 3 j) := fun j hj => dp_ok hw hf m (k + 1) (by omega) (by omega) j (by omega)
    obtain ⟨o1, o2, o3, o4⟩ := (fd_ok hDr hjr (nCh α a (k + 1)).toNat (by omega)).2 (by omega)
    by_cases c : fd (dp α a kd m) (jnt α a k i) (nCh α a (k + 1)).toNat 1 = -1
    · rw [if_pos c] at s1
      simp (disch := omega) only [↓rdA_t, ↓wrA_t, ↓ixA_t, ↓wrF_d, ↓bd2_s, ↓bd1_s, ↓bnd_d, ↓iww_t, ↓iww_f, ↓iwl_t, ↓iwl_f, ↓ilw_t, ↓ilw_f, ↓eww_t, ↓eww_f, ↓ewl_t, ↓ewl_f, ↓ez_t, ↓ez_f, ↓il_t, ↓il_f, il_t, il_f, ez_t, ez_f, if_true, if_false, upS_h, upS_o, upS_i, Int.reduceAdd, Int.reduceSub, Int.reduceMul, Int.reduceNeg, wI_id, E0, E1, E2, E3]
      refine ⟨_, rfl, ⟨by simp (disch := omega) only [upS_h, upS_o, upS_i, Int.reduceAdd, Int.reduceSub, Int.reduceMul, Int.reduceNeg]; exact s0.symm, by simp (disch := omega) only [upS_h, upS_o, upS_i, Int.reduceAdd, Int.reduceSub, Int.reduceMul, Int.reduceNeg]; exact s1.symm, by simp (disch := omega) only [upS_h, upS_o, upS_i, Int.reduceAdd, Int.reduceSub, Int.reduceMul, Int.reduceNeg]; exact s2.symm, by simp (disch := omega) only [upS_h, upS_o, upS_i, Int.reduceAdd, Int.reduceSub, Int.reduceMul, Int.reduceNeg]; exact s3.symm⟩, fun o ho => by rw [upS_of (by omega), upS_of (by omega), upS_of (by omega), upS_of (by omega)], fun o j hj => by rw [upS_i hj, upS_i hj, upS_i hj, upS_i hj]⟩
    · rw [if_neg c] at s1
      simp (disch := omega) only [↓rdA_t, ↓wrA_t, ↓ixA_t, ↓wrF_d, ↓bd2_s, ↓bd1_s, ↓bnd_d, ↓iww_t, ↓iww_f, ↓iwl_t, ↓iwl_f, ↓ilw_t, ↓ilw_f, ↓eww_t, ↓eww_f, ↓ewl_t, ↓ewl_f, ↓ez_t, ↓ez_f, ↓il_t, ↓il_f, il_t, il_f, ez_t, ez_f, if_true, if_false, upS_h, upS_o, upS_i, Int.reduceAdd, Int.reduceSub, Int.reduceMul, Int.reduceNeg, wI_id, E0, E1, E2, E3]
      refine ⟨_, rfl, ⟨by simp (disch := omega) only [upS_h, upS_o, upS_i, Int.reduceAdd, Int.reduceSub, Int.reduceMul, Int.reduceNeg]; exact s0.symm, by simp (disch := omega) only [upS_h, upS_o, upS_i, Int.reduceAdd, Int.reduceSub, Int.reduceMul, Int.reduceNeg]; exact s1.symm, by simp (disch := omega) only [upS_h, upS_o, upS_i, Int.reduceAdd, Int.reduceSub, Int.reduceMul, Int.reduceNeg]; exact s2.symm, by simp (disch := omega) only [upS_h, upS_o, upS_i, Int.reduceAdd, Int.reduceSub, Int.reduceMul, Int.reduceNeg]; exact s3.symm⟩, fun o ho => by rw [upS_of (by omega), upS_of (by omega), upS_of (by omega), upS_of (by omega)], fun o j hj => by rw [upS_i hj, upS_i hj, upS_i hj, upS_i hj]⟩
