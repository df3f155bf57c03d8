/-! ===== the reference weighs ===== -/
def mG (σ τ : St) : Prop := (∀ o, (o < 118 ∨ (118 < o ∧ o < 137) ∨ 140 < o) → τ o = σ o) ∧ ∀ i, (i < 34 ∨ 37 < i) → τ 118 i = σ 118 i
theorem mG_t {σ τ ρ : St} (h1 : mG σ τ) (h2 : mG τ ρ) : mG σ ρ := ⟨fun o a => (h2.1 o a).trans (h1.1 o a), fun i a => (h2.2 i a).trans (h1.2 i a)⟩
theorem mG_J {σ τ α : St} (h : mG σ τ) (hJ : JM σ α) : JM τ α := JM_scr (fun i _ => h.2 i (by omega)) (fun o _ _ => h.1 o (by omega)) hJ
theorem mG_C {σ τ α : St} {a q : Int} (h : mG σ τ) (hc : mCh σ α a q) : mCh τ α a q := by
  unfold mCh at hc ⊢
  rw [h.1 135 (by omega), h.1 136 (by omega)]
  exact hc
theorem m_begin {σ : St} (D : Int → Int → Int) (jt : Int → Int) : ∃ τ, f_X10_begins σ = some (0, τ) ∧ mE τ (fd D jt 0) ∧ mN σ τ := by
  unfold f_X10_begins
  simp (disch := omega) only [↓rdA_t, ↓wrA_t, ↓ixA_t, ↓wrF_d, ↓bd2_s, ↓bd1_s, ↓bnd_d, ↓iww_t, ↓iww_f, ↓iwl_t, ↓iwl_f, ↓ilw_t, ↓ilw_f, ↓eww_t, ↓eww_f, ↓ewl_t, ↓ewl_f, ↓ez_t, ↓ez_f, ↓il_t, ↓il_f, il_t, il_f, ez_t, ez_f, if_true, if_false, upS_h, upS_o, upS_i, Int.reduceAdd, Int.reduceSub, Int.reduceMul, Int.reduceNeg, wI_id]
  exact ⟨_, rfl, ⟨by simp (disch := omega) only [upS_h, upS_o, upS_i, Int.reduceAdd, Int.reduceSub, Int.reduceMul, Int.reduceNeg]; rfl, by simp (disch := omega) only [upS_h, upS_o, upS_i, Int.reduceAdd, Int.reduceSub, Int.reduceMul, Int.reduceNeg]; rfl, by simp (disch := omega) only [upS_h, upS_o, upS_i, Int.reduceAdd, Int.reduceSub, Int.reduceMul, Int.reduceNeg]; rfl, by simp (disch := omega) only [upS_h, upS_o, upS_i, Int.reduceAdd, Int.reduceSub, Int.reduceMul, Int.reduceNeg]; rfl⟩, fun o ho => by rw [upS_of ho, upS_of ho, upS_of ho, upS_of ho], fun i hi => by rw [upS_i (by omega), upS_i (by omega), upS_i (by omega), upS_i (by omega)]⟩
theorem m_57 {α : St} {a kd k y : Int} {m : Nat} (kx : St → Option (Int × St)) (hw : WF α) (hf : allF α a) (hkd : 0 ≤ kd ∧ kd ≤ 4) (h0 : 0 ≤ k) (hk : k = α 0 1 - 1 - (m : Nat)) : ∀ (r : Nat) (σ : St) (x : Int) (n : Nat), JM σ α → (∀ q, 0 ≤ q → q < α 0 1 → mCh σ α a q) → (∀ m' : Nat, m = m' + 1 → ∀ j, 0 ≤ j → j < nCh α a (k + 1) → mV σ α a kd (k + 1) m' j) → 0 ≤ x → x + r = nCh α a k → (∀ i, 0 ≤ i → i < x → mV σ α a kd k m i) → r < n → ∃ τ, lp_X10_chains_57 kd y k kx n σ x = kx τ ∧ (∀ i, 0 ≤ i → i < nCh α a k → mV τ α a kd k m i) ∧ mG σ τ ∧ ∀ o j, ¬ o = 118 → (j < 40 * k ∨ 40 * k + 40 ≤ j) → τ o j = σ o j := by
  intro r
  have w2 := hw.2.1.2.1
  have w3 := hw.1.2.1
  have n0 := nCh_r hw h0 (show k < α 0 1 by omega) (hf k h0 (by omega))
  induction r with
  | zero =>
    intro σ x n h hc hv hx h1 h2 hn
    obtain ⟨n, rfl⟩ : ∃ k, n = k + 1 := ⟨n - 1, by omega⟩
    have e1 := (hc k h0 (by omega)).1
    rw [lp_X10_chains_57]
    exact ⟨σ, by simp (disch := omega) only [↓rdA_t, ↓wrA_t, ↓ixA_t, ↓wrF_d, ↓bd2_s, ↓bd1_s, ↓bnd_d, ↓iww_t, ↓iww_f, ↓iwl_t, ↓iwl_f, ↓ilw_t, ↓ilw_f, ↓eww_t, ↓eww_f, ↓ewl_t, ↓ewl_f, ↓ez_t, ↓ez_f, ↓il_t, ↓il_f, il_t, il_f, ez_t, ez_f, if_true, if_false, upS_h, upS_o, upS_i, Int.reduceAdd, Int.reduceSub, Int.reduceMul, Int.reduceNeg, wI_id, e1], fun i i1 i2 => h2 i i1 (by omega), ⟨fun _ _ => rfl, fun _ _ => rfl⟩, fun _ _ _ _ => rfl⟩
  | succ r ih =>
    intro σ x n h hc hv hx h1 h2 hn
    obtain ⟨n, rfl⟩ : ∃ k, n = k + 1 := ⟨n - 1, by omega⟩
    obtain ⟨e1, e3⟩ := hc k h0 (by omega)
    have e4 := e3 x hx (by omega)
    have u := uCh_r (a := a) (k := k) (i := x) hw hx (by omega)
    have e2 := m_fit h hw hkd u.1.1 u.1.2 h0 (show k < α 0 1 by omega)
    -- after the inner loop
    have inner : ∃ τ, (bd2 (f_X10_begins σ) fun v18 σ19 => lp_X10_chains_103 kd y k x (40 * k + x) (uCh α a k x) (fitS α kd (uCh α a k x) k) (fun σ28 => jn_X10_chains_162 (lp_X10_chains_57 kd y k kx n) σ28 kd y k x (40 * k + x) (fitS α kd (uCh α a k x) k)) 1000 σ19 0) = jn_X10_chains_162 (lp_X10_chains_57 kd y k kx n) τ kd y k x (40 * k + x) (fitS α kd (uCh α a k x) k) ∧ (∀ m' : Nat, m = m' + 1 → mE τ (fd (dp α a kd m') (jnt α a k x) (nCh α a (k + 1)).toNat)) ∧ mN σ τ := by
      cases m with
      | zero =>
        obtain ⟨τ, b1, b2, b3⟩ := m_begin (σ := σ) (dp α a kd 0) (jnt α a k x)
        have hJ := mN_J b3 h
        have hs := hJ.2.1.1
        refine ⟨τ, ?_, fun m' hm => by omega, b3⟩
        rw [b1, bd2_s, lp_X10_chains_103]
        simp (disch := omega) only [↓rdA_t, ↓wrA_t, ↓ixA_t, ↓wrF_d, ↓bd2_s, ↓bd1_s, ↓bnd_d, ↓iww_t, ↓iww_f, ↓iwl_t, ↓iwl_f, ↓ilw_t, ↓ilw_f, ↓eww_t, ↓eww_f, ↓ewl_t, ↓ewl_f, ↓ez_t, ↓ez_f, ↓il_t, ↓il_f, il_t, il_f, ez_t, ez_f, if_true, if_false, upS_h, upS_o, upS_i, Int.reduceAdd, Int.reduceSub, Int.reduceMul, Int.reduceNeg, wI_id]
      | succ m =>
        have n1 := nCh_r hw (show 0 ≤ k + 1 by omega) (show k + 1 < α 0 1 by omega) (hf (k + 1) (by omega) (by omega))
        obtain ⟨τ, b1, b2, b3⟩ := m_begin (σ := σ) (dp α a kd m) (jnt α a k x)
        have hJ := mN_J b3 h
        obtain ⟨ρ, f1, f2, f3⟩ := m_103 (α := α) (a := a) (kd := kd) (k := k) (i := x) (z1 := kd) (z2 := y) (z3 := x) (z4 := 40 * k + x) (m := m) (fun σ28 => jn_X10_chains_162 (lp_X10_chains_57 kd y k kx n) σ28 kd y k x (40 * k + x) (fitS α kd (uCh α a k x) k)) hw hf h0 hk ⟨hx, by omega⟩ (nCh α a (k + 1)).toNat 0 τ 1000 hJ (by
          have z := hc (k + 1) (by omega) (by omega)
          unfold mCh at z ⊢
          rw [b3.1 135 (by omega), b3.1 136 (by omega)]
          exact z) (fun j j1 j2 => by
          have z := hv m rfl j j1 j2
          unfold mV at z ⊢
          rw [b3.1 137 (by omega), b3.1 138 (by omega), b3.1 139 (by omega), b3.1 140 (by omega)]
          exact z) (by omega) b2 (by omega)
        rw [Nat.zero_add] at f2
        refine ⟨ρ, ?_, fun m' hm => ?_, mN_t b3 f3⟩
        · rw [b1, bd2_s]
          exact f1
        · have : m' = m := by omega
          subst this
          exact f2
    obtain ⟨τ, i1, i2, i3⟩ := inner
    obtain ⟨ρ, j1, j2, j3, j4⟩ := m_162 (α := α) (a := a) (kd := kd) (k := k) (i := x) (m := m) (lp_X10_chains_57 kd y k kx n) (mN_J i3 h) hw hf h0 hk ⟨hx, by omega⟩ kd y i2 rfl
    have sc : mG σ ρ := ⟨fun o ho => by rw [j3 o (by omega), i3.1 o (by omega)], fun i hi => by rw [j3 118 (by omega), i3.2 i hi]⟩
    have ot : ∀ o j, ¬ o = 118 → ¬ j = 40 * k + x → ρ o j = σ o j := fun o j ho hj => by rw [j4 o j hj, i3.1 o ho]
    obtain ⟨ξ, f1, f2, f3, f4⟩ := ih ρ (x + 1) n (mG_J sc h) (fun q q1 q2 => mG_C sc (hc q q1 q2)) (fun m' hm j t1 t2 => by
      have z := hv m' hm j t1 t2
      unfold mV at z ⊢
      rw [ot 137 _ (by omega) (by omega), ot 138 _ (by omega) (by omega), ot 139 _ (by omega) (by omega), ot 140 _ (by omega) (by omega)]
      exact z) (by omega) (by omega) (fun i t1 t2 => by
      by_cases c : i = x
      · subst c; exact j2
      · have z := h2 i t1 (by omega)
        unfold mV at z ⊢
        rw [ot 137 _ (by omega) (by omega), ot 138 _ (by omega) (by omega), ot 139 _ (by omega) (by omega), ot 140 _ (by omega) (by omega)]
        exact z) (by omega)
    refine ⟨ξ, ?_, f2, mG_t sc f3, fun o j ho hj => by rw [f4 o j ho hj, ot o j ho (by omega)]⟩
    rw [← f1, ← j1, ← i1, lp_X10_chains_57]
    simp (disch := omega) only [↓rdA_t, ↓wrA_t, ↓ixA_t, ↓wrF_d, ↓bd2_s, ↓bd1_s, ↓bnd_d, ↓iww_t, ↓iww_f, ↓iwl_t, ↓iwl_f, ↓ilw_t, ↓ilw_f, ↓eww_t, ↓eww_f, ↓ewl_t, ↓ewl_f, ↓ez_t, ↓ez_f, ↓il_t, ↓il_f, il_t, il_f, ez_t, ez_f, if_true, if_false, upS_h, upS_o, upS_i, Int.reduceAdd, Int.reduceSub, Int.reduceMul, Int.reduceNeg, wI_id, e1, e4, e2]
