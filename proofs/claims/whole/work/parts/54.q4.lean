/-! ===== the component weighs ===== -/
theorem c_entry {σ α : St} {a kd k i : Int} {m : Nat} (h : IC σ α) (hw : WF α) (hf : allF α a) (hkd : 0 ≤ kd ∧ kd ≤ 4) (h0 : 0 ≤ k) (hk : k = α 0 1 - 1 - (m : Nat)) (hi : 0 ≤ i ∧ i < nCh α a k) (hc : ∀ q, 0 ≤ q → q < α 0 1 → cCh σ α a q) (hv : ∀ m' : Nat, m = m' + 1 → ∀ j, 0 ≤ j → j < nCh α a (k + 1) → cV σ α a kd (k + 1) m' j) : ∃ τ, f_X0_weighEntry σ kd k i = some (0, τ) ∧ cV τ α a kd k m i ∧ (∀ o', (o' ≤ 70 + 6 * k ∨ 70 + 6 * k + 5 < o') → τ o' = σ o') ∧ ∀ o' j, ¬ j = i → τ o' j = σ o' j := by
  have w2 := hw.2.1.2.1
  have w3 := hw.1.2.1
  have n0 := nCh_r hw h0 (show k < α 0 1 by omega) (hf k h0 (by omega))
  have u := uCh_r (a := a) (k := k) (i := i) hw hi.1 hi.2
  have fr := fitS_r (a := kd) hw u.1.1 u.1.2 h0 (by omega)
  have e1 := ((hc k h0 (by omega)).1 (hf k h0 (by omega))).2.2 i hi.1 hi.2
  have e2 := c_fit h hw hkd u.1.1 u.1.2 h0 (show k < α 0 1 by omega)
  obtain ⟨τ, g1, g2, g3, g4⟩ := c_begin (σ := σ) (k := k) (i := i) (f := fitS α kd (uCh α a k i) k) (by omega) (by omega)
  have sc : cW σ τ := fun o ho => g3 o (by omega)
  have hI := cW_I sc h
  have hs := hI.2.1.1
  unfold f_X0_weighEntry
  cases m with
  | zero =>
    have hD : cD τ 63 0 0 (-1) 0 1 := ⟨hI.2.2.1.2.2.2.2.2.1, hI.2.2.1.2.2.2.2.2.2.1, hI.2.2.1.2.2.2.2.2.2.2.1, hI.2.2.1.2.2.2.2.2.2.2.2⟩
    obtain ⟨ρ, f1, f2, f3, f4⟩ := c_offer (t := 0) (B := 10) g2 hD (by omega) (Or.inl ⟨rfl, rfl, rfl, rfl⟩) ⟨by omega, Or.inl rfl, by omega, by omega⟩ (by omega) (by omega) (by omega) (fun z z1 z2 => by rw [uv_40 (by omega)]; omega) (fun z z1 z2 => by rw [uv_1 (by omega)]; omega) (by omega)
    rw [Int.add_zero] at f1
    have e : tB (-1) 0 (-1) 0 = 0 ∧ tS (-1) (-1) 0 (-1) 0 = -1 ∧ tX (-1) 0 0 = 0 ∧ tW (-1) 0 0 1 0 = 1 := by decide
    rw [e.1, e.2.1, e.2.2.1, e.2.2.2] at f2
    obtain ⟨q1, q2⟩ := cE_V f2 (by omega) fr.1 (by omega)
    have ek : α 0 1 - 1 = k := by simpa using hk.symm
    refine ⟨ρ, ?_, ⟨?_, q2⟩, fun o' ho => by rw [f3 o' ho, g3 o' ho], fun o' j hj => by rw [f4 o' j hj, g4 o' j hj]⟩
    · simp (disch := omega) only [↓rdA_t, ↓wrA_t, ↓ixA_t, ↓wrF_d, ↓bd2_s, ↓bd1_s, ↓bnd_d, ↓iww_t, ↓iww_f, ↓iwl_t, ↓iwl_f, ↓ilw_t, ↓ilw_f, ↓eww_t, ↓eww_f, ↓ewl_t, ↓ewl_f, ↓ez_t, ↓ez_f, ↓il_t, ↓il_f, il_t, il_f, ez_t, ez_f, if_true, if_false, upS_h, upS_o, upS_i, Int.reduceAdd, Int.reduceSub, Int.reduceMul, Int.reduceNeg, wI_id, e1, e2, g1, f1]
    · have d0 : dp α a kd 0 0 i = fitS α kd (uCh α a k i) k := by rw [dp, ek]; rfl
      have d1 : dp α a kd 0 1 i = -1 := rfl
      have d2 : dp α a kd 0 2 i = fitS α kd (uCh α a k i) k := by rw [dp, ek]; rfl
      have d3 : dp α a kd 0 3 i = 1 := rfl
      rw [d0, d1, d2, d3]
      rw [if_pos rfl, Int.add_zero] at q1
      exact q1
  | succ m =>
    have n1 := nCh_r hw (show 0 ≤ k + 1 by omega) (show k + 1 < α 0 1 by omega) (hf (k + 1) (by omega) (by omega))
    obtain ⟨ρ, f1, f2, f3, f4⟩ := c_entry_g (α := α) (a := a) (kd := kd) (k := k) (i := i) (m := m) (fun σ16 => some (0, σ16)) hw hf h0 hk hi (nCh α a (k + 1)).toNat 0 τ 1000 hI (cW_C sc (by omega) (hc (k + 1) (by omega) (by omega))) (fun j j1 j2 => by
      have q := hv m rfl j j1 j2
      unfold cV cD at q ⊢
      rw [g3 (70 + 6 * (k + 1) + 1) (by omega), g3 (70 + 6 * (k + 1) + 2) (by omega), g3 (70 + 6 * (k + 1) + 3) (by omega), g3 (70 + 6 * (k + 1) + 4) (by omega), g3 (70 + 6 * (k + 1) + 5) (by omega)]
      exact q) (by omega) g2 (by omega)
    rw [Nat.zero_add] at f2
    have hjr : ∀ j : Nat, j < (nCh α a (k + 1)).toNat → 0 ≤ jnt α a k i j ∧ jnt α a k i j ≤ 16 := fun j hj => by
      have v := uCh_r (a := a) (k := k + 1) (i := (j : Int)) hw (by omega) (by omega)
      exact joiS_r hw.1 u.1.1 u.1.2 v.1.1 v.1.2
    have hDr : ∀ j : Nat, j < (nCh α a (k + 1)).toNat → okE (60 * (m + 1)) (dp α a kd m 0 j) (dp α a kd m 1 j) (dp α a kd m 2 j) (dp α a kd m 3 j) := fun j hj => dp_ok hw hf m (k + 1) (by omega) (by omega) j (by omega)
    have ok := (fd_ok hDr hjr (nCh α a (k + 1)).toNat (by omega)).2 (by omega)
    obtain ⟨o1, o2, o3, o4⟩ := ok
    obtain ⟨q1, q2⟩ := cE_V f2 (by omega) fr.1 (by omega)
    obtain ⟨s0, s1, s2, s3⟩ := dp_s (α := α) (a := a) (kd := kd) (i := i) hk
    refine ⟨ρ, ?_, ⟨?_, ?_⟩, fun o' ho => by rw [f3 o' ho, g3 o' ho], fun o' j hj => by rw [f4 o' j hj, g4 o' j hj]⟩
    · have e0 : (((0 : Nat)) : Int) = 0 := rfl
      rw [e0] at f1
      simp (disch := omega) only [↓rdA_t, ↓wrA_t, ↓ixA_t, ↓wrF_d, ↓bd2_s, ↓bd1_s, ↓bnd_d, ↓iww_t, ↓iww_f, ↓iwl_t, ↓iwl_f, ↓ilw_t, ↓ilw_f, ↓eww_t, ↓eww_f, ↓ewl_t, ↓ewl_f, ↓ez_t, ↓ez_f, ↓il_t, ↓il_f, il_t, il_f, ez_t, ez_f, if_true, if_false, upS_h, upS_o, upS_i, Int.reduceAdd, Int.reduceSub, Int.reduceMul, Int.reduceNeg, wI_id, e1, e2, g1, f1]
    · rw [s0, s1, s2, s3]
      exact q1
    · rw [q2, via, ← hk]
theorem c_weigh_16 {α : St} {a kd k : Int} {m : Nat} (kx : St → Option (Int × St)) (hw : WF α) (hf : allF α a) (hkd : 0 ≤ kd ∧ kd ≤ 4) (h0 : 0 ≤ k) (hk : k = α 0 1 - 1 - (m : Nat)) : ∀ (r : Nat) (σ : St) (x : Int) (n : Nat), IC σ α → (∀ q, 0 ≤ q → q < α 0 1 → cCh σ α a q) → (∀ m' : Nat, m = m' + 1 → ∀ j, 0 ≤ j → j < nCh α a (k + 1) → cV σ α a kd (k + 1) m' j) → 0 ≤ x → x + r = nCh α a k → (∀ i, 0 ≤ i → i < x → cV σ α a kd k m i) → r < n → ∃ τ, lp_X0_weigh_16 kd k kx n σ x = kx τ ∧ (∀ i, 0 ≤ i → i < nCh α a k → cV τ α a kd k m i) ∧ ∀ o', (o' ≤ 70 + 6 * k ∨ 70 + 6 * k + 5 < o') → τ o' = σ o' := by
  intro r
  have w2 := hw.2.1.2.1
  have w3 := hw.1.2.1
  have n0 := nCh_r hw h0 (show k < α 0 1 by omega) (hf k h0 (by omega))
  induction r with
  | zero =>
    intro σ x n h hc hv hx h1 h2 hn
    obtain ⟨n, rfl⟩ : ∃ k, n = k + 1 := ⟨n - 1, by omega⟩
    have e1 := ((hc k h0 (by omega)).1 (hf k h0 (by omega))).1
    rw [lp_X0_weigh_16]
    exact ⟨σ, by simp (disch := omega) only [↓rdA_t, ↓wrA_t, ↓ixA_t, ↓wrF_d, ↓bd2_s, ↓bd1_s, ↓bnd_d, ↓iww_t, ↓iww_f, ↓iwl_t, ↓iwl_f, ↓ilw_t, ↓ilw_f, ↓eww_t, ↓eww_f, ↓ewl_t, ↓ewl_f, ↓ez_t, ↓ez_f, ↓il_t, ↓il_f, il_t, il_f, ez_t, ez_f, if_true, if_false, upS_h, upS_o, upS_i, Int.reduceAdd, Int.reduceSub, Int.reduceMul, Int.reduceNeg, wI_id], fun i i1 i2 => h2 i i1 (by omega), fun _ _ => rfl⟩
  | succ r ih =>
    intro σ x n h hc hv hx h1 h2 hn
    obtain ⟨n, rfl⟩ : ∃ k, n = k + 1 := ⟨n - 1, by omega⟩
    have e1 := ((hc k h0 (by omega)).1 (hf k h0 (by omega))).1
    obtain ⟨τ, g1, g2, g3, g4⟩ := c_entry h hw hf hkd h0 hk ⟨hx, by omega⟩ hc hv
    have sc : cW σ τ := fun o ho => g3 o (by omega)
    obtain ⟨ρ, f1, f2, f3⟩ := ih τ (x + 1) n (cW_I sc h) (fun q q1 q2 => cW_C sc (by omega) (hc q q1 q2)) (fun m' hm j j1 j2 => by
      have q := hv m' hm j j1 j2
      unfold cV cD at q ⊢
      rw [g3 (70 + 6 * (k + 1) + 1) (by omega), g3 (70 + 6 * (k + 1) + 2) (by omega), g3 (70 + 6 * (k + 1) + 3) (by omega), g3 (70 + 6 * (k + 1) + 4) (by omega), g3 (70 + 6 * (k + 1) + 5) (by omega)]
      exact q) (by omega) (by omega) (fun i i1 i2 => by
      by_cases c : i = x
      · subst c; exact g2
      · have q := h2 i i1 (by omega)
        unfold cV cD at q ⊢
        rw [g4 _ i c, g4 _ i c, g4 _ i c, g4 _ i c, g4 _ i c]
        exact q) (by omega)
    refine ⟨ρ, ?_, f2, fun o' ho => by rw [f3 o' ho, g3 o' ho]⟩
    rw [← f1, lp_X0_weigh_16]
    simp (disch := omega) only [↓rdA_t, ↓wrA_t, ↓ixA_t, ↓wrF_d, ↓bd2_s, ↓bd1_s, ↓bnd_d, ↓iww_t, ↓iww_f, ↓iwl_t, ↓iwl_f, ↓ilw_t, ↓ilw_f, ↓eww_t, ↓eww_f, ↓ewl_t, ↓ewl_f, ↓ez_t, ↓ez_f, ↓il_t, ↓il_f, il_t, il_f, ez_t, ez_f, if_true, if_false, upS_h, upS_o, upS_i, Int.reduceAdd, Int.reduceSub, Int.reduceMul, Int.reduceNeg, wI_id, g1]
theorem c_weigh_10 {α : St} {a kd : Int} (kx : St → Option (Int × St)) (hw : WF α) (hf : allF α a) (hkd : 0 ≤ kd ∧ kd ≤ 4) : ∀ (r : Nat) (σ : St) (k : Int) (n : Nat), IC σ α → (∀ q, 0 ≤ q → q < α 0 1 → cCh σ α a q) → k + 1 = r → k < α 0 1 → (∀ q, k < q → q < α 0 1 → ∀ i, 0 ≤ i → i < nCh α a q → cV σ α a kd q (α 0 1 - 1 - q).toNat i) → r < n → ∃ τ, lp_X0_weigh_10 kd kx n σ k = kx τ ∧ (∀ q, 0 ≤ q → q < α 0 1 → ∀ i, 0 ≤ i → i < nCh α a q → cV τ α a kd q (α 0 1 - 1 - q).toNat i) ∧ cW σ τ := by
  intro r
  have w2 := hw.2.1.2.1
  have w3 := hw.1.2.1
  induction r with
  | zero =>
    intro σ k n h hc h1 h2 hv hn
    obtain ⟨n, rfl⟩ : ∃ k, n = k + 1 := ⟨n - 1, by omega⟩
    rw [lp_X0_weigh_10]
    exact ⟨σ, by simp (disch := omega) only [↓rdA_t, ↓wrA_t, ↓ixA_t, ↓wrF_d, ↓bd2_s, ↓bd1_s, ↓bnd_d, ↓iww_t, ↓iww_f, ↓iwl_t, ↓iwl_f, ↓ilw_t, ↓ilw_f, ↓eww_t, ↓eww_f, ↓ewl_t, ↓ewl_f, ↓ez_t, ↓ez_f, ↓il_t, ↓il_f, il_t, il_f, ez_t, ez_f, if_true, if_false, upS_h, upS_o, upS_i, Int.reduceAdd, Int.reduceSub, Int.reduceMul, Int.reduceNeg, wI_id], fun q q1 q2 => hv q (by omega) q2, fun _ _ => rfl⟩
  | succ r ih =>
    intro σ k n h hc h1 h2 hv hn
    obtain ⟨n, rfl⟩ : ∃ k, n = k + 1 := ⟨n - 1, by omega⟩
    have n0 := nCh_r hw (show 0 ≤ k by omega) h2 (hf k (by omega) h2)
    obtain ⟨τ, g1, g2, g3⟩ := c_weigh_16 (α := α) (a := a) (kd := kd) (k := k) (m := (α 0 1 - 1 - k).toNat) (fun σ7 => lp_X0_weigh_10 kd kx n σ7 (k + (-1))) hw hf hkd (by omega) (by omega) (nCh α a k).toNat σ 0 1000 h hc (fun m' hm j j1 j2 => by
      have q := hv (k + 1) (by omega) (by omega) j j1 j2
      rw [show (α 0 1 - 1 - (k + 1)).toNat = m' by omega] at q
      exact q) (by omega) (by omega) (fun i i1 i2 => by omega) (by omega)
    have sc : cW σ τ := fun o ho => g3 o (by omega)
    obtain ⟨ρ, f1, f2, f3⟩ := ih τ (k + (-1)) n (cW_I sc h) (fun q q1 q2 => cW_C sc (by omega) (hc q q1 q2)) (by omega) (by omega) (fun q q1 q2 i i1 i2 => by
      by_cases c : q = k
      · subst c; exact g2 i i1 i2
      · have z := hv q (by omega) q2 i i1 i2
        unfold cV cD at z ⊢
        rw [g3 (70 + 6 * q + 1) (by omega), g3 (70 + 6 * q + 2) (by omega), g3 (70 + 6 * q + 3) (by omega), g3 (70 + 6 * q + 4) (by omega), g3 (70 + 6 * q + 5) (by omega)]
        exact z) (by omega)
    refine ⟨ρ, ?_, f2, cW_t sc f3⟩
    rw [← f1, lp_X0_weigh_10, ← g1]
    simp (disch := omega) only [↓rdA_t, ↓wrA_t, ↓ixA_t, ↓wrF_d, ↓bd2_s, ↓bd1_s, ↓bnd_d, ↓iww_t, ↓iww_f, ↓iwl_t, ↓iwl_f, ↓ilw_t, ↓ilw_f, ↓eww_t, ↓eww_f, ↓ewl_t, ↓ewl_f, ↓ez_t, ↓ez_f, ↓il_t, ↓il_f, il_t, il_f, ez_t, ez_f, if_true, if_false, upS_h, upS_o, upS_i, Int.reduceAdd, Int.reduceSub, Int.reduceMul, Int.reduceNeg, wI_id]
/-- the prices of whole chains -/
def tp (α : St) (a kd w : Int) : Int := fd (dp α a kd (α 0 1 - 1).toNat) (fun _ => 0) (nCh α a 0).toNat w
def tv (α : St) (a kd : Int) : Int := fv (dp α a kd (α 0 1 - 1).toNat) (fun _ => 0) (nCh α a 0).toNat
theorem tp_ok {α : St} {a kd : Int} (hw : WF α) (hf : allF α a) (hn : 0 < α 0 1) : okE 496 (tp α a kd 0) (tp α a kd 1) (tp α a kd 2) (tp α a kd 3) := by
  have w2 := hw.2.1.2.1
  have n0 := nCh_r hw (show (0 : Int) ≤ 0 by omega) hn (hf 0 (by omega) hn)
  refine (fd_ok (B := 480) (n := (nCh α a 0).toNat) (fun j hj => ?_) (fun j hj => by omega) (nCh α a 0).toNat (by omega)).2 (by omega)
  have q := dp_ok (kd := kd) hw hf (α 0 1 - 1).toNat 0 (by omega) (by omega) j (by omega)
  obtain ⟨o1, o2, o3, o4⟩ := q
  exact ⟨by omega, by omega, by omega, o4⟩
