/-! ===== the cheapest chain, laid by the reference ===== -/
theorem fv_p {D : Int → Int → Int} {jt : Int → Int} {B : Int} {n : Nat} (hD : ∀ i : Nat, i < n → okE B (D 0 i) (D 1 i) (D 2 i) (D 3 i)) (hj : ∀ i : Nat, i < n → 0 ≤ jt i ∧ jt i ≤ 16) : ∀ j : Nat, 0 < j → j ≤ n → fd D jt j 0 = D 0 (fv D jt j) + jt (fv D jt j) ∧ (∀ i : Nat, (i : Int) < fv D jt j → fd D jt j 0 < D 0 i + jt i) ∧ ∀ i : Nat, i < j → fd D jt j 0 ≤ D 0 i + jt i := by
  intro j
  induction j with
  | zero => intro h _; omega
  | succ j ih =>
    intro _ hn
    have okf := (fd_ok hD hj j (by omega)).1
    have oke := hD j (by omega)
    have hjj := hj j (by omega)
    have oke' : okE (B + 16) (D 0 j) (D 1 j) (D 2 j) (D 3 j) := by
      obtain ⟨o1, o2, o3, o4⟩ := oke
      exact ⟨by omega, by omega, by omega, o4⟩
    have t := (t_e okf oke' hjj.1).1
    rw [fd_s.1, t, fv]
    by_cases c : fd D jt j 0 = -1 ∨ D 0 j + jt j < fd D jt j 0
    · rw [if_pos c, if_pos c]
      have low : ∀ i : Nat, i < j → D 0 j + jt j < D 0 i + jt i := fun i hi => by
        have okj := (fd_ok hD hj j (by omega)).2 (by omega)
        have b0 := okj.1
        obtain ⟨g1, g2, g3⟩ := ih (by omega) (by omega)
        have := g3 i hi
        omega
      refine ⟨rfl, fun i hi => low i (by omega), fun i hi => ?_⟩
      by_cases c2 : i = j
      · subst c2; omega
      · have := low i (by omega); omega
    · rw [if_neg c, if_neg c]
      have c2 : ¬ j = 0 := fun z => c (Or.inl (by subst z; rfl))
      obtain ⟨g1, g2, g3⟩ := ih (by omega) (by omega)
      refine ⟨g1, g2, fun i hi => ?_⟩
      by_cases c3 : i = j
      · subst c3; omega
      · exact g3 i (by omega)
theorem m_27 {σ α : St} {a kd k W p v : Int} {J : Int → Int} {m : Nat} (kx : St → Int → Option (Int × St)) (h : JM σ α) (hw : WF α) (hf : allF α a) (h0 : 0 ≤ k) (hk : k = α 0 1 - 1 - (m : Nat)) (hc : mCh σ α a k) (hv : ∀ i, 0 ≤ i → i < nCh α a k → mV σ α a kd k m i) (hJ : (k = 0 ∧ ∀ x, J x = 0) ∨ (0 < k ∧ σ 141 (k - 1) = p ∧ (0 ≤ p ∧ p < α 0 0) ∧ ∀ x, J x = joiS α p (uCh α a k x))) (hJr : ∀ i, 0 ≤ i → i < nCh α a k → 0 ≤ J i ∧ J i ≤ 16) (hW : 0 ≤ W ∧ W ≤ 2000) (hv0 : 0 ≤ v ∧ v < nCh α a k) (hv1 : dp α a kd m 0 v + J v = W) (hv2 : ∀ i : Nat, (i : Int) < v → W < dp α a kd m 0 i + J i) : ∀ (x : Nat) (y : Int) (n : Nat), (x : Int) ≤ nCh α a k → ((x : Int) ≤ v → y = v) → x < n → lp_X10_layChain_27 W k kx n σ y ((x : Int) - 1) = kx σ v := by
  intro x
  have w2 := hw.2.1.2.1
  have w3 := hw.1.2.1
  have n0 := nCh_r hw h0 (show k < α 0 1 by omega) (hf k h0 (by omega))
  induction x with
  | zero =>
    intro y n h1 h2 hn
    obtain ⟨n, rfl⟩ : ∃ k, n = k + 1 := ⟨n - 1, by omega⟩
    rw [h2 (by omega), lp_X10_layChain_27, iwl_t (by omega)]
  | succ x ih =>
    intro y n h1 h2 hn
    obtain ⟨n, rfl⟩ : ∃ k, n = k + 1 := ⟨n - 1, by omega⟩
    have u := uCh_r (a := a) (k := k) (i := (x : Int)) hw (by omega) (by omega)
    have ok := dp_ok (kd := kd) hw hf m k hk h0 x (by omega)
    have o1 := ok.1
    have jr := hJr x (by omega) (by omega)
    have e1 := (hv x (by omega) (by omega)).1
    have e2 := hc.2 x (by omega) (by omega)
    have ex : ((x + 1 : Nat) : Int) - 1 = x := by omega
    rw [ex]
    -- the new keep
    have key : ∀ y' : Int, (dp α a kd m 0 x + J x = W → y' = x) → (¬ dp α a kd m 0 x + J x = W → y' = y) → lp_X10_layChain_27 W k kx n σ y' ((x : Int) + (-1)) = kx σ v := by
      intro y' k1 k2
      rw [show (x : Int) + (-1) = (x : Int) - 1 by omega]
      refine ih y' n (by omega) (fun hx => ?_) (by omega)
      by_cases c : (x : Int) = v
      · rw [← c] at hv1
        rw [k1 hv1, c]
      · have := hv2 x (by omega)
        rw [k2 (by omega)]
        exact h2 (by omega)
    rw [lp_X10_layChain_27, iwl_f (by omega), bnd_d]
    unfold jn_X10_layChain_68
    rcases hJ with ⟨q1, q2⟩ | ⟨q1, q2, q3, q4⟩
    · rw [ewl_t (by omega)]
      have q5 := q2 x
      by_cases c : dp α a kd m 0 x + J x = W
      · have g := key x (fun _ => rfl) (fun z => absurd c z)
        simp (disch := omega) only [↓rdA_t, ↓wrA_t, ↓ixA_t, ↓wrF_d, ↓bd2_s, ↓bd1_s, ↓bnd_d, ↓iww_t, ↓iww_f, ↓iwl_t, ↓iwl_f, ↓ilw_t, ↓ilw_f, ↓eww_t, ↓eww_f, ↓ewl_t, ↓ewl_f, ↓ez_t, ↓ez_f, ↓il_t, ↓il_f, il_t, il_f, ez_t, ez_f, if_true, if_false, upS_h, upS_o, upS_i, Int.reduceAdd, Int.reduceSub, Int.reduceMul, Int.reduceNeg, wI_id, e1]
        exact g
      · have g := key y (fun z => absurd z c) (fun _ => rfl)
        simp (disch := omega) only [↓rdA_t, ↓wrA_t, ↓ixA_t, ↓wrF_d, ↓bd2_s, ↓bd1_s, ↓bnd_d, ↓iww_t, ↓iww_f, ↓iwl_t, ↓iwl_f, ↓ilw_t, ↓ilw_f, ↓eww_t, ↓eww_f, ↓ewl_t, ↓ewl_f, ↓ez_t, ↓ez_f, ↓il_t, ↓il_f, il_t, il_f, ez_t, ez_f, if_true, if_false, upS_h, upS_o, upS_i, Int.reduceAdd, Int.reduceSub, Int.reduceMul, Int.reduceNeg, wI_id, e1]
        exact g
    · rw [ewl_f (by omega), rdA_t (by omega), rdA_t (by omega), q2, e2, m_joint h.1 hw.1 q3.1 q3.2 u.1.1 u.1.2, bd1_s, ← q4 x]
      by_cases c : dp α a kd m 0 x + J x = W
      · have g := key x (fun _ => rfl) (fun z => absurd c z)
        simp (disch := omega) only [↓rdA_t, ↓wrA_t, ↓ixA_t, ↓wrF_d, ↓bd2_s, ↓bd1_s, ↓bnd_d, ↓iww_t, ↓iww_f, ↓iwl_t, ↓iwl_f, ↓ilw_t, ↓ilw_f, ↓eww_t, ↓eww_f, ↓ewl_t, ↓ewl_f, ↓ez_t, ↓ez_f, ↓il_t, ↓il_f, il_t, il_f, ez_t, ez_f, if_true, if_false, upS_h, upS_o, upS_i, Int.reduceAdd, Int.reduceSub, Int.reduceMul, Int.reduceNeg, wI_id, e1]
        exact g
      · have g := key y (fun z => absurd z c) (fun _ => rfl)
        simp (disch := omega) only [↓rdA_t, ↓wrA_t, ↓ixA_t, ↓wrF_d, ↓bd2_s, ↓bd1_s, ↓bnd_d, ↓iww_t, ↓iww_f, ↓iwl_t, ↓iwl_f, ↓ilw_t, ↓ilw_f, ↓eww_t, ↓eww_f, ↓ewl_t, ↓ewl_f, ↓ez_t, ↓ez_f, ↓il_t, ↓il_f, il_t, il_f, ez_t, ez_f, if_true, if_false, upS_h, upS_o, upS_i, Int.reduceAdd, Int.reduceSub, Int.reduceMul, Int.reduceNeg, wI_id, e1]
        exact g
