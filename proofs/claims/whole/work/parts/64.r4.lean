/-! ===== the cheapest chain, laid by the reference ===== -/
theorem fv_p {D : Int → Int → Int} {jt : Int → Int} {B : Int} {n : Nat} (hD : ∀ i : Nat, i < n → okE B (D 0 i) (D 1 i) (D 2 i) (D 3 i)) (hj : ∀ i : Nat, i < n → 0 ≤ jt i ∧ jt i ≤ 16) : ∀ j : Nat, 0 < j → j ≤ n → fd D jt j 0 = D 0 (fv D jt j) + jt (fv D jt j) ∧ (∀ i : Nat, (i : Int) < fv D jt j → fd D jt j 0 < D 0 i + jt i) ∧ ∀ i : Nat, i < j → fd D jt j 0 ≤ D 0 i + jt i := by
  intro j
  induction j with
  | zero => intro h _; omega
  | succ j ih =>
    intro _ hn
    have okf := (fd_ok hD hj j (by omega)).1
    have oke := hD j (by omega)
    have hjj := hj j (by omega)
    have oke' : okE (B + 16) (D 0 j) (D 1 j) (D 2 j) (D 3 j) := by
      obtain ⟨o1, o2, o3, o4⟩ := oke
      exact ⟨by omega, by omega, by omega, o4⟩
    have t := (t_e okf oke' hjj.1).1
    rw [fd_s.1, t, fv]
    by_cases c : fd D jt j 0 = -1 ∨ D 0 j + jt j < fd D jt j 0
    · rw [if_pos c, if_pos c]
      have low : ∀ i : Nat, i < j → D 0 j + jt j < D 0 i + jt i := fun i hi => by
        have okj := (fd_ok hD hj j (by omega)).2 (by omega)
        have b0 := okj.1
        obtain ⟨g1, g2, g3⟩ := ih (by omega) (by omega)
        have := g3 i hi
        omega
      refine ⟨rfl, fun i hi => low i (by omega), fun i hi => ?_⟩
      by_cases c2 : i = j
      · subst c2; omega
      · have := low i (by omega); omega
    · rw [if_neg c, if_neg c]
      have c2 : ¬ j = 0 := fun z => c (Or.inl (by subst z; rfl))
      obtain ⟨g1, g2, g3⟩ := ih (by omega) (by omega)
      refine ⟨g1, g2, fun i hi => ?_⟩
      by_cases c3 : i = j
      · subst c3; omega
      · exact g3 i (by omega)
theorem m_27 {σ α : St} {a kd k W p v : Int} {J : Int → Int} {m : Nat} (kx : St → Int → Option (Int × St)) (h : JM σ α) (hw : WF α) (hf : allF α a) (h0 : 0 ≤ k) (hk : k = α 0 1 - 1 - (m : Nat)) (hc : mCh σ α a k) (hv : ∀ i, 0 ≤ i → i < nCh α a k → mV σ α a kd k m i) (hJ : (k = 0 ∧ ∀ x, J x = 0) ∨ (0 < k ∧ σ 141 (k - 1) = p ∧ (0 ≤ p ∧ p < α 0 0) ∧ ∀ x, J x = joiS α p (uCh α a k x))) (hJr : ∀ i, 0 ≤ i → i < nCh α a k → 0 ≤ J i ∧ J i ≤ 16) (hW : 0 ≤ W ∧ W ≤ 2000) (hv0 : 0 ≤ v ∧ v < nCh α a k) (hv1 : dp α a kd m 0 v + J v = W) (hv2 : ∀ i : Nat, (i : Int) < v → W < dp α a kd m 0 i + J i) : ∀ (x : Nat) (y : Int) (n : Nat), (x : Int) ≤ nCh α a k → ((x : Int) ≤ v → y = v) → x < n → lp_X10_layChain_27 W k kx n σ y ((x : Int) - 1) = kx σ v := by
  intro x
  have w2 := hw.2.1.2.1
  have w3 := hw.1.2.1
  have n0 := nCh_r hw h0 (show k < α 0 1 by omega) (hf k h0 (by omega))
  induction x with
  | zero =>
    intro y n h1 h2 hn
    obtain ⟨n, rfl⟩ : ∃ k, n = k + 1 := ⟨n - 1, by omega⟩
    rw [h2 (by omega), lp_X10_layChain_27, iwl_t (by omega)]
  | succ x ih =>
    intro y n h1 h2 hn
    obtain ⟨n, rfl⟩ : ∃ k, n = k + 1 := ⟨n - 1, by omega⟩
    have u := uCh_r (a := a) (k := k) (i := (x : Int)) hw (by omega) (by omega)
    have ok := dp_ok (kd := kd) hw hf m k hk h0 x (by omega)
    have o1 := ok.1
    have jr := hJr x (by omega) (by omega)
    have e1 := (hv x (by omega) (by omega)).1
    have e2 := hc.2 x (by omega) (by omega)
    have ex : ((x + 1 : Nat) : Int) - 1 = x := by omega
    rw [ex]
    -- the new keep
    have key : ∀ y' : Int, (dp α a kd m 0 x + J x = W → y' = x) → (¬ dp α a kd m 0 x + J x = W → y' = y) → lp_X10_layChain_27 W k kx n σ y' ((x : Int) + (-1)) = kx σ v := by
      intro y' k1 k2
      rw [show (x : Int) + (-1) = (x : Int) - 1 by omega]
      refine ih y' n (by omega) (fun hx => ?_) (by omega)
      by_cases c : (x : Int) = v
      · rw [← c] at hv1
        rw [k1 hv1, c]
      · have := hv2 x (by omega)
        rw [k2 (by omega)]
        exact h2 (by omega)
    rw [lp_X10_layChain_27, iwl_f (by omega), bnd_d]
    unfold jn_X10_layChain_68
    rcases hJ with ⟨q1, q2⟩ | ⟨q1, q2, q3, q4⟩
    · rw [ewl_t (by omega)]
      have q5 := q2 x
      by_cases c : dp α a kd m 0 x + J x = W
      · have g := key x (fun _ => rfl) (fun z => absurd c z)
        simp (disch := omega) only [↓rdA_t, ↓wrA_t, ↓ixA_t, ↓wrF_d, ↓bd2_s, ↓bd1_s, ↓bnd_d, ↓iww_t, ↓iww_f, ↓iwl_t, ↓iwl_f, ↓ilw_t, ↓ilw_f, ↓eww_t, ↓eww_f, ↓ewl_t, ↓ewl_f, ↓ez_t, ↓ez_f, ↓il_t, ↓il_f, il_t, il_f, ez_t, ez_f, if_true, if_false, upS_h, upS_o, upS_i, Int.reduceAdd, Int.reduceSub, Int.reduceMul, Int.reduceNeg, wI_id, e1]
        exact g
      · have g := key y (fun z => absurd z c) (fun _ => rfl)
        simp (disch := omega) only [↓rdA_t, ↓wrA_t, ↓ixA_t, ↓wrF_d, ↓bd2_s, ↓bd1_s, ↓bnd_d, ↓iww_t, ↓iww_f, ↓iwl_t, ↓iwl_f, ↓ilw_t, ↓ilw_f, ↓eww_t, ↓eww_f, ↓ewl_t, ↓ewl_f, ↓ez_t, ↓ez_f, ↓il_t, ↓il_f, il_t, il_f, ez_t, ez_f, if_true, if_false, upS_h, upS_o, upS_i, Int.reduceAdd, Int.reduceSub, Int.reduceMul, Int.reduceNeg, wI_id, e1]
        exact g
    · rw [ewl_f (by omega), rdA_t (by omega), rdA_t (by omega), q2, e2, m_joint h.1 hw.1 q3.1 q3.2 u.1.1 u.1.2, bd1_s, ← q4 x]
      by_cases c : dp α a kd m 0 x + J x = W
      · have g := key x (fun _ => rfl) (fun z => absurd c z)
        simp (disch := omega) only [↓rdA_t, ↓wrA_t, ↓ixA_t, ↓wrF_d, ↓bd2_s, ↓bd1_s, ↓bnd_d, ↓iww_t, ↓iww_f, ↓iwl_t, ↓iwl_f, ↓ilw_t, ↓ilw_f, ↓eww_t, ↓eww_f, ↓ewl_t, ↓ewl_f, ↓ez_t, ↓ez_f, ↓il_t, ↓il_f, il_t, il_f, ez_t, ez_f, if_true, if_false, upS_h, upS_o, upS_i, Int.reduceAdd, Int.reduceSub, Int.reduceMul, Int.reduceNeg, wI_id, e1]
        exact g
      · have g := key y (fun z => absurd z c) (fun _ => rfl)
        simp (disch := omega) only [↓rdA_t, ↓wrA_t, ↓ixA_t, ↓wrF_d, ↓bd2_s, ↓bd1_s, ↓bnd_d, ↓iww_t, ↓iww_f, ↓iwl_t, ↓iwl_f, ↓ilw_t, ↓ilw_f, ↓eww_t, ↓eww_f, ↓ewl_t, ↓ewl_f, ↓ez_t, ↓ez_f, ↓il_t, ↓il_f, il_t, il_f, ez_t, ez_f, if_true, if_false, upS_h, upS_o, upS_i, Int.reduceAdd, Int.reduceSub, Int.reduceMul, Int.reduceNeg, wI_id, e1]
        exact g
/-- the price that the rest of the chain must have -/
def wnt (α : St) (a kd : Int) : Nat → Int
  | 0 => tp α a kd 0
  | k + 1 => dp α a kd (α 0 1 - 1 - (k : Nat)).toNat 0 (ixs α a kd k) - fitS α kd (uCh α a k (ixs α a kd k)) k
theorem m_lay_g {α : St} {a kd : Int} (kx : St → Option (Int × St)) (hw : WF α) (hf : allF α a) (hkd : 0 ≤ kd ∧ kd ≤ 4) : ∀ (r x : Nat) (σ : St) (n : Nat), JM σ α → σ 118 39 = kd → (∀ q, 0 ≤ q → q < α 0 1 → mCh σ α a q) → (∀ q, 0 ≤ q → q < α 0 1 → ∀ i, 0 ≤ i → i < nCh α a q → mV σ α a kd q (α 0 1 - 1 - q).toNat i) → (x : Int) + r = α 0 1 → (∀ j : Int, 0 ≤ j → j < x → σ 141 j = pth α a kd j) → r < n → ∃ τ, lp_X10_layChain_7 kx n σ (wnt α a kd x) x = kx τ ∧ (∀ j, 0 ≤ j → j < α 0 1 → τ 141 j = pth α a kd j) ∧ ∀ o, ¬ o = 141 → τ o = σ o := by
  intro r
  have w2 := hw.2.1.2.1
  have w3 := hw.1.2.1
  induction r with
  | zero =>
    intro x σ n h h39 hc hv h1 hp hn
    obtain ⟨n, rfl⟩ : ∃ k, n = k + 1 := ⟨n - 1, by omega⟩
    have hs := h.2.1.1
    rw [lp_X10_layChain_7]
    exact ⟨σ, by simp (disch := omega) only [↓rdA_t, ↓wrA_t, ↓ixA_t, ↓wrF_d, ↓bd2_s, ↓bd1_s, ↓bnd_d, ↓iww_t, ↓iww_f, ↓iwl_t, ↓iwl_f, ↓ilw_t, ↓ilw_f, ↓eww_t, ↓eww_f, ↓ewl_t, ↓ewl_f, ↓ez_t, ↓ez_f, ↓il_t, ↓il_f, il_t, il_f, ez_t, ez_f, if_true, if_false, upS_h, upS_o, upS_i, Int.reduceAdd, Int.reduceSub, Int.reduceMul, Int.reduceNeg, wI_id], fun k k1 k2 => hp k k1 (by omega), fun _ _ => rfl⟩
  | succ r ih =>
    intro x σ n h h39 hc hv h1 hp hn
    obtain ⟨n, rfl⟩ : ∃ k, n = k + 1 := ⟨n - 1, by omega⟩
    have hs := h.2.1.1
    have ir := ixs_r (kd := kd) hw hf x (by omega)
    have n0 := nCh_r hw (show (0 : Int) ≤ (x : Int) by omega) (by omega) (hf x (by omega) (by omega))
    have hcx := hc x (by omega) (by omega)
    have hvx := hv x (by omega) (by omega)
    have u := uCh_r (a := a) (k := (x : Int)) (i := ixs α a kd x) hw ir.1 ir.2
    have fr := fitS_r (a := kd) hw u.1.1 u.1.2 (show (0 : Int) ≤ x by omega) (by omega)
    have ef := m_fit h hw hkd u.1.1 u.1.2 (show (0 : Int) ≤ x by omega) (by omega)
    have ep : pth α a kd x = uCh α a x (ixs α a kd x) := by unfold pth; rw [show ((x : Int)).toNat = x by omega]
    have e4 := hcx.2 (ixs α a kd x) ir.1 ir.2
    have e5 := (hvx (ixs α a kd x) ir.1 ir.2).1
    have hD : ∀ i : Nat, i < (nCh α a x).toNat → okE (60 * (((α 0 1 - 1 - (x : Nat)).toNat : Int) + 1)) (dp α a kd (α 0 1 - 1 - (x : Nat)).toNat 0 i) (dp α a kd (α 0 1 - 1 - (x : Nat)).toNat 1 i) (dp α a kd (α 0 1 - 1 - (x : Nat)).toNat 2 i) (dp α a kd (α 0 1 - 1 - (x : Nat)).toNat 3 i) := fun i hi => dp_ok hw hf _ x (by omega) (by omega) i (by omega)
    -- the inner loop finds the entry of the path
    have inner : ∀ kx' : St → Int → Option (Int × St), lp_X10_layChain_27 (wnt α a kd x) x kx' 1000 σ (-1) (nCh α a x - 1) = kx' σ (ixs α a kd x) := by
      intro kx'
      have en : nCh α a x - 1 = (((nCh α a x).toNat : Nat) : Int) - 1 := by omega
      rw [en]
      cases x with
      | zero =>
        have hJr : ∀ i : Nat, i < (nCh α a ((0 : Nat) : Int)).toNat → 0 ≤ (fun _ : Int => (0 : Int)) (i : Int) ∧ (fun _ : Int => (0 : Int)) (i : Int) ≤ 16 := fun i hi => by show (0 : Int) ≤ 0 ∧ (0 : Int) ≤ 16; omega
        obtain ⟨g1, g2, g3⟩ := fv_p (jt := fun _ : Int => (0 : Int)) hD hJr (nCh α a ((0 : Nat) : Int)).toNat (by omega) (by omega)
        have ok := (fd_ok (jt := fun _ : Int => (0 : Int)) hD hJr (nCh α a ((0 : Nat) : Int)).toNat (by omega)).2 (by omega)
        have em : (α 0 1 - 1 - ((0 : Nat) : Int)).toNat = (α 0 1 - 1).toNat := by omega
        rw [em] at g1 g2 g3 ok hvx
        have ew : wnt α a kd 0 = fd (dp α a kd (α 0 1 - 1).toNat) (fun _ : Int => (0 : Int)) (nCh α a ((0 : Nat) : Int)).toNat 0 := rfl
        rw [ew]
        exact m_27 (a := a) (kd := kd) (p := 0) (J := fun _ => 0) (m := (α 0 1 - 1).toNat) kx' h hw hf (by omega) (by omega) hcx hvx (Or.inl ⟨rfl, fun _ => rfl⟩) (fun i _ _ => by omega) (by have := ok.1; omega) ir g1.symm g2 _ _ _ (by omega) (by omega) (by omega)
      | succ k =>
        have ik := ixs_r (kd := kd) hw hf k (by omega)
        have uk := uCh_r (a := a) (k := (k : Int)) (i := ixs α a kd k) hw ik.1 ik.2
        obtain ⟨m, hm⟩ : ∃ m : Nat, (α 0 1 - 1 - (k : Nat)).toNat = m + 1 := ⟨(α 0 1 - 1 - (k : Nat)).toNat - 1, by omega⟩
        have em : (α 0 1 - 1 - ((k + 1 : Nat) : Int)).toNat = m := by omega
        have ek : (k : Int) = α 0 1 - 1 - ((m + 1 : Nat) : Int) := by omega
        have ek1 : (k : Int) + 1 = ((k + 1 : Nat) : Int) := by omega
        have hJr : ∀ i : Nat, i < (nCh α a ((k + 1 : Nat) : Int)).toNat → 0 ≤ jnt α a k (ixs α a kd k) i ∧ jnt α a k (ixs α a kd k) i ≤ 16 := fun i hi => by
          have v := uCh_r (a := a) (k := ((k + 1 : Nat) : Int)) (i := (i : Int)) hw (by omega) (by omega)
          unfold jnt
          rw [ek1]
          exact joiS_r hw.1 uk.1.1 uk.1.2 v.1.1 v.1.2
        rw [em] at hD hvx
        obtain ⟨g1, g2, g3⟩ := fv_p hD hJr (nCh α a ((k + 1 : Nat) : Int)).toNat (by omega) (by omega)
        have ok := (fd_ok hD hJr (nCh α a ((k + 1 : Nat) : Int)).toNat (by omega)).2 (by omega)
        have ew : wnt α a kd (k + 1) = fd (dp α a kd m) (jnt α a k (ixs α a kd k)) (nCh α a ((k + 1 : Nat) : Int)).toNat 0 := by
          have s0 := (dp_s (α := α) (a := a) (kd := kd) (i := ixs α a kd k) ek).1
          rw [wnt, hm, s0, ek1]
          omega
        have ei : ixs α a kd (k + 1) = fv (dp α a kd m) (jnt α a k (ixs α a kd k)) (nCh α a ((k + 1 : Nat) : Int)).toNat := by
          rw [ixs, hm, via, ← ek, ek1]
        have pk : σ 141 (((k + 1 : Nat) : Int) - 1) = uCh α a k (ixs α a kd k) := by
          rw [show ((k + 1 : Nat) : Int) - 1 = k by omega, hp k (by omega) (by omega)]
          unfold pth
          rw [show ((k : Int)).toNat = k by omega]
        rw [ei] at ir ⊢
        rw [ew]
        exact m_27 (a := a) (kd := kd) (p := uCh α a k (ixs α a kd k)) (J := jnt α a k (ixs α a kd k)) (m := m) kx' h hw hf (by omega) (by omega) hcx hvx (Or.inr ⟨by omega, pk, uk.1, fun z => by unfold jnt; rw [ek1]⟩) (fun i i1 i2 => by
          have := hJr i.toNat (by omega)
          rw [show ((i.toNat : Nat) : Int) = i by omega] at this
          exact this) (by have := ok.1; omega) ir g1.symm g2 _ _ _ (by omega) (by omega) (by omega)
    have hs141 : ∀ o, ¬ o = 141 → upS σ 141 x (pth α a kd x) o = σ o := fun o ho => upS_of ho
    obtain ⟨τ, g1, g2, g3⟩ := ih (x + 1) (upS σ 141 x (pth α a kd x)) n (JM_scr (fun i _ => upS_o (by omega)) (fun o o1 o2 => upS_of (by omega)) h) (by rw [upS_o (by omega)]; exact h39) (fun q q1 q2 => by
      have z := hc q q1 q2
      unfold mCh at z ⊢
      rw [hs141 135 (by omega), hs141 136 (by omega)]
      exact z) (fun q q1 q2 i i1 i2 => by
      have z := hv q q1 q2 i i1 i2
      unfold mV at z ⊢
      rw [hs141 137 (by omega), hs141 138 (by omega), hs141 139 (by omega), hs141 140 (by omega)]
      exact z) (by omega) (fun k k1 k2 => by
      by_cases c : k = x
      · subst c; exact upS_h ⟨rfl, rfl⟩
      · rw [upS_i c]; exact hp k k1 (by omega)) (by omega)
    rw [show ((x + 1 : Nat) : Int) = (x : Int) + 1 by omega] at g1
    refine ⟨τ, ?_, g2, fun o ho => by rw [g3 o ho, hs141 o ho]⟩
    have ew : wnt α a kd (x + 1) = dp α a kd (α 0 1 - 1 - (x : Nat)).toNat 0 (ixs α a kd x) - fitS α kd (uCh α a x (ixs α a kd x)) x := rfl
    rw [← g1, ew, ep, lp_X10_layChain_7]
    have e1 := hcx.1
    rw [iww_t (by omega), rdA_t (by omega), e1, bnd_d, inner]
    unfold f_X10_fitNow
    simp (disch := omega) only [↓rdA_t, ↓wrA_t, ↓ixA_t, ↓wrF_d, ↓bd2_s, ↓bd1_s, ↓bnd_d, ↓iww_t, ↓iww_f, ↓iwl_t, ↓iwl_f, ↓ilw_t, ↓ilw_f, ↓eww_t, ↓eww_f, ↓ewl_t, ↓ewl_f, ↓ez_t, ↓ez_f, ↓il_t, ↓il_f, il_t, il_f, ez_t, ez_f, if_true, if_false, upS_h, upS_o, upS_i, Int.reduceAdd, Int.reduceSub, Int.reduceMul, Int.reduceNeg, wI_id, e4, e5, h39, ef]
