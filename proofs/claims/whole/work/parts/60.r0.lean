theorem m_46 {α : St} {a kd : Int} (kx : St → Option (Int × St)) (hw : WF α) (hf : allF α a) (hkd : 0 ≤ kd ∧ kd ≤ 4) : ∀ (r : Nat) (σ : St) (k : Int) (n : Nat), JM σ α → (∀ q, 0 ≤ q → q < α 0 1 → mCh σ α a q) → k + 1 = r → k < α 0 1 → (∀ q, k < q → q < α 0 1 → ∀ i, 0 ≤ i → i < nCh α a q → mV σ α a kd q (α 0 1 - 1 - q).toNat i) → r < n → ∃ τ, lp_X10_chains_46 kd 1 kx n σ k = kx τ ∧ (∀ q, 0 ≤ q → q < α 0 1 → ∀ i, 0 ≤ i → i < nCh α a q → mV τ α a kd q (α 0 1 - 1 - q).toNat i) ∧ mG σ τ := by
  intro r
  have w2 := hw.2.1.2.1
  have w3 := hw.1.2.1
  induction r with
  | zero =>
    intro σ k n h hc h1 h2 hv hn
    obtain ⟨n, rfl⟩ : ∃ k, n = k + 1 := ⟨n - 1, by omega⟩
    rw [lp_X10_chains_46]
    exact ⟨σ, by simp (disch := omega) only [↓rdA_t, ↓wrA_t, ↓ixA_t, ↓wrF_d, ↓bd2_s, ↓bd1_s, ↓bnd_d, ↓iww_t, ↓iww_f, ↓iwl_t, ↓iwl_f, ↓ilw_t, ↓ilw_f, ↓eww_t, ↓eww_f, ↓ewl_t, ↓ewl_f, ↓ez_t, ↓ez_f, ↓il_t, ↓il_f, il_t, il_f, ez_t, ez_f, if_true, if_false, upS_h, upS_o, upS_i, Int.reduceAdd, Int.reduceSub, Int.reduceMul, Int.reduceNeg, wI_id], fun q q1 q2 => hv q (by omega) q2, fun _ _ => rfl, fun _ _ => rfl⟩
  | succ r ih =>
    intro σ k n h hc h1 h2 hv hn
    obtain ⟨n, rfl⟩ : ∃ k, n = k + 1 := ⟨n - 1, by omega⟩
    have n0 := nCh_r hw (show 0 ≤ k by omega) h2 (hf k (by omega) h2)
    obtain ⟨τ, g1, g2, g3, g4⟩ := m_57 (α := α) (a := a) (kd := kd) (k := k) (y := 1) (m := (α 0 1 - 1 - k).toNat) (fun σ45 => lp_X10_chains_46 kd 1 kx n σ45 (k + (-1))) hw hf hkd (by omega) (by omega) (nCh α a k).toNat σ 0 1000 h hc (fun m' hm j j1 j2 => by
      have q := hv (k + 1) (by omega) (by omega) j j1 j2
      rw [show (α 0 1 - 1 - (k + 1)).toNat = m' by omega] at q
      exact q) (by omega) (by omega) (fun i i1 i2 => by omega) (by omega)
    obtain ⟨ρ, f1, f2, f3⟩ := ih τ (k + (-1)) n (mG_J g3 h) (fun q q1 q2 => mG_C g3 (hc q q1 q2)) (by omega) (by omega) (fun q q1 q2 i i1 i2 => by
      by_cases c : q = k
      · subst c; exact g2 i i1 i2
      · have z := hv q (by omega) q2 i i1 i2
        have nq := nCh_r hw (show 0 ≤ q by omega) q2 (hf q (by omega) q2)
        unfold mV at z ⊢
        rw [g4 137 _ (by omega) (by omega), g4 138 _ (by omega) (by omega), g4 139 _ (by omega) (by omega), g4 140 _ (by omega) (by omega)]
        exact z) (by omega)
    refine ⟨ρ, ?_, f2, mG_t g3 f3⟩
    rw [← f1, lp_X10_chains_46, ← g1]
    simp (disch := omega) only [↓rdA_t, ↓wrA_t, ↓ixA_t, ↓wrF_d, ↓bd2_s, ↓bd1_s, ↓bnd_d, ↓iww_t, ↓iww_f, ↓iwl_t, ↓iwl_f, ↓ilw_t, ↓ilw_f, ↓eww_t, ↓eww_f, ↓ewl_t, ↓ewl_f, ↓ez_t, ↓ez_f, ↓il_t, ↓il_f, il_t, il_f, ez_t, ez_f, if_true, if_false, upS_h, upS_o, upS_i, Int.reduceAdd, Int.reduceSub, Int.reduceMul, Int.reduceNeg, wI_id]
theorem m_294 {α : St} {a kd : Int} (kx : St → Option (Int × St)) (hw : WF α) (hf : allF α a) (hn0 : 0 < α 0 1) : ∀ (r x : Nat) (σ : St) (n : Nat), mCh σ α a 0 → (∀ i, 0 ≤ i → i < nCh α a 0 → mV σ α a kd 0 (α 0 1 - 1).toNat i) → (x : Int) + r = nCh α a 0 → mE σ (fd (dp α a kd (α 0 1 - 1).toNat) (fun _ => 0) x) → r < n → ∃ τ, lp_X10_chains_294 1 kx n σ x = kx τ ∧ mE τ (fd (dp α a kd (α 0 1 - 1).toNat) (fun _ => 0) (x + r)) ∧ mN σ τ := by
  intro r
  have w2 := hw.2.1.2.1
  have w3 := hw.1.2.1
  have n0 := nCh_r hw (show (0 : Int) ≤ 0 by omega) hn0 (hf 0 (by omega) hn0)
  have hDr : ∀ j : Nat, j < (nCh α a 0).toNat → okE 480 (dp α a kd (α 0 1 - 1).toNat 0 j) (dp α a kd (α 0 1 - 1).toNat 1 j) (dp α a kd (α 0 1 - 1).toNat 2 j) (dp α a kd (α 0 1 - 1).toNat 3 j) := fun j hj => by
    have q := dp_ok (kd := kd) hw hf (α 0 1 - 1).toNat 0 (by omega) (by omega) j (by omega)
    obtain ⟨o1, o2, o3, o4⟩ := q
    exact ⟨by omega, by omega, by omega, o4⟩
  induction r with
  | zero =>
    intro x σ n hc hv h1 hE hn
    obtain ⟨n, rfl⟩ : ∃ k, n = k + 1 := ⟨n - 1, by omega⟩
    have e1 := hc.1
    rw [lp_X10_chains_294]
    exact ⟨σ, by simp (disch := omega) only [↓rdA_t, ↓wrA_t, ↓ixA_t, ↓wrF_d, ↓bd2_s, ↓bd1_s, ↓bnd_d, ↓iww_t, ↓iww_f, ↓iwl_t, ↓iwl_f, ↓ilw_t, ↓ilw_f, ↓eww_t, ↓eww_f, ↓ewl_t, ↓ewl_f, ↓ez_t, ↓ez_f, ↓il_t, ↓il_f, il_t, il_f, ez_t, ez_f, if_true, if_false, upS_h, upS_o, upS_i, Int.reduceAdd, Int.reduceSub, Int.reduceMul, Int.reduceNeg, wI_id, e1], hE, fun _ _ => rfl, fun _ _ => rfl⟩
  | succ r ih =>
    intro x σ n hc hv h1 hE hn
    obtain ⟨n, rfl⟩ : ∃ k, n = k + 1 := ⟨n - 1, by omega⟩
    have e1 := hc.1
    have okf := (fd_ok (jt := fun _ => 0) hDr (fun j hj => by omega) x (by omega)).1
    have oke := hDr x (by omega)
    have oke' : okE (480 + 16) (dp α a kd (α 0 1 - 1).toNat 0 x) (dp α a kd (α 0 1 - 1).toNat 1 x) (dp α a kd (α 0 1 - 1).toNat 2 x) (dp α a kd (α 0 1 - 1).toNat 3 x) := by
      obtain ⟨o1, o2, o3, o4⟩ := oke
      exact ⟨by omega, by omega, by omega, o4⟩
    obtain ⟨v0, v1, v2, v3⟩ := hv x (by omega) (by omega)
    rw [show 40 * 0 + (x : Int) = x by omega] at v0 v1 v2 v3
    obtain ⟨E0, E1, E2, E3⟩ := hE
    obtain ⟨τ, g1, g2, g3, g4⟩ := m_take (t := 0) (B := 480 + 16) (show 0 ≤ (x : Int) ∧ (x : Int) < 320 by omega) E0 E1 E2 E3 v0 v1 v2 v3 okf oke' (by omega) (by omega)
    have sc : mN σ τ := ⟨g3, g4⟩
    obtain ⟨ρ, f1, f2, f3⟩ := ih (x + 1) τ n (by
      unfold mCh at hc ⊢
      rw [g3 135 (by omega), g3 136 (by omega)]
      exact hc) (fun j j1 j2 => by
      have q := hv j j1 j2
      unfold mV at q ⊢
      rw [g3 137 (by omega), g3 138 (by omega), g3 139 (by omega), g3 140 (by omega)]
      exact q) (by omega) g2 (by omega)
    rw [show x + 1 + r = x + (r + 1) by omega] at f2
    rw [show ((x + 1 : Nat) : Int) = (x : Int) + 1 by omega] at f1
    refine ⟨ρ, ?_, f2, mN_t sc f3⟩
    rw [← f1, lp_X10_chains_294]
    simp (disch := omega) only [↓rdA_t, ↓wrA_t, ↓ixA_t, ↓wrF_d, ↓bd2_s, ↓bd1_s, ↓bnd_d, ↓iww_t, ↓iww_f, ↓iwl_t, ↓iwl_f, ↓ilw_t, ↓ilw_f, ↓eww_t, ↓eww_f, ↓ewl_t, ↓ewl_f, ↓ez_t, ↓ez_f, ↓il_t, ↓il_f, il_t, il_f, ez_t, ez_f, if_true, if_false, upS_h, upS_o, upS_i, Int.reduceAdd, Int.reduceSub, Int.reduceMul, Int.reduceNeg, wI_id, e1, g1]
/-- the reference's chains stand -/
def mFd (τ α : St) (a kd : Int) : Prop := mE τ (tp α a kd) ∧ (∀ q, 0 ≤ q → q < α 0 1 → mCh τ α a q) ∧ ∀ q, 0 ≤ q → q < α 0 1 → ∀ i, 0 ≤ i → i < nCh α a q → mV τ α a kd q (α 0 1 - 1 - q).toNat i
theorem mG_S {σ τ : St} (h : mG σ τ) : mSc σ τ := ⟨fun o ho => h.1 o (by omega), fun i a b c => h.2 i c⟩
theorem mN_S {σ τ : St} (h : mN σ τ) : mSc σ τ := ⟨fun o ho => h.1 o (by omega), fun i a b c => h.2 i c⟩
theorem m_chains {σ α : St} {a kd : Int} (h : JM σ α) (hw : WF α) (hg : σ 118 27 = a) (ha : -1 ≤ a ∧ a < 40) (hkd : 0 ≤ kd ∧ kd ≤ 4) : ((0 < α 0 1 ∧ allF α a) ∧ ∃ τ, f_X10_chains σ kd = some (1, τ) ∧ mFd τ α a kd ∧ mSc σ τ) ∨ (¬ (0 < α 0 1 ∧ allF α a) ∧ ∃ τ, f_X10_chains σ kd = some (0, τ) ∧ mSc σ τ) := by
  have w1 := hw.2.1.1
  have w2 := hw.2.1.2.1
  have w3 := hw.1.2.1
  have hs := h.2.1.1
  -- with nothing chosen the two loops pass
  have nOne : ∀ τ : St, JM τ α → ∃ ρ, jn_X10_chains_39 τ kd 0 = some (0, ρ) ∧ mN τ ρ := by
    intro τ hJ
    have hs2 := hJ.2.1.1
    obtain ⟨ρ, b1, b2, b3⟩ := m_begin (σ := τ) (fun _ _ => 0) (fun _ => 0)
    refine ⟨ρ, ?_, b3⟩
    unfold jn_X10_chains_39 jn_X10_chains_288
    rw [bnd_d, lp_X10_chains_46]
    have e : (bd2 (f_X10_begins τ) fun v47 σ48 => lp_X10_chains_294 0 (fun σ54 => if (0 : Int) = 0 ∨ (0 : Int) = 1 then some (0, σ54) else none) 1000 σ48 0) = some (0, ρ) := by
      rw [b1, bd2_s, lp_X10_chains_294, ewl_t (by omega), if_pos (Or.inl rfl)]
    by_cases c : α 0 1 - 1 < 0
    · rw [iwl_t (by omega)]
      exact e
    · rw [iwl_f (by omega), ewl_t (by omega)]
      exact e
  unfold f_X10_chains
  by_cases c0 : 0 < α 0 1
  · rw [bnd_d, hs, ilw_t (by omega)]
    rcases m_all_g (α := α) (a := a) (kd := kd) (fun σ8 y9 => jn_X10_chains_39 σ8 kd y9) hw ha (α 0 1).toNat σ 0 1000 h hg (by omega) (by omega) (fun k k1 k2 => by omega) (by omega) with ⟨b1, τ, b2, b3, b4⟩ | ⟨b1, τ, b2, b3⟩
    · left
      have hJ := mSc_J b4 h
      have hs2 := hJ.2.1.1
      have n0 := nCh_r hw (show (0 : Int) ≤ 0 by omega) c0 (b1 0 (by omega) c0)
      obtain ⟨ρ, g1, g2, g3⟩ := m_46 (α := α) (a := a) (kd := kd) (fun σ46 => jn_X10_chains_288 σ46 1) hw b1 hkd (α 0 1).toNat τ (α 0 1 - 1) 1000 hJ b3 (by omega) (by omega) (fun q q1 q2 => by omega) (by omega)
      obtain ⟨ξ, d1, d2, d3⟩ := m_begin (σ := ρ) (dp α a kd (α 0 1 - 1).toNat) (fun _ => 0)
      have lev : ∀ {ζ : St}, mN ρ ζ → ∀ q, 0 ≤ q → q < α 0 1 → ∀ i, 0 ≤ i → i < nCh α a q → mV ζ α a kd q (α 0 1 - 1 - q).toNat i := fun hx q q1 q2 i i1 i2 => by
        have z := g2 q q1 q2 i i1 i2
        unfold mV at z ⊢
        rw [hx.1 137 (by omega), hx.1 138 (by omega), hx.1 139 (by omega), hx.1 140 (by omega)]
        exact z
      have chs : ∀ {ζ : St}, mN ρ ζ → ∀ q, 0 ≤ q → q < α 0 1 → mCh ζ α a q := fun hx q q1 q2 => by
        have z := mG_C g3 (b3 q q1 q2)
        unfold mCh at z ⊢
        rw [hx.1 135 (by omega), hx.1 136 (by omega)]
        exact z
      obtain ⟨ζ, f1, f2, f3⟩ := m_294 (α := α) (a := a) (kd := kd) (fun σ54 => if (1 : Int) = 0 ∨ (1 : Int) = 1 then some (1, σ54) else none) hw b1 c0 (nCh α a 0).toNat 0 ξ 1000 (chs d3 0 (by omega) c0) (fun i i1 i2 => by
        have q := lev d3 0 (by omega) c0 i i1 i2
        rw [show (α 0 1 - 1 - 0).toNat = (α 0 1 - 1).toNat by omega] at q
        exact q) (by omega) d2 (by omega)
      rw [Nat.zero_add] at f2
      have sc := mN_t d3 f3
      refine ⟨⟨c0, b1⟩, ζ, ?_, ⟨f2, chs sc, lev sc⟩, mSc_t b4 (mSc_t (mG_S g3) (mN_S sc))⟩
      rw [b2]
      unfold jn_X10_chains_39
      rw [bnd_d, hs2, g1]
      unfold jn_X10_chains_288
      have e0 : (((0 : Nat)) : Int) = 0 := rfl
      rw [e0] at f1
      rw [d1, bd2_s, f1, if_pos (Or.inr rfl)]
    · right
      obtain ⟨ρ, g1, g2⟩ := nOne τ (mSc_J b3 h)
      refine ⟨fun z => b1 z.2, ρ, ?_, mSc_t b3 (mN_S g2)⟩
      rw [b2]
      exact g1
  · right
    obtain ⟨ρ, g1, g2⟩ := nOne σ h
    refine ⟨fun z => c0 z.1, ρ, ?_, mN_S g2⟩
    rw [bnd_d, hs, ilw_f (by omega), lp_X10_chains_15, iww_f (by omega)]
    exact g1
