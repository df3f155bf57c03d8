/-! ===== choice ===== -/
theorem oC_tr {f : Option (Int × St)} {σ τ α : St} {r : Int} {β : St} (ht : ∀ o, 118 ≤ o → τ o = σ o) (h : oC f τ α r β) : oC f σ α r β := by
  obtain ⟨ρ, a1, a2, a3⟩ := h
  exact ⟨ρ, a1, a2, fun o ho => (a3 o ho).trans (ht o ho)⟩
theorem oM_tr {f : Option (Int × St)} {σ τ α : St} {r : Int} {β : St} (ht : ∀ o, o < 118 → τ o = σ o) (h : oM f τ α r β) : oM f σ α r β := by
  obtain ⟨ρ, a1, a2, a3⟩ := h
  exact ⟨ρ, a1, a2, fun o ho => (a3 o ho).trans (ht o ho)⟩
abbrev isPl (α : St) (k : Int) : Prop := (0 ≤ k ∧ k ≤ 7) ∧ (0 < α 0 1 → k < α 0 1)
theorem c_isPl {σ α : St} {k : Int} (h : cR σ α) (hw : wR α) (hk : inR k) : f_X9_isPlace σ k = if isPl α k then 1 else 0 := by
  have e := c_isT h hw hk
  unfold inR at hk
  obtain ⟨w1, w2, w3⟩ := hw
  have hs := h.1
  unfold f_X9_isPlace
  rw [e]
  by_cases c0 : α 0 1 = 0
  · by_cases c : 0 ≤ k ∧ k ≤ 7
    · rw [if_pos (show isPl α k from ⟨c, by omega⟩)]
      simp (disch := omega) only [↓rdA_t, ↓wrA_t, ↓ixA_t, ↓wrF_d, ↓bd2_s, ↓bd1_s, ↓bnd_d, ↓iww_t, ↓iww_f, ↓iwl_t, ↓iwl_f, ↓ilw_t, ↓ilw_f, ↓eww_t, ↓eww_f, ↓ewl_t, ↓ewl_f, ↓ez_t, ↓ez_f, ↓il_t, ↓il_f, il_t, il_f, ez_t, ez_f, if_true, if_false, upS_h, upS_o, upS_i, Int.reduceAdd, Int.reduceSub, Int.reduceMul, Int.reduceNeg, wI_id, within_t]
    · rw [if_neg (show ¬ isPl α k from fun z => c z.1)]
      simp (disch := omega) only [↓rdA_t, ↓wrA_t, ↓ixA_t, ↓wrF_d, ↓bd2_s, ↓bd1_s, ↓bnd_d, ↓iww_t, ↓iww_f, ↓iwl_t, ↓iwl_f, ↓ilw_t, ↓ilw_f, ↓eww_t, ↓eww_f, ↓ewl_t, ↓ewl_f, ↓ez_t, ↓ez_f, ↓il_t, ↓il_f, il_t, il_f, ez_t, ez_f, if_true, if_false, upS_h, upS_o, upS_i, Int.reduceAdd, Int.reduceSub, Int.reduceMul, Int.reduceNeg, wI_id, within_f]
  · by_cases c : 0 ≤ k ∧ k < α 0 1
    · rw [if_pos (show isPl α k from ⟨by omega, by omega⟩), if_pos c]
      simp (disch := omega) only [↓rdA_t, ↓wrA_t, ↓ixA_t, ↓wrF_d, ↓bd2_s, ↓bd1_s, ↓bnd_d, ↓iww_t, ↓iww_f, ↓iwl_t, ↓iwl_f, ↓ilw_t, ↓ilw_f, ↓eww_t, ↓eww_f, ↓ewl_t, ↓ewl_f, ↓ez_t, ↓ez_f, ↓il_t, ↓il_f, il_t, il_f, ez_t, ez_f, if_true, if_false, upS_h, upS_o, upS_i, Int.reduceAdd, Int.reduceSub, Int.reduceMul, Int.reduceNeg, wI_id]
    · rw [if_neg (show ¬ isPl α k from fun z => c ⟨z.1.1, z.2 (by omega)⟩), if_neg c]
      simp (disch := omega) only [↓rdA_t, ↓wrA_t, ↓ixA_t, ↓wrF_d, ↓bd2_s, ↓bd1_s, ↓bnd_d, ↓iww_t, ↓iww_f, ↓iwl_t, ↓iwl_f, ↓ilw_t, ↓ilw_f, ↓eww_t, ↓eww_f, ↓ewl_t, ↓ewl_f, ↓ez_t, ↓ez_f, ↓il_t, ↓il_f, il_t, il_f, ez_t, ez_f, if_true, if_false, upS_h, upS_o, upS_i, Int.reduceAdd, Int.reduceSub, Int.reduceMul, Int.reduceNeg, wI_id]
def rCh (α : St) (k j : Int) : Int := if isPl α k ∧ -1 ≤ j then (if α 0 1 = 0 then -3 else if (rnS α (-1) k).1 = 0 then -3 else if j = -1 then nCh α (-1) k else if j < nCh α (-1) k then uCh α (-1) k j else -5) else -10
def aCh (α : St) (k j : Int) : St := if isPl α k ∧ -1 ≤ j then (if α 0 1 = 0 then aR α 4 else if (rnS α (-1) k).1 = 0 then aR α 4 else α) else aR α 3
theorem xc_choice {σ α : St} {k j : Int} (h : IC σ α) (hw : WF α) (hk : inR k) (hj : inR j) : oC (f_X9_choice σ k j) σ α (rCh α k j) (aCh α k j) := by
  have hs := h.2.1.1
  have w1 := hw.2.1.1
  have w2 := hw.2.1.2.1
  have w3 := hw.1.2.1
  unfold f_X9_choice rCh aCh
  rw [c_isPl h.2.1 hw.2.1 hk]
  unfold inR at hk hj
  have bad : oC (wrF σ 0 9 ((σ 0 9) + 1) fun σ3 => some ((-10), σ3)) σ α (-10) (aR α 3) := ⟨_, rfl, IC_aR 3 (by omega) h, fun o ho => upS_of (by omega)⟩
  by_cases c : isPl α k
  · rw [if_pos c]
    by_cases c1 : -1 ≤ j
    · rw [if_pos (⟨c, c1⟩ : isPl α k ∧ -1 ≤ j), if_pos (⟨c, c1⟩ : isPl α k ∧ -1 ≤ j)]
      by_cases c2 : α 0 1 = 0
      · rw [if_pos c2, if_pos c2]
        simp (disch := omega) only [↓rdA_t, ↓wrA_t, ↓ixA_t, ↓wrF_d, ↓bd2_s, ↓bd1_s, ↓bnd_d, ↓iww_t, ↓iww_f, ↓iwl_t, ↓iwl_f, ↓ilw_t, ↓ilw_f, ↓eww_t, ↓eww_f, ↓ewl_t, ↓ewl_f, ↓ez_t, ↓ez_f, ↓il_t, ↓il_f, il_t, il_f, ez_t, ez_f, if_true, if_false, upS_h, upS_o, upS_i, Int.reduceAdd, Int.reduceSub, Int.reduceMul, Int.reduceNeg, wI_id]
        exact oC_id (oC_no h)
      · rw [if_neg c2, if_neg c2]
        obtain ⟨τ, g1, g2, g3, g4⟩ := c_choose1 h hw c.1.1 (c.2 (by omega))
        have r := rnS_r (a := -1) hw c.1.1 (c.2 (by omega))
        unfold f_X1_isMissing
        by_cases c3 : (rnS α (-1) k).1 = 0
        · rw [if_pos c3, if_pos c3]
          have e := g2.2.1 c3
          simp (disch := omega) only [↓rdA_t, ↓wrA_t, ↓ixA_t, ↓wrF_d, ↓bd2_s, ↓bd1_s, ↓bnd_d, ↓iww_t, ↓iww_f, ↓iwl_t, ↓iwl_f, ↓ilw_t, ↓ilw_f, ↓eww_t, ↓eww_f, ↓ewl_t, ↓ewl_f, ↓ez_t, ↓ez_f, ↓il_t, ↓il_f, il_t, il_f, ez_t, ez_f, if_true, if_false, upS_h, upS_o, upS_i, Int.reduceAdd, Int.reduceSub, Int.reduceMul, Int.reduceNeg, wI_id, g1, e]
          exact oC_tr g4 (oC_id (oC_no g3))
        · rw [if_neg c3, if_neg c3]
          obtain ⟨e1, e2, e3⟩ := g2.1 (by omega)
          have r2 := nCh_r hw c.1.1 (c.2 (by omega)) (show (rnS α (-1) k).1 = 1 by omega)
          by_cases c4 : j = -1
          · simp (disch := omega) only [↓rdA_t, ↓wrA_t, ↓ixA_t, ↓wrF_d, ↓bd2_s, ↓bd1_s, ↓bnd_d, ↓iww_t, ↓iww_f, ↓iwl_t, ↓iwl_f, ↓ilw_t, ↓ilw_f, ↓eww_t, ↓eww_f, ↓ewl_t, ↓ewl_f, ↓ez_t, ↓ez_f, ↓il_t, ↓il_f, il_t, il_f, ez_t, ez_f, if_true, if_false, upS_h, upS_o, upS_i, Int.reduceAdd, Int.reduceSub, Int.reduceMul, Int.reduceNeg, wI_id, g1, e1, e2]
            exact ⟨τ, rfl, g3, g4⟩
          · by_cases c5 : j < nCh α (-1) k
            · simp (disch := omega) only [↓rdA_t, ↓wrA_t, ↓ixA_t, ↓wrF_d, ↓bd2_s, ↓bd1_s, ↓bnd_d, ↓iww_t, ↓iww_f, ↓iwl_t, ↓iwl_f, ↓ilw_t, ↓ilw_f, ↓eww_t, ↓eww_f, ↓ewl_t, ↓ewl_f, ↓ez_t, ↓ez_f, ↓il_t, ↓il_f, il_t, il_f, ez_t, ez_f, if_true, if_false, upS_h, upS_o, upS_i, Int.reduceAdd, Int.reduceSub, Int.reduceMul, Int.reduceNeg, wI_id, g1, e1, e2, e3 j (by omega) c5]
              exact ⟨τ, rfl, g3, g4⟩
            · simp (disch := omega) only [↓rdA_t, ↓wrA_t, ↓ixA_t, ↓wrF_d, ↓bd2_s, ↓bd1_s, ↓bnd_d, ↓iww_t, ↓iww_f, ↓iwl_t, ↓iwl_f, ↓ilw_t, ↓ilw_f, ↓eww_t, ↓eww_f, ↓ewl_t, ↓ewl_f, ↓ez_t, ↓ez_f, ↓il_t, ↓il_f, il_t, il_f, ez_t, ez_f, if_true, if_false, upS_h, upS_o, upS_i, Int.reduceAdd, Int.reduceSub, Int.reduceMul, Int.reduceNeg, wI_id, g1, e1, e2]
              exact ⟨τ, rfl, g3, g4⟩
    · rw [if_neg (show ¬ (isPl α k ∧ -1 ≤ j) from fun z => c1 z.2), if_neg (show ¬ (isPl α k ∧ -1 ≤ j) from fun z => c1 z.2)]
      rw [if_neg (by omega), iwl_t (by omega)]
      exact bad
  · rw [if_neg c, if_neg (show ¬ (isPl α k ∧ -1 ≤ j) from fun z => c z.1), if_neg (show ¬ (isPl α k ∧ -1 ≤ j) from fun z => c z.1), if_pos rfl]
    exact bad
theorem xm_choice {σ α : St} {k j : Int} (h : IM σ α) (hw : WF α) (hk : inR k) (hj : inR j) : oM (f_X10_choice σ k j) σ α (rCh α k j) (aCh α k j) := by
  have hs := h.2.1.1
  have w1 := hw.2.1.1
  have w2 := hw.2.1.2.1
  have w3 := hw.1.2.1
  unfold inR at hk hj
  have main : isPl α k → oM (jn_X10_choice_27 σ k j) σ α (rCh α k j) (aCh α k j) := by
    intro c
    unfold jn_X10_choice_27 rCh aCh
    by_cases c1 : -1 ≤ j
    · rw [if_pos (⟨c, c1⟩ : isPl α k ∧ -1 ≤ j), if_pos (⟨c, c1⟩ : isPl α k ∧ -1 ≤ j)]
      by_cases c2 : α 0 1 = 0
      · rw [if_pos c2, if_pos c2]
        simp (disch := omega) only [↓rdA_t, ↓wrA_t, ↓ixA_t, ↓wrF_d, ↓bd2_s, ↓bd1_s, ↓bnd_d, ↓iww_t, ↓iww_f, ↓iwl_t, ↓iwl_f, ↓ilw_t, ↓ilw_f, ↓eww_t, ↓eww_f, ↓ewl_t, ↓ewl_f, ↓ez_t, ↓ez_f, ↓il_t, ↓il_f, il_t, il_f, ez_t, ez_f, if_true, if_false, upS_h, upS_o, upS_i, Int.reduceAdd, Int.reduceSub, Int.reduceMul, Int.reduceNeg, wI_id]
        exact oM_id (oM_no h)
      · rw [if_neg c2, if_neg c2]
        obtain ⟨τ, g1, g2, g3, g4⟩ := m_choose (JM_of h) hw h.2.2.1.2.2.2.2.2 (by omega) c.1.1 (c.2 (by omega))
        have r := rnS_r (a := -1) hw c.1.1 (c.2 (by omega))
        have fr : ∀ o, o < 118 → τ o = σ o := fun o ho => g4.1 o (by omega) (by omega) (by omega)
        by_cases c3 : (rnS α (-1) k).1 = 0
        · rw [if_pos c3, if_pos c3]
          simp (disch := omega) only [↓rdA_t, ↓wrA_t, ↓ixA_t, ↓wrF_d, ↓bd2_s, ↓bd1_s, ↓bnd_d, ↓iww_t, ↓iww_f, ↓iwl_t, ↓iwl_f, ↓ilw_t, ↓ilw_f, ↓eww_t, ↓eww_f, ↓ewl_t, ↓ewl_f, ↓ez_t, ↓ez_f, ↓il_t, ↓il_f, il_t, il_f, ez_t, ez_f, if_true, if_false, upS_h, upS_o, upS_i, Int.reduceAdd, Int.reduceSub, Int.reduceMul, Int.reduceNeg, wI_id, g1]
          exact oM_tr fr (oM_id (oM_no (mFr_I g4 h)))
        · rw [if_neg c3, if_neg c3]
          obtain ⟨e1, e2⟩ := (g2 (by omega)).1
          have r2 := nCh_r hw c.1.1 (c.2 (by omega)) (show (rnS α (-1) k).1 = 1 by omega)
          by_cases c4 : j = -1
          · simp (disch := omega) only [↓rdA_t, ↓wrA_t, ↓ixA_t, ↓wrF_d, ↓bd2_s, ↓bd1_s, ↓bnd_d, ↓iww_t, ↓iww_f, ↓iwl_t, ↓iwl_f, ↓ilw_t, ↓ilw_f, ↓eww_t, ↓eww_f, ↓ewl_t, ↓ewl_f, ↓ez_t, ↓ez_f, ↓il_t, ↓il_f, il_t, il_f, ez_t, ez_f, if_true, if_false, upS_h, upS_o, upS_i, Int.reduceAdd, Int.reduceSub, Int.reduceMul, Int.reduceNeg, wI_id, g1, e1]
            exact ⟨τ, rfl, mFr_I g4 h, fr⟩
          · by_cases c5 : j < nCh α (-1) k
            · simp (disch := omega) only [↓rdA_t, ↓wrA_t, ↓ixA_t, ↓wrF_d, ↓bd2_s, ↓bd1_s, ↓bnd_d, ↓iww_t, ↓iww_f, ↓iwl_t, ↓iwl_f, ↓ilw_t, ↓ilw_f, ↓eww_t, ↓eww_f, ↓ewl_t, ↓ewl_f, ↓ez_t, ↓ez_f, ↓il_t, ↓il_f, il_t, il_f, ez_t, ez_f, if_true, if_false, upS_h, upS_o, upS_i, Int.reduceAdd, Int.reduceSub, Int.reduceMul, Int.reduceNeg, wI_id, g1, e1, e2 j (by omega) c5]
              exact ⟨τ, rfl, mFr_I g4 h, fr⟩
            · simp (disch := omega) only [↓rdA_t, ↓wrA_t, ↓ixA_t, ↓wrF_d, ↓bd2_s, ↓bd1_s, ↓bnd_d, ↓iww_t, ↓iww_f, ↓iwl_t, ↓iwl_f, ↓ilw_t, ↓ilw_f, ↓eww_t, ↓eww_f, ↓ewl_t, ↓ewl_f, ↓ez_t, ↓ez_f, ↓il_t, ↓il_f, il_t, il_f, ez_t, ez_f, if_true, if_false, upS_h, upS_o, upS_i, Int.reduceAdd, Int.reduceSub, Int.reduceMul, Int.reduceNeg, wI_id, g1, e1]
              exact ⟨τ, rfl, mFr_I g4 h, fr⟩
    · rw [if_neg (show ¬ (isPl α k ∧ -1 ≤ j) from fun z => c1 z.2), if_neg (show ¬ (isPl α k ∧ -1 ≤ j) from fun z => c1 z.2), iwl_t (by omega)]
      exact oM_id (oM_bad (-10) h)
  unfold f_X10_choice
  by_cases c : isPl α k
  · by_cases c0 : 0 < α 0 1
    · have := c.2 c0
      simp (disch := omega) only [↓rdA_t, ↓wrA_t, ↓ixA_t, ↓wrF_d, ↓bd2_s, ↓bd1_s, ↓bnd_d, ↓iww_t, ↓iww_f, ↓iwl_t, ↓iwl_f, ↓ilw_t, ↓ilw_f, ↓eww_t, ↓eww_f, ↓ewl_t, ↓ewl_f, ↓ez_t, ↓ez_f, ↓il_t, ↓il_f, il_t, il_f, ez_t, ez_f, if_true, if_false, upS_h, upS_o, upS_i, Int.reduceAdd, Int.reduceSub, Int.reduceMul, Int.reduceNeg, wI_id, in_t]
      exact main c
    · simp (disch := omega) only [↓rdA_t, ↓wrA_t, ↓ixA_t, ↓wrF_d, ↓bd2_s, ↓bd1_s, ↓bnd_d, ↓iww_t, ↓iww_f, ↓iwl_t, ↓iwl_f, ↓ilw_t, ↓ilw_f, ↓eww_t, ↓eww_f, ↓ewl_t, ↓ewl_f, ↓ez_t, ↓ez_f, ↓il_t, ↓il_f, il_t, il_f, ez_t, ez_f, if_true, if_false, upS_h, upS_o, upS_i, Int.reduceAdd, Int.reduceSub, Int.reduceMul, Int.reduceNeg, wI_id, in_t]
      exact main c
  · unfold rCh aCh
    rw [if_neg (show ¬ (isPl α k ∧ -1 ≤ j) from fun z => c z.1), if_neg (show ¬ (isPl α k ∧ -1 ≤ j) from fun z => c z.1)]
    by_cases c0 : 0 ≤ k ∧ k ≤ 7
    · have c2 : 0 < α 0 1 ∧ ¬ k < α 0 1 := by
        constructor
        · by_cases z : 0 < α 0 1
          · exact z
          · exact absurd ⟨c0, fun y => absurd y z⟩ c
        · exact fun z => c ⟨c0, fun _ => z⟩
      simp (disch := omega) only [↓rdA_t, ↓wrA_t, ↓ixA_t, ↓wrF_d, ↓bd2_s, ↓bd1_s, ↓bnd_d, ↓iww_t, ↓iww_f, ↓iwl_t, ↓iwl_f, ↓ilw_t, ↓ilw_f, ↓eww_t, ↓eww_f, ↓ewl_t, ↓ewl_f, ↓ez_t, ↓ez_f, ↓il_t, ↓il_f, il_t, il_f, ez_t, ez_f, if_true, if_false, upS_h, upS_o, upS_i, Int.reduceAdd, Int.reduceSub, Int.reduceMul, Int.reduceNeg, wI_id, in_t]
      exact oM_id (oM_bad (-10) h)
    · simp (disch := omega) only [↓rdA_t, ↓wrA_t, ↓ixA_t, ↓wrF_d, ↓bd2_s, ↓bd1_s, ↓bnd_d, ↓iww_t, ↓iww_f, ↓iwl_t, ↓iwl_f, ↓ilw_t, ↓ilw_f, ↓eww_t, ↓eww_f, ↓ewl_t, ↓ewl_f, ↓ez_t, ↓ez_f, ↓il_t, ↓il_f, il_t, il_f, ez_t, ez_f, if_true, if_false, upS_h, upS_o, upS_i, Int.reduceAdd, Int.reduceSub, Int.reduceMul, Int.reduceNeg, wI_id, in_f]
      exact oM_id (oM_bad (-10) h)
theorem wf_choice {α : St} {k j : Int} (hw : WF α) : WF (aCh α k j) := by
  unfold aCh
  by_cases c : isPl α k ∧ -1 ≤ j
  · rw [if_pos c]
    by_cases c1 : α 0 1 = 0
    · rw [if_pos c1]; exact WF_aR 4 (by omega) hw
    · rw [if_neg c1]
      by_cases c2 : (rnS α (-1) k).1 = 0
      · rw [if_pos c2]; exact WF_aR 4 (by omega) hw
      · rw [if_neg c2]; exact hw
  · rw [if_neg c]; exact WF_aR 3 (by omega) hw
/-! ===== choices for all targets ===== -/
def allF (α : St) (a : Int) : Prop := ∀ k, 0 ≤ k → k < α 0 1 → (rnS α a k).1 = 1
theorem c_all_g {α : St} {a : Int} (kx : St → Option (Int × St)) (hw : WF α) (ha : -1 ≤ a ∧ a < 40) : ∀ (m : Nat) (σ : St) (x : Int) (n : Nat), IC σ α → cL σ α → x + m = α 0 1 → 0 ≤ x → (∀ k, 0 ≤ k → k < x → (rnS α a k).1 = 1 ∧ cCh σ α a k) → m < n → (allF α a ∧ ∃ τ, lp_X2_chooseAll_6 a kx n σ x = kx τ ∧ IC τ α ∧ (∀ k, 0 ≤ k → k < α 0 1 → cCh τ α a k) ∧ ∀ o, (o < 38 ∨ 53 < o) → τ o = σ o) ∨ (¬ allF α a ∧ ∃ τ, lp_X2_chooseAll_6 a kx n σ x = some (0, τ) ∧ IC τ α ∧ ∀ o, (o < 38 ∨ 53 < o) → τ o = σ o) := by
  intro m
  have w2 := hw.2.1.2.1
  induction m with
  | zero =>
    intro σ x n h hl h1 h2 h3 hn
    obtain ⟨n, rfl⟩ : ∃ k, n = k + 1 := ⟨n - 1, by omega⟩
    have hs := h.2.1.1
    left
    rw [lp_X2_chooseAll_6]
    exact ⟨fun k k1 k2 => (h3 k k1 (by omega)).1, σ, by simp (disch := omega) only [↓rdA_t, ↓wrA_t, ↓ixA_t, ↓wrF_d, ↓bd2_s, ↓bd1_s, ↓bnd_d, ↓iww_t, ↓iww_f, ↓iwl_t, ↓iwl_f, ↓ilw_t, ↓ilw_f, ↓eww_t, ↓eww_f, ↓ewl_t, ↓ewl_f, ↓ez_t, ↓ez_f, ↓il_t, ↓il_f, il_t, il_f, ez_t, ez_f, if_true, if_false, upS_h, upS_o, upS_i, Int.reduceAdd, Int.reduceSub, Int.reduceMul, Int.reduceNeg, wI_id], h, fun k k1 k2 => (h3 k k1 (by omega)).2, fun _ _ => rfl⟩
  | succ m ih =>
    intro σ x n h hl h1 h2 h3 hn
    obtain ⟨n, rfl⟩ : ∃ k, n = k + 1 := ⟨n - 1, by omega⟩
    have hs := h.2.1.1
    obtain ⟨τ, g1, g2, g3⟩ := c_choose h hl hw h2 (show x < α 0 1 by omega) ha
    have hI : IC τ α := IC_scr (fun o ho i _ => by rw [g3 o (by omega) (by omega)]) h
    have hL : cL τ α := fun u u1 u2 => by rw [g3 36 (by omega) (by omega)]; exact hl u u1 u2
    have r := rnS_r (a := a) hw h2 (show x < α 0 1 by omega)
    rw [lp_X2_chooseAll_6]
    unfold f_X1_isMissing
    by_cases c : (rnS α a x).1 = 1
    · obtain ⟨e1, e2, e3⟩ := g2.1 c
      have g := ih τ (x + 1) n hI hL (by omega) (by omega) (fun k k1 k2 => by
        by_cases c2 : k = x
        · subst c2; exact ⟨c, g2⟩
        · refine ⟨(h3 k k1 (by omega)).1, ?_⟩
          have q := (h3 k k1 (by omega)).2
          unfold cCh at q ⊢
          rw [g3 (38 + 2 * k) (by omega) (by omega), g3 (38 + 2 * k + 1) (by omega) (by omega)]
          exact q) (by omega)
      have ev : (if wI x < wI (σ 10 3) then bd2 (f_X2_chooseFor σ x a) fun v4 σ5 => ixA 8 x <| if (if wI (σ5 (38 + 2 * x) 2) = (-1) then (1 : Int) else 0) = 0 then lp_X2_chooseAll_6 a kx n σ5 (x + 1) else some (0, σ5) else kx σ) = lp_X2_chooseAll_6 a kx n τ (x + 1) := by
        simp (disch := omega) only [↓rdA_t, ↓wrA_t, ↓ixA_t, ↓wrF_d, ↓bd2_s, ↓bd1_s, ↓bnd_d, ↓iww_t, ↓iww_f, ↓iwl_t, ↓iwl_f, ↓ilw_t, ↓ilw_f, ↓eww_t, ↓eww_f, ↓ewl_t, ↓ewl_f, ↓ez_t, ↓ez_f, ↓il_t, ↓il_f, il_t, il_f, ez_t, ez_f, if_true, if_false, upS_h, upS_o, upS_i, Int.reduceAdd, Int.reduceSub, Int.reduceMul, Int.reduceNeg, wI_id, g1, e2]
      rw [ev]
      rcases g with ⟨b1, ρ, b2, b3, b4, b5⟩ | ⟨b1, ρ, b2, b3, b4⟩
      · left
        exact ⟨b1, ρ, b2, b3, b4, fun o ho => by rw [b5 o ho, g3 o (by omega) (by omega)]⟩
      · right
        exact ⟨b1, ρ, b2, b3, fun o ho => by rw [b4 o ho, g3 o (by omega) (by omega)]⟩
    · right
      have e := g2.2.1 (by omega)
      refine ⟨fun z => c (z x h2 (by omega)), τ, ?_, hI, fun o ho => by rw [g3 o (by omega) (by omega)]⟩
      simp (disch := omega) only [↓rdA_t, ↓wrA_t, ↓ixA_t, ↓wrF_d, ↓bd2_s, ↓bd1_s, ↓bnd_d, ↓iww_t, ↓iww_f, ↓iwl_t, ↓iwl_f, ↓ilw_t, ↓ilw_f, ↓eww_t, ↓eww_f, ↓ewl_t, ↓ewl_f, ↓ez_t, ↓ez_f, ↓il_t, ↓il_f, il_t, il_f, ez_t, ez_f, if_true, if_false, upS_h, upS_o, upS_i, Int.reduceAdd, Int.reduceSub, Int.reduceMul, Int.reduceNeg, wI_id, g1, e]
theorem c_all {σ α : St} {a : Int} (h : IC σ α) (hw : WF α) (ha : -1 ≤ a ∧ a < 40) : ((0 < α 0 1 ∧ allF α a) ∧ ∃ τ, f_X2_chooseAll σ a = some (1, τ) ∧ IC τ α ∧ (∀ k, 0 ≤ k → k < α 0 1 → cCh τ α a k) ∧ ∀ o, (o < 36 ∨ 53 < o) → τ o = σ o) ∨ (¬ (0 < α 0 1 ∧ allF α a) ∧ ∃ τ, f_X2_chooseAll σ a = some (0, τ) ∧ IC τ α ∧ ∀ o, (o < 36 ∨ 53 < o) → τ o = σ o) := by
  have w1 := hw.2.1.1
  have w2 := hw.2.1.2.1
  obtain ⟨τ, f1, f2, f3⟩ := c_leaves h hw
  have hI : IC τ α := IC_scr (fun o ho i _ => by rw [f3 o (by omega)]) h
  have g := c_all_g (α := α) (a := a) (fun σ9 => some ((if 0 < wI (σ9 10 3) then 1 else 0), σ9)) hw ha (α 0 1).toNat τ 0 1000 hI f2 (by omega) (by omega) (fun k k1 k2 => by omega) (by omega)
  unfold f_X2_chooseAll
  rw [f1, bd2_s]
  rcases g with ⟨b1, ρ, b2, b3, b4, b5⟩ | ⟨b1, ρ, b2, b3, b4⟩
  · have hs := b3.2.1.1
    rw [b2]
    by_cases c : 0 < α 0 1
    · left
      refine ⟨⟨c, b1⟩, ρ, by simp (disch := omega) only [↓rdA_t, ↓wrA_t, ↓ixA_t, ↓wrF_d, ↓bd2_s, ↓bd1_s, ↓bnd_d, ↓iww_t, ↓iww_f, ↓iwl_t, ↓iwl_f, ↓ilw_t, ↓ilw_f, ↓eww_t, ↓eww_f, ↓ewl_t, ↓ewl_f, ↓ez_t, ↓ez_f, ↓il_t, ↓il_f, il_t, il_f, ez_t, ez_f, if_true, if_false, upS_h, upS_o, upS_i, Int.reduceAdd, Int.reduceSub, Int.reduceMul, Int.reduceNeg, wI_id], b3, b4, fun o ho => by rw [b5 o (by omega), f3 o (by omega)]⟩
    · right
      refine ⟨fun z => c z.1, ρ, by simp (disch := omega) only [↓rdA_t, ↓wrA_t, ↓ixA_t, ↓wrF_d, ↓bd2_s, ↓bd1_s, ↓bnd_d, ↓iww_t, ↓iww_f, ↓iwl_t, ↓iwl_f, ↓ilw_t, ↓ilw_f, ↓eww_t, ↓eww_f, ↓ewl_t, ↓ewl_f, ↓ez_t, ↓ez_f, ↓il_t, ↓il_f, il_t, il_f, ez_t, ez_f, if_true, if_false, upS_h, upS_o, upS_i, Int.reduceAdd, Int.reduceSub, Int.reduceMul, Int.reduceNeg, wI_id], b3, fun o ho => by rw [b5 o (by omega), f3 o (by omega)]⟩
  · right
    exact ⟨fun z => b1 z.2, ρ, b2, b3, fun o ho => by rw [b4 o (by omega), f3 o (by omega)]⟩
/-- the frame of the reference's searches -/
def mSc (σ τ : St) : Prop := (∀ o, (o < 118 ∨ (118 < o ∧ o < 135)) → τ o = σ o) ∧ ∀ i, ¬ i = 28 → ¬ i = 29 → (i < 34 ∨ 37 < i) → τ 118 i = σ 118 i
theorem mSc_J {σ τ α : St} (h : mSc σ τ) (hJ : JM σ α) : JM τ α := JM_scr (fun i _ => h.2 i (by omega) (by omega) (by omega)) (fun o _ _ => h.1 o (by omega)) hJ
theorem mSc_t {σ τ ρ : St} (h1 : mSc σ τ) (h2 : mSc τ ρ) : mSc σ ρ := ⟨fun o a => (h2.1 o a).trans (h1.1 o a), fun i a b c => (h2.2 i a b c).trans (h1.2 i a b c)⟩
theorem mSc_I {σ τ α : St} (h : mSc σ τ) (hI : IM σ α) : IM τ α := IM_scr (fun i hi => h.2 i (by unfold mF at hi; omega) (by unfold mF at hi; omega) (by unfold mF at hi; omega)) (fun o _ _ => h.1 o (by omega)) hI
theorem mFr_S {σ τ : St} {k : Int} (h : mFr σ τ k) : mSc σ τ := ⟨fun o _ => h.1 o (by omega) (by omega) (by omega), fun i a b _ => h.2.1 i a b⟩
theorem m_all_g {α : St} {a kd : Int} (kx : St → Int → Option (Int × St)) (hw : WF α) (ha : -1 ≤ a ∧ a < 40) : ∀ (m : Nat) (σ : St) (x : Int) (n : Nat), JM σ α → σ 118 27 = a → x + m = α 0 1 → 0 ≤ x → (∀ k, 0 ≤ k → k < x → (rnS α a k).1 = 1 ∧ mCh σ α a k) → m < n → (allF α a ∧ ∃ τ, lp_X10_chains_15 kd kx n σ 1 x = kx τ 1 ∧ (∀ k, 0 ≤ k → k < α 0 1 → mCh τ α a k) ∧ mSc σ τ) ∨ (¬ allF α a ∧ ∃ τ, lp_X10_chains_15 kd kx n σ 1 x = kx τ 0 ∧ mSc σ τ) := by
  intro m
  have w2 := hw.2.1.2.1
  induction m with
  | zero =>
    intro σ x n h hg h1 h2 h3 hn
    obtain ⟨n, rfl⟩ : ∃ k, n = k + 1 := ⟨n - 1, by omega⟩
    have hs := h.2.1.1
    left
    rw [lp_X10_chains_15]
    exact ⟨fun k k1 k2 => (h3 k k1 (by omega)).1, σ, by simp (disch := omega) only [↓rdA_t, ↓wrA_t, ↓ixA_t, ↓wrF_d, ↓bd2_s, ↓bd1_s, ↓bnd_d, ↓iww_t, ↓iww_f, ↓iwl_t, ↓iwl_f, ↓ilw_t, ↓ilw_f, ↓eww_t, ↓eww_f, ↓ewl_t, ↓ewl_f, ↓ez_t, ↓ez_f, ↓il_t, ↓il_f, il_t, il_f, ez_t, ez_f, if_true, if_false, upS_h, upS_o, upS_i, Int.reduceAdd, Int.reduceSub, Int.reduceMul, Int.reduceNeg, wI_id], fun k k1 k2 => (h3 k k1 (by omega)).2, fun _ _ => rfl, fun _ _ _ _ => rfl⟩
  | succ m ih =>
    intro σ x n h hg h1 h2 h3 hn
    obtain ⟨n, rfl⟩ : ∃ k, n = k + 1 := ⟨n - 1, by omega⟩
    have hs := h.2.1.1
    obtain ⟨τ, g1, g2, g3, g4⟩ := m_choose h hw hg ha h2 (show x < α 0 1 by omega)
    have hI := mFr_J g4 h
    have r := rnS_r (a := a) hw h2 (show x < α 0 1 by omega)
    rw [lp_X10_chains_15]
    by_cases c : (rnS α a x).1 = 1
    · obtain ⟨e1, e2⟩ := g2 c
      have g := ih τ (x + 1) n hI (by rw [g4.2.1 27 (by omega) (by omega)]; exact hg) (by omega) (by omega) (fun k k1 k2 => by
        by_cases c2 : k = x
        · subst c2; exact ⟨c, e1⟩
        · refine ⟨(h3 k k1 (by omega)).1, ?_⟩
          have q := (h3 k k1 (by omega)).2
          have r2 := nCh_r hw k1 (show k < α 0 1 by omega) (h3 k k1 (by omega)).1
          have w3 := hw.1.2.1
          refine ⟨by rw [g4.2.2.2 k c2]; exact q.1, fun i i1 i2 => ?_⟩
          rw [g4.2.2.1 (40 * k + i) (by omega)]
          exact q.2 i i1 i2) (by omega)
      have ev : (if wI x < wI (σ 118 3) then if wI 1 = 0 then kx σ 1 else bd2 (f_X10_chooses σ x) fun v5 σ6 => lp_X10_chains_15 kd kx n σ6 v5 (x + 1) else kx σ 1) = lp_X10_chains_15 kd kx n τ 1 (x + 1) := by
        simp (disch := omega) only [↓rdA_t, ↓wrA_t, ↓ixA_t, ↓wrF_d, ↓bd2_s, ↓bd1_s, ↓bnd_d, ↓iww_t, ↓iww_f, ↓iwl_t, ↓iwl_f, ↓ilw_t, ↓ilw_f, ↓eww_t, ↓eww_f, ↓ewl_t, ↓ewl_f, ↓ez_t, ↓ez_f, ↓il_t, ↓il_f, il_t, il_f, ez_t, ez_f, if_true, if_false, upS_h, upS_o, upS_i, Int.reduceAdd, Int.reduceSub, Int.reduceMul, Int.reduceNeg, wI_id, g1, c]
      rw [ev]
      rcases g with ⟨b1, ρ, b2, b3, b4⟩ | ⟨b1, ρ, b2, b3⟩
      · left
        exact ⟨b1, ρ, b2, b3, mSc_t (mFr_S g4) b4⟩
      · right
        exact ⟨b1, ρ, b2, mSc_t (mFr_S g4) b3⟩
    · right
      have c0 : (rnS α a x).1 = 0 := by omega
      have ev : lp_X10_chains_15 kd kx n τ 0 (x + 1) = kx τ 0 := by
        obtain ⟨n, rfl⟩ : ∃ k, n = k + 1 := ⟨n - 1, by omega⟩
        have hs2 := hI.2.1.1
        rw [lp_X10_chains_15]
        by_cases c5 : x + 1 < α 0 1
        · simp (disch := omega) only [↓rdA_t, ↓wrA_t, ↓ixA_t, ↓wrF_d, ↓bd2_s, ↓bd1_s, ↓bnd_d, ↓iww_t, ↓iww_f, ↓iwl_t, ↓iwl_f, ↓ilw_t, ↓ilw_f, ↓eww_t, ↓eww_f, ↓ewl_t, ↓ewl_f, ↓ez_t, ↓ez_f, ↓il_t, ↓il_f, il_t, il_f, ez_t, ez_f, if_true, if_false, upS_h, upS_o, upS_i, Int.reduceAdd, Int.reduceSub, Int.reduceMul, Int.reduceNeg, wI_id]
        · simp (disch := omega) only [↓rdA_t, ↓wrA_t, ↓ixA_t, ↓wrF_d, ↓bd2_s, ↓bd1_s, ↓bnd_d, ↓iww_t, ↓iww_f, ↓iwl_t, ↓iwl_f, ↓ilw_t, ↓ilw_f, ↓eww_t, ↓eww_f, ↓ewl_t, ↓ewl_f, ↓ez_t, ↓ez_f, ↓il_t, ↓il_f, il_t, il_f, ez_t, ez_f, if_true, if_false, upS_h, upS_o, upS_i, Int.reduceAdd, Int.reduceSub, Int.reduceMul, Int.reduceNeg, wI_id]
      refine ⟨fun z => c (z x h2 (by omega)), τ, ?_, mFr_S g4⟩
      simp (disch := omega) only [↓rdA_t, ↓wrA_t, ↓ixA_t, ↓wrF_d, ↓bd2_s, ↓bd1_s, ↓bnd_d, ↓iww_t, ↓iww_f, ↓iwl_t, ↓iwl_f, ↓ilw_t, ↓ilw_f, ↓eww_t, ↓eww_f, ↓ewl_t, ↓ewl_f, ↓ez_t, ↓ez_f, ↓il_t, ↓il_f, il_t, il_f, ez_t, ez_f, if_true, if_false, upS_h, upS_o, upS_i, Int.reduceAdd, Int.reduceSub, Int.reduceMul, Int.reduceNeg, wI_id, g1, c0, ev]
