/-! ===== chain ===== -/
theorem m_lay {σ α : St} (h : IM σ α) (hw : WF α) (b1 : 0 < α 0 1 ∧ allF α (-1)) (b3 : mFd σ α (-1) (α 0 2)) (b4 : σ 118 39 = α 0 2) : ∃ τ, f_X10_layChain σ = some (0, τ) ∧ (∀ j, 0 ≤ j → j < α 0 1 → τ 141 j = pth α (-1) (α 0 2) j) ∧ IM τ α ∧ ∀ o, ¬ o = 141 → τ o = σ o := by
  have w2 := hw.2.1.2.1
  obtain ⟨τ, g1, g2, g3⟩ := m_lay_g (α := α) (a := -1) (kd := α 0 2) (fun σ22 => some (0, σ22)) hw b1.2 hw.2.2.1.1 (α 0 1).toNat 0 σ 1000 (JM_of h) b4 b3.2.1 b3.2.2 (by omega) (fun j j1 j2 => by omega) (by omega)
  refine ⟨τ, ?_, g2, IM_scr (fun i hi => by rw [g3 118 (by omega)]) (fun o o1 o2 => g3 o (by omega)) h, g3⟩
  unfold f_X10_layChain
  have e0 : (((0 : Nat)) : Int) = 0 := rfl
  have e1 : wnt α (-1) (α 0 2) 0 = tp α (-1) (α 0 2) 0 := rfl
  rw [e0, e1, ← b3.1.1] at g1
  exact g1
def rCn (α : St) (k : Int) : Int := if isPl α k then (if has α (-1) = 1 then pth α (-1) (α 0 2) k else -3) else -2
def aCn (α : St) (k : Int) : St := if isPl α k then aNo α (-1) else aR α 3
theorem wf_chain {α : St} {k : Int} (hw : WF α) : WF (aCn α k) := by
  unfold aCn
  by_cases c : isPl α k
  · rw [if_pos c]; exact wf_no hw
  · rw [if_neg c]; exact WF_aR 3 (by omega) hw
theorem xc_chain {σ α : St} {k : Int} (h : IC σ α) (hw : WF α) (hk : inR k) : oC (f_X9_chain σ k) σ α (rCn α k) (aCn α k) := by
  have w2 := hw.2.1.2.1
  unfold f_X9_chain rCn aCn aNo
  rw [c_isPl h.2.1 hw.2.1 hk]
  by_cases c : isPl α k
  · rw [if_pos c, if_pos c, if_pos c]
    rcases c_find h hw (a := -1) (by omega) with ⟨b1, τ, b2, b3, b4, b5⟩ | ⟨b1, τ, b2, b3, b4⟩
    · rw [has_1 b1, if_pos rfl, if_pos rfl]
      have e := b4.2 k c.1.1 (c.2 b1.1)
      have c1 := c.1
      simp (disch := omega) only [↓rdA_t, ↓wrA_t, ↓ixA_t, ↓wrF_d, ↓bd2_s, ↓bd1_s, ↓bnd_d, ↓iww_t, ↓iww_f, ↓iwl_t, ↓iwl_f, ↓ilw_t, ↓ilw_f, ↓eww_t, ↓eww_f, ↓ewl_t, ↓ewl_f, ↓ez_t, ↓ez_f, ↓il_t, ↓il_f, il_t, il_f, ez_t, ez_f, if_true, if_false, upS_h, upS_o, upS_i, Int.reduceAdd, Int.reduceSub, Int.reduceMul, Int.reduceNeg, wI_id, b2, e]
      exact ⟨τ, rfl, b3, b5⟩
    · rw [has_0 b1, if_neg (show ¬ (0 : Int) = 1 by omega), if_neg (show ¬ (0 : Int) = 1 by omega)]
      simp (disch := omega) only [↓rdA_t, ↓wrA_t, ↓ixA_t, ↓wrF_d, ↓bd2_s, ↓bd1_s, ↓bnd_d, ↓iww_t, ↓iww_f, ↓iwl_t, ↓iwl_f, ↓ilw_t, ↓ilw_f, ↓eww_t, ↓eww_f, ↓ewl_t, ↓ewl_f, ↓ez_t, ↓ez_f, ↓il_t, ↓il_f, il_t, il_f, ez_t, ez_f, if_true, if_false, upS_h, upS_o, upS_i, Int.reduceAdd, Int.reduceSub, Int.reduceMul, Int.reduceNeg, wI_id, b2]
      exact oC_tr b4 (oC_id (oC_no b3))
  · rw [if_neg c, if_neg c, if_neg c]
    simp (disch := omega) only [↓rdA_t, ↓wrA_t, ↓ixA_t, ↓wrF_d, ↓bd2_s, ↓bd1_s, ↓bnd_d, ↓iww_t, ↓iww_f, ↓iwl_t, ↓iwl_f, ↓ilw_t, ↓ilw_f, ↓eww_t, ↓eww_f, ↓ewl_t, ↓ewl_f, ↓ez_t, ↓ez_f, ↓il_t, ↓il_f, il_t, il_f, ez_t, ez_f, if_true, if_false, upS_h, upS_o, upS_i, Int.reduceAdd, Int.reduceSub, Int.reduceMul, Int.reduceNeg, wI_id]
    exact oC_id (oC_bad h)
theorem xm_chain {σ α : St} {k : Int} (h : IM σ α) (hw : WF α) (hk : inR k) : oM (f_X10_chain σ k) σ α (rCn α k) (aCn α k) := by
  have hs := h.2.1.1
  have w1 := hw.2.1.1
  have w2 := hw.2.1.2.1
  unfold inR at hk
  have main : isPl α k → oM (jn_X10_chain_34 σ k) σ α (rCn α k) (aCn α k) := by
    intro c
    have c1 := c.1
    unfold jn_X10_chain_34 rCn aCn aNo
    rw [if_pos c, if_pos c]
    rcases m_now h hw with ⟨b1, τ, b2, b3, b4, b5, b6⟩ | ⟨b1, τ, b2, b3, b4⟩
    · rw [has_1 b1, if_pos rfl, if_pos rfl]
      obtain ⟨ρ, g1, g2, g3, g4⟩ := m_lay b5 hw b1 b3 b4
      have e := g2 k c.1.1 (c.2 b1.1)
      simp (disch := omega) only [↓rdA_t, ↓wrA_t, ↓ixA_t, ↓wrF_d, ↓bd2_s, ↓bd1_s, ↓bnd_d, ↓iww_t, ↓iww_f, ↓iwl_t, ↓iwl_f, ↓ilw_t, ↓ilw_f, ↓eww_t, ↓eww_f, ↓ewl_t, ↓ewl_f, ↓ez_t, ↓ez_f, ↓il_t, ↓il_f, il_t, il_f, ez_t, ez_f, if_true, if_false, upS_h, upS_o, upS_i, Int.reduceAdd, Int.reduceSub, Int.reduceMul, Int.reduceNeg, wI_id, b2, g1, e]
      exact ⟨ρ, rfl, g3, fun o ho => by rw [g4 o (by omega), b6 o ho]⟩
    · rw [has_0 b1, if_neg (show ¬ (0 : Int) = 1 by omega), if_neg (show ¬ (0 : Int) = 1 by omega)]
      simp (disch := omega) only [↓rdA_t, ↓wrA_t, ↓ixA_t, ↓wrF_d, ↓bd2_s, ↓bd1_s, ↓bnd_d, ↓iww_t, ↓iww_f, ↓iwl_t, ↓iwl_f, ↓ilw_t, ↓ilw_f, ↓eww_t, ↓eww_f, ↓ewl_t, ↓ewl_f, ↓ez_t, ↓ez_f, ↓il_t, ↓il_f, il_t, il_f, ez_t, ez_f, if_true, if_false, upS_h, upS_o, upS_i, Int.reduceAdd, Int.reduceSub, Int.reduceMul, Int.reduceNeg, wI_id, b2]
      exact oM_tr b4 (oM_id (oM_no b3))
  unfold f_X10_chain
  by_cases c : isPl α k
  · have c1 := c.1
    by_cases c0 : 0 < α 0 1
    · have := c.2 c0
      simp (disch := omega) only [↓rdA_t, ↓wrA_t, ↓ixA_t, ↓wrF_d, ↓bd2_s, ↓bd1_s, ↓bnd_d, ↓iww_t, ↓iww_f, ↓iwl_t, ↓iwl_f, ↓ilw_t, ↓ilw_f, ↓eww_t, ↓eww_f, ↓ewl_t, ↓ewl_f, ↓ez_t, ↓ez_f, ↓il_t, ↓il_f, il_t, il_f, ez_t, ez_f, if_true, if_false, upS_h, upS_o, upS_i, Int.reduceAdd, Int.reduceSub, Int.reduceMul, Int.reduceNeg, wI_id, in_t]
      exact main c
    · simp (disch := omega) only [↓rdA_t, ↓wrA_t, ↓ixA_t, ↓wrF_d, ↓bd2_s, ↓bd1_s, ↓bnd_d, ↓iww_t, ↓iww_f, ↓iwl_t, ↓iwl_f, ↓ilw_t, ↓ilw_f, ↓eww_t, ↓eww_f, ↓ewl_t, ↓ewl_f, ↓ez_t, ↓ez_f, ↓il_t, ↓il_f, il_t, il_f, ez_t, ez_f, if_true, if_false, upS_h, upS_o, upS_i, Int.reduceAdd, Int.reduceSub, Int.reduceMul, Int.reduceNeg, wI_id, in_t]
      exact main c
  · unfold rCn aCn
    rw [if_neg c, if_neg c]
    by_cases c0 : 0 ≤ k ∧ k ≤ 7
    · have c2 : 0 < α 0 1 ∧ ¬ k < α 0 1 := by
        constructor
        · by_cases z : 0 < α 0 1
          · exact z
          · exact absurd ⟨c0, fun y => absurd y z⟩ c
        · exact fun z => c ⟨c0, fun _ => z⟩
      simp (disch := omega) only [↓rdA_t, ↓wrA_t, ↓ixA_t, ↓wrF_d, ↓bd2_s, ↓bd1_s, ↓bnd_d, ↓iww_t, ↓iww_f, ↓iwl_t, ↓iwl_f, ↓ilw_t, ↓ilw_f, ↓eww_t, ↓eww_f, ↓ewl_t, ↓ewl_f, ↓ez_t, ↓ez_f, ↓il_t, ↓il_f, il_t, il_f, ez_t, ez_f, if_true, if_false, upS_h, upS_o, upS_i, Int.reduceAdd, Int.reduceSub, Int.reduceMul, Int.reduceNeg, wI_id, in_t]
      exact oM_id (oM_bad (-2) h)
    · simp (disch := omega) only [↓rdA_t, ↓wrA_t, ↓ixA_t, ↓wrF_d, ↓bd2_s, ↓bd1_s, ↓bnd_d, ↓iww_t, ↓iww_f, ↓iwl_t, ↓iwl_f, ↓ilw_t, ↓ilw_f, ↓eww_t, ↓eww_f, ↓ewl_t, ↓ewl_f, ↓ez_t, ↓ez_f, ↓il_t, ↓il_f, il_t, il_f, ez_t, ez_f, if_true, if_false, upS_h, upS_o, upS_i, Int.reduceAdd, Int.reduceSub, Int.reduceMul, Int.reduceNeg, wI_id, in_f]
      exact oM_id (oM_bad (-2) h)
