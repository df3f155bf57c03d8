/-! ===== cost, ways, next, dearest ===== -/
theorem m_now {σ α : St} (h : IM σ α) (hw : WF α) : ((0 < α 0 1 ∧ allF α (-1)) ∧ ∃ τ, f_X10_chainsNow σ = some (1, τ) ∧ mFd τ α (-1) (α 0 2) ∧ τ 118 39 = α 0 2 ∧ IM τ α ∧ ∀ o, o < 118 → τ o = σ o) ∨ (¬ (0 < α 0 1 ∧ allF α (-1)) ∧ ∃ τ, f_X10_chainsNow σ = some (0, τ) ∧ IM τ α ∧ ∀ o, o < 118 → τ o = σ o) := by
  have hI : IM (upS σ 118 39 (σ 118 5)) α := IM_scr (fun i hi => upS_i (by unfold mF at hi; omega)) (fun o o1 o2 => upS_of (by omega)) h
  have ek : upS σ 118 39 (σ 118 5) 118 5 = α 0 2 := hI.2.2.1.1
  have ek' : σ 118 5 = α 0 2 := h.2.2.1.1
  unfold f_X10_chainsNow
  rw [wrF_d, ek]
  rcases m_chains (JM_of hI) hw hI.2.2.1.2.2.2.2.2 (by omega) hw.2.2.1.1 with ⟨b1, τ, b2, b3, b4⟩ | ⟨b1, τ, b2, b3⟩
  · left
    refine ⟨b1, τ, by rw [b2, bd2_s], b3, by rw [b4.2 39 (by omega) (by omega) (by omega), upS_h ⟨rfl, rfl⟩, ek'], mSc_I b4 hI, fun o ho => by rw [b4.1 o (by omega), upS_of (by omega)]⟩
  · right
    refine ⟨b1, τ, by rw [b2, bd2_s], mSc_I b3 hI, fun o ho => by rw [b3.1 o (by omega), upS_of (by omega)]⟩
def rPr (α : St) (w : Int) : Int := if has α (-1) = 1 then tp α (-1) (α 0 2) w else -3
def aNo (α : St) (a : Int) : St := if has α a = 1 then α else aR α 4
theorem wf_no {α : St} {a : Int} (hw : WF α) : WF (aNo α a) := by
  unfold aNo
  by_cases c : has α a = 1
  · rw [if_pos c]; exact hw
  · rw [if_neg c]; exact WF_aR 4 (by omega) hw
theorem xc_cost {σ α : St} (h : IC σ α) (hw : WF α) : oC (f_X9_cost σ) σ α (rPr α 0) (aNo α (-1)) := by
  unfold f_X9_cost rPr aNo f_X0_leastPrice
  rcases c_find h hw (a := -1) (by omega) with ⟨b1, τ, b2, b3, b4, b5⟩ | ⟨b1, τ, b2, b3, b4⟩
  · rw [has_1 b1, if_pos rfl, if_pos rfl]
    simp (disch := omega) only [↓rdA_t, ↓wrA_t, ↓ixA_t, ↓wrF_d, ↓bd2_s, ↓bd1_s, ↓bnd_d, ↓iww_t, ↓iww_f, ↓iwl_t, ↓iwl_f, ↓ilw_t, ↓ilw_f, ↓eww_t, ↓eww_f, ↓ewl_t, ↓ewl_f, ↓ez_t, ↓ez_f, ↓il_t, ↓il_f, il_t, il_f, ez_t, ez_f, if_true, if_false, upS_h, upS_o, upS_i, Int.reduceAdd, Int.reduceSub, Int.reduceMul, Int.reduceNeg, wI_id, b2, b4.1.1]
    exact ⟨τ, rfl, b3, b5⟩
  · rw [has_0 b1, if_neg (by omega), if_neg (by omega)]
    simp (disch := omega) only [↓rdA_t, ↓wrA_t, ↓ixA_t, ↓wrF_d, ↓bd2_s, ↓bd1_s, ↓bnd_d, ↓iww_t, ↓iww_f, ↓iwl_t, ↓iwl_f, ↓ilw_t, ↓ilw_f, ↓eww_t, ↓eww_f, ↓ewl_t, ↓ewl_f, ↓ez_t, ↓ez_f, ↓il_t, ↓il_f, il_t, il_f, ez_t, ez_f, if_true, if_false, upS_h, upS_o, upS_i, Int.reduceAdd, Int.reduceSub, Int.reduceMul, Int.reduceNeg, wI_id, b2]
    exact oC_tr b4 (oC_id (oC_no b3))
theorem xc_ways {σ α : St} (h : IC σ α) (hw : WF α) : oC (f_X9_ways σ) σ α (rPr α 3) (aNo α (-1)) := by
  unfold f_X9_ways rPr aNo f_X0_waysOfLeast
  rcases c_find h hw (a := -1) (by omega) with ⟨b1, τ, b2, b3, b4, b5⟩ | ⟨b1, τ, b2, b3, b4⟩
  · rw [has_1 b1, if_pos rfl, if_pos rfl]
    simp (disch := omega) only [↓rdA_t, ↓wrA_t, ↓ixA_t, ↓wrF_d, ↓bd2_s, ↓bd1_s, ↓bnd_d, ↓iww_t, ↓iww_f, ↓iwl_t, ↓iwl_f, ↓ilw_t, ↓ilw_f, ↓eww_t, ↓eww_f, ↓ewl_t, ↓ewl_f, ↓ez_t, ↓ez_f, ↓il_t, ↓il_f, il_t, il_f, ez_t, ez_f, if_true, if_false, upS_h, upS_o, upS_i, Int.reduceAdd, Int.reduceSub, Int.reduceMul, Int.reduceNeg, wI_id, b2, b4.1.2.2.2]
    exact ⟨τ, rfl, b3, b5⟩
  · rw [has_0 b1, if_neg (by omega), if_neg (by omega)]
    simp (disch := omega) only [↓rdA_t, ↓wrA_t, ↓ixA_t, ↓wrF_d, ↓bd2_s, ↓bd1_s, ↓bnd_d, ↓iww_t, ↓iww_f, ↓iwl_t, ↓iwl_f, ↓ilw_t, ↓ilw_f, ↓eww_t, ↓eww_f, ↓ewl_t, ↓ewl_f, ↓ez_t, ↓ez_f, ↓il_t, ↓il_f, il_t, il_f, ez_t, ez_f, if_true, if_false, upS_h, upS_o, upS_i, Int.reduceAdd, Int.reduceSub, Int.reduceMul, Int.reduceNeg, wI_id, b2]
    exact oC_tr b4 (oC_id (oC_no b3))
theorem xc_dearest {σ α : St} (h : IC σ α) (hw : WF α) : oC (f_X9_dearest σ) σ α (rPr α 2) (aNo α (-1)) := by
  unfold f_X9_dearest rPr aNo f_X0_mostPrice
  rcases c_find h hw (a := -1) (by omega) with ⟨b1, τ, b2, b3, b4, b5⟩ | ⟨b1, τ, b2, b3, b4⟩
  · rw [has_1 b1, if_pos rfl, if_pos rfl]
    simp (disch := omega) only [↓rdA_t, ↓wrA_t, ↓ixA_t, ↓wrF_d, ↓bd2_s, ↓bd1_s, ↓bnd_d, ↓iww_t, ↓iww_f, ↓iwl_t, ↓iwl_f, ↓ilw_t, ↓ilw_f, ↓eww_t, ↓eww_f, ↓ewl_t, ↓ewl_f, ↓ez_t, ↓ez_f, ↓il_t, ↓il_f, il_t, il_f, ez_t, ez_f, if_true, if_false, upS_h, upS_o, upS_i, Int.reduceAdd, Int.reduceSub, Int.reduceMul, Int.reduceNeg, wI_id, b2, b4.1.2.2.1]
    exact ⟨τ, rfl, b3, b5⟩
  · rw [has_0 b1, if_neg (by omega), if_neg (by omega)]
    simp (disch := omega) only [↓rdA_t, ↓wrA_t, ↓ixA_t, ↓wrF_d, ↓bd2_s, ↓bd1_s, ↓bnd_d, ↓iww_t, ↓iww_f, ↓iwl_t, ↓iwl_f, ↓ilw_t, ↓ilw_f, ↓eww_t, ↓eww_f, ↓ewl_t, ↓ewl_f, ↓ez_t, ↓ez_f, ↓il_t, ↓il_f, il_t, il_f, ez_t, ez_f, if_true, if_false, upS_h, upS_o, upS_i, Int.reduceAdd, Int.reduceSub, Int.reduceMul, Int.reduceNeg, wI_id, b2]
    exact oC_tr b4 (oC_id (oC_no b3))
theorem xc_next {σ α : St} (h : IC σ α) (hw : WF α) : oC (f_X9_next σ) σ α (rPr α 1) (aNo α (-1)) := by
  unfold f_X9_next rPr aNo f_X0_secondPrice
  rcases c_find h hw (a := -1) (by omega) with ⟨b1, τ, b2, b3, b4, b5⟩ | ⟨b1, τ, b2, b3, b4⟩
  · rw [has_1 b1, if_pos rfl, if_pos rfl]
    have e := b4.1.2.1
    have ok := (tp_ok (kd := α 0 2) hw b1.2 b1.1).2.1
    have ok0 := (tp_ok (kd := α 0 2) hw b1.2 b1.1).1
    unfold far at e
    by_cases c : tp α (-1) (α 0 2) 1 = -1
    · rw [if_pos c] at e
      simp (disch := omega) only [↓rdA_t, ↓wrA_t, ↓ixA_t, ↓wrF_d, ↓bd2_s, ↓bd1_s, ↓bnd_d, ↓iww_t, ↓iww_f, ↓iwl_t, ↓iwl_f, ↓ilw_t, ↓ilw_f, ↓eww_t, ↓eww_f, ↓ewl_t, ↓ewl_f, ↓ez_t, ↓ez_f, ↓il_t, ↓il_f, il_t, il_f, ez_t, ez_f, if_true, if_false, upS_h, upS_o, upS_i, Int.reduceAdd, Int.reduceSub, Int.reduceMul, Int.reduceNeg, wI_id, b2, e]
      rw [c]
      exact ⟨τ, rfl, b3, b5⟩
    · rw [if_neg c, Int.zero_add] at e
      simp (disch := omega) only [↓rdA_t, ↓wrA_t, ↓ixA_t, ↓wrF_d, ↓bd2_s, ↓bd1_s, ↓bnd_d, ↓iww_t, ↓iww_f, ↓iwl_t, ↓iwl_f, ↓ilw_t, ↓ilw_f, ↓eww_t, ↓eww_f, ↓ewl_t, ↓ewl_f, ↓ez_t, ↓ez_f, ↓il_t, ↓il_f, il_t, il_f, ez_t, ez_f, if_true, if_false, upS_h, upS_o, upS_i, Int.reduceAdd, Int.reduceSub, Int.reduceMul, Int.reduceNeg, wI_id, b2, e]
      exact ⟨τ, rfl, b3, b5⟩
  · rw [has_0 b1, if_neg (by omega), if_neg (by omega)]
    simp (disch := omega) only [↓rdA_t, ↓wrA_t, ↓ixA_t, ↓wrF_d, ↓bd2_s, ↓bd1_s, ↓bnd_d, ↓iww_t, ↓iww_f, ↓iwl_t, ↓iwl_f, ↓ilw_t, ↓ilw_f, ↓eww_t, ↓eww_f, ↓ewl_t, ↓ewl_f, ↓ez_t, ↓ez_f, ↓il_t, ↓il_f, il_t, il_f, ez_t, ez_f, if_true, if_false, upS_h, upS_o, upS_i, Int.reduceAdd, Int.reduceSub, Int.reduceMul, Int.reduceNeg, wI_id, b2]
    exact oC_tr b4 (oC_id (oC_no b3))
theorem xm_cost {σ α : St} (h : IM σ α) (hw : WF α) : oM (f_X10_cost σ) σ α (rPr α 0) (aNo α (-1)) := by
  unfold f_X10_cost rPr aNo
  rcases m_now h hw with ⟨b1, τ, b2, b3, b4, b5, b6⟩ | ⟨b1, τ, b2, b3, b4⟩
  · rw [has_1 b1, if_pos rfl, if_pos rfl]
    simp (disch := omega) only [↓rdA_t, ↓wrA_t, ↓ixA_t, ↓wrF_d, ↓bd2_s, ↓bd1_s, ↓bnd_d, ↓iww_t, ↓iww_f, ↓iwl_t, ↓iwl_f, ↓ilw_t, ↓ilw_f, ↓eww_t, ↓eww_f, ↓ewl_t, ↓ewl_f, ↓ez_t, ↓ez_f, ↓il_t, ↓il_f, il_t, il_f, ez_t, ez_f, if_true, if_false, upS_h, upS_o, upS_i, Int.reduceAdd, Int.reduceSub, Int.reduceMul, Int.reduceNeg, wI_id, b2, b3.1.1]
    exact ⟨τ, rfl, b5, b6⟩
  · rw [has_0 b1, if_neg (by omega), if_neg (by omega)]
    simp (disch := omega) only [↓rdA_t, ↓wrA_t, ↓ixA_t, ↓wrF_d, ↓bd2_s, ↓bd1_s, ↓bnd_d, ↓iww_t, ↓iww_f, ↓iwl_t, ↓iwl_f, ↓ilw_t, ↓ilw_f, ↓eww_t, ↓eww_f, ↓ewl_t, ↓ewl_f, ↓ez_t, ↓ez_f, ↓il_t, ↓il_f, il_t, il_f, ez_t, ez_f, if_true, if_false, upS_h, upS_o, upS_i, Int.reduceAdd, Int.reduceSub, Int.reduceMul, Int.reduceNeg, wI_id, b2]
    exact oM_tr b4 (oM_id (oM_no b3))
theorem xm_ways {σ α : St} (h : IM σ α) (hw : WF α) : oM (f_X10_ways σ) σ α (rPr α 3) (aNo α (-1)) := by
  unfold f_X10_ways rPr aNo
  rcases m_now h hw with ⟨b1, τ, b2, b3, b4, b5, b6⟩ | ⟨b1, τ, b2, b3, b4⟩
  · rw [has_1 b1, if_pos rfl, if_pos rfl]
    simp (disch := omega) only [↓rdA_t, ↓wrA_t, ↓ixA_t, ↓wrF_d, ↓bd2_s, ↓bd1_s, ↓bnd_d, ↓iww_t, ↓iww_f, ↓iwl_t, ↓iwl_f, ↓ilw_t, ↓ilw_f, ↓eww_t, ↓eww_f, ↓ewl_t, ↓ewl_f, ↓ez_t, ↓ez_f, ↓il_t, ↓il_f, il_t, il_f, ez_t, ez_f, if_true, if_false, upS_h, upS_o, upS_i, Int.reduceAdd, Int.reduceSub, Int.reduceMul, Int.reduceNeg, wI_id, b2, b3.1.2.2.2]
    exact ⟨τ, rfl, b5, b6⟩
  · rw [has_0 b1, if_neg (by omega), if_neg (by omega)]
    simp (disch := omega) only [↓rdA_t, ↓wrA_t, ↓ixA_t, ↓wrF_d, ↓bd2_s, ↓bd1_s, ↓bnd_d, ↓iww_t, ↓iww_f, ↓iwl_t, ↓iwl_f, ↓ilw_t, ↓ilw_f, ↓eww_t, ↓eww_f, ↓ewl_t, ↓ewl_f, ↓ez_t, ↓ez_f, ↓il_t, ↓il_f, il_t, il_f, ez_t, ez_f, if_true, if_false, upS_h, upS_o, upS_i, Int.reduceAdd, Int.reduceSub, Int.reduceMul, Int.reduceNeg, wI_id, b2]
    exact oM_tr b4 (oM_id (oM_no b3))
theorem xm_next {σ α : St} (h : IM σ α) (hw : WF α) : oM (f_X10_next σ) σ α (rPr α 1) (aNo α (-1)) := by
  unfold f_X10_next rPr aNo
  rcases m_now h hw with ⟨b1, τ, b2, b3, b4, b5, b6⟩ | ⟨b1, τ, b2, b3, b4⟩
  · rw [has_1 b1, if_pos rfl, if_pos rfl]
    simp (disch := omega) only [↓rdA_t, ↓wrA_t, ↓ixA_t, ↓wrF_d, ↓bd2_s, ↓bd1_s, ↓bnd_d, ↓iww_t, ↓iww_f, ↓iwl_t, ↓iwl_f, ↓ilw_t, ↓ilw_f, ↓eww_t, ↓eww_f, ↓ewl_t, ↓ewl_f, ↓ez_t, ↓ez_f, ↓il_t, ↓il_f, il_t, il_f, ez_t, ez_f, if_true, if_false, upS_h, upS_o, upS_i, Int.reduceAdd, Int.reduceSub, Int.reduceMul, Int.reduceNeg, wI_id, b2, b3.1.2.1]
    exact ⟨τ, rfl, b5, b6⟩
  · rw [has_0 b1, if_neg (by omega), if_neg (by omega)]
    simp (disch := omega) only [↓rdA_t, ↓wrA_t, ↓ixA_t, ↓wrF_d, ↓bd2_s, ↓bd1_s, ↓bnd_d, ↓iww_t, ↓iww_f, ↓iwl_t, ↓iwl_f, ↓ilw_t, ↓ilw_f, ↓eww_t, ↓eww_f, ↓ewl_t, ↓ewl_f, ↓ez_t, ↓ez_f, ↓il_t, ↓il_f, il_t, il_f, ez_t, ez_f, if_true, if_false, upS_h, upS_o, upS_i, Int.reduceAdd, Int.reduceSub, Int.reduceMul, Int.reduceNeg, wI_id, b2]
    exact oM_tr b4 (oM_id (oM_no b3))
theorem xm_dearest {σ α : St} (h : IM σ α) (hw : WF α) : oM (f_X10_dearest σ) σ α (rPr α 2) (aNo α (-1)) := by
  unfold f_X10_dearest rPr aNo
  rcases m_now h hw with ⟨b1, τ, b2, b3, b4, b5, b6⟩ | ⟨b1, τ, b2, b3, b4⟩
  · rw [has_1 b1, if_pos rfl, if_pos rfl]
    simp (disch := omega) only [↓rdA_t, ↓wrA_t, ↓ixA_t, ↓wrF_d, ↓bd2_s, ↓bd1_s, ↓bnd_d, ↓iww_t, ↓iww_f, ↓iwl_t, ↓iwl_f, ↓ilw_t, ↓ilw_f, ↓eww_t, ↓eww_f, ↓ewl_t, ↓ewl_f, ↓ez_t, ↓ez_f, ↓il_t, ↓il_f, il_t, il_f, ez_t, ez_f, if_true, if_false, upS_h, upS_o, upS_i, Int.reduceAdd, Int.reduceSub, Int.reduceMul, Int.reduceNeg, wI_id, b2, b3.1.2.2.1]
    exact ⟨τ, rfl, b5, b6⟩
  · rw [has_0 b1, if_neg (by omega), if_neg (by omega)]
    simp (disch := omega) only [↓rdA_t, ↓wrA_t, ↓ixA_t, ↓wrF_d, ↓bd2_s, ↓bd1_s, ↓bnd_d, ↓iww_t, ↓iww_f, ↓iwl_t, ↓iwl_f, ↓ilw_t, ↓ilw_f, ↓eww_t, ↓eww_f, ↓ewl_t, ↓ewl_f, ↓ez_t, ↓ez_f, ↓il_t, ↓il_f, il_t, il_f, ez_t, ez_f, if_true, if_false, upS_h, upS_o, upS_i, Int.reduceAdd, Int.reduceSub, Int.reduceMul, Int.reduceNeg, wI_id, b2]
    exact oM_tr b4 (oM_id (oM_no b3))
