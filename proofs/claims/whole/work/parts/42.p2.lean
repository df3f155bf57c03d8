/-! ===== clear, type, other, told, empties ===== -/
def aClr (α : St) : St := upS α 0 6 0
theorem xc_clear {σ α : St} (h : IC σ α) : oC (f_X9_clear σ) σ α (α 0 6) (aClr α) := by
  unfold f_X9_clear aClr
  simp (disch := omega) only [↓rdA_t, ↓wrA_t, ↓ixA_t, ↓wrF_d, ↓bd2_s, ↓bd1_s, ↓bnd_d, ↓iww_t, ↓iww_f, ↓iwl_t, ↓iwl_f, ↓ilw_t, ↓ilw_f, ↓eww_t, ↓eww_f, ↓ewl_t, ↓ewl_f, ↓ez_t, ↓ez_f, ↓il_t, ↓il_f, il_t, il_f, ez_t, ez_f, if_true, if_false, upS_h, upS_o, upS_i, Int.reduceAdd, Int.reduceSub, Int.reduceMul, Int.reduceNeg, wI_id]
  refine ⟨_, by rw [h.2.2.2.1.1], IC_chX (fun o _ _ => upS_of (by omega)) (fun i _ => upS_i (by omega)) (fun o _ _ => upS_of (by omega)) h ?_, fun o ho => upS_of (by omega)⟩
  exact ⟨by simp (disch := omega) only [upS_h, upS_o, upS_i, Int.reduceAdd, Int.reduceSub, Int.reduceMul, Int.reduceNeg], fun i h1 h2 => by rw [upS_h ⟨rfl, rfl⟩] at h2; omega⟩
theorem xm_clear {σ α : St} (h : IM σ α) : oM (f_X10_clear σ) σ α (α 0 6) (aClr α) := by
  unfold f_X10_clear aClr
  simp (disch := omega) only [↓rdA_t, ↓wrA_t, ↓ixA_t, ↓wrF_d, ↓bd2_s, ↓bd1_s, ↓bnd_d, ↓iww_t, ↓iww_f, ↓iwl_t, ↓iwl_f, ↓ilw_t, ↓ilw_f, ↓eww_t, ↓eww_f, ↓ewl_t, ↓ewl_f, ↓ez_t, ↓ez_f, ↓il_t, ↓il_f, il_t, il_f, ez_t, ez_f, if_true, if_false, upS_h, upS_o, upS_i, Int.reduceAdd, Int.reduceSub, Int.reduceMul, Int.reduceNeg, wI_id]
  refine ⟨_, by rw [h.2.2.2.1.1], IM_chX (fun i _ _ => upS_i (by omega)) (fun o _ _ => upS_of (by omega)) (fun i _ => upS_i (by omega)) (fun o _ _ => upS_of (by omega)) h ?_, fun o ho => upS_of (by omega)⟩
  exact ⟨by simp (disch := omega) only [upS_h, upS_o, upS_i, Int.reduceAdd, Int.reduceSub, Int.reduceMul, Int.reduceNeg], fun i h1 h2 => by rw [upS_h ⟨rfl, rfl⟩] at h2; omega⟩
theorem wf_clear {α : St} (hw : WF α) : WF (aClr α) := by
  unfold aClr
  refine WF_chX (fun i _ => upS_i (by omega)) (fun o _ _ => upS_of (by omega)) hw ⟨by simp (disch := omega) only [upS_h, upS_o, upS_i, Int.reduceAdd, Int.reduceSub, Int.reduceMul, Int.reduceNeg]; omega, by simp (disch := omega) only [upS_h, upS_o, upS_i, Int.reduceAdd, Int.reduceSub, Int.reduceMul, Int.reduceNeg]; omega, fun i h1 h2 => by rw [upS_h ⟨rfl, rfl⟩] at h2; omega⟩
def rTyp (α : St) (a : Int) : Int := if 0 ≤ a ∧ a ≤ 127 then (if α 0 6 < 120 then α 0 6 + 1 else -4) else -2
def aTyp (α : St) (a : Int) : St := if 0 ≤ a ∧ a ≤ 127 then (if α 0 6 < 120 then upS (upS α 11 (α 0 6) a) 0 6 (α 0 6 + 1) else aR α 5) else aR α 3
theorem xc_type {σ α : St} {a : Int} (h : IC σ α) (hw : WF α) (ha : inR a) : oC (f_X9_type σ a) σ α (rTyp α a) (aTyp α a) := by
  unfold inR at ha
  obtain ⟨w1, w2, w3⟩ := hw.2.2.2.1
  obtain ⟨h1, h2⟩ := h.2.2.2.1
  unfold f_X9_type rTyp aTyp f_X6_add
  by_cases c : 0 ≤ a ∧ a ≤ 127
  · by_cases c2 : α 0 6 < 120
    · simp (disch := omega) only [↓rdA_t, ↓wrA_t, ↓ixA_t, ↓wrF_d, ↓bd2_s, ↓bd1_s, ↓bnd_d, ↓iww_t, ↓iww_f, ↓iwl_t, ↓iwl_f, ↓ilw_t, ↓ilw_f, ↓eww_t, ↓eww_f, ↓ewl_t, ↓ewl_f, ↓ez_t, ↓ez_f, ↓il_t, ↓il_f, il_t, il_f, ez_t, ez_f, if_true, if_false, upS_h, upS_o, upS_i, Int.reduceAdd, Int.reduceSub, Int.reduceMul, Int.reduceNeg, wI_id, within_t, if_pos c, if_pos c2, h1]
      refine ⟨_, rfl, IC_chX (fun o _ _ => by rw [upS_of (by omega), upS_of (by omega)]) (fun i _ => by rw [upS_i (by omega), upS_o (by omega)]) (fun o _ _ => by rw [upS_of (by omega), upS_of (by omega)]) h ⟨by simp (disch := omega) only [upS_h, upS_o, upS_i, Int.reduceAdd, Int.reduceSub, Int.reduceMul, Int.reduceNeg, h1], fun i h3 h4 => ?_⟩, fun o ho => by rw [upS_of (by omega), upS_of (by omega)]⟩
      rw [upS_h ⟨rfl, rfl⟩] at h4
      by_cases c3 : i = α 0 6
      · subst c3
        simp (disch := omega) only [upS_h, upS_o, upS_i, Int.reduceAdd, Int.reduceSub, Int.reduceMul, Int.reduceNeg]
      · simp (disch := omega) only [upS_h, upS_o, upS_i, Int.reduceAdd, Int.reduceSub, Int.reduceMul, Int.reduceNeg, h2 i h3 (by omega)]
    · simp (disch := omega) only [↓rdA_t, ↓wrA_t, ↓ixA_t, ↓wrF_d, ↓bd2_s, ↓bd1_s, ↓bnd_d, ↓iww_t, ↓iww_f, ↓iwl_t, ↓iwl_f, ↓ilw_t, ↓ilw_f, ↓eww_t, ↓eww_f, ↓ewl_t, ↓ewl_f, ↓ez_t, ↓ez_f, ↓il_t, ↓il_f, il_t, il_f, ez_t, ez_f, if_true, if_false, upS_h, upS_o, upS_i, Int.reduceAdd, Int.reduceSub, Int.reduceMul, Int.reduceNeg, wI_id, within_t, if_pos c, if_neg c2, h1]
      exact oC_id (oC_full h)
  · simp (disch := omega) only [↓rdA_t, ↓wrA_t, ↓ixA_t, ↓wrF_d, ↓bd2_s, ↓bd1_s, ↓bnd_d, ↓iww_t, ↓iww_f, ↓iwl_t, ↓iwl_f, ↓ilw_t, ↓ilw_f, ↓eww_t, ↓eww_f, ↓ewl_t, ↓ewl_f, ↓ez_t, ↓ez_f, ↓il_t, ↓il_f, il_t, il_f, ez_t, ez_f, if_true, if_false, upS_h, upS_o, upS_i, Int.reduceAdd, Int.reduceSub, Int.reduceMul, Int.reduceNeg, wI_id, within_f, if_neg c]
    exact oC_id (oC_bad h)
theorem xm_type {σ α : St} {a : Int} (h : IM σ α) (hw : WF α) (ha : inR a) : oM (f_X10_type σ a) σ α (rTyp α a) (aTyp α a) := by
  unfold inR at ha
  obtain ⟨w1, w2, w3⟩ := hw.2.2.2.1
  obtain ⟨h1, h2⟩ := h.2.2.2.1
  unfold f_X10_type rTyp aTyp
  by_cases c : 0 ≤ a ∧ a ≤ 127
  · by_cases c2 : α 0 6 < 120
    · simp (disch := omega) only [↓rdA_t, ↓wrA_t, ↓ixA_t, ↓wrF_d, ↓bd2_s, ↓bd1_s, ↓bnd_d, ↓iww_t, ↓iww_f, ↓iwl_t, ↓iwl_f, ↓ilw_t, ↓ilw_f, ↓eww_t, ↓eww_f, ↓ewl_t, ↓ewl_f, ↓ez_t, ↓ez_f, ↓il_t, ↓il_f, il_t, il_f, ez_t, ez_f, if_true, if_false, upS_h, upS_o, upS_i, Int.reduceAdd, Int.reduceSub, Int.reduceMul, Int.reduceNeg, wI_id, in_t, if_pos c, if_pos c2, h1]
      refine ⟨_, rfl, IM_chX (fun i _ _ => by rw [upS_i (by omega), upS_o (by omega)]) (fun o _ _ => by rw [upS_of (by omega), upS_of (by omega)]) (fun i _ => by rw [upS_i (by omega), upS_o (by omega)]) (fun o _ _ => by rw [upS_of (by omega), upS_of (by omega)]) h ⟨by simp (disch := omega) only [upS_h, upS_o, upS_i, Int.reduceAdd, Int.reduceSub, Int.reduceMul, Int.reduceNeg, h1], fun i h3 h4 => ?_⟩, fun o ho => by rw [upS_of (by omega), upS_of (by omega)]⟩
      rw [upS_h ⟨rfl, rfl⟩] at h4
      by_cases c3 : i = α 0 6
      · subst c3
        simp (disch := omega) only [upS_h, upS_o, upS_i, Int.reduceAdd, Int.reduceSub, Int.reduceMul, Int.reduceNeg]
      · simp (disch := omega) only [upS_h, upS_o, upS_i, Int.reduceAdd, Int.reduceSub, Int.reduceMul, Int.reduceNeg, h2 i h3 (by omega)]
    · simp (disch := omega) only [↓rdA_t, ↓wrA_t, ↓ixA_t, ↓wrF_d, ↓bd2_s, ↓bd1_s, ↓bnd_d, ↓iww_t, ↓iww_f, ↓iwl_t, ↓iwl_f, ↓ilw_t, ↓ilw_f, ↓eww_t, ↓eww_f, ↓ewl_t, ↓ewl_f, ↓ez_t, ↓ez_f, ↓il_t, ↓il_f, il_t, il_f, ez_t, ez_f, if_true, if_false, upS_h, upS_o, upS_i, Int.reduceAdd, Int.reduceSub, Int.reduceMul, Int.reduceNeg, wI_id, in_t, if_pos c, if_neg c2, h1]
      exact oM_id (oM_full h)
  · simp (disch := omega) only [↓rdA_t, ↓wrA_t, ↓ixA_t, ↓wrF_d, ↓bd2_s, ↓bd1_s, ↓bnd_d, ↓iww_t, ↓iww_f, ↓iwl_t, ↓iwl_f, ↓ilw_t, ↓ilw_f, ↓eww_t, ↓eww_f, ↓ewl_t, ↓ewl_f, ↓ez_t, ↓ez_f, ↓il_t, ↓il_f, il_t, il_f, ez_t, ez_f, if_true, if_false, upS_h, upS_o, upS_i, Int.reduceAdd, Int.reduceSub, Int.reduceMul, Int.reduceNeg, wI_id, in_f, if_neg c]
    exact oM_id (oM_bad (-2) h)
theorem wf_type {α : St} {a : Int} (hw : WF α) : WF (aTyp α a) := by
  obtain ⟨w1, w2, w3⟩ := hw.2.2.2.1
  unfold aTyp
  by_cases c : 0 ≤ a ∧ a ≤ 127
  · rw [if_pos c]
    by_cases c2 : α 0 6 < 120
    · rw [if_pos c2]
      refine WF_chX (fun i _ => by rw [upS_i (by omega), upS_o (by omega)]) (fun o _ _ => by rw [upS_of (by omega), upS_of (by omega)]) hw ⟨by simp (disch := omega) only [upS_h, upS_o, upS_i, Int.reduceAdd, Int.reduceSub, Int.reduceMul, Int.reduceNeg]; omega, by simp (disch := omega) only [upS_h, upS_o, upS_i, Int.reduceAdd, Int.reduceSub, Int.reduceMul, Int.reduceNeg]; omega, fun i h3 h4 => ?_⟩
      rw [upS_h ⟨rfl, rfl⟩] at h4
      by_cases c3 : i = α 0 6
      · subst c3
        simp (disch := omega) only [upS_h, upS_o, upS_i, Int.reduceAdd, Int.reduceSub, Int.reduceMul, Int.reduceNeg]
        exact c
      · simp (disch := omega) only [upS_h, upS_o, upS_i, Int.reduceAdd, Int.reduceSub, Int.reduceMul, Int.reduceNeg]
        exact w3 i h3 (by omega)
    · rw [if_neg c2]
      exact WF_aR 5 (by omega) hw
  · rw [if_neg c]
    exact WF_aR 3 (by omega) hw
def rOth (α : St) (a b : Int) : Int := if (0 ≤ a ∧ a ≤ 5) ∧ 0 ≤ b ∧ b ≤ 5 then α 10 a else -2
def aOth (α : St) (a b : Int) : St := if (0 ≤ a ∧ a ≤ 5) ∧ 0 ≤ b ∧ b ≤ 5 then upS α 10 a b else aR α 3
theorem xc_other {σ α : St} {a b : Int} (h : IC σ α) (ha : inR a) (hb : inR b) : oC (f_X9_other σ a b) σ α (rOth α a b) (aOth α a b) := by
  unfold inR at ha hb
  obtain ⟨h1, h2, h3, h4, h5, h6⟩ := h.2.2.1
  unfold f_X9_other rOth aOth f_X9_isSound
  by_cases c : 0 ≤ a ∧ a ≤ 5
  · by_cases c2 : 0 ≤ b ∧ b ≤ 5
    · simp (disch := omega) only [↓rdA_t, ↓wrA_t, ↓ixA_t, ↓wrF_d, ↓bd2_s, ↓bd1_s, ↓bnd_d, ↓iww_t, ↓iww_f, ↓iwl_t, ↓iwl_f, ↓ilw_t, ↓ilw_f, ↓eww_t, ↓eww_f, ↓ewl_t, ↓ewl_f, ↓ez_t, ↓ez_f, ↓il_t, ↓il_f, il_t, il_f, ez_t, ez_f, if_true, if_false, upS_h, upS_o, upS_i, Int.reduceAdd, Int.reduceSub, Int.reduceMul, Int.reduceNeg, wI_id, within_t, if_pos (And.intro c c2)]
      refine ⟨_, by rw [h5 a c.1 (by omega)], IC_chK (fun o _ _ => upS_of (by omega)) (fun i _ => upS_o (by omega)) (fun o _ _ => upS_of (by omega)) h ⟨by simp (disch := omega) only [upS_h, upS_o, upS_i, Int.reduceAdd, Int.reduceSub, Int.reduceMul, Int.reduceNeg, h1], by simp (disch := omega) only [upS_h, upS_o, upS_i, Int.reduceAdd, Int.reduceSub, Int.reduceMul, Int.reduceNeg, h2], by simp (disch := omega) only [upS_h, upS_o, upS_i, Int.reduceAdd, Int.reduceSub, Int.reduceMul, Int.reduceNeg, h3], by simp (disch := omega) only [upS_h, upS_o, upS_i, Int.reduceAdd, Int.reduceSub, Int.reduceMul, Int.reduceNeg, h4], fun q p1 p2 => ?_, by simp (disch := omega) only [upS_h, upS_o, upS_i, Int.reduceAdd, Int.reduceSub, Int.reduceMul, Int.reduceNeg, h6.1], by simp (disch := omega) only [upS_h, upS_o, upS_i, Int.reduceAdd, Int.reduceSub, Int.reduceMul, Int.reduceNeg, h6.2.1], by simp (disch := omega) only [upS_h, upS_o, upS_i, Int.reduceAdd, Int.reduceSub, Int.reduceMul, Int.reduceNeg, h6.2.2.1], by simp (disch := omega) only [upS_h, upS_o, upS_i, Int.reduceAdd, Int.reduceSub, Int.reduceMul, Int.reduceNeg, h6.2.2.2]⟩, fun o ho => upS_of (by omega)⟩
      by_cases c3 : q = a
      · simp (disch := omega) only [upS_h, upS_o, upS_i, Int.reduceAdd, Int.reduceSub, Int.reduceMul, Int.reduceNeg]
      · simp (disch := omega) only [upS_h, upS_o, upS_i, Int.reduceAdd, Int.reduceSub, Int.reduceMul, Int.reduceNeg, h5 q p1 p2]
    · simp (disch := omega) only [↓rdA_t, ↓wrA_t, ↓ixA_t, ↓wrF_d, ↓bd2_s, ↓bd1_s, ↓bnd_d, ↓iww_t, ↓iww_f, ↓iwl_t, ↓iwl_f, ↓ilw_t, ↓ilw_f, ↓eww_t, ↓eww_f, ↓ewl_t, ↓ewl_f, ↓ez_t, ↓ez_f, ↓il_t, ↓il_f, il_t, il_f, ez_t, ez_f, if_true, if_false, upS_h, upS_o, upS_i, Int.reduceAdd, Int.reduceSub, Int.reduceMul, Int.reduceNeg, wI_id, within_t, within_f, if_neg (fun z : (0 ≤ a ∧ a ≤ 5) ∧ 0 ≤ b ∧ b ≤ 5 => c2 z.2)]
      exact oC_id (oC_bad h)
  · simp (disch := omega) only [↓rdA_t, ↓wrA_t, ↓ixA_t, ↓wrF_d, ↓bd2_s, ↓bd1_s, ↓bnd_d, ↓iww_t, ↓iww_f, ↓iwl_t, ↓iwl_f, ↓ilw_t, ↓ilw_f, ↓eww_t, ↓eww_f, ↓ewl_t, ↓ewl_f, ↓ez_t, ↓ez_f, ↓il_t, ↓il_f, il_t, il_f, ez_t, ez_f, if_true, if_false, upS_h, upS_o, upS_i, Int.reduceAdd, Int.reduceSub, Int.reduceMul, Int.reduceNeg, wI_id, within_f, if_neg (fun z : (0 ≤ a ∧ a ≤ 5) ∧ 0 ≤ b ∧ b ≤ 5 => c z.1)]
    exact oC_id (oC_bad h)
theorem xm_other {σ α : St} {a b : Int} (h : IM σ α) (ha : inR a) (hb : inR b) : oM (f_X10_other σ a b) σ α (rOth α a b) (aOth α a b) := by
  unfold inR at ha hb
  obtain ⟨h1, h2, h3, h4, h5, h6⟩ := h.2.2.1
  unfold f_X10_other rOth aOth f_X10_isSound
  by_cases c : 0 ≤ a ∧ a ≤ 5
  · by_cases c2 : 0 ≤ b ∧ b ≤ 5
    · simp (disch := omega) only [↓rdA_t, ↓wrA_t, ↓ixA_t, ↓wrF_d, ↓bd2_s, ↓bd1_s, ↓bnd_d, ↓iww_t, ↓iww_f, ↓iwl_t, ↓iwl_f, ↓ilw_t, ↓ilw_f, ↓eww_t, ↓eww_f, ↓ewl_t, ↓ewl_f, ↓ez_t, ↓ez_f, ↓il_t, ↓il_f, il_t, il_f, ez_t, ez_f, if_true, if_false, upS_h, upS_o, upS_i, Int.reduceAdd, Int.reduceSub, Int.reduceMul, Int.reduceNeg, wI_id, in_t, if_pos (And.intro c c2)]
      refine ⟨_, by rw [h5 a c.1 (by omega)], IM_chK (fun i _ _ _ => upS_o (by omega)) (fun o _ _ _ _ => upS_of (by omega)) (fun i _ => upS_o (by omega)) (fun o _ _ => upS_of (by omega)) h ⟨by simp (disch := omega) only [upS_h, upS_o, upS_i, Int.reduceAdd, Int.reduceSub, Int.reduceMul, Int.reduceNeg, h1], by simp (disch := omega) only [upS_h, upS_o, upS_i, Int.reduceAdd, Int.reduceSub, Int.reduceMul, Int.reduceNeg, h2], by simp (disch := omega) only [upS_h, upS_o, upS_i, Int.reduceAdd, Int.reduceSub, Int.reduceMul, Int.reduceNeg, h3], by simp (disch := omega) only [upS_h, upS_o, upS_i, Int.reduceAdd, Int.reduceSub, Int.reduceMul, Int.reduceNeg, h4], fun q p1 p2 => ?_, by simp (disch := omega) only [upS_h, upS_o, upS_i, Int.reduceAdd, Int.reduceSub, Int.reduceMul, Int.reduceNeg, h6]⟩, fun o ho => upS_of (by omega)⟩
      by_cases c3 : q = a
      · simp (disch := omega) only [upS_h, upS_o, upS_i, Int.reduceAdd, Int.reduceSub, Int.reduceMul, Int.reduceNeg]
      · simp (disch := omega) only [upS_h, upS_o, upS_i, Int.reduceAdd, Int.reduceSub, Int.reduceMul, Int.reduceNeg, h5 q p1 p2]
    · simp (disch := omega) only [↓rdA_t, ↓wrA_t, ↓ixA_t, ↓wrF_d, ↓bd2_s, ↓bd1_s, ↓bnd_d, ↓iww_t, ↓iww_f, ↓iwl_t, ↓iwl_f, ↓ilw_t, ↓ilw_f, ↓eww_t, ↓eww_f, ↓ewl_t, ↓ewl_f, ↓ez_t, ↓ez_f, ↓il_t, ↓il_f, il_t, il_f, ez_t, ez_f, if_true, if_false, upS_h, upS_o, upS_i, Int.reduceAdd, Int.reduceSub, Int.reduceMul, Int.reduceNeg, wI_id, in_t, in_f, if_neg (fun z : (0 ≤ a ∧ a ≤ 5) ∧ 0 ≤ b ∧ b ≤ 5 => c2 z.2)]
      exact oM_id (oM_bad (-2) h)
  · simp (disch := omega) only [↓rdA_t, ↓wrA_t, ↓ixA_t, ↓wrF_d, ↓bd2_s, ↓bd1_s, ↓bnd_d, ↓iww_t, ↓iww_f, ↓iwl_t, ↓iwl_f, ↓ilw_t, ↓ilw_f, ↓eww_t, ↓eww_f, ↓ewl_t, ↓ewl_f, ↓ez_t, ↓ez_f, ↓il_t, ↓il_f, il_t, il_f, ez_t, ez_f, if_true, if_false, upS_h, upS_o, upS_i, Int.reduceAdd, Int.reduceSub, Int.reduceMul, Int.reduceNeg, wI_id, in_f, if_neg (fun z : (0 ≤ a ∧ a ≤ 5) ∧ 0 ≤ b ∧ b ≤ 5 => c z.1)]
    exact oM_id (oM_bad (-2) h)
theorem wf_other {α : St} {a b : Int} (hw : WF α) : WF (aOth α a b) := by
  unfold aOth
  by_cases c : (0 ≤ a ∧ a ≤ 5) ∧ 0 ≤ b ∧ b ≤ 5
  · rw [if_pos c]
    refine WF_chK (fun i _ => upS_o (by omega)) (fun o _ _ => upS_of (by omega)) hw ⟨by simp (disch := omega) only [upS_h, upS_o, upS_i, Int.reduceAdd, Int.reduceSub, Int.reduceMul, Int.reduceNeg]; exact hw.2.2.1.1, fun q p1 p2 => ?_⟩
    by_cases c3 : q = a
    · simp (disch := omega) only [upS_h, upS_o, upS_i, Int.reduceAdd, Int.reduceSub, Int.reduceMul, Int.reduceNeg]
      exact c.2
    · simp (disch := omega) only [upS_h, upS_o, upS_i, Int.reduceAdd, Int.reduceSub, Int.reduceMul, Int.reduceNeg]
      exact hw.2.2.1.2 q p1 p2
  · rw [if_neg c]
    exact WF_aR 3 (by omega) hw
def rTld (α : St) (a : Int) : Int := if a = 0 then α 0 3 else if a = 1 then α 0 4 else if a = 2 then α 0 5 else if a = 3 then α 0 6 else if a = 4 then α 0 0 else if a = 5 then α 0 1 else if a = 6 then α 0 2 else -2
def aTld (α : St) (a : Int) : St := if 0 ≤ a ∧ a ≤ 6 then α else aR α 3
theorem xc_told {σ α : St} {a : Int} (h : IC σ α) (ha : inR a) : oC (f_X9_told σ a) σ α (rTld α a) (aTld α a) := by
  unfold inR at ha
  obtain ⟨h1, h2, h3, h4, h5, h6⟩ := h.2.2.1
  have hu := h.1.1
  have hr := h.2.1.1
  have hx := h.2.2.2.1.1
  unfold f_X9_told rTld aTld
  by_cases c : 0 ≤ a ∧ a ≤ 6
  · rw [if_pos c]
    have : a = 0 ∨ a = 1 ∨ a = 2 ∨ a = 3 ∨ a = 4 ∨ a = 5 ∨ a = 6 := by omega
    rcases this with rfl | rfl | rfl | rfl | rfl | rfl | rfl <;> (simp (disch := omega) only [↓rdA_t, ↓wrA_t, ↓ixA_t, ↓wrF_d, ↓bd2_s, ↓bd1_s, ↓bnd_d, ↓iww_t, ↓iww_f, ↓iwl_t, ↓iwl_f, ↓ilw_t, ↓ilw_f, ↓eww_t, ↓eww_f, ↓ewl_t, ↓ewl_f, ↓ez_t, ↓ez_f, ↓il_t, ↓il_f, il_t, il_f, ez_t, ez_f, if_true, if_false, upS_h, upS_o, upS_i, Int.reduceAdd, Int.reduceSub, Int.reduceMul, Int.reduceNeg, wI_id]; exact ⟨σ, by simp only [h1, h2, h3, h4, hu, hr, hx], h, fun _ _ => rfl⟩)
  · rw [if_neg c]
    simp (disch := omega) only [↓rdA_t, ↓wrA_t, ↓ixA_t, ↓wrF_d, ↓bd2_s, ↓bd1_s, ↓bnd_d, ↓iww_t, ↓iww_f, ↓iwl_t, ↓iwl_f, ↓ilw_t, ↓ilw_f, ↓eww_t, ↓eww_f, ↓ewl_t, ↓ewl_f, ↓ez_t, ↓ez_f, ↓il_t, ↓il_f, il_t, il_f, ez_t, ez_f, if_true, if_false, upS_h, upS_o, upS_i, Int.reduceAdd, Int.reduceSub, Int.reduceMul, Int.reduceNeg, wI_id]
    exact oC_id (oC_bad h)
theorem m_toldOf {σ α : St} {a : Int} (h : IM σ α) (c : 0 ≤ a ∧ a ≤ 6) : f_X10_toldOf σ a = some (rTld α a) := by
  obtain ⟨h1, h2, h3, h4, h5, h6⟩ := h.2.2.1
  have hu := h.1.1
  have hr := h.2.1.1
  have hx := h.2.2.2.1.1
  unfold f_X10_toldOf rTld
  have : a = 0 ∨ a = 1 ∨ a = 2 ∨ a = 3 ∨ a = 4 ∨ a = 5 ∨ a = 6 := by omega
  rcases this with rfl | rfl | rfl | rfl | rfl | rfl | rfl <;> (simp (disch := omega) only [↓rdA_t, ↓wrA_t, ↓ixA_t, ↓wrF_d, ↓bd2_s, ↓bd1_s, ↓bnd_d, ↓iww_t, ↓iww_f, ↓iwl_t, ↓iwl_f, ↓ilw_t, ↓ilw_f, ↓eww_t, ↓eww_f, ↓ewl_t, ↓ewl_f, ↓ez_t, ↓ez_f, ↓il_t, ↓il_f, il_t, il_f, ez_t, ez_f, if_true, if_false, upS_h, upS_o, upS_i, Int.reduceAdd, Int.reduceSub, Int.reduceMul, Int.reduceNeg, wI_id, h1, h2, h3, h4, hu, hr, hx])
theorem xm_told {σ α : St} {a : Int} (h : IM σ α) (ha : inR a) : oM (f_X10_told σ a) σ α (rTld α a) (aTld α a) := by
  unfold inR at ha
  unfold f_X10_told aTld
  by_cases c : 0 ≤ a ∧ a ≤ 6
  · rw [if_pos c, m_toldOf h c]
    simp (disch := omega) only [↓rdA_t, ↓wrA_t, ↓ixA_t, ↓wrF_d, ↓bd2_s, ↓bd1_s, ↓bnd_d, ↓iww_t, ↓iww_f, ↓iwl_t, ↓iwl_f, ↓ilw_t, ↓ilw_f, ↓eww_t, ↓eww_f, ↓ewl_t, ↓ewl_f, ↓ez_t, ↓ez_f, ↓il_t, ↓il_f, il_t, il_f, ez_t, ez_f, if_true, if_false, upS_h, upS_o, upS_i, Int.reduceAdd, Int.reduceSub, Int.reduceMul, Int.reduceNeg, wI_id, in_t]
    exact oM_ret _ h
  · rw [if_neg c]
    unfold rTld
    simp (disch := omega) only [↓rdA_t, ↓wrA_t, ↓ixA_t, ↓wrF_d, ↓bd2_s, ↓bd1_s, ↓bnd_d, ↓iww_t, ↓iww_f, ↓iwl_t, ↓iwl_f, ↓ilw_t, ↓ilw_f, ↓eww_t, ↓eww_f, ↓ewl_t, ↓ewl_f, ↓ez_t, ↓ez_f, ↓il_t, ↓il_f, il_t, il_f, ez_t, ez_f, if_true, if_false, upS_h, upS_o, upS_i, Int.reduceAdd, Int.reduceSub, Int.reduceMul, Int.reduceNeg, wI_id, in_f]
    exact oM_id (oM_bad (-2) h)
theorem wf_told {α : St} {a : Int} (hw : WF α) : WF (aTld α a) := by
  unfold aTld
  by_cases c : 0 ≤ a ∧ a ≤ 6
  · rw [if_pos c]; exact hw
  · rw [if_neg c]; exact WF_aR 3 (by omega) hw
