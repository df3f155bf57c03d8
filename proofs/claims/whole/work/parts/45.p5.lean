/-! ===== what the reference's searches read: all but the refusals, the text and the one that is gone ===== -/
def mJ (σ α : St) : Prop := σ 118 5 = α 0 2 ∧ ∀ q, 0 ≤ q → q < 6 → σ 121 q = α 10 q
def JM (σ α : St) : Prop := mU σ α ∧ mR σ α ∧ mJ σ α ∧ True ∧ mT σ α
theorem JM_of {σ α : St} (h : IM σ α) : JM σ α := ⟨h.1, h.2.1, ⟨h.2.2.1.1, h.2.2.1.2.2.2.2.1⟩, trivial, h.2.2.2.2⟩
theorem JM_scr {σ τ α : St} (hf : ∀ i, (i = 1 ∨ i = 3 ∨ i = 5 ∨ i = 10 ∨ i = 11) → τ 118 i = σ 118 i) (hs : ∀ o, 119 ≤ o → o ≤ 125 → τ o = σ o) (h : JM σ α) : JM τ α := by
  refine ⟨mU_c (hf 1 (by omega)) (hs 119 (by omega) (by omega)) rfl (fun _ _ _ => rfl) h.1, mR_c (hf 3 (by omega)) (hs 120 (by omega) (by omega)) rfl (fun _ _ _ => rfl) h.2.1, ⟨by rw [hf 5 (by omega)]; exact h.2.2.1.1, by rw [hs 121 (by omega) (by omega)]; exact h.2.2.1.2⟩, trivial, mT_c (hf 10 (by omega)) (hf 11 (by omega)) (fun o _ _ => hs o (by omega) (by omega)) (fun _ _ _ => rfl) (fun _ _ _ => rfl) h.2.2.2.2⟩
/-! ===== targets ===== -/
theorem c_isT {σ α : St} {a : Int} (h : cR σ α) (hw : wR α) (ha : inR a) : f_X9_isTarget σ a = if 0 ≤ a ∧ a < α 0 1 then 1 else 0 := by
  unfold inR at ha
  obtain ⟨w1, w2, w3⟩ := hw
  have hs := h.1
  unfold f_X9_isTarget
  by_cases c : 0 ≤ a ∧ a < α 0 1
  · rw [if_pos c]
    simp (disch := omega) only [↓rdA_t, ↓wrA_t, ↓ixA_t, ↓wrF_d, ↓bd2_s, ↓bd1_s, ↓bnd_d, ↓iww_t, ↓iww_f, ↓iwl_t, ↓iwl_f, ↓ilw_t, ↓ilw_f, ↓eww_t, ↓eww_f, ↓ewl_t, ↓ewl_f, ↓ez_t, ↓ez_f, ↓il_t, ↓il_f, il_t, il_f, ez_t, ez_f, if_true, if_false, upS_h, upS_o, upS_i, Int.reduceAdd, Int.reduceSub, Int.reduceMul, Int.reduceNeg, wI_id]
  · rw [if_neg c]
    by_cases c2 : 0 ≤ a
    · simp (disch := omega) only [↓rdA_t, ↓wrA_t, ↓ixA_t, ↓wrF_d, ↓bd2_s, ↓bd1_s, ↓bnd_d, ↓iww_t, ↓iww_f, ↓iwl_t, ↓iwl_f, ↓ilw_t, ↓ilw_f, ↓eww_t, ↓eww_f, ↓ewl_t, ↓ewl_f, ↓ez_t, ↓ez_f, ↓il_t, ↓il_f, il_t, il_f, ez_t, ez_f, if_true, if_false, upS_h, upS_o, upS_i, Int.reduceAdd, Int.reduceSub, Int.reduceMul, Int.reduceNeg, wI_id]
    · simp (disch := omega) only [↓rdA_t, ↓wrA_t, ↓ixA_t, ↓wrF_d, ↓bd2_s, ↓bd1_s, ↓bnd_d, ↓iww_t, ↓iww_f, ↓iwl_t, ↓iwl_f, ↓ilw_t, ↓ilw_f, ↓eww_t, ↓eww_f, ↓ewl_t, ↓ewl_f, ↓ez_t, ↓ez_f, ↓il_t, ↓il_f, il_t, il_f, ez_t, ez_f, if_true, if_false, upS_h, upS_o, upS_i, Int.reduceAdd, Int.reduceSub, Int.reduceMul, Int.reduceNeg, wI_id]
theorem m_isT {σ α : St} {a : Int} (h : mR σ α) (hw : wR α) (ha : inR a) : f_X10_isTarget σ a = if 0 ≤ a ∧ a < α 0 1 then 1 else 0 := by
  unfold inR at ha
  obtain ⟨w1, w2, w3⟩ := hw
  unfold f_X10_isTarget
  by_cases c : 0 ≤ a ∧ a < α 0 1
  · rw [if_pos c, h.1, in_t2 (by omega)]
  · rw [if_neg c, h.1, in_f2 (by omega)]
def tL (α : St) (k : Int) : Int := if k = 0 then 6 else α 7 (k - 1)
def tR (α : St) (k : Int) : Int := if k = α 0 1 - 1 then 6 else α 7 (k + 1)
theorem tL_r {α : St} {k : Int} (hw : wR α) (h0 : 0 ≤ k) (h1 : k < α 0 1) : 0 ≤ tL α k ∧ tL α k ≤ 6 := by
  unfold tL
  by_cases c : k = 0
  · rw [if_pos c]; omega
  · rw [if_neg c]
    have := (hw.2.2 (k - 1) (by omega) (by omega)).1
    omega
theorem tR_r {α : St} {k : Int} (hw : wR α) (h0 : 0 ≤ k) (h1 : k < α 0 1) : 0 ≤ tR α k ∧ tR α k ≤ 6 := by
  unfold tR
  by_cases c : k = α 0 1 - 1
  · rw [if_pos c]; omega
  · rw [if_neg c]
    have := (hw.2.2 (k + 1) (by omega) (by omega)).1
    omega
theorem c_tL {σ α : St} {k : Int} (h : cR σ α) (hw : wR α) (h0 : 0 ≤ k) (h1 : k < α 0 1) : f_X4_leftOf σ 10 k = some (tL α k) := by
  obtain ⟨w1, w2, w3⟩ := hw
  have hs := h.1
  unfold f_X4_leftOf tL
  by_cases c : k = 0
  · simp (disch := omega) only [↓rdA_t, ↓wrA_t, ↓ixA_t, ↓wrF_d, ↓bd2_s, ↓bd1_s, ↓bnd_d, ↓iww_t, ↓iww_f, ↓iwl_t, ↓iwl_f, ↓ilw_t, ↓ilw_f, ↓eww_t, ↓eww_f, ↓ewl_t, ↓ewl_f, ↓ez_t, ↓ez_f, ↓il_t, ↓il_f, il_t, il_f, ez_t, ez_f, if_true, if_false, upS_h, upS_o, upS_i, Int.reduceAdd, Int.reduceSub, Int.reduceMul, Int.reduceNeg, wI_id]
  · have e := (h.2 (k - 1) (by omega) (by omega)).1
    simp (disch := omega) only [↓rdA_t, ↓wrA_t, ↓ixA_t, ↓wrF_d, ↓bd2_s, ↓bd1_s, ↓bnd_d, ↓iww_t, ↓iww_f, ↓iwl_t, ↓iwl_f, ↓ilw_t, ↓ilw_f, ↓eww_t, ↓eww_f, ↓ewl_t, ↓ewl_f, ↓ez_t, ↓ez_f, ↓il_t, ↓il_f, il_t, il_f, ez_t, ez_f, if_true, if_false, upS_h, upS_o, upS_i, Int.reduceAdd, Int.reduceSub, Int.reduceMul, Int.reduceNeg, wI_id, e]
theorem c_tR {σ α : St} {k : Int} (h : cR σ α) (hw : wR α) (h0 : 0 ≤ k) (h1 : k < α 0 1) : f_X4_rightOf σ 10 k = some (tR α k) := by
  obtain ⟨w1, w2, w3⟩ := hw
  have hs := h.1
  unfold f_X4_rightOf tR
  by_cases c : k = α 0 1 - 1
  · simp (disch := omega) only [↓rdA_t, ↓wrA_t, ↓ixA_t, ↓wrF_d, ↓bd2_s, ↓bd1_s, ↓bnd_d, ↓iww_t, ↓iww_f, ↓iwl_t, ↓iwl_f, ↓ilw_t, ↓ilw_f, ↓eww_t, ↓eww_f, ↓ewl_t, ↓ewl_f, ↓ez_t, ↓ez_f, ↓il_t, ↓il_f, il_t, il_f, ez_t, ez_f, if_true, if_false, upS_h, upS_o, upS_i, Int.reduceAdd, Int.reduceSub, Int.reduceMul, Int.reduceNeg, wI_id]
  · have e := (h.2 (k + 1) (by omega) (by omega)).1
    simp (disch := omega) only [↓rdA_t, ↓wrA_t, ↓ixA_t, ↓wrF_d, ↓bd2_s, ↓bd1_s, ↓bnd_d, ↓iww_t, ↓iww_f, ↓iwl_t, ↓iwl_f, ↓ilw_t, ↓ilw_f, ↓eww_t, ↓eww_f, ↓ewl_t, ↓ewl_f, ↓ez_t, ↓ez_f, ↓il_t, ↓il_f, il_t, il_f, ez_t, ez_f, if_true, if_false, upS_h, upS_o, upS_i, Int.reduceAdd, Int.reduceSub, Int.reduceMul, Int.reduceNeg, wI_id, e]
theorem m_row {σ α : St} {k w : Int} (h : mR σ α) (hw : wR α) (h0 : 0 ≤ k) (h1 : k < α 0 1) (h2 : 0 ≤ w) (h3 : w < 3) : ∀ {β : Type} (K : Int → Option β), rdA 24 σ 120 (3 * k + w) K = K (α (7 + w) k) := by
  intro β K
  have := hw.2.1
  rw [rdA_t (by omega), h.2 k w h0 h1 h2 h3]
theorem m_tL {σ α : St} {k : Int} (h : mR σ α) (hw : wR α) (h0 : 0 ≤ k) (h1 : k < α 0 1) : f_X10_targetLeft σ k = some (tL α k) := by
  have w2 := hw.2.1
  unfold f_X10_targetLeft tL
  by_cases c : k = 0
  · simp (disch := omega) only [↓rdA_t, ↓wrA_t, ↓ixA_t, ↓wrF_d, ↓bd2_s, ↓bd1_s, ↓bnd_d, ↓iww_t, ↓iww_f, ↓iwl_t, ↓iwl_f, ↓ilw_t, ↓ilw_f, ↓eww_t, ↓eww_f, ↓ewl_t, ↓ewl_f, ↓ez_t, ↓ez_f, ↓il_t, ↓il_f, il_t, il_f, ez_t, ez_f, if_true, if_false, upS_h, upS_o, upS_i, Int.reduceAdd, Int.reduceSub, Int.reduceMul, Int.reduceNeg, wI_id]
  · have e := h.2 (k - 1) 0 (by omega) (by omega) (by omega) (by omega)
    rw [Int.add_zero, Int.add_zero] at e
    simp (disch := omega) only [↓rdA_t, ↓wrA_t, ↓ixA_t, ↓wrF_d, ↓bd2_s, ↓bd1_s, ↓bnd_d, ↓iww_t, ↓iww_f, ↓iwl_t, ↓iwl_f, ↓ilw_t, ↓ilw_f, ↓eww_t, ↓eww_f, ↓ewl_t, ↓ewl_f, ↓ez_t, ↓ez_f, ↓il_t, ↓il_f, il_t, il_f, ez_t, ez_f, if_true, if_false, upS_h, upS_o, upS_i, Int.reduceAdd, Int.reduceSub, Int.reduceMul, Int.reduceNeg, wI_id, e]
theorem m_tR {σ α : St} {k : Int} (h : mR σ α) (hw : wR α) (h0 : 0 ≤ k) (h1 : k < α 0 1) : f_X10_targetRight σ k = some (tR α k) := by
  have w2 := hw.2.1
  have hs := h.1
  unfold f_X10_targetRight tR
  by_cases c : k = α 0 1 - 1
  · simp (disch := omega) only [↓rdA_t, ↓wrA_t, ↓ixA_t, ↓wrF_d, ↓bd2_s, ↓bd1_s, ↓bnd_d, ↓iww_t, ↓iww_f, ↓iwl_t, ↓iwl_f, ↓ilw_t, ↓ilw_f, ↓eww_t, ↓eww_f, ↓ewl_t, ↓ewl_f, ↓ez_t, ↓ez_f, ↓il_t, ↓il_f, il_t, il_f, ez_t, ez_f, if_true, if_false, upS_h, upS_o, upS_i, Int.reduceAdd, Int.reduceSub, Int.reduceMul, Int.reduceNeg, wI_id]
  · have e := h.2 (k + 1) 0 (by omega) (by omega) (by omega) (by omega)
    rw [Int.add_zero, Int.add_zero] at e
    simp (disch := omega) only [↓rdA_t, ↓wrA_t, ↓ixA_t, ↓wrF_d, ↓bd2_s, ↓bd1_s, ↓bnd_d, ↓iww_t, ↓iww_f, ↓iwl_t, ↓iwl_f, ↓ilw_t, ↓ilw_f, ↓eww_t, ↓eww_f, ↓ewl_t, ↓ewl_f, ↓ez_t, ↓ez_f, ↓il_t, ↓il_f, il_t, il_f, ez_t, ez_f, if_true, if_false, upS_h, upS_o, upS_i, Int.reduceAdd, Int.reduceSub, Int.reduceMul, Int.reduceNeg, wI_id, e]
def rTar (α : St) (k a : Int) : Int := if 0 ≤ k ∧ k < α 0 1 then (if 0 ≤ a ∧ a ≤ 2 then α (7 + a) k else if a = 3 then tL α k else if a = 4 then tR α k else -2) else -2
def aTar (α : St) (k a : Int) : St := if (0 ≤ k ∧ k < α 0 1) ∧ 0 ≤ a ∧ a ≤ 4 then α else aR α 3
theorem xc_target {σ α : St} {k a : Int} (h : IC σ α) (hw : WF α) (hk : inR k) (ha : inR a) : oC (f_X9_target σ k a) σ α (rTar α k a) (aTar α k a) := by
  have hk' := hk
  unfold inR at hk ha
  have hn := hw.2.1.2.1
  unfold f_X9_target rTar aTar
  rw [c_isT h.2.1 hw.2.1 hk']
  by_cases c : 0 ≤ k ∧ k < α 0 1
  · obtain ⟨e1, e2, e3⟩ := h.2.1.2 k c.1 c.2
    have e4 := c_tL h.2.1 hw.2.1 c.1 c.2
    have e5 := c_tR h.2.1 hw.2.1 c.1 c.2
    by_cases c2 : 0 ≤ a ∧ a ≤ 4
    · have : a = 0 ∨ a = 1 ∨ a = 2 ∨ a = 3 ∨ a = 4 := by omega
      rw [if_pos (show (0 ≤ k ∧ k < α 0 1) ∧ 0 ≤ a ∧ a ≤ 4 from ⟨c, c2⟩)]
      rcases this with rfl | rfl | rfl | rfl | rfl <;> (simp (disch := omega) only [↓rdA_t, ↓wrA_t, ↓ixA_t, ↓wrF_d, ↓bd2_s, ↓bd1_s, ↓bnd_d, ↓iww_t, ↓iww_f, ↓iwl_t, ↓iwl_f, ↓ilw_t, ↓ilw_f, ↓eww_t, ↓eww_f, ↓ewl_t, ↓ewl_f, ↓ez_t, ↓ez_f, ↓il_t, ↓il_f, il_t, il_f, ez_t, ez_f, if_true, if_false, upS_h, upS_o, upS_i, Int.reduceAdd, Int.reduceSub, Int.reduceMul, Int.reduceNeg, wI_id, if_pos c, e4, e5]; exact ⟨σ, by simp [e1, e2, e3], h, fun _ _ => rfl⟩)
    · rw [if_neg (show ¬ ((0 ≤ k ∧ k < α 0 1) ∧ 0 ≤ a ∧ a ≤ 4) from fun z => c2 z.2)]
      simp (disch := omega) only [↓rdA_t, ↓wrA_t, ↓ixA_t, ↓wrF_d, ↓bd2_s, ↓bd1_s, ↓bnd_d, ↓iww_t, ↓iww_f, ↓iwl_t, ↓iwl_f, ↓ilw_t, ↓ilw_f, ↓eww_t, ↓eww_f, ↓ewl_t, ↓ewl_f, ↓ez_t, ↓ez_f, ↓il_t, ↓il_f, il_t, il_f, ez_t, ez_f, if_true, if_false, upS_h, upS_o, upS_i, Int.reduceAdd, Int.reduceSub, Int.reduceMul, Int.reduceNeg, wI_id, if_pos c]
      rw [if_neg (by omega)]
      exact oC_id (oC_bad h)
  · rw [if_neg (show ¬ ((0 ≤ k ∧ k < α 0 1) ∧ 0 ≤ a ∧ a ≤ 4) from fun z => c z.1)]
    simp (disch := omega) only [↓rdA_t, ↓wrA_t, ↓ixA_t, ↓wrF_d, ↓bd2_s, ↓bd1_s, ↓bnd_d, ↓iww_t, ↓iww_f, ↓iwl_t, ↓iwl_f, ↓ilw_t, ↓ilw_f, ↓eww_t, ↓eww_f, ↓ewl_t, ↓ewl_f, ↓ez_t, ↓ez_f, ↓il_t, ↓il_f, il_t, il_f, ez_t, ez_f, if_true, if_false, upS_h, upS_o, upS_i, Int.reduceAdd, Int.reduceSub, Int.reduceMul, Int.reduceNeg, wI_id, if_neg c]
    exact oC_id (oC_bad h)
theorem xm_target {σ α : St} {k a : Int} (h : IM σ α) (hw : WF α) (hk : inR k) (ha : inR a) : oM (f_X10_target σ k a) σ α (rTar α k a) (aTar α k a) := by
  have hk' := hk
  unfold inR at hk ha
  have hn := hw.2.1.2.1
  unfold f_X10_target rTar aTar
  rw [m_isT h.2.1 hw.2.1 hk']
  by_cases c : 0 ≤ k ∧ k < α 0 1
  · have e4 := m_tL h.2.1 hw.2.1 c.1 c.2
    have e5 := m_tR h.2.1 hw.2.1 c.1 c.2
    by_cases c2 : 0 ≤ a ∧ a ≤ 4
    · rw [if_pos (show (0 ≤ k ∧ k < α 0 1) ∧ 0 ≤ a ∧ a ≤ 4 from ⟨c, c2⟩), if_pos c, if_pos c]
      by_cases c3 : a ≤ 2
      · have e := h.2.1.2 k a c.1 c.2 c2.1 (by omega)
        rw [if_pos (show 0 ≤ a ∧ a ≤ 2 by omega)]
        simp (disch := omega) only [↓rdA_t, ↓wrA_t, ↓ixA_t, ↓wrF_d, ↓bd2_s, ↓bd1_s, ↓bnd_d, ↓iww_t, ↓iww_f, ↓iwl_t, ↓iwl_f, ↓ilw_t, ↓ilw_f, ↓eww_t, ↓eww_f, ↓ewl_t, ↓ewl_f, ↓ez_t, ↓ez_f, ↓il_t, ↓il_f, il_t, il_f, ez_t, ez_f, if_true, if_false, upS_h, upS_o, upS_i, Int.reduceAdd, Int.reduceSub, Int.reduceMul, Int.reduceNeg, wI_id, in_t, e]
        exact oM_ret _ h
      · rw [if_neg (show ¬ (0 ≤ a ∧ a ≤ 2) by omega)]
        by_cases c4 : a = 3
        · simp (disch := omega) only [↓rdA_t, ↓wrA_t, ↓ixA_t, ↓wrF_d, ↓bd2_s, ↓bd1_s, ↓bnd_d, ↓iww_t, ↓iww_f, ↓iwl_t, ↓iwl_f, ↓ilw_t, ↓ilw_f, ↓eww_t, ↓eww_f, ↓ewl_t, ↓ewl_f, ↓ez_t, ↓ez_f, ↓il_t, ↓il_f, il_t, il_f, ez_t, ez_f, if_true, if_false, upS_h, upS_o, upS_i, Int.reduceAdd, Int.reduceSub, Int.reduceMul, Int.reduceNeg, wI_id, in_t, e4]
          exact oM_ret _ h
        · simp (disch := omega) only [↓rdA_t, ↓wrA_t, ↓ixA_t, ↓wrF_d, ↓bd2_s, ↓bd1_s, ↓bnd_d, ↓iww_t, ↓iww_f, ↓iwl_t, ↓iwl_f, ↓ilw_t, ↓ilw_f, ↓eww_t, ↓eww_f, ↓ewl_t, ↓ewl_f, ↓ez_t, ↓ez_f, ↓il_t, ↓il_f, il_t, il_f, ez_t, ez_f, if_true, if_false, upS_h, upS_o, upS_i, Int.reduceAdd, Int.reduceSub, Int.reduceMul, Int.reduceNeg, wI_id, in_t, e5]
          exact oM_ret _ h
    · rw [if_neg (show ¬ ((0 ≤ k ∧ k < α 0 1) ∧ 0 ≤ a ∧ a ≤ 4) from fun z => c2 z.2), if_pos c, if_pos c, if_neg (show ¬ (0 ≤ a ∧ a ≤ 2) by omega)]
      simp (disch := omega) only [↓rdA_t, ↓wrA_t, ↓ixA_t, ↓wrF_d, ↓bd2_s, ↓bd1_s, ↓bnd_d, ↓iww_t, ↓iww_f, ↓iwl_t, ↓iwl_f, ↓ilw_t, ↓ilw_f, ↓eww_t, ↓eww_f, ↓ewl_t, ↓ewl_f, ↓ez_t, ↓ez_f, ↓il_t, ↓il_f, il_t, il_f, ez_t, ez_f, if_true, if_false, upS_h, upS_o, upS_i, Int.reduceAdd, Int.reduceSub, Int.reduceMul, Int.reduceNeg, wI_id, in_f]
      exact oM_id (oM_bad (-2) h)
  · rw [if_neg (show ¬ ((0 ≤ k ∧ k < α 0 1) ∧ 0 ≤ a ∧ a ≤ 4) from fun z => c z.1), if_neg c, if_neg c]
    simp (disch := omega) only [↓rdA_t, ↓wrA_t, ↓ixA_t, ↓wrF_d, ↓bd2_s, ↓bd1_s, ↓bnd_d, ↓iww_t, ↓iww_f, ↓iwl_t, ↓iwl_f, ↓ilw_t, ↓ilw_f, ↓eww_t, ↓eww_f, ↓ewl_t, ↓ewl_f, ↓ez_t, ↓ez_f, ↓il_t, ↓il_f, il_t, il_f, ez_t, ez_f, if_true, if_false, upS_h, upS_o, upS_i, Int.reduceAdd, Int.reduceSub, Int.reduceMul, Int.reduceNeg, wI_id]
    exact oM_id (oM_bad (-2) h)
theorem wf_target {α : St} {k a : Int} (hw : WF α) : WF (aTar α k a) := by
  unfold aTar
  by_cases c : (0 ≤ k ∧ k < α 0 1) ∧ 0 ≤ a ∧ a ≤ 4
  · rw [if_pos c]; exact hw
  · rw [if_neg c]; exact WF_aR 3 (by omega) hw
/-! ===== the walk down the tree ===== -/
def yes (α : St) (i l r p d : Int) : Int := if α 12 i = 1 then (if l = α 13 i then 1 else 0) else if α 12 i = 2 then (if r = α 13 i then 1 else 0) else if α 12 i = 3 then (if α 13 i < p then 1 else 0) else (if α 13 i < d then 1 else 0)
theorem yes_r {α : St} {i l r p d : Int} : yes α i l r p d = 0 ∨ yes α i l r p d = 1 := by
  unfold yes
  by_cases c1 : α 12 i = 1
  · rw [if_pos c1]; by_cases c : l = α 13 i
    · rw [if_pos c]; omega
    · rw [if_neg c]; omega
  · rw [if_neg c1]
    by_cases c2 : α 12 i = 2
    · rw [if_pos c2]; by_cases c : r = α 13 i
      · rw [if_pos c]; omega
      · rw [if_neg c]; omega
    · rw [if_neg c2]
      by_cases c3 : α 12 i = 3
      · rw [if_pos c3]; by_cases c : α 13 i < p
        · rw [if_pos c]; omega
        · rw [if_neg c]; omega
      · rw [if_neg c3]; by_cases c : α 13 i < d
        · rw [if_pos c]; omega
        · rw [if_neg c]; omega
def kid (α : St) (i l r p d : Int) : Int := if yes α i l r p d = 0 then α 15 i else α 14 i
/-- the node after at most n steps from i -/
def wk (α : St) (l r p d : Int) : Nat → Int → Int
  | 0, i => i
  | n + 1, i => if α 12 i = 0 then i else wk α l r p d n (kid α i l r p d)
theorem kid_p {α : St} {i l r p d : Int} (hw : wT α) (h0 : 0 ≤ i) (h1 : i < α 0 7) (h2 : ¬ α 12 i = 0) : i < kid α i l r p d ∧ kid α i l r p d < α 0 7 ∧ α 16 (kid α i l r p d) = i ∧ α 17 (kid α i l r p d) = α 17 i + 1 := by
  have k := (hw.2.2.2.2.2 i h0 h1).2.2.2 h2
  unfold kid
  by_cases c : yes α i l r p d = 0
  · rw [if_pos c]; exact ⟨k.2.2.1.1, k.2.2.1.2, k.2.2.2.2.2.1, k.2.2.2.2.2.2.2⟩
  · rw [if_neg c]; exact ⟨k.2.1.1, k.2.1.2, k.2.2.2.2.1, k.2.2.2.2.2.2.1⟩
theorem deep_leaf {α : St} {i : Int} (hw : wT α) (h0 : 0 ≤ i) (h1 : i < α 0 7) (h2 : α 17 i = 7) : α 12 i = 0 := by
  by_cases c : α 12 i = 0
  · exact c
  · have k := (hw.2.2.2.2.2 i h0 h1).2.2.2 c
    have k2 := (hw.2.2.2.2.2 (α 14 i) (by omega) k.2.1.2).2.1
    omega
theorem wk_p {α : St} {l r p d : Int} (hw : wT α) : ∀ (n : Nat) (i : Int), 0 ≤ i → i < α 0 7 → α 17 i + n = 7 → 0 ≤ wk α l r p d n i ∧ wk α l r p d n i < α 0 7 ∧ α 12 (wk α l r p d n i) = 0 := by
  intro n
  induction n with
  | zero => intro i h0 h1 h2; rw [wk]; exact ⟨h0, h1, deep_leaf hw h0 h1 (by omega)⟩
  | succ n ih =>
    intro i h0 h1 h2
    rw [wk]
    by_cases c : α 12 i = 0
    · rw [if_pos c]; exact ⟨h0, h1, c⟩
    · rw [if_neg c]
      have k := kid_p (l := l) (r := r) (p := p) (d := d) hw h0 h1 c
      exact ih _ (by omega) k.2.1 (by omega)
theorem ltC_42 {q : Int} (h : 0 ≤ q ∧ q ≤ 4) : (ltC q = 42 ∧ q = 0) ∨ (ltC q = 76 ∧ q = 1) ∨ (ltC q = 82 ∧ q = 2) ∨ (ltC q = 80 ∧ q = 3) ∨ (ltC q = 68 ∧ q = 4) := by
  have : q = 0 ∨ q = 1 ∨ q = 2 ∨ q = 3 ∨ q = 4 := by omega
  rcases this with rfl | rfl | rfl | rfl | rfl <;> decide
theorem c_yes {σ α : St} {i l r p d : Int} (h : cT σ α) (hw : wT α) (h0 : 0 ≤ i) (h1 : i < α 0 7) (h2 : ¬ α 12 i = 0) (hl : inR l) (hr : inR r) (hp : inR p) (hd : inR d) : f_X7_saysYes σ 14 i l r p d = some (yes α i l r p d) := by
  unfold inR at hl hr hp hd
  have w1 := hw.1
  obtain ⟨k1, k2, k3, k4⟩ := hw.2.2.2.2.2 i h0 h1
  obtain ⟨a1, a2, a3, a4⟩ := h.2.2.2 i h0 h1
  have k5 := (k4 h2).1
  have a5 := (a3 h2).1
  unfold f_X7_saysYes yes
  rcases ltC_42 k1 with ⟨e, e'⟩ | ⟨e, e'⟩ | ⟨e, e'⟩ | ⟨e, e'⟩ | ⟨e, e'⟩
  · omega
  all_goals (simp (disch := omega) only [↓rdA_t, ↓wrA_t, ↓ixA_t, ↓wrF_d, ↓bd2_s, ↓bd1_s, ↓bnd_d, ↓iww_t, ↓iww_f, ↓iwl_t, ↓iwl_f, ↓ilw_t, ↓ilw_f, ↓eww_t, ↓eww_f, ↓ewl_t, ↓ewl_f, ↓ez_t, ↓ez_f, ↓il_t, ↓il_f, il_t, il_f, ez_t, ez_f, if_true, if_false, upS_h, upS_o, upS_i, Int.reduceAdd, Int.reduceSub, Int.reduceMul, Int.reduceNeg, wI_id, a1, a5, e])
theorem m_yes {σ α : St} {i l r p d : Int} (h : mT σ α) (hw : wT α) (h0 : 0 ≤ i) (h1 : i < α 0 7) (h2 : ¬ α 12 i = 0) (hl : inR l) (hr : inR r) (hp : inR p) (hd : inR d) : f_X10_answers σ i l r p d = some (yes α i l r p d) := by
  unfold inR at hl hr hp hd
  have w1 := hw.1
  obtain ⟨k1, k2, k3, k4⟩ := hw.2.2.2.2.2 i h0 h1
  obtain ⟨a1, a2, a3⟩ := h.2.2 i h0 h1
  have k5 := (k4 h2).1
  unfold f_X10_answers yes
  rcases ltC_42 k1 with ⟨e, e'⟩ | ⟨e, e'⟩ | ⟨e, e'⟩ | ⟨e, e'⟩ | ⟨e, e'⟩
  · omega
  all_goals (simp (disch := omega) only [↓rdA_t, ↓wrA_t, ↓ixA_t, ↓wrF_d, ↓bd2_s, ↓bd1_s, ↓bnd_d, ↓iww_t, ↓iww_f, ↓iwl_t, ↓iwl_f, ↓ilw_t, ↓ilw_f, ↓eww_t, ↓eww_f, ↓ewl_t, ↓ewl_f, ↓ez_t, ↓ez_f, ↓il_t, ↓il_f, il_t, il_f, ez_t, ez_f, if_true, if_false, upS_h, upS_o, upS_i, Int.reduceAdd, Int.reduceSub, Int.reduceMul, Int.reduceNeg, wI_id, a1, a2, e'])
theorem c_leafFor_g {σ α : St} {l r p d : Int} (kx : Int → Option Int) (h : cT σ α) (hw : wT α) (hl : inR l) (hr : inR r) (hp : inR p) (hd : inR d) : ∀ (m : Nat) (i x : Int) (n : Nat), 0 ≤ i → i < α 0 7 → α 17 i = x → x + m = 7 → m < n → lp_X7_leafFor_6 σ 14 l r p d kx n i x = kx (wk α l r p d m i) := by
  have w1 := hw.1
  have hs := h.1
  intro m
  induction m with
  | zero =>
    intro i x n h0 h1 h2 h3 hn
    obtain ⟨n, rfl⟩ : ∃ k, n = k + 1 := ⟨n - 1, by omega⟩
    rw [lp_X7_leafFor_6, wk]
    simp (disch := omega) only [↓rdA_t, ↓wrA_t, ↓ixA_t, ↓wrF_d, ↓bd2_s, ↓bd1_s, ↓bnd_d, ↓iww_t, ↓iww_f, ↓iwl_t, ↓iwl_f, ↓ilw_t, ↓ilw_f, ↓eww_t, ↓eww_f, ↓ewl_t, ↓ewl_f, ↓ez_t, ↓ez_f, ↓il_t, ↓il_f, il_t, il_f, ez_t, ez_f, if_true, if_false, upS_h, upS_o, upS_i, Int.reduceAdd, Int.reduceSub, Int.reduceMul, Int.reduceNeg, wI_id]
  | succ m ih =>
    intro i x n h0 h1 h2 h3 hn
    obtain ⟨n, rfl⟩ : ∃ k, n = k + 1 := ⟨n - 1, by omega⟩
    obtain ⟨k1, k2, k3, k4⟩ := hw.2.2.2.2.2 i h0 h1
    obtain ⟨a1, a2, a3, a4⟩ := h.2.2.2 i h0 h1
    rw [lp_X7_leafFor_6, wk]
    by_cases c : α 12 i = 0
    · have e : ltC (α 12 i) = 42 := by rw [c]; rfl
      simp (disch := omega) only [↓rdA_t, ↓wrA_t, ↓ixA_t, ↓wrF_d, ↓bd2_s, ↓bd1_s, ↓bnd_d, ↓iww_t, ↓iww_f, ↓iwl_t, ↓iwl_f, ↓ilw_t, ↓ilw_f, ↓eww_t, ↓eww_f, ↓ewl_t, ↓ewl_f, ↓ez_t, ↓ez_f, ↓il_t, ↓il_f, il_t, il_f, ez_t, ez_f, if_true, if_false, upS_h, upS_o, upS_i, Int.reduceAdd, Int.reduceSub, Int.reduceMul, Int.reduceNeg, wI_id, a1, e]
    · have e : ¬ ltC (α 12 i) = 42 := by
        intro z
        rcases ltC_42 k1 with ⟨_, e'⟩ | ⟨e, e'⟩ | ⟨e, e'⟩ | ⟨e, e'⟩ | ⟨e, e'⟩ <;> omega
      have e2 : -2147483648 ≤ ltC (α 12 i) ∧ ltC (α 12 i) ≤ 2147483647 := by
        rcases ltC_42 k1 with ⟨e, e'⟩ | ⟨e, e'⟩ | ⟨e, e'⟩ | ⟨e, e'⟩ | ⟨e, e'⟩ <;> omega
      have k := kid_p (l := l) (r := r) (p := p) (d := d) hw h0 h1 c
      have g := ih (kid α i l r p d) (x + 1) n (by omega) k.2.1 (by omega) (by omega) (by omega)
      rw [if_neg c, ← g]
      unfold jn_X7_leafFor_56 f_X7_isNode
      unfold kid at k ⊢
      by_cases c2 : yes α i l r p d = 0
      · rw [if_pos c2] at k ⊢
        simp (disch := omega) only [↓rdA_t, ↓wrA_t, ↓ixA_t, ↓wrF_d, ↓bd2_s, ↓bd1_s, ↓bnd_d, ↓iww_t, ↓iww_f, ↓iwl_t, ↓iwl_f, ↓ilw_t, ↓ilw_f, ↓eww_t, ↓eww_f, ↓ewl_t, ↓ewl_f, ↓ez_t, ↓ez_f, ↓il_t, ↓il_f, il_t, il_f, ez_t, ez_f, if_true, if_false, upS_h, upS_o, upS_i, Int.reduceAdd, Int.reduceSub, Int.reduceMul, Int.reduceNeg, wI_id, a1, c_yes h hw h0 h1 c hl hr hp hd, (a3 c).2.2]
      · rw [if_neg c2] at k ⊢
        simp (disch := omega) only [↓rdA_t, ↓wrA_t, ↓ixA_t, ↓wrF_d, ↓bd2_s, ↓bd1_s, ↓bnd_d, ↓iww_t, ↓iww_f, ↓iwl_t, ↓iwl_f, ↓ilw_t, ↓ilw_f, ↓eww_t, ↓eww_f, ↓ewl_t, ↓ewl_f, ↓ez_t, ↓ez_f, ↓il_t, ↓il_f, il_t, il_f, ez_t, ez_f, if_true, if_false, upS_h, upS_o, upS_i, Int.reduceAdd, Int.reduceSub, Int.reduceMul, Int.reduceNeg, wI_id, a1, c_yes h hw h0 h1 c hl hr hp hd, (a3 c).2.1]
theorem c_leafFor {σ α : St} {l r p d : Int} (h : cT σ α) (hw : wT α) (hl : inR l) (hr : inR r) (hp : inR p) (hd : inR d) : f_X7_leafFor σ 14 l r p d = some (wk α l r p d 7 0) := by
  unfold f_X7_leafFor
  exact c_leafFor_g _ h hw hl hr hp hd 7 0 0 1000 (by omega) (by have := hw.1; omega) hw.2.2.2.2.1 (by omega) (by omega)
def lfU (α : St) (u : Int) : Int := wk α (α 2 u) (α 3 u) (α 4 u) (α 5 u) 7 0
def lfT (α : St) (k : Int) : Int := wk α (tL α k) (tR α k) (α 8 k) (α 9 k) 7 0
theorem lfU_p {α : St} {u : Int} (hw : wT α) : 0 ≤ lfU α u ∧ lfU α u < α 0 7 ∧ α 12 (lfU α u) = 0 := wk_p hw 7 0 (by omega) (by have := hw.1; omega) (by have := hw.2.2.2.2.1; omega)
theorem lfT_p {α : St} {k : Int} (hw : wT α) : 0 ≤ lfT α k ∧ lfT α k < α 0 7 ∧ α 12 (lfT α k) = 0 := wk_p hw 7 0 (by omega) (by have := hw.1; omega) (by have := hw.2.2.2.2.1; omega)
theorem c_lfU {σ α : St} {u : Int} (h : IC σ α) (hw : WF α) (h0 : 0 ≤ u) (h1 : u < α 0 0) : f_X2_leafOfUnit σ u = some (lfU α u) := by
  have w := hw.1.2.1
  obtain ⟨k1, k2, k3, k4, k5, k6⟩ := hw.1.2.2 u h0 h1
  obtain ⟨e1, e2, e3, e4, e5, e6, e7⟩ := h.1.2.1 u h0 h1
  have e := c_leafFor (l := α 2 u) (r := α 3 u) (p := α 4 u) (d := α 5 u) h.2.2.2.2 hw.2.2.2.2 (by unfold inR; omega) (by unfold inR; omega) (by unfold inR; omega) (by unfold inR; omega)
  unfold f_X2_leafOfUnit lfU
  simp (disch := omega) only [↓rdA_t, ↓wrA_t, ↓ixA_t, ↓wrF_d, ↓bd2_s, ↓bd1_s, ↓bnd_d, ↓iww_t, ↓iww_f, ↓iwl_t, ↓iwl_f, ↓ilw_t, ↓ilw_f, ↓eww_t, ↓eww_f, ↓ewl_t, ↓ewl_f, ↓ez_t, ↓ez_f, ↓il_t, ↓il_f, il_t, il_f, ez_t, ez_f, if_true, if_false, upS_h, upS_o, upS_i, Int.reduceAdd, Int.reduceSub, Int.reduceMul, Int.reduceNeg, wI_id, e2, e3, e4, e5, e]
theorem c_lfT {σ α : St} {k : Int} (h : IC σ α) (hw : WF α) (h0 : 0 ≤ k) (h1 : k < α 0 1) : f_X2_leafOfTarget σ k = some (lfT α k) := by
  have w := hw.2.1.2.1
  obtain ⟨k1, k2, k3⟩ := hw.2.1.2.2 k h0 h1
  obtain ⟨e1, e2, e3⟩ := h.2.1.2 k h0 h1
  have r1 := tL_r hw.2.1 h0 h1
  have r2 := tR_r hw.2.1 h0 h1
  have e := c_leafFor (l := tL α k) (r := tR α k) (p := α 8 k) (d := α 9 k) h.2.2.2.2 hw.2.2.2.2 (by unfold inR; omega) (by unfold inR; omega) (by unfold inR; omega) (by unfold inR; omega)
  unfold f_X2_leafOfTarget lfT
  simp (disch := omega) only [↓rdA_t, ↓wrA_t, ↓ixA_t, ↓wrF_d, ↓bd2_s, ↓bd1_s, ↓bnd_d, ↓iww_t, ↓iww_f, ↓iwl_t, ↓iwl_f, ↓ilw_t, ↓ilw_f, ↓eww_t, ↓eww_f, ↓ewl_t, ↓ewl_f, ↓ez_t, ↓ez_f, ↓il_t, ↓il_f, il_t, il_f, ez_t, ez_f, if_true, if_false, upS_h, upS_o, upS_i, Int.reduceAdd, Int.reduceSub, Int.reduceMul, Int.reduceNeg, wI_id, c_tL h.2.1 hw.2.1 h0 h1, c_tR h.2.1 hw.2.1 h0 h1, e2, e3, e]
theorem c_num {σ α : St} {i : Int} (h : cT σ α) (hw : wT α) (h0 : 0 ≤ i) (h1 : i < α 0 7) (h2 : α 12 i = 0) : f_X7_numberOf σ 14 i = some (α 13 i) := by
  have w := hw.1
  have hs := h.1
  obtain ⟨a1, a2, a3, a4⟩ := h.2.2.2 i h0 h1
  have a5 := a4 h2
  unfold f_X7_numberOf f_X7_isNode
  simp (disch := omega) only [↓rdA_t, ↓wrA_t, ↓ixA_t, ↓wrF_d, ↓bd2_s, ↓bd1_s, ↓bnd_d, ↓iww_t, ↓iww_f, ↓iwl_t, ↓iwl_f, ↓ilw_t, ↓ilw_f, ↓eww_t, ↓eww_f, ↓ewl_t, ↓ewl_f, ↓ez_t, ↓ez_f, ↓il_t, ↓il_f, il_t, il_f, ez_t, ez_f, if_true, if_false, upS_h, upS_o, upS_i, Int.reduceAdd, Int.reduceSub, Int.reduceMul, Int.reduceNeg, wI_id, a5]
theorem m_uAns {σ α : St} {i u : Int} (h : JM σ α) (hw : WF α) (h0 : 0 ≤ i) (h1 : i < α 0 7) (h2 : ¬ α 12 i = 0) (h3 : 0 ≤ u) (h4 : u < α 0 0) : f_X10_unitAnswers σ i u = some (yes α i (α 2 u) (α 3 u) (α 4 u) (α 5 u)) := by
  obtain ⟨k1, k2, k3, k4, k5, k6⟩ := hw.1.2.2 u h3 h4
  have e1 := m_at h.1 hw.1 (w := 1) h3 h4 (by omega) (by omega)
  have e2 := m_at h.1 hw.1 (w := 2) h3 h4 (by omega) (by omega)
  have e3 := m_at h.1 hw.1 (w := 3) h3 h4 (by omega) (by omega)
  have e4 := m_at h.1 hw.1 (w := 4) h3 h4 (by omega) (by omega)
  simp only [Int.reduceAdd] at e1 e2 e3 e4
  have e := m_yes (l := α 2 u) (r := α 3 u) (p := α 4 u) (d := α 5 u) h.2.2.2.2 hw.2.2.2.2 h0 h1 h2 (by unfold inR; omega) (by unfold inR; omega) (by unfold inR; omega) (by unfold inR; omega)
  unfold f_X10_unitAnswers
  simp (disch := omega) only [↓rdA_t, ↓wrA_t, ↓ixA_t, ↓wrF_d, ↓bd2_s, ↓bd1_s, ↓bnd_d, ↓iww_t, ↓iww_f, ↓iwl_t, ↓iwl_f, ↓ilw_t, ↓ilw_f, ↓eww_t, ↓eww_f, ↓ewl_t, ↓ewl_f, ↓ez_t, ↓ez_f, ↓il_t, ↓il_f, il_t, il_f, ez_t, ez_f, if_true, if_false, upS_h, upS_o, upS_i, Int.reduceAdd, Int.reduceSub, Int.reduceMul, Int.reduceNeg, wI_id, e1, e2, e3, e4, e]
theorem m_tAns {σ α : St} {i k : Int} (h : JM σ α) (hw : WF α) (h0 : 0 ≤ i) (h1 : i < α 0 7) (h2 : ¬ α 12 i = 0) (h3 : 0 ≤ k) (h4 : k < α 0 1) : f_X10_targetAnswers σ i k = some (yes α i (tL α k) (tR α k) (α 8 k) (α 9 k)) := by
  have w := hw.2.1.2.1
  obtain ⟨k1, k2, k3⟩ := hw.2.1.2.2 k h3 h4
  have e1 := h.2.1.2 k 1 h3 h4 (by omega) (by omega)
  have e2 := h.2.1.2 k 2 h3 h4 (by omega) (by omega)
  simp only [Int.reduceAdd] at e1 e2
  have r1 := tL_r hw.2.1 h3 h4
  have r2 := tR_r hw.2.1 h3 h4
  have e := m_yes (l := tL α k) (r := tR α k) (p := α 8 k) (d := α 9 k) h.2.2.2.2 hw.2.2.2.2 h0 h1 h2 (by unfold inR; omega) (by unfold inR; omega) (by unfold inR; omega) (by unfold inR; omega)
  unfold f_X10_targetAnswers
  simp (disch := omega) only [↓rdA_t, ↓wrA_t, ↓ixA_t, ↓wrF_d, ↓bd2_s, ↓bd1_s, ↓bnd_d, ↓iww_t, ↓iww_f, ↓iwl_t, ↓iwl_f, ↓ilw_t, ↓ilw_f, ↓eww_t, ↓eww_f, ↓ewl_t, ↓ewl_f, ↓ez_t, ↓ez_f, ↓il_t, ↓il_f, il_t, il_f, ez_t, ez_f, if_true, if_false, upS_h, upS_o, upS_i, Int.reduceAdd, Int.reduceSub, Int.reduceMul, Int.reduceNeg, wI_id, m_tL h.2.1 hw.2.1 h3 h4, m_tR h.2.1 hw.2.1 h3 h4, e1, e2, e]
theorem m_leaf_gU {σ α : St} {u : Int} (kx : Int → Option Int) (h : JM σ α) (hw : WF α) (h3 : 0 ≤ u) (h4 : u < α 0 0) : ∀ (m : Nat) (i : Int) (n : Nat), 0 ≤ i → i < α 0 7 → α 17 i + m = 7 → m < n → lp_X10_leafOf_2 σ 1 u kx n i = kx (wk α (α 2 u) (α 3 u) (α 4 u) (α 5 u) m i) := by
  have w1 := hw.2.2.2.2.1
  intro m
  induction m with
  | zero =>
    intro i n h0 h1 h2 hn
    obtain ⟨n, rfl⟩ : ∃ k, n = k + 1 := ⟨n - 1, by omega⟩
    obtain ⟨a1, a2, a3⟩ := h.2.2.2.2.2.2 i h0 h1
    have c := deep_leaf hw.2.2.2.2 h0 h1 (by omega)
    rw [lp_X10_leafOf_2, wk]
    simp (disch := omega) only [↓rdA_t, ↓wrA_t, ↓ixA_t, ↓wrF_d, ↓bd2_s, ↓bd1_s, ↓bnd_d, ↓iww_t, ↓iww_f, ↓iwl_t, ↓iwl_f, ↓ilw_t, ↓ilw_f, ↓eww_t, ↓eww_f, ↓ewl_t, ↓ewl_f, ↓ez_t, ↓ez_f, ↓il_t, ↓il_f, il_t, il_f, ez_t, ez_f, if_true, if_false, upS_h, upS_o, upS_i, Int.reduceAdd, Int.reduceSub, Int.reduceMul, Int.reduceNeg, wI_id, a1, c]
  | succ m ih =>
    intro i n h0 h1 h2 hn
    obtain ⟨n, rfl⟩ : ∃ k, n = k + 1 := ⟨n - 1, by omega⟩
    obtain ⟨a1, a2, a3⟩ := h.2.2.2.2.2.2 i h0 h1
    have k1 := (hw.2.2.2.2.2.2.2.2.2 i h0 h1).1
    rw [lp_X10_leafOf_2, wk]
    by_cases c : α 12 i = 0
    · simp (disch := omega) only [↓rdA_t, ↓wrA_t, ↓ixA_t, ↓wrF_d, ↓bd2_s, ↓bd1_s, ↓bnd_d, ↓iww_t, ↓iww_f, ↓iwl_t, ↓iwl_f, ↓ilw_t, ↓ilw_f, ↓eww_t, ↓eww_f, ↓ewl_t, ↓ewl_f, ↓ez_t, ↓ez_f, ↓il_t, ↓il_f, il_t, il_f, ez_t, ez_f, if_true, if_false, upS_h, upS_o, upS_i, Int.reduceAdd, Int.reduceSub, Int.reduceMul, Int.reduceNeg, wI_id, a1, c]
    · have k := kid_p (l := α 2 u) (r := α 3 u) (p := α 4 u) (d := α 5 u) hw.2.2.2.2 h0 h1 c
      have g := ih (kid α i (α 2 u) (α 3 u) (α 4 u) (α 5 u)) n (by omega) k.2.1 (by omega) (by omega)
      rw [if_neg c, ← g]
      unfold jn_X10_leafOf_30
      unfold kid at k ⊢
      by_cases c2 : yes α i (α 2 u) (α 3 u) (α 4 u) (α 5 u) = 0
      · rw [if_pos c2] at k ⊢
        simp (disch := omega) only [↓rdA_t, ↓wrA_t, ↓ixA_t, ↓wrF_d, ↓bd2_s, ↓bd1_s, ↓bnd_d, ↓iww_t, ↓iww_f, ↓iwl_t, ↓iwl_f, ↓ilw_t, ↓ilw_f, ↓eww_t, ↓eww_f, ↓ewl_t, ↓ewl_f, ↓ez_t, ↓ez_f, ↓il_t, ↓il_f, il_t, il_f, ez_t, ez_f, if_true, if_false, upS_h, upS_o, upS_i, Int.reduceAdd, Int.reduceSub, Int.reduceMul, Int.reduceNeg, wI_id, a1, m_uAns h hw h0 h1 c h3 h4, (a3 c).2]
      · rw [if_neg c2] at k ⊢
        have c3 : yes α i (α 2 u) (α 3 u) (α 4 u) (α 5 u) = 1 := by have := yes_r (α := α) (i := i) (l := α 2 u) (r := α 3 u) (p := α 4 u) (d := α 5 u); omega
        simp (disch := omega) only [↓rdA_t, ↓wrA_t, ↓ixA_t, ↓wrF_d, ↓bd2_s, ↓bd1_s, ↓bnd_d, ↓iww_t, ↓iww_f, ↓iwl_t, ↓iwl_f, ↓ilw_t, ↓ilw_f, ↓eww_t, ↓eww_f, ↓ewl_t, ↓ewl_f, ↓ez_t, ↓ez_f, ↓il_t, ↓il_f, il_t, il_f, ez_t, ez_f, if_true, if_false, upS_h, upS_o, upS_i, Int.reduceAdd, Int.reduceSub, Int.reduceMul, Int.reduceNeg, wI_id, a1, m_uAns h hw h0 h1 c h3 h4, c3, (a3 c).1]
theorem m_leaf_gT {σ α : St} {q : Int} (kx : Int → Option Int) (h : JM σ α) (hw : WF α) (h3 : 0 ≤ q) (h4 : q < α 0 1) : ∀ (m : Nat) (i : Int) (n : Nat), 0 ≤ i → i < α 0 7 → α 17 i + m = 7 → m < n → lp_X10_leafOf_2 σ 0 q kx n i = kx (wk α (tL α q) (tR α q) (α 8 q) (α 9 q) m i) := by
  have w1 := hw.2.2.2.2.1
  intro m
  induction m with
  | zero =>
    intro i n h0 h1 h2 hn
    obtain ⟨n, rfl⟩ : ∃ k, n = k + 1 := ⟨n - 1, by omega⟩
    obtain ⟨a1, a2, a3⟩ := h.2.2.2.2.2.2 i h0 h1
    have c := deep_leaf hw.2.2.2.2 h0 h1 (by omega)
    rw [lp_X10_leafOf_2, wk]
    simp (disch := omega) only [↓rdA_t, ↓wrA_t, ↓ixA_t, ↓wrF_d, ↓bd2_s, ↓bd1_s, ↓bnd_d, ↓iww_t, ↓iww_f, ↓iwl_t, ↓iwl_f, ↓ilw_t, ↓ilw_f, ↓eww_t, ↓eww_f, ↓ewl_t, ↓ewl_f, ↓ez_t, ↓ez_f, ↓il_t, ↓il_f, il_t, il_f, ez_t, ez_f, if_true, if_false, upS_h, upS_o, upS_i, Int.reduceAdd, Int.reduceSub, Int.reduceMul, Int.reduceNeg, wI_id, a1, c]
  | succ m ih =>
    intro i n h0 h1 h2 hn
    obtain ⟨n, rfl⟩ : ∃ k, n = k + 1 := ⟨n - 1, by omega⟩
    obtain ⟨a1, a2, a3⟩ := h.2.2.2.2.2.2 i h0 h1
    have k1 := (hw.2.2.2.2.2.2.2.2.2 i h0 h1).1
    rw [lp_X10_leafOf_2, wk]
    by_cases c : α 12 i = 0
    · simp (disch := omega) only [↓rdA_t, ↓wrA_t, ↓ixA_t, ↓wrF_d, ↓bd2_s, ↓bd1_s, ↓bnd_d, ↓iww_t, ↓iww_f, ↓iwl_t, ↓iwl_f, ↓ilw_t, ↓ilw_f, ↓eww_t, ↓eww_f, ↓ewl_t, ↓ewl_f, ↓ez_t, ↓ez_f, ↓il_t, ↓il_f, il_t, il_f, ez_t, ez_f, if_true, if_false, upS_h, upS_o, upS_i, Int.reduceAdd, Int.reduceSub, Int.reduceMul, Int.reduceNeg, wI_id, a1, c]
    · have k := kid_p (l := tL α q) (r := tR α q) (p := α 8 q) (d := α 9 q) hw.2.2.2.2 h0 h1 c
      have g := ih (kid α i (tL α q) (tR α q) (α 8 q) (α 9 q)) n (by omega) k.2.1 (by omega) (by omega)
      rw [if_neg c, ← g]
      unfold jn_X10_leafOf_30
      unfold kid at k ⊢
      by_cases c2 : yes α i (tL α q) (tR α q) (α 8 q) (α 9 q) = 0
      · rw [if_pos c2] at k ⊢
        simp (disch := omega) only [↓rdA_t, ↓wrA_t, ↓ixA_t, ↓wrF_d, ↓bd2_s, ↓bd1_s, ↓bnd_d, ↓iww_t, ↓iww_f, ↓iwl_t, ↓iwl_f, ↓ilw_t, ↓ilw_f, ↓eww_t, ↓eww_f, ↓ewl_t, ↓ewl_f, ↓ez_t, ↓ez_f, ↓il_t, ↓il_f, il_t, il_f, ez_t, ez_f, if_true, if_false, upS_h, upS_o, upS_i, Int.reduceAdd, Int.reduceSub, Int.reduceMul, Int.reduceNeg, wI_id, a1, m_tAns h hw h0 h1 c h3 h4, (a3 c).2]
      · rw [if_neg c2] at k ⊢
        have c3 : yes α i (tL α q) (tR α q) (α 8 q) (α 9 q) = 1 := by have := yes_r (α := α) (i := i) (l := tL α q) (r := tR α q) (p := α 8 q) (d := α 9 q); omega
        simp (disch := omega) only [↓rdA_t, ↓wrA_t, ↓ixA_t, ↓wrF_d, ↓bd2_s, ↓bd1_s, ↓bnd_d, ↓iww_t, ↓iww_f, ↓iwl_t, ↓iwl_f, ↓ilw_t, ↓ilw_f, ↓eww_t, ↓eww_f, ↓ewl_t, ↓ewl_f, ↓ez_t, ↓ez_f, ↓il_t, ↓il_f, il_t, il_f, ez_t, ez_f, if_true, if_false, upS_h, upS_o, upS_i, Int.reduceAdd, Int.reduceSub, Int.reduceMul, Int.reduceNeg, wI_id, a1, m_tAns h hw h0 h1 c h3 h4, c3, (a3 c).1]
theorem m_lfU {σ α : St} {u : Int} (h : JM σ α) (hw : WF α) (h3 : 0 ≤ u) (h4 : u < α 0 0) : f_X10_leafOf σ 1 u = some (α 13 (lfU α u)) := by
  have w1 := hw.2.2.2.2.1
  have k := lfU_p (u := u) hw.2.2.2.2
  unfold f_X10_leafOf
  rw [m_leaf_gU _ h hw h3 h4 7 0 1000 (by omega) (by omega) (by have := hw.2.2.2.2.2.2.2.2.1; omega) (by omega)]
  unfold lfU at k ⊢
  obtain ⟨a1, a2, a3⟩ := h.2.2.2.2.2.2 _ k.1 k.2.1
  simp (disch := omega) only [↓rdA_t, ↓wrA_t, ↓ixA_t, ↓wrF_d, ↓bd2_s, ↓bd1_s, ↓bnd_d, ↓iww_t, ↓iww_f, ↓iwl_t, ↓iwl_f, ↓ilw_t, ↓ilw_f, ↓eww_t, ↓eww_f, ↓ewl_t, ↓ewl_f, ↓ez_t, ↓ez_f, ↓il_t, ↓il_f, il_t, il_f, ez_t, ez_f, if_true, if_false, upS_h, upS_o, upS_i, Int.reduceAdd, Int.reduceSub, Int.reduceMul, Int.reduceNeg, wI_id, a2]
theorem m_lfT {σ α : St} {q : Int} (h : JM σ α) (hw : WF α) (h3 : 0 ≤ q) (h4 : q < α 0 1) : f_X10_leafOf σ 0 q = some (α 13 (lfT α q)) := by
  have w1 := hw.2.2.2.2.1
  have k := lfT_p (k := q) hw.2.2.2.2
  unfold f_X10_leafOf
  rw [m_leaf_gT _ h hw h3 h4 7 0 1000 (by omega) (by omega) (by have := hw.2.2.2.2.2.2.2.2.1; omega) (by omega)]
  unfold lfT at k ⊢
  obtain ⟨a1, a2, a3⟩ := h.2.2.2.2.2.2 _ k.1 k.2.1
  simp (disch := omega) only [↓rdA_t, ↓wrA_t, ↓ixA_t, ↓wrF_d, ↓bd2_s, ↓bd1_s, ↓bnd_d, ↓iww_t, ↓iww_f, ↓iwl_t, ↓iwl_f, ↓ilw_t, ↓ilw_f, ↓eww_t, ↓eww_f, ↓ewl_t, ↓ewl_f, ↓ez_t, ↓ez_f, ↓il_t, ↓il_f, il_t, il_f, ez_t, ez_f, if_true, if_false, upS_h, upS_o, upS_i, Int.reduceAdd, Int.reduceSub, Int.reduceMul, Int.reduceNeg, wI_id, a2]
/-! ===== leaf ===== -/
def rLf (α : St) (s u : Int) : Int := if s = 0 ∧ 0 ≤ u ∧ u < α 0 0 then α 13 (lfU α u) else if s = 1 ∧ 0 ≤ u ∧ u < α 0 1 then α 13 (lfT α u) else -2
def aLf (α : St) (s u : Int) : St := if s = 0 ∧ 0 ≤ u ∧ u < α 0 0 then α else if s = 1 ∧ 0 ≤ u ∧ u < α 0 1 then α else aR α 3
theorem xc_leaf {σ α : St} {s u : Int} (h : IC σ α) (hw : WF α) (hs : inR s) (hu : inR u) : oC (f_X9_leaf σ s u) σ α (rLf α s u) (aLf α s u) := by
  have e1 := c_isU h.1 hw.1 hu
  have e2 := c_isT h.2.1 hw.2.1 hu
  unfold inR at hs hu
  unfold f_X9_leaf jn_X9_leaf_28 rLf aLf
  rw [e1, e2]
  by_cases c : s = 0
  · subst c
    rw [if_neg (show ¬ ((0 : Int) = 1 ∧ 0 ≤ u ∧ u < α 0 1) by omega), if_neg (show ¬ ((0 : Int) = 1 ∧ 0 ≤ u ∧ u < α 0 1) by omega)]
    by_cases c2 : 0 ≤ u ∧ u < α 0 0
    · have k := lfU_p (u := u) hw.2.2.2.2
      rw [if_pos (show (0 : Int) = 0 ∧ 0 ≤ u ∧ u < α 0 0 from ⟨rfl, c2⟩), if_pos (show (0 : Int) = 0 ∧ 0 ≤ u ∧ u < α 0 0 from ⟨rfl, c2⟩)]
      simp (disch := omega) only [↓rdA_t, ↓wrA_t, ↓ixA_t, ↓wrF_d, ↓bd2_s, ↓bd1_s, ↓bnd_d, ↓iww_t, ↓iww_f, ↓iwl_t, ↓iwl_f, ↓ilw_t, ↓ilw_f, ↓eww_t, ↓eww_f, ↓ewl_t, ↓ewl_f, ↓ez_t, ↓ez_f, ↓il_t, ↓il_f, il_t, il_f, ez_t, ez_f, if_true, if_false, upS_h, upS_o, upS_i, Int.reduceAdd, Int.reduceSub, Int.reduceMul, Int.reduceNeg, wI_id, if_pos c2, c_lfU h hw c2.1 c2.2, c_num h.2.2.2.2 hw.2.2.2.2 k.1 k.2.1 k.2.2]
      exact oC_ret _ h
    · rw [if_neg (show ¬ ((0 : Int) = 0 ∧ 0 ≤ u ∧ u < α 0 0) from fun z => c2 z.2), if_neg (show ¬ ((0 : Int) = 0 ∧ 0 ≤ u ∧ u < α 0 0) from fun z => c2 z.2)]
      simp (disch := omega) only [↓rdA_t, ↓wrA_t, ↓ixA_t, ↓wrF_d, ↓bd2_s, ↓bd1_s, ↓bnd_d, ↓iww_t, ↓iww_f, ↓iwl_t, ↓iwl_f, ↓ilw_t, ↓ilw_f, ↓eww_t, ↓eww_f, ↓ewl_t, ↓ewl_f, ↓ez_t, ↓ez_f, ↓il_t, ↓il_f, il_t, il_f, ez_t, ez_f, if_true, if_false, upS_h, upS_o, upS_i, Int.reduceAdd, Int.reduceSub, Int.reduceMul, Int.reduceNeg, wI_id, if_neg c2]
      exact oC_id (oC_bad h)
  · rw [if_neg (show ¬ (s = 0 ∧ 0 ≤ u ∧ u < α 0 0) by omega), if_neg (show ¬ (s = 0 ∧ 0 ≤ u ∧ u < α 0 0) by omega)]
    by_cases c1 : s = 1
    · subst c1
      by_cases c2 : 0 ≤ u ∧ u < α 0 1
      · have k := lfT_p (k := u) hw.2.2.2.2
        rw [if_pos (show (1 : Int) = 1 ∧ 0 ≤ u ∧ u < α 0 1 from ⟨rfl, c2⟩), if_pos (show (1 : Int) = 1 ∧ 0 ≤ u ∧ u < α 0 1 from ⟨rfl, c2⟩)]
        simp (disch := omega) only [↓rdA_t, ↓wrA_t, ↓ixA_t, ↓wrF_d, ↓bd2_s, ↓bd1_s, ↓bnd_d, ↓iww_t, ↓iww_f, ↓iwl_t, ↓iwl_f, ↓ilw_t, ↓ilw_f, ↓eww_t, ↓eww_f, ↓ewl_t, ↓ewl_f, ↓ez_t, ↓ez_f, ↓il_t, ↓il_f, il_t, il_f, ez_t, ez_f, if_true, if_false, upS_h, upS_o, upS_i, Int.reduceAdd, Int.reduceSub, Int.reduceMul, Int.reduceNeg, wI_id, if_pos c2, c_lfT h hw c2.1 c2.2, c_num h.2.2.2.2 hw.2.2.2.2 k.1 k.2.1 k.2.2]
        exact oC_ret _ h
      · rw [if_neg (show ¬ ((1 : Int) = 1 ∧ 0 ≤ u ∧ u < α 0 1) from fun z => c2 z.2), if_neg (show ¬ ((1 : Int) = 1 ∧ 0 ≤ u ∧ u < α 0 1) from fun z => c2 z.2)]
        simp (disch := omega) only [↓rdA_t, ↓wrA_t, ↓ixA_t, ↓wrF_d, ↓bd2_s, ↓bd1_s, ↓bnd_d, ↓iww_t, ↓iww_f, ↓iwl_t, ↓iwl_f, ↓ilw_t, ↓ilw_f, ↓eww_t, ↓eww_f, ↓ewl_t, ↓ewl_f, ↓ez_t, ↓ez_f, ↓il_t, ↓il_f, il_t, il_f, ez_t, ez_f, if_true, if_false, upS_h, upS_o, upS_i, Int.reduceAdd, Int.reduceSub, Int.reduceMul, Int.reduceNeg, wI_id, if_neg c2]
        exact oC_id (oC_bad h)
    · rw [if_neg (show ¬ (s = 1 ∧ 0 ≤ u ∧ u < α 0 1) by omega), if_neg (show ¬ (s = 1 ∧ 0 ≤ u ∧ u < α 0 1) by omega)]
      simp (disch := omega) only [↓rdA_t, ↓wrA_t, ↓ixA_t, ↓wrF_d, ↓bd2_s, ↓bd1_s, ↓bnd_d, ↓iww_t, ↓iww_f, ↓iwl_t, ↓iwl_f, ↓ilw_t, ↓ilw_f, ↓eww_t, ↓eww_f, ↓ewl_t, ↓ewl_f, ↓ez_t, ↓ez_f, ↓il_t, ↓il_f, il_t, il_f, ez_t, ez_f, if_true, if_false, upS_h, upS_o, upS_i, Int.reduceAdd, Int.reduceSub, Int.reduceMul, Int.reduceNeg, wI_id]
      exact oC_id (oC_bad h)
theorem xm_leaf {σ α : St} {s u : Int} (h : IM σ α) (hw : WF α) (hs : inR s) (hu : inR u) : oM (f_X10_leaf σ s u) σ α (rLf α s u) (aLf α s u) := by
  have e1 := m_isU h.1 hw.1 hu
  have e2 := m_isT h.2.1 hw.2.1 hu
  unfold inR at hs hu
  unfold f_X10_leaf jn_X10_leaf_40 rLf aLf
  rw [e1, e2]
  by_cases c : s = 0
  · subst c
    rw [if_neg (show ¬ ((0 : Int) = 1 ∧ 0 ≤ u ∧ u < α 0 1) by omega), if_neg (show ¬ ((0 : Int) = 1 ∧ 0 ≤ u ∧ u < α 0 1) by omega)]
    by_cases c2 : 0 ≤ u ∧ u < α 0 0
    · rw [if_pos (show (0 : Int) = 0 ∧ 0 ≤ u ∧ u < α 0 0 from ⟨rfl, c2⟩), if_pos (show (0 : Int) = 0 ∧ 0 ≤ u ∧ u < α 0 0 from ⟨rfl, c2⟩)]
      simp (disch := omega) only [↓rdA_t, ↓wrA_t, ↓ixA_t, ↓wrF_d, ↓bd2_s, ↓bd1_s, ↓bnd_d, ↓iww_t, ↓iww_f, ↓iwl_t, ↓iwl_f, ↓ilw_t, ↓ilw_f, ↓eww_t, ↓eww_f, ↓ewl_t, ↓ewl_f, ↓ez_t, ↓ez_f, ↓il_t, ↓il_f, il_t, il_f, ez_t, ez_f, if_true, if_false, upS_h, upS_o, upS_i, Int.reduceAdd, Int.reduceSub, Int.reduceMul, Int.reduceNeg, wI_id, in_t, if_pos c2, m_lfU (JM_of h) hw c2.1 c2.2]
      exact oM_ret _ h
    · rw [if_neg (show ¬ ((0 : Int) = 0 ∧ 0 ≤ u ∧ u < α 0 0) from fun z => c2 z.2), if_neg (show ¬ ((0 : Int) = 0 ∧ 0 ≤ u ∧ u < α 0 0) from fun z => c2 z.2)]
      simp (disch := omega) only [↓rdA_t, ↓wrA_t, ↓ixA_t, ↓wrF_d, ↓bd2_s, ↓bd1_s, ↓bnd_d, ↓iww_t, ↓iww_f, ↓iwl_t, ↓iwl_f, ↓ilw_t, ↓ilw_f, ↓eww_t, ↓eww_f, ↓ewl_t, ↓ewl_f, ↓ez_t, ↓ez_f, ↓il_t, ↓il_f, il_t, il_f, ez_t, ez_f, if_true, if_false, upS_h, upS_o, upS_i, Int.reduceAdd, Int.reduceSub, Int.reduceMul, Int.reduceNeg, wI_id, in_t, if_neg c2]
      exact oM_id (oM_bad (-2) h)
  · rw [if_neg (show ¬ (s = 0 ∧ 0 ≤ u ∧ u < α 0 0) by omega), if_neg (show ¬ (s = 0 ∧ 0 ≤ u ∧ u < α 0 0) by omega)]
    by_cases c1 : s = 1
    · subst c1
      by_cases c2 : 0 ≤ u ∧ u < α 0 1
      · rw [if_pos (show (1 : Int) = 1 ∧ 0 ≤ u ∧ u < α 0 1 from ⟨rfl, c2⟩), if_pos (show (1 : Int) = 1 ∧ 0 ≤ u ∧ u < α 0 1 from ⟨rfl, c2⟩)]
        simp (disch := omega) only [↓rdA_t, ↓wrA_t, ↓ixA_t, ↓wrF_d, ↓bd2_s, ↓bd1_s, ↓bnd_d, ↓iww_t, ↓iww_f, ↓iwl_t, ↓iwl_f, ↓ilw_t, ↓ilw_f, ↓eww_t, ↓eww_f, ↓ewl_t, ↓ewl_f, ↓ez_t, ↓ez_f, ↓il_t, ↓il_f, il_t, il_f, ez_t, ez_f, if_true, if_false, upS_h, upS_o, upS_i, Int.reduceAdd, Int.reduceSub, Int.reduceMul, Int.reduceNeg, wI_id, in_t, if_pos c2, m_lfT (JM_of h) hw c2.1 c2.2]
        exact oM_ret _ h
      · rw [if_neg (show ¬ ((1 : Int) = 1 ∧ 0 ≤ u ∧ u < α 0 1) from fun z => c2 z.2), if_neg (show ¬ ((1 : Int) = 1 ∧ 0 ≤ u ∧ u < α 0 1) from fun z => c2 z.2)]
        simp (disch := omega) only [↓rdA_t, ↓wrA_t, ↓ixA_t, ↓wrF_d, ↓bd2_s, ↓bd1_s, ↓bnd_d, ↓iww_t, ↓iww_f, ↓iwl_t, ↓iwl_f, ↓ilw_t, ↓ilw_f, ↓eww_t, ↓eww_f, ↓ewl_t, ↓ewl_f, ↓ez_t, ↓ez_f, ↓il_t, ↓il_f, il_t, il_f, ez_t, ez_f, if_true, if_false, upS_h, upS_o, upS_i, Int.reduceAdd, Int.reduceSub, Int.reduceMul, Int.reduceNeg, wI_id, in_t, if_neg c2]
        exact oM_id (oM_bad (-2) h)
    · rw [if_neg (show ¬ (s = 1 ∧ 0 ≤ u ∧ u < α 0 1) by omega), if_neg (show ¬ (s = 1 ∧ 0 ≤ u ∧ u < α 0 1) by omega)]
      simp (disch := omega) only [↓rdA_t, ↓wrA_t, ↓ixA_t, ↓wrF_d, ↓bd2_s, ↓bd1_s, ↓bnd_d, ↓iww_t, ↓iww_f, ↓iwl_t, ↓iwl_f, ↓ilw_t, ↓ilw_f, ↓eww_t, ↓eww_f, ↓ewl_t, ↓ewl_f, ↓ez_t, ↓ez_f, ↓il_t, ↓il_f, il_t, il_f, ez_t, ez_f, if_true, if_false, upS_h, upS_o, upS_i, Int.reduceAdd, Int.reduceSub, Int.reduceMul, Int.reduceNeg, wI_id, in_f]
      exact oM_id (oM_bad (-2) h)
theorem wf_leaf {α : St} {s u : Int} (hw : WF α) : WF (aLf α s u) := by
  unfold aLf
  by_cases c : s = 0 ∧ 0 ≤ u ∧ u < α 0 0
  · rw [if_pos c]; exact hw
  · rw [if_neg c]
    by_cases c2 : s = 1 ∧ 0 ≤ u ∧ u < α 0 1
    · rw [if_pos c2]; exact hw
    · rw [if_neg c2]; exact WF_aR 3 (by omega) hw
