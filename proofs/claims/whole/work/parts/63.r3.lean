/-! ===== without ===== -/
theorem bst_mono {α : St} {a k s : Int} (hw : wT α) (h : 0 ≤ bst α a k s) : 0 ≤ bst α (-1) k s := by
  obtain ⟨u, u1, u2⟩ := (bst_p (a := a) (k := k) (s := s) hw).2.2 h
  have g := (bst_p (a := -1) (k := k) (s := s) hw).2.1 u u1 (by omega) u2.2.1
  have r := (ag_p (u := u) (k := k) hw).1
  omega
theorem rn_mono {α : St} {a k : Int} (hw : wT α) : ∀ (m : Nat) (s M x t : Int), (rnG α a k m s M x t).1 = 1 → (rnG α (-1) k m s M x t).1 = 1 := by
  intro m
  induction m with
  | zero => intro s M x t h; rw [rnG] at h; simp at h
  | succ m ih =>
    intro s M x t h
    rw [rnG] at h ⊢
    by_cases c : bt M s = 0
    · rw [if_pos c] at h ⊢
      by_cases c2 : 0 ≤ bst α (-1) k s
      · rw [if_pos c2]
      · rw [if_neg c2]
        rw [if_neg (fun z => c2 (bst_mono hw z))] at h
        exact ih _ _ _ _ h
    · rw [if_neg c] at h; simp at h
theorem has_mono {α : St} {a : Int} (hw : WF α) (h : 0 < α 0 1 ∧ allF α a) : 0 < α 0 1 ∧ allF α (-1) := ⟨h.1, fun k k1 k2 => rn_mono hw.2.2.2.2 6 _ _ _ _ (h.2 k k1 k2)⟩
def rWo (α : St) (u : Int) : Int := if 0 ≤ u ∧ u < α 0 0 then (if has α u = 1 then tp α u (α 0 2) 0 else -3) else -2
def aWo (α : St) (u : Int) : St := if 0 ≤ u ∧ u < α 0 0 then aNo α u else aR α 3
theorem wf_wo {α : St} {u : Int} (hw : WF α) : WF (aWo α u) := by
  unfold aWo
  by_cases c : 0 ≤ u ∧ u < α 0 0
  · rw [if_pos c]; exact wf_no hw
  · rw [if_neg c]; exact WF_aR 3 (by omega) hw
theorem xc_without {σ α : St} {u : Int} (h : IC σ α) (hw : WF α) (hu : inR u) : oC (f_X9_without σ u) σ α (rWo α u) (aWo α u) := by
  have w3 := hw.1.2.1
  unfold f_X9_without rWo aWo aNo f_X0_leastPrice
  rw [c_isU h.1 hw.1 hu]
  by_cases c : 0 ≤ u ∧ u < α 0 0
  · rw [if_pos c, if_pos c, if_pos c]
    rcases c_find h hw (a := u) (by omega) with ⟨b1, τ, b2, b3, b4, b5⟩ | ⟨b1, τ, b2, b3, b4⟩
    · rw [has_1 b1, if_pos rfl, if_pos rfl]
      simp (disch := omega) only [↓rdA_t, ↓wrA_t, ↓ixA_t, ↓wrF_d, ↓bd2_s, ↓bd1_s, ↓bnd_d, ↓iww_t, ↓iww_f, ↓iwl_t, ↓iwl_f, ↓ilw_t, ↓ilw_f, ↓eww_t, ↓eww_f, ↓ewl_t, ↓ewl_f, ↓ez_t, ↓ez_f, ↓il_t, ↓il_f, il_t, il_f, ez_t, ez_f, if_true, if_false, upS_h, upS_o, upS_i, Int.reduceAdd, Int.reduceSub, Int.reduceMul, Int.reduceNeg, wI_id, b2, b4.1.1]
      exact ⟨τ, rfl, b3, b5⟩
    · rw [has_0 b1, if_neg (show ¬ (0 : Int) = 1 by omega), if_neg (show ¬ (0 : Int) = 1 by omega)]
      simp (disch := omega) only [↓rdA_t, ↓wrA_t, ↓ixA_t, ↓wrF_d, ↓bd2_s, ↓bd1_s, ↓bnd_d, ↓iww_t, ↓iww_f, ↓iwl_t, ↓iwl_f, ↓ilw_t, ↓ilw_f, ↓eww_t, ↓eww_f, ↓ewl_t, ↓ewl_f, ↓ez_t, ↓ez_f, ↓il_t, ↓il_f, il_t, il_f, ez_t, ez_f, if_true, if_false, upS_h, upS_o, upS_i, Int.reduceAdd, Int.reduceSub, Int.reduceMul, Int.reduceNeg, wI_id, b2]
      exact oC_tr b4 (oC_id (oC_no b3))
  · rw [if_neg c, if_neg c, if_neg c]
    simp (disch := omega) only [↓rdA_t, ↓wrA_t, ↓ixA_t, ↓wrF_d, ↓bd2_s, ↓bd1_s, ↓bnd_d, ↓iww_t, ↓iww_f, ↓iwl_t, ↓iwl_f, ↓ilw_t, ↓ilw_f, ↓eww_t, ↓eww_f, ↓ewl_t, ↓ewl_f, ↓ez_t, ↓ez_f, ↓il_t, ↓il_f, il_t, il_f, ez_t, ez_f, if_true, if_false, upS_h, upS_o, upS_i, Int.reduceAdd, Int.reduceSub, Int.reduceMul, Int.reduceNeg, wI_id]
    exact oC_id (oC_bad h)
theorem xm_without {σ α : St} {u : Int} (h : IM σ α) (hw : WF α) (hu : inR u) : oM (f_X10_without σ u) σ α (rWo α u) (aWo α u) := by
  have w3 := hw.1.2.1
  unfold f_X10_without rWo aWo aNo
  rw [m_isU h.1 hw.1 hu]
  by_cases c : 0 ≤ u ∧ u < α 0 0
  · rw [if_pos c, if_pos c, if_pos c]
    rcases m_now h hw with ⟨b1, τ, b2, b3, b4, b5, b6⟩ | ⟨b1, τ, b2, b3, b4⟩
    · have hJ : JM (upS τ 118 27 u) α := JM_scr (fun i hi => upS_i (by omega)) (fun o o1 o2 => upS_of (by omega)) (JM_of b5)
      have ek : upS τ 118 27 u 118 5 = α 0 2 := hJ.2.2.1.1
      have back : ∀ ρ : St, mSc (upS τ 118 27 u) ρ → IM (upS ρ 118 27 (-1)) α ∧ ∀ o, o < 118 → upS ρ 118 27 (-1) o = σ o := fun ρ hs => by
        refine ⟨IM_scr (σ := τ) (fun i hi => ?_) (fun o o1 o2 => by rw [upS_of (by omega), hs.1 o (by omega), upS_of (by omega)]) b5, fun o ho => by rw [upS_of (by omega), hs.1 o (by omega), upS_of (by omega), b6 o ho]⟩
        by_cases c2 : i = 27
        · subst c2; rw [upS_h ⟨rfl, rfl⟩]; exact b5.2.2.1.2.2.2.2.2.symm
        · rw [upS_i c2, hs.2 i (by unfold mF at hi; omega) (by unfold mF at hi; omega) (by unfold mF at hi; omega), upS_i c2]
      rw [if_neg (by omega), b2, bd2_s, if_neg (by omega), wrF_d, ek]
      rcases m_chains hJ hw (upS_h ⟨rfl, rfl⟩) (by omega) hw.2.2.1.1 with ⟨d1, ρ, d2, d3, d4⟩ | ⟨d1, ρ, d2, d3⟩
      · rw [has_1 d1, if_pos rfl, if_pos rfl, d2, bd2_s, wrF_d, if_neg (by omega)]
        refine ⟨_, ?_, back ρ d4⟩
        rw [upS_i (by omega), d3.1.1]
      · rw [has_0 d1, if_neg (show ¬ (0 : Int) = 1 by omega), if_neg (show ¬ (0 : Int) = 1 by omega), d2, bd2_s, wrF_d, if_pos rfl]
        exact oM_tr (back ρ d3).2 (oM_id (oM_no (back ρ d3).1))
    · rw [has_0 (fun z => b1 (has_mono hw z)), if_neg (show ¬ (0 : Int) = 1 by omega), if_neg (show ¬ (0 : Int) = 1 by omega)]
      simp (disch := omega) only [↓rdA_t, ↓wrA_t, ↓ixA_t, ↓wrF_d, ↓bd2_s, ↓bd1_s, ↓bnd_d, ↓iww_t, ↓iww_f, ↓iwl_t, ↓iwl_f, ↓ilw_t, ↓ilw_f, ↓eww_t, ↓eww_f, ↓ewl_t, ↓ewl_f, ↓ez_t, ↓ez_f, ↓il_t, ↓il_f, il_t, il_f, ez_t, ez_f, if_true, if_false, upS_h, upS_o, upS_i, Int.reduceAdd, Int.reduceSub, Int.reduceMul, Int.reduceNeg, wI_id, b2]
      exact oM_tr b4 (oM_id (oM_no b3))
  · rw [if_neg c, if_neg c, if_neg c]
    simp (disch := omega) only [↓rdA_t, ↓wrA_t, ↓ixA_t, ↓wrF_d, ↓bd2_s, ↓bd1_s, ↓bnd_d, ↓iww_t, ↓iww_f, ↓iwl_t, ↓iwl_f, ↓ilw_t, ↓ilw_f, ↓eww_t, ↓eww_f, ↓ewl_t, ↓ewl_f, ↓ez_t, ↓ez_f, ↓il_t, ↓il_f, il_t, il_f, ez_t, ez_f, if_true, if_false, upS_h, upS_o, upS_i, Int.reduceAdd, Int.reduceSub, Int.reduceMul, Int.reduceNeg, wI_id]
    exact oM_id (oM_bad (-2) h)
