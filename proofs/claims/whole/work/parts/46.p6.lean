/-! ===== prices ===== -/
theorem divI_e {x y : Int} (h : 0 ≤ x ∧ x ≤ 2147483647 ∧ 0 < y ∧ y ≤ 2147483647) : divI x y = x / y := by
  have q1 : 0 ≤ x / y := Int.ediv_nonneg h.1 (by omega)
  have q2 : x / y ≤ x := Int.ediv_le_self y h.1
  unfold divI iV
  rw [Int32.toInt_div, Int32.toInt_ofInt_of_le (by omega) (by omega), Int32.toInt_ofInt_of_le (by omega) (by omega), Int.tdiv_eq_ediv_of_nonneg h.1]
  rw [Int.bmod_def]
  omega
def ab (x y : Int) : Int := if y < x then x - y else y - x
theorem ab_r {x y m : Int} (h : 0 ≤ x ∧ x ≤ m ∧ 0 ≤ y ∧ y ≤ m) : 0 ≤ ab x y ∧ ab x y ≤ m := by
  unfold ab
  by_cases c : y < x
  · rw [if_pos c]; omega
  · rw [if_neg c]; omega
theorem ab_c {x y : Int} (h : 0 ≤ x ∧ x ≤ 1000 ∧ 0 ≤ y ∧ y ≤ 1000) : f_J9_abs_0f7a4 (x - y) = ab x y := by
  rw [abs_e (by omega)]
  unfold ab
  by_cases c : y < x
  · rw [if_pos c, if_neg (by omega)]
  · rw [if_neg c]
    by_cases c2 : x - y < 0
    · rw [if_pos c2]; omega
    · rw [if_neg c2]; omega
theorem ab_m {x y : Int} (h : 0 ≤ x ∧ x ≤ 1000 ∧ 0 ≤ y ∧ y ≤ 1000) : f_X10_far x y = ab x y := far_e (by omega)
def z2 (x y : Int) : Int := if x = y then 0 else 2
theorem z2_r {x y : Int} : 0 ≤ z2 x y ∧ z2 x y ≤ 2 := by
  unfold z2
  by_cases c : x = y
  · rw [if_pos c]; omega
  · rw [if_neg c]; omega
theorem z2_e {x y : Int} (h : 0 ≤ x ∧ x ≤ 1000 ∧ 0 ≤ y ∧ y ≤ 1000) : (if wI x = wI y then (0 : Int) else 2) = z2 x y := by
  rw [wI_id (by omega) (by omega), wI_id (by omega) (by omega)]; rfl
def fitP (α : St) (u k : Int) : Int := ab (α 4 u) (α 8 k)
def fitQ (α : St) (u k : Int) : Int := fitP α u k + ab (α 5 u) (α 9 k)
def fitB (α : St) (u k : Int) : Int := z2 (α 2 u) (tL α k) + z2 (α 3 u) (tR α k)
def fitS (α : St) (a u k : Int) : Int := if a = 1 then fitQ α u k + fitB α u k else if a = 2 then fitQ α u k + fitP α u k else if a = 3 then 2 * (fitQ α u k + fitB α u k) else if a = 4 then divI (fitQ α u k + fitP α u k) 2 else fitQ α u k
theorem fitR {α : St} {u k : Int} (hw : WF α) (h0 : 0 ≤ u) (h1 : u < α 0 0) (h2 : 0 ≤ k) (h3 : k < α 0 1) : (0 ≤ fitP α u k ∧ fitP α u k ≤ 9) ∧ (0 ≤ fitQ α u k ∧ fitQ α u k ≤ 18) ∧ (0 ≤ fitB α u k ∧ fitB α u k ≤ 4) := by
  obtain ⟨k1, k2, k3, k4, k5, k6⟩ := hw.1.2.2 u h0 h1
  obtain ⟨q1, q2, q3⟩ := hw.2.1.2.2 k h2 h3
  have r1 := ab_r (x := α 4 u) (y := α 8 k) (m := 9) (by omega)
  have r2 := ab_r (x := α 5 u) (y := α 9 k) (m := 9) (by omega)
  have r3 := z2_r (x := α 2 u) (y := tL α k)
  have r4 := z2_r (x := α 3 u) (y := tR α k)
  unfold fitQ fitB fitP
  omega
theorem fitS_r {α : St} {a u k : Int} (hw : WF α) (h0 : 0 ≤ u) (h1 : u < α 0 0) (h2 : 0 ≤ k) (h3 : k < α 0 1) : 0 ≤ fitS α a u k ∧ fitS α a u k ≤ 44 := by
  obtain ⟨r1, r2, r3⟩ := fitR hw h0 h1 h2 h3
  unfold fitS
  rw [divI_e (by omega)]
  by_cases c1 : a = 1
  · rw [if_pos c1]; omega
  · rw [if_neg c1]
    by_cases c2 : a = 2
    · rw [if_pos c2]; omega
    · rw [if_neg c2]
      by_cases c3 : a = 3
      · rw [if_pos c3]; omega
      · rw [if_neg c3]
        by_cases c4 : a = 4
        · rw [if_pos c4]; omega
        · rw [if_neg c4]; omega
theorem c_fit {σ α : St} {a u k : Int} (h : IC σ α) (hw : WF α) (ha : 0 ≤ a ∧ a ≤ 4) (h0 : 0 ≤ u) (h1 : u < α 0 0) (h2 : 0 ≤ k) (h3 : k < α 0 1) : f_X3_ofFit σ a u k = some (fitS α a u k) := by
  have w1 := hw.1.2.1
  have w2 := hw.2.1.2.1
  obtain ⟨k1, k2, k3, k4, k5, k6⟩ := hw.1.2.2 u h0 h1
  obtain ⟨q1, q2, q3⟩ := hw.2.1.2.2 k h2 h3
  obtain ⟨e1, e2, e3, e4, e5, e6, e7⟩ := h.1.2.1 u h0 h1
  obtain ⟨g1, g2, g3⟩ := h.2.1.2 k h2 h3
  have r1 := tL_r hw.2.1 h2 h3
  have r2 := tR_r hw.2.1 h2 h3
  have eb : f_X3_besidePart σ u k = some (fitB α u k) := by
    unfold f_X3_besidePart fitB
    simp (disch := omega) only [rdA_t, bd1_s, bnd_d, c_tL h.2.1 hw.2.1 h2 h3, c_tR h.2.1 hw.2.1 h2 h3, e2, e3, z2_e]
  unfold f_X3_ofFit fitS
  have : a = 0 ∨ a = 1 ∨ a = 2 ∨ a = 3 ∨ a = 4 := by omega
  rcases this with rfl | rfl | rfl | rfl | rfl <;> (simp (disch := omega) only [↓rdA_t, ↓wrA_t, ↓ixA_t, ↓wrF_d, ↓bd2_s, ↓bd1_s, ↓bnd_d, ↓iww_t, ↓iww_f, ↓iwl_t, ↓iwl_f, ↓ilw_t, ↓ilw_f, ↓eww_t, ↓eww_f, ↓ewl_t, ↓ewl_f, ↓ez_t, ↓ez_f, ↓il_t, ↓il_f, il_t, il_f, ez_t, ez_f, if_true, if_false, upS_h, upS_o, upS_i, Int.reduceAdd, Int.reduceSub, Int.reduceMul, Int.reduceNeg, wI_id, eb, e4, e5, g2, g3, ab_c]; rfl)
theorem m_fit {σ α : St} {a u k : Int} (h : JM σ α) (hw : WF α) (ha : 0 ≤ a ∧ a ≤ 4) (h0 : 0 ≤ u) (h1 : u < α 0 0) (h2 : 0 ≤ k) (h3 : k < α 0 1) : f_X10_fitAs σ a u k = some (fitS α a u k) := by
  have w1 := hw.1.2.1
  have w2 := hw.2.1.2.1
  obtain ⟨k1, k2, k3, k4, k5, k6⟩ := hw.1.2.2 u h0 h1
  obtain ⟨q1, q2, q3⟩ := hw.2.1.2.2 k h2 h3
  have e1 := m_at h.1 hw.1 (w := 1) h0 h1 (by omega) (by omega)
  have e2 := m_at h.1 hw.1 (w := 2) h0 h1 (by omega) (by omega)
  have e3 := m_at h.1 hw.1 (w := 3) h0 h1 (by omega) (by omega)
  have e4 := m_at h.1 hw.1 (w := 4) h0 h1 (by omega) (by omega)
  have g1 := h.2.1.2 k 1 h2 h3 (by omega) (by omega)
  have g2 := h.2.1.2 k 2 h2 h3 (by omega) (by omega)
  simp only [Int.reduceAdd] at e1 e2 e3 e4 g1 g2
  have r1 := tL_r hw.2.1 h2 h3
  have r2 := tR_r hw.2.1 h2 h3
  unfold f_X10_fitAs fitS
  simp (disch := omega) only [rdA_t, bd1_s, bnd_d, e1, e2, e3, e4, g1, g2, m_tL h.2.1 hw.2.1 h2 h3, m_tR h.2.1 hw.2.1 h2 h3, z2_e, ab_m, Int.add_assoc]
  have eq1 : ab (α 4 u) (α 8 k) + ab (α 5 u) (α 9 k) = fitQ α u k := rfl
  have eq2 : ab (α 4 u) (α 8 k) + (ab (α 5 u) (α 9 k) + (z2 (α 2 u) (tL α k) + z2 (α 3 u) (tR α k))) = fitQ α u k + fitB α u k := by unfold fitQ fitB fitP; omega
  have eq3 : ab (α 4 u) (α 8 k) + (ab (α 5 u) (α 9 k) + ab (α 4 u) (α 8 k)) = fitQ α u k + fitP α u k := by unfold fitQ fitP; omega
  rw [eq2, eq3, eq1]
  have : a = 0 ∨ a = 1 ∨ a = 2 ∨ a = 3 ∨ a = 4 := by omega
  rcases this with rfl | rfl | rfl | rfl | rfl <;> simp (disch := omega) only [↓rdA_t, ↓wrA_t, ↓ixA_t, ↓wrF_d, ↓bd2_s, ↓bd1_s, ↓bnd_d, ↓iww_t, ↓iww_f, ↓iwl_t, ↓iwl_f, ↓ilw_t, ↓ilw_f, ↓eww_t, ↓eww_f, ↓ewl_t, ↓ewl_f, ↓ez_t, ↓ez_f, ↓il_t, ↓il_f, il_t, il_f, ez_t, ez_f, if_true, if_false, upS_h, upS_o, upS_i, Int.reduceAdd, Int.reduceSub, Int.reduceMul, Int.reduceNeg, wI_id]
def joiS (α : St) (u v : Int) : Int := if nxS α u = v then 0 else 3 + ab (α 4 u) (α 4 v) + z2 (α 3 u) (α 1 v) + z2 (α 2 v) (α 1 u)
theorem joiS_r {α : St} {u v : Int} (hw : wU α) (h0 : 0 ≤ u) (h1 : u < α 0 0) (h2 : 0 ≤ v) (h3 : v < α 0 0) : 0 ≤ joiS α u v ∧ joiS α u v ≤ 16 := by
  obtain ⟨k1, k2, k3, k4, k5, k6⟩ := hw.2.2 u h0 h1
  obtain ⟨q1, q2, q3, q4, q5, q6⟩ := hw.2.2 v h2 h3
  have r1 := ab_r (x := α 4 u) (y := α 4 v) (m := 9) (by omega)
  have r3 := z2_r (x := α 3 u) (y := α 1 v)
  have r4 := z2_r (x := α 2 v) (y := α 1 u)
  unfold joiS
  by_cases c : nxS α u = v
  · rw [if_pos c]; omega
  · rw [if_neg c]; omega
theorem c_joint {σ α : St} {u v : Int} (h : cU σ α) (hw : wU α) (h0 : 0 ≤ u) (h1 : u < α 0 0) (h2 : 0 ≤ v) (h3 : v < α 0 0) : f_X3_ofJoint σ u v = some (joiS α u v) := by
  have w1 := hw.2.1
  obtain ⟨k1, k2, k3, k4, k5, k6⟩ := hw.2.2 u h0 h1
  obtain ⟨q1, q2, q3, q4, q5, q6⟩ := hw.2.2 v h2 h3
  obtain ⟨e1, e2, e3, e4, e5, e6, e7⟩ := h.2.1 u h0 h1
  obtain ⟨g1, g2, g3, g4, g5, g6, g7⟩ := h.2.1 v h2 h3
  have e8 := c_foll h hw h0 h1
  have e9 := nxt_r hw h0 (nxS_is hw h0)
  unfold f_X3_ofJoint joiS
  by_cases c : nxS α u = v
  · simp (disch := omega) only [↓rdA_t, ↓wrA_t, ↓ixA_t, ↓wrF_d, ↓bd2_s, ↓bd1_s, ↓bnd_d, ↓iww_t, ↓iww_f, ↓iwl_t, ↓iwl_f, ↓ilw_t, ↓ilw_f, ↓eww_t, ↓eww_f, ↓ewl_t, ↓ewl_f, ↓ez_t, ↓ez_f, ↓il_t, ↓il_f, il_t, il_f, ez_t, ez_f, if_true, if_false, upS_h, upS_o, upS_i, Int.reduceAdd, Int.reduceSub, Int.reduceMul, Int.reduceNeg, wI_id, e8]
  · rw [rdA_t (by omega), e8, eww_f (by omega), if_neg c]
    simp (disch := omega) only [rdA_t, bnd_d, e1, e2, e3, e4, g1, g2, g3, g4, z2_e, ab_c]
theorem m_joint {σ α : St} {u v : Int} (h : mU σ α) (hw : wU α) (h0 : 0 ≤ u) (h1 : u < α 0 0) (h2 : 0 ≤ v) (h3 : v < α 0 0) : f_X10_jointOf σ u v = some (joiS α u v) := by
  have w1 := hw.2.1
  obtain ⟨k1, k2, k3, k4, k5, k6⟩ := hw.2.2 u h0 h1
  obtain ⟨q1, q2, q3, q4, q5, q6⟩ := hw.2.2 v h2 h3
  have e0 := m_at h hw (w := 0) h0 h1 (by omega) (by omega)
  have e2 := m_at h hw (w := 2) h0 h1 (by omega) (by omega)
  have e3 := m_at h hw (w := 3) h0 h1 (by omega) (by omega)
  have g0 := m_at h hw (w := 0) h2 h3 (by omega) (by omega)
  have g1 := m_at h hw (w := 1) h2 h3 (by omega) (by omega)
  have g3 := m_at h hw (w := 3) h2 h3 (by omega) (by omega)
  simp only [Int.reduceAdd] at e0 e2 e3 g0 g1 g3
  have e9 := nxt_r hw h0 (nxS_is hw h0)
  unfold f_X10_jointOf joiS
  rw [m_next h hw h0 h1]
  by_cases c : nxS α u = v
  · simp (disch := omega) only [↓rdA_t, ↓wrA_t, ↓ixA_t, ↓wrF_d, ↓bd2_s, ↓bd1_s, ↓bnd_d, ↓iww_t, ↓iww_f, ↓iwl_t, ↓iwl_f, ↓ilw_t, ↓ilw_f, ↓eww_t, ↓eww_f, ↓ewl_t, ↓ewl_f, ↓ez_t, ↓ez_f, ↓il_t, ↓il_f, il_t, il_f, ez_t, ez_f, if_true, if_false, upS_h, upS_o, upS_i, Int.reduceAdd, Int.reduceSub, Int.reduceMul, Int.reduceNeg, wI_id]
  · rw [bd1_s, eww_f (by omega), if_neg c]
    simp (disch := omega) only [bd1_s, e0, e2, e3, g0, g1, g3, z2_e, ab_m]
/-! ===== fit and joint ===== -/
def rFt (α : St) (u k : Int) : Int := if (0 ≤ u ∧ u < α 0 0) ∧ 0 ≤ k ∧ k < α 0 1 then fitS α (α 0 2) u k else -2
def aFt (α : St) (u k : Int) : St := if (0 ≤ u ∧ u < α 0 0) ∧ 0 ≤ k ∧ k < α 0 1 then α else aR α 3
def rJt (α : St) (u v : Int) : Int := if (0 ≤ u ∧ u < α 0 0) ∧ 0 ≤ v ∧ v < α 0 0 then joiS α u v else -2
def aJt (α : St) (u v : Int) : St := if (0 ≤ u ∧ u < α 0 0) ∧ 0 ≤ v ∧ v < α 0 0 then α else aR α 3
theorem xc_fit {σ α : St} {u k : Int} (h : IC σ α) (hw : WF α) (hu : inR u) (hk : inR k) : oC (f_X9_fit σ u k) σ α (rFt α u k) (aFt α u k) := by
  have e1 := c_isU h.1 hw.1 hu
  have e2 := c_isT h.2.1 hw.2.1 hk
  unfold f_X9_fit rFt aFt
  rw [e1, e2]
  by_cases c : 0 ≤ u ∧ u < α 0 0
  · rw [if_pos c]
    by_cases c2 : 0 ≤ k ∧ k < α 0 1
    · rw [if_pos c2, if_pos (⟨c, c2⟩ : (0 ≤ u ∧ u < α 0 0) ∧ 0 ≤ k ∧ k < α 0 1), if_pos (⟨c, c2⟩ : (0 ≤ u ∧ u < α 0 0) ∧ 0 ≤ k ∧ k < α 0 1)]
      simp (disch := omega) only [↓rdA_t, ↓wrA_t, ↓ixA_t, ↓wrF_d, ↓bd2_s, ↓bd1_s, ↓bnd_d, ↓iww_t, ↓iww_f, ↓iwl_t, ↓iwl_f, ↓ilw_t, ↓ilw_f, ↓eww_t, ↓eww_f, ↓ewl_t, ↓ewl_f, ↓ez_t, ↓ez_f, ↓il_t, ↓il_f, il_t, il_f, ez_t, ez_f, if_true, if_false, upS_h, upS_o, upS_i, Int.reduceAdd, Int.reduceSub, Int.reduceMul, Int.reduceNeg, wI_id, h.2.2.1.1, c_fit h hw hw.2.2.1.1 c.1 c.2 c2.1 c2.2]
      exact oC_ret _ h
    · rw [if_neg c2, if_neg (show ¬ ((0 ≤ u ∧ u < α 0 0) ∧ 0 ≤ k ∧ k < α 0 1) from fun z => c2 z.2), if_neg (show ¬ ((0 ≤ u ∧ u < α 0 0) ∧ 0 ≤ k ∧ k < α 0 1) from fun z => c2 z.2)]
      simp (disch := omega) only [↓rdA_t, ↓wrA_t, ↓ixA_t, ↓wrF_d, ↓bd2_s, ↓bd1_s, ↓bnd_d, ↓iww_t, ↓iww_f, ↓iwl_t, ↓iwl_f, ↓ilw_t, ↓ilw_f, ↓eww_t, ↓eww_f, ↓ewl_t, ↓ewl_f, ↓ez_t, ↓ez_f, ↓il_t, ↓il_f, il_t, il_f, ez_t, ez_f, if_true, if_false, upS_h, upS_o, upS_i, Int.reduceAdd, Int.reduceSub, Int.reduceMul, Int.reduceNeg, wI_id]
      exact oC_id (oC_bad h)
  · rw [if_neg c, if_neg (show ¬ ((0 ≤ u ∧ u < α 0 0) ∧ 0 ≤ k ∧ k < α 0 1) from fun z => c z.1), if_neg (show ¬ ((0 ≤ u ∧ u < α 0 0) ∧ 0 ≤ k ∧ k < α 0 1) from fun z => c z.1)]
    simp (disch := omega) only [↓rdA_t, ↓wrA_t, ↓ixA_t, ↓wrF_d, ↓bd2_s, ↓bd1_s, ↓bnd_d, ↓iww_t, ↓iww_f, ↓iwl_t, ↓iwl_f, ↓ilw_t, ↓ilw_f, ↓eww_t, ↓eww_f, ↓ewl_t, ↓ewl_f, ↓ez_t, ↓ez_f, ↓il_t, ↓il_f, il_t, il_f, ez_t, ez_f, if_true, if_false, upS_h, upS_o, upS_i, Int.reduceAdd, Int.reduceSub, Int.reduceMul, Int.reduceNeg, wI_id]
    exact oC_id (oC_bad h)
theorem xm_fit {σ α : St} {u k : Int} (h : IM σ α) (hw : WF α) (hu : inR u) (hk : inR k) : oM (f_X10_fit σ u k) σ α (rFt α u k) (aFt α u k) := by
  have e1 := m_isU h.1 hw.1 hu
  have e2 := m_isT h.2.1 hw.2.1 hk
  unfold f_X10_fit rFt aFt
  rw [e1, e2]
  by_cases c : 0 ≤ u ∧ u < α 0 0
  · rw [if_pos c]
    by_cases c2 : 0 ≤ k ∧ k < α 0 1
    · rw [if_pos c2, if_pos (⟨c, c2⟩ : (0 ≤ u ∧ u < α 0 0) ∧ 0 ≤ k ∧ k < α 0 1), if_pos (⟨c, c2⟩ : (0 ≤ u ∧ u < α 0 0) ∧ 0 ≤ k ∧ k < α 0 1)]
      simp (disch := omega) only [↓rdA_t, ↓wrA_t, ↓ixA_t, ↓wrF_d, ↓bd2_s, ↓bd1_s, ↓bnd_d, ↓iww_t, ↓iww_f, ↓iwl_t, ↓iwl_f, ↓ilw_t, ↓ilw_f, ↓eww_t, ↓eww_f, ↓ewl_t, ↓ewl_f, ↓ez_t, ↓ez_f, ↓il_t, ↓il_f, il_t, il_f, ez_t, ez_f, if_true, if_false, upS_h, upS_o, upS_i, Int.reduceAdd, Int.reduceSub, Int.reduceMul, Int.reduceNeg, wI_id, h.2.2.1.1, m_fit (JM_of h) hw hw.2.2.1.1 c.1 c.2 c2.1 c2.2]
      exact oM_ret _ h
    · rw [if_neg c2, if_neg (show ¬ ((0 ≤ u ∧ u < α 0 0) ∧ 0 ≤ k ∧ k < α 0 1) from fun z => c2 z.2), if_neg (show ¬ ((0 ≤ u ∧ u < α 0 0) ∧ 0 ≤ k ∧ k < α 0 1) from fun z => c2 z.2)]
      simp (disch := omega) only [↓rdA_t, ↓wrA_t, ↓ixA_t, ↓wrF_d, ↓bd2_s, ↓bd1_s, ↓bnd_d, ↓iww_t, ↓iww_f, ↓iwl_t, ↓iwl_f, ↓ilw_t, ↓ilw_f, ↓eww_t, ↓eww_f, ↓ewl_t, ↓ewl_f, ↓ez_t, ↓ez_f, ↓il_t, ↓il_f, il_t, il_f, ez_t, ez_f, if_true, if_false, upS_h, upS_o, upS_i, Int.reduceAdd, Int.reduceSub, Int.reduceMul, Int.reduceNeg, wI_id]
      exact oM_id (oM_bad (-2) h)
  · rw [if_neg c, if_neg (show ¬ ((0 ≤ u ∧ u < α 0 0) ∧ 0 ≤ k ∧ k < α 0 1) from fun z => c z.1), if_neg (show ¬ ((0 ≤ u ∧ u < α 0 0) ∧ 0 ≤ k ∧ k < α 0 1) from fun z => c z.1)]
    simp (disch := omega) only [↓rdA_t, ↓wrA_t, ↓ixA_t, ↓wrF_d, ↓bd2_s, ↓bd1_s, ↓bnd_d, ↓iww_t, ↓iww_f, ↓iwl_t, ↓iwl_f, ↓ilw_t, ↓ilw_f, ↓eww_t, ↓eww_f, ↓ewl_t, ↓ewl_f, ↓ez_t, ↓ez_f, ↓il_t, ↓il_f, il_t, il_f, ez_t, ez_f, if_true, if_false, upS_h, upS_o, upS_i, Int.reduceAdd, Int.reduceSub, Int.reduceMul, Int.reduceNeg, wI_id]
    exact oM_id (oM_bad (-2) h)
theorem wf_fit {α : St} {u k : Int} (hw : WF α) : WF (aFt α u k) := by
  unfold aFt
  by_cases c : (0 ≤ u ∧ u < α 0 0) ∧ 0 ≤ k ∧ k < α 0 1
  · rw [if_pos c]; exact hw
  · rw [if_neg c]; exact WF_aR 3 (by omega) hw
theorem xc_joint {σ α : St} {u v : Int} (h : IC σ α) (hw : WF α) (hu : inR u) (hv : inR v) : oC (f_X9_joint σ u v) σ α (rJt α u v) (aJt α u v) := by
  have e1 := c_isU h.1 hw.1 hu
  have e2 := c_isU h.1 hw.1 hv
  unfold f_X9_joint rJt aJt
  rw [e1, e2]
  by_cases c : 0 ≤ u ∧ u < α 0 0
  · rw [if_pos c]
    by_cases c2 : 0 ≤ v ∧ v < α 0 0
    · rw [if_pos c2, if_pos (⟨c, c2⟩ : (0 ≤ u ∧ u < α 0 0) ∧ 0 ≤ v ∧ v < α 0 0), if_pos (⟨c, c2⟩ : (0 ≤ u ∧ u < α 0 0) ∧ 0 ≤ v ∧ v < α 0 0)]
      simp (disch := omega) only [↓rdA_t, ↓wrA_t, ↓ixA_t, ↓wrF_d, ↓bd2_s, ↓bd1_s, ↓bnd_d, ↓iww_t, ↓iww_f, ↓iwl_t, ↓iwl_f, ↓ilw_t, ↓ilw_f, ↓eww_t, ↓eww_f, ↓ewl_t, ↓ewl_f, ↓ez_t, ↓ez_f, ↓il_t, ↓il_f, il_t, il_f, ez_t, ez_f, if_true, if_false, upS_h, upS_o, upS_i, Int.reduceAdd, Int.reduceSub, Int.reduceMul, Int.reduceNeg, wI_id, c_joint h.1 hw.1 c.1 c.2 c2.1 c2.2]
      exact oC_ret _ h
    · rw [if_neg c2, if_neg (show ¬ ((0 ≤ u ∧ u < α 0 0) ∧ 0 ≤ v ∧ v < α 0 0) from fun z => c2 z.2), if_neg (show ¬ ((0 ≤ u ∧ u < α 0 0) ∧ 0 ≤ v ∧ v < α 0 0) from fun z => c2 z.2)]
      simp (disch := omega) only [↓rdA_t, ↓wrA_t, ↓ixA_t, ↓wrF_d, ↓bd2_s, ↓bd1_s, ↓bnd_d, ↓iww_t, ↓iww_f, ↓iwl_t, ↓iwl_f, ↓ilw_t, ↓ilw_f, ↓eww_t, ↓eww_f, ↓ewl_t, ↓ewl_f, ↓ez_t, ↓ez_f, ↓il_t, ↓il_f, il_t, il_f, ez_t, ez_f, if_true, if_false, upS_h, upS_o, upS_i, Int.reduceAdd, Int.reduceSub, Int.reduceMul, Int.reduceNeg, wI_id]
      exact oC_id (oC_bad h)
  · rw [if_neg c, if_neg (show ¬ ((0 ≤ u ∧ u < α 0 0) ∧ 0 ≤ v ∧ v < α 0 0) from fun z => c z.1), if_neg (show ¬ ((0 ≤ u ∧ u < α 0 0) ∧ 0 ≤ v ∧ v < α 0 0) from fun z => c z.1)]
    simp (disch := omega) only [↓rdA_t, ↓wrA_t, ↓ixA_t, ↓wrF_d, ↓bd2_s, ↓bd1_s, ↓bnd_d, ↓iww_t, ↓iww_f, ↓iwl_t, ↓iwl_f, ↓ilw_t, ↓ilw_f, ↓eww_t, ↓eww_f, ↓ewl_t, ↓ewl_f, ↓ez_t, ↓ez_f, ↓il_t, ↓il_f, il_t, il_f, ez_t, ez_f, if_true, if_false, upS_h, upS_o, upS_i, Int.reduceAdd, Int.reduceSub, Int.reduceMul, Int.reduceNeg, wI_id]
    exact oC_id (oC_bad h)
theorem xm_joint {σ α : St} {u v : Int} (h : IM σ α) (hw : WF α) (hu : inR u) (hv : inR v) : oM (f_X10_joint σ u v) σ α (rJt α u v) (aJt α u v) := by
  have e1 := m_isU h.1 hw.1 hu
  have e2 := m_isU h.1 hw.1 hv
  unfold f_X10_joint rJt aJt
  rw [e1, e2]
  by_cases c : 0 ≤ u ∧ u < α 0 0
  · rw [if_pos c]
    by_cases c2 : 0 ≤ v ∧ v < α 0 0
    · rw [if_pos c2, if_pos (⟨c, c2⟩ : (0 ≤ u ∧ u < α 0 0) ∧ 0 ≤ v ∧ v < α 0 0), if_pos (⟨c, c2⟩ : (0 ≤ u ∧ u < α 0 0) ∧ 0 ≤ v ∧ v < α 0 0)]
      simp (disch := omega) only [↓rdA_t, ↓wrA_t, ↓ixA_t, ↓wrF_d, ↓bd2_s, ↓bd1_s, ↓bnd_d, ↓iww_t, ↓iww_f, ↓iwl_t, ↓iwl_f, ↓ilw_t, ↓ilw_f, ↓eww_t, ↓eww_f, ↓ewl_t, ↓ewl_f, ↓ez_t, ↓ez_f, ↓il_t, ↓il_f, il_t, il_f, ez_t, ez_f, if_true, if_false, upS_h, upS_o, upS_i, Int.reduceAdd, Int.reduceSub, Int.reduceMul, Int.reduceNeg, wI_id, m_joint h.1 hw.1 c.1 c.2 c2.1 c2.2]
      exact oM_ret _ h
    · rw [if_neg c2, if_neg (show ¬ ((0 ≤ u ∧ u < α 0 0) ∧ 0 ≤ v ∧ v < α 0 0) from fun z => c2 z.2), if_neg (show ¬ ((0 ≤ u ∧ u < α 0 0) ∧ 0 ≤ v ∧ v < α 0 0) from fun z => c2 z.2)]
      simp (disch := omega) only [↓rdA_t, ↓wrA_t, ↓ixA_t, ↓wrF_d, ↓bd2_s, ↓bd1_s, ↓bnd_d, ↓iww_t, ↓iww_f, ↓iwl_t, ↓iwl_f, ↓ilw_t, ↓ilw_f, ↓eww_t, ↓eww_f, ↓ewl_t, ↓ewl_f, ↓ez_t, ↓ez_f, ↓il_t, ↓il_f, il_t, il_f, ez_t, ez_f, if_true, if_false, upS_h, upS_o, upS_i, Int.reduceAdd, Int.reduceSub, Int.reduceMul, Int.reduceNeg, wI_id]
      exact oM_id (oM_bad (-2) h)
  · rw [if_neg c, if_neg (show ¬ ((0 ≤ u ∧ u < α 0 0) ∧ 0 ≤ v ∧ v < α 0 0) from fun z => c z.1), if_neg (show ¬ ((0 ≤ u ∧ u < α 0 0) ∧ 0 ≤ v ∧ v < α 0 0) from fun z => c z.1)]
    simp (disch := omega) only [↓rdA_t, ↓wrA_t, ↓ixA_t, ↓wrF_d, ↓bd2_s, ↓bd1_s, ↓bnd_d, ↓iww_t, ↓iww_f, ↓iwl_t, ↓iwl_f, ↓ilw_t, ↓ilw_f, ↓eww_t, ↓eww_f, ↓ewl_t, ↓ewl_f, ↓ez_t, ↓ez_f, ↓il_t, ↓il_f, il_t, il_f, ez_t, ez_f, if_true, if_false, upS_h, upS_o, upS_i, Int.reduceAdd, Int.reduceSub, Int.reduceMul, Int.reduceNeg, wI_id]
    exact oM_id (oM_bad (-2) h)
theorem wf_joint {α : St} {u v : Int} (hw : WF α) : WF (aJt α u v) := by
  unfold aJt
  by_cases c : (0 ≤ u ∧ u < α 0 0) ∧ 0 ≤ v ∧ v < α 0 0
  · rw [if_pos c]; exact hw
  · rw [if_neg c]; exact WF_aR 3 (by omega) hw
