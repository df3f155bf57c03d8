/-! ===== the reference takes an entry in ===== -/
theorem m_offers {σ : St} {v b s : Int} (hb : σ 118 34 = b) (hs : σ 118 35 = s) (h1 : -1 ≤ b ∧ b ≤ 2000000) (h2 : -1 ≤ s ∧ s ≤ 2000000) (h3 : 0 ≤ v ∧ v ≤ 2000000) : ∃ τ, f_X10_offers σ v = some (0, τ) ∧ τ 118 34 = oB b v ∧ τ 118 35 = oS b s v ∧ (∀ o, ¬ o = 118 → τ o = σ o) ∧ ∀ i, ¬ i = 34 → ¬ i = 35 → τ 118 i = σ 118 i := by
  unfold f_X10_offers oB oS
  by_cases c1 : b = -1
  · simp (disch := omega) only [↓rdA_t, ↓wrA_t, ↓ixA_t, ↓wrF_d, ↓bd2_s, ↓bd1_s, ↓bnd_d, ↓iww_t, ↓iww_f, ↓iwl_t, ↓iwl_f, ↓ilw_t, ↓ilw_f, ↓eww_t, ↓eww_f, ↓ewl_t, ↓ewl_f, ↓ez_t, ↓ez_f, ↓il_t, ↓il_f, il_t, il_f, ez_t, ez_f, if_true, if_false, upS_h, upS_o, upS_i, Int.reduceAdd, Int.reduceSub, Int.reduceMul, Int.reduceNeg, wI_id, hb]
    exact ⟨_, rfl, by simp (disch := omega) only [upS_h, upS_o, upS_i, Int.reduceAdd, Int.reduceSub, Int.reduceMul, Int.reduceNeg], by simp (disch := omega) only [upS_h, upS_o, upS_i, Int.reduceAdd, Int.reduceSub, Int.reduceMul, Int.reduceNeg], fun o ho => by rw [upS_of ho, upS_of ho], fun i i1 i2 => by rw [upS_i i1, upS_i i2]⟩
  · by_cases c2 : v < b
    · simp (disch := omega) only [↓rdA_t, ↓wrA_t, ↓ixA_t, ↓wrF_d, ↓bd2_s, ↓bd1_s, ↓bnd_d, ↓iww_t, ↓iww_f, ↓iwl_t, ↓iwl_f, ↓ilw_t, ↓ilw_f, ↓eww_t, ↓eww_f, ↓ewl_t, ↓ewl_f, ↓ez_t, ↓ez_f, ↓il_t, ↓il_f, il_t, il_f, ez_t, ez_f, if_true, if_false, upS_h, upS_o, upS_i, Int.reduceAdd, Int.reduceSub, Int.reduceMul, Int.reduceNeg, wI_id, hb]
      exact ⟨_, rfl, by simp (disch := omega) only [upS_h, upS_o, upS_i, Int.reduceAdd, Int.reduceSub, Int.reduceMul, Int.reduceNeg], by simp (disch := omega) only [upS_h, upS_o, upS_i, Int.reduceAdd, Int.reduceSub, Int.reduceMul, Int.reduceNeg], fun o ho => by rw [upS_of ho, upS_of ho], fun i i1 i2 => by rw [upS_i i1, upS_i i2]⟩
    · by_cases c3 : s = -1
      · simp (disch := omega) only [↓rdA_t, ↓wrA_t, ↓ixA_t, ↓wrF_d, ↓bd2_s, ↓bd1_s, ↓bnd_d, ↓iww_t, ↓iww_f, ↓iwl_t, ↓iwl_f, ↓ilw_t, ↓ilw_f, ↓eww_t, ↓eww_f, ↓ewl_t, ↓ewl_f, ↓ez_t, ↓ez_f, ↓il_t, ↓il_f, il_t, il_f, ez_t, ez_f, if_true, if_false, upS_h, upS_o, upS_i, Int.reduceAdd, Int.reduceSub, Int.reduceMul, Int.reduceNeg, wI_id, hb, hs]
        exact ⟨_, rfl, by simp (disch := omega) only [upS_h, upS_o, upS_i, Int.reduceAdd, Int.reduceSub, Int.reduceMul, Int.reduceNeg]; exact hb, by simp (disch := omega) only [upS_h, upS_o, upS_i, Int.reduceAdd, Int.reduceSub, Int.reduceMul, Int.reduceNeg], fun o ho => by rw [upS_of ho], fun i i1 i2 => by rw [upS_i i2]⟩
      · by_cases c4 : v < s
        · simp (disch := omega) only [↓rdA_t, ↓wrA_t, ↓ixA_t, ↓wrF_d, ↓bd2_s, ↓bd1_s, ↓bnd_d, ↓iww_t, ↓iww_f, ↓iwl_t, ↓iwl_f, ↓ilw_t, ↓ilw_f, ↓eww_t, ↓eww_f, ↓ewl_t, ↓ewl_f, ↓ez_t, ↓ez_f, ↓il_t, ↓il_f, il_t, il_f, ez_t, ez_f, if_true, if_false, upS_h, upS_o, upS_i, Int.reduceAdd, Int.reduceSub, Int.reduceMul, Int.reduceNeg, wI_id, hb, hs]
          exact ⟨_, rfl, by simp (disch := omega) only [upS_h, upS_o, upS_i, Int.reduceAdd, Int.reduceSub, Int.reduceMul, Int.reduceNeg]; exact hb, by simp (disch := omega) only [upS_h, upS_o, upS_i, Int.reduceAdd, Int.reduceSub, Int.reduceMul, Int.reduceNeg], fun o ho => by rw [upS_of ho], fun i i1 i2 => by rw [upS_i i2]⟩
        · simp (disch := omega) only [↓rdA_t, ↓wrA_t, ↓ixA_t, ↓wrF_d, ↓bd2_s, ↓bd1_s, ↓bnd_d, ↓iww_t, ↓iww_f, ↓iwl_t, ↓iwl_f, ↓ilw_t, ↓ilw_f, ↓eww_t, ↓eww_f, ↓ewl_t, ↓ewl_f, ↓ez_t, ↓ez_f, ↓il_t, ↓il_f, il_t, il_f, ez_t, ez_f, if_true, if_false, upS_h, upS_o, upS_i, Int.reduceAdd, Int.reduceSub, Int.reduceMul, Int.reduceNeg, wI_id, hb, hs]
          exact ⟨σ, rfl, hb, hs, fun _ _ => rfl, fun _ _ _ => rfl⟩
theorem cmp_cap {z : Int} (h : 0 ≤ z ∧ z ≤ 4000000000) : cmpL z 1000000000 = if 1000000000 < z then 1 else if z = 1000000000 then 0 else -1 := by
  unfold cmpL
  rw [wL_id (x := z) (by omega) (by omega), wL_id (x := 1000000000) (by omega) (by omega)]
theorem m_118 {σ : St} {e t t0 x m : Int} (he : 0 ≤ e ∧ e < 320) (hx : σ 118 36 = x) (hm : σ 139 e = m) (h1 : -1 ≤ x ∧ x ≤ 2000000) (h2 : 0 ≤ m ∧ m ≤ 1000000) (h3 : 0 ≤ t ∧ t ≤ 1000) : ∃ τ, jn_X10_takesIn_118 σ e t t0 = some (0, τ) ∧ τ 118 37 = t0 ∧ τ 118 36 = tX x m t ∧ (∀ o, ¬ o = 118 → τ o = σ o) ∧ ∀ i, ¬ i = 36 → ¬ i = 37 → τ 118 i = σ 118 i := by
  unfold jn_X10_takesIn_118 tX
  by_cases c : x < m + t
  · simp (disch := omega) only [↓rdA_t, ↓wrA_t, ↓ixA_t, ↓wrF_d, ↓bd2_s, ↓bd1_s, ↓bnd_d, ↓iww_t, ↓iww_f, ↓iwl_t, ↓iwl_f, ↓ilw_t, ↓ilw_f, ↓eww_t, ↓eww_f, ↓ewl_t, ↓ewl_f, ↓ez_t, ↓ez_f, ↓il_t, ↓il_f, il_t, il_f, ez_t, ez_f, if_true, if_false, upS_h, upS_o, upS_i, Int.reduceAdd, Int.reduceSub, Int.reduceMul, Int.reduceNeg, wI_id, hx, hm]
    exact ⟨_, rfl, by simp (disch := omega) only [upS_h, upS_o, upS_i, Int.reduceAdd, Int.reduceSub, Int.reduceMul, Int.reduceNeg], by simp (disch := omega) only [upS_h, upS_o, upS_i, Int.reduceAdd, Int.reduceSub, Int.reduceMul, Int.reduceNeg], fun o ho => by rw [upS_of ho, upS_of ho], fun i i1 i2 => by rw [upS_i i1, upS_i i2]⟩
  · simp (disch := omega) only [↓rdA_t, ↓wrA_t, ↓ixA_t, ↓wrF_d, ↓bd2_s, ↓bd1_s, ↓bnd_d, ↓iww_t, ↓iww_f, ↓iwl_t, ↓iwl_f, ↓ilw_t, ↓ilw_f, ↓eww_t, ↓eww_f, ↓ewl_t, ↓ewl_f, ↓ez_t, ↓ez_f, ↓il_t, ↓il_f, il_t, il_f, ez_t, ez_f, if_true, if_false, upS_h, upS_o, upS_i, Int.reduceAdd, Int.reduceSub, Int.reduceMul, Int.reduceNeg, wI_id, hx, hm]
    exact ⟨_, rfl, by simp (disch := omega) only [upS_h, upS_o, upS_i, Int.reduceAdd, Int.reduceSub, Int.reduceMul, Int.reduceNeg], by simp (disch := omega) only [upS_h, upS_o, upS_i, Int.reduceAdd, Int.reduceSub, Int.reduceMul, Int.reduceNeg], fun o ho => by rw [upS_of ho, upS_of ho], fun i i1 i2 => by rw [upS_i i1, upS_i i2]⟩
theorem m_84 {σ : St} {e t z x m y : Int} (he : 0 ≤ e ∧ e < 320) (hx : σ 118 36 = x) (hm : σ 139 e = m) (hy : σ 140 e = y) (h1 : -1 ≤ x ∧ x ≤ 2000000) (h2 : 0 ≤ m ∧ m ≤ 1000000) (h3 : 0 ≤ t ∧ t ≤ 1000) (h4 : 0 ≤ y ∧ y ≤ 1000000000) (h5 : 0 ≤ z ∧ z ≤ 1000000000) : ∃ τ, jn_X10_takesIn_84 σ e t z = some (0, τ) ∧ τ 118 37 = cap (z + y) ∧ τ 118 36 = tX x m t ∧ (∀ o, ¬ o = 118 → τ o = σ o) ∧ ∀ i, ¬ i = 36 → ¬ i = 37 → τ 118 i = σ 118 i := by
  unfold jn_X10_takesIn_84 cap
  rw [rdA_t (by omega), hy, i2l_r (by omega), cmp_cap (by omega)]
  by_cases c : 1000000000 < z + y
  · rw [if_pos c, if_pos c, if_pos (by omega)]
    exact m_118 he hx hm h1 h2 h3
  · rw [if_neg c, if_neg c, rdA_t (by omega), hy, i2l_r (by omega)]
    rw [if_neg (by
      by_cases c2 : z + y = 1000000000
      · rw [if_pos c2]; omega
      · rw [if_neg c2]; omega)]
    exact m_118 he hx hm h1 h2 h3
theorem m_take {σ : St} {e b s x w l q m y t B : Int} (he : 0 ≤ e ∧ e < 320) (hb : σ 118 34 = b) (hs : σ 118 35 = s) (hx : σ 118 36 = x) (hW : σ 118 37 = w) (hl : σ 137 e = l) (hq : σ 138 e = q) (hm : σ 139 e = m) (hy : σ 140 e = y) (hF : okF B b s x w) (hE : okE B l q m y) (hB : B ≤ 1000) (ht : 0 ≤ t ∧ t ≤ 16) : ∃ τ, f_X10_takesIn σ e t = some (0, τ) ∧ (τ 118 34 = tB b l q t ∧ τ 118 35 = tS b s l q t ∧ τ 118 36 = tX x m t ∧ τ 118 37 = tW b w l y t) ∧ (∀ o, ¬ o = 118 → τ o = σ o) ∧ ∀ i, (i < 34 ∨ 37 < i) → τ 118 i = σ 118 i := by
  obtain ⟨p1, p2, p3, p4⟩ := hE
  have hX : -1 ≤ x ∧ x ≤ 1000 ∧ -1 ≤ b ∧ b ≤ 1000 ∧ -1 ≤ s ∧ s ≤ 1000 ∧ 0 ≤ w ∧ w ≤ 1000000000 := by
    rcases hF with hF | ⟨f1, f2, f3, f4⟩ <;> omega
  obtain ⟨τ, g1, g2, g3, g4, g5⟩ := m_offers (v := l + t) hb hs (by omega) (by omega) (by omega)
  have rB : -1 ≤ oB b (l + t) ∧ oB b (l + t) ≤ 2000 := by
    unfold oB
    by_cases c1 : b = -1
    · rw [if_pos c1]; omega
    · rw [if_neg c1]
      by_cases c2 : l + t < b
      · rw [if_pos c2]; omega
      · rw [if_neg c2]; omega
  have rS : -1 ≤ oS b s (l + t) ∧ oS b s (l + t) ≤ 2000 := by
    unfold oS
    by_cases c1 : b = -1
    · rw [if_pos c1]; omega
    · rw [if_neg c1]
      by_cases c2 : l + t < b
      · rw [if_pos c2]; omega
      · rw [if_neg c2]
        by_cases c3 : s = -1
        · rw [if_pos c3]; omega
        · rw [if_neg c3]
          by_cases c4 : l + t < s
          · rw [if_pos c4]; omega
          · rw [if_neg c4]; omega
  have fin : ∀ ρ : St, (∀ o, ¬ o = 118 → ρ o = σ o) → (∀ i, ¬ i = 34 → ¬ i = 35 → ρ 118 i = σ 118 i) → ∃ τ, jn_X10_takesIn_43 ρ e t b (l + t) = some (0, τ) ∧ τ 118 37 = tW b w l y t ∧ τ 118 36 = tX x m t ∧ (∀ o, ¬ o = 118 → τ o = ρ o) ∧ ∀ i, ¬ i = 36 → ¬ i = 37 → τ 118 i = ρ 118 i := by
    intro ρ r1 r2
    have rx : ρ 118 36 = x := by rw [r2 36 (by omega) (by omega)]; exact hx
    have rw' : ρ 118 37 = w := by rw [r2 37 (by omega) (by omega)]; exact hW
    have rm : ρ 139 e = m := by rw [r1 139 (by omega)]; exact hm
    have ry : ρ 140 e = y := by rw [r1 140 (by omega)]; exact hy
    unfold jn_X10_takesIn_43 tW
    by_cases c1 : b = -1
    · rw [if_pos c1]
      simp (disch := omega) only [↓rdA_t, ↓wrA_t, ↓ixA_t, ↓wrF_d, ↓bd2_s, ↓bd1_s, ↓bnd_d, ↓iww_t, ↓iww_f, ↓iwl_t, ↓iwl_f, ↓ilw_t, ↓ilw_f, ↓eww_t, ↓eww_f, ↓ewl_t, ↓ewl_f, ↓ez_t, ↓ez_f, ↓il_t, ↓il_f, il_t, il_f, ez_t, ez_f, if_true, if_false, upS_h, upS_o, upS_i, Int.reduceAdd, Int.reduceSub, Int.reduceMul, Int.reduceNeg, wI_id]
      exact m_84 he rx rm ry (by omega) (by omega) (by omega) p4 (by omega)
    · rw [if_neg c1]
      by_cases c2 : b < l + t
      · rw [if_pos c2]
        simp (disch := omega) only [↓rdA_t, ↓wrA_t, ↓ixA_t, ↓wrF_d, ↓bd2_s, ↓bd1_s, ↓bnd_d, ↓iww_t, ↓iww_f, ↓iwl_t, ↓iwl_f, ↓ilw_t, ↓ilw_f, ↓eww_t, ↓eww_f, ↓ewl_t, ↓ewl_f, ↓ez_t, ↓ez_f, ↓il_t, ↓il_f, il_t, il_f, ez_t, ez_f, if_true, if_false, upS_h, upS_o, upS_i, Int.reduceAdd, Int.reduceSub, Int.reduceMul, Int.reduceNeg, wI_id, rw']
        exact m_118 he rx rm (by omega) (by omega) (by omega)
      · rw [if_neg c2]
        by_cases c3 : l + t < b
        · rw [if_pos c3]
          simp (disch := omega) only [↓rdA_t, ↓wrA_t, ↓ixA_t, ↓wrF_d, ↓bd2_s, ↓bd1_s, ↓bnd_d, ↓iww_t, ↓iww_f, ↓iwl_t, ↓iwl_f, ↓ilw_t, ↓ilw_f, ↓eww_t, ↓eww_f, ↓ewl_t, ↓ewl_f, ↓ez_t, ↓ez_f, ↓il_t, ↓il_f, il_t, il_f, ez_t, ez_f, if_true, if_false, upS_h, upS_o, upS_i, Int.reduceAdd, Int.reduceSub, Int.reduceMul, Int.reduceNeg, wI_id]
          exact m_84 he rx rm ry (by omega) (by omega) (by omega) p4 (by omega)
        · rw [if_neg c3]
          simp (disch := omega) only [↓rdA_t, ↓wrA_t, ↓ixA_t, ↓wrF_d, ↓bd2_s, ↓bd1_s, ↓bnd_d, ↓iww_t, ↓iww_f, ↓iwl_t, ↓iwl_f, ↓ilw_t, ↓ilw_f, ↓eww_t, ↓eww_f, ↓ewl_t, ↓ewl_f, ↓ez_t, ↓ez_f, ↓il_t, ↓il_f, il_t, il_f, ez_t, ez_f, if_true, if_false, upS_h, upS_o, upS_i, Int.reduceAdd, Int.reduceSub, Int.reduceMul, Int.reduceNeg, wI_id, rw', i2l_r]
          exact m_84 he rx rm ry (by omega) (by omega) (by omega) p4 (by omega)
  unfold f_X10_takesIn tB tS
  by_cases cq : q = -1
  · obtain ⟨ρ, f1, f2, f3, f4, f5⟩ := fin τ g4 g5
    have tq : τ 138 e = q := by rw [g4 138 (by omega)]; exact hq
    rw [if_pos cq, if_pos cq]
    refine ⟨ρ, ?_, ⟨by rw [f5 34 (by omega) (by omega)]; exact g2, by rw [f5 35 (by omega) (by omega)]; exact g3, f3, f2⟩, fun o ho => by rw [f4 o ho, g4 o ho], fun i hi => by rw [f5 i (by omega) (by omega), g5 i (by omega) (by omega)]⟩
    simp (disch := omega) only [↓rdA_t, ↓wrA_t, ↓ixA_t, ↓wrF_d, ↓bd2_s, ↓bd1_s, ↓bnd_d, ↓iww_t, ↓iww_f, ↓iwl_t, ↓iwl_f, ↓ilw_t, ↓ilw_f, ↓eww_t, ↓eww_f, ↓ewl_t, ↓ewl_f, ↓ez_t, ↓ez_f, ↓il_t, ↓il_f, il_t, il_f, ez_t, ez_f, if_true, if_false, upS_h, upS_o, upS_i, Int.reduceAdd, Int.reduceSub, Int.reduceMul, Int.reduceNeg, wI_id, hl, g1, tq, hb, f1]
  · obtain ⟨τ2, k1, k2, k3, k4, k5⟩ := m_offers (σ := τ) (v := q + t) g2 g3 (by omega) (by omega) (by omega)
    obtain ⟨ρ, f1, f2, f3, f4, f5⟩ := fin τ2 (fun o ho => by rw [k4 o ho, g4 o ho]) (fun i i1 i2 => by rw [k5 i i1 i2, g5 i i1 i2])
    have tq : τ 138 e = q := by rw [g4 138 (by omega)]; exact hq
    rw [if_neg cq, if_neg cq]
    refine ⟨ρ, ?_, ⟨by rw [f5 34 (by omega) (by omega)]; exact k2, by rw [f5 35 (by omega) (by omega)]; exact k3, f3, f2⟩, fun o ho => by rw [f4 o ho, k4 o ho, g4 o ho], fun i hi => by rw [f5 i (by omega) (by omega), k5 i (by omega) (by omega), g5 i (by omega) (by omega)]⟩
    simp (disch := omega) only [↓rdA_t, ↓wrA_t, ↓ixA_t, ↓wrF_d, ↓bd2_s, ↓bd1_s, ↓bnd_d, ↓iww_t, ↓iww_f, ↓iwl_t, ↓iwl_f, ↓ilw_t, ↓ilw_f, ↓eww_t, ↓eww_f, ↓ewl_t, ↓ewl_f, ↓ez_t, ↓ez_f, ↓il_t, ↓il_f, il_t, il_f, ez_t, ez_f, if_true, if_false, upS_h, upS_o, upS_i, Int.reduceAdd, Int.reduceSub, Int.reduceMul, Int.reduceNeg, wI_id, hl, g1, tq, k1, hb, f1]
