/-! ===== empties ===== -/
def aEmp (α : St) : St := upS α 0 0 0
theorem xc_empties {σ α : St} (h : IC σ α) : oC (f_X9_empties σ) σ α (α 0 0) (aEmp α) := by
  unfold f_X9_empties f_X8_removeAll aEmp
  simp (disch := omega) only [↓rdA_t, ↓wrA_t, ↓ixA_t, ↓wrF_d, ↓bd2_s, ↓bd1_s, ↓bnd_d, ↓iww_t, ↓iww_f, ↓iwl_t, ↓iwl_f, ↓ilw_t, ↓ilw_f, ↓eww_t, ↓eww_f, ↓ewl_t, ↓ewl_f, ↓ez_t, ↓ez_f, ↓il_t, ↓il_f, il_t, il_f, ez_t, ez_f, if_true, if_false, upS_h, upS_o, upS_i, Int.reduceAdd, Int.reduceSub, Int.reduceMul, Int.reduceNeg, wI_id]
  rw [lp_X8_removeAll_7]
  simp (disch := omega) only [↓rdA_t, ↓wrA_t, ↓ixA_t, ↓wrF_d, ↓bd2_s, ↓bd1_s, ↓bnd_d, ↓iww_t, ↓iww_f, ↓iwl_t, ↓iwl_f, ↓ilw_t, ↓ilw_f, ↓eww_t, ↓eww_f, ↓ewl_t, ↓ewl_f, ↓ez_t, ↓ez_f, ↓il_t, ↓il_f, il_t, il_f, ez_t, ez_f, if_true, if_false, upS_h, upS_o, upS_i, Int.reduceAdd, Int.reduceSub, Int.reduceMul, Int.reduceNeg, wI_id]
  rw [lp_X8_removeAll_7]
  simp (disch := omega) only [↓rdA_t, ↓wrA_t, ↓ixA_t, ↓wrF_d, ↓bd2_s, ↓bd1_s, ↓bnd_d, ↓iww_t, ↓iww_f, ↓iwl_t, ↓iwl_f, ↓ilw_t, ↓ilw_f, ↓eww_t, ↓eww_f, ↓ewl_t, ↓ewl_f, ↓ez_t, ↓ez_f, ↓il_t, ↓il_f, il_t, il_f, ez_t, ez_f, if_true, if_false, upS_h, upS_o, upS_i, Int.reduceAdd, Int.reduceSub, Int.reduceMul, Int.reduceNeg, wI_id]
  rw [lp_X8_removeAll_7]
  simp (disch := omega) only [↓rdA_t, ↓wrA_t, ↓ixA_t, ↓wrF_d, ↓bd2_s, ↓bd1_s, ↓bnd_d, ↓iww_t, ↓iww_f, ↓iwl_t, ↓iwl_f, ↓ilw_t, ↓ilw_f, ↓eww_t, ↓eww_f, ↓ewl_t, ↓ewl_f, ↓ez_t, ↓ez_f, ↓il_t, ↓il_f, il_t, il_f, ez_t, ez_f, if_true, if_false, upS_h, upS_o, upS_i, Int.reduceAdd, Int.reduceSub, Int.reduceMul, Int.reduceNeg, wI_id]
  rw [lp_X8_removeAll_7]
  simp (disch := omega) only [↓rdA_t, ↓wrA_t, ↓ixA_t, ↓wrF_d, ↓bd2_s, ↓bd1_s, ↓bnd_d, ↓iww_t, ↓iww_f, ↓iwl_t, ↓iwl_f, ↓ilw_t, ↓ilw_f, ↓eww_t, ↓eww_f, ↓ewl_t, ↓ewl_f, ↓ez_t, ↓ez_f, ↓il_t, ↓il_f, il_t, il_f, ez_t, ez_f, if_true, if_false, upS_h, upS_o, upS_i, Int.reduceAdd, Int.reduceSub, Int.reduceMul, Int.reduceNeg, wI_id]
  rw [lp_X8_removeAll_7]
  simp (disch := omega) only [↓rdA_t, ↓wrA_t, ↓ixA_t, ↓wrF_d, ↓bd2_s, ↓bd1_s, ↓bnd_d, ↓iww_t, ↓iww_f, ↓iwl_t, ↓iwl_f, ↓ilw_t, ↓ilw_f, ↓eww_t, ↓eww_f, ↓ewl_t, ↓ewl_f, ↓ez_t, ↓ez_f, ↓il_t, ↓il_f, il_t, il_f, ez_t, ez_f, if_true, if_false, upS_h, upS_o, upS_i, Int.reduceAdd, Int.reduceSub, Int.reduceMul, Int.reduceNeg, wI_id]
  refine ⟨_, by rw [h.1.1], IC_chU (fun o ho => by simp (disch := omega) only [upS_of]) (fun i _ => upS_i (by omega)) (fun o _ => upS_of (by omega)) h ⟨by simp (disch := omega) only [upS_h, upS_o, upS_i, Int.reduceAdd, Int.reduceSub, Int.reduceMul, Int.reduceNeg], fun u h1 h2 => ?_, fun t h1 h2 => ?_⟩, fun o ho => by simp (disch := omega) only [upS_of]⟩
  · rw [upS_h ⟨rfl, rfl⟩] at h2; omega
  · left
    have : t = 0 ∨ t = 1 ∨ t = 2 ∨ t = 3 := by omega
    refine ⟨?_, fun v h3 h4 => by rw [upS_h ⟨rfl, rfl⟩] at h4; omega⟩
    rcases this with rfl | rfl | rfl | rfl <;> simp (disch := omega) only [upS_h, upS_o, upS_i, Int.reduceAdd, Int.reduceSub, Int.reduceMul, Int.reduceNeg]
theorem xm_empties {σ α : St} (h : IM σ α) : oM (f_X10_empties σ) σ α (α 0 0) (aEmp α) := by
  unfold f_X10_empties aEmp
  simp (disch := omega) only [↓rdA_t, ↓wrA_t, ↓ixA_t, ↓wrF_d, ↓bd2_s, ↓bd1_s, ↓bnd_d, ↓iww_t, ↓iww_f, ↓iwl_t, ↓iwl_f, ↓ilw_t, ↓ilw_f, ↓eww_t, ↓eww_f, ↓ewl_t, ↓ewl_f, ↓ez_t, ↓ez_f, ↓il_t, ↓il_f, il_t, il_f, ez_t, ez_f, if_true, if_false, upS_h, upS_o, upS_i, Int.reduceAdd, Int.reduceSub, Int.reduceMul, Int.reduceNeg, wI_id]
  refine ⟨_, by rw [h.1.1], IM_chU (fun i _ _ => upS_i (by omega)) (fun o _ _ => upS_of (by omega)) (fun i _ => upS_i (by omega)) (fun o _ => upS_of (by omega)) h ⟨by simp (disch := omega) only [upS_h, upS_o, upS_i, Int.reduceAdd, Int.reduceSub, Int.reduceMul, Int.reduceNeg], fun u w h1 h2 _ _ => ?_⟩, fun o ho => upS_of (by omega)⟩
  rw [upS_h ⟨rfl, rfl⟩] at h2; omega
theorem wf_empties {α : St} (hw : WF α) : WF (aEmp α) := by
  unfold aEmp
  exact WF_chU (fun i _ => upS_i (by omega)) (fun o _ => upS_of (by omega)) hw ⟨by simp (disch := omega) only [upS_h, upS_o, upS_i, Int.reduceAdd, Int.reduceSub, Int.reduceMul, Int.reduceNeg]; omega, by simp (disch := omega) only [upS_h, upS_o, upS_i, Int.reduceAdd, Int.reduceSub, Int.reduceMul, Int.reduceNeg]; omega, fun u h1 h2 => by rw [upS_h ⟨rfl, rfl⟩] at h2; omega⟩
/-! ===== the next one of a take ===== -/
theorem isNxt_u {α : St} {u r q : Int} (h1 : isNxt α u r) (h2 : isNxt α u q) : r = q := by
  rcases h1 with ⟨a1, a2⟩ | ⟨a1, a2, a3, a4⟩ <;> rcases h2 with ⟨b1, b2⟩ | ⟨b1, b2, b3, b4⟩
  · omega
  · exact absurd b3 (a2 q b1 b2)
  · exact absurd a3 (b2 r a1 a2)
  · rcases Int.lt_trichotomy r q with h | h | h
    · exact absurd a3 (b4 r a1 h)
    · exact h
    · exact absurd b3 (a4 q b1 h)
def nxG (α : St) (u : Int) : Nat → Int → Int
  | 0, _ => -1
  | f + 1, v => if v < α 0 0 then (if α 6 v = α 6 u then v else nxG α u f (v + 1)) else -1
def nxS (α : St) (u : Int) : Int := nxG α u 50 (u + 1)
theorem nxG_is {α : St} (u : Int) : ∀ (f : Nat) (v : Int), u < v → α 0 0 - v < f → (∀ w, u < w → w < v → α 6 w ≠ α 6 u) → isNxt α u (nxG α u f v) := by
  intro f
  induction f with
  | zero => intro v h1 h2 h3; left; exact ⟨rfl, fun w h4 h5 => h3 w h4 (by omega)⟩
  | succ f ih =>
    intro v h1 h2 h3
    unfold nxG
    by_cases c : v < α 0 0
    · rw [if_pos c]
      by_cases c2 : α 6 v = α 6 u
      · rw [if_pos c2]; right; exact ⟨h1, c, c2, h3⟩
      · rw [if_neg c2]
        refine ih (v + 1) (by omega) (by omega) (fun w h4 h5 => ?_)
        by_cases c3 : w = v
        · rw [c3]; exact c2
        · exact h3 w h4 (by omega)
    · rw [if_neg c]; left; exact ⟨rfl, fun w h4 h5 => h3 w h4 (by omega)⟩
theorem nxS_is {α : St} {u : Int} (hw : wU α) (h0 : 0 ≤ u) : isNxt α u (nxS α u) := nxG_is u 50 (u + 1) (by omega) (by have := hw.2.1; omega) (fun w h1 h2 => by omega)
theorem nxt_r {α : St} {u r : Int} (hw : wU α) (h0 : 0 ≤ u) (h : isNxt α u r) : -1 ≤ r ∧ r < 40 := by
  have := hw.2.1
  rcases h with ⟨a1, a2⟩ | ⟨a1, a2, a3, a4⟩ <;> omega
theorem c_foll {σ α : St} {u : Int} (h : cU σ α) (hw : wU α) (h0 : 0 ≤ u) (h1 : u < α 0 0) : σ 8 u = nxS α u := isNxt_u (h.2.1 u h0 h1).2.2.2.2.2.2 (nxS_is hw h0)
/-- the reference's row of units -/
theorem m_at {σ α : St} {u w : Int} (h : mU σ α) (hw : wU α) (h0 : 0 ≤ u) (h1 : u < α 0 0) (h2 : 0 ≤ w) (h3 : w < 6) : f_X10_at σ u w = some (α (1 + w) u) := by
  have := hw.2.1
  unfold f_X10_at
  simp (disch := omega) only [↓rdA_t, ↓wrA_t, ↓ixA_t, ↓wrF_d, ↓bd2_s, ↓bd1_s, ↓bnd_d, ↓iww_t, ↓iww_f, ↓iwl_t, ↓iwl_f, ↓ilw_t, ↓ilw_f, ↓eww_t, ↓eww_f, ↓ewl_t, ↓ewl_f, ↓ez_t, ↓ez_f, ↓il_t, ↓il_f, il_t, il_f, ez_t, ez_f, if_true, if_false, upS_h, upS_o, upS_i, Int.reduceAdd, Int.reduceSub, Int.reduceMul, Int.reduceNeg, wI_id, h.2 u w h0 h1 h2 h3]
theorem m_next_g {σ α : St} {u : Int} (h : mU σ α) (hw : wU α) (h0 : 0 ≤ u) (h1 : u < α 0 0) : ∀ (f : Nat) (v : Int), u < v → v ≤ α 0 0 → α 0 0 - v < f → ∀ n : Nat, f < n → lp_X10_nextOf_4 σ u (some (-1)) n v = some (nxG α u f v) := by
  have hn := hw.2.1
  have t1 := (hw.2.2 u h0 h1).2.2.2.2.2
  intro f
  induction f with
  | zero =>
    intro v a a2 b n hn2
    have hs := h.1
    obtain ⟨n, rfl⟩ : ∃ k, n = k + 1 := ⟨n - 1, by omega⟩
    exact absurd b (by omega)
  | succ f ih =>
    intro v a a2 b n hn2
    have hs := h.1
    obtain ⟨n, rfl⟩ : ∃ k, n = k + 1 := ⟨n - 1, by omega⟩
    rw [lp_X10_nextOf_4, nxG]
    by_cases c : v < α 0 0
    · have t2 := (hw.2.2 v (by omega) c).2.2.2.2.2
      rw [if_pos c]
      simp (disch := omega) only [↓rdA_t, ↓wrA_t, ↓ixA_t, ↓wrF_d, ↓bd2_s, ↓bd1_s, ↓bnd_d, ↓iww_t, ↓iww_f, ↓iwl_t, ↓iwl_f, ↓ilw_t, ↓ilw_f, ↓eww_t, ↓eww_f, ↓ewl_t, ↓ewl_f, ↓ez_t, ↓ez_f, ↓il_t, ↓il_f, il_t, il_f, ez_t, ez_f, if_true, if_false, upS_h, upS_o, upS_i, Int.reduceAdd, Int.reduceSub, Int.reduceMul, Int.reduceNeg, wI_id, h.1, m_at h hw (u := v) (w := 5) (by omega) c (by omega) (by omega), m_at h hw (u := u) (w := 5) h0 h1 (by omega) (by omega)]
      by_cases c2 : α 6 v = α 6 u
      · simp (disch := omega) only [↓rdA_t, ↓wrA_t, ↓ixA_t, ↓wrF_d, ↓bd2_s, ↓bd1_s, ↓bnd_d, ↓iww_t, ↓iww_f, ↓iwl_t, ↓iwl_f, ↓ilw_t, ↓ilw_f, ↓eww_t, ↓eww_f, ↓ewl_t, ↓ewl_f, ↓ez_t, ↓ez_f, ↓il_t, ↓il_f, il_t, il_f, ez_t, ez_f, if_true, if_false, upS_h, upS_o, upS_i, Int.reduceAdd, Int.reduceSub, Int.reduceMul, Int.reduceNeg, wI_id]
      · simp (disch := omega) only [↓rdA_t, ↓wrA_t, ↓ixA_t, ↓wrF_d, ↓bd2_s, ↓bd1_s, ↓bnd_d, ↓iww_t, ↓iww_f, ↓iwl_t, ↓iwl_f, ↓ilw_t, ↓ilw_f, ↓eww_t, ↓eww_f, ↓ewl_t, ↓ewl_f, ↓ez_t, ↓ez_f, ↓il_t, ↓il_f, il_t, il_f, ez_t, ez_f, if_true, if_false, upS_h, upS_o, upS_i, Int.reduceAdd, Int.reduceSub, Int.reduceMul, Int.reduceNeg, wI_id]
        exact ih (v + 1) (by omega) (by omega) (by omega) n (by omega)
    · rw [if_neg c]
      simp (disch := omega) only [↓rdA_t, ↓wrA_t, ↓ixA_t, ↓wrF_d, ↓bd2_s, ↓bd1_s, ↓bnd_d, ↓iww_t, ↓iww_f, ↓iwl_t, ↓iwl_f, ↓ilw_t, ↓ilw_f, ↓eww_t, ↓eww_f, ↓ewl_t, ↓ewl_f, ↓ez_t, ↓ez_f, ↓il_t, ↓il_f, il_t, il_f, ez_t, ez_f, if_true, if_false, upS_h, upS_o, upS_i, Int.reduceAdd, Int.reduceSub, Int.reduceMul, Int.reduceNeg, wI_id, h.1]
theorem m_next {σ α : St} {u : Int} (h : mU σ α) (hw : wU α) (h0 : 0 ≤ u) (h1 : u < α 0 0) : f_X10_nextOf σ u = some (nxS α u) := by
  unfold f_X10_nextOf nxS
  simp (disch := omega) only [↓rdA_t, ↓wrA_t, ↓ixA_t, ↓wrF_d, ↓bd2_s, ↓bd1_s, ↓bnd_d, ↓iww_t, ↓iww_f, ↓iwl_t, ↓iwl_f, ↓ilw_t, ↓ilw_f, ↓eww_t, ↓eww_f, ↓ewl_t, ↓ewl_f, ↓ez_t, ↓ez_f, ↓il_t, ↓il_f, il_t, il_f, ez_t, ez_f, if_true, if_false, upS_h, upS_o, upS_i, Int.reduceAdd, Int.reduceSub, Int.reduceMul, Int.reduceNeg, wI_id]
  exact m_next_g h hw h0 h1 50 (u + 1) (by omega) (by omega) (by have := hw.2.1; omega) 1000 (by omega)
/-! ===== of ===== -/
theorem c_isU {σ α : St} {a : Int} (h : cU σ α) (hw : wU α) (ha : inR a) : f_X9_isUnit σ a = if 0 ≤ a ∧ a < α 0 0 then 1 else 0 := by
  unfold inR at ha
  obtain ⟨w1, w2, w3⟩ := hw
  unfold f_X9_isUnit
  by_cases c : 0 ≤ a
  · by_cases c2 : a < α 0 0
    · rw [if_pos (show 0 ≤ a ∧ a < α 0 0 from ⟨c, c2⟩)]
      simp (disch := omega) only [↓rdA_t, ↓wrA_t, ↓ixA_t, ↓wrF_d, ↓bd2_s, ↓bd1_s, ↓bnd_d, ↓iww_t, ↓iww_f, ↓iwl_t, ↓iwl_f, ↓ilw_t, ↓ilw_f, ↓eww_t, ↓eww_f, ↓ewl_t, ↓ewl_f, ↓ez_t, ↓ez_f, ↓il_t, ↓il_f, il_t, il_f, ez_t, ez_f, if_true, if_false, upS_h, upS_o, upS_i, Int.reduceAdd, Int.reduceSub, Int.reduceMul, Int.reduceNeg, wI_id, h.1]
    · rw [if_neg (show ¬ (0 ≤ a ∧ a < α 0 0) by omega)]
      simp (disch := omega) only [↓rdA_t, ↓wrA_t, ↓ixA_t, ↓wrF_d, ↓bd2_s, ↓bd1_s, ↓bnd_d, ↓iww_t, ↓iww_f, ↓iwl_t, ↓iwl_f, ↓ilw_t, ↓ilw_f, ↓eww_t, ↓eww_f, ↓ewl_t, ↓ewl_f, ↓ez_t, ↓ez_f, ↓il_t, ↓il_f, il_t, il_f, ez_t, ez_f, if_true, if_false, upS_h, upS_o, upS_i, Int.reduceAdd, Int.reduceSub, Int.reduceMul, Int.reduceNeg, wI_id, h.1]
  · rw [if_neg (show ¬ (0 ≤ a ∧ a < α 0 0) by omega)]
    simp (disch := omega) only [↓rdA_t, ↓wrA_t, ↓ixA_t, ↓wrF_d, ↓bd2_s, ↓bd1_s, ↓bnd_d, ↓iww_t, ↓iww_f, ↓iwl_t, ↓iwl_f, ↓ilw_t, ↓ilw_f, ↓eww_t, ↓eww_f, ↓ewl_t, ↓ewl_f, ↓ez_t, ↓ez_f, ↓il_t, ↓il_f, il_t, il_f, ez_t, ez_f, if_true, if_false, upS_h, upS_o, upS_i, Int.reduceAdd, Int.reduceSub, Int.reduceMul, Int.reduceNeg, wI_id, h.1]
theorem m_isU {σ α : St} {a : Int} (h : mU σ α) (hw : wU α) (ha : inR a) : f_X10_isUnit σ a = if 0 ≤ a ∧ a < α 0 0 then 1 else 0 := by
  unfold inR at ha
  obtain ⟨w1, w2, w3⟩ := hw
  unfold f_X10_isUnit
  by_cases c : 0 ≤ a ∧ a < α 0 0
  · rw [if_pos c, h.1, in_t2 (by omega)]
  · rw [if_neg c, h.1, in_f2 (by omega)]
def rOf (α : St) (u a : Int) : Int := if 0 ≤ u ∧ u < α 0 0 then (if 0 ≤ a ∧ a ≤ 5 then α (1 + a) u else if a = 6 then nxS α u else -2) else -2
def aOf (α : St) (u a : Int) : St := if (0 ≤ u ∧ u < α 0 0) ∧ 0 ≤ a ∧ a ≤ 6 then α else aR α 3
theorem xc_of {σ α : St} {u a : Int} (h : IC σ α) (hw : WF α) (hu : inR u) (ha : inR a) : oC (f_X9_of σ u a) σ α (rOf α u a) (aOf α u a) := by
  have hu' := hu
  unfold inR at hu ha
  have hn := hw.1.2.1
  unfold f_X9_of rOf aOf
  rw [c_isU h.1 hw.1 hu']
  by_cases c : 0 ≤ u ∧ u < α 0 0
  · obtain ⟨e1, e2, e3, e4, e5, e6, e7⟩ := h.1.2.1 u c.1 c.2
    have e8 := c_foll h.1 hw.1 c.1 c.2
    by_cases c2 : 0 ≤ a ∧ a ≤ 6
    · have : a = 0 ∨ a = 1 ∨ a = 2 ∨ a = 3 ∨ a = 4 ∨ a = 5 ∨ a = 6 := by omega
      rw [if_pos (show (0 ≤ u ∧ u < α 0 0) ∧ 0 ≤ a ∧ a ≤ 6 from ⟨c, c2⟩)]
      rcases this with rfl | rfl | rfl | rfl | rfl | rfl | rfl <;> (simp (disch := omega) only [↓rdA_t, ↓wrA_t, ↓ixA_t, ↓wrF_d, ↓bd2_s, ↓bd1_s, ↓bnd_d, ↓iww_t, ↓iww_f, ↓iwl_t, ↓iwl_f, ↓ilw_t, ↓ilw_f, ↓eww_t, ↓eww_f, ↓ewl_t, ↓ewl_f, ↓ez_t, ↓ez_f, ↓il_t, ↓il_f, il_t, il_f, ez_t, ez_f, if_true, if_false, upS_h, upS_o, upS_i, Int.reduceAdd, Int.reduceSub, Int.reduceMul, Int.reduceNeg, wI_id, if_pos c]; exact ⟨σ, by simp [e1, e2, e3, e4, e5, e6, e8], h, fun _ _ => rfl⟩)
    · rw [if_neg (show ¬ ((0 ≤ u ∧ u < α 0 0) ∧ 0 ≤ a ∧ a ≤ 6) from fun z => c2 z.2)]
      simp (disch := omega) only [↓rdA_t, ↓wrA_t, ↓ixA_t, ↓wrF_d, ↓bd2_s, ↓bd1_s, ↓bnd_d, ↓iww_t, ↓iww_f, ↓iwl_t, ↓iwl_f, ↓ilw_t, ↓ilw_f, ↓eww_t, ↓eww_f, ↓ewl_t, ↓ewl_f, ↓ez_t, ↓ez_f, ↓il_t, ↓il_f, il_t, il_f, ez_t, ez_f, if_true, if_false, upS_h, upS_o, upS_i, Int.reduceAdd, Int.reduceSub, Int.reduceMul, Int.reduceNeg, wI_id, if_pos c]
      rw [if_neg (by omega)]
      exact oC_id (oC_bad h)
  · rw [if_neg (show ¬ ((0 ≤ u ∧ u < α 0 0) ∧ 0 ≤ a ∧ a ≤ 6) from fun z => c z.1)]
    simp (disch := omega) only [↓rdA_t, ↓wrA_t, ↓ixA_t, ↓wrF_d, ↓bd2_s, ↓bd1_s, ↓bnd_d, ↓iww_t, ↓iww_f, ↓iwl_t, ↓iwl_f, ↓ilw_t, ↓ilw_f, ↓eww_t, ↓eww_f, ↓ewl_t, ↓ewl_f, ↓ez_t, ↓ez_f, ↓il_t, ↓il_f, il_t, il_f, ez_t, ez_f, if_true, if_false, upS_h, upS_o, upS_i, Int.reduceAdd, Int.reduceSub, Int.reduceMul, Int.reduceNeg, wI_id, if_neg c]
    exact oC_id (oC_bad h)
theorem xm_of {σ α : St} {u a : Int} (h : IM σ α) (hw : WF α) (hu : inR u) (ha : inR a) : oM (f_X10_of σ u a) σ α (rOf α u a) (aOf α u a) := by
  have hu' := hu
  unfold inR at hu ha
  have hn := hw.1.2.1
  unfold f_X10_of rOf aOf
  rw [m_isU h.1 hw.1 hu']
  by_cases c : 0 ≤ u ∧ u < α 0 0
  · by_cases c2 : 0 ≤ a ∧ a ≤ 6
    · rw [if_pos (show (0 ≤ u ∧ u < α 0 0) ∧ 0 ≤ a ∧ a ≤ 6 from ⟨c, c2⟩), if_pos c, if_pos c]
      by_cases c3 : a = 6
      · subst c3
        simp (disch := omega) only [↓rdA_t, ↓wrA_t, ↓ixA_t, ↓wrF_d, ↓bd2_s, ↓bd1_s, ↓bnd_d, ↓iww_t, ↓iww_f, ↓iwl_t, ↓iwl_f, ↓ilw_t, ↓ilw_f, ↓eww_t, ↓eww_f, ↓ewl_t, ↓ewl_f, ↓ez_t, ↓ez_f, ↓il_t, ↓il_f, il_t, il_f, ez_t, ez_f, if_true, if_false, upS_h, upS_o, upS_i, Int.reduceAdd, Int.reduceSub, Int.reduceMul, Int.reduceNeg, wI_id, in_t, m_next h.1 hw.1 c.1 c.2]
        rw [if_neg (by omega)]
        exact oM_ret _ h
      · simp (disch := omega) only [↓rdA_t, ↓wrA_t, ↓ixA_t, ↓wrF_d, ↓bd2_s, ↓bd1_s, ↓bnd_d, ↓iww_t, ↓iww_f, ↓iwl_t, ↓iwl_f, ↓ilw_t, ↓ilw_f, ↓eww_t, ↓eww_f, ↓ewl_t, ↓ewl_f, ↓ez_t, ↓ez_f, ↓il_t, ↓il_f, il_t, il_f, ez_t, ez_f, if_true, if_false, upS_h, upS_o, upS_i, Int.reduceAdd, Int.reduceSub, Int.reduceMul, Int.reduceNeg, wI_id, in_t, m_at h.1 hw.1 c.1 c.2 c2.1 (show a < 6 by omega), if_pos (show 0 ≤ a ∧ a ≤ 5 by omega)]
        exact oM_ret _ h
    · rw [if_neg (show ¬ ((0 ≤ u ∧ u < α 0 0) ∧ 0 ≤ a ∧ a ≤ 6) from fun z => c2 z.2), if_pos c, if_pos c, if_neg (show ¬ (0 ≤ a ∧ a ≤ 5) by omega)]
      simp (disch := omega) only [↓rdA_t, ↓wrA_t, ↓ixA_t, ↓wrF_d, ↓bd2_s, ↓bd1_s, ↓bnd_d, ↓iww_t, ↓iww_f, ↓iwl_t, ↓iwl_f, ↓ilw_t, ↓ilw_f, ↓eww_t, ↓eww_f, ↓ewl_t, ↓ewl_f, ↓ez_t, ↓ez_f, ↓il_t, ↓il_f, il_t, il_f, ez_t, ez_f, if_true, if_false, upS_h, upS_o, upS_i, Int.reduceAdd, Int.reduceSub, Int.reduceMul, Int.reduceNeg, wI_id, in_f]
      exact oM_id (oM_bad (-2) h)
  · rw [if_neg (show ¬ ((0 ≤ u ∧ u < α 0 0) ∧ 0 ≤ a ∧ a ≤ 6) from fun z => c z.1), if_neg c, if_neg c]
    simp (disch := omega) only [↓rdA_t, ↓wrA_t, ↓ixA_t, ↓wrF_d, ↓bd2_s, ↓bd1_s, ↓bnd_d, ↓iww_t, ↓iww_f, ↓iwl_t, ↓iwl_f, ↓ilw_t, ↓ilw_f, ↓eww_t, ↓eww_f, ↓ewl_t, ↓ewl_f, ↓ez_t, ↓ez_f, ↓il_t, ↓il_f, il_t, il_f, ez_t, ez_f, if_true, if_false, upS_h, upS_o, upS_i, Int.reduceAdd, Int.reduceSub, Int.reduceMul, Int.reduceNeg, wI_id]
    exact oM_id (oM_bad (-2) h)
theorem wf_of {α : St} {u a : Int} (hw : WF α) : WF (aOf α u a) := by
  unfold aOf
  by_cases c : (0 ≤ u ∧ u < α 0 0) ∧ 0 ≤ a ∧ a ≤ 6
  · rw [if_pos c]; exact hw
  · rw [if_neg c]; exact WF_aR 3 (by omega) hw
/-! ===== a unit more ===== -/
def aAdd (α : St) (s l r p d t : Int) : St := upS (upS (upS (upS (upS (upS (upS α 1 (α 0 0) s) 2 (α 0 0) l) 3 (α 0 0) r) 4 (α 0 0) p) 5 (α 0 0) d) 6 (α 0 0) t) 0 0 (α 0 0 + 1)
theorem aAdd_0 {α : St} {s l r p d t : Int} : aAdd α s l r p d t 0 0 = α 0 0 + 1 := by unfold aAdd; simp (disch := omega) only [upS_h, upS_o, upS_i, Int.reduceAdd, Int.reduceSub, Int.reduceMul, Int.reduceNeg]
theorem aAdd_n {α : St} {s l r p d t w : Int} (hw : 0 ≤ w ∧ w ≤ 5) : aAdd α s l r p d t (1 + w) (α 0 0) = if w = 0 then s else if w = 1 then l else if w = 2 then r else if w = 3 then p else if w = 4 then d else t := by
  have : w = 0 ∨ w = 1 ∨ w = 2 ∨ w = 3 ∨ w = 4 ∨ w = 5 := by omega
  unfold aAdd
  rcases this with rfl | rfl | rfl | rfl | rfl | rfl <;> (simp (disch := omega) only [upS_h, upS_o, upS_i, Int.reduceAdd, Int.reduceSub, Int.reduceMul, Int.reduceNeg]; simp)
theorem aAdd_o {α : St} {s l r p d t o v : Int} (ho : ¬ o = 0) (hv : ¬ v = α 0 0) : aAdd α s l r p d t o v = α o v := by
  unfold aAdd; simp (disch := omega) only [upS_h, upS_o, upS_i, Int.reduceAdd, Int.reduceSub, Int.reduceMul, Int.reduceNeg]
theorem aAdd_c {α : St} {s l r p d t o : Int} (ho : 7 ≤ o) : aAdd α s l r p d t o = α o := by
  unfold aAdd; simp (disch := omega) only [upS_of]
theorem aAdd_z {α : St} {s l r p d t i : Int} (hi : ¬ i = 0) : aAdd α s l r p d t 0 i = α 0 i := by
  unfold aAdd; simp (disch := omega) only [upS_h, upS_o, upS_i, Int.reduceAdd, Int.reduceSub, Int.reduceMul, Int.reduceNeg]
theorem wU_add {α : St} {s l r p d t : Int} (hw : wU α) (hn : α 0 0 < 40) (h1 : 0 ≤ s ∧ s ≤ 5) (h2 : 0 ≤ l ∧ l ≤ 6) (h3 : 0 ≤ r ∧ r ≤ 6) (h4 : 0 ≤ p ∧ p ≤ 9) (h5 : 1 ≤ d ∧ d ≤ 9) (h6 : 0 ≤ t ∧ t ≤ 3) : wU (aAdd α s l r p d t) := by
  obtain ⟨w1, w2, w3⟩ := hw
  refine ⟨by rw [aAdd_0]; omega, by rw [aAdd_0]; omega, fun u q1 q2 => ?_⟩
  rw [aAdd_0] at q2
  by_cases c : u = α 0 0
  · subst c
    have e := fun w hw => aAdd_n (α := α) (s := s) (l := l) (r := r) (p := p) (d := d) (t := t) (w := w) hw
    have e0 := e 0 (by omega); have e1 := e 1 (by omega); have e2 := e 2 (by omega); have e3 := e 3 (by omega); have e4 := e 4 (by omega); have e5 := e 5 (by omega)
    simp at e0 e1 e2 e3 e4 e5
    rw [e0, e1, e2, e3, e4, e5]
    exact ⟨h1, h2, h3, h4, h5, h6⟩
  · rw [aAdd_o (by omega) c, aAdd_o (by omega) c, aAdd_o (by omega) c, aAdd_o (by omega) c, aAdd_o (by omega) c, aAdd_o (by omega) c]
    exact w3 u q1 (by omega)
theorem mU_add {σ α : St} {s l r p d t : Int} (h : mU σ α) (hw : wU α) (hn : α 0 0 < 40) : ∃ τ, f_X10_lays σ s l r p d t = some (0, τ) ∧ mU τ (aAdd α s l r p d t) ∧ (∀ o, ¬ o = 118 → ¬ o = 119 → τ o = σ o) ∧ ∀ i, ¬ i = 1 → τ 118 i = σ 118 i := by
  obtain ⟨w1, w2, w3⟩ := hw
  unfold f_X10_lays
  simp (disch := omega) only [↓rdA_t, ↓wrA_t, ↓ixA_t, ↓wrF_d, ↓bd2_s, ↓bd1_s, ↓bnd_d, ↓iww_t, ↓iww_f, ↓iwl_t, ↓iwl_f, ↓ilw_t, ↓ilw_f, ↓eww_t, ↓eww_f, ↓ewl_t, ↓ewl_f, ↓ez_t, ↓ez_f, ↓il_t, ↓il_f, il_t, il_f, ez_t, ez_f, if_true, if_false, upS_h, upS_o, upS_i, Int.reduceAdd, Int.reduceSub, Int.reduceMul, Int.reduceNeg, wI_id, h.1]
  refine ⟨_, rfl, ⟨by rw [aAdd_0]; simp (disch := omega) only [upS_h, upS_o, upS_i, Int.reduceAdd, Int.reduceSub, Int.reduceMul, Int.reduceNeg, h.1], fun u w q1 q2 q3 q4 => ?_⟩, fun o p1 p2 => by simp (disch := omega) only [upS_of], fun i p1 => by simp (disch := omega) only [upS_h, upS_o, upS_i, Int.reduceAdd, Int.reduceSub, Int.reduceMul, Int.reduceNeg]⟩
  rw [aAdd_0] at q2
  by_cases c : u = α 0 0
  · subst c
    rw [aAdd_n (by omega)]
    have : w = 0 ∨ w = 1 ∨ w = 2 ∨ w = 3 ∨ w = 4 ∨ w = 5 := by omega
    rcases this with rfl | rfl | rfl | rfl | rfl | rfl <;> (simp (disch := omega) only [upS_h, upS_o, upS_i, Int.reduceAdd, Int.reduceSub, Int.reduceMul, Int.reduceNeg]; simp)
  · rw [aAdd_o (by omega) c]
    simp (disch := omega) only [upS_h, upS_o, upS_i, Int.reduceAdd, Int.reduceSub, Int.reduceMul, Int.reduceNeg, h.2 u w q1 (by omega) q3 q4]
theorem cU_add {σ α : St} {s l r p d t : Int} (h : cU σ α) (hw : wU α) (hn : α 0 0 < 40) (ht : 0 ≤ t ∧ t ≤ 3) : ∃ τ, f_X8_add σ s l r p d t = some (α 0 0, τ) ∧ cU τ (aAdd α s l r p d t) ∧ (∀ o, (o < 1 ∨ 9 < o) → τ o = σ o) := by
  have hL := h.2.2 t ht.1 (by omega)
  obtain ⟨w1, w2, w3⟩ := hw
  have hs := h.1
  unfold f_X8_add f_X9_isTake jn_X8_add_121
  have e6 : ∀ v, aAdd α s l r p d t 6 v = if v = α 0 0 then t else α 6 v := by
    intro v
    by_cases c : v = α 0 0
    · subst c
      have e := aAdd_n (α := α) (s := s) (l := l) (r := r) (p := p) (d := d) (t := t) (w := 5) (by omega)
      simp at e
      rw [if_pos rfl]; exact e
    · rw [if_neg c, aAdd_o (by omega) c]
  have key : ∀ τ : St, (∀ o, (o < 1 ∨ 9 < o) → τ o = σ o) → τ 1 8 = α 0 0 + 1 → (∀ o, 2 ≤ o → o ≤ 7 → ∀ u, 0 ≤ u → u < α 0 0 → τ o u = σ o u) → (τ 2 (α 0 0) = s ∧ τ 3 (α 0 0) = l ∧ τ 4 (α 0 0) = r ∧ τ 5 (α 0 0) = p ∧ τ 6 (α 0 0) = d ∧ τ 7 (α 0 0) = t) → τ 8 (α 0 0) = -1 → (∀ u, 0 ≤ u → u < α 0 0 → τ 8 u = if u = σ 9 t then α 0 0 else σ 8 u) → (∀ q, τ 9 q = if q = t then α 0 0 else σ 9 q) → cU τ (aAdd α s l r p d t) := by
    intro τ _ k1 k2 k3 k4 k5 k6
    refine ⟨by rw [aAdd_0]; exact k1, fun u q1 q2 => ?_, fun q q1 q2 => ?_⟩
    · rw [aAdd_0] at q2
      by_cases c : u = α 0 0
      · subst c
        have e := fun w hw => aAdd_n (α := α) (s := s) (l := l) (r := r) (p := p) (d := d) (t := t) (w := w) hw
        have e0 := e 0 (by omega); have e1 := e 1 (by omega); have e2 := e 2 (by omega); have e3 := e 3 (by omega); have e4 := e 4 (by omega); have e5 := e 5 (by omega)
        simp at e0 e1 e2 e3 e4 e5
        rw [e0, e1, e2, e3, e4, e5]
        refine ⟨k3.1, k3.2.1, k3.2.2.1, k3.2.2.2.1, k3.2.2.2.2.1, k3.2.2.2.2.2, Or.inl ⟨k4, fun v v1 v2 => ?_⟩⟩
        rw [aAdd_0] at v2
        omega
      · have hu : u < α 0 0 := by omega
        obtain ⟨a1, a2, a3, a4, a5, a6, a7⟩ := h.2.1 u q1 hu
        rw [aAdd_o (by omega) c, aAdd_o (by omega) c, aAdd_o (by omega) c, aAdd_o (by omega) c, aAdd_o (by omega) c, aAdd_o (by omega) c]
        rw [k2 2 (by omega) (by omega) u q1 hu, k2 3 (by omega) (by omega) u q1 hu, k2 4 (by omega) (by omega) u q1 hu, k2 5 (by omega) (by omega) u q1 hu, k2 6 (by omega) (by omega) u q1 hu, k2 7 (by omega) (by omega) u q1 hu, k5 u q1 hu]
        refine ⟨a1, a2, a3, a4, a5, a6, ?_⟩
        by_cases c2 : u = σ 9 t
        · rw [if_pos c2]
          rcases hL with ⟨b1, b2⟩ | ⟨b1, b2, b3, b4⟩
          · omega
          · right
            rw [aAdd_0, e6, e6, if_pos rfl, if_neg c]
            rw [← c2] at b3 b4
            refine ⟨hu, by omega, b3.symm, fun v v1 v2 => ?_⟩
            rw [e6, if_neg (by omega), b3]
            exact b4 v v1 v2
        · rw [if_neg c2]
          rcases a7 with ⟨b1, b2⟩ | ⟨b1, b2, b3, b4⟩
          · left
            refine ⟨b1, fun v v1 v2 => ?_⟩
            rw [aAdd_0] at v2
            rw [e6, e6, if_neg c]
            by_cases c3 : v = α 0 0
            · rw [if_pos c3]
              intro c4
              rcases hL with ⟨d1, d2⟩ | ⟨d1, d2, d3, d4⟩
              · exact d2 u q1 hu c4.symm
              · rcases Int.lt_trichotomy u (σ 9 t) with x | x | x
                · exact b2 (σ 9 t) x d2 (d3.trans c4)
                · exact c2 x
                · exact d4 u x hu c4.symm
            · rw [if_neg c3]
              exact b2 v v1 (by omega)
          · right
            rw [aAdd_0, e6, e6, if_neg c, if_neg (by omega)]
            exact ⟨b1, by omega, b3, fun v v1 v2 => by rw [e6, if_neg (by omega)]; exact b4 v v1 v2⟩
    · rw [k6]
      by_cases c : q = t
      · rw [if_pos c]
        right
        refine ⟨w1, by rw [aAdd_0]; omega, by rw [e6, if_pos rfl, c], fun v v1 v2 => ?_⟩
        rw [aAdd_0] at v2
        omega
      · rw [if_neg c]
        rcases h.2.2 q q1 q2 with ⟨d1, d2⟩ | ⟨d1, d2, d3, d4⟩
        · left
          refine ⟨d1, fun v v1 v2 => ?_⟩
          rw [aAdd_0] at v2
          rw [e6]
          by_cases c3 : v = α 0 0
          · rw [if_pos c3]; exact fun z => c z.symm
          · rw [if_neg c3]; exact d2 v v1 (by omega)
        · right
          refine ⟨d1, by rw [aAdd_0]; omega, by rw [e6, if_neg (by omega)]; exact d3, fun v v1 v2 => ?_⟩
          rw [aAdd_0] at v2
          rw [e6]
          by_cases c3 : v = α 0 0
          · rw [if_pos c3]; exact fun z => c z.symm
          · rw [if_neg c3]; exact d4 v v1 (by omega)
  by_cases cn : σ 9 t < 0
  · have cn1 : σ 9 t = -1 := by rcases hL with ⟨b1, b2⟩ | ⟨b1, b2, b3, b4⟩ <;> omega
    simp (disch := omega) only [↓rdA_t, ↓wrA_t, ↓ixA_t, ↓wrF_d, ↓bd2_s, ↓bd1_s, ↓bnd_d, ↓iww_t, ↓iww_f, ↓iwl_t, ↓iwl_f, ↓ilw_t, ↓ilw_f, ↓eww_t, ↓eww_f, ↓ewl_t, ↓ewl_f, ↓ez_t, ↓ez_f, ↓il_t, ↓il_f, il_t, il_f, ez_t, ez_f, if_true, if_false, upS_h, upS_o, upS_i, Int.reduceAdd, Int.reduceSub, Int.reduceMul, Int.reduceNeg, wI_id, h.1, within_t]
    refine ⟨_, rfl, key _ (fun o ho => by simp (disch := omega) only [upS_of]) (by simp (disch := omega) only [upS_h, upS_o, upS_i, Int.reduceAdd, Int.reduceSub, Int.reduceMul, Int.reduceNeg, h.1]) (fun o o1 o2 u u1 u2 => by simp (disch := omega) only [upS_h, upS_o, upS_i, Int.reduceAdd, Int.reduceSub, Int.reduceMul, Int.reduceNeg]) ⟨by simp (disch := omega) only [upS_h, upS_o, upS_i, Int.reduceAdd, Int.reduceSub, Int.reduceMul, Int.reduceNeg], by simp (disch := omega) only [upS_h, upS_o, upS_i, Int.reduceAdd, Int.reduceSub, Int.reduceMul, Int.reduceNeg], by simp (disch := omega) only [upS_h, upS_o, upS_i, Int.reduceAdd, Int.reduceSub, Int.reduceMul, Int.reduceNeg], by simp (disch := omega) only [upS_h, upS_o, upS_i, Int.reduceAdd, Int.reduceSub, Int.reduceMul, Int.reduceNeg], by simp (disch := omega) only [upS_h, upS_o, upS_i, Int.reduceAdd, Int.reduceSub, Int.reduceMul, Int.reduceNeg], by simp (disch := omega) only [upS_h, upS_o, upS_i, Int.reduceAdd, Int.reduceSub, Int.reduceMul, Int.reduceNeg]⟩ (by simp (disch := omega) only [upS_h, upS_o, upS_i, Int.reduceAdd, Int.reduceSub, Int.reduceMul, Int.reduceNeg]) (fun u u1 u2 => by rw [if_neg (by omega)]; simp (disch := omega) only [upS_h, upS_o, upS_i, Int.reduceAdd, Int.reduceSub, Int.reduceMul, Int.reduceNeg]) (fun q => ?_), fun o ho => by simp (disch := omega) only [upS_of]⟩
    by_cases c : q = t
    · rw [if_pos c]; simp (disch := omega) only [upS_h, upS_o, upS_i, Int.reduceAdd, Int.reduceSub, Int.reduceMul, Int.reduceNeg]
    · rw [if_neg c]; simp (disch := omega) only [upS_h, upS_o, upS_i, Int.reduceAdd, Int.reduceSub, Int.reduceMul, Int.reduceNeg]
  · have cn1 : 0 ≤ σ 9 t ∧ σ 9 t < α 0 0 := by rcases hL with ⟨b1, b2⟩ | ⟨b1, b2, b3, b4⟩ <;> omega
    simp (disch := omega) only [↓rdA_t, ↓wrA_t, ↓ixA_t, ↓wrF_d, ↓bd2_s, ↓bd1_s, ↓bnd_d, ↓iww_t, ↓iww_f, ↓iwl_t, ↓iwl_f, ↓ilw_t, ↓ilw_f, ↓eww_t, ↓eww_f, ↓ewl_t, ↓ewl_f, ↓ez_t, ↓ez_f, ↓il_t, ↓il_f, il_t, il_f, ez_t, ez_f, if_true, if_false, upS_h, upS_o, upS_i, Int.reduceAdd, Int.reduceSub, Int.reduceMul, Int.reduceNeg, wI_id, h.1, within_t]
    refine ⟨_, rfl, key _ (fun o ho => by simp (disch := omega) only [upS_of]) (by simp (disch := omega) only [upS_h, upS_o, upS_i, Int.reduceAdd, Int.reduceSub, Int.reduceMul, Int.reduceNeg, h.1]) (fun o o1 o2 u u1 u2 => by simp (disch := omega) only [upS_h, upS_o, upS_i, Int.reduceAdd, Int.reduceSub, Int.reduceMul, Int.reduceNeg]) ⟨by simp (disch := omega) only [upS_h, upS_o, upS_i, Int.reduceAdd, Int.reduceSub, Int.reduceMul, Int.reduceNeg], by simp (disch := omega) only [upS_h, upS_o, upS_i, Int.reduceAdd, Int.reduceSub, Int.reduceMul, Int.reduceNeg], by simp (disch := omega) only [upS_h, upS_o, upS_i, Int.reduceAdd, Int.reduceSub, Int.reduceMul, Int.reduceNeg], by simp (disch := omega) only [upS_h, upS_o, upS_i, Int.reduceAdd, Int.reduceSub, Int.reduceMul, Int.reduceNeg], by simp (disch := omega) only [upS_h, upS_o, upS_i, Int.reduceAdd, Int.reduceSub, Int.reduceMul, Int.reduceNeg], by simp (disch := omega) only [upS_h, upS_o, upS_i, Int.reduceAdd, Int.reduceSub, Int.reduceMul, Int.reduceNeg]⟩ (by simp (disch := omega) only [upS_h, upS_o, upS_i, Int.reduceAdd, Int.reduceSub, Int.reduceMul, Int.reduceNeg]) (fun u u1 u2 => ?_) (fun q => ?_), fun o ho => by simp (disch := omega) only [upS_of]⟩
    · by_cases c : u = σ 9 t
      · rw [if_pos c]; simp (disch := omega) only [upS_h, upS_o, upS_i, Int.reduceAdd, Int.reduceSub, Int.reduceMul, Int.reduceNeg]
      · rw [if_neg c]; simp (disch := omega) only [upS_h, upS_o, upS_i, Int.reduceAdd, Int.reduceSub, Int.reduceMul, Int.reduceNeg]
    · by_cases c : q = t
      · rw [if_pos c]; simp (disch := omega) only [upS_h, upS_o, upS_i, Int.reduceAdd, Int.reduceSub, Int.reduceMul, Int.reduceNeg]
      · rw [if_neg c]; simp (disch := omega) only [upS_h, upS_o, upS_i, Int.reduceAdd, Int.reduceSub, Int.reduceMul, Int.reduceNeg]
