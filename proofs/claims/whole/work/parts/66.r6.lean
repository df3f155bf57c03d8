/-! ===== about ===== -/
theorem pth_r {α : St} {a kd k : Int} (hw : WF α) (hf : allF α a) (h0 : 0 ≤ k) (h1 : k < α 0 1) : 0 ≤ pth α a kd k ∧ pth α a kd k < α 0 0 := by
  have ir := ixs_r (kd := kd) hw hf k.toNat (by omega)
  rw [show ((k.toNat : Nat) : Int) = k by omega] at ir
  unfold pth
  exact (uCh_r (a := a) (k := k) hw ir.1 ir.2).1
def abF (α : St) (p : Int → Int) : Nat → Int
  | 0 => 0
  | k + 1 => abF α p k + (if k = 0 then 0 else if nxS α (p ((k : Int) - 1)) = p k then 1 else 0)
def abQ (α : St) (kd : Int) (p : Int → Int) : Nat → Int
  | 0 => 0
  | k + 1 => abQ α kd p k + fitS α kd (p k) k
def abG (α : St) (p : Int → Int) (k : Nat) : Int := if k = 0 then 0 else joiS α (p ((k : Int) - 1)) (p k)
def abJ (α : St) (p : Int → Int) : Nat → Int
  | 0 => 0
  | k + 1 => abJ α p k + abG α p k
def abM (α : St) (p : Int → Int) : Nat → Int
  | 0 => 0
  | k + 1 => if abM α p k < abG α p k then abG α p k else abM α p k
theorem abG_r {α : St} {p : Int → Int} (hw : WF α) (hp : ∀ k, 0 ≤ k → k < α 0 1 → 0 ≤ p k ∧ p k < α 0 0) {k : Nat} (hk : (k : Int) < α 0 1) : 0 ≤ abG α p k ∧ abG α p k ≤ 16 := by
  unfold abG
  by_cases c : k = 0
  · rw [if_pos c]; omega
  · rw [if_neg c]
    have q := hp k (by omega) hk
    have q' := hp ((k : Int) - 1) (by omega) (by omega)
    exact joiS_r hw.1 q'.1 q'.2 q.1 q.2
theorem abM_r {α : St} {p : Int → Int} (hw : WF α) (hp : ∀ k, 0 ≤ k → k < α 0 1 → 0 ≤ p k ∧ p k < α 0 0) : ∀ k : Nat, (k : Int) ≤ α 0 1 → 0 ≤ abM α p k ∧ abM α p k ≤ 16 := by
  intro k
  induction k with
  | zero => intro _; exact ⟨by show (0 : Int) ≤ 0; omega, by show (0 : Int) ≤ 16; omega⟩
  | succ k ih =>
    intro hk
    have g := abG_r hw hp (k := k) (by omega)
    have i := ih (by omega)
    rw [abM]
    by_cases c : abM α p k < abG α p k
    · rw [if_pos c]; exact g
    · rw [if_neg c]; exact i
theorem c_folls {σ α : St} {p : Int → Int} (kx : Int → Option Int) (h : IC σ α) (hw : WF α) (hp : ∀ k, 0 ≤ k → k < α 0 1 → 0 ≤ p k ∧ p k < α 0 0) (hq : ∀ k, 0 ≤ k → k < α 0 1 → σ 69 k = p k) : ∀ (r x n : Nat), 0 < x → (x : Int) + r = α 0 1 → r < n → lp_X0_pathFollowers_4 σ kx n (abF α p x) x = kx (abF α p (x + r)) := by
  intro r
  have w2 := hw.2.1.2.1
  have w3 := hw.1.2.1
  have hs := h.2.1.1
  induction r with
  | zero =>
    intro x n h0 h1 hn
    obtain ⟨n, rfl⟩ : ∃ k, n = k + 1 := ⟨n - 1, by omega⟩
    rw [lp_X0_pathFollowers_4, iww_f (by omega)]; rfl
  | succ r ih =>
    intro x n h0 h1 hn
    obtain ⟨n, rfl⟩ : ∃ k, n = k + 1 := ⟨n - 1, by omega⟩
    have p1 := hp x (by omega) (by omega)
    have p0 := hp ((x : Int) - 1) (by omega) (by omega)
    have q1 := hq x (by omega) (by omega)
    have q0 := hq ((x : Int) - 1) (by omega) (by omega)
    have e := c_foll h.1 hw.1 p0.1 p0.2
    have er := nxt_r hw.1 p0.1 (nxS_is hw.1 p0.1)
    have g := ih (x + 1) n (by omega) (by omega) (by omega)
    rw [show x + 1 + r = x + (r + 1) by omega, show ((x + 1 : Nat) : Int) = (x : Int) + 1 by omega, abF, if_neg (show ¬ x = 0 by omega)] at g
    rw [lp_X0_pathFollowers_4]
    by_cases c : nxS α (p ((x : Int) - 1)) = p x
    · rw [if_pos c] at g
      simp (disch := omega) only [↓rdA_t, ↓wrA_t, ↓ixA_t, ↓wrF_d, ↓bd2_s, ↓bd1_s, ↓bnd_d, ↓iww_t, ↓iww_f, ↓iwl_t, ↓iwl_f, ↓ilw_t, ↓ilw_f, ↓eww_t, ↓eww_f, ↓ewl_t, ↓ewl_f, ↓ez_t, ↓ez_f, ↓il_t, ↓il_f, il_t, il_f, ez_t, ez_f, if_true, if_false, upS_h, upS_o, upS_i, Int.reduceAdd, Int.reduceSub, Int.reduceMul, Int.reduceNeg, wI_id, q0, q1, e]
      exact g
    · rw [if_neg c, Int.add_zero] at g
      simp (disch := omega) only [↓rdA_t, ↓wrA_t, ↓ixA_t, ↓wrF_d, ↓bd2_s, ↓bd1_s, ↓bnd_d, ↓iww_t, ↓iww_f, ↓iwl_t, ↓iwl_f, ↓ilw_t, ↓ilw_f, ↓eww_t, ↓eww_f, ↓ewl_t, ↓ewl_f, ↓ez_t, ↓ez_f, ↓il_t, ↓il_f, il_t, il_f, ez_t, ez_f, if_true, if_false, upS_h, upS_o, upS_i, Int.reduceAdd, Int.reduceSub, Int.reduceMul, Int.reduceNeg, wI_id, q0, q1, e]
      exact g
theorem c_fits {σ α : St} {p : Int → Int} {kd : Int} (kx : Int → Option Int) (h : IC σ α) (hw : WF α) (hkd : 0 ≤ kd ∧ kd ≤ 4) (hp : ∀ k, 0 ≤ k → k < α 0 1 → 0 ≤ p k ∧ p k < α 0 0) (hq : ∀ k, 0 ≤ k → k < α 0 1 → σ 69 k = p k) : ∀ (r x n : Nat), (x : Int) + r = α 0 1 → r < n → lp_X0_pathFits_4 σ kd kx n (abQ α kd p x) x = kx (abQ α kd p (x + r)) := by
  intro r
  have w2 := hw.2.1.2.1
  have w3 := hw.1.2.1
  have hs := h.2.1.1
  induction r with
  | zero =>
    intro x n h1 hn
    obtain ⟨n, rfl⟩ : ∃ k, n = k + 1 := ⟨n - 1, by omega⟩
    rw [lp_X0_pathFits_4, iww_f (by omega)]; rfl
  | succ r ih =>
    intro x n h1 hn
    obtain ⟨n, rfl⟩ : ∃ k, n = k + 1 := ⟨n - 1, by omega⟩
    have p1 := hp x (by omega) (by omega)
    have q1 := hq x (by omega) (by omega)
    have e := c_fit h hw hkd p1.1 p1.2 (show (0 : Int) ≤ x by omega) (by omega)
    have g := ih (x + 1) n (by omega) (by omega)
    rw [show x + 1 + r = x + (r + 1) by omega, show ((x + 1 : Nat) : Int) = (x : Int) + 1 by omega, abQ] at g
    rw [lp_X0_pathFits_4]
    simp (disch := omega) only [↓rdA_t, ↓wrA_t, ↓ixA_t, ↓wrF_d, ↓bd2_s, ↓bd1_s, ↓bnd_d, ↓iww_t, ↓iww_f, ↓iwl_t, ↓iwl_f, ↓ilw_t, ↓ilw_f, ↓eww_t, ↓eww_f, ↓ewl_t, ↓ewl_f, ↓ez_t, ↓ez_f, ↓il_t, ↓il_f, il_t, il_f, ez_t, ez_f, if_true, if_false, upS_h, upS_o, upS_i, Int.reduceAdd, Int.reduceSub, Int.reduceMul, Int.reduceNeg, wI_id, q1, e]
    exact g
theorem c_jois {σ α : St} {p : Int → Int} (kx : Int → Option Int) (h : IC σ α) (hw : WF α) (hp : ∀ k, 0 ≤ k → k < α 0 1 → 0 ≤ p k ∧ p k < α 0 0) (hq : ∀ k, 0 ≤ k → k < α 0 1 → σ 69 k = p k) : ∀ (r x n : Nat), 0 < x → (x : Int) + r = α 0 1 → r < n → lp_X0_pathJoints_4 σ kx n (abJ α p x) x = kx (abJ α p (x + r)) := by
  intro r
  have w2 := hw.2.1.2.1
  have w3 := hw.1.2.1
  have hs := h.2.1.1
  induction r with
  | zero =>
    intro x n h0 h1 hn
    obtain ⟨n, rfl⟩ : ∃ k, n = k + 1 := ⟨n - 1, by omega⟩
    rw [lp_X0_pathJoints_4, iww_f (by omega)]; rfl
  | succ r ih =>
    intro x n h0 h1 hn
    obtain ⟨n, rfl⟩ : ∃ k, n = k + 1 := ⟨n - 1, by omega⟩
    have p1 := hp x (by omega) (by omega)
    have p0 := hp ((x : Int) - 1) (by omega) (by omega)
    have q1 := hq x (by omega) (by omega)
    have q0 := hq ((x : Int) - 1) (by omega) (by omega)
    have e := c_joint h.1 hw.1 p0.1 p0.2 p1.1 p1.2
    have g := ih (x + 1) n (by omega) (by omega) (by omega)
    rw [show x + 1 + r = x + (r + 1) by omega, show ((x + 1 : Nat) : Int) = (x : Int) + 1 by omega, abJ, abG, if_neg (show ¬ x = 0 by omega)] at g
    rw [lp_X0_pathJoints_4]
    simp (disch := omega) only [↓rdA_t, ↓wrA_t, ↓ixA_t, ↓wrF_d, ↓bd2_s, ↓bd1_s, ↓bnd_d, ↓iww_t, ↓iww_f, ↓iwl_t, ↓iwl_f, ↓ilw_t, ↓ilw_f, ↓eww_t, ↓eww_f, ↓ewl_t, ↓ewl_f, ↓ez_t, ↓ez_f, ↓il_t, ↓il_f, il_t, il_f, ez_t, ez_f, if_true, if_false, upS_h, upS_o, upS_i, Int.reduceAdd, Int.reduceSub, Int.reduceMul, Int.reduceNeg, wI_id, q0, q1, e]
    exact g
theorem c_dear {σ α : St} {p : Int → Int} (kx : Int → Option Int) (h : IC σ α) (hw : WF α) (hp : ∀ k, 0 ≤ k → k < α 0 1 → 0 ≤ p k ∧ p k < α 0 0) (hq : ∀ k, 0 ≤ k → k < α 0 1 → σ 69 k = p k) : ∀ (r x n : Nat), 0 < x → (x : Int) + r = α 0 1 → r < n → lp_X0_dearestPathJoint_4 σ kx n (abM α p x) x = kx (abM α p (x + r)) := by
  intro r
  have w2 := hw.2.1.2.1
  have w3 := hw.1.2.1
  have hs := h.2.1.1
  induction r with
  | zero =>
    intro x n h0 h1 hn
    obtain ⟨n, rfl⟩ : ∃ k, n = k + 1 := ⟨n - 1, by omega⟩
    rw [lp_X0_dearestPathJoint_4, iww_f (by omega)]; rfl
  | succ r ih =>
    intro x n h0 h1 hn
    obtain ⟨n, rfl⟩ : ∃ k, n = k + 1 := ⟨n - 1, by omega⟩
    have p1 := hp x (by omega) (by omega)
    have p0 := hp ((x : Int) - 1) (by omega) (by omega)
    have q1 := hq x (by omega) (by omega)
    have q0 := hq ((x : Int) - 1) (by omega) (by omega)
    have e := c_joint h.1 hw.1 p0.1 p0.2 p1.1 p1.2
    have er := joiS_r hw.1 p0.1 p0.2 p1.1 p1.2
    have mr := abM_r hw hp x (by omega)
    have g := ih (x + 1) n (by omega) (by omega) (by omega)
    rw [show x + 1 + r = x + (r + 1) by omega, show ((x + 1 : Nat) : Int) = (x : Int) + 1 by omega, abM, abG, if_neg (show ¬ x = 0 by omega)] at g
    rw [lp_X0_dearestPathJoint_4]
    rw [iww_t (by omega), rdA_t (by omega), q0, rdA_t (by omega), q1, e, bd1_s, bnd_d, max_e (by omega)]
    exact g
theorem m_abouts {σ α : St} {p : Int → Int} {w : Int} (kx : St → Int → Int → Int → Int → Option (Int × St)) (h : IM σ α) (hw : WF α) (hp : ∀ k, 0 ≤ k → k < α 0 1 → 0 ≤ p k ∧ p k < α 0 0) (hq : ∀ k, 0 ≤ k → k < α 0 1 → σ 141 k = p k) : ∀ (r x n : Nat), (x : Int) + r = α 0 1 → r < n → lp_X10_about_48 w kx n σ (abF α p x) (abQ α (α 0 2) p x) (abJ α p x) (abM α p x) x = kx σ (abF α p (x + r)) (abQ α (α 0 2) p (x + r)) (abJ α p (x + r)) (abM α p (x + r)) := by
  intro r
  have w2 := hw.2.1.2.1
  have w3 := hw.1.2.1
  have hs := h.2.1.1
  have hk := h.2.2.1.1
  induction r with
  | zero =>
    intro x n h1 hn
    obtain ⟨n, rfl⟩ : ∃ k, n = k + 1 := ⟨n - 1, by omega⟩
    rw [lp_X10_about_48, iww_f (by omega)]; rfl
  | succ r ih =>
    intro x n h1 hn
    obtain ⟨n, rfl⟩ : ∃ k, n = k + 1 := ⟨n - 1, by omega⟩
    have p1 := hp x (by omega) (by omega)
    have q1 := hq x (by omega) (by omega)
    have ef := m_fit (JM_of h) hw hw.2.2.1.1 p1.1 p1.2 (show (0 : Int) ≤ x by omega) (by omega)
    have mr := abM_r hw hp x (by omega)
    have g := ih (x + 1) n (by omega) (by omega)
    rw [show x + 1 + r = x + (r + 1) by omega, show ((x + 1 : Nat) : Int) = (x : Int) + 1 by omega, abF, abQ, abJ, abM, abG] at g
    rw [lp_X10_about_48]
    unfold jn_X10_about_106 jn_X10_about_142
    by_cases c : x = 0
    · rw [if_pos c, if_pos c] at g
      rw [iww_t (by omega), rdA_t (by omega), q1, hk, ef, bd1_s, bnd_d, ewl_t (by omega), ilw_f (by omega), bnd_d, bnd_d, bnd_d, wI_id (x := abM α p x) (by omega) (by omega), wI_id (x := 0) (by omega) (by omega)]
      exact g
    · rw [if_neg c, if_neg c] at g
      have p0 := hp ((x : Int) - 1) (by omega) (by omega)
      have q0 := hq ((x : Int) - 1) (by omega) (by omega)
      have e := m_joint h.1 hw.1 p0.1 p0.2 p1.1 p1.2
      have er := joiS_r hw.1 p0.1 p0.2 p1.1 p1.2
      have e2 := m_next h.1 hw.1 p0.1 p0.2
      have er2 := nxt_r hw.1 p0.1 (nxS_is hw.1 p0.1)
      rw [iww_t (by omega), rdA_t (by omega), q1, hk, ef, bd1_s, bnd_d, ewl_f (by omega), rdA_t (by omega), q0, rdA_t (by omega), q1, e, bd1_s, ilw_t (by omega), rdA_t (by omega), q0, e2, bd1_s, rdA_t (by omega), q1, bnd_d, bnd_d, bnd_d, wI_id (x := abM α p x) (by omega) (by omega), wI_id (x := joiS α (p ((x : Int) - 1)) (p x)) (by omega) (by omega), wI_id (x := nxS α (p ((x : Int) - 1))) (by omega) (by omega), wI_id (x := p x) (by omega) (by omega)]
      exact g
def rAb (α : St) (w : Int) : Int := if 0 ≤ w ∧ w ≤ 3 then (if has α (-1) = 1 then (if w = 0 then abF α (pth α (-1) (α 0 2)) (α 0 1).toNat else if w = 1 then abQ α (α 0 2) (pth α (-1) (α 0 2)) (α 0 1).toNat else if w = 2 then abJ α (pth α (-1) (α 0 2)) (α 0 1).toNat else abM α (pth α (-1) (α 0 2)) (α 0 1).toNat) else -3) else -2
def aAb (α : St) (w : Int) : St := if 0 ≤ w ∧ w ≤ 3 then aNo α (-1) else aR α 3
theorem wf_about {α : St} {w : Int} (hw : WF α) : WF (aAb α w) := by
  unfold aAb
  by_cases c : 0 ≤ w ∧ w ≤ 3
  · rw [if_pos c]; exact wf_no hw
  · rw [if_neg c]; exact WF_aR 3 (by omega) hw
theorem xc_about {σ α : St} {w : Int} (h : IC σ α) (hw : WF α) (ha : inR w) : oC (f_X9_about σ w) σ α (rAb α w) (aAb α w) := by
  unfold inR at ha
  have w2 := hw.2.1.2.1
  unfold f_X9_about rAb aAb aNo
  by_cases c : 0 ≤ w ∧ w ≤ 3
  · rw [if_pos c, if_pos c]
    rcases c_find h hw (a := -1) (by omega) with ⟨b1, τ, b2, b3, b4, b5⟩ | ⟨b1, τ, b2, b3, b4⟩
    · rw [has_1 b1, if_pos rfl, if_pos rfl]
      have hp : ∀ k, 0 ≤ k → k < α 0 1 → 0 ≤ pth α (-1) (α 0 2) k ∧ pth α (-1) (α 0 2) k < α 0 0 := fun k k1 k2 => pth_r hw b1.2 k1 k2
      have hq := b4.2
      have hk : τ 0 8 = α 0 2 := b3.2.2.1.1
      have hn := b1.1
      have en : 1 + ((α 0 1).toNat - 1) = (α 0 1).toNat := by omega
      have en0 : 0 + (α 0 1).toNat = (α 0 1).toNat := by omega
      have e1 : (((1 : Nat)) : Int) = 1 := rfl
      have e0 : (((0 : Nat)) : Int) = 0 := rfl
      have g0 := c_folls (fun y6 => some y6) b3 hw hp hq ((α 0 1).toNat - 1) 1 1000 (by omega) (by omega) (by omega)
      have g1 := c_fits (fun y6 => some y6) b3 hw hw.2.2.1.1 hp hq (α 0 1).toNat 0 1000 (by omega) (by omega)
      have g2 := c_jois (fun y6 => some y6) b3 hw hp hq ((α 0 1).toNat - 1) 1 1000 (by omega) (by omega) (by omega)
      have g3 := c_dear (fun y6 => some y6) b3 hw hp hq ((α 0 1).toNat - 1) 1 1000 (by omega) (by omega) (by omega)
      rw [en, e1] at g0 g2 g3
      rw [en0, e0] at g1
      have z0 : abF α (pth α (-1) (α 0 2)) 1 = 0 := rfl
      have z1 : abQ α (α 0 2) (pth α (-1) (α 0 2)) 0 = 0 := rfl
      have z2 : abJ α (pth α (-1) (α 0 2)) 1 = 0 := rfl
      have z3 : abM α (pth α (-1) (α 0 2)) 1 = 0 := rfl
      rw [z0] at g0
      rw [z1] at g1
      rw [z2] at g2
      rw [z3] at g3
      unfold f_X0_pathFollowers f_X0_pathFits f_X0_pathJoints f_X0_dearestPathJoint
      have : w = 0 ∨ w = 1 ∨ w = 2 ∨ w = 3 := by omega
      rcases this with rfl | rfl | rfl | rfl
      · simp (disch := omega) only [↓rdA_t, ↓wrA_t, ↓ixA_t, ↓wrF_d, ↓bd2_s, ↓bd1_s, ↓bnd_d, ↓iww_t, ↓iww_f, ↓iwl_t, ↓iwl_f, ↓ilw_t, ↓ilw_f, ↓eww_t, ↓eww_f, ↓ewl_t, ↓ewl_f, ↓ez_t, ↓ez_f, ↓il_t, ↓il_f, il_t, il_f, ez_t, ez_f, if_true, if_false, upS_h, upS_o, upS_i, Int.reduceAdd, Int.reduceSub, Int.reduceMul, Int.reduceNeg, wI_id, within_t, b2, g0]
        exact ⟨τ, rfl, b3, b5⟩
      · simp (disch := omega) only [↓rdA_t, ↓wrA_t, ↓ixA_t, ↓wrF_d, ↓bd2_s, ↓bd1_s, ↓bnd_d, ↓iww_t, ↓iww_f, ↓iwl_t, ↓iwl_f, ↓ilw_t, ↓ilw_f, ↓eww_t, ↓eww_f, ↓ewl_t, ↓ewl_f, ↓ez_t, ↓ez_f, ↓il_t, ↓il_f, il_t, il_f, ez_t, ez_f, if_true, if_false, upS_h, upS_o, upS_i, Int.reduceAdd, Int.reduceSub, Int.reduceMul, Int.reduceNeg, wI_id, within_t, b2, hk, g1]
        exact ⟨τ, rfl, b3, b5⟩
      · simp (disch := omega) only [↓rdA_t, ↓wrA_t, ↓ixA_t, ↓wrF_d, ↓bd2_s, ↓bd1_s, ↓bnd_d, ↓iww_t, ↓iww_f, ↓iwl_t, ↓iwl_f, ↓ilw_t, ↓ilw_f, ↓eww_t, ↓eww_f, ↓ewl_t, ↓ewl_f, ↓ez_t, ↓ez_f, ↓il_t, ↓il_f, il_t, il_f, ez_t, ez_f, if_true, if_false, upS_h, upS_o, upS_i, Int.reduceAdd, Int.reduceSub, Int.reduceMul, Int.reduceNeg, wI_id, within_t, b2, g2]
        exact ⟨τ, rfl, b3, b5⟩
      · simp (disch := omega) only [↓rdA_t, ↓wrA_t, ↓ixA_t, ↓wrF_d, ↓bd2_s, ↓bd1_s, ↓bnd_d, ↓iww_t, ↓iww_f, ↓iwl_t, ↓iwl_f, ↓ilw_t, ↓ilw_f, ↓eww_t, ↓eww_f, ↓ewl_t, ↓ewl_f, ↓ez_t, ↓ez_f, ↓il_t, ↓il_f, il_t, il_f, ez_t, ez_f, if_true, if_false, upS_h, upS_o, upS_i, Int.reduceAdd, Int.reduceSub, Int.reduceMul, Int.reduceNeg, wI_id, within_t, b2, g3]
        exact ⟨τ, rfl, b3, b5⟩
    · rw [has_0 b1, if_neg (show ¬ (0 : Int) = 1 by omega), if_neg (show ¬ (0 : Int) = 1 by omega)]
      simp (disch := omega) only [↓rdA_t, ↓wrA_t, ↓ixA_t, ↓wrF_d, ↓bd2_s, ↓bd1_s, ↓bnd_d, ↓iww_t, ↓iww_f, ↓iwl_t, ↓iwl_f, ↓ilw_t, ↓ilw_f, ↓eww_t, ↓eww_f, ↓ewl_t, ↓ewl_f, ↓ez_t, ↓ez_f, ↓il_t, ↓il_f, il_t, il_f, ez_t, ez_f, if_true, if_false, upS_h, upS_o, upS_i, Int.reduceAdd, Int.reduceSub, Int.reduceMul, Int.reduceNeg, wI_id, within_t, b2]
      exact oC_tr b4 (oC_id (oC_no b3))
  · rw [if_neg c, if_neg c]
    simp (disch := omega) only [↓rdA_t, ↓wrA_t, ↓ixA_t, ↓wrF_d, ↓bd2_s, ↓bd1_s, ↓bnd_d, ↓iww_t, ↓iww_f, ↓iwl_t, ↓iwl_f, ↓ilw_t, ↓ilw_f, ↓eww_t, ↓eww_f, ↓ewl_t, ↓ewl_f, ↓ez_t, ↓ez_f, ↓il_t, ↓il_f, il_t, il_f, ez_t, ez_f, if_true, if_false, upS_h, upS_o, upS_i, Int.reduceAdd, Int.reduceSub, Int.reduceMul, Int.reduceNeg, wI_id, within_f]
    exact oC_id (oC_bad h)
theorem xm_about {σ α : St} {w : Int} (h : IM σ α) (hw : WF α) (ha : inR w) : oM (f_X10_about σ w) σ α (rAb α w) (aAb α w) := by
  unfold inR at ha
  have w2 := hw.2.1.2.1
  unfold f_X10_about rAb aAb aNo
  by_cases c : 0 ≤ w ∧ w ≤ 3
  · rw [if_pos c, if_pos c]
    rcases m_now h hw with ⟨b1, τ, b2, b3, b4, b5, b6⟩ | ⟨b1, τ, b2, b3, b4⟩
    · rw [has_1 b1, if_pos rfl, if_pos rfl]
      obtain ⟨ρ, g1, g2, g3, g4⟩ := m_lay b5 hw b1 b3 b4
      have hp : ∀ k, 0 ≤ k → k < α 0 1 → 0 ≤ pth α (-1) (α 0 2) k ∧ pth α (-1) (α 0 2) k < α 0 0 := fun k k1 k2 => pth_r hw b1.2 k1 k2
      have g := m_abouts (w := w) (fun σ32 y33 y34 y35 y36 => some ((if wI w = 0 then y33 else (if wI w = 1 then y34 else (if wI w = 2 then y35 else y36))), σ32)) g3 hw hp g2 (α 0 1).toNat 0 1000 (by omega) (by omega)
      have e0 : (((0 : Nat)) : Int) = 0 := rfl
      have z0 : abF α (pth α (-1) (α 0 2)) 0 = 0 := rfl
      have z1 : abQ α (α 0 2) (pth α (-1) (α 0 2)) 0 = 0 := rfl
      have z2 : abJ α (pth α (-1) (α 0 2)) 0 = 0 := rfl
      have z3 : abM α (pth α (-1) (α 0 2)) 0 = 0 := rfl
      rw [e0, z0, z1, z2, z3, Nat.zero_add, wI_id (x := w) (by omega) (by omega)] at g
      rw [in_t (by omega), if_neg (by omega), b2, bd2_s, if_neg (by omega), g1, bd2_s, wI_id (x := w) (by omega) (by omega), g]
      exact ⟨ρ, rfl, g3, fun o ho => by rw [g4 o (by omega), b6 o ho]⟩
    · rw [has_0 b1, if_neg (show ¬ (0 : Int) = 1 by omega), if_neg (show ¬ (0 : Int) = 1 by omega)]
      simp (disch := omega) only [↓rdA_t, ↓wrA_t, ↓ixA_t, ↓wrF_d, ↓bd2_s, ↓bd1_s, ↓bnd_d, ↓iww_t, ↓iww_f, ↓iwl_t, ↓iwl_f, ↓ilw_t, ↓ilw_f, ↓eww_t, ↓eww_f, ↓ewl_t, ↓ewl_f, ↓ez_t, ↓ez_f, ↓il_t, ↓il_f, il_t, il_f, ez_t, ez_f, if_true, if_false, upS_h, upS_o, upS_i, Int.reduceAdd, Int.reduceSub, Int.reduceMul, Int.reduceNeg, wI_id, in_t, b2]
      exact oM_tr b4 (oM_id (oM_no b3))
  · rw [if_neg c, if_neg c]
    simp (disch := omega) only [↓rdA_t, ↓wrA_t, ↓ixA_t, ↓wrF_d, ↓bd2_s, ↓bd1_s, ↓bnd_d, ↓iww_t, ↓iww_f, ↓iwl_t, ↓iwl_f, ↓ilw_t, ↓ilw_f, ↓eww_t, ↓eww_f, ↓ewl_t, ↓ewl_f, ↓ez_t, ↓ez_f, ↓il_t, ↓il_f, il_t, il_f, ez_t, ez_f, if_true, if_false, upS_h, upS_o, upS_i, Int.reduceAdd, Int.reduceSub, Int.reduceMul, Int.reduceNeg, wI_id, in_f]
    exact oM_id (oM_bad (-2) h)
