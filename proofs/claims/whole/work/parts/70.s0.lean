/-! ===== the text: blanks, bytes ===== -/
theorem upS_s {σ : St} {o i x : Int} (h : σ o i = x) : upS σ o i x = σ := by
  funext a b
  unfold upS
  by_cases c : a = o ∧ b = i
  · rw [if_pos c, c.1, c.2, h]
  · rw [if_neg c]
theorem upS_u {σ : St} {o i x y : Int} : upS (upS σ o i x) o i y = upS σ o i y := by
  funext a b
  unfold upS
  by_cases c : a = o ∧ b = i
  · rw [if_pos c, if_pos c]
  · rw [if_neg c, if_neg c, if_neg c]
/-- the place behind blanks -/
def skG (α : St) : Nat → Int → Int
  | 0, p => p
  | n + 1, p => if p < α 0 6 ∧ α 11 p = 32 then skG α n (p + 1) else p
def sk (α : St) (p : Int) : Int := skG α 200 p
theorem skG_p {α : St} : ∀ (n : Nat) (p : Int), p ≤ α 0 6 → α 0 6 - p < n → p ≤ skG α n p ∧ skG α n p ≤ α 0 6 ∧ (skG α n p < α 0 6 → ¬ α 11 (skG α n p) = 32) := by
  intro n
  induction n with
  | zero => intro p h1 h2; omega
  | succ n ih =>
    intro p h1 h2
    rw [skG]
    by_cases c : p < α 0 6 ∧ α 11 p = 32
    · rw [if_pos c]
      have g := ih (p + 1) (by omega) (by omega)
      exact ⟨by omega, g.2.1, g.2.2⟩
    · rw [if_neg c]
      exact ⟨by omega, h1, fun q z => c ⟨q, z⟩⟩
theorem sk_p {α : St} {p : Int} (hw : wX α) (h0 : 0 ≤ p) (h1 : p ≤ α 0 6) : p ≤ sk α p ∧ sk α p ≤ α 0 6 ∧ (sk α p < α 0 6 → ¬ α 11 (sk α p) = 32) := skG_p 200 p h1 (by have := hw.2.1; omega)
theorem sk_i {α : St} {p : Int} (h : p < α 0 6 → ¬ α 11 p = 32) : sk α p = p := by
  unfold sk
  rw [skG, if_neg (fun z => h z.1 z.2)]
theorem sk_s {α : St} {p : Int} (hw : wX α) (h0 : 0 ≤ p) (h1 : p ≤ α 0 6) : sk α (sk α p) = sk α p := sk_i (sk_p hw h0 h1).2.2
/-- the byte there; at the end the class says -1, the reference 0 -/
def chC (α : St) (q : Int) : Int := if q < α 0 6 then α 11 q else -1
def chM (α : St) (q : Int) : Int := if q < α 0 6 then α 11 q else 0
theorem ch_p {α : St} {q : Int} (hw : wX α) (h0 : 0 ≤ q) (h1 : q ≤ α 0 6) : (q = α 0 6 ∧ chC α q = -1 ∧ chM α q = 0) ∨ (q < α 0 6 ∧ chC α q = chM α q ∧ 0 ≤ chC α q ∧ chC α q ≤ 127) := by
  unfold chC chM
  by_cases c : q < α 0 6
  · right
    have := hw.2.2 q h0 c
    rw [if_pos c, if_pos c]
    exact ⟨c, rfl, this⟩
  · left
    rw [if_neg c, if_neg c]
    exact ⟨by omega, rfl, rfl⟩
theorem c_look_g {α : St} (kx : St → Option (Int × St)) (hw : wX α) : ∀ (f : Nat) (σ : St) (p : Int) (n : Nat), cX σ α → σ 21 5 = p → 0 ≤ p → p ≤ α 0 6 → α 0 6 - p < f → f ≤ n → lp_X6_look_0 kx n σ = kx (upS σ 21 5 (skG α f p)) := by
  intro f
  have w2 := hw.2.1
  induction f with
  | zero => intro σ p n h hp h0 h1 h2 hn; omega
  | succ f ih =>
    intro σ p n h hp h0 h1 h2 hn
    obtain ⟨n, rfl⟩ : ∃ k, n = k + 1 := ⟨n - 1, by omega⟩
    have hl := h.1
    rw [lp_X6_look_0, skG]
    by_cases c : p < α 0 6
    · have hv := h.2 p h0 c
      have hr := hw.2.2 p h0 c
      rw [iww_t (by omega), rdA_t (by omega), hp, hv]
      by_cases c2 : α 11 p = 32
      · rw [ewl_t (by omega), if_pos ⟨c, c2⟩, wrF_d]
        have g := ih (upS σ 21 5 (p + 1)) (p + 1) n (cX_c (upS_i (by omega)) (upS_of (by omega)) rfl rfl h) (upS_h ⟨rfl, rfl⟩) (by omega) (by omega) (by omega) (by omega)
        rw [g, upS_u]
      · rw [ewl_f (by omega), if_neg (fun z => c2 z.2), upS_s hp]
    · rw [iww_f (by omega), if_neg (fun z => c z.1), upS_s hp]
theorem c_look {σ α : St} {p : Int} (h : cX σ α) (hw : wX α) (hp : σ 21 5 = p) (h0 : 0 ≤ p) (h1 : p ≤ α 0 6) : f_X6_look σ = some (chC α (sk α p), upS σ 21 5 (sk α p)) := by
  have w2 := hw.2.1
  have q := sk_p hw h0 h1
  have hl := h.1
  unfold f_X6_look jn_X6_look_38
  have hm : ∀ n : Nat, ∀ kx : St → Option (Int × St), 200 ≤ n → lp_X6_look_0 kx n σ = kx (upS σ 21 5 (sk α p)) := fun n kx hn => c_look_g kx hw 200 σ p n h hp h0 h1 (by omega) hn
  rw [hm 1000 _ (by omega)]
  unfold chC
  by_cases c : sk α p < α 0 6
  · have hv := h.2 (sk α p) (by omega) c
    simp (disch := omega) only [↓rdA_t, ↓wrA_t, ↓ixA_t, ↓wrF_d, ↓bd2_s, ↓bd1_s, ↓bnd_d, ↓iww_t, ↓iww_f, ↓iwl_t, ↓iwl_f, ↓ilw_t, ↓ilw_f, ↓eww_t, ↓eww_f, ↓ewl_t, ↓ewl_f, ↓ez_t, ↓ez_f, ↓il_t, ↓il_f, il_t, il_f, ez_t, ez_f, if_true, if_false, upS_h, upS_o, upS_i, Int.reduceAdd, Int.reduceSub, Int.reduceMul, Int.reduceNeg, wI_id, hv]
  · simp (disch := omega) only [↓rdA_t, ↓wrA_t, ↓ixA_t, ↓wrF_d, ↓bd2_s, ↓bd1_s, ↓bnd_d, ↓iww_t, ↓iww_f, ↓iwl_t, ↓iwl_f, ↓ilw_t, ↓ilw_f, ↓eww_t, ↓eww_f, ↓ewl_t, ↓ewl_f, ↓ez_t, ↓ez_f, ↓il_t, ↓il_f, il_t, il_f, ez_t, ez_f, if_true, if_false, upS_h, upS_o, upS_i, Int.reduceAdd, Int.reduceSub, Int.reduceMul, Int.reduceNeg, wI_id]
theorem m_here_g {α : St} (kx : St → Option (Int × St)) (hw : wX α) : ∀ (f : Nat) (σ : St) (p : Int) (n : Nat), mX σ α → σ 118 15 = p → 0 ≤ p → p ≤ α 0 6 → α 0 6 - p < f → f ≤ n → lp_X10_here_0 kx n σ = kx (upS σ 118 15 (skG α f p)) := by
  intro f
  have w2 := hw.2.1
  induction f with
  | zero => intro σ p n h hp h0 h1 h2 hn; omega
  | succ f ih =>
    intro σ p n h hp h0 h1 h2 hn
    obtain ⟨n, rfl⟩ : ∃ k, n = k + 1 := ⟨n - 1, by omega⟩
    have hl := h.1
    rw [lp_X10_here_0, skG]
    by_cases c : p < α 0 6
    · have hv := h.2 p h0 c
      have hr := hw.2.2 p h0 c
      rw [iww_t (by omega), rdA_t (by omega), hp, hv]
      by_cases c2 : α 11 p = 32
      · rw [ewl_t (by omega), if_pos ⟨c, c2⟩, wrF_d]
        have g := ih (upS σ 118 15 (p + 1)) (p + 1) n (mX_c (upS_i (by omega)) (upS_of (by omega)) rfl rfl h) (upS_h ⟨rfl, rfl⟩) (by omega) (by omega) (by omega) (by omega)
        rw [g, upS_u]
      · rw [ewl_f (by omega), if_neg (fun z => c2 z.2), upS_s hp]
    · rw [iww_f (by omega), if_neg (fun z => c z.1), upS_s hp]
theorem m_here {σ α : St} {p : Int} (h : mX σ α) (hw : wX α) (hp : σ 118 15 = p) (h0 : 0 ≤ p) (h1 : p ≤ α 0 6) : f_X10_here σ = some (chM α (sk α p), upS σ 118 15 (sk α p)) := by
  have w2 := hw.2.1
  have q := sk_p hw h0 h1
  have hl := h.1
  unfold f_X10_here jn_X10_here_38
  have hm : ∀ n : Nat, ∀ kx : St → Option (Int × St), 200 ≤ n → lp_X10_here_0 kx n σ = kx (upS σ 118 15 (sk α p)) := fun n kx hn => m_here_g kx hw 200 σ p n h hp h0 h1 (by omega) hn
  rw [hm 1000 _ (by omega)]
  unfold chM
  by_cases c : sk α p < α 0 6
  · have hv := h.2 (sk α p) (by omega) c
    simp (disch := omega) only [↓rdA_t, ↓wrA_t, ↓ixA_t, ↓wrF_d, ↓bd2_s, ↓bd1_s, ↓bnd_d, ↓iww_t, ↓iww_f, ↓iwl_t, ↓iwl_f, ↓ilw_t, ↓ilw_f, ↓eww_t, ↓eww_f, ↓ewl_t, ↓ewl_f, ↓ez_t, ↓ez_f, ↓il_t, ↓il_f, il_t, il_f, ez_t, ez_f, if_true, if_false, upS_h, upS_o, upS_i, Int.reduceAdd, Int.reduceSub, Int.reduceMul, Int.reduceNeg, wI_id, hv]
  · simp (disch := omega) only [↓rdA_t, ↓wrA_t, ↓ixA_t, ↓wrF_d, ↓bd2_s, ↓bd1_s, ↓bnd_d, ↓iww_t, ↓iww_f, ↓iwl_t, ↓iwl_f, ↓ilw_t, ↓ilw_f, ↓eww_t, ↓eww_f, ↓ewl_t, ↓ewl_f, ↓ez_t, ↓ez_f, ↓il_t, ↓il_f, il_t, il_f, ez_t, ez_f, if_true, if_false, upS_h, upS_o, upS_i, Int.reduceAdd, Int.reduceSub, Int.reduceMul, Int.reduceNeg, wI_id]
/-! figures and signs -/
theorem c_fig_t {σ α : St} {p a b : Int} (h : cX σ α) (hw : wX α) (hp : σ 21 5 = p) (h0 : 0 ≤ p) (h1 : p ≤ α 0 6) (hb : 0 ≤ a ∧ b ≤ 9) (hc : a ≤ chC α (sk α p) - 48 ∧ chC α (sk α p) - 48 ≤ b) : f_X6_readFigure σ a b = some (chC α (sk α p) - 48, upS σ 21 5 (sk α p + 1)) := by
  unfold f_X6_readFigure
  rw [c_look h hw hp h0 h1, bd2_s, bnd_d, within_t (by omega), if_neg (by omega), wrF_d, upS_u, upS_h ⟨rfl, rfl⟩]
theorem c_fig_f {σ α : St} {p a b : Int} (h : cX σ α) (hw : wX α) (hp : σ 21 5 = p) (h0 : 0 ≤ p) (h1 : p ≤ α 0 6) (hb : (0 ≤ a ∧ a ≤ 9) ∧ 0 ≤ b ∧ b ≤ 9) (hc : ¬ (a ≤ chC α (sk α p) - 48 ∧ chC α (sk α p) - 48 ≤ b)) : f_X6_readFigure σ a b = some (-1, upS (upS σ 21 5 (sk α p)) 21 6 (sk α p)) := by
  have q := sk_p hw h0 h1
  have r := ch_p hw (show 0 ≤ sk α p by omega) q.2.1
  unfold f_X6_readFigure f_X6_fail
  rw [c_look h hw hp h0 h1, bd2_s, bnd_d, within_f (by omega), if_pos rfl, wrF_d, bd2_s, upS_h ⟨rfl, rfl⟩]
theorem c_sign_t {σ α : St} {p a : Int} (h : cX σ α) (hw : wX α) (hp : σ 21 5 = p) (h0 : 0 ≤ p) (h1 : p ≤ α 0 6) (hc : chC α (sk α p) = a) : f_X6_readSign σ a = some (1, upS σ 21 5 (sk α p + 1)) := by
  unfold f_X6_readSign
  rw [c_look h hw hp h0 h1, bd2_s, eww_t hc, wrF_d, upS_u, upS_h ⟨rfl, rfl⟩]
theorem c_sign_f {σ α : St} {p a : Int} (h : cX σ α) (hw : wX α) (hp : σ 21 5 = p) (h0 : 0 ≤ p) (h1 : p ≤ α 0 6) (hb : 0 ≤ a ∧ a ≤ 127) (hc : ¬ chC α (sk α p) = a) : f_X6_readSign σ a = some (0, upS (upS σ 21 5 (sk α p)) 21 6 (sk α p)) := by
  have q := sk_p hw h0 h1
  have r := ch_p hw (show 0 ≤ sk α p by omega) q.2.1
  unfold f_X6_readSign f_X6_fail
  rw [c_look h hw hp h0 h1, bd2_s, eww_f (by omega), wrF_d, bd2_s, upS_h ⟨rfl, rfl⟩]
theorem m_takes_t {σ α : St} {p a b : Int} (h : mX σ α) (hw : wX α) (hp : σ 118 15 = p) (h0 : 0 ≤ p) (h1 : p ≤ α 0 6) (hb : (1 ≤ a ∧ a ≤ 127) ∧ 1 ≤ b ∧ b ≤ 127) (hc : a ≤ chC α (sk α p) ∧ chC α (sk α p) ≤ b) : f_X10_takes σ a b = some (chC α (sk α p) - a, upS σ 118 15 (sk α p + 1)) := by
  have q := sk_p hw h0 h1
  have r := ch_p hw (show 0 ≤ sk α p by omega) q.2.1
  have e : chM α (sk α p) = chC α (sk α p) := by omega
  unfold f_X10_takes
  rw [m_here h hw hp h0 h1, bd2_s, e, in_t3 (by omega), if_neg (by omega), wrF_d, upS_u, upS_h ⟨rfl, rfl⟩]
theorem m_takes_f {σ α : St} {p a b : Int} (h : mX σ α) (hw : wX α) (hp : σ 118 15 = p) (h0 : 0 ≤ p) (h1 : p ≤ α 0 6) (hb : (1 ≤ a ∧ a ≤ 127) ∧ 1 ≤ b ∧ b ≤ 127) (hc : ¬ (a ≤ chC α (sk α p) ∧ chC α (sk α p) ≤ b)) : f_X10_takes σ a b = some (-1, upS σ 118 15 (sk α p)) := by
  have q := sk_p hw h0 h1
  have r := ch_p hw (show 0 ≤ sk α p by omega) q.2.1
  unfold f_X10_takes
  rw [m_here h hw hp h0 h1, bd2_s, in_f3 (by omega), if_pos rfl]
/-! the end of a text -/
def enS (α : St) (p : Int) : Int := if chC α (sk α p) = 59 then (if chC α (sk α (sk α p + 1)) = -1 then -1 else sk α (sk α p + 1)) else sk α p
theorem enS_s {α : St} {p : Int} (hw : wX α) (h0 : 0 ≤ p) (h1 : p ≤ α 0 6) : enS α (sk α p) = enS α p := by
  unfold enS
  rw [sk_s hw h0 h1]
theorem enS_r {α : St} {p : Int} (hw : wX α) (h0 : 0 ≤ p) (h1 : p ≤ α 0 6) : -1 ≤ enS α p ∧ enS α p ≤ 120 := by
  have w2 := hw.2.1
  have q := sk_p hw h0 h1
  have r := ch_p hw (show 0 ≤ sk α p by omega) q.2.1
  unfold enS
  by_cases c : chC α (sk α p) = 59
  · rw [if_pos c]
    have q2 := sk_p hw (show 0 ≤ sk α p + 1 by omega) (by omega)
    by_cases c2 : chC α (sk α (sk α p + 1)) = -1
    · rw [if_pos c2]; omega
    · rw [if_neg c2]; omega
  · rw [if_neg c]; omega
theorem c_end {σ α : St} {p : Int} (h : cX σ α) (hw : wX α) (hp : σ 21 5 = p) (hf : σ 21 6 = -1) (h0 : 0 ≤ p) (h1 : p ≤ α 0 6) : ∃ τ, jn_X6_read_76 σ = some (enS α p, τ) ∧ (∀ o, ¬ o = 21 → τ o = σ o) ∧ ∀ i, ¬ i = 5 → ¬ i = 6 → τ 21 i = σ 21 i := by
  have w2 := hw.2.1
  have q := sk_p hw h0 h1
  have r := ch_p hw (show 0 ≤ sk α p by omega) q.2.1
  unfold jn_X6_read_76 f_X6_readEnd enS
  rw [ewl_t (by omega)]
  by_cases c : chC α (sk α p) = 59
  · rw [if_pos c, c_sign_t h hw hp h0 h1 c, bd2_s, if_neg (by omega)]
    have h2 : cX (upS σ 21 5 (sk α p + 1)) α := cX_c (upS_i (by omega)) (upS_of (by omega)) rfl rfl h
    have q2 := sk_p hw (show 0 ≤ sk α p + 1 by omega) (by omega)
    have r2 := ch_p hw (show 0 ≤ sk α (sk α p + 1) by omega) q2.2.1
    rw [c_look h2 hw (upS_h ⟨rfl, rfl⟩) (by omega) (by omega), bd2_s, upS_u]
    by_cases c2 : chC α (sk α (sk α p + 1)) = -1
    · rw [if_pos c2, ewl_t (by omega), bd2_s, upS_i (by omega), hf]
      exact ⟨_, rfl, fun o ho => upS_of ho, fun i i1 i2 => upS_i i1⟩
    · unfold f_X6_fail
      rw [if_neg c2, ewl_f (by omega), wrF_d, bd2_s, bd2_s, upS_h ⟨rfl, rfl⟩, upS_h ⟨rfl, rfl⟩]
      exact ⟨_, rfl, fun o ho => by rw [upS_of ho, upS_of ho], fun i i1 i2 => by rw [upS_i i2, upS_i i1]⟩
  · rw [if_neg c, c_sign_f h hw hp h0 h1 (by omega) c, bd2_s, if_pos rfl, bd2_s, upS_h ⟨rfl, rfl⟩]
    exact ⟨_, rfl, fun o ho => by rw [upS_of ho, upS_of ho], fun i i1 i2 => by rw [upS_i i2, upS_i i1]⟩
theorem c_endf {σ : St} {q : Int} (hf : σ 21 6 = q) (hq : 0 ≤ q ∧ q ≤ 200) : jn_X6_read_76 σ = some (q, σ) := by
  unfold jn_X6_read_76
  rw [ewl_f (by omega), hf]
