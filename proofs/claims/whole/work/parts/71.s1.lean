/-! ===== the words ===== -/
def wdG (α : St) (w p : Int) : Nat → Int → Int
  | 0, _ => -1
  | r + 1, k => if p + k < α 0 6 then (if α 11 (p + k) = sChr w k then wdG α w p r (k + 1) else p) else α 0 6
theorem sChr_r {w k : Int} : 0 ≤ sChr w k ∧ sChr w k ≤ 127 := by
  unfold sChr
  repeat' split
  all_goals omega
theorem sLen_r {w : Int} : 3 ≤ sLen w ∧ sLen w ≤ 4 := by
  unfold sLen
  repeat' split
  all_goals omega
theorem let_e {w k : Int} (hw : 0 ≤ w ∧ w ≤ 1) (hk : 0 ≤ k ∧ k ≤ 4) : f_X10_letterOf w k = sChr w k := by
  unfold f_X10_letterOf sChr
  rw [wI_id (x := w) (by omega) (by omega), wI_id (x := k) (by omega) (by omega)]
theorem c_word {α : St} {w p : Int} (kx : St → Option (Int × St)) (hw : wX α) (hp : 0 ≤ p) : ∀ (r : Nat) (k : Int) (σ : St) (n : Nat), cX σ α → σ 21 5 = p + k → 0 ≤ k → k + r = sLen w → p + k ≤ α 0 6 → r < n → (wdG α w p r k = -1 ∧ p + sLen w ≤ α 0 6 ∧ lp_X6_readWord_7 w p kx n σ k = kx (upS σ 21 5 (p + sLen w))) ∨ ((0 ≤ wdG α w p r k ∧ wdG α w p r k ≤ α 0 6) ∧ lp_X6_readWord_7 w p kx n σ k = some (0, upS (upS σ 21 5 (wdG α w p r k)) 21 6 (wdG α w p r k))) := by
  intro r
  have w2 := hw.2.1
  have sl := sLen_r (w := w)
  induction r with
  | zero =>
    intro k σ n h hs h0 h1 h2 hn
    obtain ⟨n, rfl⟩ : ∃ k, n = k + 1 := ⟨n - 1, by omega⟩
    left
    have ek : k = sLen w := by omega
    refine ⟨rfl, by omega, ?_⟩
    rw [lp_X6_readWord_7, iww_f (by omega), upS_s (by rw [hs, ek])]
  | succ r ih =>
    intro k σ n h hs h0 h1 h2 hn
    obtain ⟨n, rfl⟩ : ∃ k, n = k + 1 := ⟨n - 1, by omega⟩
    have hl := h.1
    rw [lp_X6_readWord_7, wdG, iww_t (by omega)]
    by_cases c : p + k < α 0 6
    · have hv := h.2 (p + k) (by omega) c
      have hr := hw.2.2 (p + k) (by omega) c
      have sr := sChr_r (w := w) (k := k)
      rw [iww_t (by omega), rdA_t (by omega), hs, hv, if_pos (show 0 ≤ k ∧ k < sLen w by omega), if_pos c]
      by_cases c2 : α 11 (p + k) = sChr w k
      · rw [eww_t c2, if_pos c2, wrF_d]
        have g := ih (k + 1) (upS σ 21 5 (p + k + 1)) n (cX_c (upS_i (by omega)) (upS_of (by omega)) rfl rfl h) (by rw [upS_h ⟨rfl, rfl⟩]; omega) (by omega) (by omega) (by omega) (by omega)
        rw [upS_u, upS_u] at g
        exact g
      · right
        unfold f_X6_fail
        rw [eww_f (by omega), if_neg c2, wrF_d, wrF_d, bd2_s, upS_h ⟨rfl, rfl⟩]
        exact ⟨by omega, rfl⟩
    · right
      unfold f_X6_fail
      rw [iww_f (by omega), if_neg c, wrF_d, bd2_s, hs, show p + k = α 0 6 by omega]
      refine ⟨by omega, ?_⟩
      rw [upS_s (show σ 21 5 = α 0 6 by omega)]
theorem m_word {α : St} {w p : Int} (kx : St → Option (Int × St)) (hw : wX α) (hp : 0 ≤ p) (hw1 : 0 ≤ w ∧ w ≤ 1) : ∀ (r : Nat) (k : Int) (σ : St) (n : Nat), mX σ α → 0 ≤ k → k + r = sLen w → p + k ≤ α 0 6 → r < n → (wdG α w p r k = -1 ∧ lp_X10_takesWord_25 p w kx n σ k = kx σ) ∨ ((0 ≤ wdG α w p r k ∧ wdG α w p r k ≤ α 0 6) ∧ lp_X10_takesWord_25 p w kx n σ k = some (-1, upS σ 118 15 (wdG α w p r k))) := by
  intro r
  have w2 := hw.2.1
  have sl := sLen_r (w := w)
  have sl2 : sLen w = 3 + w := by
    unfold sLen
    by_cases c : w = 0
    · rw [if_pos c]; omega
    · rw [if_neg c]; omega
  induction r with
  | zero =>
    intro k σ n h h0 h1 h2 hn
    obtain ⟨n, rfl⟩ : ∃ k, n = k + 1 := ⟨n - 1, by omega⟩
    left
    refine ⟨rfl, ?_⟩
    rw [lp_X10_takesWord_25, iww_f (by omega)]
  | succ r ih =>
    intro k σ n h h0 h1 h2 hn
    obtain ⟨n, rfl⟩ : ∃ k, n = k + 1 := ⟨n - 1, by omega⟩
    have hl := h.1
    rw [lp_X10_takesWord_25, wdG, iww_t (by omega)]
    by_cases c : p + k < α 0 6
    · have hv := h.2 (p + k) (by omega) c
      have hr := hw.2.2 (p + k) (by omega) c
      have sr := sChr_r (w := w) (k := k)
      rw [iww_t (by omega), rdA_t (by omega), hv, let_e hw1 (by omega), if_pos c]
      by_cases c2 : α 11 (p + k) = sChr w k
      · rw [eww_t c2, if_pos c2]
        exact ih (k + 1) σ n h (by omega) (by omega) (by omega) (by omega)
      · right
        rw [eww_f (by omega), if_neg c2, wrF_d]
        exact ⟨by omega, rfl⟩
    · right
      rw [iww_f (by omega), if_neg c, wrF_d, hl]
      exact ⟨by omega, rfl⟩
/-- which word, and where it is at fault (-1: nowhere) -/
def wdW (α : St) : Int := if chC α (sk α 0) = 116 then 1 else 0
def wdF (α : St) : Int := wdG α (wdW α) (sk α 0) (sLen (wdW α)).toNat 0
theorem wdF_n {α : St} (hw : wX α) (h1 : ¬ chC α (sk α 0) = 114) (h2 : ¬ chC α (sk α 0) = 116) : wdF α = sk α 0 ∧ wdW α = 0 := by
  have w1 := hw.1
  have q := sk_p hw (show (0 : Int) ≤ 0 by omega) w1
  have e : wdW α = 0 := by unfold wdW; rw [if_neg h2]
  unfold wdF
  rw [e]
  refine ⟨?_, rfl⟩
  rw [show (sLen 0).toNat = 2 + 1 from rfl, wdG, Int.add_zero]
  by_cases c : sk α 0 < α 0 6
  · rw [if_pos c, if_neg]
    intro z
    apply h1
    unfold chC
    rw [if_pos c, z]
    rfl
  · rw [if_neg c]; omega
theorem m_tword {σ α : St} (h : mX σ α) (hw : wX α) (hp : σ 118 15 = 0) : (wdF α = -1 ∧ sk α 0 + 3 + wdW α ≤ α 0 6 ∧ f_X10_takesWord σ = some (wdW α, upS σ 118 15 (sk α 0 + 3 + wdW α))) ∨ ((0 ≤ wdF α ∧ wdF α ≤ α 0 6) ∧ f_X10_takesWord σ = some (-1, upS σ 118 15 (wdF α))) := by
  have w1 := hw.1
  have q := sk_p hw (show (0 : Int) ≤ 0 by omega) w1
  have rr := ch_p hw q.1 q.2.1
  have ew : (if wI (chM α (sk α 0)) = 116 then (1 : Int) else 0) = wdW α := by
    unfold wdW
    rw [wI_id (x := chM α (sk α 0)) (by omega) (by omega)]
    by_cases c : chC α (sk α 0) = 116
    · rw [if_pos c, if_pos (by omega)]
    · rw [if_neg c, if_neg (by omega)]
  have wr : 0 ≤ wdW α ∧ wdW α ≤ 1 := by
    unfold wdW
    by_cases c : chC α (sk α 0) = 116
    · rw [if_pos c]; omega
    · rw [if_neg c]; omega
  have sl := sLen_r (w := wdW α)
  have sl2 : sLen (wdW α) = 3 + wdW α := by
    unfold sLen
    by_cases c : wdW α = 0
    · rw [if_pos c]; omega
    · rw [if_neg c]; omega
  have h2 : mX (upS σ 118 15 (sk α 0)) α := mX_c (upS_i (by omega)) (upS_of (by omega)) rfl rfl h
  have h3 : cX (upS (upS (fun o i => if o = 21 then α 0 6 else α 11 i) 21 5 (sk α 0)) 21 3 (α 0 6)) α := ⟨by rw [upS_h ⟨rfl, rfl⟩], fun i i1 i2 => by rw [upS_o (by omega), upS_o (by omega)]; rfl⟩
  unfold f_X10_takesWord
  rw [m_here h hw hp (by omega) w1, bd2_s, bnd_d, ew, upS_h ⟨rfl, rfl⟩]
  have g := m_word (p := sk α 0) (fun σ11 => wrF σ11 118 15 ((sk α 0 + 3) + wdW α) fun σ12 => some (wdW α, σ12)) hw q.1 wr (sLen (wdW α)).toNat 0 (upS σ 118 15 (sk α 0)) 1000 h2 (by omega) (by omega) (by omega) (by omega)
  have gc := c_word (w := wdW α) (p := sk α 0) (fun σ11 => some (0, σ11)) hw q.1 (sLen (wdW α)).toNat 0 _ 1000 h3 (by rw [upS_i (by omega), upS_h ⟨rfl, rfl⟩]; omega) (by omega) (by omega) (by omega) (by omega)
  rcases g with ⟨g1, g2⟩ | ⟨g1, g2⟩
  · left
    refine ⟨g1, ?_, by rw [g2, wrF_d, upS_u]⟩
    rcases gc with ⟨k1, k2, _⟩ | ⟨k1, _⟩
    · omega
    · omega
  · right
    exact ⟨g1, by rw [g2, upS_u]; rfl⟩
