/-! ===== the component's answers about chains ===== -/
def allI (α : St) (a : Int) : Nat → Int
  | 0 => 1
  | m + 1 => if (rnS α a m).1 = 1 then allI α a m else 0
def has (α : St) (a : Int) : Int := if 0 < α 0 1 then allI α a (α 0 1).toNat else 0
theorem allI_p {α : St} {a : Int} : ∀ m : Nat, (allI α a m = 1 ∧ ∀ k : Nat, k < m → (rnS α a k).1 = 1) ∨ (allI α a m = 0 ∧ ∃ k : Nat, k < m ∧ ¬ (rnS α a k).1 = 1) := by
  intro m
  induction m with
  | zero => left; exact ⟨rfl, fun k hk => by omega⟩
  | succ m ih =>
    rw [allI]
    by_cases c : (rnS α a m).1 = 1
    · rw [if_pos c]
      rcases ih with ⟨h1, h2⟩ | ⟨h1, k, h2, h3⟩
      · left
        refine ⟨h1, fun k hk => ?_⟩
        by_cases c2 : k = m
        · rw [c2]; exact c
        · exact h2 k (by omega)
      · right; exact ⟨h1, k, by omega, h3⟩
    · rw [if_neg c]
      right; exact ⟨rfl, m, by omega, c⟩
theorem has_1 {α : St} {a : Int} (h : 0 < α 0 1 ∧ allF α a) : has α a = 1 := by
  unfold has
  rw [if_pos h.1]
  rcases allI_p (α := α) (a := a) (α 0 1).toNat with ⟨h1, _⟩ | ⟨_, k, h2, h3⟩
  · exact h1
  · exact absurd (h.2 k (by omega) (by omega)) h3
theorem has_0 {α : St} {a : Int} (h : ¬ (0 < α 0 1 ∧ allF α a)) : has α a = 0 := by
  unfold has
  by_cases c : 0 < α 0 1
  · rw [if_pos c]
    rcases allI_p (α := α) (a := a) (α 0 1).toNat with ⟨_, h2⟩ | ⟨h1, _⟩
    · exfalso
      apply h
      refine ⟨c, fun k k1 k2 => ?_⟩
      have := h2 k.toNat (by omega)
      rw [show ((k.toNat : Nat) : Int) = k by omega] at this
      exact this
    · exact h1
  · rw [if_neg c]
/-- the component's chains stand -/
def cFd (τ α : St) (a kd : Int) : Prop := (τ 58 0 = tp α a kd 0 ∧ τ 59 0 = far 0 (tp α a kd 1) ∧ τ 60 0 = tp α a kd 2 ∧ τ 61 0 = tp α a kd 3) ∧ ∀ k, 0 ≤ k → k < α 0 1 → τ 69 k = pth α a kd k
theorem c_find {σ α : St} {a : Int} (h : IC σ α) (hw : WF α) (ha : -1 ≤ a ∧ a < 40) : ((0 < α 0 1 ∧ allF α a) ∧ ∃ τ, f_X9_findChain σ a = some (1, τ) ∧ IC τ α ∧ cFd τ α a (α 0 2) ∧ ∀ o, 118 ≤ o → τ o = σ o) ∨ (¬ (0 < α 0 1 ∧ allF α a) ∧ ∃ τ, f_X9_findChain σ a = some (0, τ) ∧ IC τ α ∧ ∀ o, 118 ≤ o → τ o = σ o) := by
  have w2 := hw.2.1.2.1
  unfold f_X9_findChain
  rcases c_all h hw ha with ⟨b1, τ, b2, b3, b4, b5⟩ | ⟨b1, τ, b2, b3, b4⟩
  · left
    have hkd := hw.2.2.1.1
    obtain ⟨ρ, g1, g2, g3, g4⟩ := c_weigh b3 hw b1.2 b1.1 hkd b4
    have hI := cW_I g4 b3
    obtain ⟨ξ, f1, f2, f3⟩ := c_trace_g (α := α) (a := a) (kd := α 0 2) (fun σ10 => some (0, σ10)) hw b1.2 (α 0 1).toNat 0 ρ 1000 hI (fun q q1 q2 => cW_C g4 (by omega) (b4 q q1 q2)) g2 (by omega) (fun k k1 k2 => by omega) (by omega)
    have e0 : (((0 : Nat)) : Int) = 0 := rfl
    have e1 : ixs α a (α 0 2) 0 = tv α a (α 0 2) := rfl
    rw [e0, e1] at f1
    have et : f_X0_trace ρ = some (0, ξ) := by
      unfold f_X0_trace
      simp (disch := omega) only [↓rdA_t, ↓wrA_t, ↓ixA_t, ↓wrF_d, ↓bd2_s, ↓bd1_s, ↓bnd_d, ↓iww_t, ↓iww_f, ↓iwl_t, ↓iwl_f, ↓ilw_t, ↓ilw_f, ↓eww_t, ↓eww_f, ↓ewl_t, ↓ewl_f, ↓ez_t, ↓ez_f, ↓il_t, ↓il_f, il_t, il_f, ez_t, ez_f, if_true, if_false, upS_h, upS_o, upS_i, Int.reduceAdd, Int.reduceSub, Int.reduceMul, Int.reduceNeg, wI_id, g3.2.2.2.2]
      exact f1
    have ek := b3.2.2.1.1
    refine ⟨b1, ξ, ?_, IC_scr (fun o ho i _ => by rw [f3 o (by omega)]) hI, ⟨⟨?_, ?_, ?_, ?_⟩, f2⟩, fun o ho => by rw [f3 o (by omega), g4 o (by omega), b5 o (by omega)]⟩
    · simp (disch := omega) only [↓rdA_t, ↓wrA_t, ↓ixA_t, ↓wrF_d, ↓bd2_s, ↓bd1_s, ↓bnd_d, ↓iww_t, ↓iww_f, ↓iwl_t, ↓iwl_f, ↓ilw_t, ↓ilw_f, ↓eww_t, ↓eww_f, ↓ewl_t, ↓ewl_f, ↓ez_t, ↓ez_f, ↓il_t, ↓il_f, il_t, il_f, ez_t, ez_f, if_true, if_false, upS_h, upS_o, upS_i, Int.reduceAdd, Int.reduceSub, Int.reduceMul, Int.reduceNeg, wI_id, b2, ek, g1, et]
    · rw [f3 58 (by omega)]; exact g3.1
    · rw [f3 59 (by omega)]; exact g3.2.1
    · rw [f3 60 (by omega)]; exact g3.2.2.1
    · rw [f3 61 (by omega)]; exact g3.2.2.2.1
  · right
    refine ⟨b1, τ, ?_, b3, fun o ho => b4 o (by omega)⟩
    simp (disch := omega) only [↓rdA_t, ↓wrA_t, ↓ixA_t, ↓wrF_d, ↓bd2_s, ↓bd1_s, ↓bnd_d, ↓iww_t, ↓iww_f, ↓iwl_t, ↓iwl_f, ↓ilw_t, ↓ilw_f, ↓eww_t, ↓eww_f, ↓ewl_t, ↓ewl_f, ↓ez_t, ↓ez_f, ↓il_t, ↓il_f, il_t, il_f, ez_t, ez_f, if_true, if_false, upS_h, upS_o, upS_i, Int.reduceAdd, Int.reduceSub, Int.reduceMul, Int.reduceNeg, wI_id, b2]
