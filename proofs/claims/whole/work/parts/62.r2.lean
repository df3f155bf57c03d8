/-! ===== cheapest ===== -/
def chK (α : St) : Nat → Int × Int
  | 0 => (0, 1000000)
  | m + 1 => if tp α (-1) m 0 < (chK α m).2 then ((m : Int), tp α (-1) m 0) else chK α m
theorem chK_r {α : St} (hw : WF α) (hf : allF α (-1)) (hn : 0 < α 0 1) : ∀ m : Nat, (0 ≤ (chK α m).2 ∧ (chK α m).2 ≤ 1000000) ∧ (0 < m → (chK α m).2 ≤ 496) := by
  intro m
  induction m with
  | zero => exact ⟨⟨by show (0 : Int) ≤ 1000000; omega, by show (1000000 : Int) ≤ 1000000; omega⟩, fun z => by omega⟩
  | succ m ih =>
    have ok := (tp_ok (kd := (m : Int)) hw hf hn).1
    rw [chK]
    by_cases c : tp α (-1) m 0 < (chK α m).2
    · rw [if_pos c]; exact ⟨⟨ok.1, by show tp α (-1) m 0 ≤ 1000000; omega⟩, fun _ => ok.2⟩
    · rw [if_neg c]; exact ⟨ih.1, fun _ => by omega⟩
def rCp (α : St) (w : Int) : Int := if 0 ≤ w ∧ w ≤ 1 then (if has α (-1) = 1 then (if w = 0 then (chK α 5).1 else (chK α 5).2) else -3) else -2
def aCp (α : St) (w : Int) : St := if 0 ≤ w ∧ w ≤ 1 then aNo α (-1) else aR α 3
theorem wf_cheap {α : St} {w : Int} (hw : WF α) : WF (aCp α w) := by
  unfold aCp
  by_cases c : 0 ≤ w ∧ w ≤ 1
  · rw [if_pos c]; exact wf_no hw
  · rw [if_neg c]; exact WF_aR 3 (by omega) hw
theorem c_cheap_g {α : St} {w : Int} (kx : St → Int → Int → Option (Int × St)) (hw : WF α) (hf : allF α (-1)) (hn0 : 0 < α 0 1) : ∀ (r x : Nat) (σ : St) (n : Nat), IC σ α → (∀ q, 0 ≤ q → q < α 0 1 → cCh σ α (-1) q) → x + r = 5 → r < n → ∃ τ, lp_X9_cheapest_39 w kx n σ (chK α x).1 (chK α x).2 x = kx τ (chK α (x + r)).1 (chK α (x + r)).2 ∧ IC τ α ∧ ∀ o, 118 ≤ o → τ o = σ o := by
  intro r
  have w2 := hw.2.1.2.1
  induction r with
  | zero =>
    intro x σ n h hc h1 hn
    obtain ⟨n, rfl⟩ : ∃ k, n = k + 1 := ⟨n - 1, by omega⟩
    rw [lp_X9_cheapest_39]
    exact ⟨σ, by simp (disch := omega) only [↓rdA_t, ↓wrA_t, ↓ixA_t, ↓wrF_d, ↓bd2_s, ↓bd1_s, ↓bnd_d, ↓iww_t, ↓iww_f, ↓iwl_t, ↓iwl_f, ↓ilw_t, ↓ilw_f, ↓eww_t, ↓eww_f, ↓ewl_t, ↓ewl_f, ↓ez_t, ↓ez_f, ↓il_t, ↓il_f, il_t, il_f, ez_t, ez_f, if_true, if_false, upS_h, upS_o, upS_i, Int.reduceAdd, Int.reduceSub, Int.reduceMul, Int.reduceNeg, wI_id, Nat.add_zero], h, fun _ _ => rfl⟩
  | succ r ih =>
    intro x σ n h hc h1 hn
    obtain ⟨n, rfl⟩ : ∃ k, n = k + 1 := ⟨n - 1, by omega⟩
    obtain ⟨τ, g1, g2, g3, g4⟩ := c_weigh (kd := (x : Int)) h hw hf hn0 (by omega) hc
    obtain ⟨ρ, f1, f2, f3⟩ := ih (x + 1) τ n (cW_I g4 h) (fun q q1 q2 => cW_C g4 (by omega) (hc q q1 q2)) (by omega) (by omega)
    rw [show x + 1 + r = x + (r + 1) by omega, show ((x + 1 : Nat) : Int) = (x : Int) + 1 by omega] at f1
    have ok := (tp_ok (kd := (x : Int)) hw hf hn0).1
    have rr := (chK_r hw hf hn0 x).1
    refine ⟨ρ, ?_, f2, fun o ho => by rw [f3 o ho, g4 o (by omega)]⟩
    rw [← f1, lp_X9_cheapest_39, chK]
    unfold f_X0_leastPrice
    by_cases c : tp α (-1) x 0 < (chK α x).2
    · rw [if_pos c]
      simp (disch := omega) only [↓rdA_t, ↓wrA_t, ↓ixA_t, ↓wrF_d, ↓bd2_s, ↓bd1_s, ↓bnd_d, ↓iww_t, ↓iww_f, ↓iwl_t, ↓iwl_f, ↓ilw_t, ↓ilw_f, ↓eww_t, ↓eww_f, ↓ewl_t, ↓ewl_f, ↓ez_t, ↓ez_f, ↓il_t, ↓il_f, il_t, il_f, ez_t, ez_f, if_true, if_false, upS_h, upS_o, upS_i, Int.reduceAdd, Int.reduceSub, Int.reduceMul, Int.reduceNeg, wI_id, g1, g3.1]
    · rw [if_neg c]
      simp (disch := omega) only [↓rdA_t, ↓wrA_t, ↓ixA_t, ↓wrF_d, ↓bd2_s, ↓bd1_s, ↓bnd_d, ↓iww_t, ↓iww_f, ↓iwl_t, ↓iwl_f, ↓ilw_t, ↓ilw_f, ↓eww_t, ↓eww_f, ↓ewl_t, ↓ewl_f, ↓ez_t, ↓ez_f, ↓il_t, ↓il_f, il_t, il_f, ez_t, ez_f, if_true, if_false, upS_h, upS_o, upS_i, Int.reduceAdd, Int.reduceSub, Int.reduceMul, Int.reduceNeg, wI_id, g1, g3.1]
theorem xc_cheap {σ α : St} {w : Int} (h : IC σ α) (hw : WF α) (ha : inR w) : oC (f_X9_cheapest σ w) σ α (rCp α w) (aCp α w) := by
  unfold inR at ha
  unfold f_X9_cheapest rCp aCp aNo
  by_cases c : 0 ≤ w ∧ w ≤ 1
  · rw [if_pos c, if_pos c]
    rcases c_all h hw (a := -1) (by omega) with ⟨b1, τ, b2, b3, b4, b5⟩ | ⟨b1, τ, b2, b3, b4⟩
    · rw [has_1 b1, if_pos rfl, if_pos rfl]
      obtain ⟨ρ, f1, f2, f3⟩ := c_cheap_g (w := w) (fun σ17 y18 y19 => some ((if w = 0 then y18 else y19), σ17)) hw b1.2 b1.1 5 0 τ 1000 b3 b4 (by omega) (by omega)
      have e0 : (((0 : Nat)) : Int) = 0 := rfl
      have e1 : (chK α 0).1 = 0 := rfl
      have e2 : (chK α 0).2 = 1000000 := rfl
      rw [e0, e1, e2, Nat.zero_add] at f1
      simp (disch := omega) only [↓rdA_t, ↓wrA_t, ↓ixA_t, ↓wrF_d, ↓bd2_s, ↓bd1_s, ↓bnd_d, ↓iww_t, ↓iww_f, ↓iwl_t, ↓iwl_f, ↓ilw_t, ↓ilw_f, ↓eww_t, ↓eww_f, ↓ewl_t, ↓ewl_f, ↓ez_t, ↓ez_f, ↓il_t, ↓il_f, il_t, il_f, ez_t, ez_f, if_true, if_false, upS_h, upS_o, upS_i, Int.reduceAdd, Int.reduceSub, Int.reduceMul, Int.reduceNeg, wI_id, within_t, b2]
      exact ⟨ρ, f1, f2, fun o ho => by rw [f3 o ho, b5 o (by omega)]⟩
    · rw [has_0 b1, if_neg (show ¬ (0 : Int) = 1 by omega), if_neg (show ¬ (0 : Int) = 1 by omega)]
      simp (disch := omega) only [↓rdA_t, ↓wrA_t, ↓ixA_t, ↓wrF_d, ↓bd2_s, ↓bd1_s, ↓bnd_d, ↓iww_t, ↓iww_f, ↓iwl_t, ↓iwl_f, ↓ilw_t, ↓ilw_f, ↓eww_t, ↓eww_f, ↓ewl_t, ↓ewl_f, ↓ez_t, ↓ez_f, ↓il_t, ↓il_f, il_t, il_f, ez_t, ez_f, if_true, if_false, upS_h, upS_o, upS_i, Int.reduceAdd, Int.reduceSub, Int.reduceMul, Int.reduceNeg, wI_id, within_t, b2]
      exact oC_tr (fun o ho => b4 o (by omega)) (oC_id (oC_no b3))
  · rw [if_neg c, if_neg c]
    simp (disch := omega) only [↓rdA_t, ↓wrA_t, ↓ixA_t, ↓wrF_d, ↓bd2_s, ↓bd1_s, ↓bnd_d, ↓iww_t, ↓iww_f, ↓iwl_t, ↓iwl_f, ↓ilw_t, ↓ilw_f, ↓eww_t, ↓eww_f, ↓ewl_t, ↓ewl_f, ↓ez_t, ↓ez_f, ↓il_t, ↓il_f, il_t, il_f, ez_t, ez_f, if_true, if_false, upS_h, upS_o, upS_i, Int.reduceAdd, Int.reduceSub, Int.reduceMul, Int.reduceNeg, wI_id, within_f]
    exact oC_id (oC_bad h)

theorem m_cheap_g {α : St} {w : Int} (kx : St → Int → Int → Option (Int × St)) (hw : WF α) (hf : allF α (-1)) (hn0 : 0 < α 0 1) : ∀ (r x : Nat) (σ : St) (n : Nat), IM σ α → x + r = 5 → r < n → ∃ τ, lp_X10_cheapest_36 w kx n σ (chK α x).1 (if x = 0 then -1 else (chK α x).2) x = kx τ (chK α (x + r)).1 (if x + r = 0 then -1 else (chK α (x + r)).2) ∧ IM τ α ∧ ∀ o, o < 118 → τ o = σ o := by
  intro r
  have w2 := hw.2.1.2.1
  induction r with
  | zero =>
    intro x σ n h h1 hn
    obtain ⟨n, rfl⟩ : ∃ k, n = k + 1 := ⟨n - 1, by omega⟩
    rw [lp_X10_cheapest_36]
    exact ⟨σ, by rw [iwl_f (by omega)]; rfl, h, fun _ _ => rfl⟩
  | succ r ih =>
    intro x σ n h h1 hn
    obtain ⟨n, rfl⟩ : ∃ k, n = k + 1 := ⟨n - 1, by omega⟩
    rcases m_chains (kd := (x : Int)) (JM_of h) hw h.2.2.1.2.2.2.2.2 (by omega) (by omega) with ⟨b1, τ, b2, b3, b4⟩ | ⟨b1, _⟩
    · obtain ⟨ρ, f1, f2, f3⟩ := ih (x + 1) τ n (mSc_I b4 h) (by omega) (by omega)
      rw [show x + 1 + r = x + (r + 1) by omega, show ((x + 1 : Nat) : Int) = (x : Int) + 1 by omega, if_neg (show ¬ x + 1 = 0 by omega)] at f1
      have ok := (tp_ok (kd := (x : Int)) hw hf hn0).1
      have rr := chK_r hw hf hn0 x
      refine ⟨ρ, ?_, f2, fun o ho => by rw [f3 o ho, b4.1 o (by omega)]⟩
      rw [← f1, lp_X10_cheapest_36, chK]
      have e := b3.1.1
      by_cases c : x = 0
      · subst c
        have e2 : (chK α 0).2 = 1000000 := rfl
        rw [if_pos rfl, if_pos (show tp α (-1) ((0 : Nat) : Int) 0 < (chK α 0).2 by rw [e2]; omega)]
        simp (disch := omega) only [↓rdA_t, ↓wrA_t, ↓ixA_t, ↓wrF_d, ↓bd2_s, ↓bd1_s, ↓bnd_d, ↓iww_t, ↓iww_f, ↓iwl_t, ↓iwl_f, ↓ilw_t, ↓ilw_f, ↓eww_t, ↓eww_f, ↓ewl_t, ↓ewl_f, ↓ez_t, ↓ez_f, ↓il_t, ↓il_f, il_t, il_f, ez_t, ez_f, if_true, if_false, upS_h, upS_o, upS_i, Int.reduceAdd, Int.reduceSub, Int.reduceMul, Int.reduceNeg, wI_id, b2, e]
      · rw [if_neg c]
        have rr2 := rr.2 (by omega)
        by_cases c2 : tp α (-1) x 0 < (chK α x).2
        · rw [if_pos c2]
          simp (disch := omega) only [↓rdA_t, ↓wrA_t, ↓ixA_t, ↓wrF_d, ↓bd2_s, ↓bd1_s, ↓bnd_d, ↓iww_t, ↓iww_f, ↓iwl_t, ↓iwl_f, ↓ilw_t, ↓ilw_f, ↓eww_t, ↓eww_f, ↓ewl_t, ↓ewl_f, ↓ez_t, ↓ez_f, ↓il_t, ↓il_f, il_t, il_f, ez_t, ez_f, if_true, if_false, upS_h, upS_o, upS_i, Int.reduceAdd, Int.reduceSub, Int.reduceMul, Int.reduceNeg, wI_id, b2, e]
        · rw [if_neg c2]
          simp (disch := omega) only [↓rdA_t, ↓wrA_t, ↓ixA_t, ↓wrF_d, ↓bd2_s, ↓bd1_s, ↓bnd_d, ↓iww_t, ↓iww_f, ↓iwl_t, ↓iwl_f, ↓ilw_t, ↓ilw_f, ↓eww_t, ↓eww_f, ↓ewl_t, ↓ewl_f, ↓ez_t, ↓ez_f, ↓il_t, ↓il_f, il_t, il_f, ez_t, ez_f, if_true, if_false, upS_h, upS_o, upS_i, Int.reduceAdd, Int.reduceSub, Int.reduceMul, Int.reduceNeg, wI_id, b2, e]
    · exact absurd ⟨hn0, hf⟩ b1
theorem xm_cheap {σ α : St} {w : Int} (h : IM σ α) (hw : WF α) (ha : inR w) : oM (f_X10_cheapest σ w) σ α (rCp α w) (aCp α w) := by
  unfold inR at ha
  unfold f_X10_cheapest rCp aCp aNo
  by_cases c : 0 ≤ w ∧ w ≤ 1
  · rw [if_pos c, if_pos c]
    rcases m_now h hw with ⟨b1, τ, b2, b3, b4, b5, b6⟩ | ⟨b1, τ, b2, b3, b4⟩
    · rw [has_1 b1, if_pos rfl, if_pos rfl]
      obtain ⟨ρ, f1, f2, f3⟩ := m_cheap_g (w := w) (fun σ25 y26 y27 => some ((if w = 0 then y26 else y27), σ25)) hw b1.2 b1.1 5 0 τ 1000 b5 (by omega) (by omega)
      have e0 : (((0 : Nat)) : Int) = 0 := rfl
      have e1 : (chK α 0).1 = 0 := rfl
      rw [if_pos rfl, if_neg (show ¬ 0 + 5 = 0 by omega), e0, e1, Nat.zero_add] at f1
      simp (disch := omega) only [↓rdA_t, ↓wrA_t, ↓ixA_t, ↓wrF_d, ↓bd2_s, ↓bd1_s, ↓bnd_d, ↓iww_t, ↓iww_f, ↓iwl_t, ↓iwl_f, ↓ilw_t, ↓ilw_f, ↓eww_t, ↓eww_f, ↓ewl_t, ↓ewl_f, ↓ez_t, ↓ez_f, ↓il_t, ↓il_f, il_t, il_f, ez_t, ez_f, if_true, if_false, upS_h, upS_o, upS_i, Int.reduceAdd, Int.reduceSub, Int.reduceMul, Int.reduceNeg, wI_id, in_t, b2]
      exact ⟨ρ, f1, f2, fun o ho => by rw [f3 o ho, b6 o ho]⟩
    · rw [has_0 b1, if_neg (show ¬ (0 : Int) = 1 by omega), if_neg (show ¬ (0 : Int) = 1 by omega)]
      simp (disch := omega) only [↓rdA_t, ↓wrA_t, ↓ixA_t, ↓wrF_d, ↓bd2_s, ↓bd1_s, ↓bnd_d, ↓iww_t, ↓iww_f, ↓iwl_t, ↓iwl_f, ↓ilw_t, ↓ilw_f, ↓eww_t, ↓eww_f, ↓ewl_t, ↓ewl_f, ↓ez_t, ↓ez_f, ↓il_t, ↓il_f, il_t, il_f, ez_t, ez_f, if_true, if_false, upS_h, upS_o, upS_i, Int.reduceAdd, Int.reduceSub, Int.reduceMul, Int.reduceNeg, wI_id, in_t, b2]
      exact oM_tr b4 (oM_id (oM_no b3))
  · rw [if_neg c, if_neg c]
    simp (disch := omega) only [↓rdA_t, ↓wrA_t, ↓ixA_t, ↓wrF_d, ↓bd2_s, ↓bd1_s, ↓bnd_d, ↓iww_t, ↓iww_f, ↓iwl_t, ↓iwl_f, ↓ilw_t, ↓ilw_f, ↓eww_t, ↓eww_f, ↓ewl_t, ↓ewl_f, ↓ez_t, ↓ez_f, ↓il_t, ↓il_f, il_t, il_f, ez_t, ez_f, if_true, if_false, upS_h, upS_o, upS_i, Int.reduceAdd, Int.reduceSub, Int.reduceMul, Int.reduceNeg, wI_id, in_f]
    exact oM_id (oM_bad (-2) h)
