/-! ===== rounds of sounds ===== -/
def bt (M s : Int) : Int := wI (andI (shrI M s) 1)
def un (M : Int) : Int := (if bt M 0 = 0 then 1 else 0) + (if bt M 1 = 0 then 1 else 0) + (if bt M 2 = 0 then 1 else 0) + (if bt M 3 = 0 then 1 else 0) + (if bt M 4 = 0 then 1 else 0) + (if bt M 5 = 0 then 1 else 0)
abbrev mkP (M s : Int) : Prop := (decide (wI (andI M (shlI 1 s)) = 0) = decide (bt M s = 0)) ∧ (bt M s = 0 → un (orI M (shlI 1 s)) + 1 = un M ∧ 0 ≤ orI M (shlI 1 s) ∧ orI M (shlI 1 s) ≤ 63) ∧ (un M = 0 → ¬ bt M s = 0) ∧ 0 ≤ un M
theorem mk_tab : ∀ (M : Fin 64) (s : Fin 6), mkP (M.val : Int) (s.val : Int) := by decide +kernel
theorem mk_e {M s : Int} (hM : 0 ≤ M ∧ M ≤ 63) (hs : 0 ≤ s ∧ s ≤ 5) : mkP M s := by
  have := mk_tab ⟨M.toNat, by omega⟩ ⟨s.toNat, by omega⟩
  simp only at this
  rw [show ((M.toNat : Nat) : Int) = M by omega, show ((s.toNat : Nat) : Int) = s by omega] at this
  exact this
theorem un_0 : un 0 = 6 := by decide +kernel
/-- found, steps, tried, the sound -/
def rnG (α : St) (a k : Int) : Nat → Int → Int → Int → Int → Int × Int × Int × Int
  | 0, s, _, x, t => (0, x, t, s)
  | m + 1, s, M, x, t => if bt M s = 0 then (if 0 ≤ bst α a k s then (1, x + (dT α k - bst α a k s), t + 1, s) else rnG α a k m (α 10 s) (orI M (shlI 1 s)) (x + (dT α k + 1)) (t + 1)) else (0, x, t, s)
def rnS (α : St) (a k : Int) : Int × Int × Int × Int := rnG α a k 6 (α 7 k) 0 0 0
theorem rnG_r {α : St} {a k : Int} (hw : WF α) : ∀ (m : Nat) (s M x t : Int), 0 ≤ s ∧ s ≤ 5 → 0 ≤ x → 0 ≤ t → ((rnG α a k m s M x t).1 = 0 ∨ (rnG α a k m s M x t).1 = 1) ∧ (0 ≤ (rnG α a k m s M x t).2.1 ∧ (rnG α a k m s M x t).2.1 ≤ x + 8 * m) ∧ (0 ≤ (rnG α a k m s M x t).2.2.1 ∧ (rnG α a k m s M x t).2.2.1 ≤ t + m) ∧ (0 ≤ (rnG α a k m s M x t).2.2.2 ∧ (rnG α a k m s M x t).2.2.2 ≤ 5) ∧ ((rnG α a k m s M x t).1 = 1 → 0 ≤ bst α a k (rnG α a k m s M x t).2.2.2) := by
  intro m
  have hd := dT_r (k := k) hw.2.2.2.2
  induction m with
  | zero => intro s M x t h1 h2 h3; rw [rnG]; exact ⟨Or.inl rfl, ⟨h2, by simp⟩, ⟨h3, by simp⟩, h1, fun z => by simp at z⟩
  | succ m ih =>
    intro s M x t h1 h2 h3
    rw [rnG]
    by_cases c : bt M s = 0
    · rw [if_pos c]
      have b0 := (bst_p (a := a) (k := k) (s := s) hw.2.2.2.2).1
      by_cases c2 : 0 ≤ bst α a k s
      · rw [if_pos c2]
        exact ⟨Or.inr rfl, ⟨by show 0 ≤ x + (dT α k - bst α a k s); omega, by show x + (dT α k - bst α a k s) ≤ x + 8 * ((m + 1 : Nat) : Int); omega⟩, ⟨by show 0 ≤ t + 1; omega, by show t + 1 ≤ t + ((m + 1 : Nat) : Int); omega⟩, h1, fun _ => c2⟩
      · rw [if_neg c2]
        have g := ih (α 10 s) (orI M (shlI 1 s)) (x + (dT α k + 1)) (t + 1) (hw.2.2.1.2 s h1.1 (by omega)) (by omega) (by omega)
        exact ⟨g.1, ⟨g.2.1.1, by omega⟩, ⟨g.2.2.1.1, by omega⟩, g.2.2.2⟩
    · rw [if_neg c]
      exact ⟨Or.inl rfl, ⟨h2, by show x ≤ x + 8 * ((m + 1 : Nat) : Int); omega⟩, ⟨h3, by show t ≤ t + ((m + 1 : Nat) : Int); omega⟩, h1, fun z => by simp at z⟩
theorem rnS_r {α : St} {a k : Int} (hw : WF α) (h0 : 0 ≤ k) (h1 : k < α 0 1) : ((rnS α a k).1 = 0 ∨ (rnS α a k).1 = 1) ∧ (0 ≤ (rnS α a k).2.1 ∧ (rnS α a k).2.1 ≤ 48) ∧ (0 ≤ (rnS α a k).2.2.1 ∧ (rnS α a k).2.2.1 ≤ 6) ∧ (0 ≤ (rnS α a k).2.2.2 ∧ (rnS α a k).2.2.2 ≤ 5) ∧ ((rnS α a k).1 = 1 → 0 ≤ bst α a k (rnS α a k).2.2.2) :=
  rnG_r hw 6 (α 7 k) 0 0 0 (hw.2.1.2.2 k h0 h1).1 (by omega) (by omega)
/-- what is chosen for a target: how many, and which -/
def nCh (α : St) (a k : Int) : Int := chN α a k (rnS α a k).2.2.2 (bst α a k (rnS α a k).2.2.2)
def uCh (α : St) (a k i : Int) : Int := chU α a k (rnS α a k).2.2.2 (bst α a k (rnS α a k).2.2.2) i
theorem nCh_r {α : St} {a k : Int} (hw : WF α) (h0 : 0 ≤ k) (h1 : k < α 0 1) (hf : (rnS α a k).1 = 1) : 0 < nCh α a k ∧ nCh α a k ≤ α 0 0 := by
  have r := (rnS_r (a := a) hw h0 h1).2.2.2.2 hf
  have w := hw.1.1
  unfold nCh
  refine ⟨(chN_pos hw.2.2.2.2 r).2 (by omega), ?_⟩
  unfold chN
  have := cnt_r (P := PL α a k (rnS α a k).2.2.2 (bst α a k (rnS α a k).2.2.2)) (α 0 0).toNat
  omega
theorem uCh_r {α : St} {a k i : Int} (hw : WF α) (h0 : 0 ≤ i) (h1 : i < nCh α a k) : (0 ≤ uCh α a k i ∧ uCh α a k i < α 0 0) ∧ ¬ uCh α a k i = a := by
  have w := hw.1.1
  unfold nCh chN at h1
  have := arr_r (P := PL α a k (rnS α a k).2.2.2 (bst α a k (rnS α a k).2.2.2)) (α 0 0).toNat i h0 h1
  unfold uCh chU
  exact ⟨⟨this.1, by omega⟩, this.2.2.1⟩
theorem c_rounds {α : St} {q a : Int} (kx : St → Option (Int × St)) (hw : WF α) (hq : 0 ≤ q ∧ q < 8) (ha : -1 ≤ a ∧ a < 40) : ∀ (m : Nat) (σ : St) (s M x t y : Int) (n : Nat), IC σ α → cL σ α → 0 ≤ s ∧ s ≤ 5 → 0 ≤ M ∧ M ≤ 63 → y + m = 6 → 0 ≤ y → un M = m → σ (38 + 2 * q) 1 = 0 → σ (38 + 2 * q) 2 = x - (if 0 < y then 1 else 0) → σ (38 + 2 * q) 3 = t → m < n →
    ((rnG α a q m s M x t).1 = 1 ∧ ∃ τ, lp_X2_chooseFor_35 a (38 + 2 * q) (lfT α q) kx n σ s M y = some (0, τ) ∧ τ (38 + 2 * q) 2 = (rnG α a q m s M x t).2.1 ∧ τ (38 + 2 * q) 3 = (rnG α a q m s M x t).2.2.1 ∧ cC τ (38 + 2 * q) (PL α a q (rnG α a q m s M x t).2.2.2 (bst α a q (rnG α a q m s M x t).2.2.2)) (α 0 0).toNat ∧ ∀ o, ¬ o = 38 + 2 * q → ¬ o = 38 + 2 * q + 1 → τ o = σ o) ∨
    ((rnG α a q m s M x t).1 = 0 ∧ ∃ τ, lp_X2_chooseFor_35 a (38 + 2 * q) (lfT α q) kx n σ s M y = kx τ ∧ τ (38 + 2 * q) 3 = (rnG α a q m s M x t).2.2.1 ∧ ∀ o, ¬ o = 38 + 2 * q → ¬ o = 38 + 2 * q + 1 → τ o = σ o) := by
  intro m
  have hd := dT_r (k := q) hw.2.2.2.2
  induction m with
  | zero =>
    intro σ s M x t y n h hl hs hM hy hy0 hu h1 h2 h3 hn
    obtain ⟨n, rfl⟩ : ∃ k, n = k + 1 := ⟨n - 1, by omega⟩
    right
    rw [lp_X2_chooseFor_35, rnG]
    exact ⟨rfl, σ, by simp (disch := omega) only [↓rdA_t, ↓wrA_t, ↓ixA_t, ↓wrF_d, ↓bd2_s, ↓bd1_s, ↓bnd_d, ↓iww_t, ↓iww_f, ↓iwl_t, ↓iwl_f, ↓ilw_t, ↓ilw_f, ↓eww_t, ↓eww_f, ↓ewl_t, ↓ewl_f, ↓ez_t, ↓ez_f, ↓il_t, ↓il_f, il_t, il_f, ez_t, ez_f, if_true, if_false, upS_h, upS_o, upS_i, Int.reduceAdd, Int.reduceSub, Int.reduceMul, Int.reduceNeg, wI_id], h3, fun _ _ _ => rfl⟩
  | succ m ih =>
    intro σ s M x t y n h hl hs hM hy hy0 hu h1 h2 h3 hn
    obtain ⟨n, rfl⟩ : ∃ k, n = k + 1 := ⟨n - 1, by omega⟩
    obtain ⟨k1, k2, k3, k4⟩ := mk_e hM hs
    rw [lp_X2_chooseFor_35, rnG]
    by_cases c : bt M s = 0
    · have c' : wI (andI M (shlI 1 s)) = 0 := by
        have : decide (bt M s = 0) = true := decide_eq_true c
        rw [← k1] at this
        exact of_decide_eq_true this
      obtain ⟨k5, k6⟩ := k2 c
      rw [if_pos c]
      have nx := hw.2.2.1.2 s hs.1 (by omega)
      have b0 := (bst_p (a := a) (k := q) (s := s) hw.2.2.2.2).1
      -- the state when the climb begins
      have main : ∀ ρ : St, (∀ o, ¬ o = 38 + 2 * q → ρ o = σ o) → ρ (38 + 2 * q) 1 = 0 → ρ (38 + 2 * q) 2 = x → ρ (38 + 2 * q) 3 = t + 1 →
          ((if 0 ≤ bst α a q s then (1, x + (dT α q - bst α a q s), t + 1, s) else rnG α a q m (α 10 s) (orI M (shlI 1 s)) (x + (dT α q + 1)) (t + 1)).1 = 1 ∧ ∃ τ, jn_X2_chooseFor_86 (lp_X2_chooseFor_35 a (38 + 2 * q) (lfT α q) kx n) ρ a (38 + 2 * q) (lfT α q) s (orI M (shlI 1 s)) y = some (0, τ) ∧ τ (38 + 2 * q) 2 = (if 0 ≤ bst α a q s then (1, x + (dT α q - bst α a q s), t + 1, s) else rnG α a q m (α 10 s) (orI M (shlI 1 s)) (x + (dT α q + 1)) (t + 1)).2.1 ∧ τ (38 + 2 * q) 3 = (if 0 ≤ bst α a q s then (1, x + (dT α q - bst α a q s), t + 1, s) else rnG α a q m (α 10 s) (orI M (shlI 1 s)) (x + (dT α q + 1)) (t + 1)).2.2.1 ∧ cC τ (38 + 2 * q) (PL α a q (if 0 ≤ bst α a q s then (1, x + (dT α q - bst α a q s), t + 1, s) else rnG α a q m (α 10 s) (orI M (shlI 1 s)) (x + (dT α q + 1)) (t + 1)).2.2.2 (bst α a q (if 0 ≤ bst α a q s then (1, x + (dT α q - bst α a q s), t + 1, s) else rnG α a q m (α 10 s) (orI M (shlI 1 s)) (x + (dT α q + 1)) (t + 1)).2.2.2)) (α 0 0).toNat ∧ ∀ o, ¬ o = 38 + 2 * q → ¬ o = 38 + 2 * q + 1 → τ o = σ o) ∨
          ((if 0 ≤ bst α a q s then (1, x + (dT α q - bst α a q s), t + 1, s) else rnG α a q m (α 10 s) (orI M (shlI 1 s)) (x + (dT α q + 1)) (t + 1)).1 = 0 ∧ ∃ τ, jn_X2_chooseFor_86 (lp_X2_chooseFor_35 a (38 + 2 * q) (lfT α q) kx n) ρ a (38 + 2 * q) (lfT α q) s (orI M (shlI 1 s)) y = kx τ ∧ τ (38 + 2 * q) 3 = (if 0 ≤ bst α a q s then (1, x + (dT α q - bst α a q s), t + 1, s) else rnG α a q m (α 10 s) (orI M (shlI 1 s)) (x + (dT α q + 1)) (t + 1)).2.2.1 ∧ ∀ o, ¬ o = 38 + 2 * q → ¬ o = 38 + 2 * q + 1 → τ o = σ o) := by
        intro ρ r0 r1 r2 r3
        have hI : IC ρ α := IC_scr (fun o ho i _ => by rw [r0 o (by omega)]) h
        have hL : cL ρ α := fun u u1 u2 => by rw [r0 36 (by omega)]; exact hl u u1 u2
        have eN : pT α q (dT α q).toNat = lfT α q := wk_end hw.2.2.2.2 (by unfold dT lfT at hd ⊢; omega)
        obtain ⟨τ, f1, f2, f3, f4, f5⟩ := c_climb_g (α := α) (q := q) (a := a) (k := q) (s := s) (fun σ8 => some (0, σ8)) hw hq ha hs (dT α q).toNat ρ 0 1000 hI hL (by omega) (by omega) (by omega) r1 (by omega)
        rw [eN] at f1
        have fc : f_X2_climb ρ (38 + 2 * q) s (lfT α q) a = some (0, τ) := f1
        unfold jn_X2_chooseFor_86
        by_cases c2 : 0 ≤ bst α a q s
        · rw [if_pos c2]
          left
          obtain ⟨g1, g2⟩ := f2 c2
          have p := (chN_pos (a := a) (k := q) (s := s) hw.2.2.2.2 c2).2 (by omega)
          unfold chN at p
          have p2 := cnt_r (P := PL α a q s (bst α a q s)) (α 0 0).toNat
          have p3 := hw.1.2.1
          have g3 := g2.1
          refine ⟨rfl, τ, ?_, by rw [g1, r2]; show x + (((dT α q).toNat : Int) - bst α a q s) = x + (dT α q - bst α a q s); omega, by rw [f4, r3], g2, fun o o1 o2 => by rw [f5 o o1 o2, r0 o o1]⟩
          simp (disch := omega) only [↓rdA_t, ↓wrA_t, ↓ixA_t, ↓wrF_d, ↓bd2_s, ↓bd1_s, ↓bnd_d, ↓iww_t, ↓iww_f, ↓iwl_t, ↓iwl_f, ↓ilw_t, ↓ilw_f, ↓eww_t, ↓eww_f, ↓ewl_t, ↓ewl_f, ↓ez_t, ↓ez_f, ↓il_t, ↓il_f, il_t, il_f, ez_t, ez_f, if_true, if_false, upS_h, upS_o, upS_i, Int.reduceAdd, Int.reduceSub, Int.reduceMul, Int.reduceNeg, wI_id, fc]
        · rw [if_neg c2]
          obtain ⟨g1, g2⟩ := f3 (by omega)
          have hI2 : IC τ α := IC_scr (fun o ho i _ => by rw [f5 o (by omega) (by omega)]) hI
          have hL2 : cL τ α := fun u u1 u2 => by rw [f5 36 (by omega) (by omega)]; exact hL u u1 u2
          have eo := hI2.2.2.1.2.2.2.2.1 s hs.1 (by omega)
          have g := ih τ (α 10 s) (orI M (shlI 1 s)) (x + (dT α q + 1)) (t + 1) (y + 1) n hI2 hL2 nx k6 (by omega) (by omega) (by omega) g2 (by rw [if_pos (by omega), g1, r2]; omega) (by rw [f4, r3]) (by omega)
          have ev : (bd2 (f_X2_climb ρ (38 + 2 * q) s (lfT α q) a) fun v12 σ13 => if 0 < wI (σ13 (38 + 2 * q) 1) then some (0, σ13) else rdA 6 σ13 34 s fun v15 => lp_X2_chooseFor_35 a (38 + 2 * q) (lfT α q) kx n σ13 v15 (orI M (shlI 1 s)) (y + 1)) = lp_X2_chooseFor_35 a (38 + 2 * q) (lfT α q) kx n τ (α 10 s) (orI M (shlI 1 s)) (y + 1) := by
            simp (disch := omega) only [↓rdA_t, ↓wrA_t, ↓ixA_t, ↓wrF_d, ↓bd2_s, ↓bd1_s, ↓bnd_d, ↓iww_t, ↓iww_f, ↓iwl_t, ↓iwl_f, ↓ilw_t, ↓ilw_f, ↓eww_t, ↓eww_f, ↓ewl_t, ↓ewl_f, ↓ez_t, ↓ez_f, ↓il_t, ↓il_f, il_t, il_f, ez_t, ez_f, if_true, if_false, upS_h, upS_o, upS_i, Int.reduceAdd, Int.reduceSub, Int.reduceMul, Int.reduceNeg, wI_id, fc, eo]
          rw [ev]
          rcases g with ⟨a1, τ2, a2, a3, a4, a5, a6⟩ | ⟨a1, τ2, a2, a3, a4⟩
          · left
            exact ⟨a1, τ2, a2, a3, a4, a5, fun o o1 o2 => by rw [a6 o o1 o2, f5 o o1 o2, r0 o o1]⟩
          · right
            exact ⟨a1, τ2, a2, a3, fun o o1 o2 => by rw [a4 o o1 o2, f5 o o1 o2, r0 o o1]⟩
      by_cases c3 : 0 < y
      · rw [if_pos c3] at h2
        have g := main (upS (upS σ (38 + 2 * q) 3 (σ (38 + 2 * q) 3 + 1)) (38 + 2 * q) 2 (σ (38 + 2 * q) 2 + 1)) (fun o ho => by rw [upS_of ho, upS_of ho]) (by simp (disch := omega) only [upS_h, upS_o, upS_i, Int.reduceAdd, Int.reduceSub, Int.reduceMul, Int.reduceNeg]; exact h1) (by simp (disch := omega) only [upS_h, upS_o, upS_i, Int.reduceAdd, Int.reduceSub, Int.reduceMul, Int.reduceNeg]; omega) (by simp (disch := omega) only [upS_h, upS_o, upS_i, Int.reduceAdd, Int.reduceSub, Int.reduceMul, Int.reduceNeg]; omega)
        have ev : (if wI y < 6 then if wI (andI M (shlI 1 s)) = 0 then bnd (orI M (shlI 1 s)) fun v8 => wrF σ (38 + 2 * q) 3 ((σ (38 + 2 * q) 3) + 1) fun σ9 => if 0 < wI y then wrF σ9 (38 + 2 * q) 2 ((σ9 (38 + 2 * q) 2) + 1) fun σ11 => jn_X2_chooseFor_86 (lp_X2_chooseFor_35 a (38 + 2 * q) (lfT α q) kx n) σ11 a (38 + 2 * q) (lfT α q) s v8 y else jn_X2_chooseFor_86 (lp_X2_chooseFor_35 a (38 + 2 * q) (lfT α q) kx n) σ9 a (38 + 2 * q) (lfT α q) s v8 y else kx σ else kx σ) = jn_X2_chooseFor_86 (lp_X2_chooseFor_35 a (38 + 2 * q) (lfT α q) kx n) (upS (upS σ (38 + 2 * q) 3 (σ (38 + 2 * q) 3 + 1)) (38 + 2 * q) 2 (σ (38 + 2 * q) 2 + 1)) a (38 + 2 * q) (lfT α q) s (orI M (shlI 1 s)) y := by
          rw [if_pos c']
          simp (disch := omega) only [↓rdA_t, ↓wrA_t, ↓ixA_t, ↓wrF_d, ↓bd2_s, ↓bd1_s, ↓bnd_d, ↓iww_t, ↓iww_f, ↓iwl_t, ↓iwl_f, ↓ilw_t, ↓ilw_f, ↓eww_t, ↓eww_f, ↓ewl_t, ↓ewl_f, ↓ez_t, ↓ez_f, ↓il_t, ↓il_f, il_t, il_f, ez_t, ez_f, if_true, if_false, upS_h, upS_o, upS_i, Int.reduceAdd, Int.reduceSub, Int.reduceMul, Int.reduceNeg, wI_id]
        rw [ev]
        exact g
      · rw [if_neg c3] at h2
        have g := main (upS σ (38 + 2 * q) 3 (σ (38 + 2 * q) 3 + 1)) (fun o ho => upS_of ho) (by simp (disch := omega) only [upS_h, upS_o, upS_i, Int.reduceAdd, Int.reduceSub, Int.reduceMul, Int.reduceNeg]; exact h1) (by simp (disch := omega) only [upS_h, upS_o, upS_i, Int.reduceAdd, Int.reduceSub, Int.reduceMul, Int.reduceNeg]; omega) (by simp (disch := omega) only [upS_h, upS_o, upS_i, Int.reduceAdd, Int.reduceSub, Int.reduceMul, Int.reduceNeg]; omega)
        have ev : (if wI y < 6 then if wI (andI M (shlI 1 s)) = 0 then bnd (orI M (shlI 1 s)) fun v8 => wrF σ (38 + 2 * q) 3 ((σ (38 + 2 * q) 3) + 1) fun σ9 => if 0 < wI y then wrF σ9 (38 + 2 * q) 2 ((σ9 (38 + 2 * q) 2) + 1) fun σ11 => jn_X2_chooseFor_86 (lp_X2_chooseFor_35 a (38 + 2 * q) (lfT α q) kx n) σ11 a (38 + 2 * q) (lfT α q) s v8 y else jn_X2_chooseFor_86 (lp_X2_chooseFor_35 a (38 + 2 * q) (lfT α q) kx n) σ9 a (38 + 2 * q) (lfT α q) s v8 y else kx σ else kx σ) = jn_X2_chooseFor_86 (lp_X2_chooseFor_35 a (38 + 2 * q) (lfT α q) kx n) (upS σ (38 + 2 * q) 3 (σ (38 + 2 * q) 3 + 1)) a (38 + 2 * q) (lfT α q) s (orI M (shlI 1 s)) y := by
          rw [if_pos c']
          simp (disch := omega) only [↓rdA_t, ↓wrA_t, ↓ixA_t, ↓wrF_d, ↓bd2_s, ↓bd1_s, ↓bnd_d, ↓iww_t, ↓iww_f, ↓iwl_t, ↓iwl_f, ↓ilw_t, ↓ilw_f, ↓eww_t, ↓eww_f, ↓ewl_t, ↓ewl_f, ↓ez_t, ↓ez_f, ↓il_t, ↓il_f, il_t, il_f, ez_t, ez_f, if_true, if_false, upS_h, upS_o, upS_i, Int.reduceAdd, Int.reduceSub, Int.reduceMul, Int.reduceNeg, wI_id]
        rw [ev]
        exact g
    · have c' : ¬ wI (andI M (shlI 1 s)) = 0 := by
        intro z
        have : decide (wI (andI M (shlI 1 s)) = 0) = true := decide_eq_true z
        rw [k1] at this
        exact c (of_decide_eq_true this)
      rw [if_neg c, if_neg c']
      right
      exact ⟨rfl, σ, by simp (disch := omega) only [↓rdA_t, ↓wrA_t, ↓ixA_t, ↓wrF_d, ↓bd2_s, ↓bd1_s, ↓bnd_d, ↓iww_t, ↓iww_f, ↓iwl_t, ↓iwl_f, ↓ilw_t, ↓ilw_f, ↓eww_t, ↓eww_f, ↓ewl_t, ↓ewl_f, ↓ez_t, ↓ez_f, ↓il_t, ↓il_f, il_t, il_f, ez_t, ez_f, if_true, if_false, upS_h, upS_o, upS_i, Int.reduceAdd, Int.reduceSub, Int.reduceMul, Int.reduceNeg, wI_id], h3, fun _ _ _ => rfl⟩
/-- the component's choice for target q stands in its cells -/
def cCh (σ α : St) (a q : Int) : Prop := ((rnS α a q).1 = 1 → σ (38 + 2 * q) 1 = nCh α a q ∧ σ (38 + 2 * q) 2 = (rnS α a q).2.1 ∧ ∀ i, 0 ≤ i → i < nCh α a q → σ (38 + 2 * q + 1) i = uCh α a q i) ∧ ((rnS α a q).1 = 0 → σ (38 + 2 * q) 2 = -1) ∧ σ (38 + 2 * q) 3 = (rnS α a q).2.2.1
theorem c_choose {σ α : St} {q a : Int} (h : IC σ α) (hl : cL σ α) (hw : WF α) (h0 : 0 ≤ q) (h1 : q < α 0 1) (ha : -1 ≤ a ∧ a < 40) : ∃ τ, f_X2_chooseFor σ q a = some (0, τ) ∧ cCh τ α a q ∧ ∀ o, ¬ o = 38 + 2 * q → ¬ o = 38 + 2 * q + 1 → τ o = σ o := by
  have w := hw.2.1.2.1
  have k1 := (hw.2.1.2.2 q h0 h1).1
  have e1 := (h.2.1.2 q h0 h1).1
  have hI : IC (upS (upS (upS σ (38 + 2 * q) 1 0) (38 + 2 * q) 2 0) (38 + 2 * q) 3 0) α := IC_scr (fun o ho i _ => by simp (disch := omega) only [upS_h, upS_o, upS_i, Int.reduceAdd, Int.reduceSub, Int.reduceMul, Int.reduceNeg]) h
  have hL : cL (upS (upS (upS σ (38 + 2 * q) 1 0) (38 + 2 * q) 2 0) (38 + 2 * q) 3 0) α := fun u u1 u2 => by simp (disch := omega) only [upS_h, upS_o, upS_i, Int.reduceAdd, Int.reduceSub, Int.reduceMul, Int.reduceNeg]; exact hl u u1 u2
  have g := c_rounds (α := α) (q := q) (a := a) (fun σ16 => bd2 (f_X1_miss σ16 (38 + 2 * q)) fun v17 σ18 => some (0, σ18)) hw ⟨h0, by omega⟩ ha 6 (upS (upS (upS σ (38 + 2 * q) 1 0) (38 + 2 * q) 2 0) (38 + 2 * q) 3 0) (α 7 q) 0 0 0 0 1000 hI hL k1 (by omega) (by omega) (by omega) un_0 (by simp (disch := omega) only [upS_h, upS_o, upS_i, Int.reduceAdd, Int.reduceSub, Int.reduceMul, Int.reduceNeg]) (by simp (disch := omega) only [upS_h, upS_o, upS_i, Int.reduceAdd, Int.reduceSub, Int.reduceMul, Int.reduceNeg]; rfl) (by simp (disch := omega) only [upS_h, upS_o, upS_i, Int.reduceAdd, Int.reduceSub, Int.reduceMul, Int.reduceNeg]) (by omega)
  have fr : ∀ o, ¬ o = 38 + 2 * q → upS (upS (upS σ (38 + 2 * q) 1 0) (38 + 2 * q) 2 0) (38 + 2 * q) 3 0 o = σ o := fun o ho => by rw [upS_of ho, upS_of ho, upS_of ho]
  have ev : f_X2_chooseFor σ q a = lp_X2_chooseFor_35 a (38 + 2 * q) (lfT α q) (fun σ16 => bd2 (f_X1_miss σ16 (38 + 2 * q)) fun v17 σ18 => some (0, σ18)) 1000 (upS (upS (upS σ (38 + 2 * q) 1 0) (38 + 2 * q) 2 0) (38 + 2 * q) 3 0) (α 7 q) 0 0 := by
    unfold f_X2_chooseFor f_X1_begin
    simp (disch := omega) only [↓rdA_t, ↓wrA_t, ↓ixA_t, ↓wrF_d, ↓bd2_s, ↓bd1_s, ↓bnd_d, ↓iww_t, ↓iww_f, ↓iwl_t, ↓iwl_f, ↓ilw_t, ↓ilw_f, ↓eww_t, ↓eww_f, ↓ewl_t, ↓ewl_f, ↓ez_t, ↓ez_f, ↓il_t, ↓il_f, il_t, il_f, ez_t, ez_f, if_true, if_false, upS_h, upS_o, upS_i, Int.reduceAdd, Int.reduceSub, Int.reduceMul, Int.reduceNeg, wI_id, c_lfT hI hw h0 h1, e1]
  rw [ev]
  rcases g with ⟨a1, τ, a2, a3, a4, a5, a6⟩ | ⟨a1, τ, a2, a3, a4⟩
  · refine ⟨τ, a2, ⟨fun _ => ⟨a5.1, a3, fun i i1 i2 => a5.2 i i1 i2⟩, fun z => ?_, a4⟩, fun o o1 o2 => by rw [a6 o o1 o2, fr o o1]⟩
    unfold rnS at z
    omega
  · refine ⟨upS (upS τ (38 + 2 * q) 1 0) (38 + 2 * q) 2 (-1), ?_, ⟨fun z => ?_, fun _ => by simp (disch := omega) only [upS_h, upS_o, upS_i, Int.reduceAdd, Int.reduceSub, Int.reduceMul, Int.reduceNeg], by rw [upS_i (by omega), upS_i (by omega)]; exact a3⟩, fun o o1 o2 => by rw [upS_of o1, upS_of o1, a4 o o1 o2, fr o o1]⟩
    · rw [a2]
      unfold f_X1_miss
      simp (disch := omega) only [↓rdA_t, ↓wrA_t, ↓ixA_t, ↓wrF_d, ↓bd2_s, ↓bd1_s, ↓bnd_d, ↓iww_t, ↓iww_f, ↓iwl_t, ↓iwl_f, ↓ilw_t, ↓ilw_f, ↓eww_t, ↓eww_f, ↓ewl_t, ↓ewl_f, ↓ez_t, ↓ez_f, ↓il_t, ↓il_f, il_t, il_f, ez_t, ez_f, if_true, if_false, upS_h, upS_o, upS_i, Int.reduceAdd, Int.reduceSub, Int.reduceMul, Int.reduceNeg, wI_id]
    · unfold rnS at z
      omega
