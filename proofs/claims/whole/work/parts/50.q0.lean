/-! ===== the reference chooses ===== -/
theorem m_best {σ α : St} {a k s M W : Int} (kx : St → Int → Option (Int × St)) (h : JM σ α) (hw : WF α) (hg : σ 118 27 = a) (ha : -1 ≤ a ∧ a < 40) (h2 : 0 ≤ k) (h3 : k < α 0 1) (hs : 0 ≤ s ∧ s ≤ 5) : ∀ (m x n : Nat), (x : Int) + m = α 0 0 → m < n → lp_X10_chooses_58 k s M W kx n σ (bsG α a k s x) x = kx σ (bsG α a k s (x + m)) := by
  intro m
  have w1 := hw.1.2.1
  have hc := h.1.1
  have hd := dT_r (k := k) hw.2.2.2.2
  induction m with
  | zero =>
    intro x n h1 hn
    obtain ⟨n, rfl⟩ : ∃ k, n = k + 1 := ⟨n - 1, by omega⟩
    rw [lp_X10_chooses_58]
    simp (disch := omega) only [↓rdA_t, ↓wrA_t, ↓ixA_t, ↓wrF_d, ↓bd2_s, ↓bd1_s, ↓bnd_d, ↓iww_t, ↓iww_f, ↓iwl_t, ↓iwl_f, ↓ilw_t, ↓ilw_f, ↓eww_t, ↓eww_f, ↓ewl_t, ↓ewl_f, ↓ez_t, ↓ez_f, ↓il_t, ↓il_f, il_t, il_f, ez_t, ez_f, if_true, if_false, upS_h, upS_o, upS_i, Int.reduceAdd, Int.reduceSub, Int.reduceMul, Int.reduceNeg, wI_id, Nat.add_zero]
  | succ m ih =>
    intro x n h1 hn
    obtain ⟨n, rfl⟩ : ∃ k, n = k + 1 := ⟨n - 1, by omega⟩
    have g := ih (x + 1) n (by omega) (by omega)
    rw [show x + 1 + m = x + (m + 1) by omega, show ((x + 1 : Nat) : Int) = (x : Int) + 1 by omega] at g
    rw [← g, bsG, lp_X10_chooses_58]
    have b0 := (bsG_p (a := a) (k := k) (s := s) hw.2.2.2.2 x).1
    have r := ag_p (u := x) (k := k) hw.2.2.2.2
    have e1 := m_at h.1 hw.1 (u := x) (w := 0) (by omega) (by omega) (by omega) (by omega)
    simp only [Int.reduceAdd] at e1
    have k1 := (hw.1.2.2 x (by omega) (by omega)).1
    have e2 := m_ag h hw (u := x) (k := k) (by omega) (by omega) h2 h3
    unfold jn_X10_chooses_92 jn_X10_chooses_110
    by_cases c1 : (x : Int) = a
    · rw [if_neg (show ¬ (¬ (x : Int) = a ∧ α 1 x = s) from fun z => z.1 c1)]
      simp (disch := omega) only [↓rdA_t, ↓wrA_t, ↓ixA_t, ↓wrF_d, ↓bd2_s, ↓bd1_s, ↓bnd_d, ↓iww_t, ↓iww_f, ↓iwl_t, ↓iwl_f, ↓ilw_t, ↓ilw_f, ↓eww_t, ↓eww_f, ↓ewl_t, ↓ewl_f, ↓ez_t, ↓ez_f, ↓il_t, ↓il_f, il_t, il_f, ez_t, ez_f, if_true, if_false, upS_h, upS_o, upS_i, Int.reduceAdd, Int.reduceSub, Int.reduceMul, Int.reduceNeg, wI_id]
    · by_cases c2 : α 1 x = s
      · rw [if_pos (show ¬ (x : Int) = a ∧ α 1 x = s from ⟨c1, c2⟩)]
        by_cases c3 : bsG α a k s x < ag α x k
        · simp (disch := omega) only [↓rdA_t, ↓wrA_t, ↓ixA_t, ↓wrF_d, ↓bd2_s, ↓bd1_s, ↓bnd_d, ↓iww_t, ↓iww_f, ↓iwl_t, ↓iwl_f, ↓ilw_t, ↓ilw_f, ↓eww_t, ↓eww_f, ↓ewl_t, ↓ewl_f, ↓ez_t, ↓ez_f, ↓il_t, ↓il_f, il_t, il_f, ez_t, ez_f, if_true, if_false, upS_h, upS_o, upS_i, Int.reduceAdd, Int.reduceSub, Int.reduceMul, Int.reduceNeg, wI_id, e1, e2]
        · simp (disch := omega) only [↓rdA_t, ↓wrA_t, ↓ixA_t, ↓wrF_d, ↓bd2_s, ↓bd1_s, ↓bnd_d, ↓iww_t, ↓iww_f, ↓iwl_t, ↓iwl_f, ↓ilw_t, ↓ilw_f, ↓eww_t, ↓eww_f, ↓ewl_t, ↓ewl_f, ↓ez_t, ↓ez_f, ↓il_t, ↓il_f, il_t, il_f, ez_t, ez_f, if_true, if_false, upS_h, upS_o, upS_i, Int.reduceAdd, Int.reduceSub, Int.reduceMul, Int.reduceNeg, wI_id, e1, e2]
      · rw [if_neg (show ¬ (¬ (x : Int) = a ∧ α 1 x = s) from fun z => c2 z.2)]
        simp (disch := omega) only [↓rdA_t, ↓wrA_t, ↓ixA_t, ↓wrF_d, ↓bd2_s, ↓bd1_s, ↓bnd_d, ↓iww_t, ↓iww_f, ↓iwl_t, ↓iwl_f, ↓ilw_t, ↓ilw_f, ↓eww_t, ↓eww_f, ↓ewl_t, ↓ewl_f, ↓ez_t, ↓ez_f, ↓il_t, ↓il_f, il_t, il_f, ez_t, ez_f, if_true, if_false, upS_h, upS_o, upS_i, Int.reduceAdd, Int.reduceSub, Int.reduceMul, Int.reduceNeg, wI_id, e1]
theorem m_gath {α : St} {a k s W b : Int} (kx : St → Int → Option (Int × St)) (hw : WF α) (ha : -1 ≤ a ∧ a < 40) (h2 : 0 ≤ k) (h3 : k < α 0 1) (hs : 0 ≤ s ∧ s ≤ 5) (hb : b = bst α a k s) : ∀ (m x : Nat) (σ : St) (n : Nat), JM σ α → σ 118 27 = a → (x : Int) + m = α 0 0 → (∀ i, 0 ≤ i → i < cnt (PL α a k s b) x → σ 135 (40 * k + i) = arr (PL α a k s b) x i) → m < n → ∃ τ, lp_X10_chooses_146 k s W b kx n σ (cnt (PL α a k s b) x) x = kx τ (cnt (PL α a k s b) (x + m)) ∧ (∀ i, 0 ≤ i → i < cnt (PL α a k s b) (x + m) → τ 135 (40 * k + i) = arr (PL α a k s b) (x + m) i) ∧ (∀ o, ¬ o = 135 → τ o = σ o) ∧ ∀ i, (i < 40 * k ∨ 40 * k + 40 ≤ i) → τ 135 i = σ 135 i := by
  intro m
  have w1 := hw.1.2.1
  have w2 := hw.2.1.2.1
  have hd := dT_r (k := k) hw.2.2.2.2
  obtain ⟨b1, b2, b3⟩ := bst_p (a := a) (k := k) (s := s) hw.2.2.2.2
  rw [← hb] at b1 b2 b3
  induction m with
  | zero =>
    intro x σ n h hg h1 hc hn
    obtain ⟨n, rfl⟩ : ∃ k, n = k + 1 := ⟨n - 1, by omega⟩
    have hc0 := h.1.1
    rw [lp_X10_chooses_146]
    exact ⟨σ, by simp (disch := omega) only [↓rdA_t, ↓wrA_t, ↓ixA_t, ↓wrF_d, ↓bd2_s, ↓bd1_s, ↓bnd_d, ↓iww_t, ↓iww_f, ↓iwl_t, ↓iwl_f, ↓ilw_t, ↓ilw_f, ↓eww_t, ↓eww_f, ↓ewl_t, ↓ewl_f, ↓ez_t, ↓ez_f, ↓il_t, ↓il_f, il_t, il_f, ez_t, ez_f, if_true, if_false, upS_h, upS_o, upS_i, Int.reduceAdd, Int.reduceSub, Int.reduceMul, Int.reduceNeg, wI_id, Nat.add_zero], hc, fun _ _ => rfl, fun _ _ => rfl⟩
  | succ m ih =>
    intro x σ n h hg h1 hc hn
    obtain ⟨n, rfl⟩ : ∃ k, n = k + 1 := ⟨n - 1, by omega⟩
    have hc0 := h.1.1
    have e1 := m_at h.1 hw.1 (u := x) (w := 0) (by omega) (by omega) (by omega) (by omega)
    simp only [Int.reduceAdd] at e1
    have k1 := (hw.1.2.2 x (by omega) (by omega)).1
    have e2 := m_ag h hw (u := x) (k := k) (by omega) (by omega) h2 h3
    have r := ag_p (u := x) (k := k) hw.2.2.2.2
    have cr := cnt_r (P := PL α a k s b) x
    have skip : ¬ PL α a k s b x → ∃ τ, lp_X10_chooses_146 k s W b kx n σ (cnt (PL α a k s b) x) ((x : Int) + 1) = kx τ (cnt (PL α a k s b) (x + (m + 1))) ∧ (∀ i, 0 ≤ i → i < cnt (PL α a k s b) (x + (m + 1)) → τ 135 (40 * k + i) = arr (PL α a k s b) (x + (m + 1)) i) ∧ (∀ o, ¬ o = 135 → τ o = σ o) ∧ ∀ i, (i < 40 * k ∨ 40 * k + 40 ≤ i) → τ 135 i = σ 135 i := by
      intro hp
      have g := ih (x + 1) σ n h hg (by omega) (fun i i1 i2 => by rw [cnt, if_neg hp] at i2; rw [arr, if_neg hp]; exact hc i i1 i2) (by omega)
      rw [show x + 1 + m = x + (m + 1) by omega, show ((x + 1 : Nat) : Int) = (x : Int) + 1 by omega] at g
      rw [cnt, if_neg hp] at g
      exact g
    rw [lp_X10_chooses_146]
    by_cases c1 : (x : Int) = a
    · obtain ⟨τ, g⟩ := skip (fun z => z.1 c1)
      refine ⟨τ, ?_, g.2⟩
      rw [← g.1]
      simp (disch := omega) only [↓rdA_t, ↓wrA_t, ↓ixA_t, ↓wrF_d, ↓bd2_s, ↓bd1_s, ↓bnd_d, ↓iww_t, ↓iww_f, ↓iwl_t, ↓iwl_f, ↓ilw_t, ↓ilw_f, ↓eww_t, ↓eww_f, ↓ewl_t, ↓ewl_f, ↓ez_t, ↓ez_f, ↓il_t, ↓il_f, il_t, il_f, ez_t, ez_f, if_true, if_false, upS_h, upS_o, upS_i, Int.reduceAdd, Int.reduceSub, Int.reduceMul, Int.reduceNeg, wI_id]
    · by_cases c2 : α 1 x = s
      · have le := b2 x (by omega) c1 c2
        by_cases c3 : b ≤ ag α x k
        · have hp : PL α a k s b x := ⟨c1, c2, c3⟩
          have hI : JM (upS σ 135 (40 * k + cnt (PL α a k s b) x) x) α := JM_scr (fun i _ => upS_o (by omega)) (fun o o1 o2 => upS_of (by omega)) h
          have g := ih (x + 1) (upS σ 135 (40 * k + cnt (PL α a k s b) x) x) n hI (by rw [upS_o (by omega)]; exact hg) (by omega) (fun i i1 i2 => by
            rw [cnt, if_pos hp] at i2
            rw [arr, if_pos hp]
            by_cases c4 : i = cnt (PL α a k s b) x
            · rw [if_pos c4, upS_h ⟨rfl, by omega⟩]
            · rw [if_neg c4, upS_i (by omega)]; exact hc i i1 (by omega)) (by omega)
          obtain ⟨τ, g1, g2, g3, g4⟩ := g
          rw [show x + 1 + m = x + (m + 1) by omega] at g1 g2
          rw [show ((x + 1 : Nat) : Int) = (x : Int) + 1 by omega] at g1
          rw [cnt, if_pos hp] at g1
          refine ⟨τ, ?_, g2, fun o o1 => by rw [g3 o o1, upS_of o1], fun i i1 => by rw [g4 i i1, upS_i (by omega)]⟩
          rw [← g1]
          simp (disch := omega) only [↓rdA_t, ↓wrA_t, ↓ixA_t, ↓wrF_d, ↓bd2_s, ↓bd1_s, ↓bnd_d, ↓iww_t, ↓iww_f, ↓iwl_t, ↓iwl_f, ↓ilw_t, ↓ilw_f, ↓eww_t, ↓eww_f, ↓ewl_t, ↓ewl_f, ↓ez_t, ↓ez_f, ↓il_t, ↓il_f, il_t, il_f, ez_t, ez_f, if_true, if_false, upS_h, upS_o, upS_i, Int.reduceAdd, Int.reduceSub, Int.reduceMul, Int.reduceNeg, wI_id, e1, e2]
        · obtain ⟨τ, g⟩ := skip (fun z => c3 z.2.2)
          refine ⟨τ, ?_, g.2⟩
          rw [← g.1]
          simp (disch := omega) only [↓rdA_t, ↓wrA_t, ↓ixA_t, ↓wrF_d, ↓bd2_s, ↓bd1_s, ↓bnd_d, ↓iww_t, ↓iww_f, ↓iwl_t, ↓iwl_f, ↓ilw_t, ↓ilw_f, ↓eww_t, ↓eww_f, ↓ewl_t, ↓ewl_f, ↓ez_t, ↓ez_f, ↓il_t, ↓il_f, il_t, il_f, ez_t, ez_f, if_true, if_false, upS_h, upS_o, upS_i, Int.reduceAdd, Int.reduceSub, Int.reduceMul, Int.reduceNeg, wI_id, e1, e2]
      · obtain ⟨τ, g⟩ := skip (fun z => c2 z.2.1)
        refine ⟨τ, ?_, g.2⟩
        rw [← g.1]
        simp (disch := omega) only [↓rdA_t, ↓wrA_t, ↓ixA_t, ↓wrF_d, ↓bd2_s, ↓bd1_s, ↓bnd_d, ↓iww_t, ↓iww_f, ↓iwl_t, ↓iwl_f, ↓ilw_t, ↓ilw_f, ↓eww_t, ↓eww_f, ↓ewl_t, ↓ewl_f, ↓ez_t, ↓ez_f, ↓il_t, ↓il_f, il_t, il_f, ez_t, ez_f, if_true, if_false, upS_h, upS_o, upS_i, Int.reduceAdd, Int.reduceSub, Int.reduceMul, Int.reduceNeg, wI_id, e1]
/-- the frame of the reference's choosing for target k -/
def mFr (σ τ : St) (k : Int) : Prop := (∀ o, ¬ o = 118 → ¬ o = 135 → ¬ o = 136 → τ o = σ o) ∧ (∀ i, ¬ i = 28 → ¬ i = 29 → τ 118 i = σ 118 i) ∧ (∀ i, (i < 40 * k ∨ 40 * k + 40 ≤ i) → τ 135 i = σ 135 i) ∧ ∀ i, ¬ i = k → τ 136 i = σ 136 i
theorem mFr_t {σ τ ρ : St} {k : Int} (h1 : mFr σ τ k) (h2 : mFr τ ρ k) : mFr σ ρ k := ⟨fun o a b c => (h2.1 o a b c).trans (h1.1 o a b c), fun i a b => (h2.2.1 i a b).trans (h1.2.1 i a b), fun i a => (h2.2.2.1 i a).trans (h1.2.2.1 i a), fun i a => (h2.2.2.2 i a).trans (h1.2.2.2 i a)⟩
theorem mFr_J {σ τ α : St} {k : Int} (h : mFr σ τ k) (hJ : JM σ α) : JM τ α := JM_scr (fun i _ => h.2.1 i (by omega) (by omega)) (fun o _ _ => h.1 o (by omega) (by omega) (by omega)) hJ
theorem m_rounds {α : St} {k a : Int} (kx : St → Option (Int × St)) (hw : WF α) (h2 : 0 ≤ k) (h3 : k < α 0 1) (ha : -1 ≤ a ∧ a < 40) : ∀ (m : Nat) (σ : St) (s M x t : Int) (n : Nat), JM σ α → σ 118 27 = a → 0 ≤ s ∧ s ≤ 5 → 0 ≤ M ∧ M ≤ 63 → un M = m → σ 118 28 = x → σ 118 29 = t → m < n →
    ((rnG α a k m s M x t).1 = 1 ∧ ∃ τ, lp_X10_chooses_28 k (dT α k) kx n σ s M = some (1, τ) ∧ τ 118 28 = (rnG α a k m s M x t).2.1 ∧ τ 118 29 = (rnG α a k m s M x t).2.2.1 ∧ τ 136 k = chN α a k (rnG α a k m s M x t).2.2.2 (bst α a k (rnG α a k m s M x t).2.2.2) ∧ (∀ i, 0 ≤ i → i < chN α a k (rnG α a k m s M x t).2.2.2 (bst α a k (rnG α a k m s M x t).2.2.2) → τ 135 (40 * k + i) = chU α a k (rnG α a k m s M x t).2.2.2 (bst α a k (rnG α a k m s M x t).2.2.2) i) ∧ mFr σ τ k) ∨
    ((rnG α a k m s M x t).1 = 0 ∧ ∃ τ, lp_X10_chooses_28 k (dT α k) kx n σ s M = kx τ ∧ τ 118 29 = (rnG α a k m s M x t).2.2.1 ∧ mFr σ τ k) := by
  intro m
  have hd := dT_r (k := k) hw.2.2.2.2
  have w0 := hw.1.1
  have w1 := hw.1.2.1
  have w2 := hw.2.1.2.1
  induction m with
  | zero =>
    intro σ s M x t n h hg hs hM hu h4 h5 hn
    obtain ⟨n, rfl⟩ : ∃ k, n = k + 1 := ⟨n - 1, by omega⟩
    obtain ⟨k1, k2, k3, k4⟩ := mk_e hM hs
    have c := k3 hu
    right
    unfold bt at c
    rw [lp_X10_chooses_28, rnG, if_neg c]
    exact ⟨rfl, σ, rfl, h5, fun _ _ _ _ => rfl, fun _ _ _ => rfl, fun _ _ => rfl, fun _ _ => rfl⟩
  | succ m ih =>
    intro σ s M x t n h hg hs hM hu h4 h5 hn
    obtain ⟨n, rfl⟩ : ∃ k, n = k + 1 := ⟨n - 1, by omega⟩
    obtain ⟨k1, k2, k3, k4⟩ := mk_e hM hs
    rw [rnG]
    by_cases c : bt M s = 0
    · obtain ⟨k5, k6⟩ := k2 c
      rw [if_pos c]
      unfold bt at c
      have nx := hw.2.2.1.2 s hs.1 (by omega)
      have b0 := (bst_p (a := a) (k := k) (s := s) hw.2.2.2.2).1
      have fr1 : mFr σ (upS σ 118 29 (σ 118 29 + 1)) k := ⟨fun o a b c => upS_of a, fun i a b => upS_i b, fun i _ => upS_o (by omega), fun i _ => upS_o (by omega)⟩
      have hI := mFr_J fr1 h
      have mb := m_best (σ := upS σ 118 29 (σ 118 29 + 1)) (α := α) (a := a) (k := k) (s := s) (M := orI M (shlI 1 s)) (W := dT α k) (fun σ18 y19 => if wI y19 = (-1) then wrF σ18 118 28 ((σ18 118 28) + (dT α k + 1)) fun σ21 => rdA 6 σ21 121 s fun v22 => lp_X10_chooses_28 k (dT α k) kx n σ21 v22 (orI M (shlI 1 s)) else lp_X10_chooses_146 k s (dT α k) y19 (fun σ30 y31 => wrA 8 σ30 136 k y31 fun σ32 => wrF σ32 118 28 ((σ32 118 28) + (dT α k - y19)) fun σ33 => some (1, σ33)) 1000 σ18 0 0) hI hw (by rw [upS_i (by omega)]; exact hg) ha h2 h3 hs (α 0 0).toNat 0 1000 (by omega) (by omega)
      rw [Nat.zero_add, bsG] at mb
      have ebs : bsG α a k s (α 0 0).toNat = bst α a k s := rfl
      rw [ebs] at mb
      have ev : lp_X10_chooses_28 k (dT α k) kx (n + 1) σ s M = (if wI (bst α a k s) = (-1) then wrF (upS σ 118 29 (σ 118 29 + 1)) 118 28 ((upS σ 118 29 (σ 118 29 + 1) 118 28) + (dT α k + 1)) fun σ21 => rdA 6 σ21 121 s fun v22 => lp_X10_chooses_28 k (dT α k) kx n σ21 v22 (orI M (shlI 1 s)) else lp_X10_chooses_146 k s (dT α k) (bst α a k s) (fun σ30 y31 => wrA 8 σ30 136 k y31 fun σ32 => wrF σ32 118 28 ((σ32 118 28) + (dT α k - bst α a k s)) fun σ33 => some (1, σ33)) 1000 (upS σ 118 29 (σ 118 29 + 1)) 0 0) := by
        rw [lp_X10_chooses_28, if_pos c, bnd_d, wrF_d]
        exact mb
      rw [ev]
      by_cases c2 : 0 ≤ bst α a k s
      · rw [if_pos c2]
        left
        obtain ⟨τ, g1, g2, g3, g4⟩ := m_gath (α := α) (a := a) (k := k) (s := s) (W := dT α k) (b := bst α a k s) (fun σ30 y31 => wrA 8 σ30 136 k y31 fun σ32 => wrF σ32 118 28 ((σ32 118 28) + (dT α k - bst α a k s)) fun σ33 => some (1, σ33)) hw ha h2 h3 hs rfl (α 0 0).toNat 0 (upS σ 118 29 (σ 118 29 + 1)) 1000 hI (by rw [upS_i (by omega)]; exact hg) (by omega) (fun i i1 i2 => by rw [cnt] at i2; omega) (by omega)
        rw [Nat.zero_add] at g1 g2
        rw [cnt] at g1
        have fr2 : mFr (upS σ 118 29 (σ 118 29 + 1)) (upS (upS τ 136 k (cnt (PL α a k s (bst α a k s)) (α 0 0).toNat)) 118 28 (τ 118 28 + (dT α k - bst α a k s))) k := ⟨fun o a b c => by rw [upS_of a, upS_of c, g3 o b], fun i a b => by rw [upS_i a, upS_o (by omega), g3 118 (by omega)], fun i hi => by rw [upS_o (by omega), upS_o (by omega), g4 i hi], fun i hi => by rw [upS_o (by omega), upS_i hi, g3 136 (by omega)]⟩
        refine ⟨rfl, upS (upS τ 136 k (cnt (PL α a k s (bst α a k s)) (α 0 0).toNat)) 118 28 (τ 118 28 + (dT α k - bst α a k s)), ?_, ?_, ?_, ?_, ?_, mFr_t fr1 fr2⟩
        · rw [ewl_f (by omega)]
          have e0 : (((0 : Nat)) : Int) = 0 := rfl
          rw [e0] at g1
          rw [g1]
          simp (disch := omega) only [↓rdA_t, ↓wrA_t, ↓ixA_t, ↓wrF_d, ↓bd2_s, ↓bd1_s, ↓bnd_d, ↓iww_t, ↓iww_f, ↓iwl_t, ↓iwl_f, ↓ilw_t, ↓ilw_f, ↓eww_t, ↓eww_f, ↓ewl_t, ↓ewl_f, ↓ez_t, ↓ez_f, ↓il_t, ↓il_f, il_t, il_f, ez_t, ez_f, if_true, if_false, upS_h, upS_o, upS_i, Int.reduceAdd, Int.reduceSub, Int.reduceMul, Int.reduceNeg, wI_id]
        · rw [upS_h ⟨rfl, rfl⟩, g3 118 (by omega), upS_i (by omega), h4]
        · rw [upS_i (by omega), upS_o (by omega), g3 118 (by omega), upS_h ⟨rfl, rfl⟩, h5]
        · rw [upS_o (by omega), upS_h ⟨rfl, rfl⟩]; rfl
        · intro i i1 i2
          rw [upS_o (by omega), upS_o (by omega)]
          exact g2 i i1 i2
      · rw [if_neg c2, ewl_t (by omega), wrF_d]
        have fr2 : mFr (upS σ 118 29 (σ 118 29 + 1)) (upS (upS σ 118 29 (σ 118 29 + 1)) 118 28 (upS σ 118 29 (σ 118 29 + 1) 118 28 + (dT α k + 1))) k := ⟨fun o a b c => upS_of a, fun i a b => upS_i a, fun i _ => upS_o (by omega), fun i _ => upS_o (by omega)⟩
        have hI2 := mFr_J fr2 hI
        have eo := hI2.2.2.1.2 s hs.1 (by omega)
        rw [rdA_t (by omega), eo]
        have g := ih (upS (upS σ 118 29 (σ 118 29 + 1)) 118 28 (upS σ 118 29 (σ 118 29 + 1) 118 28 + (dT α k + 1))) (α 10 s) (orI M (shlI 1 s)) (x + (dT α k + 1)) (t + 1) n hI2 (by rw [upS_i (by omega), upS_i (by omega)]; exact hg) nx k6 (by omega) (by rw [upS_h ⟨rfl, rfl⟩, upS_i (by omega), h4]) (by rw [upS_i (by omega), upS_h ⟨rfl, rfl⟩, h5]) (by omega)
        rcases g with ⟨a1, τ2, a2, a3, a4, a5, a6, a7⟩ | ⟨a1, τ2, a2, a3, a4⟩
        · left
          exact ⟨a1, τ2, a2, a3, a4, a5, a6, mFr_t (mFr_t fr1 fr2) a7⟩
        · right
          exact ⟨a1, τ2, a2, a3, mFr_t (mFr_t fr1 fr2) a4⟩
    · rw [if_neg c]
      unfold bt at c
      right
      rw [lp_X10_chooses_28, if_neg c]
      exact ⟨rfl, σ, rfl, h5, fun _ _ _ _ => rfl, fun _ _ _ => rfl, fun _ _ => rfl, fun _ _ => rfl⟩
/-- the reference's choice for target k stands in its cells -/
def mCh (σ α : St) (a k : Int) : Prop := σ 136 k = nCh α a k ∧ ∀ i, 0 ≤ i → i < nCh α a k → σ 135 (40 * k + i) = uCh α a k i
theorem m_choose {σ α : St} {k a : Int} (h : JM σ α) (hw : WF α) (hg : σ 118 27 = a) (ha : -1 ≤ a ∧ a < 40) (h2 : 0 ≤ k) (h3 : k < α 0 1) : ∃ τ, f_X10_chooses σ k = some ((rnS α a k).1, τ) ∧ ((rnS α a k).1 = 1 → mCh τ α a k ∧ τ 118 28 = (rnS α a k).2.1) ∧ τ 118 29 = (rnS α a k).2.2.1 ∧ mFr σ τ k := by
  have w := hw.2.1.2.1
  have k1 := (hw.2.1.2.2 k h2 h3).1
  have e1 := h.2.1.2 k 0 h2 h3 (by omega) (by omega)
  rw [Int.add_zero, Int.add_zero] at e1
  have fr0 : mFr σ (upS (upS σ 118 28 0) 118 29 0) k := ⟨fun o a b c => by rw [upS_of a, upS_of a], fun i a b => by rw [upS_i b, upS_i a], fun i _ => by rw [upS_o (by omega), upS_o (by omega)], fun i _ => by rw [upS_o (by omega), upS_o (by omega)]⟩
  have hI := mFr_J fr0 h
  have g := m_rounds (α := α) (k := k) (a := a) (fun σ34 => some (0, σ34)) hw h2 h3 ha 6 (upS (upS σ 118 28 0) 118 29 0) (α 7 k) 0 0 0 1000 hI (by simp (disch := omega) only [upS_h, upS_o, upS_i, Int.reduceAdd, Int.reduceSub, Int.reduceMul, Int.reduceNeg]; exact hg) k1 (by omega) un_0 (by simp (disch := omega) only [upS_h, upS_o, upS_i, Int.reduceAdd, Int.reduceSub, Int.reduceMul, Int.reduceNeg]) (by simp (disch := omega) only [upS_h, upS_o, upS_i, Int.reduceAdd, Int.reduceSub, Int.reduceMul, Int.reduceNeg]) (by omega)
  have ev : f_X10_chooses σ k = lp_X10_chooses_28 k (dT α k) (fun σ34 => some (0, σ34)) 1000 (upS (upS σ 118 28 0) 118 29 0) (α 7 k) 0 := by
    unfold f_X10_chooses
    simp (disch := omega) only [↓rdA_t, ↓wrA_t, ↓ixA_t, ↓wrF_d, ↓bd2_s, ↓bd1_s, ↓bnd_d, ↓iww_t, ↓iww_f, ↓iwl_t, ↓iwl_f, ↓ilw_t, ↓ilw_f, ↓eww_t, ↓eww_f, ↓ewl_t, ↓ewl_f, ↓ez_t, ↓ez_f, ↓il_t, ↓il_f, il_t, il_f, ez_t, ez_f, if_true, if_false, upS_h, upS_o, upS_i, Int.reduceAdd, Int.reduceSub, Int.reduceMul, Int.reduceNeg, wI_id, m_way h hw h2 h3, e1]
  rw [ev]
  rcases g with ⟨a1, τ, a2, a3, a4, a5, a6, a7⟩ | ⟨a1, τ, a2, a3, a4⟩
  · exact ⟨τ, by rw [a2]; unfold rnS; rw [a1], fun _ => ⟨⟨a5, a6⟩, a3⟩, a4, mFr_t fr0 a7⟩
  · refine ⟨τ, by rw [a2]; unfold rnS; rw [a1], fun z => ?_, a3, mFr_t fr0 a4⟩
    unfold rnS at z
    omega
/-! ===== choice, steps, tried ===== -/
def rSt (α : St) (k : Int) : Int := if 0 ≤ k ∧ k < α 0 1 then (if (rnS α (-1) k).1 = 0 then -1 else (rnS α (-1) k).2.1) else -2
def rTr (α : St) (k : Int) : Int := if 0 ≤ k ∧ k < α 0 1 then (rnS α (-1) k).2.2.1 else -2
def aKT (α : St) (k : Int) : St := if 0 ≤ k ∧ k < α 0 1 then α else aR α 3
theorem c_choose1 {σ α : St} {q : Int} (h : IC σ α) (hw : WF α) (h0 : 0 ≤ q) (h1 : q < α 0 1) : ∃ τ, f_X2_choose σ q (-1) = some (38 + 2 * q, τ) ∧ cCh τ α (-1) q ∧ IC τ α ∧ ∀ o, 118 ≤ o → τ o = σ o := by
  have w := hw.2.1.2.1
  obtain ⟨τ, f1, f2, f3⟩ := c_leaves h hw
  have hI : IC τ α := IC_scr (fun o ho i _ => by rw [f3 o (by omega)]) h
  obtain ⟨ρ, g1, g2, g3⟩ := c_choose hI f2 hw h0 h1 (a := -1) (by omega)
  refine ⟨ρ, ?_, g2, IC_scr (fun o ho i _ => by rw [g3 o (by omega) (by omega)]) hI, fun o ho => by rw [g3 o (by omega) (by omega), f3 o (by omega)]⟩
  unfold f_X2_choose
  simp (disch := omega) only [↓rdA_t, ↓wrA_t, ↓ixA_t, ↓wrF_d, ↓bd2_s, ↓bd1_s, ↓bnd_d, ↓iww_t, ↓iww_f, ↓iwl_t, ↓iwl_f, ↓ilw_t, ↓ilw_f, ↓eww_t, ↓eww_f, ↓ewl_t, ↓ewl_f, ↓ez_t, ↓ez_f, ↓il_t, ↓il_f, il_t, il_f, ez_t, ez_f, if_true, if_false, upS_h, upS_o, upS_i, Int.reduceAdd, Int.reduceSub, Int.reduceMul, Int.reduceNeg, wI_id, f1, g1]
theorem mFr_I {σ τ α : St} {k : Int} (h : mFr σ τ k) (hI : IM σ α) : IM τ α := IM_scr (fun i hi => h.2.1 i (by unfold mF at hi; omega) (by unfold mF at hi; omega)) (fun o _ _ => h.1 o (by omega) (by omega) (by omega)) hI
theorem xc_steps {σ α : St} {k : Int} (h : IC σ α) (hw : WF α) (hk : inR k) : oC (f_X9_steps σ k) σ α (rSt α k) (aKT α k) := by
  unfold f_X9_steps rSt aKT
  rw [c_isT h.2.1 hw.2.1 hk]
  by_cases c : 0 ≤ k ∧ k < α 0 1
  · obtain ⟨τ, g1, g2, g3, g4⟩ := c_choose1 h hw c.1 c.2
    have r := (rnS_r (a := -1) hw c.1 c.2).1
    rw [if_pos c, if_pos c, if_pos c]
    refine ⟨τ, ?_, g3, g4⟩
    by_cases c2 : (rnS α (-1) k).1 = 0
    · simp (disch := omega) only [↓rdA_t, ↓wrA_t, ↓ixA_t, ↓wrF_d, ↓bd2_s, ↓bd1_s, ↓bnd_d, ↓iww_t, ↓iww_f, ↓iwl_t, ↓iwl_f, ↓ilw_t, ↓ilw_f, ↓eww_t, ↓eww_f, ↓ewl_t, ↓ewl_f, ↓ez_t, ↓ez_f, ↓il_t, ↓il_f, il_t, il_f, ez_t, ez_f, if_true, if_false, upS_h, upS_o, upS_i, Int.reduceAdd, Int.reduceSub, Int.reduceMul, Int.reduceNeg, wI_id, g1, g2.2.1 c2]
    · simp (disch := omega) only [↓rdA_t, ↓wrA_t, ↓ixA_t, ↓wrF_d, ↓bd2_s, ↓bd1_s, ↓bnd_d, ↓iww_t, ↓iww_f, ↓iwl_t, ↓iwl_f, ↓ilw_t, ↓ilw_f, ↓eww_t, ↓eww_f, ↓ewl_t, ↓ewl_f, ↓ez_t, ↓ez_f, ↓il_t, ↓il_f, il_t, il_f, ez_t, ez_f, if_true, if_false, upS_h, upS_o, upS_i, Int.reduceAdd, Int.reduceSub, Int.reduceMul, Int.reduceNeg, wI_id, g1, (g2.1 (by omega)).2.1]
  · rw [if_neg c, if_neg c, if_neg c]
    simp (disch := omega) only [↓rdA_t, ↓wrA_t, ↓ixA_t, ↓wrF_d, ↓bd2_s, ↓bd1_s, ↓bnd_d, ↓iww_t, ↓iww_f, ↓iwl_t, ↓iwl_f, ↓ilw_t, ↓ilw_f, ↓eww_t, ↓eww_f, ↓ewl_t, ↓ewl_f, ↓ez_t, ↓ez_f, ↓il_t, ↓il_f, il_t, il_f, ez_t, ez_f, if_true, if_false, upS_h, upS_o, upS_i, Int.reduceAdd, Int.reduceSub, Int.reduceMul, Int.reduceNeg, wI_id]
    exact oC_id (oC_bad h)
theorem xc_tried {σ α : St} {k : Int} (h : IC σ α) (hw : WF α) (hk : inR k) : oC (f_X9_tried σ k) σ α (rTr α k) (aKT α k) := by
  unfold f_X9_tried rTr aKT
  rw [c_isT h.2.1 hw.2.1 hk]
  by_cases c : 0 ≤ k ∧ k < α 0 1
  · obtain ⟨τ, g1, g2, g3, g4⟩ := c_choose1 h hw c.1 c.2
    rw [if_pos c, if_pos c, if_pos c]
    refine ⟨τ, ?_, g3, g4⟩
    simp (disch := omega) only [↓rdA_t, ↓wrA_t, ↓ixA_t, ↓wrF_d, ↓bd2_s, ↓bd1_s, ↓bnd_d, ↓iww_t, ↓iww_f, ↓iwl_t, ↓iwl_f, ↓ilw_t, ↓ilw_f, ↓eww_t, ↓eww_f, ↓ewl_t, ↓ewl_f, ↓ez_t, ↓ez_f, ↓il_t, ↓il_f, il_t, il_f, ez_t, ez_f, if_true, if_false, upS_h, upS_o, upS_i, Int.reduceAdd, Int.reduceSub, Int.reduceMul, Int.reduceNeg, wI_id, g1, g2.2.2]
  · rw [if_neg c, if_neg c, if_neg c]
    simp (disch := omega) only [↓rdA_t, ↓wrA_t, ↓ixA_t, ↓wrF_d, ↓bd2_s, ↓bd1_s, ↓bnd_d, ↓iww_t, ↓iww_f, ↓iwl_t, ↓iwl_f, ↓ilw_t, ↓ilw_f, ↓eww_t, ↓eww_f, ↓ewl_t, ↓ewl_f, ↓ez_t, ↓ez_f, ↓il_t, ↓il_f, il_t, il_f, ez_t, ez_f, if_true, if_false, upS_h, upS_o, upS_i, Int.reduceAdd, Int.reduceSub, Int.reduceMul, Int.reduceNeg, wI_id]
    exact oC_id (oC_bad h)
theorem xm_steps {σ α : St} {k : Int} (h : IM σ α) (hw : WF α) (hk : inR k) : oM (f_X10_steps σ k) σ α (rSt α k) (aKT α k) := by
  unfold f_X10_steps rSt aKT
  rw [m_isT h.2.1 hw.2.1 hk]
  by_cases c : 0 ≤ k ∧ k < α 0 1
  · obtain ⟨τ, g1, g2, g3, g4⟩ := m_choose (JM_of h) hw h.2.2.1.2.2.2.2.2 (by omega) c.1 c.2
    have r := (rnS_r (a := -1) hw c.1 c.2).1
    rw [if_pos c, if_pos c, if_pos c]
    refine ⟨τ, ?_, mFr_I g4 h, fun o ho => g4.1 o (by omega) (by omega) (by omega)⟩
    by_cases c2 : (rnS α (-1) k).1 = 0
    · simp (disch := omega) only [↓rdA_t, ↓wrA_t, ↓ixA_t, ↓wrF_d, ↓bd2_s, ↓bd1_s, ↓bnd_d, ↓iww_t, ↓iww_f, ↓iwl_t, ↓iwl_f, ↓ilw_t, ↓ilw_f, ↓eww_t, ↓eww_f, ↓ewl_t, ↓ewl_f, ↓ez_t, ↓ez_f, ↓il_t, ↓il_f, il_t, il_f, ez_t, ez_f, if_true, if_false, upS_h, upS_o, upS_i, Int.reduceAdd, Int.reduceSub, Int.reduceMul, Int.reduceNeg, wI_id, g1]
    · simp (disch := omega) only [↓rdA_t, ↓wrA_t, ↓ixA_t, ↓wrF_d, ↓bd2_s, ↓bd1_s, ↓bnd_d, ↓iww_t, ↓iww_f, ↓iwl_t, ↓iwl_f, ↓ilw_t, ↓ilw_f, ↓eww_t, ↓eww_f, ↓ewl_t, ↓ewl_f, ↓ez_t, ↓ez_f, ↓il_t, ↓il_f, il_t, il_f, ez_t, ez_f, if_true, if_false, upS_h, upS_o, upS_i, Int.reduceAdd, Int.reduceSub, Int.reduceMul, Int.reduceNeg, wI_id, g1, (g2 (by omega)).2]
  · rw [if_neg c, if_neg c, if_neg c]
    simp (disch := omega) only [↓rdA_t, ↓wrA_t, ↓ixA_t, ↓wrF_d, ↓bd2_s, ↓bd1_s, ↓bnd_d, ↓iww_t, ↓iww_f, ↓iwl_t, ↓iwl_f, ↓ilw_t, ↓ilw_f, ↓eww_t, ↓eww_f, ↓ewl_t, ↓ewl_f, ↓ez_t, ↓ez_f, ↓il_t, ↓il_f, il_t, il_f, ez_t, ez_f, if_true, if_false, upS_h, upS_o, upS_i, Int.reduceAdd, Int.reduceSub, Int.reduceMul, Int.reduceNeg, wI_id]
    exact oM_id (oM_bad (-2) h)
theorem xm_tried {σ α : St} {k : Int} (h : IM σ α) (hw : WF α) (hk : inR k) : oM (f_X10_tried σ k) σ α (rTr α k) (aKT α k) := by
  unfold f_X10_tried rTr aKT
  rw [m_isT h.2.1 hw.2.1 hk]
  by_cases c : 0 ≤ k ∧ k < α 0 1
  · obtain ⟨τ, g1, g2, g3, g4⟩ := m_choose (JM_of h) hw h.2.2.1.2.2.2.2.2 (by omega) c.1 c.2
    rw [if_pos c, if_pos c, if_pos c]
    refine ⟨τ, ?_, mFr_I g4 h, fun o ho => g4.1 o (by omega) (by omega) (by omega)⟩
    simp (disch := omega) only [↓rdA_t, ↓wrA_t, ↓ixA_t, ↓wrF_d, ↓bd2_s, ↓bd1_s, ↓bnd_d, ↓iww_t, ↓iww_f, ↓iwl_t, ↓iwl_f, ↓ilw_t, ↓ilw_f, ↓eww_t, ↓eww_f, ↓ewl_t, ↓ewl_f, ↓ez_t, ↓ez_f, ↓il_t, ↓il_f, il_t, il_f, ez_t, ez_f, if_true, if_false, upS_h, upS_o, upS_i, Int.reduceAdd, Int.reduceSub, Int.reduceMul, Int.reduceNeg, wI_id, g1, g3]
  · rw [if_neg c, if_neg c, if_neg c]
    simp (disch := omega) only [↓rdA_t, ↓wrA_t, ↓ixA_t, ↓wrF_d, ↓bd2_s, ↓bd1_s, ↓bnd_d, ↓iww_t, ↓iww_f, ↓iwl_t, ↓iwl_f, ↓ilw_t, ↓ilw_f, ↓eww_t, ↓eww_f, ↓ewl_t, ↓ewl_f, ↓ez_t, ↓ez_f, ↓il_t, ↓il_f, il_t, il_f, ez_t, ez_f, if_true, if_false, upS_h, upS_o, upS_i, Int.reduceAdd, Int.reduceSub, Int.reduceMul, Int.reduceNeg, wI_id]
    exact oM_id (oM_bad (-2) h)
theorem wf_kt {α : St} {k : Int} (hw : WF α) : WF (aKT α k) := by
  unfold aKT
  by_cases c : 0 ≤ k ∧ k < α 0 1
  · rw [if_pos c]; exact hw
  · rw [if_neg c]; exact WF_aR 3 (by omega) hw
