/-! ===== the component's whole chains ===== -/
theorem c_weigh_58 {α : St} {a kd : Int} (kx : St → Option (Int × St)) (hw : WF α) (hf : allF α a) (hn0 : 0 < α 0 1) : ∀ (r x : Nat) (σ : St) (n : Nat), cCh σ α a 0 → (∀ i, 0 ≤ i → i < nCh α a 0 → cV σ α a kd 0 (α 0 1 - 1).toNat i) → (x : Int) + r = nCh α a 0 → cE σ 57 0 0 (fd (dp α a kd (α 0 1 - 1).toNat) (fun _ => 0) x 0) (fd (dp α a kd (α 0 1 - 1).toNat) (fun _ => 0) x 1) (fd (dp α a kd (α 0 1 - 1).toNat) (fun _ => 0) x 2) (fd (dp α a kd (α 0 1 - 1).toNat) (fun _ => 0) x 3) (fv (dp α a kd (α 0 1 - 1).toNat) (fun _ => 0) x) → r < n → ∃ τ, lp_X0_weigh_58 kx n σ x = kx τ ∧ cE τ 57 0 0 (fd (dp α a kd (α 0 1 - 1).toNat) (fun _ => 0) (x + r) 0) (fd (dp α a kd (α 0 1 - 1).toNat) (fun _ => 0) (x + r) 1) (fd (dp α a kd (α 0 1 - 1).toNat) (fun _ => 0) (x + r) 2) (fd (dp α a kd (α 0 1 - 1).toNat) (fun _ => 0) (x + r) 3) (fv (dp α a kd (α 0 1 - 1).toNat) (fun _ => 0) (x + r)) ∧ ∀ o', (o' ≤ 57 ∨ 62 < o') → τ o' = σ o' := by
  intro r
  have w2 := hw.2.1.2.1
  have w3 := hw.1.2.1
  have n0 := nCh_r hw (show (0 : Int) ≤ 0 by omega) hn0 (hf 0 (by omega) hn0)
  have hDr : ∀ j : Nat, j < (nCh α a 0).toNat → okE 480 (dp α a kd (α 0 1 - 1).toNat 0 j) (dp α a kd (α 0 1 - 1).toNat 1 j) (dp α a kd (α 0 1 - 1).toNat 2 j) (dp α a kd (α 0 1 - 1).toNat 3 j) := fun j hj => by
    have q := dp_ok (kd := kd) hw hf (α 0 1 - 1).toNat 0 (by omega) (by omega) j (by omega)
    obtain ⟨o1, o2, o3, o4⟩ := q
    exact ⟨by omega, by omega, by omega, o4⟩
  induction r with
  | zero =>
    intro x σ n hc hv h1 hE hn
    obtain ⟨n, rfl⟩ : ∃ k, n = k + 1 := ⟨n - 1, by omega⟩
    have e1 := (hc.1 (hf 0 (by omega) hn0)).1
    simp only [Int.reduceMul, Int.reduceAdd] at e1
    rw [lp_X0_weigh_58]
    exact ⟨σ, by simp (disch := omega) only [↓rdA_t, ↓wrA_t, ↓ixA_t, ↓wrF_d, ↓bd2_s, ↓bd1_s, ↓bnd_d, ↓iww_t, ↓iww_f, ↓iwl_t, ↓iwl_f, ↓ilw_t, ↓ilw_f, ↓eww_t, ↓eww_f, ↓ewl_t, ↓ewl_f, ↓ez_t, ↓ez_f, ↓il_t, ↓il_f, il_t, il_f, ez_t, ez_f, if_true, if_false, upS_h, upS_o, upS_i, Int.reduceAdd, Int.reduceSub, Int.reduceMul, Int.reduceNeg, wI_id], hE, fun _ _ => rfl⟩
  | succ r ih =>
    intro x σ n hc hv h1 hE hn
    obtain ⟨n, rfl⟩ : ∃ k, n = k + 1 := ⟨n - 1, by omega⟩
    have e1 := (hc.1 (hf 0 (by omega) hn0)).1
    simp only [Int.reduceMul, Int.reduceAdd] at e1
    have okf := (fd_ok (jt := fun _ => 0) hDr (fun j hj => by omega) x (by omega)).1
    have oke := hDr x (by omega)
    have oke' : okE (480 + 16) (dp α a kd (α 0 1 - 1).toNat 0 x) (dp α a kd (α 0 1 - 1).toNat 1 x) (dp α a kd (α 0 1 - 1).toNat 2 x) (dp α a kd (α 0 1 - 1).toNat 3 x) := by
      obtain ⟨o1, o2, o3, o4⟩ := oke
      exact ⟨by omega, by omega, by omega, o4⟩
    obtain ⟨τ, g1, g2, g3, g4⟩ := c_offer (t := 0) (B := 480 + 16) hE (hv x (by omega) (by omega)).1 (by omega) okf oke' (by omega) (by omega) (by omega) (fun z z1 z2 => by rw [uv_1 (by omega)]; omega) (fun z z1 z2 => by rw [uv_40 (by omega)]; omega) (by omega)
    simp only [Int.reduceMul, Int.reduceAdd] at g1
    obtain ⟨ρ, f1, f2, f3⟩ := ih (x + 1) τ n (by
      unfold cCh at hc ⊢
      rw [g3 (38 + 2 * 0) (by omega), g3 (38 + 2 * 0 + 1) (by omega)]
      exact hc) (fun i i1 i2 => by
      have q := hv i i1 i2
      unfold cV cD at q ⊢
      rw [g3 (70 + 6 * 0 + 1) (by omega), g3 (70 + 6 * 0 + 2) (by omega), g3 (70 + 6 * 0 + 3) (by omega), g3 (70 + 6 * 0 + 4) (by omega), g3 (70 + 6 * 0 + 5) (by omega)]
      exact q) (by omega) g2 (by omega)
    rw [show x + 1 + r = x + (r + 1) by omega] at f2
    rw [show ((x + 1 : Nat) : Int) = (x : Int) + 1 by omega] at f1
    refine ⟨ρ, ?_, f2, fun o' ho => by rw [f3 o' ho, g3 o' (by omega)]⟩
    rw [← f1, lp_X0_weigh_58]
    simp (disch := omega) only [↓rdA_t, ↓wrA_t, ↓ixA_t, ↓wrF_d, ↓bd2_s, ↓bd1_s, ↓bnd_d, ↓iww_t, ↓iww_f, ↓iwl_t, ↓iwl_f, ↓ilw_t, ↓ilw_f, ↓eww_t, ↓eww_f, ↓ewl_t, ↓ewl_f, ↓ez_t, ↓ez_f, ↓il_t, ↓il_f, il_t, il_f, ez_t, ez_f, if_true, if_false, upS_h, upS_o, upS_i, Int.reduceAdd, Int.reduceSub, Int.reduceMul, Int.reduceNeg, wI_id, g1]
theorem c_weigh {σ α : St} {a kd : Int} (h : IC σ α) (hw : WF α) (hf : allF α a) (hn0 : 0 < α 0 1) (hkd : 0 ≤ kd ∧ kd ≤ 4) (hc : ∀ q, 0 ≤ q → q < α 0 1 → cCh σ α a q) : ∃ τ, f_X0_weigh σ kd = some (0, τ) ∧ (∀ q, 0 ≤ q → q < α 0 1 → ∀ i, 0 ≤ i → i < nCh α a q → cV τ α a kd q (α 0 1 - 1 - q).toNat i) ∧ (τ 58 0 = tp α a kd 0 ∧ τ 59 0 = far 0 (tp α a kd 1) ∧ τ 60 0 = tp α a kd 2 ∧ τ 61 0 = tp α a kd 3 ∧ τ 62 0 = tv α a kd) ∧ cW σ τ := by
  have w2 := hw.2.1.2.1
  have hs := h.2.1.1
  have n0 := nCh_r hw (show (0 : Int) ≤ 0 by omega) hn0 (hf 0 (by omega) hn0)
  have w3 := hw.1.2.1
  obtain ⟨τ, g1, g2, g3⟩ := c_weigh_10 (α := α) (a := a) (kd := kd) (fun σ8 => bd2 (f_X5_begin σ8 57 0) fun v9 σ10 => lp_X0_weigh_58 (fun σ16 => some (0, σ16)) 1000 σ10 0) hw hf hkd (α 0 1).toNat σ (α 0 1 - 1) 1000 h hc (by omega) (by omega) (fun q q1 q2 => by omega) (by omega)
  have eb : ∃ ρ, f_X5_begin τ 57 0 = some (0, ρ) ∧ cE ρ 57 0 0 (-1) (-1) (-1) 0 0 ∧ ∀ o', (o' ≤ 57 ∨ 62 < o') → ρ o' = τ o' := by
    unfold f_X5_begin
    simp only [Int.reduceAdd]
    rw [uv_1 (by omega), uv_1 (by omega), uv_1 (by omega), uv_1 (by omega), uv_1 (by omega)]
    simp (disch := omega) only [↓rdA_t, ↓wrA_t, ↓ixA_t, ↓wrF_d, ↓bd2_s, ↓bd1_s, ↓bnd_d, ↓iww_t, ↓iww_f, ↓iwl_t, ↓iwl_f, ↓ilw_t, ↓ilw_f, ↓eww_t, ↓eww_f, ↓ewl_t, ↓ewl_f, ↓ez_t, ↓ez_f, ↓il_t, ↓il_f, il_t, il_f, ez_t, ez_f, if_true, if_false, upS_h, upS_o, upS_i, Int.reduceAdd, Int.reduceSub, Int.reduceMul, Int.reduceNeg, wI_id]
    exact ⟨_, rfl, ⟨by simp (disch := omega) only [upS_h, upS_o, upS_i, Int.reduceAdd, Int.reduceSub, Int.reduceMul, Int.reduceNeg]; rfl, by simp (disch := omega) only [upS_h, upS_o, upS_i, Int.reduceAdd, Int.reduceSub, Int.reduceMul, Int.reduceNeg]; rfl, by simp (disch := omega) only [upS_h, upS_o, upS_i, Int.reduceAdd, Int.reduceSub, Int.reduceMul, Int.reduceNeg]; rfl, by simp (disch := omega) only [upS_h, upS_o, upS_i, Int.reduceAdd, Int.reduceSub, Int.reduceMul, Int.reduceNeg], by simp (disch := omega) only [upS_h, upS_o, upS_i, Int.reduceAdd, Int.reduceSub, Int.reduceMul, Int.reduceNeg]⟩, fun o' ho => by rw [upS_of (by omega), upS_of (by omega), upS_of (by omega), upS_of (by omega), upS_of (by omega)]⟩
  obtain ⟨ρ, b1, b2, b3⟩ := eb
  have lev : ∀ {ξ : St}, (∀ o', (o' ≤ 57 ∨ 62 < o') → ξ o' = τ o') → ∀ q, 0 ≤ q → q < α 0 1 → ∀ i, 0 ≤ i → i < nCh α a q → cV ξ α a kd q (α 0 1 - 1 - q).toNat i := fun hx q q1 q2 i i1 i2 => by
    have z := g2 q q1 q2 i i1 i2
    unfold cV cD at z ⊢
    rw [hx (70 + 6 * q + 1) (by omega), hx (70 + 6 * q + 2) (by omega), hx (70 + 6 * q + 3) (by omega), hx (70 + 6 * q + 4) (by omega), hx (70 + 6 * q + 5) (by omega)]
    exact z
  have sc1 : cW σ ρ := cW_t g3 (fun o ho => b3 o (by omega))
  obtain ⟨ξ, f1, f2, f3⟩ := c_weigh_58 (α := α) (a := a) (kd := kd) (fun σ16 => some (0, σ16)) hw hf hn0 (nCh α a 0).toNat 0 ρ 1000 (cW_C sc1 (by omega) (hc 0 (by omega) hn0)) (fun i i1 i2 => by
    have q := lev b3 0 (by omega) hn0 i i1 i2
    rw [show (α 0 1 - 1 - 0).toNat = (α 0 1 - 1).toNat by omega] at q
    exact q) (by omega) b2 (by omega)
  rw [Nat.zero_add] at f2
  have ok := tp_ok (kd := kd) hw hf hn0
  obtain ⟨k1, k2, k3, k4, k5⟩ := f2
  have e0 : fd (dp α a kd (α 0 1 - 1).toNat) (fun _ => 0) (nCh α a 0).toNat 0 = tp α a kd 0 := rfl
  rw [e0] at k1 k3
  have nb : ¬ tp α a kd 0 = -1 := by have := ok.1; omega
  refine ⟨ξ, ?_, lev (fun o' ho => by rw [f3 o' ho, b3 o' ho]), ⟨?_, k2, ?_, k4, k5⟩, cW_t sc1 (fun o ho => f3 o (by omega))⟩
  · have e0 : (((0 : Nat)) : Int) = 0 := rfl
    rw [e0] at f1
    have eK : (bd2 (f_X5_begin τ 57 0) fun v9 σ10 => lp_X0_weigh_58 (fun σ16 => some (0, σ16)) 1000 σ10 0) = some (0, ξ) := by rw [b1, bd2_s, f1]
    unfold f_X0_weigh
    rw [bnd_d, hs, g1]
    exact eK
  · have : ξ (57 + 1) 0 = 0 + tp α a kd 0 := by rw [k1]; exact if_neg nb
    rw [Int.zero_add] at this
    exact this
  · have : ξ (57 + 3) 0 = 0 + fd (dp α a kd (α 0 1 - 1).toNat) (fun _ => 0) (nCh α a 0).toNat 2 := by rw [k3]; exact if_neg nb
    rw [Int.zero_add] at this
    exact this
/-! the path -/
theorem fv_r {D : Int → Int → Int} {jt : Int → Int} : ∀ j : Nat, 0 < j → 0 ≤ fv D jt j ∧ fv D jt j < j := by
  intro j
  induction j with
  | zero => intro h; omega
  | succ j ih =>
    intro _
    rw [fv]
    by_cases c : fd D jt j 0 = -1 ∨ D 0 j + jt j < fd D jt j 0
    · rw [if_pos c]; omega
    · rw [if_neg c]
      by_cases c2 : j = 0
      · subst c2; exact absurd (Or.inl rfl) c
      · have := ih (by omega); omega
/-- the entries of the cheapest chain, the first where several are -/
def ixs (α : St) (a kd : Int) : Nat → Int
  | 0 => tv α a kd
  | k + 1 => via α a kd (α 0 1 - 1 - (k : Nat)).toNat (ixs α a kd k)
def pth (α : St) (a kd k : Int) : Int := uCh α a k (ixs α a kd k.toNat)
theorem ixs_r {α : St} {a kd : Int} (hw : WF α) (hf : allF α a) : ∀ k : Nat, (k : Int) < α 0 1 → 0 ≤ ixs α a kd k ∧ ixs α a kd k < nCh α a k := by
  intro k
  cases k with
  | zero =>
    intro h
    have n0 := nCh_r hw (show (0 : Int) ≤ 0 by omega) h (hf 0 (by omega) h)
    have r := fv_r (D := dp α a kd (α 0 1 - 1).toNat) (jt := fun _ => 0) (nCh α a 0).toNat (by omega)
    rw [ixs]
    unfold tv
    exact ⟨r.1, by have := r.2; simp only [Int.natCast_zero]; omega⟩
  | succ k =>
    intro h
    have n0 := nCh_r hw (show (0 : Int) ≤ ((k + 1 : Nat) : Int) by omega) h (hf _ (by omega) h)
    rw [ixs]
    obtain ⟨m, hm⟩ : ∃ m : Nat, (α 0 1 - 1 - (k : Nat)).toNat = m + 1 := ⟨(α 0 1 - 1 - (k : Nat)).toNat - 1, by omega⟩
    rw [hm, via]
    have e : α 0 1 - 1 - ((m + 1 : Nat) : Int) + 1 = ((k + 1 : Nat) : Int) := by omega
    rw [e]
    have r := fv_r (D := dp α a kd m) (jt := jnt α a (α 0 1 - 1 - ((m + 1 : Nat) : Int)) (ixs α a kd k)) (nCh α a ((k + 1 : Nat) : Int)).toNat (by omega)
    exact ⟨r.1, by omega⟩
theorem c_trace_g {α : St} {a kd : Int} (kx : St → Option (Int × St)) (hw : WF α) (hf : allF α a) : ∀ (r x : Nat) (σ : St) (n : Nat), IC σ α → (∀ q, 0 ≤ q → q < α 0 1 → cCh σ α a q) → (∀ q, 0 ≤ q → q < α 0 1 → ∀ i, 0 ≤ i → i < nCh α a q → cV σ α a kd q (α 0 1 - 1 - q).toNat i) → (x : Int) + r = α 0 1 → (∀ k : Int, 0 ≤ k → k < x → σ 69 k = pth α a kd k) → r < n → ∃ τ, lp_X0_trace_12 kx n σ (ixs α a kd x) x = kx τ ∧ (∀ k, 0 ≤ k → k < α 0 1 → τ 69 k = pth α a kd k) ∧ ∀ o, ¬ o = 69 → τ o = σ o := by
  intro r
  have w2 := hw.2.1.2.1
  have w3 := hw.1.2.1
  induction r with
  | zero =>
    intro x σ n h hc hv h1 hp hn
    obtain ⟨n, rfl⟩ : ∃ k, n = k + 1 := ⟨n - 1, by omega⟩
    have hs := h.2.1.1
    rw [lp_X0_trace_12]
    exact ⟨σ, by simp (disch := omega) only [↓rdA_t, ↓wrA_t, ↓ixA_t, ↓wrF_d, ↓bd2_s, ↓bd1_s, ↓bnd_d, ↓iww_t, ↓iww_f, ↓iwl_t, ↓iwl_f, ↓ilw_t, ↓ilw_f, ↓eww_t, ↓eww_f, ↓ewl_t, ↓ewl_f, ↓ez_t, ↓ez_f, ↓il_t, ↓il_f, il_t, il_f, ez_t, ez_f, if_true, if_false, upS_h, upS_o, upS_i, Int.reduceAdd, Int.reduceSub, Int.reduceMul, Int.reduceNeg, wI_id], fun k k1 k2 => hp k k1 (by omega), fun _ _ => rfl⟩
  | succ r ih =>
    intro x σ n h hc hv h1 hp hn
    obtain ⟨n, rfl⟩ : ∃ k, n = k + 1 := ⟨n - 1, by omega⟩
    have hs := h.2.1.1
    have ir := ixs_r (kd := kd) hw hf x (by omega)
    have n0 := nCh_r hw (show (0 : Int) ≤ (x : Int) by omega) (by omega) (hf x (by omega) (by omega))
    obtain ⟨e1, e2, e3⟩ := (hc x (by omega) (by omega)).1 (hf x (by omega) (by omega))
    have e4 := e3 (ixs α a kd x) ir.1 ir.2
    have e5 := (hv x (by omega) (by omega) (ixs α a kd x) ir.1 ir.2).2
    have ep : pth α a kd x = uCh α a x (ixs α a kd x) := by unfold pth; rw [show ((x : Int)).toNat = x by omega]
    have ei : ixs α a kd (x + 1) = via α a kd (α 0 1 - 1 - (x : Nat)).toNat (ixs α a kd x) := rfl
    obtain ⟨τ, g1, g2, g3⟩ := ih (x + 1) (upS σ 69 x (pth α a kd x)) n (IC_scr (fun o ho i _ => upS_o (by omega)) h) (fun q q1 q2 => by
      have z := hc q q1 q2
      unfold cCh at z ⊢
      rw [upS_of (show ¬ 38 + 2 * q = 69 by omega), upS_of (show ¬ 38 + 2 * q + 1 = 69 by omega)]
      exact z) (fun q q1 q2 i i1 i2 => by
      have z := hv q q1 q2 i i1 i2
      unfold cV cD at z ⊢
      rw [upS_of (show ¬ 70 + 6 * q + 1 = 69 by omega), upS_of (show ¬ 70 + 6 * q + 2 = 69 by omega), upS_of (show ¬ 70 + 6 * q + 3 = 69 by omega), upS_of (show ¬ 70 + 6 * q + 4 = 69 by omega), upS_of (show ¬ 70 + 6 * q + 5 = 69 by omega)]
      exact z) (by omega) (fun k k1 k2 => by
      by_cases c : k = x
      · subst c; exact upS_h ⟨rfl, rfl⟩
      · rw [upS_i c]; exact hp k k1 (by omega)) (by omega)
    rw [show ((x + 1 : Nat) : Int) = (x : Int) + 1 by omega] at g1
    refine ⟨τ, ?_, g2, fun o ho => by rw [g3 o ho, upS_of ho]⟩
    rw [← g1, lp_X0_trace_12, uv_40 (by omega), ei, ep]
    simp (disch := omega) only [↓rdA_t, ↓wrA_t, ↓ixA_t, ↓wrF_d, ↓bd2_s, ↓bd1_s, ↓bnd_d, ↓iww_t, ↓iww_f, ↓iwl_t, ↓iwl_f, ↓ilw_t, ↓ilw_f, ↓eww_t, ↓eww_f, ↓ewl_t, ↓ewl_f, ↓ez_t, ↓ez_f, ↓il_t, ↓il_f, il_t, il_f, ez_t, ez_f, if_true, if_false, upS_h, upS_o, upS_i, Int.reduceAdd, Int.reduceSub, Int.reduceMul, Int.reduceNeg, wI_id, e1, e4, e5]
