/-! ===== the prices of all chains from a target on ===== -/
/-- for the target m before the last: least, second or -1, most, ways of the chains that begin with entry i -/
def dp (α : St) (a kd : Int) : Nat → Int → Int → Int
  | 0, w, i => if w = 1 then -1 else if w = 3 then 1 else fitS α kd (uCh α a (α 0 1 - 1) i) (α 0 1 - 1)
  | m + 1, w, i => if w = 3 then fd (dp α a kd m) (fun j => joiS α (uCh α a (α 0 1 - 1 - (m + 1 : Nat)) i) (uCh α a (α 0 1 - 1 - (m : Nat)) j)) (nCh α a (α 0 1 - 1 - (m : Nat))).toNat 3 else if w = 1 then (if fd (dp α a kd m) (fun j => joiS α (uCh α a (α 0 1 - 1 - (m + 1 : Nat)) i) (uCh α a (α 0 1 - 1 - (m : Nat)) j)) (nCh α a (α 0 1 - 1 - (m : Nat))).toNat 1 = -1 then -1 else fitS α kd (uCh α a (α 0 1 - 1 - (m + 1 : Nat)) i) (α 0 1 - 1 - (m + 1 : Nat)) + fd (dp α a kd m) (fun j => joiS α (uCh α a (α 0 1 - 1 - (m + 1 : Nat)) i) (uCh α a (α 0 1 - 1 - (m : Nat)) j)) (nCh α a (α 0 1 - 1 - (m : Nat))).toNat 1) else fitS α kd (uCh α a (α 0 1 - 1 - (m + 1 : Nat)) i) (α 0 1 - 1 - (m + 1 : Nat)) + fd (dp α a kd m) (fun j => joiS α (uCh α a (α 0 1 - 1 - (m + 1 : Nat)) i) (uCh α a (α 0 1 - 1 - (m : Nat)) j)) (nCh α a (α 0 1 - 1 - (m : Nat))).toNat w
/-- joints from an entry of one target to the entries of the next -/
def jnt (α : St) (a k i : Int) : Int → Int := fun j => joiS α (uCh α a k i) (uCh α a (k + 1) j)
/-- a step of dp, by the target's own number -/
theorem dp_s {α : St} {a kd k i : Int} {m : Nat} (hk : k = α 0 1 - 1 - (m + 1 : Nat)) : dp α a kd (m + 1) 0 i = fitS α kd (uCh α a k i) k + fd (dp α a kd m) (jnt α a k i) (nCh α a (k + 1)).toNat 0 ∧ dp α a kd (m + 1) 1 i = (if fd (dp α a kd m) (jnt α a k i) (nCh α a (k + 1)).toNat 1 = -1 then -1 else fitS α kd (uCh α a k i) k + fd (dp α a kd m) (jnt α a k i) (nCh α a (k + 1)).toNat 1) ∧ dp α a kd (m + 1) 2 i = fitS α kd (uCh α a k i) k + fd (dp α a kd m) (jnt α a k i) (nCh α a (k + 1)).toNat 2 ∧ dp α a kd (m + 1) 3 i = fd (dp α a kd m) (jnt α a k i) (nCh α a (k + 1)).toNat 3 := by
  have e : α 0 1 - 1 - (m : Nat) = k + 1 := by omega
  refine ⟨?_, ?_, ?_, ?_⟩ <;> (rw [dp, e, ← hk]; rfl)
theorem dp_ok {α : St} {a kd : Int} (hw : WF α) (hf : allF α a) : ∀ (m : Nat) (k : Int), k = α 0 1 - 1 - (m : Nat) → 0 ≤ k → ∀ i : Nat, (i : Int) < nCh α a k → okE (60 * (m + 1)) (dp α a kd m 0 i) (dp α a kd m 1 i) (dp α a kd m 2 i) (dp α a kd m 3 i) := by
  intro m
  induction m with
  | zero =>
    intro k hk h0 i hi
    have u := uCh_r (a := a) (k := k) (i := (i : Int)) hw (by omega) hi
    have r := fitS_r (a := kd) hw u.1.1 u.1.2 h0 (by omega)
    have ek : α 0 1 - 1 = k := by simpa using hk.symm
    have e0 : dp α a kd 0 0 i = fitS α kd (uCh α a k i) k := by rw [dp, ek]; rfl
    have e1 : dp α a kd 0 1 i = -1 := rfl
    have e2 : dp α a kd 0 2 i = fitS α kd (uCh α a k i) k := by rw [dp, ek]; rfl
    have e3 : dp α a kd 0 3 i = 1 := rfl
    rw [e0, e1, e2, e3]
    unfold okE
    omega
  | succ m ih =>
    intro k hk h0 i hi
    have u := uCh_r (a := a) (k := k) (i := (i : Int)) hw (by omega) hi
    have r := fitS_r (a := kd) hw u.1.1 u.1.2 h0 (by omega)
    have n1 := nCh_r hw (show 0 ≤ k + 1 by omega) (show k + 1 < α 0 1 by omega) (hf (k + 1) (by omega) (by omega))
    have g := (fd_ok (D := dp α a kd m) (jt := jnt α a k i) (B := 60 * (m + 1)) (n := (nCh α a (k + 1)).toNat) (fun j hj => ih (k + 1) (by omega) (by omega) j (by omega)) (fun j hj => by
      have v := uCh_r (a := a) (k := k + 1) (i := (j : Int)) hw (by omega) (by omega)
      exact joiS_r hw.1 u.1.1 u.1.2 v.1.1 v.1.2) (nCh α a (k + 1)).toNat (by omega)).2 (by omega)
    obtain ⟨s0, s1, s2, s3⟩ := dp_s (α := α) (a := a) (kd := kd) (i := (i : Int)) hk
    obtain ⟨g1, g2, g3, g4⟩ := g
    rw [s0, s1, s2, s3]
    refine ⟨by omega, ?_, by omega, g4⟩
    by_cases c : fd (dp α a kd m) (jnt α a k i) (nCh α a (k + 1)).toNat 1 = -1
    · rw [if_pos c]; left; rfl
    · rw [if_neg c]; right; omega
/-- which entry of the next target -/
def via (α : St) (a kd : Int) : Nat → Int → Int
  | 0, _ => 0
  | m + 1, i => fv (dp α a kd m) (jnt α a (α 0 1 - 1 - (m + 1 : Nat)) i) (nCh α a (α 0 1 - 1 - (m + 1 : Nat) + 1)).toNat
/-- tally k holds dp -/
def cV (σ α : St) (a kd k : Int) (m : Nat) (i : Int) : Prop := cD σ (70 + 6 * k) i (dp α a kd m 0 i) (dp α a kd m 1 i) (dp α a kd m 2 i) (dp α a kd m 3 i) ∧ σ (70 + 6 * k + 5) i = via α a kd m i
theorem cE_V {σ : St} {o e f b s x w v : Int} (h : cE σ o e f b s x w v) (hb : ¬ b = -1) (hf : 0 ≤ f) (hs : -1 ≤ s) : cD σ o e (f + b) (if s = -1 then -1 else f + s) (f + x) w ∧ σ (o + 5) e = v := by
  obtain ⟨a1, a2, a3, a4, a5⟩ := h
  refine ⟨⟨by rw [a1]; exact if_neg hb, ?_, by rw [a3, if_neg hb], a4⟩, a5⟩
  rw [a2]
  unfold far
  by_cases c : s = -1
  · rw [if_pos c, if_pos c, if_pos rfl]
  · rw [if_neg c, if_neg c, if_neg (by omega)]; omega
theorem c_begin {σ : St} {k i f : Int} (hk : 0 ≤ k ∧ k < 8) (hi : 0 ≤ i ∧ i < 40) : ∃ τ, f_X5_begin σ (70 + 6 * k) i = some (0, τ) ∧ cE τ (70 + 6 * k) i f (-1) (-1) (-1) 0 0 ∧ (∀ o', (o' ≤ 70 + 6 * k ∨ 70 + 6 * k + 5 < o') → τ o' = σ o') ∧ ∀ o' j, ¬ j = i → τ o' j = σ o' j := by
  unfold f_X5_begin
  rw [uv_40 (by omega), uv_40 (by omega), uv_40 (by omega), uv_40 (by omega), uv_40 (by omega)]
  simp (disch := omega) only [↓rdA_t, ↓wrA_t, ↓ixA_t, ↓wrF_d, ↓bd2_s, ↓bd1_s, ↓bnd_d, ↓iww_t, ↓iww_f, ↓iwl_t, ↓iwl_f, ↓ilw_t, ↓ilw_f, ↓eww_t, ↓eww_f, ↓ewl_t, ↓ewl_f, ↓ez_t, ↓ez_f, ↓il_t, ↓il_f, il_t, il_f, ez_t, ez_f, if_true, if_false, upS_h, upS_o, upS_i, Int.reduceAdd, Int.reduceSub, Int.reduceMul, Int.reduceNeg, wI_id]
  refine ⟨_, rfl, ⟨by simp (disch := omega) only [upS_h, upS_o, upS_i, Int.reduceAdd, Int.reduceSub, Int.reduceMul, Int.reduceNeg]; rfl, by simp (disch := omega) only [upS_h, upS_o, upS_i, Int.reduceAdd, Int.reduceSub, Int.reduceMul, Int.reduceNeg]; rfl, by simp (disch := omega) only [upS_h, upS_o, upS_i, Int.reduceAdd, Int.reduceSub, Int.reduceMul, Int.reduceNeg]; rfl, by simp (disch := omega) only [upS_h, upS_o, upS_i, Int.reduceAdd, Int.reduceSub, Int.reduceMul, Int.reduceNeg], by simp (disch := omega) only [upS_h, upS_o, upS_i, Int.reduceAdd, Int.reduceSub, Int.reduceMul, Int.reduceNeg]⟩, fun o' ho => by rw [upS_of (by omega), upS_of (by omega), upS_of (by omega), upS_of (by omega), upS_of (by omega)], fun o' j hj => by rw [upS_i hj, upS_i hj, upS_i hj, upS_i hj, upS_i hj]⟩
/-- what the weighing keeps -/
def cW (σ τ : St) : Prop := ∀ o, (o < 58 ∨ (62 < o ∧ o < 71) ∨ 117 < o) → τ o = σ o
theorem cW_I {σ τ α : St} (h : cW σ τ) (hI : IC σ α) : IC τ α := IC_scr (fun o ho i _ => by rw [h o (by omega)]) hI
theorem cW_t {σ τ ρ : St} (h1 : cW σ τ) (h2 : cW τ ρ) : cW σ ρ := fun o ho => (h2 o ho).trans (h1 o ho)
theorem cW_C {σ τ α : St} {a q : Int} (h : cW σ τ) (hq : 0 ≤ q ∧ q < 8) (hc : cCh σ α a q) : cCh τ α a q := by
  unfold cCh at hc ⊢
  rw [h (38 + 2 * q) (by omega), h (38 + 2 * q + 1) (by omega)]
  exact hc
theorem c_entry_g {α : St} {a kd k i : Int} {m : Nat} (kx : St → Option (Int × St)) (hw : WF α) (hf : allF α a) (h0 : 0 ≤ k) (hk : k = α 0 1 - 1 - (m + 1 : Nat)) (hi : 0 ≤ i ∧ i < nCh α a k) : ∀ (r x : Nat) (σ : St) (n : Nat), IC σ α → cCh σ α a (k + 1) → (∀ j, 0 ≤ j → j < nCh α a (k + 1) → cV σ α a kd (k + 1) m j) → (x : Int) + r = nCh α a (k + 1) → cE σ (70 + 6 * k) i (fitS α kd (uCh α a k i) k) (fd (dp α a kd m) (jnt α a k i) x 0) (fd (dp α a kd m) (jnt α a k i) x 1) (fd (dp α a kd m) (jnt α a k i) x 2) (fd (dp α a kd m) (jnt α a k i) x 3) (fv (dp α a kd m) (jnt α a k i) x) → r < n → ∃ τ, lp_X0_weighEntry_80 k i (uCh α a k i) (fitS α kd (uCh α a k i) k) (38 + 2 * (k + 1)) kx n σ x = kx τ ∧ cE τ (70 + 6 * k) i (fitS α kd (uCh α a k i) k) (fd (dp α a kd m) (jnt α a k i) (x + r) 0) (fd (dp α a kd m) (jnt α a k i) (x + r) 1) (fd (dp α a kd m) (jnt α a k i) (x + r) 2) (fd (dp α a kd m) (jnt α a k i) (x + r) 3) (fv (dp α a kd m) (jnt α a k i) (x + r)) ∧ (∀ o', (o' ≤ 70 + 6 * k ∨ 70 + 6 * k + 5 < o') → τ o' = σ o') ∧ ∀ o' j, ¬ j = i → τ o' j = σ o' j := by
  intro r
  have w2 := hw.2.1.2.1
  have w3 := hw.1.2.1
  have n1 := nCh_r hw (show 0 ≤ k + 1 by omega) (show k + 1 < α 0 1 by omega) (hf (k + 1) (by omega) (by omega))
  have n0 := nCh_r hw h0 (show k < α 0 1 by omega) (hf k h0 (by omega))
  have u := uCh_r (a := a) (k := k) (i := i) hw hi.1 hi.2
  have fr := fitS_r (a := kd) hw u.1.1 u.1.2 h0 (by omega)
  have hjr : ∀ j : Nat, j < (nCh α a (k + 1)).toNat → 0 ≤ jnt α a k i j ∧ jnt α a k i j ≤ 16 := fun j hj => by
    have v := uCh_r (a := a) (k := k + 1) (i := (j : Int)) hw (by omega) (by omega)
    exact joiS_r hw.1 u.1.1 u.1.2 v.1.1 v.1.2
  have hDr : ∀ j : Nat, j < (nCh α a (k + 1)).toNat → okE (60 * (m + 1)) (dp α a kd m 0 j) (dp α a kd m 1 j) (dp α a kd m 2 j) (dp α a kd m 3 j) := fun j hj => dp_ok hw hf m (k + 1) (by omega) (by omega) j (by omega)
  induction r with
  | zero =>
    intro x σ n h hc hv h1 hE hn
    obtain ⟨n, rfl⟩ : ∃ k, n = k + 1 := ⟨n - 1, by omega⟩
    have e1 := (hc.1 (hf (k + 1) (by omega) (by omega))).1
    rw [lp_X0_weighEntry_80]
    exact ⟨σ, by simp (disch := omega) only [↓rdA_t, ↓wrA_t, ↓ixA_t, ↓wrF_d, ↓bd2_s, ↓bd1_s, ↓bnd_d, ↓iww_t, ↓iww_f, ↓iwl_t, ↓iwl_f, ↓ilw_t, ↓ilw_f, ↓eww_t, ↓eww_f, ↓ewl_t, ↓ewl_f, ↓ez_t, ↓ez_f, ↓il_t, ↓il_f, il_t, il_f, ez_t, ez_f, if_true, if_false, upS_h, upS_o, upS_i, Int.reduceAdd, Int.reduceSub, Int.reduceMul, Int.reduceNeg, wI_id], hE, fun _ _ => rfl, fun _ _ _ => rfl⟩
  | succ r ih =>
    intro x σ n h hc hv h1 hE hn
    obtain ⟨n, rfl⟩ : ∃ k, n = k + 1 := ⟨n - 1, by omega⟩
    obtain ⟨e1, e2, e3⟩ := hc.1 (hf (k + 1) (by omega) (by omega))
    have e4 := e3 x (by omega) (by omega)
    have v := uCh_r (a := a) (k := k + 1) (i := (x : Int)) hw (by omega) (by omega)
    have e5 := c_joint h.1 hw.1 u.1.1 u.1.2 v.1.1 v.1.2
    have okf := (fd_ok hDr hjr x (by omega)).1
    have oke := hDr x (by omega)
    have oke' : okE (60 * (m + 1) + 16) (dp α a kd m 0 x) (dp α a kd m 1 x) (dp α a kd m 2 x) (dp α a kd m 3 x) := by
      obtain ⟨o1, o2, o3, o4⟩ := oke
      exact ⟨by omega, by omega, by omega, o4⟩
    have jr := hjr x (by omega)
    obtain ⟨τ, g1, g2, g3, g4⟩ := c_offer (t := jnt α a k i x) (B := 60 * (m + 1) + 16) hE (hv x (by omega) (by omega)).1 (by omega) okf oke' (by omega) (by omega) (by omega) (fun z z1 z2 => by rw [uv_40 (by omega)]; omega) (fun z z1 z2 => by rw [uv_40 (by omega)]; omega) (by omega)
    have sc : cW σ τ := fun o ho => g3 o (by omega)
    obtain ⟨ρ, f1, f2, f3, f4⟩ := ih (x + 1) τ n (cW_I sc h) (cW_C sc (by omega) hc) (fun j j1 j2 => by
      have q := hv j j1 j2
      unfold cV cD at q ⊢
      rw [g3 (70 + 6 * (k + 1) + 1) (by omega), g3 (70 + 6 * (k + 1) + 2) (by omega), g3 (70 + 6 * (k + 1) + 3) (by omega), g3 (70 + 6 * (k + 1) + 4) (by omega), g3 (70 + 6 * (k + 1) + 5) (by omega)]
      exact q) (by omega) g2 (by omega)
    rw [show x + 1 + r = x + (r + 1) by omega] at f2
    rw [show ((x + 1 : Nat) : Int) = (x : Int) + 1 by omega] at f1
    refine ⟨ρ, ?_, f2, fun o' ho => by rw [f3 o' ho, g3 o' ho], fun o' j hj => by rw [f4 o' j hj, g4 o' j hj]⟩
    rw [← f1, lp_X0_weighEntry_80]
    have ej : joiS α (uCh α a k i) (uCh α a (k + 1) x) = jnt α a k i x := rfl
    rw [ej] at e5
    simp (disch := omega) only [↓rdA_t, ↓wrA_t, ↓ixA_t, ↓wrF_d, ↓bd2_s, ↓bd1_s, ↓bnd_d, ↓iww_t, ↓iww_f, ↓iwl_t, ↓iwl_f, ↓ilw_t, ↓ilw_f, ↓eww_t, ↓eww_f, ↓ewl_t, ↓ewl_f, ↓ez_t, ↓ez_f, ↓il_t, ↓il_f, il_t, il_f, ez_t, ez_f, if_true, if_false, upS_h, upS_o, upS_i, Int.reduceAdd, Int.reduceSub, Int.reduceMul, Int.reduceNeg, wI_id, e1, e4, e5, g1]
