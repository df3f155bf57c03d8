/-! ===== a row is read ===== -/
def k1 (α : St) (p : Int) : Int := sk α (sk α p + 1)
def k2 (α : St) (p : Int) : Int := sk α (k1 α p + 1)
abbrev okL (α : St) (p : Int) : Prop := 97 ≤ chC α (sk α p) ∧ chC α (sk α p) ≤ 102
abbrev okP (α : St) (p : Int) : Prop := 48 ≤ chC α (k1 α p) ∧ chC α (k1 α p) ≤ 57
abbrev okD (α : St) (p : Int) : Prop := 49 ≤ chC α (k2 α p) ∧ chC α (k2 α p) ≤ 57
def rwU (β : St) (n s p l : Int) : St := upS (upS (upS β 7 n s) 8 n p) 9 n l
def rwS (α : St) : Nat → Int → Int → St → Int × Int × St
  | 0, n, p, β => (enS α p, n, β)
  | m + 1, n, p, β => if chC α (sk α p) = 59 ∧ 0 < n then (enS α p, n, β) else if okL α p then (if okP α p then (if okD α p then rwS α m (n + 1) (k2 α p + 1) (rwU β n (chC α (sk α p) - 97) (chC α (k1 α p) - 48) (chC α (k2 α p) - 48)) else (k2 α p, n, β)) else (k1 α p, n, β)) else (sk α p, n, β)
theorem sk_r {α : St} {p : Int} (hw : wX α) (h0 : 0 ≤ p) (h1 : p ≤ α 0 6) : (p ≤ sk α p ∧ sk α p ≤ α 0 6) ∧ (-1 ≤ chC α (sk α p) ∧ chC α (sk α p) ≤ 127) ∧ (0 ≤ chC α (sk α p) → sk α p < α 0 6) := by
  have q := sk_p hw h0 h1
  have rr := ch_p hw (show 0 ≤ sk α p by omega) q.2.1
  omega
theorem k1_r {α : St} {p : Int} (hw : wX α) (h0 : 0 ≤ p) (h1 : p ≤ α 0 6) (h2 : 0 ≤ chC α (sk α p)) : (p < k1 α p ∧ k1 α p ≤ α 0 6) ∧ (-1 ≤ chC α (k1 α p) ∧ chC α (k1 α p) ≤ 127) ∧ (0 ≤ chC α (k1 α p) → k1 α p < α 0 6) := by
  have q := sk_r hw h0 h1
  have q2 := sk_r (p := sk α p + 1) hw (by omega) (by omega)
  unfold k1
  omega
theorem k2_r {α : St} {p : Int} (hw : wX α) (h0 : 0 ≤ p) (h1 : p ≤ α 0 6) (h2 : 0 ≤ chC α (sk α p)) (h3 : 0 ≤ chC α (k1 α p)) : (k1 α p < k2 α p ∧ k2 α p ≤ α 0 6) ∧ (-1 ≤ chC α (k2 α p) ∧ chC α (k2 α p) ≤ 127) ∧ (0 ≤ chC α (k2 α p) → k2 α p < α 0 6) := by
  have q := k1_r hw h0 h1 h2
  have q2 := sk_r (p := k1 α p + 1) hw (by omega) (by omega)
  unfold k2
  omega
theorem rwS_r {α : St} (hw : wX α) : ∀ (m : Nat) (n p : Int) (β : St), 0 ≤ p → p ≤ α 0 6 → -1 ≤ (rwS α m n p β).1 ∧ (rwS α m n p β).1 ≤ 120 := by
  intro m
  have w2 := hw.2.1
  induction m with
  | zero => intro n p β h0 h1; exact enS_r hw h0 h1
  | succ m ih =>
    intro n p β h0 h1
    have q := sk_r hw h0 h1
    rw [rwS]
    by_cases c : chC α (sk α p) = 59 ∧ 0 < n
    · rw [if_pos c]; exact enS_r hw h0 h1
    · rw [if_neg c]
      by_cases c1 : okL α p
      · rw [if_pos c1]
        have r1 := k1_r hw h0 h1 (by unfold okL at c1; omega)
        by_cases c2 : okP α p
        · rw [if_pos c2]
          have r2 := k2_r hw h0 h1 (by unfold okL at c1; omega) (by unfold okP at c2; omega)
          by_cases c3 : okD α p
          · rw [if_pos c3]
            unfold okD at c3
            exact ih _ _ _ (by omega) (by omega)
          · rw [if_neg c3]
            show -1 ≤ k2 α p ∧ k2 α p ≤ 120
            omega
        · rw [if_neg c2]
          show -1 ≤ k1 α p ∧ k1 α p ≤ 120
          omega
      · rw [if_neg c1]
        show -1 ≤ sk α p ∧ sk α p ≤ 120
        omega
def wRd (n : Int) (β : St) : Prop := ∀ k, 0 ≤ k → k < n → (0 ≤ β 7 k ∧ β 7 k ≤ 5) ∧ (0 ≤ β 8 k ∧ β 8 k ≤ 9) ∧ (1 ≤ β 9 k ∧ β 9 k ≤ 9)
theorem wRd_u {n s p l : Int} {β : St} (h : wRd n β) (h1 : 0 ≤ s ∧ s ≤ 5) (h2 : 0 ≤ p ∧ p ≤ 9) (h3 : 1 ≤ l ∧ l ≤ 9) : wRd (n + 1) (rwU β n s p l) := by
  intro k k1 k2
  unfold rwU
  by_cases c : k = n
  · subst c
    simp (disch := omega) only [upS_h, upS_o, upS_i, Int.reduceAdd, Int.reduceSub, Int.reduceMul, Int.reduceNeg]
    exact ⟨h1, h2, h3⟩
  · simp (disch := omega) only [upS_h, upS_o, upS_i, Int.reduceAdd, Int.reduceSub, Int.reduceMul, Int.reduceNeg]
    exact h k k1 (by omega)
theorem rwS_w {α : St} (hw : wX α) : ∀ (m : Nat) (n p : Int) (β : St), 0 ≤ p → p ≤ α 0 6 → 0 ≤ n → n + m = 8 → wRd n β → (n ≤ (rwS α m n p β).2.1 ∧ (rwS α m n p β).2.1 ≤ 8) ∧ wRd (rwS α m n p β).2.1 (rwS α m n p β).2.2 := by
  intro m
  have w2 := hw.2.1
  induction m with
  | zero => intro n p β h0 h1 h2 h3 h4; exact ⟨⟨by show n ≤ n; omega, by show n ≤ 8; omega⟩, h4⟩
  | succ m ih =>
    intro n p β h0 h1 h2 h3 h4
    have q := sk_r hw h0 h1
    have tr : (n ≤ n ∧ n ≤ 8) ∧ wRd n β := ⟨by omega, h4⟩
    rw [rwS]
    by_cases c : chC α (sk α p) = 59 ∧ 0 < n
    · rw [if_pos c]; exact tr
    · rw [if_neg c]
      by_cases c1 : okL α p
      · rw [if_pos c1]
        have c1' := c1
        unfold okL at c1'
        have r1 := k1_r hw h0 h1 (by omega)
        by_cases c2 : okP α p
        · rw [if_pos c2]
          have c2' := c2
          unfold okP at c2'
          have r2 := k2_r hw h0 h1 (by omega) (by omega)
          by_cases c3 : okD α p
          · rw [if_pos c3]
            unfold okD at c3
            have g := ih (n + 1) (k2 α p + 1) (rwU β n (chC α (sk α p) - 97) (chC α (k1 α p) - 48) (chC α (k2 α p) - 48)) (by omega) (by omega) (by omega) (by omega) (wRd_u h4 (by omega) (by omega) (by omega))
            exact ⟨⟨by omega, g.1.2⟩, g.2⟩
          · rw [if_neg c3]; exact tr
        · rw [if_neg c2]; exact tr
      · rw [if_neg c1]; exact tr
/-! the class -/
def fR (σ τ : St) : Prop := (∀ o, (o < 21 ∨ o = 22 ∨ 26 < o) → τ o = σ o) ∧ ∀ i, ¬ i = 5 → ¬ i = 6 → τ 21 i = σ 21 i
theorem fR_t {σ τ ρ : St} (h1 : fR σ τ) (h2 : fR τ ρ) : fR σ ρ := ⟨fun o ho => (h2.1 o ho).trans (h1.1 o ho), fun i a b => (h2.2 i a b).trans (h1.2 i a b)⟩
theorem fR_X {σ τ α : St} (h : fR σ τ) (hx : cX σ α) : cX τ α := cX_c (h.2 3 (by omega) (by omega)) (h.1 22 (by omega)) rfl rfl hx
theorem fR_5 {σ : St} {x : Int} : fR σ (upS σ 21 5 x) := ⟨fun o ho => upS_of (by omega), fun i a b => upS_i a⟩
theorem fR_6 {σ : St} {x : Int} : fR σ (upS σ 21 6 x) := ⟨fun o ho => upS_of (by omega), fun i a b => upS_i b⟩
def dR (σ : St) (n : Int) (β : St) : Prop := σ 23 3 = n ∧ ∀ k, 0 ≤ k → k < n → σ 24 k = β 7 k ∧ σ 25 k = β 8 k ∧ σ 26 k = β 9 k
theorem dR_c {σ τ β : St} {n : Int} (h : ∀ o, 23 ≤ o → o ≤ 26 → τ o = σ o) (hd : dR σ n β) : dR τ n β := by
  unfold dR at *
  rw [h 23 (by omega) (by omega), h 24 (by omega) (by omega), h 25 (by omega) (by omega), h 26 (by omega) (by omega)]
  exact hd
theorem c_radd {σ β : St} {n s p l : Int} (h : dR σ n β) (h0 : 0 ≤ n) (h1 : n < 8) : ∃ τ, f_X4_add σ 23 s p l = some (0, τ) ∧ dR τ (n + 1) (rwU β n s p l) ∧ (∀ o, (o < 23 ∨ 26 < o) → τ o = σ o) := by
  have hs := h.1
  unfold f_X4_add
  rw [iwl_f (by omega), iwl_t (by omega)]
  simp (disch := omega) only [↓rdA_t, ↓wrA_t, ↓ixA_t, ↓wrF_d, ↓bd2_s, ↓bd1_s, ↓bnd_d, ↓iww_t, ↓iww_f, ↓iwl_t, ↓iwl_f, ↓ilw_t, ↓ilw_f, ↓eww_t, ↓eww_f, ↓ewl_t, ↓ewl_f, ↓ez_t, ↓ez_f, ↓il_t, ↓il_f, il_t, il_f, ez_t, ez_f, if_true, if_false, upS_h, upS_o, upS_i, Int.reduceAdd, Int.reduceSub, Int.reduceMul, Int.reduceNeg, wI_id, hs]
  refine ⟨_, rfl, ⟨?_, fun k a b => ?_⟩, fun o ho => ?_⟩
  · simp (disch := omega) only [upS_h, upS_o, upS_i, Int.reduceAdd, Int.reduceSub, Int.reduceMul, Int.reduceNeg, hs]
  · have g := h.2 k a
    unfold rwU
    by_cases c : k = n
    · subst c
      simp (disch := omega) only [upS_h, upS_o, upS_i, Int.reduceAdd, Int.reduceSub, Int.reduceMul, Int.reduceNeg]
      exact ⟨trivial, trivial, trivial⟩
    · have g := g (by omega)
      simp (disch := omega) only [upS_h, upS_o, upS_i, Int.reduceAdd, Int.reduceSub, Int.reduceMul, Int.reduceNeg]
      exact g
  · rw [upS_of (by omega), upS_of (by omega), upS_of (by omega), upS_of (by omega)]
theorem c_tget {σ α β : St} {p n s : Int} (h : cX σ α) (hw : wX α) (hp : σ 21 5 = sk α p) (hf : σ 21 6 = -1) (h0 : 0 ≤ p) (h1 : p ≤ α 0 6) (hl : okL α p) (hd : dR σ n β) (n0 : 0 ≤ n) (n1 : n < 8) : ∃ τ, f_X6_readTarget σ s = some (0, τ) ∧ fR σ τ ∧ ((¬ okP α p ∧ τ 21 6 = k1 α p) ∨ (okP α p ∧ ¬ okD α p ∧ τ 21 6 = k2 α p) ∨ (okP α p ∧ okD α p ∧ τ 21 5 = k2 α p + 1 ∧ τ 21 6 = -1 ∧ dR τ (n + 1) (rwU β n s (chC α (k1 α p) - 48) (chC α (k2 α p) - 48)))) := by
  unfold okL at hl
  have w2 := hw.2.1
  have q := sk_r hw h0 h1
  have r1 := k1_r hw h0 h1 (by omega)
  unfold f_X6_readTarget
  rw [wrF_d, hp]
  have hx : cX (upS σ 21 5 (sk α p + 1)) α := fR_X fR_5 h
  by_cases c2 : okP α p
  · have c2' := c2
    unfold okP at c2'
    have r2 := k2_r hw h0 h1 (by omega) (by omega)
    have e := c_fig_t (a := 0) (b := 9) hx hw (upS_h ⟨rfl, rfl⟩) (by omega) (by omega) (by omega) (show 0 ≤ chC α (k1 α p) - 48 ∧ chC α (k1 α p) - 48 ≤ 9 by omega)
    rw [upS_u] at e
    have hx2 : cX (upS σ 21 5 (k1 α p + 1)) α := fR_X fR_5 h
    rw [e, bd2_s]
    rw [ewl_t (by rw [upS_i (by omega)]; omega)]
    by_cases c3 : okD α p
    · have c3' := c3
      unfold okD at c3'
      have e2 := c_fig_t (a := 1) (b := 9) hx2 hw (upS_h ⟨rfl, rfl⟩) (by omega) (by omega) (by omega) (show 1 ≤ chC α (k2 α p) - 48 ∧ chC α (k2 α p) - 48 ≤ 9 by omega)
      rw [upS_u] at e2
      have e1 : sk α (sk α p + 1) = k1 α p := rfl
      have e3 : sk α (k1 α p + 1) = k2 α p := rfl
      rw [e1, e2, bd2_s, ewl_t (by rw [upS_i (by omega)]; omega), e3]
      obtain ⟨τ, g1, g2, g3⟩ := c_radd (s := s) (p := chC α (k1 α p) - 48) (l := chC α (k2 α p) - 48) (dR_c (τ := upS σ 21 5 (k2 α p + 1)) (fun o a b => upS_of (by omega)) hd) n0 n1
      rw [g1, bd2_s]
      refine ⟨τ, rfl, ⟨fun o ho => by rw [g3 o (by omega), upS_of (by omega)], fun i a b => by rw [g3 21 (by omega), upS_i a]⟩, Or.inr (Or.inr ⟨c2, c3, by rw [g3 21 (by omega), upS_h ⟨rfl, rfl⟩], by rw [g3 21 (by omega), upS_i (by omega), hf], g2⟩)⟩
    · have c3' := c3
      unfold okD at c3'
      have e2 := c_fig_f (a := 1) (b := 9) hx2 hw (upS_h ⟨rfl, rfl⟩) (by omega) (by omega) (by omega) (show ¬ (1 ≤ chC α (k2 α p) - 48 ∧ chC α (k2 α p) - 48 ≤ 9) by omega)
      rw [upS_u] at e2
      have e1 : sk α (sk α p + 1) = k1 α p := rfl
      have e3 : sk α (k1 α p + 1) = k2 α p := rfl
      rw [e1, e2, bd2_s, e3, ewl_f (by rw [upS_h ⟨rfl, rfl⟩]; omega)]
      exact ⟨_, rfl, fR_t fR_5 fR_6, Or.inr (Or.inl ⟨c2, c3, upS_h ⟨rfl, rfl⟩⟩)⟩
  · have c2' := c2
    unfold okP at c2'
    have e := c_fig_f (a := 0) (b := 9) hx hw (upS_h ⟨rfl, rfl⟩) (by omega) (by omega) (by omega) (show ¬ (0 ≤ chC α (k1 α p) - 48 ∧ chC α (k1 α p) - 48 ≤ 9) by omega)
    rw [upS_u] at e
    have e1 : sk α (sk α p + 1) = k1 α p := rfl
    rw [e, bd2_s, e1, ewl_f (by rw [upS_h ⟨rfl, rfl⟩]; omega)]
    exact ⟨_, rfl, fR_t fR_5 fR_6, Or.inl ⟨c2, upS_h ⟨rfl, rfl⟩⟩⟩
theorem c_rstop {σ : St} {x q : Int} (kx : St → Option (Int × St)) (n : Nat) (hq : σ 21 6 = q) (h0 : 0 ≤ q ∧ q ≤ 200) (hx : 0 ≤ x ∧ x ≤ 8) : lp_X6_readRow_12 kx (n + 1) σ x = kx σ := by
  rw [lp_X6_readRow_12]
  by_cases c : x < 8
  · rw [iwl_t (by omega), ewl_f (by omega)]
  · rw [iwl_f (by omega)]
theorem c_row {α : St} (hw : wX α) : ∀ (m : Nat) (n p : Int) (σ β : St) (N : Nat), cX σ α → σ 21 5 = p → σ 21 6 = -1 → 0 ≤ p → p ≤ α 0 6 → 0 ≤ n → n + m = 8 → dR σ n β → m + 1 < N → ∃ τ τ', lp_X6_readRow_12 (fun σ17 => some (0, σ17)) N σ n = some (0, τ) ∧ jn_X6_read_76 τ = some ((rwS α m n p β).1, τ') ∧ fR σ τ' ∧ ((rwS α m n p β).1 = -1 → dR τ' (rwS α m n p β).2.1 (rwS α m n p β).2.2) := by
  intro m
  have w2 := hw.2.1
  induction m with
  | zero =>
    intro n p σ β N h hp hf h0 h1 h2 h3 hd hN
    obtain ⟨N, rfl⟩ : ∃ k, N = k + 1 := ⟨N - 1, by omega⟩
    obtain ⟨τ, g1, g2, g3⟩ := c_end h hw hp hf h0 h1
    refine ⟨σ, τ, ?_, g1, ⟨fun o ho => g2 o (by omega), g3⟩, fun _ => dR_c (fun o a b => g2 o (by omega)) hd⟩
    rw [lp_X6_readRow_12, iwl_f (by omega)]
  | succ m ih =>
    intro n p σ β N h hp hf h0 h1 h2 h3 hd hN
    obtain ⟨N, rfl⟩ : ∃ k, N = k + 1 := ⟨N - 1, by omega⟩
    have q := sk_r hw h0 h1
    have hx : cX (upS σ 21 5 (sk α p)) α := fR_X fR_5 h
    rw [lp_X6_readRow_12, rwS, iwl_t (by omega), ewl_t (by omega), c_look h hw hp h0 h1, bd2_s]
    by_cases c : chC α (sk α p) = 59 ∧ 0 < n
    · rw [if_pos c, ewl_t (by omega), ilw_t (by omega)]
      obtain ⟨τ, g1, g2, g3⟩ := c_end hx hw (upS_h ⟨rfl, rfl⟩) (by rw [upS_i (by omega)]; exact hf) (by omega) q.1.2
      rw [enS_s hw h0 h1] at g1
      exact ⟨_, τ, rfl, g1, fR_t fR_5 ⟨fun o ho => g2 o (by omega), g3⟩, fun _ => dR_c (fun o a b => by rw [g2 o (by omega), upS_of (by omega)]) hd⟩
    · rw [if_neg c]
      have ej : (if wI (chC α (sk α p)) = 59 then if 0 < wI n then some (0, upS σ 21 5 (sk α p)) else jn_X6_readRow_42 (lp_X6_readRow_12 (fun σ17 => some (0, σ17)) N) (upS σ 21 5 (sk α p)) n (chC α (sk α p)) else jn_X6_readRow_42 (lp_X6_readRow_12 (fun σ17 => some (0, σ17)) N) (upS σ 21 5 (sk α p)) n (chC α (sk α p))) = jn_X6_readRow_42 (lp_X6_readRow_12 (fun σ17 => some (0, σ17)) N) (upS σ 21 5 (sk α p)) n (chC α (sk α p)) := by
        by_cases c0 : chC α (sk α p) = 59
        · rw [ewl_t (by omega), ilw_f (by omega)]
        · rw [ewl_f (by omega)]
      rw [ej]
      unfold jn_X6_readRow_42
      obtain ⟨N, rfl⟩ : ∃ k, N = k + 1 := ⟨N - 1, by omega⟩
      by_cases c1 : okL α p
      · have c1' := c1
        unfold okL at c1'
        have r1 := k1_r hw h0 h1 (by omega)
        rw [if_pos c1, within_t (by omega), if_neg (by omega)]
        obtain ⟨τ, g1, g2, g3⟩ := c_tget (s := chC α (sk α p) - 97) hx hw (upS_h ⟨rfl, rfl⟩) (by rw [upS_i (by omega)]; exact hf) h0 h1 c1 (dR_c (τ := upS σ 21 5 (sk α p)) (fun o a b => upS_of (by omega)) hd) h2 (by omega)
        rw [g1, bd2_s]
        rcases g3 with ⟨t1, t2⟩ | ⟨t1, t2, t3⟩ | ⟨t1, t2, t3, t4, t5⟩
        · rw [if_neg t1]
          exact ⟨τ, τ, c_rstop _ N t2 (by omega) (by omega), c_endf t2 (by omega), fR_t fR_5 g2, fun z => absurd z (by show ¬ k1 α p = -1; omega)⟩
        · have t1' := t1
          unfold okP at t1'
          have r2 := k2_r hw h0 h1 (by omega) (by omega)
          rw [if_pos t1, if_neg t2]
          exact ⟨τ, τ, c_rstop _ N t3 (by omega) (by omega), c_endf t3 (by omega), fR_t fR_5 g2, fun z => absurd z (by show ¬ k2 α p = -1; omega)⟩
        · have t1' := t1
          unfold okP at t1'
          have t2' := t2
          unfold okD at t2'
          have r2 := k2_r hw h0 h1 (by omega) (by omega)
          rw [if_pos t1, if_pos t2]
          obtain ⟨ρ, ρ', f1, f2, f3, f4⟩ := ih (n + 1) (k2 α p + 1) τ (rwU β n (chC α (sk α p) - 97) (chC α (k1 α p) - 48) (chC α (k2 α p) - 48)) (N + 1) (fR_X g2 hx) t3 t4 (by omega) (by omega) (by omega) (by omega) t5 (by omega)
          exact ⟨ρ, ρ', f1, f2, fR_t (fR_t fR_5 g2) f3, f4⟩
      · have c1' := c1
        unfold okL at c1'
        rw [if_neg c1, within_f (by omega), if_pos rfl]
        unfold f_X6_fail
        rw [wrF_d, bd2_s, upS_h ⟨rfl, rfl⟩]
        refine ⟨_, _, c_rstop _ N (upS_h ⟨rfl, rfl⟩) (by omega) (by omega), c_endf (upS_h ⟨rfl, rfl⟩) (by omega), fR_t fR_5 fR_6, fun z => absurd z (by show ¬ sk α p = -1; omega)⟩
