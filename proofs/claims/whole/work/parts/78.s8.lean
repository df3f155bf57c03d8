/-! ===== reads: what is asked ===== -/
def tB0 (α : St) : St := upS (upS (upS α 0 7 0) 0 8 0) 0 9 0
def rdP (α : St) : Int := sk α 0 + 3 + wdW α
def rdW (α : St) : Int × Int × St := rwS α 8 0 (rdP α) α
def rdT (α : St) : Int × Int × St := ndS α 9 (-1) 0 (rdP α) (tB0 α)
def rdF (α : St) : Int := if wdF α = -1 then (if wdW α = 0 then (rdW α).1 else (if (rdT α).1 = -1 then enS α (rdT α).2.1 else (rdT α).1)) else wdF α
def rRe (α : St) : Int := if rdF α = -1 then (if wdW α = 0 then (rdW α).2.1 else (rdT α).2.2 0 8) else -10 - rdF α
def aRe (α : St) : St := if rdF α = -1 then (if wdW α = 0 then upS (rdW α).2.2 0 1 (rdW α).2.1 else (rdT α).2.2) else α
theorem wdW_r {α : St} : (wdW α = 1 ∧ chC α (sk α 0) = 116) ∨ (wdW α = 0 ∧ ¬ chC α (sk α 0) = 116) := by
  unfold wdW
  by_cases c : chC α (sk α 0) = 116
  · left; rw [if_pos c]; exact ⟨rfl, c⟩
  · right; rw [if_neg c]; exact ⟨rfl, c⟩
theorem sLen_w {α : St} : sLen (wdW α) = 3 + wdW α := by
  unfold sLen
  have := wdW_r (α := α)
  by_cases c : wdW α = 0
  · rw [if_pos c]; omega
  · rw [if_neg c]; omega
theorem rwS_f {α : St} : ∀ (m : Nat) (n p : Int) (β : St) (o : Int), ¬ o = 7 → ¬ o = 8 → ¬ o = 9 → (rwS α m n p β).2.2 o = β o := by
  intro m
  induction m with
  | zero => intro n p β o h7 h8 h9; rfl
  | succ m ih =>
    intro n p β o h7 h8 h9
    rw [rwS]
    by_cases c : chC α (sk α p) = 59 ∧ 0 < n
    · rw [if_pos c]
    · rw [if_neg c]
      by_cases c1 : okL α p
      · rw [if_pos c1]
        by_cases c2 : okP α p
        · rw [if_pos c2]
          by_cases c3 : okD α p
          · rw [if_pos c3, ih _ _ _ o h7 h8 h9]
            unfold rwU
            rw [upS_of h9, upS_of h8, upS_of h7]
          · rw [if_neg c3]
        · rw [if_neg c2]
      · rw [if_neg c1]
theorem tB0_p {α : St} : (tB0 α 0 7 = 0 ∧ tB0 α 0 8 = 0 ∧ tB0 α 0 9 = 0) ∧ (∀ o, ¬ o = 0 → tB0 α o = α o) ∧ ∀ i, (i < 7 ∨ 9 < i) → tB0 α 0 i = α 0 i := by
  unfold tB0
  refine ⟨⟨?_, ?_, ?_⟩, fun o ho => ?_, fun i hi => ?_⟩
  · simp (disch := omega) only [upS_h, upS_o, upS_i, Int.reduceAdd, Int.reduceSub, Int.reduceMul, Int.reduceNeg]
  · simp (disch := omega) only [upS_h, upS_o, upS_i, Int.reduceAdd, Int.reduceSub, Int.reduceMul, Int.reduceNeg]
  · simp (disch := omega) only [upS_h, upS_o, upS_i, Int.reduceAdd, Int.reduceSub, Int.reduceMul, Int.reduceNeg]
  · rw [upS_of ho, upS_of ho, upS_of ho]
  · rw [upS_i (by omega), upS_i (by omega), upS_i (by omega)]
theorem rdT_p {α : St} (hw : wX α) (hp : 0 ≤ rdP α ∧ rdP α ≤ α 0 6) : ndP α (-1) 0 (rdP α) (tB0 α) (rdT α) := by
  have t := (tB0_p (α := α)).1
  exact nd_p hw 9 (-1) 0 (rdP α) (tB0 α) (by omega) (by omega) (by omega) hp.1 hp.2 (by omega)
/-! the class -/
def fC (σ τ : St) : Prop := (∀ o, (o < 21 ∨ o = 22 ∨ 33 < o) → τ o = σ o) ∧ τ 21 3 = σ 21 3
theorem fC_t {σ τ ρ : St} (h1 : fC σ τ) (h2 : fC τ ρ) : fC σ ρ := ⟨fun o ho => (h2.1 o ho).trans (h1.1 o ho), h2.2.trans h1.2⟩
theorem fC_R {σ τ : St} (h : fR σ τ) : fC σ τ := ⟨fun o ho => h.1 o (by omega), h.2 3 (by omega) (by omega)⟩
theorem fC_T {σ τ : St} (h : fT σ τ) : fC σ τ := ⟨fun o ho => h.1 o (by omega), h.2 3 (by omega) (by omega)⟩
theorem c_read {σ α : St} (h : cX σ α) (hw : wX α) : ∃ τ, f_X6_read σ = some (rdF α, τ) ∧ fC σ τ ∧ (rdF α = -1 → 0 ≤ rdP α ∧ rdP α ≤ α 0 6 ∧ ((wdW α = 0 ∧ τ 21 4 = 1 ∧ dR τ (rdW α).2.1 (rdW α).2.2) ∨ (wdW α = 1 ∧ τ 21 4 = 0 ∧ (rdT α).1 = -1 ∧ cN τ (rdT α).2.2 ∧ dTr τ (rdT α).2.2 0 ((rdT α).2.2 0 7)))) ∧ -1 ≤ rdF α ∧ rdF α ≤ 120 := by
  have w1 := hw.1
  have w2 := hw.2.1
  have q := sk_r (p := 0) hw (by omega) w1
  have wr := wdW_r (α := α)
  have sl := sLen_w (α := α)
  obtain ⟨ξ, hξ⟩ : ∃ x, x = upS (upS (upS (upS (upS (upS σ 21 5 0) 21 6 (-1)) 23 3 0) 27 6 0) 27 7 0) 27 8 0 := ⟨_, rfl⟩
  have x3 : ξ 21 3 = σ 21 3 := by rw [hξ]; simp (disch := omega) only [upS_h, upS_o, upS_i, Int.reduceAdd, Int.reduceSub, Int.reduceMul, Int.reduceNeg]
  have x5 : ξ 21 5 = 0 := by rw [hξ]; simp (disch := omega) only [upS_h, upS_o, upS_i, Int.reduceAdd, Int.reduceSub, Int.reduceMul, Int.reduceNeg]
  have x6 : ξ 21 6 = -1 := by rw [hξ]; simp (disch := omega) only [upS_h, upS_o, upS_i, Int.reduceAdd, Int.reduceSub, Int.reduceMul, Int.reduceNeg]
  have y3 : ξ 23 3 = 0 := by rw [hξ]; simp (disch := omega) only [upS_h, upS_o, upS_i, Int.reduceAdd, Int.reduceSub, Int.reduceMul, Int.reduceNeg]
  have z6 : ξ 27 6 = 0 := by rw [hξ]; simp (disch := omega) only [upS_h, upS_o, upS_i, Int.reduceAdd, Int.reduceSub, Int.reduceMul, Int.reduceNeg]
  have z7 : ξ 27 7 = 0 := by rw [hξ]; simp (disch := omega) only [upS_h, upS_o, upS_i, Int.reduceAdd, Int.reduceSub, Int.reduceMul, Int.reduceNeg]
  have z8 : ξ 27 8 = 0 := by rw [hξ]; simp (disch := omega) only [upS_h, upS_o, upS_i, Int.reduceAdd, Int.reduceSub, Int.reduceMul, Int.reduceNeg]
  have xo : ∀ o, (o < 21 ∨ o = 22 ∨ 33 < o) → ξ o = σ o := fun o ho => by rw [hξ, upS_of (by omega), upS_of (by omega), upS_of (by omega), upS_of (by omega), upS_of (by omega), upS_of (by omega)]
  have hx : cX ξ α := cX_c x3 (xo 22 (by omega)) rfl rfl h
  obtain ⟨c, hc⟩ : ∃ c, c = chC α (sk α 0) := ⟨_, rfl⟩
  obtain ⟨b, hb⟩ : ∃ b : Int, b = if c = 114 then 1 else 0 := ⟨_, rfl⟩
  obtain ⟨ρ, hρ⟩ : ∃ x, x = upS (upS ξ 21 5 (sk α 0)) 21 4 b := ⟨_, rfl⟩
  have r3 : ρ 21 3 = ξ 21 3 := by rw [hρ]; simp (disch := omega) only [upS_h, upS_o, upS_i, Int.reduceAdd, Int.reduceSub, Int.reduceMul, Int.reduceNeg]
  have r4 : ρ 21 4 = b := by rw [hρ]; simp (disch := omega) only [upS_h, upS_o, upS_i, Int.reduceAdd, Int.reduceSub, Int.reduceMul, Int.reduceNeg]
  have r5 : ρ 21 5 = sk α 0 := by rw [hρ]; simp (disch := omega) only [upS_h, upS_o, upS_i, Int.reduceAdd, Int.reduceSub, Int.reduceMul, Int.reduceNeg]
  have r6 : ρ 21 6 = -1 := by rw [hρ]; simp (disch := omega) only [upS_h, upS_o, upS_i, Int.reduceAdd, Int.reduceSub, Int.reduceMul, Int.reduceNeg, x6]
  have ro : ∀ o, ¬ o = 21 → ρ o = ξ o := fun o ho => by rw [hρ, upS_of ho, upS_of ho]
  have hr : cX ρ α := cX_c r3 (ro 22 (by omega)) rfl rfl hx
  have F0 : fC σ ρ := ⟨fun o ho => by rw [ro o (by omega), xo o ho], by rw [r3, x3]⟩
  have e : f_X6_read σ = (if c = 114 then bd2 (f_X6_readRow ρ) fun v11 σ12 => jn_X6_read_76 σ12 else if c = 116 then bd2 (f_X6_readTree ρ) fun v17 σ18 => jn_X6_read_76 σ18 else bd2 (f_X6_fail ρ) fun v19 σ20 => jn_X6_read_76 σ20) := by
    unfold f_X6_read f_X7_removeAll
    rw [wrF_d, wrF_d, wrF_d, wrF_d, wrF_d, wrF_d, bd2_s, ← hξ, c_look hx hw x5 (by omega) w1, bd2_s, wrF_d, ← hc, wI_id (x := c) (by omega) (by omega), ← hb, ← hρ]
  rw [e]
  unfold rdF
  by_cases c1 : c = 114
  · have ew : wdW α = 0 := by omega
    rw [if_pos c1] at hb ⊢
    unfold f_X6_readRow f_X6_readWord
    have g := c_word (w := 0) (p := sk α 0) (fun σ12 => some (1, σ12)) hw q.1.1 3 0 ρ 1000 hr (by omega) (by omega) rfl (by omega) (by omega)
    have e1 : sLen 0 = 3 := rfl
    have e2 : wdG α 0 (sk α 0) 3 0 = wdF α := by unfold wdF; rw [ew]; rfl
    rw [e1, e2] at g
    rw [r5]
    rcases g with ⟨g1, g2, g3⟩ | ⟨g1, g2⟩
    · rw [g3, bd2_s, if_neg (by omega), if_pos g1, if_pos ew]
      have ep : rdP α = sk α 0 + 3 := by unfold rdP; omega
      obtain ⟨τ, τ', k1, k2, k3, k4⟩ := c_row hw 8 0 (sk α 0 + 3) (upS ρ 21 5 (sk α 0 + 3)) α 1000 (fR_X fR_5 hr) (upS_h ⟨rfl, rfl⟩) (by rw [upS_i (by omega)]; exact r6) (by omega) (by omega) (by omega) (by omega) ⟨by rw [upS_o (by omega), ro 23 (by omega)]; exact y3, fun k a b => by omega⟩ (by omega)
      have kr := rwS_r hw 8 0 (sk α 0 + 3) α (by omega) (by omega)
      rw [k1, bd2_s, k2]
      refine ⟨τ', by unfold rdW; rw [ep], fC_t F0 (fC_R (fR_t fR_5 k3)), fun z => ⟨by omega, by omega, Or.inl ⟨ew, ?_, ?_⟩⟩, ?_⟩
      · rw [k3.2 4 (by omega) (by omega), upS_i (by omega), r4, hb]
      · unfold rdW at z ⊢
        rw [ep] at z ⊢
        exact k4 z
      · unfold rdW
        rw [ep]
        exact kr
    · rw [g2, bd2_s, if_pos rfl, bd2_s, c_endf (upS_h ⟨rfl, rfl⟩) (by omega), if_neg (show ¬ wdF α = -1 by omega)]
      exact ⟨_, rfl, fC_t F0 (fC_R (fR_t fR_5 fR_6)), fun z => by omega, by omega⟩
  · rw [if_neg c1] at hb ⊢
    by_cases c2 : c = 116
    · have ew : wdW α = 1 := by omega
      rw [if_pos c2]
      unfold f_X6_readTree f_X6_readWord
      have g := c_word (w := 1) (p := sk α 0) (fun σ12 => some (1, σ12)) hw q.1.1 4 0 ρ 1000 hr (by omega) (by omega) rfl (by omega) (by omega)
      have e1 : sLen 1 = 4 := rfl
      have e2 : wdG α 1 (sk α 0) 4 0 = wdF α := by unfold wdF; rw [ew]; rfl
      rw [e1, e2] at g
      rw [r5]
      rcases g with ⟨g1, g2, g3⟩ | ⟨g1, g2⟩
      · rw [g3, bd2_s, if_neg (by omega), if_pos g1, if_neg (show ¬ wdW α = 0 by omega)]
        have ep : rdP α = sk α 0 + 4 := by unfold rdP; omega
        have t0 := (tB0_p (α := α)).1
        have P := rdT_p hw (show 0 ≤ rdP α ∧ rdP α ≤ α 0 6 by omega)
        obtain ⟨v, τ, k1, k2, k3⟩ := c_node hw 9 (-1) 0 (sk α 0 + 4) (upS ρ 21 5 (sk α 0 + 4)) (tB0 α) (fT_X fT_5 hr) (upS_h ⟨rfl, rfl⟩) (by rw [upS_i (by omega)]; exact r6) (by omega) (by omega) (by omega) (by omega) (by omega) (by omega) (by omega) ⟨by rw [upS_o (by omega), ro 27 (by omega), z6, t0.1], by rw [upS_o (by omega), ro 27 (by omega), z7, t0.2.1], by rw [upS_o (by omega), ro 27 (by omega), z8, t0.2.2]⟩
        have eT : ndS α 9 (-1) 0 (sk α 0 + 4) (tB0 α) = rdT α := by unfold rdT; rw [ep]
        rw [eT] at k3
        rw [k1, bd2_s, bd2_s]
        have F1 : fC σ τ := fC_t F0 (fC_T (fT_t fT_5 k2))
        have f4 : τ 21 4 = 0 := by rw [k2.2 4 (by omega) (by omega), upS_i (by omega), r4, hb]
        rcases k3 with ⟨d1, d2, d3, d4, d5, d6, d7⟩ | ⟨d1, d2⟩
        · obtain ⟨a1, a2, a3, a4, a5, a6, a7, a8, a9, a10⟩ := P.2 d1
          rw [if_pos d1]
          obtain ⟨τ', n1, n2, n3⟩ := c_end (fT_X (fT_t fT_5 k2) hr) hw d3 d4 (by omega) (by omega)
          rw [n1]
          have er := enS_r (p := (rdT α).2.1) hw (by omega) (by omega)
          refine ⟨τ', rfl, fC_t F1 ⟨fun o ho => n2 o (by omega), n3 3 (by omega) (by omega)⟩, fun z => ⟨by omega, by omega, Or.inr ⟨ew, ?_, d1, ⟨?_, ?_, ?_⟩, ?_⟩⟩, er⟩
          · rw [n3 4 (by omega) (by omega), f4]
          · rw [n2 27 (by omega)]; exact d5.1
          · rw [n2 27 (by omega)]; exact d5.2.1
          · rw [n2 27 (by omega)]; exact d5.2.2
          · rw [t0.1] at d6
            exact dTr_c d6 (fun o i o1 o2 i1 i2 => by rw [n2 o (by omega)]) (fun _ _ _ _ _ _ => rfl)
        · have := P.1 d1
          rw [if_neg d1, c_endf d2 (by omega)]
          exact ⟨_, rfl, F1, fun z => absurd z d1, by omega⟩
      · rw [g2, bd2_s, if_pos rfl, bd2_s, c_endf (upS_h ⟨rfl, rfl⟩) (by omega), if_neg (show ¬ wdF α = -1 by omega)]
        exact ⟨_, rfl, fC_t F0 (fC_R (fR_t fR_5 fR_6)), fun z => by omega, by omega⟩
    · have ef := wdF_n hw (by omega) (by omega)
      unfold f_X6_fail
      rw [if_neg c2, wrF_d, bd2_s, r5, c_endf (upS_h ⟨rfl, rfl⟩) (by omega), ef.1, if_neg (show ¬ sk α 0 = -1 by omega)]
      exact ⟨_, rfl, fC_t F0 (fC_R fR_6), fun z => by omega, by omega⟩
/-! what was read becomes the row, the tree -/
theorem c_beR {β : St} {n : Int} (kx : St → Option (Int × St)) (hn : 0 ≤ n ∧ n ≤ 8) : ∀ (r : Nat) (x : Int) (σ : St) (N : Nat), dR σ n β → 0 ≤ x → x + r = n → σ 10 3 = x → (∀ k, 0 ≤ k → k < x → σ 11 k = β 7 k ∧ σ 12 k = β 8 k ∧ σ 13 k = β 9 k) → r < N → ∃ τ, lp_X4_become_7 10 23 kx N σ x = kx τ ∧ τ 10 3 = n ∧ (∀ k, 0 ≤ k → k < n → τ 11 k = β 7 k ∧ τ 12 k = β 8 k ∧ τ 13 k = β 9 k) ∧ ∀ o, (o < 10 ∨ 13 < o) → τ o = σ o := by
  intro r
  induction r with
  | zero =>
    intro x σ N hd h0 h1 hs hk hN
    obtain ⟨N, rfl⟩ : ∃ k, N = k + 1 := ⟨N - 1, by omega⟩
    have e := hd.1
    refine ⟨σ, ?_, by omega, fun k a b => hk k a (by omega), fun _ _ => rfl⟩
    rw [lp_X4_become_7]
    by_cases c : x < 8
    · rw [iwl_t (by omega), iww_f (by omega)]
    · rw [iwl_f (by omega)]
  | succ r ih =>
    intro x σ N hd h0 h1 hs hk hN
    obtain ⟨N, rfl⟩ : ∃ k, N = k + 1 := ⟨N - 1, by omega⟩
    have e := hd.1
    obtain ⟨v1, v2, v3⟩ := hd.2 x h0 (by omega)
    obtain ⟨ρ, hρ⟩ : ∃ y, y = upS (upS (upS (upS σ 11 x (β 7 x)) 12 x (β 8 x)) 13 x (β 9 x)) 10 3 (x + 1) := ⟨_, rfl⟩
    have ro : ∀ o, (o < 10 ∨ 13 < o) → ρ o = σ o := fun o ho => by rw [hρ, upS_of (by omega), upS_of (by omega), upS_of (by omega), upS_of (by omega)]
    obtain ⟨τ, g1, g2, g3, g4⟩ := ih (x + 1) ρ N (dR_c (fun o a b => ro o (by omega)) hd) (by omega) (by omega) (by rw [hρ, upS_h ⟨rfl, rfl⟩]) (fun k a b => by
      rw [hρ]
      by_cases c : k = x
      · subst c
        simp (disch := omega) only [upS_h, upS_o, upS_i, Int.reduceAdd, Int.reduceSub, Int.reduceMul, Int.reduceNeg]
        exact ⟨trivial, trivial, trivial⟩
      · have := hk k a (by omega)
        simp (disch := omega) only [upS_h, upS_o, upS_i, Int.reduceAdd, Int.reduceSub, Int.reduceMul, Int.reduceNeg]
        exact this) (by omega)
    refine ⟨τ, ?_, g2, g3, fun o ho => by rw [g4 o ho, ro o ho]⟩
    rw [← g1, lp_X4_become_7, iwl_t (by omega), iww_t (by omega)]
    unfold f_X4_add
    simp (disch := omega) only [↓rdA_t, ↓wrA_t, ↓ixA_t, ↓wrF_d, ↓bd2_s, ↓bd1_s, ↓bnd_d, ↓iww_t, ↓iww_f, ↓iwl_t, ↓iwl_f, ↓ilw_t, ↓ilw_f, ↓eww_t, ↓eww_f, ↓ewl_t, ↓ewl_f, ↓ez_t, ↓ez_f, ↓il_t, ↓il_f, il_t, il_f, ez_t, ez_f, if_true, if_false, upS_h, upS_o, upS_i, Int.reduceAdd, Int.reduceSub, Int.reduceMul, Int.reduceNeg, wI_id, v1, v2, v3, hs]
    rw [hρ]
theorem c_beT {σ0 : St} {n : Int} (kx : St → Option (Int × St)) (hn : 0 ≤ n ∧ n ≤ 120) : ∀ (r : Nat) (x : Int) (σ : St) (N : Nat), σ 14 6 = n → (∀ o, 27 ≤ o → σ o = σ0 o) → 0 ≤ x → x + r = n → (∀ j k, 1 ≤ j → j ≤ 6 → 0 ≤ k → k < x → σ (14 + j) k = σ0 (27 + j) k) → r < N → ∃ τ, lp_X7_become_26 14 27 kx N σ x = kx τ ∧ (∀ j k, 1 ≤ j → j ≤ 6 → 0 ≤ k → k < n → τ (14 + j) k = σ0 (27 + j) k) ∧ ∀ o, (o < 15 ∨ 20 < o) → τ o = σ o := by
  intro r
  induction r with
  | zero =>
    intro x σ N hs hd h0 h1 hk hN
    obtain ⟨N, rfl⟩ : ∃ k, N = k + 1 := ⟨N - 1, by omega⟩
    refine ⟨σ, ?_, fun j k a b c d => hk j k a b c (by omega), fun _ _ => rfl⟩
    rw [lp_X7_become_26]
    by_cases c : x < 120
    · rw [iwl_t (by omega), iww_f (by omega)]
    · rw [iwl_f (by omega)]
  | succ r ih =>
    intro x σ N hs hd h0 h1 hk hN
    obtain ⟨N, rfl⟩ : ∃ k, N = k + 1 := ⟨N - 1, by omega⟩
    obtain ⟨ρ, hρ⟩ : ∃ y, y = upS (upS (upS (upS (upS (upS σ 15 x (σ0 28 x)) 16 x (σ0 29 x)) 17 x (σ0 30 x)) 18 x (σ0 31 x)) 19 x (σ0 32 x)) 20 x (σ0 33 x) := ⟨_, rfl⟩
    have ro : ∀ o, (o < 15 ∨ 20 < o) → ρ o = σ o := fun o ho => by rw [hρ, upS_of (by omega), upS_of (by omega), upS_of (by omega), upS_of (by omega), upS_of (by omega), upS_of (by omega)]
    obtain ⟨τ, g1, g2, g3⟩ := ih (x + 1) ρ N (by rw [ro 14 (by omega)]; exact hs) (fun o ho => by rw [ro o (by omega), hd o ho]) (by omega) (by omega) (fun j k a b c d => by
      rw [hρ]
      by_cases c : k = x
      · subst c
        have : j = 1 ∨ j = 2 ∨ j = 3 ∨ j = 4 ∨ j = 5 ∨ j = 6 := by omega
        rcases this with rfl | rfl | rfl | rfl | rfl | rfl <;> simp (disch := omega) only [upS_h, upS_o, upS_i, Int.reduceAdd, Int.reduceSub, Int.reduceMul, Int.reduceNeg]
      · rw [upS_i c, upS_i c, upS_i c, upS_i c, upS_i c, upS_i c]
        exact hk j k a b (by omega) (by omega)) (by omega)
    refine ⟨τ, ?_, g2, fun o ho => by rw [g3 o ho, ro o ho]⟩
    rw [← g1, lp_X7_become_26, iwl_t (by omega), iww_t (by omega)]
    simp (disch := omega) only [↓rdA_t, ↓wrA_t, ↓ixA_t, ↓wrF_d, ↓bd2_s, ↓bd1_s, ↓bnd_d, ↓iww_t, ↓iww_f, ↓iwl_t, ↓iwl_f, ↓ilw_t, ↓ilw_f, ↓eww_t, ↓eww_f, ↓ewl_t, ↓ewl_f, ↓ez_t, ↓ez_f, ↓il_t, ↓il_f, il_t, il_f, ez_t, ez_f, if_true, if_false, upS_h, upS_o, upS_i, Int.reduceAdd, Int.reduceSub, Int.reduceMul, Int.reduceNeg, wI_id, hd]
    rw [hρ]
