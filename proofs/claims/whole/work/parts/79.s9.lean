/-! ===== reads ===== -/
theorem re_row {α : St} (hw : WF α) (hp : 0 ≤ rdP α ∧ rdP α ≤ α 0 6) : (0 ≤ (rdW α).2.1 ∧ (rdW α).2.1 ≤ 8) ∧ wRd (rdW α).2.1 (rdW α).2.2 ∧ ∀ o, ¬ o = 7 → ¬ o = 8 → ¬ o = 9 → (rdW α).2.2 o = α o := by
  have g := rwS_w hw.2.2.2.1 8 0 (rdP α) α hp.1 hp.2 (by omega) (by omega) (fun k a b => by omega)
  exact ⟨g.1, g.2, rwS_f 8 0 (rdP α) α⟩
theorem re_tree {α : St} (hw : WF α) (hp : 4 ≤ rdP α ∧ rdP α ≤ α 0 6) (h1 : (rdT α).1 = -1) : wT (rdT α).2.2 ∧ (∀ i, (i < 7 ∨ 9 < i) → (rdT α).2.2 0 i = α 0 i) ∧ ∀ o, 1 ≤ o → (o < 12 ∨ 17 < o) → (rdT α).2.2 o = α o := by
  have w2 := hw.2.2.2.1.2.1
  have t0 := tB0_p (α := α)
  obtain ⟨a1, a2, a3, a4, a5, a6, a7, a8, a9, a10⟩ := (rdT_p hw.2.2.2.1 (by omega)).2 h1
  rw [t0.1.1] at a2 a8 a9 a10
  rw [t0.1.2.1] at a3
  rw [t0.1.2.2] at a4
  refine ⟨⟨by omega, by omega, by omega, a9, a10, fun i i1 i2 => a8 i i1 i2⟩, fun i hi => by rw [a7 i hi, t0.2.2 i hi], fun o o1 o2 => by rw [a6 o (by omega) o2, t0.2.1 o (by omega)]⟩
theorem re_p {α : St} (hw : wX α) (h : rdF α = -1) : wdF α = -1 := by
  unfold rdF at h
  by_cases c : wdF α = -1
  · exact c
  · rw [if_neg c] at h; exact absurd h c
theorem re_4 {α : St} (hw : wX α) (h : wdW α = 1) : 4 ≤ rdP α := by
  have q := sk_r (p := 0) hw (by omega) hw.1
  unfold rdP
  omega
theorem re_T {α : St} (hw : wX α) (h : rdF α = -1) (h1 : wdW α = 1) (hp : 0 ≤ rdP α ∧ rdP α ≤ α 0 6) : (rdT α).1 = -1 := by
  have c := re_p hw h
  unfold rdF at h
  rw [if_pos c, if_neg (show ¬ wdW α = 0 by omega)] at h
  by_cases d : (rdT α).1 = -1
  · exact d
  · rw [if_neg d] at h; exact h
theorem wf_reads {α : St} (hw : WF α) (hp : rdF α = -1 → 0 ≤ rdP α ∧ rdP α ≤ α 0 6) : WF (aRe α) := by
  have wr := wdW_r (α := α)
  unfold aRe
  by_cases c : rdF α = -1
  · rw [if_pos c]
    have hp := hp c
    by_cases c1 : wdW α = 0
    · rw [if_pos c1]
      obtain ⟨g1, g2, g3⟩ := re_row hw hp
      have e0 : (rdW α).2.2 0 = α 0 := g3 0 (by omega) (by omega) (by omega)
      refine WF_chR (fun i hi => by rw [upS_i hi, e0]) (fun o o1 o2 => by rw [upS_of (by omega)]; exact g3 o (by omega) (by omega) (by omega)) hw ⟨?_, ?_, fun k a b => ?_⟩
      · rw [upS_h ⟨rfl, rfl⟩]; exact g1.1
      · rw [upS_h ⟨rfl, rfl⟩]; exact g1.2
      · rw [upS_h ⟨rfl, rfl⟩] at b
        rw [upS_o (by omega), upS_o (by omega), upS_o (by omega)]
        exact g2 k a b
    · rw [if_neg c1]
      have c2 : wdW α = 1 := by omega
      obtain ⟨g1, g2, g3⟩ := re_tree hw ⟨re_4 hw.2.2.2.1 c2, hp.2⟩ (re_T hw.2.2.2.1 c c2 hp)
      exact WF_chT g2 (fun o o1 o2 => g3 o o1 (by omega)) hw g1
  · rw [if_neg c]; exact hw
theorem xc_reads {σ α : St} (h : IC σ α) (hw : WF α) : oC (f_X9_reads σ) σ α (rRe α) (aRe α) ∧ (rdF α = -1 → 0 ≤ rdP α ∧ rdP α ≤ α 0 6) := by
  obtain ⟨τ, e1, e2, e3, e4⟩ := c_read h.2.2.2.1 hw.2.2.2.1
  refine ⟨?_, fun z => ⟨(e3 z).1, (e3 z).2.1⟩⟩
  have hI : IC τ α := IC_scr (fun o ho i hi => by
    by_cases c : o = 21
    · subst c; rw [hi rfl]; exact e2.2
    · rw [e2.1 o (by omega)]) h
  have hF : ∀ o, 118 ≤ o → τ o = σ o := fun o ho => e2.1 o (by omega)
  unfold f_X9_reads rRe aRe
  rw [e1, bd2_s]
  by_cases c : rdF α = -1
  · rw [if_pos c, if_pos c, ewl_t (by omega)]
    obtain ⟨p0, p1, e3⟩ := e3 c
    rcases e3 with ⟨d1, d2, d3⟩ | ⟨d1, d2, d3, d4, d5⟩
    · rw [if_pos d1, if_pos d1, ewl_f (by omega)]
      obtain ⟨g1, g2, g3⟩ := re_row hw ⟨p0, p1⟩
      have e0 : (rdW α).2.2 0 = α 0 := g3 0 (by omega) (by omega) (by omega)
      obtain ⟨ρ, k1, k2, k3, k4⟩ := c_beR (fun σ9 => some (0, σ9)) g1 (rdW α).2.1.toNat 0 (upS τ 10 3 0) 1000 (dR_c (fun o a b => upS_of (by omega)) d3) (by omega) (by omega) (upS_h ⟨rfl, rfl⟩) (fun k a b => by omega) (by omega)
      unfold f_X4_become
      rw [wrF_d, k1, bd2_s, k2]
      refine ⟨ρ, rfl, IC_chR (fun o ho i hi => by rw [k4 o ho, upS_o (by omega)]) (fun i hi => by rw [upS_i hi, e0]) (fun o o1 o2 => by rw [upS_of (by omega)]; exact g3 o (by omega) (by omega) (by omega)) hI ⟨?_, fun k a b => ?_⟩, fun o ho => by rw [k4 o (by omega), upS_of (by omega), hF o ho]⟩
      · rw [upS_h ⟨rfl, rfl⟩]; exact k2
      · rw [upS_h ⟨rfl, rfl⟩] at b
        rw [upS_o (by omega), upS_o (by omega), upS_o (by omega)]
        exact k3 k a b
    · have d0 : ¬ wdW α = 0 := by omega
      rw [if_neg d0, if_neg d0, ewl_t (by omega)]
      obtain ⟨g1, g2, g3⟩ := re_tree hw ⟨re_4 hw.2.2.2.1 d1, p1⟩ d3
      have n1 := g1.1
      obtain ⟨ξ, hξ⟩ : ∃ x, x = upS (upS (upS τ 14 6 (τ 27 6)) 14 7 (τ 27 7)) 14 8 (τ 27 8) := ⟨_, rfl⟩
      have x6 : ξ 14 6 = (rdT α).2.2 0 7 := by
        rw [hξ]
        simp (disch := omega) only [upS_h, upS_o, upS_i, Int.reduceAdd, Int.reduceSub, Int.reduceMul, Int.reduceNeg, d4.1]
      have x7 : ξ 14 7 = (rdT α).2.2 0 8 := by
        rw [hξ]
        simp (disch := omega) only [upS_h, upS_o, upS_i, Int.reduceAdd, Int.reduceSub, Int.reduceMul, Int.reduceNeg, d4.2.1]
      have x8 : ξ 14 8 = (rdT α).2.2 0 9 := by
        rw [hξ]
        simp (disch := omega) only [upS_h, upS_o, upS_i, Int.reduceAdd, Int.reduceSub, Int.reduceMul, Int.reduceNeg, d4.2.2]
      have xo : ∀ o, ¬ o = 14 → ξ o = τ o := fun o ho => by rw [hξ, upS_of ho, upS_of ho, upS_of ho]
      obtain ⟨ρ, k1, k2, k3⟩ := c_beT (σ0 := τ) (fun σ18 => some (0, σ18)) (show 0 ≤ (rdT α).2.2 0 7 ∧ (rdT α).2.2 0 7 ≤ 120 by omega) ((rdT α).2.2 0 7).toNat 0 ξ 1000 x6 (fun o ho => xo o (by omega)) (by omega) (by omega) (fun j k a b c d => by omega) (by omega)
      have eb : f_X7_become τ 14 27 = some (0, ρ) := by
        unfold f_X7_become
        rw [wrF_d, wrF_d, wrF_d, upS_o (by omega), upS_o (by omega), upS_o (by omega), ← hξ, k1]
      rw [eb, bd2_s, k3 14 (by omega), x7]
      refine ⟨ρ, rfl, IC_chT (fun o ho i hi => by rw [k3 o (by omega), xo o (by omega)]) g2 (fun o o1 o2 => g3 o o1 (by omega)) hI ⟨?_, ?_, ?_, fun i i1 i2 => ?_⟩, fun o ho => by rw [k3 o (by omega), xo o (by omega), hF o ho]⟩
      · rw [k3 14 (by omega), x6]
      · rw [k3 14 (by omega), x7]
      · rw [k3 14 (by omega), x8]
      · have z1 := k2 1 i (by omega) (by omega) i1 i2
        have z2 := k2 2 i (by omega) (by omega) i1 i2
        have z3 := k2 3 i (by omega) (by omega) i1 i2
        have z4 := k2 4 i (by omega) (by omega) i1 i2
        have z5 := k2 5 i (by omega) (by omega) i1 i2
        have z6 := k2 6 i (by omega) (by omega) i1 i2
        simp only [Int.reduceAdd] at z1 z2 z3 z4 z5 z6
        rw [z1, z2, z3, z4, z5, z6]
        exact d5 i i1 i2
  · rw [if_neg c, if_neg c, ewl_f (by omega)]
    exact ⟨τ, rfl, hI, hF⟩
/-! the reference -/
theorem m_fin {σ α : St} {p x v : Int} (hx : mX σ α) (hw : wX α) (hp : σ 118 15 = p) (h0 : 0 ≤ p) (h1 : p ≤ α 0 6) (hx1 : x = 0 ∨ x = 1) (hv : 0 ≤ v ∧ v ≤ 1000) : (¬ enS α p = -1 ∧ ∃ y, jn_X10_reads_33 σ x v = some (-10 - enS α p, upS σ 118 15 y)) ∨ (enS α p = -1 ∧ ∃ y, jn_X10_reads_33 σ x v = jn_X10_reads_72 (upS σ 118 15 y) x v 1) := by
  have w2 := hw.2.1
  have q := sk_r hw h0 h1
  have ss := sk_s hw h0 h1
  have bad : ∀ y : Int, 0 ≤ y → y ≤ α 0 6 → sk α y = y → jn_X10_reads_72 (upS σ 118 15 y) x v 0 = some (-10 - y, upS σ 118 15 y) := by
    intro y y0 y1 y2
    unfold jn_X10_reads_72
    rw [ewl_t (by omega), iwl_f (by omega), m_here (p := y) (fO_X fO_15 hx) hw (upS_h ⟨rfl, rfl⟩) y0 y1, bd2_s, y2, upS_u, upS_h ⟨rfl, rfl⟩]
  unfold jn_X10_reads_33
  rw [iwl_f (by omega)]
  by_cases c : chC α (sk α p) = 59
  · have q2 := sk_r (p := sk α p + 1) hw (by omega) (by omega)
    have rr2 := ch_p hw (show 0 ≤ sk α (sk α p + 1) by omega) q2.1.2
    rw [m_takes_t hx hw hp h0 h1 (by omega) (by omega), bd2_s, ewl_t (by omega), m_here (fO_X fO_15 hx) hw (upS_h ⟨rfl, rfl⟩) (by omega) (by omega), bd2_s, upS_u, upS_h ⟨rfl, rfl⟩, upS_i (by omega), hx.1]
    unfold enS
    rw [if_pos c]
    by_cases c2 : chC α (sk α (sk α p + 1)) = -1
    · right
      rw [if_pos c2, ewl_t (by omega), eww_t (by omega)]
      exact ⟨rfl, _, rfl⟩
    · left
      rw [if_neg c2]
      refine ⟨by omega, sk α (sk α p + 1), ?_⟩
      have ez : (if wI (chM α (sk α (sk α p + 1))) = 0 then (if wI (sk α (sk α p + 1)) = wI (α 0 6) then (1 : Int) else 0) else 0) = 0 := by
        by_cases c3 : chM α (sk α (sk α p + 1)) = 0
        · rw [ewl_t (by omega), eww_f (by omega)]
        · rw [ewl_f (by omega)]
      rw [ez]
      exact bad _ (by omega) (by omega) (sk_s hw (by omega) (by omega))
  · left
    unfold enS
    rw [if_neg c, m_takes_f hx hw hp h0 h1 (by omega) (by omega), bd2_s, ewl_f (by omega)]
    exact ⟨by omega, sk α p, bad _ (by omega) (by omega) ss⟩
theorem m_flt {σ α : St} {p x : Int} (hx : mX σ α) (hw : wX α) (hp : σ 118 15 = p) (h0 : 0 ≤ p) (h1 : p ≤ α 0 6) (hx1 : x = 0 ∨ x = 1) : jn_X10_reads_33 σ x (-1) = some (-10 - sk α p, upS σ 118 15 (sk α p)) := by
  unfold jn_X10_reads_33 jn_X10_reads_72
  rw [iwl_t (by omega), ewl_t (by omega), iwl_t (by omega), iwl_f (by omega), m_here hx hw hp h0 h1, bd2_s, upS_h ⟨rfl, rfl⟩]
theorem m_cpR {v : Int} (kx : St → Option (Int × St)) (hv : 0 ≤ v ∧ v ≤ 8) {σ0 : St} : ∀ (r : Nat) (x : Int) (σ : St) (N : Nat), σ 128 = σ0 128 → 0 ≤ x → x + r = 3 * v → (∀ k, 0 ≤ k → k < x → σ 120 k = σ0 128 k) → r < N → ∃ τ, lp_X10_reads_115 v kx N σ x = kx τ ∧ (∀ k, 0 ≤ k → k < 3 * v → τ 120 k = σ0 128 k) ∧ ∀ o, ¬ o = 120 → τ o = σ o := by
  intro r
  induction r with
  | zero =>
    intro x σ N hd h0 h1 hk hN
    obtain ⟨N, rfl⟩ : ∃ k, N = k + 1 := ⟨N - 1, by omega⟩
    refine ⟨σ, ?_, fun k a b => hk k a (by omega), fun _ _ => rfl⟩
    rw [lp_X10_reads_115, iww_f (by omega)]
  | succ r ih =>
    intro x σ N hd h0 h1 hk hN
    obtain ⟨N, rfl⟩ : ∃ k, N = k + 1 := ⟨N - 1, by omega⟩
    obtain ⟨τ, g1, g2, g3⟩ := ih (x + 1) (upS σ 120 x (σ0 128 x)) N (by rw [upS_of (by omega), hd]) (by omega) (by omega) (fun k a b => by
      by_cases c : k = x
      · subst c; exact upS_h ⟨rfl, rfl⟩
      · rw [upS_i c]; exact hk k a (by omega)) (by omega)
    refine ⟨τ, ?_, g2, fun o ho => by rw [g3 o ho, upS_of ho]⟩
    rw [← g1, lp_X10_reads_115, iww_t (by omega), rdA_t (by omega), wrA_t (by omega), hd]
theorem m_cpT {v : Int} (kx : St → Option (Int × St)) {σ0 : St} : ∀ (r : Nat) (x : Int) (σ : St) (N : Nat), (∀ o, 129 ≤ o → σ o = σ0 o) → 0 ≤ x → x + r = 128 → (∀ j k, 0 ≤ j → j ≤ 3 → 0 ≤ k → k < x → σ (122 + j) k = σ0 (129 + j) k) → r < N → ∃ τ, lp_X10_reads_162 v kx N σ x = kx τ ∧ (∀ j k, 0 ≤ j → j ≤ 3 → 0 ≤ k → k < 128 → τ (122 + j) k = σ0 (129 + j) k) ∧ ∀ o, (o < 122 ∨ 125 < o) → τ o = σ o := by
  intro r
  induction r with
  | zero =>
    intro x σ N hd h0 h1 hk hN
    obtain ⟨N, rfl⟩ : ∃ k, N = k + 1 := ⟨N - 1, by omega⟩
    refine ⟨σ, ?_, fun j k a b c d => hk j k a b c (by omega), fun _ _ => rfl⟩
    rw [lp_X10_reads_162, iwl_f (by omega)]
  | succ r ih =>
    intro x σ N hd h0 h1 hk hN
    obtain ⟨N, rfl⟩ : ∃ k, N = k + 1 := ⟨N - 1, by omega⟩
    obtain ⟨ρ, hρ⟩ : ∃ y, y = upS (upS (upS (upS σ 122 x (σ0 129 x)) 123 x (σ0 130 x)) 124 x (σ0 131 x)) 125 x (σ0 132 x) := ⟨_, rfl⟩
    have ro : ∀ o, (o < 122 ∨ 125 < o) → ρ o = σ o := fun o ho => by rw [hρ, upS_of (by omega), upS_of (by omega), upS_of (by omega), upS_of (by omega)]
    obtain ⟨τ, g1, g2, g3⟩ := ih (x + 1) ρ N (fun o ho => by rw [ro o (by omega), hd o ho]) (by omega) (by omega) (fun j k a b c d => by
      rw [hρ]
      by_cases c : k = x
      · subst c
        have : j = 0 ∨ j = 1 ∨ j = 2 ∨ j = 3 := by omega
        rcases this with rfl | rfl | rfl | rfl <;> simp (disch := omega) only [upS_h, upS_o, upS_i, Int.reduceAdd, Int.reduceSub, Int.reduceMul, Int.reduceNeg]
      · rw [upS_i c, upS_i c, upS_i c, upS_i c]
        exact hk j k a b (by omega) (by omega)) (by omega)
    refine ⟨τ, ?_, g2, fun o ho => by rw [g3 o ho, ro o ho]⟩
    rw [← g1, lp_X10_reads_162, iwl_t (by omega)]
    simp (disch := omega) only [↓rdA_t, ↓wrA_t, ↓ixA_t, ↓wrF_d, ↓bd2_s, ↓bd1_s, ↓bnd_d, ↓iww_t, ↓iww_f, ↓iwl_t, ↓iwl_f, ↓ilw_t, ↓ilw_f, ↓eww_t, ↓eww_f, ↓ewl_t, ↓ewl_f, ↓ez_t, ↓ez_f, ↓il_t, ↓il_f, il_t, il_f, ez_t, ez_f, if_true, if_false, upS_h, upS_o, upS_i, Int.reduceAdd, Int.reduceSub, Int.reduceMul, Int.reduceNeg, wI_id, hd]
    rw [hρ]
