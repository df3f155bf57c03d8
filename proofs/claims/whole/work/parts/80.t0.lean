/-! ===== reads of the reference ===== -/
def fQ (σ τ : St) : Prop := (∀ o, (o < 118 ∨ (118 < o ∧ o < 128) ∨ 134 < o) → τ o = σ o) ∧ ∀ i, ¬ i = 15 → ¬ i = 21 → ¬ i = 22 → τ 118 i = σ 118 i
theorem fQ_t {σ τ ρ : St} (h1 : fQ σ τ) (h2 : fQ τ ρ) : fQ σ ρ := ⟨fun o ho => (h2.1 o ho).trans (h1.1 o ho), fun i a b c => (h2.2 i a b c).trans (h1.2 i a b c)⟩
theorem fQ_M {σ τ : St} (h : fM σ τ) : fQ σ τ := ⟨fun o ho => h.1 o (by omega) (by omega), fun i a b c => h.2 i a⟩
theorem fQ_O {σ τ : St} (h : fO σ τ) : fQ σ τ := ⟨fun o ho => h.1 o (by omega), h.2⟩
theorem fQ_I {σ τ α : St} (h : fQ σ τ) (hI : IM σ α) : IM τ α := IM_scr (fun i hi => h.2 i (by unfold mF at hi; omega) (by unfold mF at hi; omega) (by unfold mF at hi; omega)) (fun o a b => h.1 o (by omega)) hI
theorem fQ_o {σ τ : St} (h : fQ σ τ) : ∀ o, o < 118 → τ o = σ o := fun o ho => h.1 o (by omega)
theorem m_okR {σ α : St} {p v y : Int} (hI : IM σ α) (hw : WF α) (hp : 0 ≤ rdP α ∧ rdP α ≤ α 0 6) (hv : v = (rdW α).2.1) (hd : dM σ (rdW α).2.1 (rdW α).2.2) : oM (jn_X10_reads_72 (upS σ 118 15 y) 0 v 1) σ α v (upS (rdW α).2.2 0 1 (rdW α).2.1) := by
  obtain ⟨g1, g2, g3⟩ := re_row hw hp
  have e0 : (rdW α).2.2 0 = α 0 := g3 0 (by omega) (by omega) (by omega)
  unfold jn_X10_reads_72
  rw [ewl_f (by omega), ewl_t (by omega), wrF_d]
  obtain ⟨τ, k1, k2, k3⟩ := m_cpR (v := v) (fun σ18 => some (v, σ18)) (by omega) (σ0 := σ) (3 * v).toNat 0 (upS (upS σ 118 15 y) 118 3 v) 1000 (by rw [upS_of (by omega), upS_of (by omega)]) (by omega) (by omega) (fun k a b => by omega) (by omega)
  have hI2 : IM (upS σ 118 15 y) α := fQ_I (fQ_O fO_15) hI
  rw [k1]
  refine ⟨τ, rfl, IM_chR (σ := upS σ 118 15 y) (fun i hi hi2 => by rw [k3 118 (by omega), upS_i hi2]) (fun o a b c => by rw [k3 o b, upS_of (by omega)]) (fun i hi => by rw [upS_i hi, e0]) (fun o o1 o2 => by rw [upS_of (by omega)]; exact g3 o (by omega) (by omega) (by omega)) hI2 ⟨?_, fun k w a b c d => ?_⟩, fun o ho => by rw [k3 o (by omega), upS_of (by omega), upS_of (by omega)]⟩
  · rw [k3 118 (by omega), upS_h ⟨rfl, rfl⟩, upS_h ⟨rfl, rfl⟩, hv]
  · rw [upS_h ⟨rfl, rfl⟩] at b
    rw [upS_o (by omega), k2 (3 * k + w) (by omega) (by omega)]
    have z := hd k a b
    have : w = 0 ∨ w = 1 ∨ w = 2 := by omega
    rcases this with rfl | rfl | rfl
    · rw [Int.add_zero]; exact z.1
    · exact z.2.1
    · exact z.2.2
theorem m_okT {σ α : St} {v y : Int} (hI : IM σ α) (hw : WF α) (hp : 4 ≤ rdP α ∧ rdP α ≤ α 0 6) (h1 : (rdT α).1 = -1) (hv : v = (rdT α).2.2 0 8) (h9 : σ 118 22 = (rdT α).2.2 0 9) (hd : dMt σ (rdT α).2.2 0 ((rdT α).2.2 0 7)) : oM (jn_X10_reads_72 (upS σ 118 15 y) 1 v 1) σ α v (rdT α).2.2 := by
  obtain ⟨g1, g2, g3⟩ := re_tree hw hp h1
  have n1 := g1.1
  unfold jn_X10_reads_72
  rw [ewl_f (by omega), ewl_f (by omega), wrF_d, wrF_d, upS_i (by omega), upS_i (by omega), h9]
  obtain ⟨τ, k1, k2, k3⟩ := m_cpT (v := v) (fun σ18 => some (v, σ18)) (σ0 := σ) 128 0 (upS (upS (upS σ 118 15 y) 118 10 v) 118 11 ((rdT α).2.2 0 9)) 1000 (fun o ho => by rw [upS_of (by omega), upS_of (by omega), upS_of (by omega)]) (by omega) (by omega) (fun j k a b c d => by omega) (by omega)
  have hI2 : IM (upS σ 118 15 y) α := fQ_I (fQ_O fO_15) hI
  rw [k1]
  refine ⟨τ, rfl, IM_chT (σ := upS σ 118 15 y) (fun i hi a b => by rw [k3 118 (by omega), upS_i b, upS_i a]) (fun o a b c => by rw [k3 o c, upS_of (by omega), upS_of (by omega)]) g2 (fun o o1 o2 => g3 o o1 (by omega)) hI2 ⟨?_, ?_, fun i i1 i2 => ?_⟩, fun o ho => by rw [k3 o (by omega), upS_of (by omega), upS_of (by omega), upS_of (by omega)]⟩
  · rw [k3 118 (by omega), upS_i (by omega), upS_h ⟨rfl, rfl⟩, hv]
  · rw [k3 118 (by omega), upS_h ⟨rfl, rfl⟩]
  · have z0 := k2 0 i (by omega) (by omega) i1 (by omega)
    have z1 := k2 1 i (by omega) (by omega) i1 (by omega)
    have z2 := k2 2 i (by omega) (by omega) i1 (by omega)
    have z3 := k2 3 i (by omega) (by omega) i1 (by omega)
    simp only [Int.reduceAdd] at z0 z1 z2 z3
    rw [z0, z1, z2, z3]
    exact hd i i1 i2
theorem xm_reads {σ α : St} (h : IM σ α) (hw : WF α) : oM (f_X10_reads σ) σ α (rRe α) (aRe α) := by
  have hx := hw.2.2.2.1
  have w1 := hx.1
  have w2 := hx.2.1
  have q := sk_r (p := 0) hx (by omega) w1
  have wr := wdW_r (α := α)
  have hI1 : IM (upS σ 118 15 0) α := fQ_I (fQ_O fO_15) h
  have F1 : fQ σ (upS σ 118 15 0) := fQ_O fO_15
  unfold f_X10_reads
  rw [wrF_d]
  rcases m_tword hI1.2.2.2.1 hx (upS_h ⟨rfl, rfl⟩) with ⟨g1, g2, g3⟩ | ⟨g1, g2⟩
  · rw [g3, bd2_s, iwl_f (by omega), upS_u]
    have hpP : 0 ≤ rdP α ∧ rdP α ≤ α 0 6 := by unfold rdP; omega
    have eP : sk α 0 + 3 + wdW α = rdP α := rfl
    rw [eP]
    have hI2 : IM (upS σ 118 15 (rdP α)) α := fQ_I (fQ_O fO_15) h
    have F2 : fQ σ (upS σ 118 15 (rdP α)) := fQ_O fO_15
    unfold rRe aRe rdF
    rw [if_pos g1]
    by_cases c : wdW α = 0
    · rw [ewl_t (by omega), if_pos c, if_pos c, if_pos c]
      unfold f_X10_readsRow
      obtain ⟨v, τ, k1, k2, k3, k4⟩ := m_rowl hx 8 0 (rdP α) (upS σ 118 15 (rdP α)) α 1000 hI2.2.2.2.1 (upS_h ⟨rfl, rfl⟩) hpP.1 hpP.2 (by omega) (by omega) (fun k a b => by omega) (by omega)
      have eW : rwS α 8 0 (rdP α) α = rdW α := rfl
      rw [eW] at k4
      rw [k1, bd2_s, c]
      have F3 : fQ σ τ := fQ_t F2 (fQ_M k2)
      have hI3 := fQ_I F3 h
      rcases k4 with ⟨d1, d2, d3⟩ | ⟨d1, d2, d3, d4⟩
      · rw [d1, m_flt hI3.2.2.2.1 hx rfl k3.1 k3.2 (Or.inl rfl), d3, if_neg (show ¬ (rdW α).1 = -1 by omega), if_neg (show ¬ (rdW α).1 = -1 by omega)]
        exact ⟨_, rfl, fQ_I (fQ_O fO_15) hI3, fQ_o (fQ_t F3 (fQ_O fO_15))⟩
      · have rw8 := re_row hw hpP
        rcases m_fin (x := 0) (v := v) hI3.2.2.2.1 hx rfl k3.1 k3.2 (Or.inl rfl) (by omega) with ⟨e1, y, e2⟩ | ⟨e1, y, e2⟩
        · rw [d3] at e1 e2
          rw [e2, if_neg e1, if_neg e1]
          exact ⟨_, rfl, fQ_I (fQ_O fO_15) hI3, fQ_o (fQ_t F3 (fQ_O fO_15))⟩
        · rw [d3] at e1
          rw [e2, if_pos e1, if_pos e1, ← d2]
          obtain ⟨ρ, n1, n2, n3⟩ := m_okR (p := 0) (v := v) (y := y) hI3 hw hpP d2 d4
          rw [← d2] at n2
          exact ⟨ρ, n1, n2, fun o ho => by rw [n3 o ho, fQ_o F3 o ho]⟩
    · have c' : wdW α = 1 := by omega
      rw [ewl_f (by omega), if_neg c, if_neg c, if_neg c]
      unfold f_X10_readsTree
      rw [wrF_d, wrF_d]
      obtain ⟨ξ, hξ⟩ : ∃ x, x = upS (upS (upS σ 118 15 (rdP α)) 118 21 0) 118 22 0 := ⟨_, rfl⟩
      rw [← hξ]
      have Fx : fQ σ ξ := by
        rw [hξ]
        exact ⟨fun o ho => by rw [upS_of (by omega), upS_of (by omega), upS_of (by omega)], fun i a b c => by rw [upS_i c, upS_i b, upS_i a]⟩
      have hIx := fQ_I Fx h
      have t0 := (tB0_p (α := α)).1
      have P := rdT_p hx hpP
      have M := m_node (fun σ43 => some (σ43 118 21, σ43)) hx 9 (-1) 0 (rdP α) 0 ξ (tB0 α) 1000 hIx.2.2.2.1 (by rw [hξ]; simp (disch := omega) only [upS_h, upS_o, upS_i, Int.reduceAdd, Int.reduceSub, Int.reduceMul, Int.reduceNeg]) (by omega) (by omega) (by omega) hpP.1 hpP.2 (by omega) (by omega) ⟨Or.inl rfl, fun z => by omega⟩ (by rw [hξ, t0.2.1]; simp (disch := omega) only [upS_h, upS_o, upS_i, Int.reduceAdd, Int.reduceSub, Int.reduceMul, Int.reduceNeg]) (by rw [hξ, t0.2.2]; simp (disch := omega) only [upS_h, upS_o, upS_i, Int.reduceAdd, Int.reduceSub, Int.reduceMul, Int.reduceNeg]) (by omega)
      have eT : ndS α 9 (-1) 0 (rdP α) (tB0 α) = rdT α := rfl
      rw [eT] at M
      rcases M with ⟨d1, m, τ, d2, d3, d4, d5, d6, d7⟩ | ⟨d1, τ, d2, d3, d4, d5⟩
      · obtain ⟨a1, a2, a3, a4, a5, a6, a7, a8, a9, a10⟩ := P.2 d1
        have rt := re_tree hw ⟨re_4 hx c', hpP.2⟩ d1
        have lv := rt.1.2.1
        obtain ⟨m, rfl⟩ : ∃ k, m = k + 1 := ⟨m - 1, by omega⟩
        have el : lp_X10_readsTree_16 (fun σ43 => some (σ43 118 21, σ43)) (m + 1) τ ((rdT α).2.2 0 7) 0 1 = some ((rdT α).2.2 0 8, τ) := by
          rw [lp_X10_readsTree_16, ewl_f (by omega), d5.2.1]
        rw [t0.1, if_pos rfl, el] at d2
        rw [d2, bd2_s, c', if_pos d1]
        have F3 : fQ σ τ := fQ_t Fx (fQ_O d4.1)
        have hI3 := fQ_I F3 h
        rcases m_fin (x := 1) (v := (rdT α).2.2 0 8) hI3.2.2.2.1 hx d5.1 (by omega) (by omega) (Or.inr rfl) (by omega) with ⟨e1, y, e2⟩ | ⟨e1, y, e2⟩
        · rw [e2, if_neg e1, if_neg e1]
          exact ⟨_, rfl, fQ_I (fQ_O fO_15) hI3, fQ_o (fQ_t F3 (fQ_O fO_15))⟩
        · rw [e2, if_pos e1, if_pos e1]
          rw [t0.1] at d6
          obtain ⟨ρ, n1, n2, n3⟩ := m_okT (v := (rdT α).2.2 0 8) (y := y) hI3 hw ⟨re_4 hx c', hpP.2⟩ d1 rfl d5.2.2 d6
          exact ⟨ρ, n1, n2, fun o ho => by rw [n3 o ho, fQ_o F3 o ho]⟩
      · have := P.1 d1
        rw [t0.1] at d2
        have F3 : fQ σ τ := fQ_t Fx (fQ_O d3)
        have hI3 := fQ_I F3 h
        rw [d2, bd2_s, c', m_flt hI3.2.2.2.1 hx rfl d4.1 d4.2 (Or.inr rfl), d5, if_neg d1, if_neg d1, if_neg d1]
        exact ⟨_, rfl, fQ_I (fQ_O fO_15) hI3, fQ_o (fQ_t F3 (fQ_O fO_15))⟩
  · rw [g2, bd2_s, iwl_t (by omega), upS_u]
    have c : ¬ wdF α = -1 := by omega
    unfold rRe aRe rdF jn_X10_reads_33 jn_X10_reads_72
    rw [if_neg c, if_neg c, if_neg c, iwl_t (by omega), ewl_t (by omega), iwl_t (by omega), iwl_t (by omega), upS_h ⟨rfl, rfl⟩]
    exact ⟨_, rfl, fQ_I (fQ_O fO_15) h, fQ_o (fQ_O fO_15)⟩
