theorem m_nquest {σ α β γ : St} {a dp p h : Int} {n : Nat} (kx : St → Option (Int × St)) (hx : mX σ α) (hw : wX α) (hp : σ 118 15 = p) (h0 : 0 ≤ p) (h1 : p ≤ α 0 6) (hd : 0 ≤ dp ∧ dp < 7) (hh : Hh σ (β 0 7) dp a h) (hb : 0 ≤ β 0 7 ∧ β 0 7 ≤ p) (h9 : 0 ≤ β 0 9 ∧ β 0 9 ≤ 7) (hl : σ 118 21 = β 0 8) (ht : σ 118 22 = β 0 9) (hc : 0 < qK (chC α (sk α p))) (hf : okG α p) (ho : chC α (k2 α p) = 40) (hγ : γ = tQu β (qK (chC α (sk α p))) (chC α (k1 α p) - 48) a dp) : ∃ τ, lp_X10_readsTree_16 kx (n + 1) σ (β 0 7) dp 0 = lp_X10_readsTree_16 kx n τ (β 0 7 + 1) (dp + 1) 0 ∧ fN σ τ (β 0 7) dp a h ∧ (τ 118 15 = k2 α p + 1 ∧ τ 118 21 = γ 0 8 ∧ τ 118 22 = γ 0 9) ∧ (τ 129 (β 0 7) = qK (chC α (sk α p)) ∧ τ 130 (β 0 7) = chC α (k1 α p) - 48) ∧ (τ 133 dp = β 0 7 ∧ τ 134 dp = 0) ∧ (0 < dp → τ (131 + h) a = β 0 7 ∧ τ 134 (dp - 1) = h + 1) := by
  have w2 := hw.2.1
  have q := sk_r hw h0 h1
  have rr := ch_p hw (show 0 ≤ sk α p by omega) q.1.2
  have hh1 := hh.1
  unfold okG at hf
  have kr := qK_r (c := chC α (sk α p))
  have mr := qM_r (k := qK (chC α (sk α p)))
  have r1 := k1_r hw h0 h1 (by omega)
  have r2 := k2_r hw h0 h1 (by omega) (by omega)
  have g8 : γ 0 8 = β 0 8 := by rw [hγ]; unfold tQu; simp (disch := omega) only [upS_h, upS_o, upS_i, Int.reduceAdd, Int.reduceSub, Int.reduceMul, Int.reduceNeg]
  have g9 : γ 0 9 = (if β 0 9 < dp + 1 then dp + 1 else β 0 9) := by rw [hγ]; unfold tQu; simp (disch := omega) only [upS_h, upS_o, upS_i, Int.reduceAdd, Int.reduceSub, Int.reduceMul, Int.reduceNeg]
  have e1' : sk α (sk α p + 1) = k1 α p := rfl
  have e3' : sk α (k1 α p + 1) = k2 α p := rfl
  obtain ⟨ρ, hρ⟩ : ∃ x, x = upS (upS (upS σ 118 15 (k2 α p + 1)) 129 (β 0 7) (qK (chC α (sk α p)))) 130 (β 0 7) (chC α (k1 α p) - 48) := ⟨_, rfl⟩
  have hhρ : Hh ρ (β 0 7) dp a h := ⟨hh1, fun c => by
    obtain ⟨h1, h2, h3⟩ := hh.2 c
    rw [hρ]
    refine ⟨?_, ?_, h3⟩
    · simp (disch := omega) only [upS_h, upS_o, upS_i, Int.reduceAdd, Int.reduceSub, Int.reduceMul, Int.reduceNeg, h1]
    · simp (disch := omega) only [upS_h, upS_o, upS_i, Int.reduceAdd, Int.reduceSub, Int.reduceMul, Int.reduceNeg, h2]⟩
  have hgg := m_hang hhρ (by omega) (by omega)
  obtain ⟨ξ, hξ⟩ : ∃ x, x = upS (upS (hg ρ (β 0 7) dp a h) 133 dp (β 0 7)) 134 dp 0 := ⟨_, rfl⟩
  have ξ22 : ξ 118 22 = β 0 9 := by
    rw [hξ, upS_o (by omega), upS_o (by omega), hg_o hh1 (by omega) (by omega) (by omega), hρ]
    simp (disch := omega) only [upS_h, upS_o, upS_i, Int.reduceAdd, Int.reduceSub, Int.reduceMul, Int.reduceNeg, ht]
  refine ⟨upS ξ 118 22 (γ 0 9), ?_, ⟨⟨fun o ho => ?_, fun i i1 i2 i3 => ?_⟩, fun i hi => ?_, fun i hi hi2 => ?_, fun i hi hi2 => ?_, fun i hi => ?_, fun i hi => ?_⟩, ⟨?_, ?_, ?_⟩, ⟨?_, ?_⟩, ⟨?_, ?_⟩, fun c => ⟨?_, ?_⟩⟩
  · rw [m_head kx hx hw hp h0 h1 (by omega) hh]
    unfold jn_X10_readsTree_68
    have eq : (if wI (qK (chC α (sk α p))) < 3 then (54 : Int) else 57) = qM (qK (chC α (sk α p))) := by
      unfold qM
      rw [wI_id (x := qK (chC α (sk α p))) (by omega) (by omega)]
    rw [ewl_f (by omega), ilw_t (by omega), iwl_t (by omega), wrF_d, upS_u, upS_h ⟨rfl, rfl⟩, eq]
    rw [m_takes_t (fO_X fO_15 hx) hw (upS_h ⟨rfl, rfl⟩) (by omega) (by omega) (by omega) (show 48 ≤ chC α (sk α (sk α p + 1)) ∧ _ from hf), bd2_s, upS_u, e1', iwl_f (by omega)]
    rw [m_takes_t (fO_X fO_15 hx) hw (upS_h ⟨rfl, rfl⟩) (by omega) (by omega) (by omega) (show 40 ≤ chC α (sk α (k1 α p + 1)) ∧ _ by rw [e3']; omega), bd2_s, upS_u, e3', iwl_f (by omega), wrA_t (by omega), wrA_t (by omega), ← hρ, hgg, bd2_s, wrA_t (by omega), wrA_t (by omega), ← hξ, wrF_d, ξ22, wI_id (x := β 0 9) (by omega) (by omega), wI_id (x := dp + 1) (by omega) (by omega), ← g9]
    unfold jn_X10_readsTree_251
    rw [bnd_d, ewl_f (by omega)]
  · rw [upS_of (by omega), hξ, upS_of (by omega), upS_of (by omega), hg_o hh1 (by omega) (by omega) (by omega), hρ, upS_of (by omega), upS_of (by omega), upS_of (by omega)]
  · rw [upS_i i3, hξ, upS_o (by omega), upS_o (by omega), hg_o hh1 (by omega) (by omega) (by omega), hρ, upS_o (by omega), upS_o (by omega), upS_i i1]
  · rw [upS_o (by omega), upS_o (by omega), hξ, upS_o (by omega), upS_o (by omega), upS_o (by omega), upS_o (by omega), hg_o hh1 (by omega) (by omega) (by omega), hg_o hh1 (by omega) (by omega) (by omega), hρ]
    simp (disch := omega) only [upS_h, upS_o, upS_i, Int.reduceAdd, Int.reduceSub, Int.reduceMul, Int.reduceNeg]
    exact ⟨trivial, trivial⟩
  · rw [upS_o (by omega), hξ, upS_o (by omega), upS_o (by omega), hg_1 hh1 hi2, hρ]
    simp (disch := omega) only [upS_h, upS_o, upS_i, Int.reduceAdd, Int.reduceSub, Int.reduceMul, Int.reduceNeg]
  · rw [upS_o (by omega), hξ, upS_o (by omega), upS_o (by omega), hg_2 hh1 hi2, hρ]
    simp (disch := omega) only [upS_h, upS_o, upS_i, Int.reduceAdd, Int.reduceSub, Int.reduceMul, Int.reduceNeg]
  · rw [upS_o (by omega), hξ, upS_o (by omega), upS_i (by omega), hg_o hh1 (by omega) (by omega) (by omega), hρ]
    simp (disch := omega) only [upS_h, upS_o, upS_i, Int.reduceAdd, Int.reduceSub, Int.reduceMul, Int.reduceNeg]
  · rw [upS_o (by omega), hξ, upS_i (by omega), upS_o (by omega), hg_4 hh1 (by omega), hρ]
    simp (disch := omega) only [upS_h, upS_o, upS_i, Int.reduceAdd, Int.reduceSub, Int.reduceMul, Int.reduceNeg]
  · rw [upS_i (by omega), hξ, upS_o (by omega), upS_o (by omega), hg_o hh1 (by omega) (by omega) (by omega), hρ]
    simp (disch := omega) only [upS_h, upS_o, upS_i, Int.reduceAdd, Int.reduceSub, Int.reduceMul, Int.reduceNeg]
  · rw [upS_i (by omega), hξ, upS_o (by omega), upS_o (by omega), hg_o hh1 (by omega) (by omega) (by omega), hρ, g8]
    simp (disch := omega) only [upS_h, upS_o, upS_i, Int.reduceAdd, Int.reduceSub, Int.reduceMul, Int.reduceNeg, hl]
  · rw [upS_h ⟨rfl, rfl⟩]
  · rw [upS_o (by omega), hξ, upS_o (by omega), upS_o (by omega), hg_o hh1 (by omega) (by omega) (by omega), hρ]
    simp (disch := omega) only [upS_h, upS_o, upS_i, Int.reduceAdd, Int.reduceSub, Int.reduceMul, Int.reduceNeg]
  · rw [upS_o (by omega), hξ, upS_o (by omega), upS_o (by omega), hg_o hh1 (by omega) (by omega) (by omega), hρ]
    simp (disch := omega) only [upS_h, upS_o, upS_i, Int.reduceAdd, Int.reduceSub, Int.reduceMul, Int.reduceNeg]
  · rw [upS_o (by omega), hξ, upS_o (by omega), upS_h ⟨rfl, rfl⟩]
  · rw [upS_o (by omega), hξ, upS_h ⟨rfl, rfl⟩]
  · rw [upS_o (by omega), hξ, upS_o (by omega), upS_o (by omega)]
    exact (hg_h hh1 c).1
  · rw [upS_o (by omega), hξ, upS_i (by omega), upS_o (by omega)]
    exact (hg_h hh1 c).2
theorem m_node {α : St} (kx : St → Option (Int × St)) (hw : wX α) : ∀ (f : Nat) (a dp p h : Int) (σ β : St) (n : Nat), mX σ α → σ 118 15 = p → 0 ≤ dp → dp ≤ 7 → dp + f = 9 → 0 ≤ p → p ≤ α 0 6 → (0 ≤ β 0 7 ∧ 0 ≤ β 0 8 ∧ 0 ≤ β 0 9 ∧ β 0 9 ≤ 7) → β 0 7 ≤ p → Hh σ (β 0 7) dp a h → σ 118 21 = β 0 8 → σ 118 22 = β 0 9 → α 0 6 - p < n → ndM α kx n σ β a dp p h (ndS α f a dp p β) := by
  intro f
  have w2 := hw.2.1
  induction f with
  | zero => intro a dp p h σ β n hx hp h0 h1 h2 h3 h4 hb hbp hh hl ht hn; omega
  | succ f ih =>
    intro a dp p h σ β n hx hp h0 h1 h2 h3 h4 hb hbp hh hl ht hn
    obtain ⟨n, rfl⟩ : ∃ k, n = k + 1 := ⟨n - 1, by omega⟩
    have q := sk_r hw h3 h4
    have rr := ch_p hw (show 0 ≤ sk α p by omega) q.1.2
    have ss := sk_s hw h3 h4
    have hh1 := hh.1
    rw [ndS]
    by_cases c1 : chC α (sk α p) = 42
    · rw [if_pos c1]
      exact m_nleaf kx hx hw hp h3 h4 ⟨h0, h1⟩ hh ⟨hb.1, hbp⟩ hl ht c1
    · rw [if_neg c1]
      by_cases c2 : 0 < qK (chC α (sk α p)) ∧ dp < 7
      · rw [if_pos c2]
        have kr := qK_r (c := chC α (sk α p))
        have mr := qM_r (k := qK (chC α (sk α p)))
        have r1 := k1_r hw h3 h4 (by omega)
        have e1' : sk α (sk α p + 1) = k1 α p := rfl
        have e3' : sk α (k1 α p + 1) = k2 α p := rfl
        have eq : (if wI (qK (chC α (sk α p))) < 3 then (54 : Int) else 57) = qM (qK (chC α (sk α p))) := by
          unfold qM
          rw [wI_id (x := qK (chC α (sk α p))) (by omega) (by omega)]
        by_cases c3 : okG α p
        · have c3' := c3
          unfold okG at c3'
          have r2 := k2_r hw h3 h4 (by omega) (by omega)
          rw [if_pos c3]
          by_cases c4 : chC α (k2 α p) = 40
          · rw [if_pos c4]
            obtain ⟨γ, hγ⟩ : ∃ x, x = tQu β (qK (chC α (sk α p))) (chC α (k1 α p) - 48) a dp := ⟨_, rfl⟩
            obtain ⟨τ, t1, t2, t3, t4, t5, t6⟩ := m_nquest (n := n) kx hx hw hp h3 h4 ⟨h0, c2.2⟩ hh ⟨hb.1, hbp⟩ hb.2.2 hl ht c2.1 c3 c4 hγ
            rw [← hγ]
            have b7 : γ 0 7 = β 0 7 + 1 := by rw [hγ]; unfold tQu; simp (disch := omega) only [upS_h, upS_o, upS_i, Int.reduceAdd, Int.reduceSub, Int.reduceMul, Int.reduceNeg]
            have b8 : γ 0 8 = β 0 8 := by rw [hγ]; unfold tQu; simp (disch := omega) only [upS_h, upS_o, upS_i, Int.reduceAdd, Int.reduceSub, Int.reduceMul, Int.reduceNeg]
            have b9 : γ 0 9 = (if β 0 9 < dp + 1 then dp + 1 else β 0 9) := by rw [hγ]; unfold tQu; simp (disch := omega) only [upS_h, upS_o, upS_i, Int.reduceAdd, Int.reduceSub, Int.reduceMul, Int.reduceNeg]
            have b9' : 0 ≤ γ 0 9 ∧ γ 0 9 ≤ 7 := by
              rw [b9]
              split
              all_goals omega
            have b12 : γ 12 (β 0 7) = qK (chC α (sk α p)) := by rw [hγ]; unfold tQu; simp (disch := omega) only [upS_h, upS_o, upS_i, Int.reduceAdd, Int.reduceSub, Int.reduceMul, Int.reduceNeg]
            have b13 : γ 13 (β 0 7) = chC α (k1 α p) - 48 := by rw [hγ]; unfold tQu; simp (disch := omega) only [upS_h, upS_o, upS_i, Int.reduceAdd, Int.reduceSub, Int.reduceMul, Int.reduceNeg]
            clear hγ
            have ed : dp + 1 - 1 = dp := by omega
            have P1 := nd_p hw f (β 0 7) (dp + 1) (k2 α p + 1) γ (by omega) (by omega) (by omega) (by omega) (by omega) (by omega)
            have D1 := ih (β 0 7) (dp + 1) (k2 α p + 1) 0 τ γ n (fO_X t2.1 hx) t3.1 (by omega) (by omega) (by omega) (by omega) (by omega) (by omega) (by omega) ⟨Or.inl rfl, fun _ => by rw [ed]; exact ⟨t5.2, t5.1, hb.1, by omega⟩⟩ t3.2.1 t3.2.2 (by omega)
            obtain ⟨R1, hR1⟩ : ∃ x, x = ndS α f (β 0 7) (dp + 1) (k2 α p + 1) γ := ⟨_, rfl⟩
            rw [← hR1] at P1 D1
            rw [← hR1]
            clear hR1
            unfold nd2
            rcases D1 with ⟨g1, n1, τ1, g2, g3, g4, g5, g6, g7⟩ | ⟨g1, τ1, g2, g3, g4, g5⟩
            · rw [if_pos g1]
              obtain ⟨l1, l2, l3, l4, l5, l6, l7, l8, l9, l10⟩ := P1.2 g1
              obtain ⟨gf, gA, gB, gC, gD, gE⟩ := g4
              have g7 := g7 (by omega)
              rw [ed] at g7
              rw [if_neg (show ¬ dp + 1 = 0 by omega)] at g2
              have P2 := nd_p hw f (β 0 7) (dp + 1) R1.2.1 R1.2.2 (by omega) (by omega) (by omega) (by omega) (by omega) (by omega)
              have D2 := ih (β 0 7) (dp + 1) R1.2.1 1 τ1 R1.2.2 n1 (fO_X gf (fO_X t2.1 hx)) g5.1 (by omega) (by omega) (by omega) (by omega) (by omega) (by omega) (by omega) ⟨Or.inr rfl, fun _ => by rw [ed]; exact ⟨g7.2, by rw [gD dp (by omega)]; exact t5.1, hb.1, by omega⟩⟩ g5.2.1 g5.2.2 (by omega)
              obtain ⟨R2, hR2⟩ : ∃ x, x = ndS α f (β 0 7) (dp + 1) R1.2.1 R1.2.2 := ⟨_, rfl⟩
              rw [← hR2] at P2 D2
              rw [← hR2]
              clear hR2
              unfold nd3
              rcases D2 with ⟨m1, n2, τ2, m2, m3, m4, m5, m6, m7⟩ | ⟨m1, τ2, m2, m3, m4, m5⟩
              · rw [if_pos m1]
                obtain ⟨s1, s2, s3, s4, s5, s6, s7, s8, s9, s10⟩ := P2.2 m1
                obtain ⟨mf, mA, mB, mC, mD, mE⟩ := m4
                have m7 := m7 (by omega)
                rw [ed] at m7
                rw [if_neg (show ¬ dp + 1 = 0 by omega)] at m2
                have F2 : fO σ τ2 := fO_t (fO_t t2.1 gf) mf
                have q2 := sk_r (p := R2.2.1) hw (by omega) (by omega)
                have rr2 := ch_p hw (show 0 ≤ sk α R2.2.1 by omega) q2.1.2
                have ss2 := sk_s (p := R2.2.1) hw (by omega) (by omega)
                obtain ⟨n2, rfl⟩ : ∃ k, n2 = k + 1 := ⟨n2 - 1, by omega⟩
                have step : lp_X10_readsTree_16 kx (n2 + 1) τ2 (R2.2.2 0 7) (dp + 1) 0 = bd2 (f_X10_takes (upS τ2 118 15 (sk α R2.2.1)) 41 41) fun v10 σ11 => if wI v10 < 0 then some ((-1), σ11) else jn_X10_readsTree_251 (lp_X10_readsTree_16 kx n2) σ11 (R2.2.2 0 7) (dp + 1 + (-1)) := by
                  rw [lp_X10_readsTree_16, ewl_t (by omega), m_here (fO_X F2 hx) hw m5.1 (by omega) (by omega), bd2_s, bnd_d, ilw_t (by omega), rdA_t (by omega), ed, upS_o (by omega), m7.2, ewl_t (by omega)]
                have chain : lp_X10_readsTree_16 kx (n + 1) σ (β 0 7) dp 0 = lp_X10_readsTree_16 kx (n2 + 1) τ2 (R2.2.2 0 7) (dp + 1) 0 := by
                  rw [t1, ← b7, g2, m2]
                by_cases c5 : chC α (sk α R2.2.1) = 41
                · rw [if_pos c5]
                  have tk := m_takes_t (a := 41) (b := 41) (fO_X (fO_t F2 (fO_15 (x := sk α R2.2.1))) hx) hw (upS_h ⟨rfl, rfl⟩) (by omega) (by omega) (by omega) (show 41 ≤ chC α (sk α (sk α R2.2.1)) ∧ chC α (sk α (sk α R2.2.1)) ≤ 41 by rw [ss2]; omega)
                  rw [ss2, upS_u, c5] at tk
                  rw [tk, bd2_s, iwl_f (by omega)] at step
                  unfold jn_X10_readsTree_251 at step
                  rw [bnd_d, show dp + 1 + (-1) = dp by omega, wI_id (x := dp) (by omega) (by omega)] at step
                  have zo : ∀ o i, ¬ o = 14 → ¬ o = 15 → tBr R2.2.2 (β 0 7) (β 0 7 + 1) (R1.2.2 0 7) o i = R2.2.2 o i := fun o i h14 h15 => by unfold tBr; rw [upS_o h15, upS_o h14]
                  have zn : ∀ o i, ¬ i = β 0 7 → tBr R2.2.2 (β 0 7) (β 0 7 + 1) (R1.2.2 0 7) o i = R2.2.2 o i := fun o i hi => by unfold tBr; rw [upS_i hi, upS_i hi]
                  have z14 : tBr R2.2.2 (β 0 7) (β 0 7 + 1) (R1.2.2 0 7) 14 (β 0 7) = β 0 7 + 1 := by
                    unfold tBr
                    simp (disch := omega) only [upS_h, upS_o, upS_i, Int.reduceAdd, Int.reduceSub, Int.reduceMul, Int.reduceNeg]
                  have z15 : tBr R2.2.2 (β 0 7) (β 0 7 + 1) (R1.2.2 0 7) 15 (β 0 7) = R1.2.2 0 7 := by
                    unfold tBr
                    simp (disch := omega) only [upS_h, upS_o, upS_i, Int.reduceAdd, Int.reduceSub, Int.reduceMul, Int.reduceNeg]
                  refine Or.inl ⟨rfl, n2, upS τ2 118 15 (sk α R2.2.1 + 1), ?_, ?_, ⟨fO_t F2 fO_15, fun i hi => ?_, fun i hi hi2 => ?_, fun i hi hi2 => ?_, fun i hi => ?_, fun i hi => ?_⟩, ⟨?_, ?_, ?_⟩, ?_, fun c => ?_⟩
                  · rw [chain, step]
                    show _ = lp_X10_readsTree_16 kx n2 (upS τ2 118 15 (sk α R2.2.1 + 1)) (tBr R2.2.2 (β 0 7) (β 0 7 + 1) (R1.2.2 0 7) 0 7) dp (if dp = 0 then 1 else 0)
                    rw [zo 0 7 (by omega) (by omega)]
                  · show ((n + 1 : Nat) : Int) ≤ n2 + (sk α R2.2.1 + 1 - p)
                    omega
                  · rw [upS_o (by omega), upS_o (by omega), (mA i (by omega)).1, (mA i (by omega)).2, (gA i (by omega)).1, (gA i (by omega)).2]
                    exact t2.2.1 i hi
                  · rw [upS_o (by omega), mB i (by omega) (by omega), gB i (by omega) (by omega)]
                    exact t2.2.2.1 i hi hi2
                  · rw [upS_o (by omega), mC i (by omega) (by omega), gC i (by omega) (by omega)]
                    exact t2.2.2.2.1 i hi hi2
                  · rw [upS_o (by omega), mD i (by omega), gD i (by omega)]
                    exact t2.2.2.2.2.1 i hi
                  · rw [upS_o (by omega), mE i (by omega), gE i (by omega)]
                    exact t2.2.2.2.2.2 i hi
                  · rw [upS_h ⟨rfl, rfl⟩]
                  · show _ = tBr R2.2.2 (β 0 7) (β 0 7 + 1) (R1.2.2 0 7) 0 8
                    rw [upS_i (by omega), m5.2.1, zo 0 8 (by omega) (by omega)]
                  · show _ = tBr R2.2.2 (β 0 7) (β 0 7 + 1) (R1.2.2 0 7) 0 9
                    rw [upS_i (by omega), m5.2.2, zo 0 9 (by omega) (by omega)]
                  · show dMt _ (tBr R2.2.2 (β 0 7) (β 0 7 + 1) (R1.2.2 0 7)) (β 0 7) (tBr R2.2.2 (β 0 7) (β 0 7 + 1) (R1.2.2 0 7) 0 7)
                    rw [zo 0 7 (by omega) (by omega)]
                    have u1 : dMt (upS τ2 118 15 (sk α R2.2.1 + 1)) (tBr R2.2.2 (β 0 7) (β 0 7 + 1) (R1.2.2 0 7)) (β 0 7 + 1) (R1.2.2 0 7) := by
                      rw [b7] at g6
                      refine dMt_c g6 (fun o i o1 o2 i1 i2 => ?_) (fun o i o1 o2 i1 i2 => ?_)
                      · rw [upS_o (by omega)]
                        have : o = 129 ∨ o = 130 ∨ o = 131 ∨ o = 132 := by omega
                        rcases this with rfl | rfl | rfl | rfl
                        · exact (mA i (by omega)).1
                        · exact (mA i (by omega)).2
                        · exact mB i (by omega) (by omega)
                        · exact mC i (by omega) (by omega)
                      · rw [zn o i (by omega), s5 o i (by omega) i2]
                    have u2 : dMt (upS τ2 118 15 (sk α R2.2.1 + 1)) (tBr R2.2.2 (β 0 7) (β 0 7 + 1) (R1.2.2 0 7)) (R1.2.2 0 7) (R2.2.2 0 7) := by
                      refine dMt_c m6 (fun o i o1 o2 i1 i2 => ?_) (fun o i o1 o2 i1 i2 => ?_)
                      · rw [upS_o (by omega)]
                      · rw [zn o i (by omega)]
                    intro i i1 i2
                    by_cases d1 : i < R1.2.2 0 7
                    · by_cases d0 : i = β 0 7
                      · subst d0
                        rw [z14, z15, zo 12 _ (by omega) (by omega), zo 13 _ (by omega) (by omega), s5 12 _ (by omega) (by omega), l5 12 _ (by omega) (by omega), s5 13 _ (by omega) (by omega), l5 13 _ (by omega) (by omega), b12, b13, upS_o (by omega), upS_o (by omega), upS_o (by omega), upS_o (by omega), (mA _ (by omega)).1, (mA _ (by omega)).2, (gA _ (by omega)).1, (gA _ (by omega)).2, mB _ (by omega) (by omega)]
                        refine ⟨t4.1, t4.2, fun _ => ⟨?_, m7.1⟩⟩
                        rw [← b7]
                        exact g7.1
                      · exact u1 i (by omega) d1
                    · exact u2 i (by omega) i2
                  · rw [upS_o (by omega), upS_o (by omega), mE (dp - 1) (by omega), gE (dp - 1) (by omega)]
                    refine ⟨?_, (t6 c).2⟩
                    have ha := (hh.2 c).2.2
                    rcases hh1 with e | e
                    · subst e
                      show τ2 131 a = β 0 7
                      rw [mB a (by omega) (by omega), gB a (by omega) (by omega)]
                      exact (t6 c).1
                    · subst e
                      show τ2 132 a = β 0 7
                      rw [mC a (by omega) (by omega), gC a (by omega) (by omega)]
                      exact (t6 c).1
                · rw [if_neg c5]
                  have tk := m_takes_f (a := 41) (b := 41) (fO_X (fO_t F2 (fO_15 (x := sk α R2.2.1))) hx) hw (upS_h ⟨rfl, rfl⟩) (by omega) (by omega) (by omega) (show ¬ (41 ≤ chC α (sk α (sk α R2.2.1)) ∧ chC α (sk α (sk α R2.2.1)) ≤ 41) by rw [ss2]; omega)
                  rw [ss2, upS_u] at tk
                  rw [tk, bd2_s, iwl_t (by omega)] at step
                  refine Or.inr ⟨by show ¬ sk α R2.2.1 = -1; omega, _, by rw [chain, step], fO_t F2 fO_15, ?_, ?_⟩
                  · rw [upS_h ⟨rfl, rfl⟩]; omega
                  · rw [upS_h ⟨rfl, rfl⟩]; exact ss2
              · rw [if_neg m1]
                exact Or.inr ⟨m1, τ2, by rw [t1, ← b7, g2, m2], fO_t (fO_t t2.1 gf) m3, m4, m5⟩
            · rw [if_neg g1]
              exact Or.inr ⟨g1, τ1, by rw [t1, ← b7, g2], fO_t t2.1 g3, g4, g5⟩
          · rw [if_neg c4]
            refine Or.inr ⟨by show ¬ k2 α p = -1; omega, upS σ 118 15 (k2 α p), ?_, fO_15, ?_, ?_⟩
            · rw [m_head kx hx hw hp h3 h4 ⟨h0, h1⟩ hh]
              unfold jn_X10_readsTree_68
              rw [ewl_f (by omega), ilw_t (by omega), iwl_t (by omega), wrF_d, upS_u, upS_h ⟨rfl, rfl⟩, eq]
              rw [m_takes_t (fO_X fO_15 hx) hw (upS_h ⟨rfl, rfl⟩) (by omega) (by omega) (by omega) (show 48 ≤ chC α (sk α (sk α p + 1)) ∧ _ from c3'), bd2_s, upS_u, e1', iwl_f (by omega)]
              rw [m_takes_f (fO_X fO_15 hx) hw (upS_h ⟨rfl, rfl⟩) (by omega) (by omega) (by omega) (show ¬ (40 ≤ chC α (sk α (k1 α p + 1)) ∧ chC α (sk α (k1 α p + 1)) ≤ 40) by rw [e3']; omega), bd2_s, upS_u, e3', iwl_t (by omega)]
            · rw [upS_h ⟨rfl, rfl⟩]; omega
            · rw [upS_h ⟨rfl, rfl⟩]; exact sk_s hw (by omega) (by omega)
        · have c3' := c3
          unfold okG at c3'
          rw [if_neg c3]
          refine Or.inr ⟨by show ¬ k1 α p = -1; omega, upS σ 118 15 (k1 α p), ?_, fO_15, ?_, ?_⟩
          · rw [m_head kx hx hw hp h3 h4 ⟨h0, h1⟩ hh]
            unfold jn_X10_readsTree_68
            rw [ewl_f (by omega), ilw_t (by omega), iwl_t (by omega), wrF_d, upS_u, upS_h ⟨rfl, rfl⟩, eq]
            rw [m_takes_f (fO_X fO_15 hx) hw (upS_h ⟨rfl, rfl⟩) (by omega) (by omega) (by omega) (show ¬ (48 ≤ chC α (sk α (sk α p + 1)) ∧ chC α (sk α (sk α p + 1)) ≤ qM (qK (chC α (sk α p)))) from c3'), bd2_s, upS_u, e1', iwl_t (by omega)]
          · rw [upS_h ⟨rfl, rfl⟩]; omega
          · rw [upS_h ⟨rfl, rfl⟩]; exact sk_s hw (by omega) (by omega)
      · rw [if_neg c2]
        refine Or.inr ⟨by show ¬ sk α p = -1; omega, upS σ 118 15 (sk α p), ?_, fO_15, ?_, ?_⟩
        · rw [m_head kx hx hw hp h3 h4 ⟨h0, h1⟩ hh]
          unfold jn_X10_readsTree_68
          rw [ewl_f (by omega)]
          have kr := qK_r (c := chC α (sk α p))
          by_cases c3 : 0 < qK (chC α (sk α p))
          · rw [ilw_t (by omega), iwl_f (by omega)]
          · rw [ilw_f (by omega)]
        · rw [upS_h ⟨rfl, rfl⟩]; omega
        · rw [upS_h ⟨rfl, rfl⟩]; exact ss
