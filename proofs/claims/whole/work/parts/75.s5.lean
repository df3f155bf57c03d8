/-! ===== a tree is read by the class ===== -/
def fT (σ τ : St) : Prop := (∀ o, (o < 21 ∨ (21 < o ∧ o < 27) ∨ 33 < o) → τ o = σ o) ∧ ∀ i, ¬ i = 5 → ¬ i = 6 → τ 21 i = σ 21 i
theorem fT_t {σ τ ρ : St} (h1 : fT σ τ) (h2 : fT τ ρ) : fT σ ρ := ⟨fun o ho => (h2.1 o ho).trans (h1.1 o ho), fun i a b => (h2.2 i a b).trans (h1.2 i a b)⟩
theorem fT_X {σ τ α : St} (h : fT σ τ) (hx : cX σ α) : cX τ α := cX_c (h.2 3 (by omega) (by omega)) (h.1 22 (by omega)) rfl rfl hx
theorem fT_5 {σ : St} {x : Int} : fT σ (upS σ 21 5 x) := ⟨fun o ho => upS_of (by omega), fun i a b => upS_i a⟩
theorem fT_6 {σ : St} {x : Int} : fT σ (upS σ 21 6 x) := ⟨fun o ho => upS_of (by omega), fun i a b => upS_i b⟩
theorem fT_o {σ τ : St} (h : ∀ o, (o < 27 ∨ 33 < o) → τ o = σ o) : fT σ τ := ⟨fun o ho => h o (by omega), fun i a b => by rw [h 21 (by omega)]⟩
def cN (σ β : St) : Prop := σ 27 6 = β 0 7 ∧ σ 27 7 = β 0 8 ∧ σ 27 8 = β 0 9
def dTr (σ β : St) (lo hi : Int) : Prop := ∀ i, lo ≤ i → i < hi → σ 28 i = ltC (β 12 i) ∧ σ 30 i = β 16 i ∧ (β 12 i ≠ 0 → σ 29 i = β 13 i ∧ σ 31 i = β 14 i ∧ σ 32 i = β 15 i) ∧ (β 12 i = 0 → σ 33 i = β 13 i)
theorem dTr_c {σ τ β γ : St} {lo hi : Int} (h : dTr σ β lo hi) (e : ∀ o i, 28 ≤ o → o ≤ 33 → lo ≤ i → i < hi → τ o i = σ o i) (g : ∀ o i, 12 ≤ o → o ≤ 16 → lo ≤ i → i < hi → γ o i = β o i) : dTr τ γ lo hi := by
  intro i i1 i2
  rw [e 28 i (by omega) (by omega) i1 i2, e 29 i (by omega) (by omega) i1 i2, e 30 i (by omega) (by omega) i1 i2, e 31 i (by omega) (by omega) i1 i2, e 32 i (by omega) (by omega) i1 i2, e 33 i (by omega) (by omega) i1 i2, g 12 i (by omega) (by omega) i1 i2, g 13 i (by omega) (by omega) i1 i2, g 14 i (by omega) (by omega) i1 i2, g 15 i (by omega) (by omega) i1 i2, g 16 i (by omega) (by omega) i1 i2]
  exact h i i1 i2
theorem c_aNode {σ β : St} {l fg a : Int} (h : σ 27 6 = β 0 7) (h0 : 0 ≤ β 0 7) (h1 : β 0 7 < 120) : ∃ τ, f_X7_addNode σ 27 l fg a = some (β 0 7, τ) ∧ (τ 28 (β 0 7) = l ∧ τ 29 (β 0 7) = fg ∧ τ 30 (β 0 7) = a) ∧ (τ 27 6 = β 0 7 + 1 ∧ τ 27 7 = σ 27 7 ∧ τ 27 8 = σ 27 8) ∧ (∀ o, (o < 27 ∨ 33 < o) → τ o = σ o) ∧ ∀ o i, 28 ≤ o → o ≤ 33 → i < β 0 7 → τ o i = σ o i := by
  unfold f_X7_addNode
  rw [iwl_f (by omega), iwl_t (by omega), bnd_d, h]
  simp (disch := omega) only [↓rdA_t, ↓wrA_t, ↓ixA_t, ↓wrF_d, ↓bd2_s, ↓bd1_s, ↓bnd_d, ↓iww_t, ↓iww_f, ↓iwl_t, ↓iwl_f, ↓ilw_t, ↓ilw_f, ↓eww_t, ↓eww_f, ↓ewl_t, ↓ewl_f, ↓ez_t, ↓ez_f, ↓il_t, ↓il_f, il_t, il_f, ez_t, ez_f, if_true, if_false, upS_h, upS_o, upS_i, Int.reduceAdd, Int.reduceSub, Int.reduceMul, Int.reduceNeg, wI_id, h]
  refine ⟨_, rfl, ⟨?_, ?_, ?_⟩, ⟨?_, ?_, ?_⟩, fun o ho => ?_, fun o i o1 o2 hi => ?_⟩
  · simp (disch := omega) only [upS_h, upS_o, upS_i, Int.reduceAdd, Int.reduceSub, Int.reduceMul, Int.reduceNeg]
  · simp (disch := omega) only [upS_h, upS_o, upS_i, Int.reduceAdd, Int.reduceSub, Int.reduceMul, Int.reduceNeg]
  · simp (disch := omega) only [upS_h, upS_o, upS_i, Int.reduceAdd, Int.reduceSub, Int.reduceMul, Int.reduceNeg]
  · simp (disch := omega) only [upS_h, upS_o, upS_i, Int.reduceAdd, Int.reduceSub, Int.reduceMul, Int.reduceNeg, h]
  · simp (disch := omega) only [upS_h, upS_o, upS_i, Int.reduceAdd, Int.reduceSub, Int.reduceMul, Int.reduceNeg]
  · simp (disch := omega) only [upS_h, upS_o, upS_i, Int.reduceAdd, Int.reduceSub, Int.reduceMul, Int.reduceNeg]
  · rw [upS_of (by omega), upS_of (by omega), upS_of (by omega), upS_of (by omega), upS_of (by omega), upS_of (by omega), upS_of (by omega)]
  · rw [upS_o (by omega), upS_i (by omega), upS_i (by omega), upS_i (by omega), upS_i (by omega), upS_i (by omega), upS_i (by omega)]
theorem c_aLeaf {σ β : St} {a dp : Int} (h : cN σ β) (h0 : 0 ≤ β 0 7) (h1 : β 0 7 < 120) : ∃ τ, f_X7_addLeaf σ 27 a = some (β 0 7, τ) ∧ cN τ (tLf β a dp) ∧ dTr τ (tLf β a dp) (β 0 7) (β 0 7 + 1) ∧ (∀ o, (o < 27 ∨ 33 < o) → τ o = σ o) ∧ ∀ o i, 28 ≤ o → o ≤ 33 → i < β 0 7 → τ o i = σ o i := by
  obtain ⟨τ, e1, ⟨e2, e3, e4⟩, ⟨e5, e6, e7⟩, e8, e9⟩ := c_aNode (l := 42) (fg := 0) (a := a) h.1 h0 h1
  have h7 := h.2.1
  have h8 := h.2.2
  unfold f_X7_addLeaf
  rw [e1, bd2_s, ewl_f (by omega), wrA_t (by omega), wrF_d, e6, h7, upS_o (by omega), e6, h7]
  refine ⟨_, rfl, ⟨?_, ?_, ?_⟩, fun i i1 i2 => ?_, fun o ho => ?_, fun o i o1 o2 hi => ?_⟩
  · unfold tLf
    simp (disch := omega) only [upS_h, upS_o, upS_i, Int.reduceAdd, Int.reduceSub, Int.reduceMul, Int.reduceNeg, e5]
  · unfold tLf
    simp (disch := omega) only [upS_h, upS_o, upS_i, Int.reduceAdd, Int.reduceSub, Int.reduceMul, Int.reduceNeg]
  · unfold tLf
    simp (disch := omega) only [upS_h, upS_o, upS_i, Int.reduceAdd, Int.reduceSub, Int.reduceMul, Int.reduceNeg, e7, h8]
  · have ei : i = β 0 7 := by omega
    subst ei
    unfold tLf
    simp (disch := omega) only [upS_h, upS_o, upS_i, Int.reduceAdd, Int.reduceSub, Int.reduceMul, Int.reduceNeg, e2, e4]
    exact ⟨rfl, trivial, fun z => absurd rfl z, fun _ => trivial⟩
  · rw [upS_of (by omega), upS_of (by omega), e8 o ho]
  · rw [upS_o (by omega), upS_i (by omega), e9 o i o1 o2 hi]
theorem c_aQu {σ β : St} {k fg a dp : Int} (h : cN σ β) (h0 : 0 ≤ β 0 7) (h1 : β 0 7 < 120) (h9 : 0 ≤ β 0 9 ∧ β 0 9 ≤ 7) (hd : 0 ≤ dp ∧ dp ≤ 7) : ∃ τ, f_X7_addQuestion σ 27 (ltC k) fg a (dp + 1) = some (β 0 7, τ) ∧ cN τ (tQu β k fg a dp) ∧ (τ 28 (β 0 7) = ltC k ∧ τ 29 (β 0 7) = fg ∧ τ 30 (β 0 7) = a) ∧ (∀ o, (o < 27 ∨ 33 < o) → τ o = σ o) ∧ ∀ o i, 28 ≤ o → o ≤ 33 → i < β 0 7 → τ o i = σ o i := by
  have h7 := h.2.1
  have h8 := h.2.2
  obtain ⟨τ, e1, e2, ⟨e5, e6, e7⟩, e8, e9⟩ := c_aNode (σ := upS σ 27 8 (if β 0 9 < dp + 1 then dp + 1 else β 0 9)) (β := β) (l := ltC k) (fg := fg) (a := a) (by rw [upS_i (by omega)]; exact h.1) h0 h1
  unfold f_X7_addQuestion
  rw [wrF_d, h8, max_e (by omega), e1, bd2_s]
  refine ⟨τ, rfl, ⟨?_, ?_, ?_⟩, e2, fun o ho => ?_, fun o i o1 o2 hi => ?_⟩
  · unfold tQu
    simp (disch := omega) only [upS_h, upS_o, upS_i, Int.reduceAdd, Int.reduceSub, Int.reduceMul, Int.reduceNeg, e5]
  · rw [e6, upS_i (by omega), h7]
    unfold tQu
    simp (disch := omega) only [upS_h, upS_o, upS_i, Int.reduceAdd, Int.reduceSub, Int.reduceMul, Int.reduceNeg]
  · rw [e7, upS_h ⟨rfl, rfl⟩]
    unfold tQu
    simp (disch := omega) only [upS_h, upS_o, upS_i, Int.reduceAdd, Int.reduceSub, Int.reduceMul, Int.reduceNeg]
  · rw [e8 o ho, upS_of (by omega)]
  · rw [e9 o i o1 o2 hi, upS_o (by omega)]
/-- what the class does when it reads a node -/
def ndC (σ β : St) (R : Int × Int × St) (v : Int) (τ : St) : Prop := fT σ τ ∧ ((R.1 = -1 ∧ v = β 0 7 ∧ τ 21 5 = R.2.1 ∧ τ 21 6 = -1 ∧ cN τ R.2.2 ∧ dTr τ R.2.2 (β 0 7) (R.2.2 0 7) ∧ ∀ o i, 28 ≤ o → o ≤ 33 → i < β 0 7 → τ o i = σ o i) ∨ (¬ R.1 = -1 ∧ τ 21 6 = R.1))
theorem c_quest {c : Int} (hc : -1 ≤ c ∧ c ≤ 127) : (0 < qK c ∧ f_X6_isQuestion c = 1 ∧ ltC (qK c) = c ∧ (if wI c = 76 then (6 : Int) else (if wI c = 82 then 6 else 9)) = qM (qK c) - 48) ∨ (qK c = 0 ∧ f_X6_isQuestion c = 0) := by
  unfold f_X6_isQuestion
  rw [wI_id (x := c) (by omega) (by omega)]
  rcases qK_r (c := c) with ⟨h, rfl⟩ | ⟨h, rfl⟩ | ⟨h, rfl⟩ | ⟨h, rfl⟩ | ⟨h, h1, h2, h3, h4⟩
  · left; decide
  · left; decide
  · left; decide
  · left; decide
  · right
    rw [if_neg h1, if_neg h2, if_neg h3, if_neg h4]
    exact ⟨h, rfl⟩
theorem c_node {α : St} (hw : wX α) : ∀ (f : Nat) (a dp p : Int) (σ β : St), cX σ α → σ 21 5 = p → σ 21 6 = -1 → 0 ≤ dp → dp ≤ 7 → dp + f = 9 → 0 ≤ p → p ≤ α 0 6 → (0 ≤ β 0 7 ∧ 0 ≤ β 0 8 ∧ 0 ≤ β 0 9 ∧ β 0 9 ≤ 7) → β 0 7 ≤ p → cN σ β → ∃ v τ, f_X6_readNode f σ a dp = some (v, τ) ∧ ndC σ β (ndS α f a dp p β) v τ := by
  intro f
  have w2 := hw.2.1
  induction f with
  | zero => intro a dp p σ β h hp hf h0 h1 h2 h3 h4 hb hbp hc; omega
  | succ f ih =>
    intro a dp p σ β h hp hf h0 h1 h2 h3 h4 hb hbp hc
    have q := sk_r hw h3 h4
    rw [f_X6_readNode, ndS, c_look h hw hp h3 h4, bd2_s]
    by_cases c1 : chC α (sk α p) = 42
    · rw [if_pos c1, ewl_t (by omega), wrF_d, upS_u, upS_h ⟨rfl, rfl⟩]
      obtain ⟨τ, e1, e2, e3, e4, e5⟩ := c_aLeaf (σ := upS σ 21 5 (sk α p + 1)) (β := β) (a := a) (dp := dp) ⟨by rw [upS_o (by omega)]; exact hc.1, by rw [upS_o (by omega)]; exact hc.2.1, by rw [upS_o (by omega)]; exact hc.2.2⟩ hb.1 (by omega)
      rw [e1, bd2_s]
      refine ⟨_, τ, rfl, fT_t fT_5 (fT_o e4), Or.inl ⟨rfl, rfl, ?_, ?_, e2, ?_, fun o i o1 o2 hi => by rw [e5 o i o1 o2 hi, upS_o (by omega)]⟩⟩
      · rw [e4 21 (by omega), upS_h ⟨rfl, rfl⟩]
      · rw [e4 21 (by omega), upS_i (by omega), hf]
      · have e7 : tLf β a dp 0 7 = β 0 7 + 1 := by unfold tLf; simp (disch := omega) only [upS_h, upS_o, upS_i, Int.reduceAdd, Int.reduceSub, Int.reduceMul, Int.reduceNeg]
        show dTr τ (tLf β a dp) (β 0 7) (tLf β a dp 0 7)
        rw [e7]
        exact e3
    · rw [if_neg c1, ewl_f (by omega)]
      have failing : ∀ R : Int × Int × St, R.1 = sk α p → ∃ v τ, (bd2 (f_X6_fail (upS σ 21 5 (sk α p))) fun v9 σ10 => some (v9, σ10)) = some (v, τ) ∧ ndC σ β R v τ := by
        intro R hR
        unfold f_X6_fail
        rw [wrF_d, bd2_s, upS_h ⟨rfl, rfl⟩]
        exact ⟨_, _, rfl, fT_t fT_5 fT_6, Or.inr ⟨by rw [hR]; omega, by rw [hR]; exact upS_h ⟨rfl, rfl⟩⟩⟩
      rcases c_quest (c := chC α (sk α p)) (by omega) with ⟨k1', k2', k3', k4'⟩ | ⟨k1', k2'⟩
      · rw [k2', if_neg (by omega)]
        by_cases c2 : dp < 7
        · rw [if_pos (show 0 < qK (chC α (sk α p)) ∧ dp < 7 from ⟨k1', c2⟩), iwl_t (by omega), wrF_d, upS_u, upS_h ⟨rfl, rfl⟩, k4']
          have kr := qK_r (c := chC α (sk α p))
          have mr := qM_r (k := qK (chC α (sk α p)))
          have r1 := k1_r hw h3 h4 (by omega)
          have hx : cX (upS σ 21 5 (sk α p + 1)) α := fT_X fT_5 h
          have e1' : sk α (sk α p + 1) = k1 α p := rfl
          have e3' : sk α (k1 α p + 1) = k2 α p := rfl
          by_cases c3 : okG α p
          · have c3' := c3
            unfold okG at c3'
            have r2 := k2_r hw h3 h4 (by omega) (by omega)
            rw [if_pos c3, c_fig_t (a := 0) (b := qM (qK (chC α (sk α p))) - 48) hx hw (upS_h ⟨rfl, rfl⟩) (by omega) (by omega) (by omega) (by rw [e1']; omega), bd2_s, upS_u, e1', ewl_t (by rw [upS_i (by omega)]; omega)]
            obtain ⟨τ1, a1, a2, a3, a4, a5⟩ := c_aQu (σ := upS σ 21 5 (k1 α p + 1)) (β := β) (k := qK (chC α (sk α p))) (fg := chC α (k1 α p) - 48) (a := a) (dp := dp) ⟨by rw [upS_o (by omega)]; exact hc.1, by rw [upS_o (by omega)]; exact hc.2.1, by rw [upS_o (by omega)]; exact hc.2.2⟩ hb.1 (by omega) (by omega) (by omega)
            rw [k3'] at a1 a3
            rw [a1, bd2_s]
            unfold f_X6_readBranches
            have hx1 : cX τ1 α := fT_X (fT_t fT_5 (fT_o a4)) h
            have p1 : τ1 21 5 = k1 α p + 1 := by rw [a4 21 (by omega), upS_h ⟨rfl, rfl⟩]
            have f1 : τ1 21 6 = -1 := by rw [a4 21 (by omega), upS_i (by omega), hf]
            by_cases c4 : chC α (k2 α p) = 40
            · rw [if_pos c4, c_sign_t hx1 hw p1 (by omega) (by omega) c4, bd2_s, if_neg (by omega), e3']
              obtain ⟨γ, hγ⟩ : ∃ x, x = tQu β (qK (chC α (sk α p))) (chC α (k1 α p) - 48) a dp := ⟨_, rfl⟩
              rw [← hγ] at a2
              rw [← hγ]
              have b7 : γ 0 7 = β 0 7 + 1 := by rw [hγ]; unfold tQu; simp (disch := omega) only [upS_h, upS_o, upS_i, Int.reduceAdd, Int.reduceSub, Int.reduceMul, Int.reduceNeg]
              have b8 : γ 0 8 = β 0 8 := by rw [hγ]; unfold tQu; simp (disch := omega) only [upS_h, upS_o, upS_i, Int.reduceAdd, Int.reduceSub, Int.reduceMul, Int.reduceNeg]
              have b9 : γ 0 9 = (if β 0 9 < dp + 1 then dp + 1 else β 0 9) := by rw [hγ]; unfold tQu; simp (disch := omega) only [upS_h, upS_o, upS_i, Int.reduceAdd, Int.reduceSub, Int.reduceMul, Int.reduceNeg]
              have b9' : 0 ≤ γ 0 9 ∧ γ 0 9 ≤ 7 := by
                rw [b9]
                split
                all_goals omega
              have b12 : γ 12 (β 0 7) = qK (chC α (sk α p)) := by rw [hγ]; unfold tQu; simp (disch := omega) only [upS_h, upS_o, upS_i, Int.reduceAdd, Int.reduceSub, Int.reduceMul, Int.reduceNeg]
              have b13 : γ 13 (β 0 7) = chC α (k1 α p) - 48 := by rw [hγ]; unfold tQu; simp (disch := omega) only [upS_h, upS_o, upS_i, Int.reduceAdd, Int.reduceSub, Int.reduceMul, Int.reduceNeg]
              have b16 : γ 16 (β 0 7) = a := by rw [hγ]; unfold tQu; simp (disch := omega) only [upS_h, upS_o, upS_i, Int.reduceAdd, Int.reduceSub, Int.reduceMul, Int.reduceNeg]
              have P1 := nd_p hw f (β 0 7) (dp + 1) (k2 α p + 1) γ (by omega) (by omega) (by omega) (by omega) (by omega) (by omega)
              obtain ⟨v1, σ1, d1, d2, d3⟩ := ih (β 0 7) (dp + 1) (k2 α p + 1) (upS τ1 21 5 (k2 α p + 1)) γ (fT_X fT_5 hx1) (upS_h ⟨rfl, rfl⟩) (by rw [upS_i (by omega)]; exact f1) (by omega) (by omega) (by omega) (by omega) (by omega) (by omega) (by omega) ⟨by rw [upS_o (by omega)]; exact a2.1, by rw [upS_o (by omega)]; exact a2.2.1, by rw [upS_o (by omega)]; exact a2.2.2⟩
              rw [d1, bd2_s]
              obtain ⟨R1, hR1⟩ : ∃ x, x = ndS α f (β 0 7) (dp + 1) (k2 α p + 1) γ := ⟨_, rfl⟩
              rw [← hR1] at P1 d3
              rw [← hR1]
              have F1 : fT σ σ1 := fT_t (fT_t (fT_t fT_5 (fT_o a4)) fT_5) d2
              unfold nd2
              rcases d3 with ⟨g1, g2, g3, g4, g5, g6, g7⟩ | ⟨g1, g2⟩
              · rw [if_pos g1, ewl_t (by omega)]
                obtain ⟨l1, l2, l3, l4, l5, l6, l7, l8, l9, l10⟩ := P1.2 g1
                have P2 := nd_p hw f (β 0 7) (dp + 1) R1.2.1 R1.2.2 (by omega) (by omega) (by omega) (by omega) (by omega) (by omega)
                obtain ⟨v2, σ2, m1, m2, m3⟩ := ih (β 0 7) (dp + 1) R1.2.1 σ1 R1.2.2 (fT_X F1 h) g3 g4 (by omega) (by omega) (by omega) (by omega) (by omega) (by omega) (by omega) g5
                rw [m1, bd2_s]
                obtain ⟨R2, hR2⟩ : ∃ x, x = ndS α f (β 0 7) (dp + 1) R1.2.1 R1.2.2 := ⟨_, rfl⟩
                rw [← hR2] at P2 m3
                rw [← hR2]
                have F2 : fT σ σ2 := fT_t F1 m2
                unfold nd3
                rcases m3 with ⟨n1, n2, n3, n4, n5, n6, n7⟩ | ⟨n1, n2⟩
                · rw [if_pos n1, ewl_t (by omega)]
                  obtain ⟨s1, s2, s3, s4, s5, s6, s7, s8, s9, s10⟩ := P2.2 n1
                  have q2 := sk_r (p := R2.2.1) hw (by omega) (by omega)
                  by_cases c5 : chC α (sk α R2.2.1) = 41
                  · rw [if_pos c5, c_sign_t (fT_X F2 h) hw n3 (by omega) (by omega) c5, bd2_s, if_neg (by omega)]
                    unfold f_X7_putBranches f_X7_isNode
                    have en : upS σ2 21 5 (sk α R2.2.1 + 1) 27 6 = R2.2.2 0 7 := by rw [upS_o (by omega)]; exact n5.1
                    rw [iwl_f (by omega), iww_t (by rw [en]; omega), if_neg (by omega), wrA_t (by omega), wrA_t (by omega), bd2_s, bd2_s]
                    refine ⟨_, _, rfl, ?_, Or.inl ⟨rfl, rfl, ?_, ?_, ⟨?_, ?_, ?_⟩, ?_, fun o i o1 o2 hi => ?_⟩⟩
                    · exact fT_t (fT_t F2 fT_5) (fT_o (fun o ho => by rw [upS_of (by omega), upS_of (by omega)]))
                    · rw [upS_o (by omega), upS_o (by omega), upS_h ⟨rfl, rfl⟩]
                    · rw [upS_o (by omega), upS_o (by omega), upS_i (by omega), n4]
                    · rw [upS_o (by omega), upS_o (by omega), upS_o (by omega), n5.1]
                      show _ = tBr R2.2.2 (β 0 7) (β 0 7 + 1) (R1.2.2 0 7) 0 7
                      unfold tBr
                      rw [upS_o (by omega), upS_o (by omega)]
                    · rw [upS_o (by omega), upS_o (by omega), upS_o (by omega), n5.2.1]
                      show _ = tBr R2.2.2 (β 0 7) (β 0 7 + 1) (R1.2.2 0 7) 0 8
                      unfold tBr
                      rw [upS_o (by omega), upS_o (by omega)]
                    · rw [upS_o (by omega), upS_o (by omega), upS_o (by omega), n5.2.2]
                      show _ = tBr R2.2.2 (β 0 7) (β 0 7 + 1) (R1.2.2 0 7) 0 9
                      unfold tBr
                      rw [upS_o (by omega), upS_o (by omega)]
                    · have t7 : tBr R2.2.2 (β 0 7) (β 0 7 + 1) (R1.2.2 0 7) 0 7 = R2.2.2 0 7 := by unfold tBr; rw [upS_o (by omega), upS_o (by omega)]
                      show dTr _ (tBr R2.2.2 (β 0 7) (β 0 7 + 1) (R1.2.2 0 7)) (β 0 7) (tBr R2.2.2 (β 0 7) (β 0 7 + 1) (R1.2.2 0 7) 0 7)
                      rw [t7]
                      have u1 : dTr (upS (upS (upS σ2 21 5 (sk α R2.2.1 + 1)) (27 + 4) (β 0 7) v1) (27 + 5) (β 0 7) v2) (tBr R2.2.2 (β 0 7) (β 0 7 + 1) (R1.2.2 0 7)) (β 0 7 + 1) (R1.2.2 0 7) := by
                        rw [b7] at g6
                        refine dTr_c g6 (fun o i o1 o2 i1 i2 => ?_) (fun o i o1 o2 i1 i2 => ?_)
                        · rw [upS_i (by omega), upS_i (by omega), upS_o (by omega), n7 o i o1 o2 (by omega)]
                        · unfold tBr
                          rw [upS_i (by omega), upS_i (by omega), s5 o i (by omega) (by omega)]
                      have u2 : dTr (upS (upS (upS σ2 21 5 (sk α R2.2.1 + 1)) (27 + 4) (β 0 7) v1) (27 + 5) (β 0 7) v2) (tBr R2.2.2 (β 0 7) (β 0 7 + 1) (R1.2.2 0 7)) (R1.2.2 0 7) (R2.2.2 0 7) := by
                        refine dTr_c n6 (fun o i o1 o2 i1 i2 => ?_) (fun o i o1 o2 i1 i2 => ?_)
                        · rw [upS_i (by omega), upS_i (by omega), upS_o (by omega)]
                        · unfold tBr
                          rw [upS_i (by omega), upS_i (by omega)]
                      intro i i1 i2
                      by_cases d1 : i < R1.2.2 0 7
                      · by_cases d0 : i = β 0 7
                        · subst d0
                          have z12 : tBr R2.2.2 (β 0 7) (β 0 7 + 1) (R1.2.2 0 7) 12 (β 0 7) = qK (chC α (sk α p)) := by
                            unfold tBr
                            rw [upS_o (by omega), upS_o (by omega), s5 12 _ (by omega) (by omega), l5 12 _ (by omega) (by omega), b12]
                          have z13 : tBr R2.2.2 (β 0 7) (β 0 7 + 1) (R1.2.2 0 7) 13 (β 0 7) = chC α (k1 α p) - 48 := by
                            unfold tBr
                            rw [upS_o (by omega), upS_o (by omega), s5 13 _ (by omega) (by omega), l5 13 _ (by omega) (by omega), b13]
                          have z16 : tBr R2.2.2 (β 0 7) (β 0 7 + 1) (R1.2.2 0 7) 16 (β 0 7) = a := by
                            unfold tBr
                            rw [upS_o (by omega), upS_o (by omega), s5 16 _ (by omega) (by omega), l5 16 _ (by omega) (by omega), b16]
                          have z14 : tBr R2.2.2 (β 0 7) (β 0 7 + 1) (R1.2.2 0 7) 14 (β 0 7) = β 0 7 + 1 := by
                            unfold tBr
                            simp (disch := omega) only [upS_h, upS_o, upS_i, Int.reduceAdd, Int.reduceSub, Int.reduceMul, Int.reduceNeg]
                          have z15 : tBr R2.2.2 (β 0 7) (β 0 7 + 1) (R1.2.2 0 7) 15 (β 0 7) = R1.2.2 0 7 := by
                            unfold tBr
                            simp (disch := omega) only [upS_h, upS_o, upS_i, Int.reduceAdd, Int.reduceSub, Int.reduceMul, Int.reduceNeg]
                          have back : ∀ o, 28 ≤ o → o ≤ 33 → σ2 o (β 0 7) = τ1 o (β 0 7) := fun o o1 o2 => by rw [n7 o _ o1 o2 (by omega), g7 o _ o1 o2 (by omega), upS_o (by omega)]
                          rw [z12, z13, z14, z15, z16]
                          refine ⟨?_, ?_, fun _ => ⟨?_, ?_, ?_⟩, fun z => by omega⟩
                          · rw [upS_o (by omega), upS_o (by omega), upS_o (by omega), back 28 (by omega) (by omega), a3.1, k3']
                          · rw [upS_o (by omega), upS_o (by omega), upS_o (by omega), back 30 (by omega) (by omega), a3.2.2]
                          · rw [upS_o (by omega), upS_o (by omega), upS_o (by omega), back 29 (by omega) (by omega), a3.2.1]
                          · rw [upS_o (by omega), upS_h (by omega), g2, b7]
                          · rw [upS_h (by omega), n2]
                        · exact u1 i (by omega) d1
                      · exact u2 i (by omega) i2
                    · rw [upS_i (by omega), upS_i (by omega), upS_o (by omega), n7 o i o1 o2 (by omega), g7 o i o1 o2 (by omega), upS_o (by omega), a5 o i o1 o2 hi, upS_o (by omega)]
                  · rw [if_neg c5, c_sign_f (fT_X F2 h) hw n3 (by omega) (by omega) (by omega) c5, bd2_s, if_pos rfl, bd2_s]
                    exact ⟨_, _, rfl, fT_t F2 (fT_t fT_5 fT_6), Or.inr ⟨by show ¬ sk α R2.2.1 = -1; omega, upS_h ⟨rfl, rfl⟩⟩⟩
                · have := P2.1 n1
                  rw [if_neg n1, ewl_f (by omega), bd2_s]
                  exact ⟨_, _, rfl, F2, Or.inr ⟨n1, n2⟩⟩
              · have := P1.1 g1
                rw [if_neg g1, ewl_f (by omega), bd2_s]
                exact ⟨_, _, rfl, F1, Or.inr ⟨g1, g2⟩⟩
            · rw [if_neg c4, c_sign_f hx1 hw p1 (by omega) (by omega) (by omega) c4, bd2_s, if_pos rfl, bd2_s, e3']
              exact ⟨_, _, rfl, fT_t (fT_t fT_5 (fT_o a4)) (fT_t fT_5 fT_6), Or.inr ⟨by show ¬ k2 α p = -1; omega, upS_h ⟨rfl, rfl⟩⟩⟩
          · have c3' := c3
            unfold okG at c3'
            rw [if_neg c3, c_fig_f (a := 0) (b := qM (qK (chC α (sk α p))) - 48) hx hw (upS_h ⟨rfl, rfl⟩) (by omega) (by omega) (by omega) (by rw [e1']; omega), bd2_s, upS_u, e1', ewl_f (by rw [upS_h ⟨rfl, rfl⟩]; omega)]
            exact ⟨_, _, rfl, fT_t fT_5 fT_6, Or.inr ⟨by show ¬ k1 α p = -1; omega, upS_h ⟨rfl, rfl⟩⟩⟩
        · rw [iwl_f (by omega), if_neg (fun z => c2 z.2)]
          exact failing _ rfl
      · rw [k2', if_pos rfl, if_neg (by omega)]
        exact failing _ rfl
