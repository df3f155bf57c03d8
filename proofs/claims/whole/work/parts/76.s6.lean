/-! ===== a tree is read by the reference ===== -/
def fO (σ τ : St) : Prop := (∀ o, (o < 118 ∨ (118 < o ∧ o < 129) ∨ 134 < o) → τ o = σ o) ∧ ∀ i, ¬ i = 15 → ¬ i = 21 → ¬ i = 22 → τ 118 i = σ 118 i
theorem fO_t {σ τ ρ : St} (h1 : fO σ τ) (h2 : fO τ ρ) : fO σ ρ := ⟨fun o ho => (h2.1 o ho).trans (h1.1 o ho), fun i a b c => (h2.2 i a b c).trans (h1.2 i a b c)⟩
theorem fO_X {σ τ α : St} (h : fO σ τ) (hx : mX σ α) : mX τ α := mX_c (h.2 14 (by omega) (by omega) (by omega)) (h.1 127 (by omega)) rfl rfl hx
theorem fO_15 {σ : St} {x : Int} : fO σ (upS σ 118 15 x) := ⟨fun o ho => upS_of (by omega), fun i a b c => upS_i a⟩
/-- what a node leaves as it was: nodes before it but for the branch on which it hangs -/
def fN (σ τ : St) (N dp a h : Int) : Prop := fO σ τ ∧ (∀ i, i < N → τ 129 i = σ 129 i ∧ τ 130 i = σ 130 i) ∧ (∀ i, i < N → ¬ (0 < dp ∧ i = a ∧ h = 0) → τ 131 i = σ 131 i) ∧ (∀ i, i < N → ¬ (0 < dp ∧ i = a ∧ h = 1) → τ 132 i = σ 132 i) ∧ (∀ i, i < dp → τ 133 i = σ 133 i) ∧ ∀ i, i < dp - 1 → τ 134 i = σ 134 i
def hg (σ : St) (N dp a h : Int) : St := if 0 < dp then upS (upS σ (131 + h) a N) 134 (dp - 1) (h + 1) else σ
def Hh (σ : St) (N dp a h : Int) : Prop := (h = 0 ∨ h = 1) ∧ (0 < dp → σ 134 (dp - 1) = h ∧ σ 133 (dp - 1) = a ∧ 0 ≤ a ∧ a < N)
theorem hg_o {σ : St} {N dp a h o : Int} (hh : h = 0 ∨ h = 1) (ho : ¬ o = 131) (h2 : ¬ o = 132) (h4 : ¬ o = 134) : hg σ N dp a h o = σ o := by
  unfold hg
  by_cases c : 0 < dp
  · rw [if_pos c, upS_of h4, upS_of (by omega)]
  · rw [if_neg c]
theorem hg_1 {σ : St} {N dp a h i : Int} (hh : h = 0 ∨ h = 1) (hi : ¬ (0 < dp ∧ i = a ∧ h = 0)) : hg σ N dp a h 131 i = σ 131 i := by
  unfold hg
  by_cases c : 0 < dp
  · rw [if_pos c, upS_o (by omega)]
    by_cases c2 : h = 0
    · rw [upS_i (by omega)]
    · rw [upS_o (by omega)]
  · rw [if_neg c]
theorem hg_2 {σ : St} {N dp a h i : Int} (hh : h = 0 ∨ h = 1) (hi : ¬ (0 < dp ∧ i = a ∧ h = 1)) : hg σ N dp a h 132 i = σ 132 i := by
  unfold hg
  by_cases c : 0 < dp
  · rw [if_pos c, upS_o (by omega)]
    by_cases c2 : h = 1
    · rw [upS_i (by omega)]
    · rw [upS_o (by omega)]
  · rw [if_neg c]
theorem hg_4 {σ : St} {N dp a h i : Int} (hh : h = 0 ∨ h = 1) (hi : i < dp - 1 ∨ dp - 1 < i ∨ ¬ 0 < dp) : hg σ N dp a h 134 i = σ 134 i := by
  unfold hg
  by_cases c : 0 < dp
  · rw [if_pos c, upS_i (by omega), upS_o (by omega)]
  · rw [if_neg c]
theorem hg_h {σ : St} {N dp a h : Int} (hh : h = 0 ∨ h = 1) (c : 0 < dp) : hg σ N dp a h (131 + h) a = N ∧ hg σ N dp a h 134 (dp - 1) = h + 1 := by
  unfold hg
  rw [if_pos c]
  exact ⟨by rw [upS_o (by omega), upS_h ⟨rfl, rfl⟩], upS_h ⟨rfl, rfl⟩⟩
theorem m_hang {σ : St} {N dp a h : Int} (hp : Hh σ N dp a h) (hd : 0 ≤ dp ∧ dp ≤ 7) (hN : N ≤ 120) : f_X10_hangs σ N dp = some (0, hg σ N dp a h) := by
  unfold f_X10_hangs hg jn_X10_hangs_46
  by_cases c : 0 < dp
  · obtain ⟨h1, h2, h3, h4⟩ := hp.2 c
    rw [if_pos c, ilw_t (by omega), rdA_t (by omega), h1]
    rcases hp.1 with rfl | rfl
    · rw [ewl_t (by omega), rdA_t (by omega), h2, wrA_t (by omega), rdA_t (by omega), wrA_t (by omega), upS_o (by omega), h1]
      rfl
    · rw [ewl_f (by omega), rdA_t (by omega), h2, wrA_t (by omega), rdA_t (by omega), wrA_t (by omega), upS_o (by omega), h1]
      rfl
  · rw [if_neg c, ilw_f (by omega)]
def dMt (τ β : St) (lo hi : Int) : Prop := ∀ i, lo ≤ i → i < hi → τ 129 i = β 12 i ∧ τ 130 i = β 13 i ∧ (β 12 i ≠ 0 → τ 131 i = β 14 i ∧ τ 132 i = β 15 i)
theorem dMt_c {σ τ β γ : St} {lo hi : Int} (h : dMt σ β lo hi) (e : ∀ o i, 129 ≤ o → o ≤ 132 → lo ≤ i → i < hi → τ o i = σ o i) (g : ∀ o i, 12 ≤ o → o ≤ 15 → lo ≤ i → i < hi → γ o i = β o i) : dMt τ γ lo hi := by
  intro i i1 i2
  rw [e 129 i (by omega) (by omega) i1 i2, e 130 i (by omega) (by omega) i1 i2, e 131 i (by omega) (by omega) i1 i2, e 132 i (by omega) (by omega) i1 i2, g 12 i (by omega) (by omega) i1 i2, g 13 i (by omega) (by omega) i1 i2, g 14 i (by omega) (by omega) i1 i2, g 15 i (by omega) (by omega) i1 i2]
  exact h i i1 i2
theorem qu_e {c d : Int} (h : (c = -1 ∧ d = 0) ∨ (c = d ∧ 0 ≤ c ∧ c ≤ 127)) : f_X10_questionOf d = qK c := by
  unfold f_X10_questionOf qK
  rw [wI_id (x := d) (by omega) (by omega)]
  rcases h with ⟨rfl, rfl⟩ | ⟨rfl, _⟩
  · decide
  · rfl
theorem m_head {σ α : St} {N dp a h p : Int} {n : Nat} (kx : St → Option (Int × St)) (hx : mX σ α) (hw : wX α) (hp : σ 118 15 = p) (h0 : 0 ≤ p) (h1 : p ≤ α 0 6) (hd : 0 ≤ dp ∧ dp ≤ 7) (hh : Hh σ N dp a h) : lp_X10_readsTree_16 kx (n + 1) σ N dp 0 = jn_X10_readsTree_68 (lp_X10_readsTree_16 kx n) (upS σ 118 15 (sk α p)) N dp (chM α (sk α p)) (qK (chC α (sk α p))) := by
  have q := sk_r hw h0 h1
  have rr := ch_p hw (show 0 ≤ sk α p by omega) q.1.2
  rw [lp_X10_readsTree_16, ewl_t (by omega), m_here hx hw hp h0 h1, bd2_s, bnd_d, qu_e (c := chC α (sk α p)) (by omega)]
  by_cases c : 0 < dp
  · obtain ⟨h1, h2, h3, h4⟩ := hh.2 c
    have hh1 := hh.1
    rw [ilw_t (by omega), rdA_t (by omega), upS_o (by omega), h1, ewl_f (by omega)]
  · rw [ilw_f (by omega)]
/-- what the reference does when it reads a node -/
def ndM (α : St) (kx : St → Option (Int × St)) (n : Nat) (σ β : St) (a dp p h : Int) (R : Int × Int × St) : Prop := (R.1 = -1 ∧ ∃ (m : Nat) (τ : St), lp_X10_readsTree_16 kx n σ (β 0 7) dp 0 = lp_X10_readsTree_16 kx m τ (R.2.2 0 7) dp (if dp = 0 then 1 else 0) ∧ (n : Int) ≤ m + (R.2.1 - p) ∧ fN σ τ (β 0 7) dp a h ∧ (τ 118 15 = R.2.1 ∧ τ 118 21 = R.2.2 0 8 ∧ τ 118 22 = R.2.2 0 9) ∧ dMt τ R.2.2 (β 0 7) (R.2.2 0 7) ∧ (0 < dp → τ (131 + h) a = β 0 7 ∧ τ 134 (dp - 1) = h + 1)) ∨ (¬ R.1 = -1 ∧ ∃ τ, lp_X10_readsTree_16 kx n σ (β 0 7) dp 0 = some (-1, τ) ∧ fO σ τ ∧ (0 ≤ τ 118 15 ∧ τ 118 15 ≤ α 0 6) ∧ sk α (τ 118 15) = R.1)
theorem m_nleaf {σ α β : St} {a dp p h : Int} {n : Nat} (kx : St → Option (Int × St)) (hx : mX σ α) (hw : wX α) (hp : σ 118 15 = p) (h0 : 0 ≤ p) (h1 : p ≤ α 0 6) (hd : 0 ≤ dp ∧ dp ≤ 7) (hh : Hh σ (β 0 7) dp a h) (hb : 0 ≤ β 0 7 ∧ β 0 7 ≤ p) (hl : σ 118 21 = β 0 8) (ht : σ 118 22 = β 0 9) (hc : chC α (sk α p) = 42) : ndM α kx (n + 1) σ β a dp p h (-1, sk α p + 1, tLf β a dp) := by
  have w2 := hw.2.1
  have q := sk_r hw h0 h1
  have rr := ch_p hw (show 0 ≤ sk α p by omega) q.1.2
  have hh1 := hh.1
  have e7 : tLf β a dp 0 7 = β 0 7 + 1 := by unfold tLf; simp (disch := omega) only [upS_h, upS_o, upS_i, Int.reduceAdd, Int.reduceSub, Int.reduceMul, Int.reduceNeg]
  have e8 : tLf β a dp 0 8 = β 0 8 + 1 := by unfold tLf; simp (disch := omega) only [upS_h, upS_o, upS_i, Int.reduceAdd, Int.reduceSub, Int.reduceMul, Int.reduceNeg]
  have e9 : tLf β a dp 0 9 = β 0 9 := by unfold tLf; simp (disch := omega) only [upS_h, upS_o, upS_i, Int.reduceAdd, Int.reduceSub, Int.reduceMul, Int.reduceNeg]
  have e12 : tLf β a dp 12 (β 0 7) = 0 := by unfold tLf; simp (disch := omega) only [upS_h, upS_o, upS_i, Int.reduceAdd, Int.reduceSub, Int.reduceMul, Int.reduceNeg]
  have e13 : tLf β a dp 13 (β 0 7) = β 0 8 := by unfold tLf; simp (disch := omega) only [upS_h, upS_o, upS_i, Int.reduceAdd, Int.reduceSub, Int.reduceMul, Int.reduceNeg]
  obtain ⟨ρ, hρ⟩ : ∃ x, x = upS (upS (upS (upS σ 118 15 (sk α p + 1)) 129 (β 0 7) 0) 130 (β 0 7) (β 0 8)) 118 21 (β 0 8 + 1) := ⟨_, rfl⟩
  have hhρ : Hh ρ (β 0 7) dp a h := ⟨hh1, fun c => by
    obtain ⟨h1, h2, h3⟩ := hh.2 c
    rw [hρ]
    refine ⟨?_, ?_, h3⟩
    · simp (disch := omega) only [upS_h, upS_o, upS_i, Int.reduceAdd, Int.reduceSub, Int.reduceMul, Int.reduceNeg, h1]
    · simp (disch := omega) only [upS_h, upS_o, upS_i, Int.reduceAdd, Int.reduceSub, Int.reduceMul, Int.reduceNeg, h2]⟩
  have hgg := m_hang hhρ hd (by omega)
  refine Or.inl ⟨rfl, n, hg ρ (β 0 7) dp a h, ?_, ?_, ⟨⟨fun o ho => ?_, fun i i1 i2 i3 => ?_⟩, fun i hi => ?_, fun i hi hi2 => ?_, fun i hi hi2 => ?_, fun i hi => ?_, fun i hi => ?_⟩, ⟨?_, ?_, ?_⟩, fun i i1 i2 => ?_, fun c => hg_h hh1 c⟩
  · rw [m_head kx hx hw hp h0 h1 hd hh]
    unfold jn_X10_readsTree_68
    have x1 : upS (upS σ 118 15 (sk α p + 1)) 129 (β 0 7) 0 118 21 = β 0 8 := by simp (disch := omega) only [upS_h, upS_o, upS_i, Int.reduceAdd, Int.reduceSub, Int.reduceMul, Int.reduceNeg, hl]
    have x2 : upS (upS (upS σ 118 15 (sk α p + 1)) 129 (β 0 7) 0) 130 (β 0 7) (β 0 8) 118 21 = β 0 8 := by simp (disch := omega) only [upS_h, upS_o, upS_i, Int.reduceAdd, Int.reduceSub, Int.reduceMul, Int.reduceNeg, hl]
    rw [ewl_t (by omega), wrF_d, upS_u, upS_h ⟨rfl, rfl⟩, wrA_t (by omega), wrA_t (by omega), wrF_d, x1, x2, ← hρ, hgg, bd2_s]
    unfold jn_X10_readsTree_251
    rw [bnd_d, wI_id (x := dp) (by omega) (by omega)]
    show _ = lp_X10_readsTree_16 kx n (hg ρ (β 0 7) dp a h) (tLf β a dp 0 7) dp (if dp = 0 then 1 else 0)
    rw [e7]
  · show ((n + 1 : Nat) : Int) ≤ n + (sk α p + 1 - p)
    omega
  · rw [hg_o hh1 (by omega) (by omega) (by omega), hρ, upS_of (by omega), upS_of (by omega), upS_of (by omega), upS_of (by omega)]
  · rw [hg_o hh1 (by omega) (by omega) (by omega), hρ, upS_i i2, upS_o (by omega), upS_o (by omega), upS_i i1]
  · rw [hg_o hh1 (by omega) (by omega) (by omega), hg_o hh1 (by omega) (by omega) (by omega), hρ]
    simp (disch := omega) only [upS_h, upS_o, upS_i, Int.reduceAdd, Int.reduceSub, Int.reduceMul, Int.reduceNeg]
    exact ⟨trivial, trivial⟩
  · rw [hg_1 hh1 hi2, hρ]
    simp (disch := omega) only [upS_h, upS_o, upS_i, Int.reduceAdd, Int.reduceSub, Int.reduceMul, Int.reduceNeg]
  · rw [hg_2 hh1 hi2, hρ]
    simp (disch := omega) only [upS_h, upS_o, upS_i, Int.reduceAdd, Int.reduceSub, Int.reduceMul, Int.reduceNeg]
  · rw [hg_o hh1 (by omega) (by omega) (by omega), hρ]
    simp (disch := omega) only [upS_h, upS_o, upS_i, Int.reduceAdd, Int.reduceSub, Int.reduceMul, Int.reduceNeg]
  · rw [hg_4 hh1 (by omega), hρ]
    simp (disch := omega) only [upS_h, upS_o, upS_i, Int.reduceAdd, Int.reduceSub, Int.reduceMul, Int.reduceNeg]
  · rw [hg_o hh1 (by omega) (by omega) (by omega), hρ]
    simp (disch := omega) only [upS_h, upS_o, upS_i, Int.reduceAdd, Int.reduceSub, Int.reduceMul, Int.reduceNeg]
  · show _ = tLf β a dp 0 8
    rw [hg_o hh1 (by omega) (by omega) (by omega), hρ, e8]
    simp (disch := omega) only [upS_h, upS_o, upS_i, Int.reduceAdd, Int.reduceSub, Int.reduceMul, Int.reduceNeg]
  · show _ = tLf β a dp 0 9
    rw [hg_o hh1 (by omega) (by omega) (by omega), hρ, e9]
    simp (disch := omega) only [upS_h, upS_o, upS_i, Int.reduceAdd, Int.reduceSub, Int.reduceMul, Int.reduceNeg, ht]
  · have i2' : i < tLf β a dp 0 7 := i2
    rw [e7] at i2'
    have ei : i = β 0 7 := by omega
    subst ei
    show _ = tLf β a dp 12 (β 0 7) ∧ _ = tLf β a dp 13 (β 0 7) ∧ (tLf β a dp 12 (β 0 7) ≠ 0 → _)
    rw [hg_o hh1 (by omega) (by omega) (by omega), hg_o hh1 (by omega) (by omega) (by omega), hρ, e12, e13]
    refine ⟨?_, ?_, fun z => absurd rfl z⟩
    · simp (disch := omega) only [upS_h, upS_o, upS_i, Int.reduceAdd, Int.reduceSub, Int.reduceMul, Int.reduceNeg]
    · simp (disch := omega) only [upS_h, upS_o, upS_i, Int.reduceAdd, Int.reduceSub, Int.reduceMul, Int.reduceNeg]
