/-! ===== a row is read by the reference ===== -/
def fM (σ τ : St) : Prop := (∀ o, ¬ o = 118 → ¬ o = 128 → τ o = σ o) ∧ ∀ i, ¬ i = 15 → τ 118 i = σ 118 i
theorem fM_t {σ τ ρ : St} (h1 : fM σ τ) (h2 : fM τ ρ) : fM σ ρ := ⟨fun o a b => (h2.1 o a b).trans (h1.1 o a b), fun i a => (h2.2 i a).trans (h1.2 i a)⟩
theorem fM_X {σ τ α : St} (h : fM σ τ) (hx : mX σ α) : mX τ α := mX_c (h.2 14 (by omega)) (h.1 127 (by omega) (by omega)) rfl rfl hx
theorem fM_15 {σ : St} {x : Int} : fM σ (upS σ 118 15 x) := ⟨fun o a b => upS_of a, fun i a => upS_i a⟩
def dM (σ : St) (n : Int) (β : St) : Prop := ∀ k, 0 ≤ k → k < n → σ 128 (3 * k) = β 7 k ∧ σ 128 (3 * k + 1) = β 8 k ∧ σ 128 (3 * k + 2) = β 9 k
theorem dM_c {σ τ β : St} {n : Int} (h : τ 128 = σ 128) (hd : dM σ n β) : dM τ n β := by
  unfold dM at *
  rw [h]
  exact hd
theorem dM_u {σ β : St} {n s p l : Int} (hd : dM σ n β) (hn : 0 ≤ n) : dM (upS (upS (upS σ 128 (3 * n) s) 128 (3 * n + 1) p) 128 (3 * n + 2) l) (n + 1) (rwU β n s p l) := by
  intro k a b
  unfold rwU
  by_cases c : k = n
  · subst c
    simp (disch := omega) only [upS_h, upS_o, upS_i, Int.reduceAdd, Int.reduceSub, Int.reduceMul, Int.reduceNeg]
    exact ⟨trivial, trivial, trivial⟩
  · have g := hd k a (by omega)
    simp (disch := omega) only [upS_h, upS_o, upS_i, Int.reduceAdd, Int.reduceSub, Int.reduceMul, Int.reduceNeg]
    exact g
theorem m_rbad {σ : St} {n x y : Int} (kb : St → Int → Option (Int × St)) : jn_X10_readsRow_65 kb σ n x y (-1) = some (-1, σ) := by
  unfold jn_X10_readsRow_65
  rw [iwl_t (by omega)]
theorem m_r15 {σ α β : St} {n p : Int} (kb : St → Int → Option (Int × St)) (h : mX σ α) (hw : wX α) (hp : σ 118 15 = p) (h0 : 0 ≤ p) (h1 : p ≤ α 0 6) (n0 : 0 ≤ n) (n1 : n < 8) (hd : dM σ n β) :
    (¬ okL α p ∧ jn_X10_readsRow_15 kb σ n = some (-1, upS σ 118 15 (sk α p))) ∨ (okL α p ∧ ¬ okP α p ∧ jn_X10_readsRow_15 kb σ n = some (-1, upS σ 118 15 (k1 α p))) ∨ (okL α p ∧ okP α p ∧ ¬ okD α p ∧ jn_X10_readsRow_15 kb σ n = some (-1, upS σ 118 15 (k2 α p))) ∨ (okL α p ∧ okP α p ∧ okD α p ∧ ∃ τ, jn_X10_readsRow_15 kb σ n = kb τ (n + 1) ∧ fM σ τ ∧ τ 118 15 = k2 α p + 1 ∧ dM τ (n + 1) (rwU β n (chC α (sk α p) - 97) (chC α (k1 α p) - 48) (chC α (k2 α p) - 48))) := by
  have w2 := hw.2.1
  have q := sk_r hw h0 h1
  unfold jn_X10_readsRow_15
  rw [ewl_f (by omega)]
  by_cases c1 : okL α p
  · have c1' := c1
    unfold okL at c1'
    have r1 := k1_r hw h0 h1 (by omega)
    rw [m_takes_t h hw hp h0 h1 (by omega) c1', bd2_s, iwl_f (by omega)]
    have hx : mX (upS σ 118 15 (sk α p + 1)) α := fM_X fM_15 h
    by_cases c2 : okP α p
    · have c2' := c2
      unfold okP at c2'
      have r2 := k2_r hw h0 h1 (by omega) (by omega)
      rw [m_takes_t hx hw (upS_h ⟨rfl, rfl⟩) (by omega) (by omega) (by omega) c2', bd2_s, upS_u]
      have e1 : sk α (sk α p + 1) = k1 α p := rfl
      have e3 : sk α (k1 α p + 1) = k2 α p := rfl
      have hx2 : mX (upS σ 118 15 (k1 α p + 1)) α := fM_X fM_15 h
      unfold jn_X10_readsRow_48
      rw [e1, iwl_f (by omega)]
      by_cases c3 : okD α p
      · have c3' := c3
        unfold okD at c3'
        rw [m_takes_t hx2 hw (upS_h ⟨rfl, rfl⟩) (by omega) (by omega) (by omega) c3', bd2_s, upS_u, e3]
        unfold jn_X10_readsRow_65
        rw [iwl_f (by omega), wrA_t (by omega), wrA_t (by omega), wrA_t (by omega), show chC α (k2 α p) - 49 + 1 = chC α (k2 α p) - 48 by omega]
        refine Or.inr (Or.inr (Or.inr ⟨c1, c2, c3, _, rfl, ⟨fun o a b => ?_, fun i a => ?_⟩, ?_, dM_u (dM_c (upS_of (by omega)) hd) n0⟩))
        · rw [upS_of b, upS_of b, upS_of b, upS_of a]
        · rw [upS_o (by omega), upS_o (by omega), upS_o (by omega), upS_i a]
        · rw [upS_o (by omega), upS_o (by omega), upS_o (by omega), upS_h ⟨rfl, rfl⟩]
      · have c3' := c3
        unfold okD at c3'
        rw [m_takes_f hx2 hw (upS_h ⟨rfl, rfl⟩) (by omega) (by omega) (by omega) c3', bd2_s, upS_u, e3, m_rbad]
        exact Or.inr (Or.inr (Or.inl ⟨c1, c2, c3, rfl⟩))
    · have c2' := c2
      unfold okP at c2'
      rw [m_takes_f hx hw (upS_h ⟨rfl, rfl⟩) (by omega) (by omega) (by omega) c2', bd2_s, upS_u]
      unfold jn_X10_readsRow_48
      rw [iwl_t (by omega), m_rbad]
      exact Or.inr (Or.inl ⟨c1, c2, rfl⟩)
  · have c1' := c1
    unfold okL at c1'
    rw [m_takes_f h hw hp h0 h1 (by omega) c1', bd2_s, iwl_t (by omega)]
    unfold jn_X10_readsRow_48
    rw [iwl_t (by omega), m_rbad]
    exact Or.inl ⟨c1, rfl⟩
/-- what the reference says of a row that it has read -/
def mRd (α τ : St) (v : Int) (R : Int × Int × St) : Prop := (0 ≤ τ 118 15 ∧ τ 118 15 ≤ α 0 6) ∧ ((v = -1 ∧ 0 ≤ R.1 ∧ sk α (τ 118 15) = R.1) ∨ (0 ≤ v ∧ v = R.2.1 ∧ enS α (τ 118 15) = R.1 ∧ dM τ R.2.1 R.2.2))
theorem m_rowl {α : St} (hw : wX α) : ∀ (m : Nat) (n p : Int) (σ β : St) (N : Nat), mX σ α → σ 118 15 = p → 0 ≤ p → p ≤ α 0 6 → 0 ≤ n → n + m = 8 → dM σ n β → m + 1 < N → ∃ v τ, lp_X10_readsRow_2 (fun σ18 y19 => some (y19, σ18)) N σ n = some (v, τ) ∧ fM σ τ ∧ mRd α τ v (rwS α m n p β) := by
  intro m
  have w2 := hw.2.1
  induction m with
  | zero =>
    intro n p σ β N h hp h0 h1 h2 h3 hd hN
    obtain ⟨N, rfl⟩ : ∃ k, N = k + 1 := ⟨N - 1, by omega⟩
    have q := sk_r hw h0 h1
    have rr := ch_p hw (show 0 ≤ sk α p by omega) q.1.2
    have ss := sk_s hw h0 h1
    rw [lp_X10_readsRow_2, ewl_f (by omega), m_here h hw hp h0 h1, bd2_s]
    by_cases c : chC α (sk α p) = 59
    · rw [ewl_t (by omega)]
      refine ⟨_, _, rfl, fM_15, ?_, Or.inr ⟨h2, rfl, ?_, dM_c (upS_of (by omega)) hd⟩⟩
      · rw [upS_h ⟨rfl, rfl⟩]; omega
      · rw [upS_h ⟨rfl, rfl⟩]; exact enS_s hw h0 h1
    · unfold jn_X10_readsRow_15
      rw [ewl_f (by omega), ewl_t (by omega)]
      have e : (rwS α 0 n p β).1 = sk α p := by
        show enS α p = sk α p
        unfold enS
        rw [if_neg c]
      refine ⟨_, _, rfl, fM_15, ?_, Or.inl ⟨rfl, ?_, ?_⟩⟩
      · rw [upS_h ⟨rfl, rfl⟩]; omega
      · rw [e]; omega
      · rw [upS_h ⟨rfl, rfl⟩, e, ss]
  | succ m ih =>
    intro n p σ β N h hp h0 h1 h2 h3 hd hN
    obtain ⟨N, rfl⟩ : ∃ k, N = k + 1 := ⟨N - 1, by omega⟩
    have q := sk_r hw h0 h1
    have rr := ch_p hw (show 0 ≤ sk α p by omega) q.1.2
    have ss := sk_s hw h0 h1
    -- from here on, at a place p0 with the same next byte
    have main : ∀ (ρ : St) (p0 : Int), fM σ ρ → ρ 118 15 = p0 → 0 ≤ p0 → p0 ≤ α 0 6 → sk α p0 = sk α p → dM ρ n β → ¬ (chC α (sk α p) = 59 ∧ 0 < n) → ∃ v τ, jn_X10_readsRow_15 (lp_X10_readsRow_2 (fun σ18 y19 => some (y19, σ18)) N) ρ n = some (v, τ) ∧ fM σ τ ∧ mRd α τ v (rwS α (m + 1) n p β) := by
      intro ρ p0 a1 a2 a3 a4 a5 a6 a7
      have e1 : k1 α p0 = k1 α p := by unfold k1; rw [a5]
      have e2 : k2 α p0 = k2 α p := by unfold k2; rw [e1]
      have g := m_r15 (lp_X10_readsRow_2 (fun σ18 y19 => some (y19, σ18)) N) (fM_X a1 h) hw a2 a3 a4 h2 (by omega) a6
      unfold okL okP okD at g
      rw [a5, e1, e2] at g
      rw [rwS, if_neg a7]
      rcases g with ⟨c1, g⟩ | ⟨c1, c2, g⟩ | ⟨c1, c2, c3, g⟩ | ⟨c1, c2, c3, τ, g, g2, g3, g4⟩
      · rw [if_neg (show ¬ okL α p from c1), g]
        refine ⟨_, _, rfl, fM_t a1 fM_15, ?_, Or.inl ⟨rfl, ?_, ?_⟩⟩
        · rw [upS_h ⟨rfl, rfl⟩]; omega
        · show 0 ≤ sk α p; omega
        · rw [upS_h ⟨rfl, rfl⟩]; exact ss
      · have r1 := k1_r hw h0 h1 (by omega)
        rw [if_pos (show okL α p from c1), if_neg (show ¬ okP α p from c2), g]
        refine ⟨_, _, rfl, fM_t a1 fM_15, ?_, Or.inl ⟨rfl, ?_, ?_⟩⟩
        · rw [upS_h ⟨rfl, rfl⟩]; omega
        · show 0 ≤ k1 α p; omega
        · rw [upS_h ⟨rfl, rfl⟩]; exact sk_s hw (by omega) (by omega)
      · have r1 := k1_r hw h0 h1 (by omega)
        have r2 := k2_r hw h0 h1 (by omega) (by omega)
        rw [if_pos (show okL α p from c1), if_pos (show okP α p from c2), if_neg (show ¬ okD α p from c3), g]
        refine ⟨_, _, rfl, fM_t a1 fM_15, ?_, Or.inl ⟨rfl, ?_, ?_⟩⟩
        · rw [upS_h ⟨rfl, rfl⟩]; omega
        · show 0 ≤ k2 α p; omega
        · rw [upS_h ⟨rfl, rfl⟩]; exact sk_s hw (by omega) (by omega)
      · have r1 := k1_r hw h0 h1 (by omega)
        have r2 := k2_r hw h0 h1 (by omega) (by omega)
        rw [if_pos (show okL α p from c1), if_pos (show okP α p from c2), if_pos (show okD α p from c3), g]
        obtain ⟨v, ξ, f1, f2, f3⟩ := ih (n + 1) (k2 α p + 1) τ (rwU β n (chC α (sk α p) - 97) (chC α (k1 α p) - 48) (chC α (k2 α p) - 48)) N (fM_X g2 (fM_X a1 h)) g3 (by omega) (by omega) (by omega) (by omega) g4 (by omega)
        exact ⟨v, ξ, f1, fM_t (fM_t a1 g2) f2, f3⟩
    rw [lp_X10_readsRow_2]
    by_cases c0 : n = 0
    · rw [ewl_t (by omega)]
      exact main σ p ⟨fun _ _ _ => rfl, fun _ _ => rfl⟩ hp h0 h1 rfl hd (by omega)
    · rw [ewl_f (by omega), m_here h hw hp h0 h1, bd2_s]
      by_cases c : chC α (sk α p) = 59
      · rw [ewl_t (by omega)]
        rw [rwS, if_pos (by omega)]
        refine ⟨_, _, rfl, fM_15, ?_, Or.inr ⟨h2, rfl, ?_, dM_c (upS_of (by omega)) hd⟩⟩
        · rw [upS_h ⟨rfl, rfl⟩]; omega
        · rw [upS_h ⟨rfl, rfl⟩]; exact enS_s hw h0 h1
      · rw [ewl_f (by omega)]
        exact main _ (sk α p) fM_15 (upS_h ⟨rfl, rfl⟩) (by omega) (by omega) ss (dM_c (upS_of (by omega)) hd) (by omega)
