/-! ===== a tree is read: what is asked ===== -/
def qK (c : Int) : Int := if c = 76 then 1 else if c = 82 then 2 else if c = 80 then 3 else if c = 68 then 4 else 0
def qM (k : Int) : Int := if k < 3 then 54 else 57
theorem qK_r {c : Int} : (qK c = 1 ∧ c = 76) ∨ (qK c = 2 ∧ c = 82) ∨ (qK c = 3 ∧ c = 80) ∨ (qK c = 4 ∧ c = 68) ∨ (qK c = 0 ∧ ¬ c = 76 ∧ ¬ c = 82 ∧ ¬ c = 80 ∧ ¬ c = 68) := by
  unfold qK
  repeat' split
  all_goals omega
theorem qM_r {k : Int} : (qM k = 54 ∧ k < 3) ∨ (qM k = 57 ∧ ¬ k < 3) := by
  unfold qM
  split
  all_goals omega
abbrev okG (α : St) (p : Int) : Prop := 48 ≤ chC α (k1 α p) ∧ chC α (k1 α p) ≤ qM (qK (chC α (sk α p)))
def tLf (β : St) (a dp : Int) : St := upS (upS (upS (upS (upS (upS β 12 (β 0 7) 0) 13 (β 0 7) (β 0 8)) 16 (β 0 7) a) 17 (β 0 7) dp) 0 7 (β 0 7 + 1)) 0 8 (β 0 8 + 1)
def tQu (β : St) (k f a dp : Int) : St := upS (upS (upS (upS (upS (upS β 12 (β 0 7) k) 13 (β 0 7) f) 16 (β 0 7) a) 17 (β 0 7) dp) 0 7 (β 0 7 + 1)) 0 9 (if β 0 9 < dp + 1 then dp + 1 else β 0 9)
def tBr (β : St) (i y n : Int) : St := upS (upS β 14 i y) 15 i n
def nd3 (α : St) (i y z : Int) (R2 : Int × Int × St) : Int × Int × St := if R2.1 = -1 then (if chC α (sk α R2.2.1) = 41 then (-1, sk α R2.2.1 + 1, tBr R2.2.2 i y z) else (sk α R2.2.1, R2.2.1, R2.2.2)) else R2
def nd2 (α : St) (i y : Int) (F : Int → St → Int × Int × St) (R1 : Int × Int × St) : Int × Int × St := if R1.1 = -1 then nd3 α i y (R1.2.2 0 7) (F R1.2.1 R1.2.2) else R1
def ndS (α : St) : Nat → Int → Int → Int → St → Int × Int × St
  | 0, _, _, p, β => (0, p, β)
  | f + 1, a, dp, p, β =>
    if chC α (sk α p) = 42 then (-1, sk α p + 1, tLf β a dp)
    else if 0 < qK (chC α (sk α p)) ∧ dp < 7 then
      if okG α p then
        if chC α (k2 α p) = 40 then nd2 α (β 0 7) (β 0 7 + 1) (ndS α f (β 0 7) (dp + 1)) (ndS α f (β 0 7) (dp + 1) (k2 α p + 1) (tQu β (qK (chC α (sk α p))) (chC α (k1 α p) - 48) a dp))
        else (k2 α p, p, β)
      else (k1 α p, p, β)
    else (sk α p, p, β)
def wS (β : St) (lo hi H : Int) : Prop := ∀ i, lo ≤ i → i < hi → (0 ≤ β 12 i ∧ β 12 i ≤ 4) ∧ (0 ≤ β 17 i ∧ β 17 i ≤ 7) ∧ (β 12 i = 0 → 0 ≤ β 13 i ∧ β 13 i < β 0 8) ∧ (β 12 i ≠ 0 → (0 ≤ β 13 i ∧ β 13 i ≤ 9) ∧ (i < β 14 i ∧ β 14 i < H) ∧ (i < β 15 i ∧ β 15 i < H) ∧ β 14 i ≠ β 15 i ∧ β 16 (β 14 i) = i ∧ β 16 (β 15 i) = i ∧ β 17 (β 14 i) = β 17 i + 1 ∧ β 17 (β 15 i) = β 17 i + 1)
theorem wS_c {β γ : St} {lo hi H : Int} (h : wS β lo hi hi) (e : ∀ o i, 12 ≤ o → o ≤ 17 → lo ≤ i → i < hi → γ o i = β o i) (hl : β 0 8 ≤ γ 0 8) (hH : hi ≤ H) : wS γ lo hi H := by
  intro i i1 i2
  obtain ⟨b1, b2, b3, b4⟩ := h i i1 i2
  rw [e 12 i (by omega) (by omega) i1 i2, e 13 i (by omega) (by omega) i1 i2, e 14 i (by omega) (by omega) i1 i2, e 15 i (by omega) (by omega) i1 i2, e 17 i (by omega) (by omega) i1 i2]
  refine ⟨b1, b2, fun z => ?_, fun z => ?_⟩
  · have := b3 z; omega
  · obtain ⟨c1, c2, c3, c4, c5, c6, c7, c8⟩ := b4 z
    rw [e 16 (β 14 i) (by omega) (by omega) (by omega) (by omega), e 16 (β 15 i) (by omega) (by omega) (by omega) (by omega), e 17 (β 14 i) (by omega) (by omega) (by omega) (by omega), e 17 (β 15 i) (by omega) (by omega) (by omega) (by omega)]
    exact ⟨c1, by omega, by omega, c4, c5, c6, c7, c8⟩
theorem wS_j {β : St} {lo mi hi H : Int} (h1 : wS β lo mi H) (h2 : wS β mi hi H) : wS β lo hi H := by
  intro i i1 i2
  by_cases c : i < mi
  · exact h1 i i1 c
  · exact h2 i (by omega) i2
/-- what holds of a node that was read well -/
def ndQ (α : St) (a dp p : Int) (β : St) (p' : Int) (γ : St) : Prop := (p < p' ∧ p' ≤ α 0 6) ∧ (β 0 7 < γ 0 7 ∧ γ 0 7 - β 0 7 ≤ p' - p) ∧ (β 0 8 < γ 0 8 ∧ 5 * (γ 0 8 - β 0 8) - 4 ≤ p' - p) ∧ (β 0 9 ≤ γ 0 9 ∧ γ 0 9 ≤ 7) ∧ (∀ o i, ¬ o = 0 → i < β 0 7 → γ o i = β o i) ∧ (∀ o, ¬ o = 0 → (o < 12 ∨ 17 < o) → γ o = β o) ∧ (∀ i, (i < 7 ∨ 9 < i) → γ 0 i = β 0 i) ∧ wS γ (β 0 7) (γ 0 7) (γ 0 7) ∧ γ 16 (β 0 7) = a ∧ γ 17 (β 0 7) = dp
def ndP (α : St) (a dp p : Int) (β : St) (R : Int × Int × St) : Prop := (¬ R.1 = -1 → 0 ≤ R.1 ∧ R.1 ≤ α 0 6) ∧ (R.1 = -1 → ndQ α a dp p β R.2.1 R.2.2)
theorem ndQ_leaf {α β : St} {a dp p p' : Int} (h1 : p < p' ∧ p' ≤ α 0 6) (hb : 0 ≤ β 0 7 ∧ 0 ≤ β 0 8 ∧ 0 ≤ β 0 9 ∧ β 0 9 ≤ 7) (hd : 0 ≤ dp ∧ dp ≤ 7) : ndQ α a dp p β p' (tLf β a dp) := by
  have e7 : tLf β a dp 0 7 = β 0 7 + 1 := by unfold tLf; simp (disch := omega) only [upS_h, upS_o, upS_i, Int.reduceAdd, Int.reduceSub, Int.reduceMul, Int.reduceNeg]
  have e8 : tLf β a dp 0 8 = β 0 8 + 1 := by unfold tLf; simp (disch := omega) only [upS_h, upS_o, upS_i, Int.reduceAdd, Int.reduceSub, Int.reduceMul, Int.reduceNeg]
  have e9 : tLf β a dp 0 9 = β 0 9 := by unfold tLf; simp (disch := omega) only [upS_h, upS_o, upS_i, Int.reduceAdd, Int.reduceSub, Int.reduceMul, Int.reduceNeg]
  have e12 : tLf β a dp 12 (β 0 7) = 0 := by unfold tLf; simp (disch := omega) only [upS_h, upS_o, upS_i, Int.reduceAdd, Int.reduceSub, Int.reduceMul, Int.reduceNeg]
  have e13 : tLf β a dp 13 (β 0 7) = β 0 8 := by unfold tLf; simp (disch := omega) only [upS_h, upS_o, upS_i, Int.reduceAdd, Int.reduceSub, Int.reduceMul, Int.reduceNeg]
  have e16 : tLf β a dp 16 (β 0 7) = a := by unfold tLf; simp (disch := omega) only [upS_h, upS_o, upS_i, Int.reduceAdd, Int.reduceSub, Int.reduceMul, Int.reduceNeg]
  have e17 : tLf β a dp 17 (β 0 7) = dp := by unfold tLf; simp (disch := omega) only [upS_h, upS_o, upS_i, Int.reduceAdd, Int.reduceSub, Int.reduceMul, Int.reduceNeg]
  refine ⟨h1, by omega, by omega, by omega, fun o i o1 i1 => ?_, fun o o1 o2 => ?_, fun i i1 => ?_, fun i i1 i2 => ?_, e16, e17⟩
  · unfold tLf
    rw [upS_o o1, upS_o o1, upS_i (by omega), upS_i (by omega), upS_i (by omega), upS_i (by omega)]
  · unfold tLf
    rw [upS_of o1, upS_of o1, upS_of (by omega), upS_of (by omega), upS_of (by omega), upS_of (by omega)]
  · unfold tLf
    rw [upS_i (by omega), upS_i (by omega), upS_o (by omega), upS_o (by omega), upS_o (by omega), upS_o (by omega)]
  · have ei : i = β 0 7 := by omega
    subst ei
    rw [e12, e17, e13, e8]
    exact ⟨by omega, by omega, fun _ => by omega, fun z => absurd rfl z⟩
theorem ndP_q {α β γ : St} {a dp p p2 k fg N : Int} {R1 : Int × Int × St} (F : Int → St → Int × Int × St) (hw : wX α) (hN : N = β 0 7) (hγ : γ = tQu β k fg a dp) (h0 : 0 ≤ p) (hp : p + 3 ≤ p2) (hp2 : p2 ≤ α 0 6) (hk : 1 ≤ k ∧ k ≤ 4) (hf : 0 ≤ fg ∧ fg ≤ 9) (hb : 0 ≤ β 0 7 ∧ 0 ≤ β 0 8 ∧ 0 ≤ β 0 9 ∧ β 0 9 ≤ 7) (hd : 0 ≤ dp ∧ dp < 7) (h1 : ndP α N (dp + 1) p2 γ R1) (h2 : R1.1 = -1 → ndP α N (dp + 1) R1.2.1 R1.2.2 (F R1.2.1 R1.2.2)) : ndP α a dp p β (nd2 α N (N + 1) F R1) := by
  have g7 : γ 0 7 = β 0 7 + 1 := by rw [hγ]; unfold tQu; simp (disch := omega) only [upS_h, upS_o, upS_i, Int.reduceAdd, Int.reduceSub, Int.reduceMul, Int.reduceNeg]
  have g8 : γ 0 8 = β 0 8 := by rw [hγ]; unfold tQu; simp (disch := omega) only [upS_h, upS_o, upS_i, Int.reduceAdd, Int.reduceSub, Int.reduceMul, Int.reduceNeg]
  have g9 : γ 0 9 = (if β 0 9 < dp + 1 then dp + 1 else β 0 9) := by rw [hγ]; unfold tQu; simp (disch := omega) only [upS_h, upS_o, upS_i, Int.reduceAdd, Int.reduceSub, Int.reduceMul, Int.reduceNeg]
  have g9' : β 0 9 ≤ γ 0 9 ∧ γ 0 9 ≤ 7 := by
    rw [g9]
    split
    all_goals omega
  have g12 : γ 12 N = k := by rw [hγ, hN]; unfold tQu; simp (disch := omega) only [upS_h, upS_o, upS_i, Int.reduceAdd, Int.reduceSub, Int.reduceMul, Int.reduceNeg]
  have g13 : γ 13 N = fg := by rw [hγ, hN]; unfold tQu; simp (disch := omega) only [upS_h, upS_o, upS_i, Int.reduceAdd, Int.reduceSub, Int.reduceMul, Int.reduceNeg]
  have g16 : γ 16 N = a := by rw [hγ, hN]; unfold tQu; simp (disch := omega) only [upS_h, upS_o, upS_i, Int.reduceAdd, Int.reduceSub, Int.reduceMul, Int.reduceNeg]
  have g17 : γ 17 N = dp := by rw [hγ, hN]; unfold tQu; simp (disch := omega) only [upS_h, upS_o, upS_i, Int.reduceAdd, Int.reduceSub, Int.reduceMul, Int.reduceNeg]
  have gl : ∀ o i, ¬ o = 0 → i < β 0 7 → γ o i = β o i := fun o i o1 i1 => by
    rw [hγ]; unfold tQu
    rw [upS_o o1, upS_o o1, upS_i (by omega), upS_i (by omega), upS_i (by omega), upS_i (by omega)]
  have gs : ∀ o, ¬ o = 0 → (o < 12 ∨ 17 < o) → γ o = β o := fun o o1 o2 => by
    rw [hγ]; unfold tQu
    rw [upS_of o1, upS_of o1, upS_of (by omega), upS_of (by omega), upS_of (by omega), upS_of (by omega)]
  have g0 : ∀ i, (i < 7 ∨ 9 < i) → γ 0 i = β 0 i := fun i i1 => by
    rw [hγ]; unfold tQu
    rw [upS_i (by omega), upS_i (by omega), upS_o (by omega), upS_o (by omega), upS_o (by omega), upS_o (by omega)]
  unfold nd2
  by_cases c1 : R1.1 = -1
  · rw [if_pos c1]
    obtain ⟨a1, a2, a3, a4, a5, a6, a7, a8, a9, a10⟩ := h1.2 c1
    have h2 := h2 c1
    obtain ⟨p3, hp3⟩ : ∃ x, x = R1.2.1 := ⟨_, rfl⟩
    obtain ⟨δ, hδ⟩ : ∃ x, x = R1.2.2 := ⟨_, rfl⟩
    rw [← hp3, ← hδ] at h2
    rw [← hδ] at a2 a3 a4 a5 a6 a7 a8 a9 a10
    rw [← hp3] at a1 a2 a3
    rw [← hp3, ← hδ]
    obtain ⟨R2, hR2⟩ : ∃ x, x = F p3 δ := ⟨_, rfl⟩
    rw [← hR2] at h2
    rw [← hR2]
    clear hR2 h1 hδ hp3 c1
    unfold nd3
    by_cases c2 : R2.1 = -1
    · rw [if_pos c2]
      obtain ⟨b1, b2, b3, b4, b5, b6, b7, b8, b9, b10⟩ := h2.2 c2
      obtain ⟨p4, hp4⟩ : ∃ x, x = R2.2.1 := ⟨_, rfl⟩
      obtain ⟨ε, hε⟩ : ∃ x, x = R2.2.2 := ⟨_, rfl⟩
      rw [← hp4] at b1 b2 b3
      rw [← hε] at b2 b3 b4 b5 b6 b7 b8 b9 b10
      rw [← hp4, ← hε]
      clear hp4 hε h2 c2
      have q := sk_r (p := p4) hw (by omega) (by omega)
      by_cases c3 : chC α (sk α p4) = 41
      · rw [if_pos c3]
        refine ⟨fun z => absurd rfl z, fun _ => ?_⟩
        show ndQ α a dp p β (sk α p4 + 1) (tBr ε N (N + 1) (δ 0 7))
        have z0 : ∀ i, tBr ε N (N + 1) (δ 0 7) 0 i = ε 0 i := fun i => by unfold tBr; rw [upS_o (by omega), upS_o (by omega)]
        have zn : ∀ o i, ¬ i = N → tBr ε N (N + 1) (δ 0 7) o i = ε o i := fun o i hi => by unfold tBr; rw [upS_i hi, upS_i hi]
        have z14 : tBr ε N (N + 1) (δ 0 7) 14 N = N + 1 := by unfold tBr; simp (disch := omega) only [upS_h, upS_o, upS_i, Int.reduceAdd, Int.reduceSub, Int.reduceMul, Int.reduceNeg]
        have z15 : tBr ε N (N + 1) (δ 0 7) 15 N = δ 0 7 := by unfold tBr; simp (disch := omega) only [upS_h, upS_o, upS_i, Int.reduceAdd, Int.reduceSub, Int.reduceMul, Int.reduceNeg]
        have zo : ∀ o i, ¬ o = 14 → ¬ o = 15 → tBr ε N (N + 1) (δ 0 7) o i = ε o i := fun o i h14 h15 => by unfold tBr; rw [upS_o h15, upS_o h14]
        have zof : ∀ o, ¬ o = 14 → ¬ o = 15 → tBr ε N (N + 1) (δ 0 7) o = ε o := fun o h14 h15 => funext fun i => zo o i h14 h15
        have eN : ∀ o, ¬ o = 0 → ε o N = γ o N := fun o o1 => by rw [b5 o N o1 (by omega), a5 o N o1 (by omega)]
        have eM : ∀ o, ¬ o = 0 → ε o (N + 1) = δ o (N + 1) := fun o o1 => b5 o (N + 1) o1 (by omega)
        have a9' : δ 16 (N + 1) = N := by rw [g7, ← hN] at a9; exact a9
        have a10' : δ 17 (N + 1) = dp + 1 := by rw [g7, ← hN] at a10; exact a10
        have w0 : wS (tBr ε N (N + 1) (δ 0 7)) (N + 1) (ε 0 7) (ε 0 7) := by
          refine wS_j (mi := δ 0 7) ?_ ?_
          · have a8' : wS δ (N + 1) (δ 0 7) (δ 0 7) := by rw [show N + 1 = γ 0 7 by omega]; exact a8
            refine wS_c a8' (fun o i o1 o2 i1 i2 => ?_) ?_ (by omega)
            · rw [zn o i (by omega), b5 o i (by omega) i2]
            · rw [z0]; omega
          · refine wS_c b8 (fun o i o1 o2 i1 i2 => ?_) ?_ (by omega)
            · rw [zn o i (by omega)]
            · rw [z0]; omega
        refine ⟨by omega, ?_, ?_, ?_, fun o i o1 i1 => ?_, fun o o1 o2 => ?_, fun i i1 => ?_, ?_, ?_, ?_⟩
        · rw [z0]; omega
        · rw [z0]; omega
        · rw [z0]; omega
        · rw [zn o i (by omega), b5 o i o1 (by omega), a5 o i o1 (by omega), gl o i o1 i1]
        · rw [zof o (by omega) (by omega), b6 o o1 o2, a6 o o1 o2, gs o o1 o2]
        · rw [z0, b7 i i1, a7 i i1, g0 i i1]
        · rw [z0]
          refine wS_j (mi := N + 1) (fun i i1 i2 => ?_) w0
          have ei : i = N := by omega
          subst ei
          rw [z14, z15, zo 12 _ (by omega) (by omega), zo 17 i (by omega) (by omega), zo 13 _ (by omega) (by omega), zo 16 _ (by omega) (by omega), zo 16 _ (by omega) (by omega), zo 17 _ (by omega) (by omega), zo 17 _ (by omega) (by omega), eN 12 (by omega), eN 17 (by omega), eN 13 (by omega), eM 16 (by omega), eM 17 (by omega), g12, g13, g17, a9', a10', b9, b10]
          exact ⟨by omega, by omega, fun z => by omega, fun _ => ⟨hf, by omega, by omega, by omega, rfl, rfl, rfl, rfl⟩⟩
        · rw [← hN, zo 16 _ (by omega) (by omega), eN 16 (by omega), g16]
        · rw [← hN, zo 17 _ (by omega) (by omega), eN 17 (by omega), g17]
      · rw [if_neg c3]
        exact ⟨fun _ => ⟨by show 0 ≤ sk α p4; omega, by show sk α p4 ≤ α 0 6; omega⟩, fun z => absurd z (by show ¬ sk α p4 = -1; omega)⟩
    · rw [if_neg c2]
      exact ⟨fun _ => h2.1 c2, fun z => absurd z c2⟩
  · rw [if_neg c1]
    exact ⟨fun _ => h1.1 c1, fun z => absurd z c1⟩
theorem nd_p {α : St} (hw : wX α) : ∀ (f : Nat) (a dp p : Int) (β : St), 0 ≤ dp → dp ≤ 7 → dp + f = 9 → 0 ≤ p → p ≤ α 0 6 → (0 ≤ β 0 7 ∧ 0 ≤ β 0 8 ∧ 0 ≤ β 0 9 ∧ β 0 9 ≤ 7) → ndP α a dp p β (ndS α f a dp p β) := by
  intro f
  induction f with
  | zero => intro a dp p β h0 h1 h2 h3 h4 hb; omega
  | succ f ih =>
    intro a dp p β h0 h1 h2 h3 h4 hb
    have q := sk_r hw h3 h4
    rw [ndS]
    by_cases c1 : chC α (sk α p) = 42
    · rw [if_pos c1]
      exact ⟨fun z => absurd rfl z, fun _ => ndQ_leaf (p' := sk α p + 1) (by omega) hb (by omega)⟩
    · rw [if_neg c1]
      by_cases c2 : 0 < qK (chC α (sk α p)) ∧ dp < 7
      · rw [if_pos c2]
        have kr := qK_r (c := chC α (sk α p))
        have mr := qM_r (k := qK (chC α (sk α p)))
        have r1 := k1_r hw h3 h4 (by omega)
        by_cases c3 : okG α p
        · rw [if_pos c3]
          unfold okG at c3
          have r2 := k2_r hw h3 h4 (by omega) (by omega)
          by_cases c4 : chC α (k2 α p) = 40
          · rw [if_pos c4]
            have b7 : ∀ k f : Int, tQu β k f a dp 0 7 = β 0 7 + 1 := fun k f => by unfold tQu; simp (disch := omega) only [upS_h, upS_o, upS_i, Int.reduceAdd, Int.reduceSub, Int.reduceMul, Int.reduceNeg]
            have b8 : ∀ k f : Int, tQu β k f a dp 0 8 = β 0 8 := fun k f => by unfold tQu; simp (disch := omega) only [upS_h, upS_o, upS_i, Int.reduceAdd, Int.reduceSub, Int.reduceMul, Int.reduceNeg]
            have b9 : ∀ k f : Int, tQu β k f a dp 0 9 = (if β 0 9 < dp + 1 then dp + 1 else β 0 9) := fun k f => by unfold tQu; simp (disch := omega) only [upS_h, upS_o, upS_i, Int.reduceAdd, Int.reduceSub, Int.reduceMul, Int.reduceNeg]
            have b9' : 0 ≤ (if β 0 9 < dp + 1 then dp + 1 else β 0 9) ∧ (if β 0 9 < dp + 1 then dp + 1 else β 0 9) ≤ 7 := by
              split
              all_goals omega
            have i1 := ih (β 0 7) (dp + 1) (k2 α p + 1) (tQu β (qK (chC α (sk α p))) (chC α (k1 α p) - 48) a dp) (by omega) (by omega) (by omega) (by omega) (by omega) (by rw [b7, b8, b9]; omega)
            refine ndP_q (p2 := k2 α p + 1) (k := qK (chC α (sk α p))) (fg := chC α (k1 α p) - 48) (ndS α f (β 0 7) (dp + 1)) hw rfl rfl h3 (by omega) (by omega) (by omega) (by omega) hb (by omega) i1 (fun z => ?_)
            obtain ⟨a1, a2, a3, a4, _⟩ := i1.2 z
            rw [b7] at a2
            rw [b8] at a3
            rw [b9] at a4
            exact ih _ _ _ _ (by omega) (by omega) (by omega) (by omega) (by omega) (by omega)
          · rw [if_neg c4]
            exact ⟨fun _ => ⟨by show 0 ≤ k2 α p; omega, by show k2 α p ≤ α 0 6; omega⟩, fun z => absurd z (by show ¬ k2 α p = -1; omega)⟩
        · rw [if_neg c3]
          exact ⟨fun _ => ⟨by show 0 ≤ k1 α p; omega, by show k1 α p ≤ α 0 6; omega⟩, fun z => absurd z (by show ¬ k1 α p = -1; omega)⟩
      · rw [if_neg c2]
        exact ⟨fun _ => ⟨by show 0 ≤ sk α p; omega, by show sk α p ≤ α 0 6; omega⟩, fun z => absurd z (by show ¬ sk α p = -1; omega)⟩
