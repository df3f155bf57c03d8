/-! ===== ways ===== -/
theorem wk_suc {α : St} {l r p d : Int} : ∀ (n : Nat) (i : Int), wk α l r p d (n + 1) i = if α 12 (wk α l r p d n i) = 0 then wk α l r p d n i else kid α (wk α l r p d n i) l r p d := by
  intro n
  induction n with
  | zero => intro i; rw [wk]; rfl
  | succ n ih =>
    intro i
    rw [wk]
    by_cases c : α 12 i = 0
    · have e : wk α l r p d (n + 1) i = i := by rw [wk, if_pos c]
      rw [if_pos c, e, if_pos c]
    · have e : wk α l r p d (n + 1) i = wk α l r p d n (kid α i l r p d) := by rw [wk, if_neg c]
      rw [if_neg c, ih, e]
theorem wk_in {α : St} {l r p d : Int} (hw : wT α) : ∀ (n : Nat), 0 ≤ wk α l r p d n 0 ∧ wk α l r p d n 0 < α 0 7 ∧ (¬ α 12 (wk α l r p d n 0) = 0 → α 17 (wk α l r p d n 0) = n) ∧ α 17 (wk α l r p d n 0) ≤ n := by
  intro n
  induction n with
  | zero => rw [wk]; have := hw.1; have := hw.2.2.2.2.1; exact ⟨by omega, by omega, fun _ => by omega, by omega⟩
  | succ n ih =>
    rw [wk_suc]
    by_cases c : α 12 (wk α l r p d n 0) = 0
    · rw [if_pos c]; exact ⟨ih.1, ih.2.1, fun z => absurd c z, by omega⟩
    · rw [if_neg c]
      have k := kid_p (l := l) (r := r) (p := p) (d := d) hw ih.1 ih.2.1 c
      have e := ih.2.2.1 c
      exact ⟨by omega, by omega, fun _ => by omega, by omega⟩
theorem wk_stay {α : St} {l r p d : Int} {j : Nat} (h : α 12 (wk α l r p d j 0) = 0) : ∀ m, wk α l r p d (j + m) 0 = wk α l r p d j 0 := by
  intro m
  induction m with
  | zero => rfl
  | succ m ih => rw [← Nat.add_assoc, wk_suc, ih, if_pos h]
theorem wk_lt {α : St} {l r p d : Int} (hw : wT α) {j : Nat} (hj : (j : Int) < α 17 (wk α l r p d 7 0)) : ¬ α 12 (wk α l r p d j 0) = 0 := by
  intro c
  have k := wk_in (l := l) (r := r) (p := p) (d := d) hw j
  have k7 := wk_in (l := l) (r := r) (p := p) (d := d) hw 7
  have e := wk_stay c (7 - j)
  rw [show j + (7 - j) = 7 by omega] at e
  rw [e] at hj
  omega
theorem wk_dep {α : St} {l r p d : Int} (hw : wT α) {j : Nat} (hj : (j : Int) ≤ α 17 (wk α l r p d 7 0)) : α 17 (wk α l r p d j 0) = j := by
  have k := wk_in (l := l) (r := r) (p := p) (d := d) hw j
  have k7 := wk_in (l := l) (r := r) (p := p) (d := d) hw 7
  by_cases c : α 12 (wk α l r p d j 0) = 0
  · have e := wk_stay c (7 - j)
    rw [show j + (7 - j) = 7 by omega] at e
    rw [e] at hj
    omega
  · exact k.2.2.1 c
theorem wk_up {α : St} {l r p d : Int} (hw : wT α) {j : Nat} (hj : (j : Int) < α 17 (wk α l r p d 7 0)) : α 16 (wk α l r p d (j + 1) 0) = wk α l r p d j 0 := by
  have c := wk_lt hw hj
  have k := wk_in (l := l) (r := r) (p := p) (d := d) hw j
  rw [wk_suc, if_neg c]
  exact (kid_p hw k.1 k.2.1 c).2.2.1
theorem wk_end {α : St} {l r p d : Int} (hw : wT α) {j : Nat} (hj : (j : Int) = α 17 (wk α l r p d 7 0)) : wk α l r p d j 0 = wk α l r p d 7 0 := by
  have k := wk_in (l := l) (r := r) (p := p) (d := d) hw j
  have k7 := wk_in (l := l) (r := r) (p := p) (d := d) hw 7
  have e := wk_dep (l := l) (r := r) (p := p) (d := d) hw (j := j) (by omega)
  by_cases c : α 12 (wk α l r p d j 0) = 0
  · have e := wk_stay c (7 - j)
    rw [show j + (7 - j) = 7 by omega] at e
    exact e.symm
  · exfalso
    have k2 := kid_p (l := l) (r := r) (p := p) (d := d) hw k.1 k.2.1 c
    have k3 := wk_in (l := l) (r := r) (p := p) (d := d) hw (j + 1)
    have e3 : wk α l r p d (j + 1) 0 = kid α (wk α l r p d j 0) l r p d := by rw [wk_suc, if_neg c]
    by_cases c7 : j = 7
    · subst c7
      exact c (deep_leaf hw k.1 k.2.1 (by omega))
    · by_cases c4 : α 12 (wk α l r p d (j + 1) 0) = 0
      · have e5 := wk_stay c4 (7 - (j + 1))
        rw [show j + 1 + (7 - (j + 1)) = 7 by omega, e3] at e5
        rw [e5] at hj
        omega
      · have : ∀ m : Nat, (j : Int) + m ≤ 7 → α 17 (wk α l r p d (j + m) 0) ≥ j + (if m = 0 then 0 else 1) := by
          intro m
          induction m with
          | zero => intro _; simp; omega
          | succ m ih =>
            intro hm
            have ih := ih (by omega)
            rw [← Nat.add_assoc, wk_suc]
            have kk := wk_in (l := l) (r := r) (p := p) (d := d) hw (j + m)
            by_cases c5 : α 12 (wk α l r p d (j + m) 0) = 0
            · rw [if_pos c5]
              by_cases c6 : m = 0
              · subst c6; exact absurd c5 c
              · rw [if_neg c6] at ih; rw [if_neg (by omega)]; exact ih
            · rw [if_neg c5, if_neg (by omega)]
              have k6 := kid_p (l := l) (r := r) (p := p) (d := d) hw kk.1 kk.2.1 c5
              have k8 := kk.2.2.1 c5
              omega
        have q := this (7 - j) (by omega)
        rw [show j + (7 - j) = 7 by omega, if_neg (by omega)] at q
        omega
def pU (α : St) (u : Int) (j : Nat) : Int := wk α (α 2 u) (α 3 u) (α 4 u) (α 5 u) j 0
def pT (α : St) (k : Int) (j : Nat) : Int := wk α (tL α k) (tR α k) (α 8 k) (α 9 k) j 0
def dU (α : St) (u : Int) : Int := α 17 (lfU α u)
def dT (α : St) (k : Int) : Int := α 17 (lfT α k)
def yU (α : St) (u i : Int) : Int := yes α i (α 2 u) (α 3 u) (α 4 u) (α 5 u)
def yT (α : St) (k i : Int) : Int := yes α i (tL α k) (tR α k) (α 8 k) (α 9 k)
theorem dT_r {α : St} {k : Int} (hw : wT α) : 0 ≤ dT α k ∧ dT α k ≤ 7 := by
  have e := lfT_p (k := k) hw
  exact (hw.2.2.2.2.2 _ e.1 e.2.1).2.1
theorem dU_r {α : St} {u : Int} (hw : wT α) : 0 ≤ dU α u ∧ dU α u ≤ 7 := by
  have e := lfU_p (u := u) hw
  exact (hw.2.2.2.2.2 _ e.1 e.2.1).2.1
/-- the ways of the unit and of the target are one at j -/
def eqW (α : St) (u k : Int) (j : Nat) : Prop := (j : Int) ≤ dU α u ∧ (j : Int) ≤ dT α k ∧ pU α u j = pT α k j
theorem eqW_d {α : St} {u k : Int} (hw : wT α) : ∀ (m j : Nat), eqW α u k (j + m) → eqW α u k j := by
  intro m
  induction m with
  | zero => intro j h; exact h
  | succ m ih =>
    intro j h
    apply ih
    obtain ⟨h1, h2, h3⟩ := h
    rw [← Nat.add_assoc] at h3
    have a := wk_up (l := α 2 u) (r := α 3 u) (p := α 4 u) (d := α 5 u) hw (j := j + m) (by unfold dU lfU at h1; omega)
    have b := wk_up (l := tL α k) (r := tR α k) (p := α 8 k) (d := α 9 k) hw (j := j + m) (by unfold dT lfT at h2; omega)
    unfold pU pT at h3
    rw [h3, b] at a
    exact ⟨by omega, by omega, a.symm⟩
theorem eqW_s {α : St} {u k : Int} (hw : wT α) {j : Nat} (h : eqW α u k j) (hn : ¬ α 12 (pT α k j) = 0) : (yU α u (pT α k j) = yT α k (pT α k j) → eqW α u k (j + 1)) ∧ (eqW α u k (j + 1) → yU α u (pT α k j) = yT α k (pT α k j)) := by
  obtain ⟨h1, h2, h3⟩ := h
  have i1 := wk_in (l := tL α k) (r := tR α k) (p := α 8 k) (d := α 9 k) hw j
  have hu : ¬ α 12 (pU α u j) = 0 := by rw [h3]; exact hn
  have eT : pT α k (j + 1) = kid α (pT α k j) (tL α k) (tR α k) (α 8 k) (α 9 k) := by unfold pT at hn ⊢; rw [wk_suc, if_neg hn]
  have eU : pU α u (j + 1) = kid α (pT α k j) (α 2 u) (α 3 u) (α 4 u) (α 5 u) := by rw [← h3]; unfold pU at hu ⊢; rw [wk_suc, if_neg hu]
  have jT : (j : Int) < dT α k := by
    by_cases c : (j : Int) = dT α k
    · exfalso
      have := wk_end (l := tL α k) (r := tR α k) (p := α 8 k) (d := α 9 k) hw (j := j) c
      apply hn
      unfold pT
      rw [this]
      exact (lfT_p hw).2.2
    · omega
  have jU : (j : Int) < dU α u := by
    by_cases c : (j : Int) = dU α u
    · exfalso
      have := wk_end (l := α 2 u) (r := α 3 u) (p := α 4 u) (d := α 5 u) hw (j := j) c
      apply hu
      unfold pU
      rw [this]
      exact (lfU_p hw).2.2
    · omega
  have i2 : 0 ≤ pT α k j ∧ pT α k j < α 0 7 := ⟨i1.1, i1.2.1⟩
  have nd := ((hw.2.2.2.2.2 _ i2.1 i2.2).2.2.2 hn).2.2.2.1
  constructor
  · intro hy
    refine ⟨by omega, by omega, ?_⟩
    rw [eT, eU]
    unfold kid
    unfold yU yT at hy
    rw [hy]
  · intro he
    have e := he.2.2
    rw [eT, eU] at e
    unfold kid at e
    have r1 := yes_r (α := α) (i := pT α k j) (l := α 2 u) (r := α 3 u) (p := α 4 u) (d := α 5 u)
    have r2 := yes_r (α := α) (i := pT α k j) (l := tL α k) (r := tR α k) (p := α 8 k) (d := α 9 k)
    unfold yU yT
    rcases r1 with r1 | r1 <;> rcases r2 with r2 | r2 <;> rw [r1, r2] at e ⊢
    · simp at e; exact absurd e.symm nd
    · simp at e; exact absurd e nd
/-- how far a unit goes along with a target -/
def agG (α : St) (u k : Int) : Nat → Int → Int → Int
  | 0, _, x => x
  | n + 1, i, x => if α 12 i = 0 then x else if yU α u i = yT α k i then agG α u k n (kid α i (tL α k) (tR α k) (α 8 k) (α 9 k)) (x + 1) else x
def ag (α : St) (u k : Int) : Int := agG α u k 7 0 0
theorem agG_p {α : St} {u k : Int} (hw : wT α) : ∀ (n x : Nat), x + n = 7 → eqW α u k x → (x : Int) ≤ agG α u k n (pT α k x) x ∧ agG α u k n (pT α k x) x ≤ dT α k ∧ ∀ j : Nat, (j : Int) ≤ dT α k → (eqW α u k j ↔ (j : Int) ≤ agG α u k n (pT α k x) x) := by
  intro n
  have hdT := dT_r (k := k) hw
  have fin : ∀ x : Nat, eqW α u k x → (∀ j : Nat, (x : Int) < j → ¬ eqW α u k j) → (x : Int) ≤ x ∧ (x : Int) ≤ dT α k ∧ ∀ j : Nat, (j : Int) ≤ dT α k → (eqW α u k j ↔ (j : Int) ≤ x) := by
    intro x hx hn
    refine ⟨by omega, hx.2.1, fun j hj => ⟨fun h => ?_, fun h => ?_⟩⟩
    · by_cases c : (j : Int) ≤ x
      · exact c
      · exact absurd h (hn j (by omega))
    · exact eqW_d hw (x - j) j (by rw [show j + (x - j) = x by omega]; exact hx)
  induction n with
  | zero =>
    intro x hx h
    rw [agG]
    refine fin x h (fun j hj z => ?_)
    have := z.2.1
    omega
  | succ n ih =>
    intro x hx h
    rw [agG]
    have i1 := wk_in (l := tL α k) (r := tR α k) (p := α 8 k) (d := α 9 k) hw x
    by_cases c : α 12 (pT α k x) = 0
    · rw [if_pos c]
      refine fin x h (fun j hj z => ?_)
      have z2 := z.2.1
      exact wk_lt (l := tL α k) (r := tR α k) (p := α 8 k) (d := α 9 k) hw (j := x) (by unfold dT lfT at z2; omega) c
    · rw [if_neg c]
      have q := eqW_s hw h c
      by_cases c2 : yU α u (pT α k x) = yT α k (pT α k x)
      · rw [if_pos c2]
        have g := ih (x + 1) (by omega) (q.1 c2)
        have eT : pT α k (x + 1) = kid α (pT α k x) (tL α k) (tR α k) (α 8 k) (α 9 k) := by unfold pT at c ⊢; rw [wk_suc, if_neg c]
        rw [eT] at g
        rw [show ((x + 1 : Nat) : Int) = (x : Int) + 1 by omega] at g
        exact ⟨by omega, g.2.1, g.2.2⟩
      · rw [if_neg c2]
        refine fin x h (fun j hj z => c2 (q.2 ?_))
        exact eqW_d hw (j - (x + 1)) (x + 1) (by rw [show x + 1 + (j - (x + 1)) = j by omega]; exact z)
theorem ag_p {α : St} {u k : Int} (hw : wT α) : 0 ≤ ag α u k ∧ ag α u k ≤ dT α k ∧ ∀ j : Nat, (j : Int) ≤ dT α k → (eqW α u k j ↔ (j : Int) ≤ ag α u k) := by
  have h0 : eqW α u k 0 := ⟨by have := dU_r (u := u) hw; omega, by have := dT_r (k := k) hw; omega, rfl⟩
  exact agG_p hw 7 0 (by omega) h0
/-! the reference's ways -/
theorem m_along {σ α : St} {u k : Int} (kx : Int → Option Int) (h : JM σ α) (hw : WF α) (h0 : 0 ≤ u) (h1 : u < α 0 0) (h2 : 0 ≤ k) (h3 : k < α 0 1) : ∀ (m : Nat) (i x : Int) (n : Nat), 0 ≤ i → i < α 0 7 → α 17 i + m = 7 → m < n → lp_X10_goesAlong_5 σ u k kx n i x = kx (agG α u k m i x) := by
  have w1 := hw.2.2.2.2.1
  intro m
  induction m with
  | zero =>
    intro i x n i0 i1 i2 hn
    obtain ⟨n, rfl⟩ : ∃ k, n = k + 1 := ⟨n - 1, by omega⟩
    obtain ⟨a1, a2, a3⟩ := h.2.2.2.2.2.2 i i0 i1
    have c := deep_leaf hw.2.2.2.2 i0 i1 (by omega)
    rw [lp_X10_goesAlong_5, agG]
    simp (disch := omega) only [↓rdA_t, ↓wrA_t, ↓ixA_t, ↓wrF_d, ↓bd2_s, ↓bd1_s, ↓bnd_d, ↓iww_t, ↓iww_f, ↓iwl_t, ↓iwl_f, ↓ilw_t, ↓ilw_f, ↓eww_t, ↓eww_f, ↓ewl_t, ↓ewl_f, ↓ez_t, ↓ez_f, ↓il_t, ↓il_f, il_t, il_f, ez_t, ez_f, if_true, if_false, upS_h, upS_o, upS_i, Int.reduceAdd, Int.reduceSub, Int.reduceMul, Int.reduceNeg, wI_id, a1, c]
  | succ m ih =>
    intro i x n i0 i1 i2 hn
    obtain ⟨n, rfl⟩ : ∃ k, n = k + 1 := ⟨n - 1, by omega⟩
    obtain ⟨a1, a2, a3⟩ := h.2.2.2.2.2.2 i i0 i1
    have k1 := (hw.2.2.2.2.2.2.2.2.2 i i0 i1).1
    rw [lp_X10_goesAlong_5, agG]
    by_cases c : α 12 i = 0
    · simp (disch := omega) only [↓rdA_t, ↓wrA_t, ↓ixA_t, ↓wrF_d, ↓bd2_s, ↓bd1_s, ↓bnd_d, ↓iww_t, ↓iww_f, ↓iwl_t, ↓iwl_f, ↓ilw_t, ↓ilw_f, ↓eww_t, ↓eww_f, ↓ewl_t, ↓ewl_f, ↓ez_t, ↓ez_f, ↓il_t, ↓il_f, il_t, il_f, ez_t, ez_f, if_true, if_false, upS_h, upS_o, upS_i, Int.reduceAdd, Int.reduceSub, Int.reduceMul, Int.reduceNeg, wI_id, a1, c]
    · have kp := kid_p (l := tL α k) (r := tR α k) (p := α 8 k) (d := α 9 k) hw.2.2.2.2 i0 i1 c
      have g := ih (kid α i (tL α k) (tR α k) (α 8 k) (α 9 k)) (x + 1) n (by omega) kp.2.1 (by omega) (by omega)
      rw [if_neg c]
      by_cases c0 : yU α u i = yT α k i
      · rw [if_pos c0, ← g]
        unfold yU yT at c0
        unfold kid at kp ⊢
        by_cases c2 : yes α i (tL α k) (tR α k) (α 8 k) (α 9 k) = 0
        · rw [if_pos c2] at kp ⊢
          simp (disch := omega) only [↓rdA_t, ↓wrA_t, ↓ixA_t, ↓wrF_d, ↓bd2_s, ↓bd1_s, ↓bnd_d, ↓iww_t, ↓iww_f, ↓iwl_t, ↓iwl_f, ↓ilw_t, ↓ilw_f, ↓eww_t, ↓eww_f, ↓ewl_t, ↓ewl_f, ↓ez_t, ↓ez_f, ↓il_t, ↓il_f, il_t, il_f, ez_t, ez_f, if_true, if_false, upS_h, upS_o, upS_i, Int.reduceAdd, Int.reduceSub, Int.reduceMul, Int.reduceNeg, wI_id, a1, m_tAns h hw i0 i1 c h2 h3, m_uAns h hw i0 i1 c h0 h1, (a3 c).2]
        · rw [if_neg c2] at kp ⊢
          simp (disch := omega) only [↓rdA_t, ↓wrA_t, ↓ixA_t, ↓wrF_d, ↓bd2_s, ↓bd1_s, ↓bnd_d, ↓iww_t, ↓iww_f, ↓iwl_t, ↓iwl_f, ↓ilw_t, ↓ilw_f, ↓eww_t, ↓eww_f, ↓ewl_t, ↓ewl_f, ↓ez_t, ↓ez_f, ↓il_t, ↓il_f, il_t, il_f, ez_t, ez_f, if_true, if_false, upS_h, upS_o, upS_i, Int.reduceAdd, Int.reduceSub, Int.reduceMul, Int.reduceNeg, wI_id, a1, m_tAns h hw i0 i1 c h2 h3, m_uAns h hw i0 i1 c h0 h1, (a3 c).1]
      · rw [if_neg c0]
        unfold yU yT at c0
        simp (disch := omega) only [↓rdA_t, ↓wrA_t, ↓ixA_t, ↓wrF_d, ↓bd2_s, ↓bd1_s, ↓bnd_d, ↓iww_t, ↓iww_f, ↓iwl_t, ↓iwl_f, ↓ilw_t, ↓ilw_f, ↓eww_t, ↓eww_f, ↓ewl_t, ↓ewl_f, ↓ez_t, ↓ez_f, ↓il_t, ↓il_f, il_t, il_f, ez_t, ez_f, if_true, if_false, upS_h, upS_o, upS_i, Int.reduceAdd, Int.reduceSub, Int.reduceMul, Int.reduceNeg, wI_id, a1, m_tAns h hw i0 i1 c h2 h3, m_uAns h hw i0 i1 c h0 h1]
theorem m_ag {σ α : St} {u k : Int} (h : JM σ α) (hw : WF α) (h0 : 0 ≤ u) (h1 : u < α 0 0) (h2 : 0 ≤ k) (h3 : k < α 0 1) : f_X10_goesAlong σ u k = some (ag α u k) := by
  unfold f_X10_goesAlong ag
  exact m_along _ h hw h0 h1 h2 h3 7 0 0 1000 (by omega) (by have := hw.2.2.2.2.1; omega) (by have := hw.2.2.2.2.2.2.2.2.1; omega) (by omega)
theorem m_way_g {σ α : St} {k : Int} (kx : Int → Option Int) (h : JM σ α) (hw : WF α) (h2 : 0 ≤ k) (h3 : k < α 0 1) : ∀ (m : Nat) (i x : Int) (n : Nat), 0 ≤ i → i < α 0 7 → α 17 i + m = 7 → α 17 i = x → m < n → lp_X10_wayLong_4 σ k kx n i x = kx (α 17 (wk α (tL α k) (tR α k) (α 8 k) (α 9 k) m i)) := by
  have w1 := hw.2.2.2.2.1
  intro m
  induction m with
  | zero =>
    intro i x n i0 i1 i2 i3 hn
    obtain ⟨n, rfl⟩ : ∃ k, n = k + 1 := ⟨n - 1, by omega⟩
    obtain ⟨a1, a2, a3⟩ := h.2.2.2.2.2.2 i i0 i1
    have c := deep_leaf hw.2.2.2.2 i0 i1 (by omega)
    rw [lp_X10_wayLong_4, wk, i3]
    simp (disch := omega) only [↓rdA_t, ↓wrA_t, ↓ixA_t, ↓wrF_d, ↓bd2_s, ↓bd1_s, ↓bnd_d, ↓iww_t, ↓iww_f, ↓iwl_t, ↓iwl_f, ↓ilw_t, ↓ilw_f, ↓eww_t, ↓eww_f, ↓ewl_t, ↓ewl_f, ↓ez_t, ↓ez_f, ↓il_t, ↓il_f, il_t, il_f, ez_t, ez_f, if_true, if_false, upS_h, upS_o, upS_i, Int.reduceAdd, Int.reduceSub, Int.reduceMul, Int.reduceNeg, wI_id, a1, c]
  | succ m ih =>
    intro i x n i0 i1 i2 i3 hn
    obtain ⟨n, rfl⟩ : ∃ k, n = k + 1 := ⟨n - 1, by omega⟩
    obtain ⟨a1, a2, a3⟩ := h.2.2.2.2.2.2 i i0 i1
    have k1 := (hw.2.2.2.2.2.2.2.2.2 i i0 i1).1
    rw [lp_X10_wayLong_4, wk]
    by_cases c : α 12 i = 0
    · rw [if_pos c, i3]
      simp (disch := omega) only [↓rdA_t, ↓wrA_t, ↓ixA_t, ↓wrF_d, ↓bd2_s, ↓bd1_s, ↓bnd_d, ↓iww_t, ↓iww_f, ↓iwl_t, ↓iwl_f, ↓ilw_t, ↓ilw_f, ↓eww_t, ↓eww_f, ↓ewl_t, ↓ewl_f, ↓ez_t, ↓ez_f, ↓il_t, ↓il_f, il_t, il_f, ez_t, ez_f, if_true, if_false, upS_h, upS_o, upS_i, Int.reduceAdd, Int.reduceSub, Int.reduceMul, Int.reduceNeg, wI_id, a1, c]
    · have kp := kid_p (l := tL α k) (r := tR α k) (p := α 8 k) (d := α 9 k) hw.2.2.2.2 i0 i1 c
      have g := ih (kid α i (tL α k) (tR α k) (α 8 k) (α 9 k)) (x + 1) n (by omega) kp.2.1 (by omega) (by omega) (by omega)
      rw [if_neg c, ← g]
      unfold kid at kp ⊢
      by_cases c2 : yes α i (tL α k) (tR α k) (α 8 k) (α 9 k) = 0
      · rw [if_pos c2] at kp ⊢
        simp (disch := omega) only [↓rdA_t, ↓wrA_t, ↓ixA_t, ↓wrF_d, ↓bd2_s, ↓bd1_s, ↓bnd_d, ↓iww_t, ↓iww_f, ↓iwl_t, ↓iwl_f, ↓ilw_t, ↓ilw_f, ↓eww_t, ↓eww_f, ↓ewl_t, ↓ewl_f, ↓ez_t, ↓ez_f, ↓il_t, ↓il_f, il_t, il_f, ez_t, ez_f, if_true, if_false, upS_h, upS_o, upS_i, Int.reduceAdd, Int.reduceSub, Int.reduceMul, Int.reduceNeg, wI_id, a1, m_tAns h hw i0 i1 c h2 h3, (a3 c).2]
      · rw [if_neg c2] at kp ⊢
        simp (disch := omega) only [↓rdA_t, ↓wrA_t, ↓ixA_t, ↓wrF_d, ↓bd2_s, ↓bd1_s, ↓bnd_d, ↓iww_t, ↓iww_f, ↓iwl_t, ↓iwl_f, ↓ilw_t, ↓ilw_f, ↓eww_t, ↓eww_f, ↓ewl_t, ↓ewl_f, ↓ez_t, ↓ez_f, ↓il_t, ↓il_f, il_t, il_f, ez_t, ez_f, if_true, if_false, upS_h, upS_o, upS_i, Int.reduceAdd, Int.reduceSub, Int.reduceMul, Int.reduceNeg, wI_id, a1, m_tAns h hw i0 i1 c h2 h3, (a3 c).1]
theorem m_way {σ α : St} {k : Int} (h : JM σ α) (hw : WF α) (h2 : 0 ≤ k) (h3 : k < α 0 1) : f_X10_wayLong σ k = some (dT α k) := by
  unfold f_X10_wayLong dT lfT
  have e := hw.2.2.2.2.2.2.2.2.1
  exact m_way_g _ h hw h2 h3 7 0 0 1000 (by omega) (by have := hw.2.2.2.2.1; omega) (by omega) e (by omega)
/-! the component's: which leaves lie under a node of the target's way -/
theorem c_above {σ α : St} {i : Int} (h : cT σ α) (hw : wT α) (h0 : 0 ≤ i) (h1 : i < α 0 7) : f_X7_nodeAbove σ 14 i = some (α 16 i) := by
  have w := hw.1
  have hs := h.1
  have e := (h.2.2.2 i h0 h1).2.1
  unfold f_X7_nodeAbove
  simp (disch := omega) only [↓rdA_t, ↓wrA_t, ↓ixA_t, ↓wrF_d, ↓bd2_s, ↓bd1_s, ↓bnd_d, ↓iww_t, ↓iww_f, ↓iwl_t, ↓iwl_f, ↓ilw_t, ↓ilw_f, ↓eww_t, ↓eww_f, ↓ewl_t, ↓ewl_f, ↓ez_t, ↓ez_f, ↓il_t, ↓il_f, il_t, il_f, ez_t, ez_f, if_true, if_false, upS_h, upS_o, upS_i, Int.reduceAdd, Int.reduceSub, Int.reduceMul, Int.reduceNeg, wI_id, e]
theorem c_under_g {σ α : St} {u k : Int} {j : Nat} (h : cT σ α) (hw : wT α) (hj : (j : Int) ≤ dT α k) : ∀ (m : Nat) (x : Int) (n : Nat), (m : Int) ≤ dU α u → x + m ≤ 7 → 0 ≤ x → m + 1 < n → (∀ m' : Nat, (m : Int) < m' → (m' : Int) ≤ dU α u → ¬ pU α u m' = pT α k j) → lp_X7_liesUnder_5 σ 14 (pT α k j) (fun y5 => jn_X7_liesUnder_34 σ (pT α k j) y5) n (pU α u m) x = some (if (j : Int) ≤ ag α u k then 1 else 0) := by
  have w1 := hw.1
  have y1 := wk_in (l := tL α k) (r := tR α k) (p := α 8 k) (d := α 9 k) hw j
  have y2 : 0 ≤ pT α k j ∧ pT α k j < α 0 7 := ⟨y1.1, y1.2.1⟩
  have y3 : α 17 (pT α k j) = j := wk_dep hw hj
  have hit : ∀ m : Nat, (m : Int) ≤ dU α u → pU α u m = pT α k j → (j : Int) ≤ ag α u k := by
    intro m hm e
    have d : α 17 (pU α u m) = m := wk_dep hw hm
    rw [e, y3] at d
    have : m = j := by omega
    subst this
    exact ((ag_p hw).2.2 m hj).1 ⟨hm, hj, e⟩
  have mis : (∀ m' : Nat, (m' : Int) ≤ dU α u → ¬ pU α u m' = pT α k j) → ¬ (j : Int) ≤ ag α u k := by
    intro hm z
    have e := ((ag_p hw).2.2 j hj).2 z
    exact hm j e.1 e.2.2
  intro m
  induction m with
  | zero =>
    intro x n hm h2 h3 hn hno
    obtain ⟨n, rfl⟩ : ∃ k, n = k + 2 := ⟨n - 2, by omega⟩
    have e0 : pU α u 0 = 0 := rfl
    rw [e0]
    rw [lp_X7_liesUnder_5]
    unfold jn_X7_liesUnder_34
    by_cases c : pT α k j = 0
    · rw [if_pos (hit 0 hm (by rw [e0, c]))]
      by_cases c2 : x < 7
      · simp (disch := omega) only [↓rdA_t, ↓wrA_t, ↓ixA_t, ↓wrF_d, ↓bd2_s, ↓bd1_s, ↓bnd_d, ↓iww_t, ↓iww_f, ↓iwl_t, ↓iwl_f, ↓ilw_t, ↓ilw_f, ↓eww_t, ↓eww_f, ↓ewl_t, ↓ewl_f, ↓ez_t, ↓ez_f, ↓il_t, ↓il_f, il_t, il_f, ez_t, ez_f, if_true, if_false, upS_h, upS_o, upS_i, Int.reduceAdd, Int.reduceSub, Int.reduceMul, Int.reduceNeg, wI_id, c]
      · simp (disch := omega) only [↓rdA_t, ↓wrA_t, ↓ixA_t, ↓wrF_d, ↓bd2_s, ↓bd1_s, ↓bnd_d, ↓iww_t, ↓iww_f, ↓iwl_t, ↓iwl_f, ↓ilw_t, ↓ilw_f, ↓eww_t, ↓eww_f, ↓ewl_t, ↓ewl_f, ↓ez_t, ↓ez_f, ↓il_t, ↓il_f, il_t, il_f, ez_t, ez_f, if_true, if_false, upS_h, upS_o, upS_i, Int.reduceAdd, Int.reduceSub, Int.reduceMul, Int.reduceNeg, wI_id, c]
    · have q := mis (fun m' hm' => by
        by_cases c3 : m' = 0
        · subst c3; rw [e0]; exact fun z => c z.symm
        · exact hno m' (by omega) hm')
      rw [if_neg q]
      by_cases c2 : x < 7
      · simp (disch := omega) only [↓rdA_t, ↓wrA_t, ↓ixA_t, ↓wrF_d, ↓bd2_s, ↓bd1_s, ↓bnd_d, ↓iww_t, ↓iww_f, ↓iwl_t, ↓iwl_f, ↓ilw_t, ↓ilw_f, ↓eww_t, ↓eww_f, ↓ewl_t, ↓ewl_f, ↓ez_t, ↓ez_f, ↓il_t, ↓il_f, il_t, il_f, ez_t, ez_f, if_true, if_false, upS_h, upS_o, upS_i, Int.reduceAdd, Int.reduceSub, Int.reduceMul, Int.reduceNeg, wI_id, c_above h hw (i := 0) (by omega) (by omega), hw.2.2.2.1]
        rw [lp_X7_liesUnder_5]
        by_cases c4 : x + 1 < 7
        · simp (disch := omega) only [↓rdA_t, ↓wrA_t, ↓ixA_t, ↓wrF_d, ↓bd2_s, ↓bd1_s, ↓bnd_d, ↓iww_t, ↓iww_f, ↓iwl_t, ↓iwl_f, ↓ilw_t, ↓ilw_f, ↓eww_t, ↓eww_f, ↓ewl_t, ↓ewl_f, ↓ez_t, ↓ez_f, ↓il_t, ↓il_f, il_t, il_f, ez_t, ez_f, if_true, if_false, upS_h, upS_o, upS_i, Int.reduceAdd, Int.reduceSub, Int.reduceMul, Int.reduceNeg, wI_id]
        · simp (disch := omega) only [↓rdA_t, ↓wrA_t, ↓ixA_t, ↓wrF_d, ↓bd2_s, ↓bd1_s, ↓bnd_d, ↓iww_t, ↓iww_f, ↓iwl_t, ↓iwl_f, ↓ilw_t, ↓ilw_f, ↓eww_t, ↓eww_f, ↓ewl_t, ↓ewl_f, ↓ez_t, ↓ez_f, ↓il_t, ↓il_f, il_t, il_f, ez_t, ez_f, if_true, if_false, upS_h, upS_o, upS_i, Int.reduceAdd, Int.reduceSub, Int.reduceMul, Int.reduceNeg, wI_id]
      · simp (disch := omega) only [↓rdA_t, ↓wrA_t, ↓ixA_t, ↓wrF_d, ↓bd2_s, ↓bd1_s, ↓bnd_d, ↓iww_t, ↓iww_f, ↓iwl_t, ↓iwl_f, ↓ilw_t, ↓ilw_f, ↓eww_t, ↓eww_f, ↓ewl_t, ↓ewl_f, ↓ez_t, ↓ez_f, ↓il_t, ↓il_f, il_t, il_f, ez_t, ez_f, if_true, if_false, upS_h, upS_o, upS_i, Int.reduceAdd, Int.reduceSub, Int.reduceMul, Int.reduceNeg, wI_id]
  | succ m ih =>
    intro x n hm h2 h3 hn hno
    obtain ⟨n, rfl⟩ : ∃ k, n = k + 1 := ⟨n - 1, by omega⟩
    have u1 := wk_in (l := α 2 u) (r := α 3 u) (p := α 4 u) (d := α 5 u) hw (m + 1)
    have u2 : 0 ≤ pU α u (m + 1) ∧ pU α u (m + 1) < α 0 7 := ⟨u1.1, u1.2.1⟩
    rw [lp_X7_liesUnder_5]
    by_cases c : pU α u (m + 1) = pT α k j
    · rw [if_pos (hit (m + 1) hm c)]
      unfold jn_X7_liesUnder_34
      simp (disch := omega) only [↓rdA_t, ↓wrA_t, ↓ixA_t, ↓wrF_d, ↓bd2_s, ↓bd1_s, ↓bnd_d, ↓iww_t, ↓iww_f, ↓iwl_t, ↓iwl_f, ↓ilw_t, ↓ilw_f, ↓eww_t, ↓eww_f, ↓ewl_t, ↓ewl_f, ↓ez_t, ↓ez_f, ↓il_t, ↓il_f, il_t, il_f, ez_t, ez_f, if_true, if_false, upS_h, upS_o, upS_i, Int.reduceAdd, Int.reduceSub, Int.reduceMul, Int.reduceNeg, wI_id, c]
    · have up : α 16 (pU α u (m + 1)) = pU α u m := wk_up hw (by unfold dU lfU at hm; omega)
      have g := ih (x + 1) n (by omega) (by omega) (by omega) (by omega) (fun m' a b => by
        by_cases c3 : m' = m + 1
        · subst c3; exact c
        · exact hno m' (by omega) b)
      rw [← g]
      simp (disch := omega) only [↓rdA_t, ↓wrA_t, ↓ixA_t, ↓wrF_d, ↓bd2_s, ↓bd1_s, ↓bnd_d, ↓iww_t, ↓iww_f, ↓iwl_t, ↓iwl_f, ↓ilw_t, ↓ilw_f, ↓eww_t, ↓eww_f, ↓ewl_t, ↓ewl_f, ↓ez_t, ↓ez_f, ↓il_t, ↓il_f, il_t, il_f, ez_t, ez_f, if_true, if_false, upS_h, upS_o, upS_i, Int.reduceAdd, Int.reduceSub, Int.reduceMul, Int.reduceNeg, wI_id, c_above h hw u2.1 u2.2, up]
theorem c_under {σ α : St} {u k : Int} {j : Nat} (h : cT σ α) (hw : wT α) (hj : (j : Int) ≤ dT α k) : f_X7_liesUnder σ 14 (lfU α u) (pT α k j) = some (if (j : Int) ≤ ag α u k then 1 else 0) := by
  unfold f_X7_liesUnder
  have r := dU_r (u := u) hw
  have e : pU α u (dU α u).toNat = lfU α u := wk_end hw (by unfold dU lfU at r ⊢; omega)
  rw [← e]
  exact c_under_g h hw hj (dU α u).toNat 0 1000 (by omega) (by omega) (by omega) (by omega) (fun m' a b => by omega)
