/-! ===== long division ===== -/
theorem divL_e {x y : Int} (h : 0 ≤ x ∧ x ≤ 9223372036854775807 ∧ 0 < y ∧ y ≤ 9223372036854775807) : divL x y = x / y := by
  have q1 : 0 ≤ x / y := Int.ediv_nonneg h.1 (by omega)
  have q2 : x / y ≤ x := Int.ediv_le_self y h.1
  unfold divL lV
  rw [Int64.toInt_div, Int64.toInt_ofInt_of_le (by omega) (by omega), Int64.toInt_ofInt_of_le (by omega) (by omega), Int.tdiv_eq_ediv_of_nonneg h.1]
  rw [Int.bmod_def]
  omega
theorem remL_e {x y : Int} (h : 0 ≤ x ∧ x ≤ 9223372036854775807 ∧ 0 < y ∧ y ≤ 9223372036854775807) : remL x y = x % y := by
  have q1 : 0 ≤ x / y := Int.ediv_nonneg h.1 (by omega)
  have q2 : x / y ≤ x := Int.ediv_le_self y h.1
  have e := divL_e h
  unfold divL at e
  have d := Int.emod_nonneg x (show y ≠ 0 by omega)
  have d3 := Int.emod_def x y
  have d4 : 0 ≤ y * (x / y) := Int.mul_nonneg (by omega) q1
  have d2 : x % y ≤ x := by omega
  unfold remL
  have e2 : lV x / lV y = Int64.ofInt (x / y) := by
    rw [← Int64.ofInt_toInt (lV x / lV y), e]
  rw [e2]
  show (Int64.ofInt x - Int64.ofInt (x / y) * Int64.ofInt y).toInt = x % y
  rw [← Int64.ofInt_mul, ← Int64.ofInt_sub, Int.mul_comm (x / y) y, ← d3]
  exact Int64.toInt_ofInt_of_le (by omega) (by omega)
/-! ===== unit ===== -/
abbrev okUnit (s l r p d t : Int) : Prop := (0 ≤ s ∧ s ≤ 5) ∧ (0 ≤ l ∧ l ≤ 6) ∧ (0 ≤ r ∧ r ≤ 6) ∧ (0 ≤ p ∧ p ≤ 9) ∧ (1 ≤ d ∧ d ≤ 9) ∧ (0 ≤ t ∧ t ≤ 3)
def rUnit (α : St) (s l r p d t : Int) : Int := if okUnit s l r p d t then (if α 0 0 < 40 then α 0 0 else -4) else -2
def aUnit (α : St) (s l r p d t : Int) : St := if okUnit s l r p d t then (if α 0 0 < 40 then aAdd α s l r p d t else aR α 5) else aR α 3
theorem xc_unit {σ α : St} {s l r p d t : Int} (h : IC σ α) (hw : WF α) (hs : inR s) (hl : inR l) (hr : inR r) (hp : inR p) (hd : inR d) (ht : inR t) : oC (f_X9_unit σ s l r p d t) σ α (rUnit α s l r p d t) (aUnit α s l r p d t) := by
  unfold inR at hs hl hr hp hd ht
  have hn := hw.1.1
  have hm := hw.1.2.1
  have h8 := h.1.1
  unfold f_X9_unit f_X9_isSound f_X9_isTake rUnit aUnit
  by_cases c : okUnit s l r p d t
  · rw [if_pos c, if_pos c]
    have c' := c
    unfold okUnit at c'
    by_cases cn : α 0 0 < 40
    · obtain ⟨τ, e1, e2, e3⟩ := cU_add (s := s) (l := l) (r := r) (p := p) (d := d) (t := t) h.1 hw.1 cn c'.2.2.2.2.2
      rw [if_pos cn, if_pos cn]
      simp (disch := omega) only [↓rdA_t, ↓wrA_t, ↓ixA_t, ↓wrF_d, ↓bd2_s, ↓bd1_s, ↓bnd_d, ↓iww_t, ↓iww_f, ↓iwl_t, ↓iwl_f, ↓ilw_t, ↓ilw_f, ↓eww_t, ↓eww_f, ↓ewl_t, ↓ewl_f, ↓ez_t, ↓ez_f, ↓il_t, ↓il_f, il_t, il_f, ez_t, ez_f, if_true, if_false, upS_h, upS_o, upS_i, Int.reduceAdd, Int.reduceSub, Int.reduceMul, Int.reduceNeg, wI_id, within_t, e1]
      exact ⟨τ, rfl, IC_chU e3 (fun i hi => aAdd_z hi) (fun o ho => aAdd_c ho) h e2, fun o ho => e3 o (by omega)⟩
    · rw [if_neg cn, if_neg cn]
      simp (disch := omega) only [↓rdA_t, ↓wrA_t, ↓ixA_t, ↓wrF_d, ↓bd2_s, ↓bd1_s, ↓bnd_d, ↓iww_t, ↓iww_f, ↓iwl_t, ↓iwl_f, ↓ilw_t, ↓ilw_f, ↓eww_t, ↓eww_f, ↓ewl_t, ↓ewl_f, ↓ez_t, ↓ez_f, ↓il_t, ↓il_f, il_t, il_f, ez_t, ez_f, if_true, if_false, upS_h, upS_o, upS_i, Int.reduceAdd, Int.reduceSub, Int.reduceMul, Int.reduceNeg, wI_id, within_t]
      exact oC_id (oC_full h)
  · rw [if_neg c, if_neg c]
    have c' := c
    unfold okUnit at c'
    by_cases c1 : 0 ≤ s ∧ s ≤ 5
    · by_cases c2 : 0 ≤ l ∧ l ≤ 6
      · by_cases c3 : 0 ≤ r ∧ r ≤ 6
        · by_cases c4 : 0 ≤ p ∧ p ≤ 9
          · by_cases c5 : 1 ≤ d ∧ d ≤ 9
            · by_cases c6 : 0 ≤ t ∧ t ≤ 3
              · exact absurd ⟨c1, c2, c3, c4, c5, c6⟩ c
              · clear c'
                simp (disch := omega) only [↓rdA_t, ↓wrA_t, ↓ixA_t, ↓wrF_d, ↓bd2_s, ↓bd1_s, ↓bnd_d, ↓iww_t, ↓iww_f, ↓iwl_t, ↓iwl_f, ↓ilw_t, ↓ilw_f, ↓eww_t, ↓eww_f, ↓ewl_t, ↓ewl_f, ↓ez_t, ↓ez_f, ↓il_t, ↓il_f, il_t, il_f, ez_t, ez_f, if_true, if_false, upS_h, upS_o, upS_i, Int.reduceAdd, Int.reduceSub, Int.reduceMul, Int.reduceNeg, wI_id, within_t, within_f]
                exact oC_id (oC_bad h)
            · clear c'
              simp (disch := omega) only [↓rdA_t, ↓wrA_t, ↓ixA_t, ↓wrF_d, ↓bd2_s, ↓bd1_s, ↓bnd_d, ↓iww_t, ↓iww_f, ↓iwl_t, ↓iwl_f, ↓ilw_t, ↓ilw_f, ↓eww_t, ↓eww_f, ↓ewl_t, ↓ewl_f, ↓ez_t, ↓ez_f, ↓il_t, ↓il_f, il_t, il_f, ez_t, ez_f, if_true, if_false, upS_h, upS_o, upS_i, Int.reduceAdd, Int.reduceSub, Int.reduceMul, Int.reduceNeg, wI_id, within_t, within_f]
              exact oC_id (oC_bad h)
          · clear c'
            simp (disch := omega) only [↓rdA_t, ↓wrA_t, ↓ixA_t, ↓wrF_d, ↓bd2_s, ↓bd1_s, ↓bnd_d, ↓iww_t, ↓iww_f, ↓iwl_t, ↓iwl_f, ↓ilw_t, ↓ilw_f, ↓eww_t, ↓eww_f, ↓ewl_t, ↓ewl_f, ↓ez_t, ↓ez_f, ↓il_t, ↓il_f, il_t, il_f, ez_t, ez_f, if_true, if_false, upS_h, upS_o, upS_i, Int.reduceAdd, Int.reduceSub, Int.reduceMul, Int.reduceNeg, wI_id, within_t, within_f]
            exact oC_id (oC_bad h)
        · clear c'
          simp (disch := omega) only [↓rdA_t, ↓wrA_t, ↓ixA_t, ↓wrF_d, ↓bd2_s, ↓bd1_s, ↓bnd_d, ↓iww_t, ↓iww_f, ↓iwl_t, ↓iwl_f, ↓ilw_t, ↓ilw_f, ↓eww_t, ↓eww_f, ↓ewl_t, ↓ewl_f, ↓ez_t, ↓ez_f, ↓il_t, ↓il_f, il_t, il_f, ez_t, ez_f, if_true, if_false, upS_h, upS_o, upS_i, Int.reduceAdd, Int.reduceSub, Int.reduceMul, Int.reduceNeg, wI_id, within_t, within_f]
          exact oC_id (oC_bad h)
      · clear c'
        simp (disch := omega) only [↓rdA_t, ↓wrA_t, ↓ixA_t, ↓wrF_d, ↓bd2_s, ↓bd1_s, ↓bnd_d, ↓iww_t, ↓iww_f, ↓iwl_t, ↓iwl_f, ↓ilw_t, ↓ilw_f, ↓eww_t, ↓eww_f, ↓ewl_t, ↓ewl_f, ↓ez_t, ↓ez_f, ↓il_t, ↓il_f, il_t, il_f, ez_t, ez_f, if_true, if_false, upS_h, upS_o, upS_i, Int.reduceAdd, Int.reduceSub, Int.reduceMul, Int.reduceNeg, wI_id, within_t, within_f]
        exact oC_id (oC_bad h)
    · clear c'
      simp (disch := omega) only [↓rdA_t, ↓wrA_t, ↓ixA_t, ↓wrF_d, ↓bd2_s, ↓bd1_s, ↓bnd_d, ↓iww_t, ↓iww_f, ↓iwl_t, ↓iwl_f, ↓ilw_t, ↓ilw_f, ↓eww_t, ↓eww_f, ↓ewl_t, ↓ewl_f, ↓ez_t, ↓ez_f, ↓il_t, ↓il_f, il_t, il_f, ez_t, ez_f, if_true, if_false, upS_h, upS_o, upS_i, Int.reduceAdd, Int.reduceSub, Int.reduceMul, Int.reduceNeg, wI_id, within_t, within_f]
      exact oC_id (oC_bad h)
theorem IM_add {σ τ α : St} {s l r p d t : Int} (h : IM σ α) (e2 : mU τ (aAdd α s l r p d t)) (e3 : ∀ o, ¬ o = 118 → ¬ o = 119 → τ o = σ o) (e4 : ∀ i, ¬ i = 1 → τ 118 i = σ 118 i) : IM τ (aAdd α s l r p d t) :=
  IM_chU (fun i _ hi => e4 i hi) (fun o o1 _ => e3 o (by omega) (by omega)) (fun i hi => aAdd_z hi) (fun o ho => aAdd_c ho) h e2
theorem xm_unit {σ α : St} {s l r p d t : Int} (h : IM σ α) (hw : WF α) (hs : inR s) (hl : inR l) (hr : inR r) (hp : inR p) (hd : inR d) (ht : inR t) : oM (f_X10_unit σ s l r p d t) σ α (rUnit α s l r p d t) (aUnit α s l r p d t) := by
  unfold inR at hs hl hr hp hd ht
  have hn := hw.1.1
  have hm := hw.1.2.1
  have h8 := h.1.1
  unfold f_X10_unit f_X10_isSound rUnit aUnit
  by_cases c : okUnit s l r p d t
  · rw [if_pos c, if_pos c]
    have c' := c
    unfold okUnit at c'
    by_cases cn : α 0 0 < 40
    · obtain ⟨τ, e1, e2, e3, e4⟩ := mU_add (s := s) (l := l) (r := r) (p := p) (d := d) (t := t) h.1 hw.1 cn
      rw [if_pos cn, if_pos cn]
      simp (disch := omega) only [↓rdA_t, ↓wrA_t, ↓ixA_t, ↓wrF_d, ↓bd2_s, ↓bd1_s, ↓bnd_d, ↓iww_t, ↓iww_f, ↓iwl_t, ↓iwl_f, ↓ilw_t, ↓ilw_f, ↓eww_t, ↓eww_f, ↓ewl_t, ↓ewl_f, ↓ez_t, ↓ez_f, ↓il_t, ↓il_f, il_t, il_f, ez_t, ez_f, if_true, if_false, upS_h, upS_o, upS_i, Int.reduceAdd, Int.reduceSub, Int.reduceMul, Int.reduceNeg, wI_id, in_t, e1]
      refine ⟨τ, ?_, IM_add h e2 e3 e4, fun o ho => e3 o (by omega) (by omega)⟩
      rw [e2.1, aAdd_0]; congr 2; omega
    · rw [if_neg cn, if_neg cn]
      simp (disch := omega) only [↓rdA_t, ↓wrA_t, ↓ixA_t, ↓wrF_d, ↓bd2_s, ↓bd1_s, ↓bnd_d, ↓iww_t, ↓iww_f, ↓iwl_t, ↓iwl_f, ↓ilw_t, ↓ilw_f, ↓eww_t, ↓eww_f, ↓ewl_t, ↓ewl_f, ↓ez_t, ↓ez_f, ↓il_t, ↓il_f, il_t, il_f, ez_t, ez_f, if_true, if_false, upS_h, upS_o, upS_i, Int.reduceAdd, Int.reduceSub, Int.reduceMul, Int.reduceNeg, wI_id, in_t]
      exact oM_id (oM_full h)
  · rw [if_neg c, if_neg c]
    have c' := c
    unfold okUnit at c'
    by_cases c1 : 0 ≤ s ∧ s ≤ 5
    · by_cases c2 : 0 ≤ l ∧ l ≤ 6
      · by_cases c3 : 0 ≤ r ∧ r ≤ 6
        · by_cases c4 : 0 ≤ p ∧ p ≤ 9
          · by_cases c5 : 1 ≤ d ∧ d ≤ 9
            · by_cases c6 : 0 ≤ t ∧ t ≤ 3
              · exact absurd ⟨c1, c2, c3, c4, c5, c6⟩ c
              · clear c'
                simp (disch := omega) only [↓rdA_t, ↓wrA_t, ↓ixA_t, ↓wrF_d, ↓bd2_s, ↓bd1_s, ↓bnd_d, ↓iww_t, ↓iww_f, ↓iwl_t, ↓iwl_f, ↓ilw_t, ↓ilw_f, ↓eww_t, ↓eww_f, ↓ewl_t, ↓ewl_f, ↓ez_t, ↓ez_f, ↓il_t, ↓il_f, il_t, il_f, ez_t, ez_f, if_true, if_false, upS_h, upS_o, upS_i, Int.reduceAdd, Int.reduceSub, Int.reduceMul, Int.reduceNeg, wI_id, in_t, in_f]
                exact oM_id (oM_bad (-2) h)
            · clear c'
              simp (disch := omega) only [↓rdA_t, ↓wrA_t, ↓ixA_t, ↓wrF_d, ↓bd2_s, ↓bd1_s, ↓bnd_d, ↓iww_t, ↓iww_f, ↓iwl_t, ↓iwl_f, ↓ilw_t, ↓ilw_f, ↓eww_t, ↓eww_f, ↓ewl_t, ↓ewl_f, ↓ez_t, ↓ez_f, ↓il_t, ↓il_f, il_t, il_f, ez_t, ez_f, if_true, if_false, upS_h, upS_o, upS_i, Int.reduceAdd, Int.reduceSub, Int.reduceMul, Int.reduceNeg, wI_id, in_t, in_f]
              exact oM_id (oM_bad (-2) h)
          · clear c'
            simp (disch := omega) only [↓rdA_t, ↓wrA_t, ↓ixA_t, ↓wrF_d, ↓bd2_s, ↓bd1_s, ↓bnd_d, ↓iww_t, ↓iww_f, ↓iwl_t, ↓iwl_f, ↓ilw_t, ↓ilw_f, ↓eww_t, ↓eww_f, ↓ewl_t, ↓ewl_f, ↓ez_t, ↓ez_f, ↓il_t, ↓il_f, il_t, il_f, ez_t, ez_f, if_true, if_false, upS_h, upS_o, upS_i, Int.reduceAdd, Int.reduceSub, Int.reduceMul, Int.reduceNeg, wI_id, in_t, in_f]
            exact oM_id (oM_bad (-2) h)
        · clear c'
          simp (disch := omega) only [↓rdA_t, ↓wrA_t, ↓ixA_t, ↓wrF_d, ↓bd2_s, ↓bd1_s, ↓bnd_d, ↓iww_t, ↓iww_f, ↓iwl_t, ↓iwl_f, ↓ilw_t, ↓ilw_f, ↓eww_t, ↓eww_f, ↓ewl_t, ↓ewl_f, ↓ez_t, ↓ez_f, ↓il_t, ↓il_f, il_t, il_f, ez_t, ez_f, if_true, if_false, upS_h, upS_o, upS_i, Int.reduceAdd, Int.reduceSub, Int.reduceMul, Int.reduceNeg, wI_id, in_t, in_f]
          exact oM_id (oM_bad (-2) h)
      · clear c'
        simp (disch := omega) only [↓rdA_t, ↓wrA_t, ↓ixA_t, ↓wrF_d, ↓bd2_s, ↓bd1_s, ↓bnd_d, ↓iww_t, ↓iww_f, ↓iwl_t, ↓iwl_f, ↓ilw_t, ↓ilw_f, ↓eww_t, ↓eww_f, ↓ewl_t, ↓ewl_f, ↓ez_t, ↓ez_f, ↓il_t, ↓il_f, il_t, il_f, ez_t, ez_f, if_true, if_false, upS_h, upS_o, upS_i, Int.reduceAdd, Int.reduceSub, Int.reduceMul, Int.reduceNeg, wI_id, in_t, in_f]
        exact oM_id (oM_bad (-2) h)
    · clear c'
      simp (disch := omega) only [↓rdA_t, ↓wrA_t, ↓ixA_t, ↓wrF_d, ↓bd2_s, ↓bd1_s, ↓bnd_d, ↓iww_t, ↓iww_f, ↓iwl_t, ↓iwl_f, ↓ilw_t, ↓ilw_f, ↓eww_t, ↓eww_f, ↓ewl_t, ↓ewl_f, ↓ez_t, ↓ez_f, ↓il_t, ↓il_f, il_t, il_f, ez_t, ez_f, if_true, if_false, upS_h, upS_o, upS_i, Int.reduceAdd, Int.reduceSub, Int.reduceMul, Int.reduceNeg, wI_id, in_t, in_f]
      exact oM_id (oM_bad (-2) h)
theorem wf_add {α : St} {s l r p d t : Int} (hw : WF α) (hn : α 0 0 < 40) (c : okUnit s l r p d t) : WF (aAdd α s l r p d t) :=
  WF_chU (fun i hi => aAdd_z hi) (fun o ho => aAdd_c ho) hw (wU_add hw.1 hn c.1 c.2.1 c.2.2.1 c.2.2.2.1 c.2.2.2.2.1 c.2.2.2.2.2)
theorem wf_unit {α : St} {s l r p d t : Int} (hw : WF α) : WF (aUnit α s l r p d t) := by
  unfold aUnit
  by_cases c : okUnit s l r p d t
  · rw [if_pos c]
    by_cases cn : α 0 0 < 40
    · rw [if_pos cn]; exact wf_add hw cn c
    · rw [if_neg cn]; exact WF_aR 5 (by omega) hw
  · rw [if_neg c]; exact WF_aR 3 (by omega) hw
/-! ===== records ===== -/
def gN (x : Int) : Int := (x * 1103515245 + 12345) % 2147483648
def gS (y : Int) : Int := y / 65536 % 6
def gP (y : Int) : Int := y / 4096 % 10
def gD (y : Int) : Int := y / 1024 % 9 + 1
theorem gN_e {x : Int} (h : 0 ≤ x ∧ x < 2147483648) : remL ((x * 1103515245) + 12345) 2147483648 = gN x := remL_e (by omega)
theorem gN_r (x : Int) : 0 ≤ gN x ∧ gN x < 2147483648 := by unfold gN; omega
theorem gS_e {y : Int} (h : 0 ≤ y ∧ y < 2147483648) : remL (divL y 65536) 6 = gS y := by rw [divL_e (by omega), remL_e (by omega)]; rfl
theorem gP_e {y : Int} (h : 0 ≤ y ∧ y < 2147483648) : remL (divL y 4096) 10 = gP y := by rw [divL_e (by omega), remL_e (by omega)]; rfl
theorem gD_e {y : Int} (h : 0 ≤ y ∧ y < 2147483648) : remL (divL y 1024) 9 + 1 = gD y := by rw [divL_e (by omega), remL_e (by omega)]; rfl
theorem gS_r (y : Int) : 0 ≤ gS y ∧ gS y ≤ 5 := by unfold gS; omega
theorem gP_r (y : Int) : 0 ≤ gP y ∧ gP y ≤ 9 := by unfold gP; omega
theorem gD_r (y : Int) : 1 ≤ gD y ∧ gD y ≤ 9 := by unfold gD; omega
def rcA (t : Int) : Nat → St → Int → Int → St
  | 0, α, _, _ => α
  | m + 1, α, x, l => rcA t m (aAdd α (gS (gN x)) l 6 (gP (gN x)) (gD (gN x)) t) (gN x) (gS (gN x))
theorem rcA_p (t : Int) (ht : 0 ≤ t ∧ t ≤ 3) : ∀ (m : Nat) (α : St) (x l : Int), wU α → α 0 0 + m ≤ 40 → 0 ≤ l ∧ l ≤ 6 → wU (rcA t m α x l) ∧ rcA t m α x l 0 0 = α 0 0 + m ∧ (∀ i, ¬ i = 0 → rcA t m α x l 0 i = α 0 i) ∧ ∀ o, 7 ≤ o → rcA t m α x l o = α o := by
  intro m
  induction m with
  | zero => intro α x l h1 h2 h3; exact ⟨h1, by simp [rcA], fun _ _ => rfl, fun _ _ => rfl⟩
  | succ m ih =>
    intro α x l h1 h2 h3
    have k := ih (aAdd α (gS (gN x)) l 6 (gP (gN x)) (gD (gN x)) t) (gN x) (gS (gN x)) (wU_add h1 (by omega) (gS_r _) h3 (by omega) (gP_r _) (gD_r _) ht) (by rw [aAdd_0]; omega) (by have := gS_r (gN x); omega)
    rw [rcA]
    refine ⟨k.1, by rw [k.2.1, aAdd_0]; omega, fun i hi => by rw [k.2.2.1 i hi, aAdd_z hi], fun o ho => by rw [k.2.2.2 o ho, aAdd_c ho]⟩
def fx (α : St) (b j : Int) : St := fun o i => if o = 3 ∧ b ≤ i ∧ i < j then α 1 (i + 1) else α o i
theorem fx_o {α : St} {b j o i : Int} (h : ¬ o = 3) : fx α b j o i = α o i := if_neg (fun z => h z.1)
theorem fx_of {α : St} {b j o : Int} (h : ¬ o = 3) : fx α b j o = α o := funext fun _ => fx_o h
theorem fx_t {α : St} {b j i : Int} (h : b ≤ i ∧ i < j) : fx α b j 3 i = α 1 (i + 1) := if_pos ⟨rfl, h⟩
theorem fx_f {α : St} {b j i : Int} (h : ¬ (b ≤ i ∧ i < j)) : fx α b j 3 i = α 3 i := if_neg (fun z => h z.2)
theorem fx_wU {α : St} {b j : Int} (h : wU α) (hb : 0 ≤ b) (hj : j < α 0 0) : wU (fx α b j) := by
  obtain ⟨h1, h2, h3⟩ := h
  refine ⟨by rw [fx_o (by omega)]; exact h1, by rw [fx_o (by omega)]; exact h2, fun u u1 u2 => ?_⟩
  rw [fx_o (by omega)] at u2
  have k := h3 u u1 u2
  rw [fx_o (o := 1) (by omega), fx_o (o := 2) (by omega), fx_o (o := 4) (by omega), fx_o (o := 5) (by omega), fx_o (o := 6) (by omega)]
  refine ⟨k.1, k.2.1, ?_, k.2.2.2⟩
  by_cases c : b ≤ u ∧ u < j
  · rw [fx_t c]
    have := (h3 (u + 1) (by omega) (by omega)).1
    omega
  · rw [fx_f c]; exact k.2.2.1
theorem fx_ax {α : St} {b j s l r p d t o i : Int} (ho : ¬ o = 3) : aAdd (fx α b j) s l r p d t o i = aAdd α s l r p d t o i := by
  have e0 : fx α b j 0 0 = α 0 0 := fx_o (by omega)
  have e : fx α b j o i = α o i := fx_o ho
  unfold aAdd upS
  rw [e0]
  simp only [e]
theorem aAdd_3 {α : St} {s l r p d t : Int} : aAdd α s l r p d t 3 (α 0 0) = r := by unfold aAdd; simp (disch := omega) only [upS_h, upS_o, upS_i, Int.reduceAdd, Int.reduceSub, Int.reduceMul, Int.reduceNeg]
theorem aAdd_1 {α : St} {s l r p d t : Int} : aAdd α s l r p d t 1 (α 0 0) = s := by unfold aAdd; simp (disch := omega) only [upS_h, upS_o, upS_i, Int.reduceAdd, Int.reduceSub, Int.reduceMul, Int.reduceNeg]
theorem fx_add0 {α : St} {b s l r p d t : Int} (h : α 0 0 = b) : aAdd (fx α b (α 0 0 - 1)) s l r p d t = fx (aAdd α s l r p d t) b (α 0 0) := by
  have e0 : fx α b (α 0 0 - 1) 0 0 = α 0 0 := fx_o (by omega)
  funext o i
  by_cases ho : o = 3
  · subst ho
    rw [fx_f (by omega)]
    by_cases hi : i = α 0 0
    · subst hi
      rw [aAdd_3]
      have := aAdd_3 (α := fx α b (α 0 0 - 1)) (s := s) (l := l) (r := r) (p := p) (d := d) (t := t)
      rw [e0] at this; exact this
    · rw [aAdd_o (by omega) hi, aAdd_o (by omega) (by rw [e0]; exact hi), fx_f (by omega)]
  · rw [fx_ax ho, fx_o ho]
theorem fx_addS {α : St} {b s l r p d t : Int} (h : b < α 0 0) : upS (aAdd (fx α b (α 0 0 - 1)) s l r p d t) 3 (α 0 0 - 1) s = fx (aAdd α s l r p d t) b (α 0 0) := by
  have e0 : fx α b (α 0 0 - 1) 0 0 = α 0 0 := fx_o (by omega)
  funext o i
  by_cases ho : o = 3
  · subst ho
    by_cases hi : i = α 0 0
    · subst hi
      rw [upS_i (by omega), fx_f (by omega), aAdd_3]
      have := aAdd_3 (α := fx α b (α 0 0 - 1)) (s := s) (l := l) (r := r) (p := p) (d := d) (t := t)
      rw [e0] at this; exact this
    · by_cases hj : i = α 0 0 - 1
      · subst hj
        rw [upS_h ⟨rfl, rfl⟩, fx_t (by omega), show α 0 0 - 1 + 1 = α 0 0 by omega, aAdd_1]
      · rw [upS_i hj, aAdd_o (by omega) (by rw [e0]; exact hi)]
        by_cases hk : b ≤ i ∧ i < α 0 0
        · rw [fx_t (by omega), fx_t hk, aAdd_o (by omega) (by omega)]
        · rw [fx_f (by omega), fx_f hk, aAdd_o (by omega) hi]
  · rw [upS_o ho, fx_ax ho, fx_o ho]
theorem cU_put {σ α : St} {u x : Int} (h : cU σ α) : cU (upS σ 4 u x) (upS α 3 u x) := by
  obtain ⟨h1, h2, h3⟩ := h
  refine ⟨by simp (disch := omega) only [upS_h, upS_o, upS_i, Int.reduceAdd, Int.reduceSub, Int.reduceMul, Int.reduceNeg, h1], fun v v1 v2 => ?_, fun t t1 t2 => ?_⟩
  · rw [upS_o (by omega)] at v2
    obtain ⟨a1, a2, a3, a4, a5, a6, a7⟩ := h2 v v1 v2
    refine ⟨by simp (disch := omega) only [upS_h, upS_o, upS_i, Int.reduceAdd, Int.reduceSub, Int.reduceMul, Int.reduceNeg, a1], by simp (disch := omega) only [upS_h, upS_o, upS_i, Int.reduceAdd, Int.reduceSub, Int.reduceMul, Int.reduceNeg, a2], ?_, by simp (disch := omega) only [upS_h, upS_o, upS_i, Int.reduceAdd, Int.reduceSub, Int.reduceMul, Int.reduceNeg, a4], by simp (disch := omega) only [upS_h, upS_o, upS_i, Int.reduceAdd, Int.reduceSub, Int.reduceMul, Int.reduceNeg, a5], by simp (disch := omega) only [upS_h, upS_o, upS_i, Int.reduceAdd, Int.reduceSub, Int.reduceMul, Int.reduceNeg, a6], ?_⟩
    · by_cases c : v = u
      · subst c; simp (disch := omega) only [upS_h, upS_o, upS_i, Int.reduceAdd, Int.reduceSub, Int.reduceMul, Int.reduceNeg]
      · simp (disch := omega) only [upS_h, upS_o, upS_i, Int.reduceAdd, Int.reduceSub, Int.reduceMul, Int.reduceNeg, a3]
    · unfold isNxt at a7 ⊢
      simp (disch := omega) only [upS_h, upS_o, upS_i, Int.reduceAdd, Int.reduceSub, Int.reduceMul, Int.reduceNeg]
      exact a7
  · have := h3 t t1 t2
    unfold isLst at this ⊢
    simp (disch := omega) only [upS_h, upS_o, upS_i, Int.reduceAdd, Int.reduceSub, Int.reduceMul, Int.reduceNeg]
    exact this
theorem c_recs {a t b : Int} (kx : St → Option (Int × St)) (ha : a ≤ 9) (ht : 0 ≤ t ∧ t ≤ 3) (hb : 0 ≤ b) : ∀ (m : Nat) (σ α : St) (x l i : Int) (n : Nat), cU σ (fx α b (α 0 0 - 1)) → wU α → α 0 0 = b + i → i + m = a → 0 ≤ i → α 0 0 + m ≤ 40 → (0 ≤ x ∧ x < 2147483648) → (0 ≤ l ∧ l ≤ 6) → m < n → ∃ τ, lp_X9_records_62 a t kx n σ x l i = kx τ ∧ cU τ (fx (rcA t m α x l) b (α 0 0 + m - 1)) ∧ ∀ o, (o < 1 ∨ 9 < o) → τ o = σ o := by
  intro m
  induction m with
  | zero =>
    intro σ α x l i n h hw h1 h2 h3 h4 h5 h6 hn
    obtain ⟨n, rfl⟩ : ∃ k, n = k + 1 := ⟨n - 1, by omega⟩
    rw [lp_X9_records_62]
    refine ⟨σ, by simp (disch := omega) only [↓rdA_t, ↓wrA_t, ↓ixA_t, ↓wrF_d, ↓bd2_s, ↓bd1_s, ↓bnd_d, ↓iww_t, ↓iww_f, ↓iwl_t, ↓iwl_f, ↓ilw_t, ↓ilw_f, ↓eww_t, ↓eww_f, ↓ewl_t, ↓ewl_f, ↓ez_t, ↓ez_f, ↓il_t, ↓il_f, il_t, il_f, ez_t, ez_f, if_true, if_false, upS_h, upS_o, upS_i, Int.reduceAdd, Int.reduceSub, Int.reduceMul, Int.reduceNeg, wI_id], ?_, fun _ _ => rfl⟩
    rw [rcA]; simpa using h
  | succ m ih =>
    intro σ α x l i n h hw h1 h2 h3 h4 h5 h6 hn
    obtain ⟨n, rfl⟩ : ∃ k, n = k + 1 := ⟨n - 1, by omega⟩
    have w1 := hw.1
    have r1 := gN_r x
    have r2 := gS_r (gN x)
    have hw2 : wU (fx α b (α 0 0 - 1)) := fx_wU hw hb (by omega)
    have e0 : fx α b (α 0 0 - 1) 0 0 = α 0 0 := fx_o (by omega)
    obtain ⟨τ, e1, e2, e3⟩ := cU_add (s := gS (gN x)) (l := l) (r := 6) (p := gP (gN x)) (d := gD (gN x)) (t := t) h hw2 (by omega) ht
    have hw3 := wU_add (s := gS (gN x)) (l := l) (r := 6) (p := gP (gN x)) (d := gD (gN x)) (t := t) hw (by omega) (gS_r _) h6 (by omega) (gP_r _) (gD_r _) ht
    rw [e0] at e1
    rw [lp_X9_records_62, rcA]
    simp (disch := omega) only [↓rdA_t, ↓wrA_t, ↓ixA_t, ↓wrF_d, ↓bd2_s, ↓bd1_s, ↓bnd_d, ↓iww_t, ↓iww_f, ↓iwl_t, ↓iwl_f, ↓ilw_t, ↓ilw_f, ↓eww_t, ↓eww_f, ↓ewl_t, ↓ewl_f, ↓ez_t, ↓ez_f, ↓il_t, ↓il_f, il_t, il_f, ez_t, ez_f, if_true, if_false, upS_h, upS_o, upS_i, Int.reduceAdd, Int.reduceSub, Int.reduceMul, Int.reduceNeg, wI_id, gN_e, gS_e, gP_e, gD_e, e1]
    by_cases c : i = 0
    · subst c
      rw [fx_add0 (by omega)] at e2
      obtain ⟨τ', g1, g2, g3⟩ := ih τ _ (gN x) (gS (gN x)) 1 n (by rw [aAdd_0, show α 0 0 + 1 - 1 = α 0 0 by omega]; exact e2) hw3 (by rw [aAdd_0]; omega) (by omega) (by omega) (by rw [aAdd_0]; omega) r1 (by omega) (by omega)
      rw [aAdd_0] at g2
      refine ⟨τ', ?_, ?_, fun o ho => (g3 o ho).trans (e3 o ho)⟩
      · simp (disch := omega) only [↓rdA_t, ↓wrA_t, ↓ixA_t, ↓wrF_d, ↓bd2_s, ↓bd1_s, ↓bnd_d, ↓iww_t, ↓iww_f, ↓iwl_t, ↓iwl_f, ↓ilw_t, ↓ilw_f, ↓eww_t, ↓eww_f, ↓ewl_t, ↓ewl_f, ↓ez_t, ↓ez_f, ↓il_t, ↓il_f, il_t, il_f, ez_t, ez_f, if_true, if_false, upS_h, upS_o, upS_i, Int.reduceAdd, Int.reduceSub, Int.reduceMul, Int.reduceNeg, wI_id]
        exact g1
      · rw [show α 0 0 + ((m + 1 : Nat) : Int) - 1 = α 0 0 + 1 + m - 1 by omega]; exact g2
    · have e4 := cU_put (u := α 0 0 - 1) (x := gS (gN x)) e2
      rw [fx_addS (by omega)] at e4
      have e5 : τ 1 8 = α 0 0 + 1 := by have := e2.1; rw [aAdd_0, e0] at this; exact this
      obtain ⟨τ', g1, g2, g3⟩ := ih _ _ (gN x) (gS (gN x)) (i + 1) n (by rw [aAdd_0, show α 0 0 + 1 - 1 = α 0 0 by omega]; exact e4) hw3 (by rw [aAdd_0]; omega) (by omega) (by omega) (by rw [aAdd_0]; omega) r1 (by omega) (by omega)
      rw [aAdd_0] at g2
      refine ⟨τ', ?_, ?_, fun o ho => ((g3 o ho).trans (upS_of (by omega))).trans (e3 o ho)⟩
      · unfold f_X8_putRight
        simp (disch := omega) only [↓rdA_t, ↓wrA_t, ↓ixA_t, ↓wrF_d, ↓bd2_s, ↓bd1_s, ↓bnd_d, ↓iww_t, ↓iww_f, ↓iwl_t, ↓iwl_f, ↓ilw_t, ↓ilw_f, ↓eww_t, ↓eww_f, ↓ewl_t, ↓ewl_f, ↓ez_t, ↓ez_f, ↓il_t, ↓il_f, il_t, il_f, ez_t, ez_f, if_true, if_false, upS_h, upS_o, upS_i, Int.reduceAdd, Int.reduceSub, Int.reduceMul, Int.reduceNeg, wI_id]
        exact g1
      · rw [show α 0 0 + ((m + 1 : Nat) : Int) - 1 = α 0 0 + 1 + m - 1 by omega]; exact g2
theorem m_recs {a t b : Int} (kx : St → Option (Int × St)) (ha : a ≤ 9) (ht : 0 ≤ t ∧ t ≤ 3) (hb : 0 ≤ b) : ∀ (m : Nat) (σ α : St) (x l i : Int) (n : Nat), mU σ α → wU α → α 0 0 = b + i → i + m = a → 0 ≤ i → α 0 0 + m ≤ 40 → (0 ≤ x ∧ x < 2147483648) → (0 ≤ l ∧ l ≤ 6) → (i = 0 → l = 6) → (0 < i → l = α 1 (α 0 0 - 1)) → m < n → ∃ τ, lp_X10_records_72 a t b kx n σ x i = kx τ ∧ mU τ (rcA t m α x l) ∧ (∀ o, ¬ o = 118 → ¬ o = 119 → τ o = σ o) ∧ ∀ i, ¬ i = 1 → τ 118 i = σ 118 i := by
  intro m
  induction m with
  | zero =>
    intro σ α x l i n h hw h1 h2 h3 h4 h5 h6 h7 h8 hn
    obtain ⟨n, rfl⟩ : ∃ k, n = k + 1 := ⟨n - 1, by omega⟩
    rw [lp_X10_records_72]
    exact ⟨σ, by simp (disch := omega) only [↓rdA_t, ↓wrA_t, ↓ixA_t, ↓wrF_d, ↓bd2_s, ↓bd1_s, ↓bnd_d, ↓iww_t, ↓iww_f, ↓iwl_t, ↓iwl_f, ↓ilw_t, ↓ilw_f, ↓eww_t, ↓eww_f, ↓ewl_t, ↓ewl_f, ↓ez_t, ↓ez_f, ↓il_t, ↓il_f, il_t, il_f, ez_t, ez_f, if_true, if_false, upS_h, upS_o, upS_i, Int.reduceAdd, Int.reduceSub, Int.reduceMul, Int.reduceNeg, wI_id], h, fun _ _ _ => rfl, fun _ _ => rfl⟩
  | succ m ih =>
    intro σ α x l i n h hw h1 h2 h3 h4 h5 h6 h7 h8 hn
    obtain ⟨n, rfl⟩ : ∃ k, n = k + 1 := ⟨n - 1, by omega⟩
    have w1 := hw.1
    have r1 := gN_r x
    have r2 := gS_r (gN x)
    have hs := h.1
    obtain ⟨τ, e1, e2, e3, e4⟩ := mU_add (s := gS (gN x)) (l := l) (r := 6) (p := gP (gN x)) (d := gD (gN x)) (t := t) h hw (by omega)
    have hw3 := wU_add (s := gS (gN x)) (l := l) (r := 6) (p := gP (gN x)) (d := gD (gN x)) (t := t) hw (by omega) (gS_r _) h6 (by omega) (gP_r _) (gD_r _) ht
    obtain ⟨τ', g1, g2, g3, g4⟩ := ih τ _ (gN x) (gS (gN x)) (i + 1) n e2 hw3 (by rw [aAdd_0]; omega) (by omega) (by omega) (by rw [aAdd_0]; omega) r1 (by omega) (by omega) (fun _ => by rw [aAdd_0, show α 0 0 + 1 - 1 = α 0 0 by omega, aAdd_1]) (by omega)
    rw [lp_X10_records_72, rcA]
    refine ⟨τ', ?_, g2, fun o o1 o2 => (g3 o o1 o2).trans (e3 o o1 o2), fun j hj => (g4 j hj).trans (e4 j hj)⟩
    unfold jn_X10_records_115
    by_cases c : i = 0
    · have c2 := h7 c
      subst c2
      simp (disch := omega) only [↓rdA_t, ↓wrA_t, ↓ixA_t, ↓wrF_d, ↓bd2_s, ↓bd1_s, ↓bnd_d, ↓iww_t, ↓iww_f, ↓iwl_t, ↓iwl_f, ↓ilw_t, ↓ilw_f, ↓eww_t, ↓eww_f, ↓ewl_t, ↓ewl_f, ↓ez_t, ↓ez_f, ↓il_t, ↓il_f, il_t, il_f, ez_t, ez_f, if_true, if_false, upS_h, upS_o, upS_i, Int.reduceAdd, Int.reduceSub, Int.reduceMul, Int.reduceNeg, wI_id, gN_e, gS_e, gP_e, gD_e, e1]
      exact g1
    · have c2 := h8 (by omega)
      have e5 := m_at h hw (u := α 0 0 - 1) (w := 0) (by omega) (by omega) (by omega) (by omega)
      rw [← hs, show (1 + 0 : Int) = 1 by omega, hs, ← c2] at e5
      simp (disch := omega) only [↓rdA_t, ↓wrA_t, ↓ixA_t, ↓wrF_d, ↓bd2_s, ↓bd1_s, ↓bnd_d, ↓iww_t, ↓iww_f, ↓iwl_t, ↓iwl_f, ↓ilw_t, ↓ilw_f, ↓eww_t, ↓eww_f, ↓ewl_t, ↓ewl_f, ↓ez_t, ↓ez_f, ↓il_t, ↓il_f, il_t, il_f, ez_t, ez_f, if_true, if_false, upS_h, upS_o, upS_i, Int.reduceAdd, Int.reduceSub, Int.reduceMul, Int.reduceNeg, wI_id, gN_e, gS_e, gP_e, gD_e, e5, hs, e1]
      exact g1
theorem m_fix {b : Int} (kx : St → Option (Int × St)) {α : St} (hb : 0 ≤ b) (hw : wU α) : ∀ (m : Nat) (σ : St) (j : Int) (n : Nat), mU σ (fx α b j) → b ≤ j → j + 1 + m = α 0 0 → m < n → ∃ τ, lp_X10_records_171 kx n σ j = kx τ ∧ mU τ (fx α b (α 0 0 - 1)) ∧ (∀ o, ¬ o = 119 → τ o = σ o) := by
  intro m
  have w1 := hw.2.1
  induction m with
  | zero =>
    intro σ j n h h1 h2 hn
    obtain ⟨n, rfl⟩ : ∃ k, n = k + 1 := ⟨n - 1, by omega⟩
    have hs := h.1
    rw [fx_o (by omega)] at hs
    rw [lp_X10_records_171]
    refine ⟨σ, by simp (disch := omega) only [↓rdA_t, ↓wrA_t, ↓ixA_t, ↓wrF_d, ↓bd2_s, ↓bd1_s, ↓bnd_d, ↓iww_t, ↓iww_f, ↓iwl_t, ↓iwl_f, ↓ilw_t, ↓ilw_f, ↓eww_t, ↓eww_f, ↓ewl_t, ↓ewl_f, ↓ez_t, ↓ez_f, ↓il_t, ↓il_f, il_t, il_f, ez_t, ez_f, if_true, if_false, upS_h, upS_o, upS_i, Int.reduceAdd, Int.reduceSub, Int.reduceMul, Int.reduceNeg, wI_id], ?_, fun _ _ => rfl⟩
    rw [show α 0 0 - 1 = j by omega]; exact h
  | succ m ih =>
    intro σ j n h h1 h2 hn
    obtain ⟨n, rfl⟩ : ∃ k, n = k + 1 := ⟨n - 1, by omega⟩
    have hs := h.1
    have e0 : fx α b j 0 0 = α 0 0 := fx_o (by omega)
    rw [e0] at hs
    have e5 := m_at h (fx_wU hw hb (by omega)) (u := j + 1) (w := 0) (by omega) (by omega) (by omega) (by omega)
    rw [show (1 + 0 : Int) = 1 by omega, fx_o (by omega)] at e5
    have k : mU (upS σ 119 (6 * j + 2) (α 1 (j + 1))) (fx α b (j + 1)) := by
      refine ⟨by rw [upS_o (by omega), fx_o (by omega)]; exact hs, fun u w u1 u2 u3 u4 => ?_⟩
      rw [fx_o (by omega)] at u2
      have e6 := h.2 u w u1 (by omega) u3 u4
      by_cases c : w = 2
      · subst c
        by_cases c2 : u = j
        · subst c2
          rw [upS_h ⟨rfl, rfl⟩, show (1 + 2 : Int) = 3 by omega, fx_t (by omega)]
        · rw [upS_i (by omega), e6, show (1 + 2 : Int) = 3 by omega]
          by_cases c3 : b ≤ u ∧ u < j
          · rw [fx_t c3, fx_t (by omega)]
          · rw [fx_f c3, fx_f (by omega)]
      · rw [upS_i (by omega), e6, fx_o (by omega), fx_o (by omega)]
    obtain ⟨τ, g1, g2, g3⟩ := ih _ (j + 1) n k (by omega) (by omega) (by omega)
    refine ⟨τ, ?_, g2, fun o ho => (g3 o ho).trans (upS_of (by omega))⟩
    rw [lp_X10_records_171]
    simp (disch := omega) only [↓rdA_t, ↓wrA_t, ↓ixA_t, ↓wrF_d, ↓bd2_s, ↓bd1_s, ↓bnd_d, ↓iww_t, ↓iww_f, ↓iwl_t, ↓iwl_f, ↓ilw_t, ↓ilw_f, ↓eww_t, ↓eww_f, ↓ewl_t, ↓ewl_f, ↓ez_t, ↓ez_f, ↓il_t, ↓il_f, il_t, il_f, ez_t, ez_f, if_true, if_false, upS_h, upS_o, upS_i, Int.reduceAdd, Int.reduceSub, Int.reduceMul, Int.reduceNeg, wI_id, e5]
    exact g1
abbrev okRec (s n t : Int) : Prop := (0 ≤ s ∧ s ≤ 999999) ∧ (1 ≤ n ∧ n ≤ 9) ∧ (0 ≤ t ∧ t ≤ 3)
def aRecs (α : St) (s n t : Int) : St := fx (rcA t n.toNat α s 6) (α 0 0) (α 0 0 + n - 1)
def rRec (α : St) (s n t : Int) : Int := if okRec s n t then (if 40 < α 0 0 + n then -4 else α 0 0 + n) else -2
def aRec (α : St) (s n t : Int) : St := if okRec s n t then (if 40 < α 0 0 + n then aR α 5 else aRecs α s n t) else aR α 3
theorem aRecs_p {α : St} {s n t : Int} (hw : WF α) (c : okRec s n t) (cn : ¬ 40 < α 0 0 + n) : wU (aRecs α s n t) ∧ aRecs α s n t 0 0 = α 0 0 + n ∧ (∀ i, ¬ i = 0 → aRecs α s n t 0 i = α 0 i) ∧ ∀ o, 7 ≤ o → aRecs α s n t o = α o := by
  unfold okRec at c
  have k := rcA_p t c.2.2 n.toNat α s 6 hw.1 (by omega) (by omega)
  have w := hw.1.1
  unfold aRecs
  refine ⟨fx_wU k.1 w (by rw [k.2.1]; omega), by rw [fx_o (by omega), k.2.1]; omega, fun i hi => by rw [fx_o (by omega)]; exact k.2.2.1 i hi, fun o ho => by rw [fx_of (by omega)]; exact k.2.2.2 o ho⟩
theorem wf_rec {α : St} {s n t : Int} (hw : WF α) : WF (aRec α s n t) := by
  unfold aRec
  by_cases c : okRec s n t
  · rw [if_pos c]
    by_cases cn : 40 < α 0 0 + n
    · rw [if_pos cn]; exact WF_aR 5 (by omega) hw
    · rw [if_neg cn]
      have k := aRecs_p hw c cn
      exact WF_chU k.2.2.1 k.2.2.2 hw k.1
  · rw [if_neg c]; exact WF_aR 3 (by omega) hw
theorem fx_nil {α : St} {b j : Int} (h : j ≤ b) : fx α b j = α := by
  funext o i
  unfold fx
  rw [if_neg (by omega)]
theorem xc_records {σ α : St} {s n t : Int} (h : IC σ α) (hw : WF α) (hs : inR s) (hn : inR n) (ht : inR t) : oC (f_X9_records σ s n t) σ α (rRec α s n t) (aRec α s n t) := by
  unfold inR at hs hn ht
  have w1 := hw.1.1
  have w2 := hw.1.2.1
  have h8 := h.1.1
  unfold f_X9_records f_X9_isTake rRec aRec
  by_cases c : okRec s n t
  · rw [if_pos c, if_pos c]
    have c' := c
    unfold okRec at c'
    by_cases cn : 40 < α 0 0 + n
    · rw [if_pos cn, if_pos cn]
      simp (disch := omega) only [↓rdA_t, ↓wrA_t, ↓ixA_t, ↓wrF_d, ↓bd2_s, ↓bd1_s, ↓bnd_d, ↓iww_t, ↓iww_f, ↓iwl_t, ↓iwl_f, ↓ilw_t, ↓ilw_f, ↓eww_t, ↓eww_f, ↓ewl_t, ↓ewl_f, ↓ez_t, ↓ez_f, ↓il_t, ↓il_f, il_t, il_f, ez_t, ez_f, if_true, if_false, upS_h, upS_o, upS_i, Int.reduceAdd, Int.reduceSub, Int.reduceMul, Int.reduceNeg, wI_id, within_t]
      exact oC_id (oC_full h)
    · rw [if_neg cn, if_neg cn]
      have k := aRecs_p hw c cn
      obtain ⟨τ, g1, g2, g3⟩ := c_recs (a := n) (t := t) (b := α 0 0) (fun σ27 => some (σ27 1 8, σ27)) (by omega) c'.2.2 w1 n.toNat σ α s 6 0 1000 (by rw [fx_nil (by omega)]; exact h.1) hw.1 (by omega) (by omega) (by omega) (by omega) (by omega) (by omega) (by omega)
      rw [show α 0 0 + (n.toNat : Int) - 1 = α 0 0 + n - 1 by omega] at g2
      simp (disch := omega) only [↓rdA_t, ↓wrA_t, ↓ixA_t, ↓wrF_d, ↓bd2_s, ↓bd1_s, ↓bnd_d, ↓iww_t, ↓iww_f, ↓iwl_t, ↓iwl_f, ↓ilw_t, ↓ilw_f, ↓eww_t, ↓eww_f, ↓ewl_t, ↓ewl_f, ↓ez_t, ↓ez_f, ↓il_t, ↓il_f, il_t, il_f, ez_t, ez_f, if_true, if_false, upS_h, upS_o, upS_i, Int.reduceAdd, Int.reduceSub, Int.reduceMul, Int.reduceNeg, wI_id, within_t, i2l_r, g1]
      refine ⟨τ, ?_, IC_chU g3 k.2.2.1 k.2.2.2 h g2, fun o ho => g3 o (by omega)⟩
      have := g2.1
      have k2 := k.2.1
      unfold aRecs at k2
      rw [k2] at this
      rw [this]
  · rw [if_neg c, if_neg c]
    have c' := c
    unfold okRec at c'
    by_cases c1 : 0 ≤ s ∧ s ≤ 999999
    · by_cases c2 : 1 ≤ n ∧ n ≤ 9
      · by_cases c3 : 0 ≤ t ∧ t ≤ 3
        · exact absurd ⟨c1, c2, c3⟩ c
        · simp (disch := omega) only [↓rdA_t, ↓wrA_t, ↓ixA_t, ↓wrF_d, ↓bd2_s, ↓bd1_s, ↓bnd_d, ↓iww_t, ↓iww_f, ↓iwl_t, ↓iwl_f, ↓ilw_t, ↓ilw_f, ↓eww_t, ↓eww_f, ↓ewl_t, ↓ewl_f, ↓ez_t, ↓ez_f, ↓il_t, ↓il_f, il_t, il_f, ez_t, ez_f, if_true, if_false, upS_h, upS_o, upS_i, Int.reduceAdd, Int.reduceSub, Int.reduceMul, Int.reduceNeg, wI_id, within_t, within_f]
          exact oC_id (oC_bad h)
      · simp (disch := omega) only [↓rdA_t, ↓wrA_t, ↓ixA_t, ↓wrF_d, ↓bd2_s, ↓bd1_s, ↓bnd_d, ↓iww_t, ↓iww_f, ↓iwl_t, ↓iwl_f, ↓ilw_t, ↓ilw_f, ↓eww_t, ↓eww_f, ↓ewl_t, ↓ewl_f, ↓ez_t, ↓ez_f, ↓il_t, ↓il_f, il_t, il_f, ez_t, ez_f, if_true, if_false, upS_h, upS_o, upS_i, Int.reduceAdd, Int.reduceSub, Int.reduceMul, Int.reduceNeg, wI_id, within_t, within_f]
        exact oC_id (oC_bad h)
    · simp (disch := omega) only [↓rdA_t, ↓wrA_t, ↓ixA_t, ↓wrF_d, ↓bd2_s, ↓bd1_s, ↓bnd_d, ↓iww_t, ↓iww_f, ↓iwl_t, ↓iwl_f, ↓ilw_t, ↓ilw_f, ↓eww_t, ↓eww_f, ↓ewl_t, ↓ewl_f, ↓ez_t, ↓ez_f, ↓il_t, ↓il_f, il_t, il_f, ez_t, ez_f, if_true, if_false, upS_h, upS_o, upS_i, Int.reduceAdd, Int.reduceSub, Int.reduceMul, Int.reduceNeg, wI_id, within_t, within_f]
      exact oC_id (oC_bad h)
theorem xm_records {σ α : St} {s n t : Int} (h : IM σ α) (hw : WF α) (hs : inR s) (hn : inR n) (ht : inR t) : oM (f_X10_records σ s n t) σ α (rRec α s n t) (aRec α s n t) := by
  unfold inR at hs hn ht
  have w1 := hw.1.1
  have w2 := hw.1.2.1
  have h8 := h.1.1
  unfold f_X10_records rRec aRec
  by_cases c : okRec s n t
  · rw [if_pos c, if_pos c]
    have c' := c
    unfold okRec at c'
    by_cases cn : 40 < α 0 0 + n
    · rw [if_pos cn, if_pos cn]
      simp (disch := omega) only [↓rdA_t, ↓wrA_t, ↓ixA_t, ↓wrF_d, ↓bd2_s, ↓bd1_s, ↓bnd_d, ↓iww_t, ↓iww_f, ↓iwl_t, ↓iwl_f, ↓ilw_t, ↓ilw_f, ↓eww_t, ↓eww_f, ↓ewl_t, ↓ewl_f, ↓ez_t, ↓ez_f, ↓il_t, ↓il_f, il_t, il_f, ez_t, ez_f, if_true, if_false, upS_h, upS_o, upS_i, Int.reduceAdd, Int.reduceSub, Int.reduceMul, Int.reduceNeg, wI_id, in_t]
      exact oM_id (oM_full h)
    · rw [if_neg cn, if_neg cn]
      have k := aRecs_p hw c cn
      have k0 := rcA_p t c'.2.2 n.toNat α s 6 hw.1 (by omega) (by omega)
      obtain ⟨τ, g1, g2, g3, g4⟩ := m_recs (a := n) (t := t) (b := α 0 0) (fun σ23 => lp_X10_records_171 (fun σ27 => some (σ27 118 1, σ27)) 1000 σ23 (σ 118 1)) (by omega) c'.2.2 w1 n.toNat σ α s 6 0 1000 h.1 hw.1 (by omega) (by omega) (by omega) (by omega) (by omega) (by omega) (by omega) (by omega) (by omega)
      obtain ⟨τ', f1, f2, f3⟩ := m_fix (b := α 0 0) (fun σ27 => some (σ27 118 1, σ27)) w1 k0.1 (n.toNat - 1) τ (α 0 0) 1000 (by rw [fx_nil (by omega)]; exact g2) (by omega) (by omega) (by omega)
      rw [← h8] at g1 f1
      simp (disch := omega) only [↓rdA_t, ↓wrA_t, ↓ixA_t, ↓wrF_d, ↓bd2_s, ↓bd1_s, ↓bnd_d, ↓iww_t, ↓iww_f, ↓iwl_t, ↓iwl_f, ↓ilw_t, ↓ilw_f, ↓eww_t, ↓eww_f, ↓ewl_t, ↓ewl_f, ↓ez_t, ↓ez_f, ↓il_t, ↓il_f, il_t, il_f, ez_t, ez_f, if_true, if_false, upS_h, upS_o, upS_i, Int.reduceAdd, Int.reduceSub, Int.reduceMul, Int.reduceNeg, wI_id, in_t]
      simp (disch := omega) only [↓rdA_t, ↓wrA_t, ↓ixA_t, ↓wrF_d, ↓bd2_s, ↓bd1_s, ↓bnd_d, ↓iww_t, ↓iww_f, ↓iwl_t, ↓iwl_f, ↓ilw_t, ↓ilw_f, ↓eww_t, ↓eww_f, ↓ewl_t, ↓ewl_f, ↓ez_t, ↓ez_f, ↓il_t, ↓il_f, il_t, il_f, ez_t, ez_f, if_true, if_false, upS_h, upS_o, upS_i, Int.reduceAdd, Int.reduceSub, Int.reduceMul, Int.reduceNeg, wI_id, i2l_r, g1, f1]
      have e : fx (rcA t n.toNat α s 6) (α 0 0) (rcA t n.toNat α s 6 0 0 - 1) = aRecs α s n t := by
        unfold aRecs
        rw [k0.2.1, show α 0 0 + (n.toNat : Int) - 1 = α 0 0 + n - 1 by omega]
      rw [e] at f2
      refine ⟨τ', ?_, IM_chU (fun i _ hi => by rw [f3 118 (by omega)]; exact g4 i hi) (fun o o1 o2 => (f3 o (by omega)).trans (g3 o (by omega) (by omega))) k.2.2.1 k.2.2.2 h f2, fun o ho => (f3 o (by omega)).trans (g3 o (by omega) (by omega))⟩
      rw [f2.1, k.2.1]
  · rw [if_neg c, if_neg c]
    have c' := c
    unfold okRec at c'
    by_cases c1 : 0 ≤ s ∧ s ≤ 999999
    · by_cases c2 : 1 ≤ n ∧ n ≤ 9
      · by_cases c3 : 0 ≤ t ∧ t ≤ 3
        · exact absurd ⟨c1, c2, c3⟩ c
        · simp (disch := omega) only [↓rdA_t, ↓wrA_t, ↓ixA_t, ↓wrF_d, ↓bd2_s, ↓bd1_s, ↓bnd_d, ↓iww_t, ↓iww_f, ↓iwl_t, ↓iwl_f, ↓ilw_t, ↓ilw_f, ↓eww_t, ↓eww_f, ↓ewl_t, ↓ewl_f, ↓ez_t, ↓ez_f, ↓il_t, ↓il_f, il_t, il_f, ez_t, ez_f, if_true, if_false, upS_h, upS_o, upS_i, Int.reduceAdd, Int.reduceSub, Int.reduceMul, Int.reduceNeg, wI_id, in_t, in_f]
          exact oM_id (oM_bad (-2) h)
      · simp (disch := omega) only [↓rdA_t, ↓wrA_t, ↓ixA_t, ↓wrF_d, ↓bd2_s, ↓bd1_s, ↓bnd_d, ↓iww_t, ↓iww_f, ↓iwl_t, ↓iwl_f, ↓ilw_t, ↓ilw_f, ↓eww_t, ↓eww_f, ↓ewl_t, ↓ewl_f, ↓ez_t, ↓ez_f, ↓il_t, ↓il_f, il_t, il_f, ez_t, ez_f, if_true, if_false, upS_h, upS_o, upS_i, Int.reduceAdd, Int.reduceSub, Int.reduceMul, Int.reduceNeg, wI_id, in_t, in_f]
        exact oM_id (oM_bad (-2) h)
    · simp (disch := omega) only [↓rdA_t, ↓wrA_t, ↓ixA_t, ↓wrF_d, ↓bd2_s, ↓bd1_s, ↓bnd_d, ↓iww_t, ↓iww_f, ↓iwl_t, ↓iwl_f, ↓ilw_t, ↓ilw_f, ↓eww_t, ↓eww_f, ↓ewl_t, ↓ewl_f, ↓ez_t, ↓ez_f, ↓il_t, ↓il_f, il_t, il_f, ez_t, ez_f, if_true, if_false, upS_h, upS_o, upS_i, Int.reduceAdd, Int.reduceSub, Int.reduceMul, Int.reduceNeg, wI_id, in_t, in_f]
      exact oM_id (oM_bad (-2) h)
