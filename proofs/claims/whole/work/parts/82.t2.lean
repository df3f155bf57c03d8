/-! ===== the law ===== -/
theorem rdS_t {α : Type} {L : Nat} {xs : Nat → Int32} {i : Int} {k : Int → Option α} (h : 0 ≤ i ∧ i < L) : rdS L xs i k = k (xs i.toNat).toInt := if_pos h
theorem xs_r {z : Int32} : inR z.toInt := by
  have h1 := Int32.le_toInt z
  have h2 := Int32.toInt_lt z
  unfold inR
  omega
theorem cmp_r {z : Int} : cmpL z z = 0 := by
  unfold cmpL
  rw [if_neg (by omega), if_pos rfl]
theorem law_g {L : Nat} {xs : Nat → Int32} (hL : L ≤ 3584) : ∀ (n : Nat) (σ α : St) (x : Int), IC σ α → IM σ α → WF α → 0 ≤ x → x ≤ L → (L : Int) < x + 7 * n → ∃ τ, lp_L_law_18 L xs (fun σ231 => some (1, σ231)) n σ x = some (1, τ) := by
  intro n
  induction n with
  | zero =>
    intro σ α x hC hM hw h0 h1 h2
    omega
  | succ n ih =>
    intro σ α x hC hM hw h0 h1 h2
    rw [lp_L_law_18]
    by_cases c : (L : Int) - 7 < x
    · rw [iww_t (by omega)]
      exact ⟨σ, rfl⟩
    · rw [iww_f (by omega), rdS_t (by omega)]
      generalize wI (andI (xs x.toNat).toInt 31) = c

      by_cases d0 : c = 0
      · rw [if_pos d0, rdS_t (by omega), rdS_t (by omega), rdS_t (by omega), rdS_t (by omega), rdS_t (by omega), rdS_t (by omega)]
        obtain ⟨τ1, p1, p2, p3⟩ := xc_unit hC hw xs_r xs_r xs_r xs_r xs_r xs_r
        rw [p1, bd2_s, rdS_t (by omega), rdS_t (by omega), rdS_t (by omega), rdS_t (by omega), rdS_t (by omega), rdS_t (by omega)]
        obtain ⟨τ2, q1, q2, q3⟩ := xm_unit (IM_c p3 hM) hw xs_r xs_r xs_r xs_r xs_r xs_r
        rw [q1, bd2_s, if_pos rfl]
        exact ih τ2 _ (x + 7) (IC_c q3 p2) q2 (wf_unit hw) (by omega) (by omega) (by omega)
      rw [if_neg d0]
      by_cases d1 : c = 1
      · rw [if_pos d1, rdS_t (by omega), rdS_t (by omega), rdS_t (by omega)]
        obtain ⟨τ1, p1, p2, p3⟩ := xc_records hC hw xs_r xs_r xs_r
        rw [p1, bd2_s, rdS_t (by omega), rdS_t (by omega), rdS_t (by omega)]
        obtain ⟨τ2, q1, q2, q3⟩ := xm_records (IM_c p3 hM) hw xs_r xs_r xs_r
        rw [q1, bd2_s, if_pos rfl]
        exact ih τ2 _ (x + 7) (IC_c q3 p2) q2 (wf_rec hw) (by omega) (by omega) (by omega)
      rw [if_neg d1]
      by_cases d2 : c = 2
      · rw [if_pos d2, rdS_t (by omega), rdS_t (by omega)]
        obtain ⟨τ1, p1, p2, p3⟩ := xc_of hC hw xs_r xs_r
        rw [p1, bd2_s, rdS_t (by omega), rdS_t (by omega)]
        obtain ⟨τ2, q1, q2, q3⟩ := xm_of (IM_c p3 hM) hw xs_r xs_r
        rw [q1, bd2_s, if_pos rfl]
        exact ih τ2 _ (x + 7) (IC_c q3 p2) q2 (wf_of hw) (by omega) (by omega) (by omega)
      rw [if_neg d2]
      by_cases d3 : c = 3
      · rw [if_pos d3]
        obtain ⟨τ1, p1, p2, p3⟩ := xc_empties hC
        rw [p1, bd2_s]
        obtain ⟨τ2, q1, q2, q3⟩ := xm_empties (IM_c p3 hM)
        rw [q1, bd2_s, if_pos rfl]
        exact ih τ2 _ (x + 7) (IC_c q3 p2) q2 (wf_empties hw) (by omega) (by omega) (by omega)
      rw [if_neg d3]
      by_cases d4 : c = 4
      · rw [if_pos d4, rdS_t (by omega), rdS_t (by omega)]
        obtain ⟨τ1, p1, p2, p3⟩ := xc_other hC xs_r xs_r
        rw [p1, bd2_s, rdS_t (by omega), rdS_t (by omega)]
        obtain ⟨τ2, q1, q2, q3⟩ := xm_other (IM_c p3 hM) xs_r xs_r
        rw [q1, bd2_s, if_pos rfl]
        exact ih τ2 _ (x + 7) (IC_c q3 p2) q2 (wf_other hw) (by omega) (by omega) (by omega)
      rw [if_neg d4]
      by_cases d5 : c = 5
      · rw [if_pos d5, rdS_t (by omega)]
        obtain ⟨τ1, p1, p2, p3⟩ := xc_fitter hC hw xs_r
        rw [p1, bd2_s, rdS_t (by omega)]
        obtain ⟨τ2, q1, q2, q3⟩ := xm_fitter (IM_c p3 hM) hw xs_r
        rw [q1, bd2_s, if_pos rfl]
        exact ih τ2 _ (x + 7) (IC_c q3 p2) q2 (wf_fitter hw) (by omega) (by omega) (by omega)
      rw [if_neg d5]
      by_cases d6 : c = 6
      · rw [if_pos d6, rdS_t (by omega)]
        obtain ⟨τ1, p1, p2, p3⟩ := xc_type hC hw xs_r
        rw [p1, bd2_s, rdS_t (by omega)]
        obtain ⟨τ2, q1, q2, q3⟩ := xm_type (IM_c p3 hM) hw xs_r
        rw [q1, bd2_s, if_pos rfl]
        exact ih τ2 _ (x + 7) (IC_c q3 p2) q2 (wf_type hw) (by omega) (by omega) (by omega)
      rw [if_neg d6]
      by_cases d7 : c = 7
      · rw [if_pos d7]
        obtain ⟨τ1, p1, p2, p3⟩ := xc_clear hC
        rw [p1, bd2_s]
        obtain ⟨τ2, q1, q2, q3⟩ := xm_clear (IM_c p3 hM)
        rw [q1, bd2_s, if_pos rfl]
        exact ih τ2 _ (x + 7) (IC_c q3 p2) q2 (wf_clear hw) (by omega) (by omega) (by omega)
      rw [if_neg d7]
      by_cases d8 : c = 8
      · rw [if_pos d8]
        obtain ⟨⟨τ1, p1, p2, p3⟩, p4⟩ := xc_reads hC hw
        rw [p1, bd2_s]
        obtain ⟨τ2, q1, q2, q3⟩ := xm_reads (IM_c p3 hM) hw
        rw [q1, bd2_s, if_pos rfl]
        exact ih τ2 _ (x + 7) (IC_c q3 p2) q2 (wf_reads hw p4) (by omega) (by omega) (by omega)
      rw [if_neg d8]
      by_cases d9 : c = 9
      · rw [if_pos d9, rdS_t (by omega), rdS_t (by omega)]
        obtain ⟨τ1, p1, p2, p3⟩ := xc_target hC hw xs_r xs_r
        rw [p1, bd2_s, rdS_t (by omega), rdS_t (by omega)]
        obtain ⟨τ2, q1, q2, q3⟩ := xm_target (IM_c p3 hM) hw xs_r xs_r
        rw [q1, bd2_s, if_pos rfl]
        exact ih τ2 _ (x + 7) (IC_c q3 p2) q2 (wf_target hw) (by omega) (by omega) (by omega)
      rw [if_neg d9]
      by_cases d10 : c = 10
      · rw [if_pos d10, rdS_t (by omega)]
        obtain ⟨τ1, p1, p2, p3⟩ := xc_tree hC hw xs_r
        rw [p1, bd2_s, rdS_t (by omega)]
        obtain ⟨τ2, q1, q2, q3⟩ := xm_tree (IM_c p3 hM) hw xs_r
        rw [q1, bd2_s, if_pos rfl]
        exact ih τ2 _ (x + 7) (IC_c q3 p2) q2 (wf_tree hw) (by omega) (by omega) (by omega)
      rw [if_neg d10]
      by_cases d11 : c = 11
      · rw [if_pos d11, rdS_t (by omega), rdS_t (by omega)]
        obtain ⟨τ1, p1, p2, p3⟩ := xc_leaf hC hw xs_r xs_r
        rw [p1, bd2_s, rdS_t (by omega), rdS_t (by omega)]
        obtain ⟨τ2, q1, q2, q3⟩ := xm_leaf (IM_c p3 hM) hw xs_r xs_r
        rw [q1, bd2_s, if_pos rfl]
        exact ih τ2 _ (x + 7) (IC_c q3 p2) q2 (wf_leaf hw) (by omega) (by omega) (by omega)
      rw [if_neg d11]
      by_cases d12 : c = 12
      · rw [if_pos d12, rdS_t (by omega), rdS_t (by omega)]
        obtain ⟨τ1, p1, p2, p3⟩ := xc_choice hC hw xs_r xs_r
        rw [p1, bd2_s, rdS_t (by omega), rdS_t (by omega)]
        obtain ⟨τ2, q1, q2, q3⟩ := xm_choice (IM_c p3 hM) hw xs_r xs_r
        rw [q1, bd2_s, if_pos rfl]
        exact ih τ2 _ (x + 7) (IC_c q3 p2) q2 (wf_choice hw) (by omega) (by omega) (by omega)
      rw [if_neg d12]
      by_cases d13 : c = 13
      · rw [if_pos d13, rdS_t (by omega)]
        obtain ⟨τ1, p1, p2, p3⟩ := xc_steps hC hw xs_r
        rw [p1, bd2_s, rdS_t (by omega)]
        obtain ⟨τ2, q1, q2, q3⟩ := xm_steps (IM_c p3 hM) hw xs_r
        rw [q1, bd2_s, if_pos rfl]
        exact ih τ2 _ (x + 7) (IC_c q3 p2) q2 (wf_kt hw) (by omega) (by omega) (by omega)
      rw [if_neg d13]
      by_cases d14 : c = 14
      · rw [if_pos d14, rdS_t (by omega)]
        obtain ⟨τ1, p1, p2, p3⟩ := xc_tried hC hw xs_r
        rw [p1, bd2_s, rdS_t (by omega)]
        obtain ⟨τ2, q1, q2, q3⟩ := xm_tried (IM_c p3 hM) hw xs_r
        rw [q1, bd2_s, if_pos rfl]
        exact ih τ2 _ (x + 7) (IC_c q3 p2) q2 (wf_kt hw) (by omega) (by omega) (by omega)
      rw [if_neg d14]
      by_cases d15 : c = 15
      · rw [if_pos d15, rdS_t (by omega), rdS_t (by omega)]
        obtain ⟨τ1, p1, p2, p3⟩ := xc_fit hC hw xs_r xs_r
        rw [p1, bd2_s, rdS_t (by omega), rdS_t (by omega)]
        obtain ⟨τ2, q1, q2, q3⟩ := xm_fit (IM_c p3 hM) hw xs_r xs_r
        rw [q1, bd2_s, if_pos rfl]
        exact ih τ2 _ (x + 7) (IC_c q3 p2) q2 (wf_fit hw) (by omega) (by omega) (by omega)
      rw [if_neg d15]
      by_cases d16 : c = 16
      · rw [if_pos d16, rdS_t (by omega), rdS_t (by omega)]
        obtain ⟨τ1, p1, p2, p3⟩ := xc_joint hC hw xs_r xs_r
        rw [p1, bd2_s, rdS_t (by omega), rdS_t (by omega)]
        obtain ⟨τ2, q1, q2, q3⟩ := xm_joint (IM_c p3 hM) hw xs_r xs_r
        rw [q1, bd2_s, if_pos rfl]
        exact ih τ2 _ (x + 7) (IC_c q3 p2) q2 (wf_joint hw) (by omega) (by omega) (by omega)
      rw [if_neg d16]
      by_cases d17 : c = 17
      · rw [if_pos d17]
        obtain ⟨τ1, p1, p2, p3⟩ := xc_cost hC hw
        rw [p1, bd2_s]
        obtain ⟨τ2, q1, q2, q3⟩ := xm_cost (IM_c p3 hM) hw
        rw [q1, bd2_s, if_pos rfl]
        exact ih τ2 _ (x + 7) (IC_c q3 p2) q2 (wf_no hw) (by omega) (by omega) (by omega)
      rw [if_neg d17]
      by_cases d18 : c = 18
      · rw [if_pos d18, rdS_t (by omega)]
        obtain ⟨τ1, p1, p2, p3⟩ := xc_chain hC hw xs_r
        rw [p1, bd2_s, rdS_t (by omega)]
        obtain ⟨τ2, q1, q2, q3⟩ := xm_chain (IM_c p3 hM) hw xs_r
        rw [q1, bd2_s, if_pos rfl]
        exact ih τ2 _ (x + 7) (IC_c q3 p2) q2 (wf_chain hw) (by omega) (by omega) (by omega)
      rw [if_neg d18]
      by_cases d19 : c = 19
      · rw [if_pos d19]
        obtain ⟨τ1, p1, p2, p3⟩ := xc_ways hC hw
        rw [p1, bd2_s]
        obtain ⟨τ2, q1, q2, q3⟩ := xm_ways (IM_c p3 hM) hw
        rw [q1, bd2_s, if_pos rfl]
        exact ih τ2 _ (x + 7) (IC_c q3 p2) q2 (wf_no hw) (by omega) (by omega) (by omega)
      rw [if_neg d19]
      by_cases d20 : c = 20
      · rw [if_pos d20]
        obtain ⟨τ1, p1, p2, p3⟩ := xc_next hC hw
        rw [p1, bd2_s]
        obtain ⟨τ2, q1, q2, q3⟩ := xm_next (IM_c p3 hM) hw
        rw [q1, bd2_s, if_pos rfl]
        exact ih τ2 _ (x + 7) (IC_c q3 p2) q2 (wf_no hw) (by omega) (by omega) (by omega)
      rw [if_neg d20]
      by_cases d21 : c = 21
      · rw [if_pos d21]
        obtain ⟨τ1, p1, p2, p3⟩ := xc_dearest hC hw
        rw [p1, bd2_s]
        obtain ⟨τ2, q1, q2, q3⟩ := xm_dearest (IM_c p3 hM) hw
        rw [q1, bd2_s, if_pos rfl]
        exact ih τ2 _ (x + 7) (IC_c q3 p2) q2 (wf_no hw) (by omega) (by omega) (by omega)
      rw [if_neg d21]
      by_cases d22 : c = 22
      · rw [if_pos d22, rdS_t (by omega)]
        obtain ⟨τ1, p1, p2, p3⟩ := xc_without hC hw xs_r
        rw [p1, bd2_s, rdS_t (by omega)]
        obtain ⟨τ2, q1, q2, q3⟩ := xm_without (IM_c p3 hM) hw xs_r
        rw [q1, bd2_s, if_pos rfl]
        exact ih τ2 _ (x + 7) (IC_c q3 p2) q2 (wf_wo hw) (by omega) (by omega) (by omega)
      rw [if_neg d22]
      by_cases d23 : c = 23
      · rw [if_pos d23, rdS_t (by omega)]
        obtain ⟨τ1, p1, p2, p3⟩ := xc_about hC hw xs_r
        rw [p1, bd2_s, rdS_t (by omega)]
        obtain ⟨τ2, q1, q2, q3⟩ := xm_about (IM_c p3 hM) hw xs_r
        rw [q1, bd2_s, if_pos rfl]
        exact ih τ2 _ (x + 7) (IC_c q3 p2) q2 (wf_about hw) (by omega) (by omega) (by omega)
      rw [if_neg d23]
      by_cases d24 : c = 24
      · rw [if_pos d24, rdS_t (by omega)]
        obtain ⟨τ1, p1, p2, p3⟩ := xc_cheap hC hw xs_r
        rw [p1, bd2_s, rdS_t (by omega)]
        obtain ⟨τ2, q1, q2, q3⟩ := xm_cheap (IM_c p3 hM) hw xs_r
        rw [q1, bd2_s, if_pos rfl]
        exact ih τ2 _ (x + 7) (IC_c q3 p2) q2 (wf_cheap hw) (by omega) (by omega) (by omega)
      rw [if_neg d24]
      by_cases d25 : c = 25
      · rw [if_pos d25, rdS_t (by omega)]
        obtain ⟨τ1, p1, p2, p3⟩ := xc_told hC xs_r
        rw [p1, bd2_s, rdS_t (by omega)]
        obtain ⟨τ2, q1, q2, q3⟩ := xm_told (IM_c p3 hM) xs_r
        rw [q1, bd2_s, if_pos rfl]
        exact ih τ2 _ (x + 7) (IC_c q3 p2) q2 (wf_told hw) (by omega) (by omega) (by omega)
      rw [if_neg d25]
      by_cases d26 : c = 26
      · rw [if_pos d26]
        obtain ⟨τ1, p1, p2, p3⟩ := xc_digest hC hw
        rw [p1, bd2_s]
        obtain ⟨τ2, q1, q2, q3⟩ := xm_digest (IM_c p3 hM) hw
        rw [q1, bd2_s, if_pos cmp_r]
        exact ih τ2 _ (x + 7) (IC_c q3 p2) q2 hw (by omega) (by omega) (by omega)
      rw [if_neg d26]
      exact ih σ α (x + 7) hC hM hw (by omega) (by omega) (by omega)
theorem pure_law (L : Nat) (xs : Nat → Int32) (hL : L ≤ 3584) : ∃ σ' : St, f_L_law L xs st_193 = some (1, σ') :=
  law_g hL 600 st_193 a0S 0 ic_0 im_0 wf_0 (by omega) (by omega) (by omega)
