set_option maxRecDepth 100000 in
set_option maxHeartbeats 4000000 in
theorem c_X4_leftOf (l : Launch) (G : UG) (σ0 : St) (o : Int) (a1 : Int) (r : Int) (ho : uvKd o = 4) (h : f_X4_leftOf σ0 o a1 = some r) : Met l yX4_leftOf (.code yX4_leftOf cX4_leftOf 2 (Option.some Jvm.ClassFile.FieldType.int) :: TB) { frames := 0, cells := 0, slots := 0, locals := 0 } (uvPc G σ0 [.ref (G.2.2.1 o), .int (iV a1)]) (uvQi G r σ0) 0 0 (uvA G) := by
  unfold f_X4_leftOf at h
  refine r_met (own := RX4) (lv := [(0, .ref (G.2.2.1 o)), (1, .int (iV a1))]) (by decide) rfl (Nat.le_of_ble_eq_true rfl) rfl ?_
  intro p e s m below meth c ls X Y V hl
  have go : ∀ (args : Array Value) (H : Heap) (locs : List Loc), uvCx p m c cX4_leftOf 2 RX4 s args meth (Option.some Jvm.ClassFile.FieldType.int) → uvWo G σ0 s H locs → W p l e { frames := 0, cells := 0, slots := 0, locals := 0 } s m args below meth c H locs 0 0 (MQ below (uvQi G r σ0) args s 0 0 (uvA G)) (F0 m 0 ls []) := by
    intro args H locs X V
    refine r_iln X dX4_leftOf_0 rfl (lv_at hl 1 rfl) ?_
    refine r_le (cx := wI a1) (tgt := 23) X rfl dX4_leftOf_1 (by decide) (fun c1 => ?_) (fun c1 => ?_)
    · replace h := ite_t c1 h
      refine r_iln X dX4_leftOf_4 rfl (lv_at hl 1 rfl) ?_
      refine r_aln X dX4_leftOf_5 rfl (lv_at hl 0 rfl) ?_
      refine r_gi (kI := 3) X Y V ci_4 ho 3 rfl (by decide) rfl rfl wd_103 dX4_leftOf_6 ?_
      refine r_cge (cx := wI a1) (cy := wI (σ0 o 3)) (tgt := 23) X rfl rfl dX4_leftOf_9 (by decide) (fun c2 => ?_) (fun c2 => ?_)
      · replace h := ite_t c2 h
        refine r_aln X dX4_leftOf_12 rfl (lv_at hl 0 rfl) ?_
        refine r_gr X Y V ci_4 ho 0 rfl (rf4_0 ho) (by decide) rfl rfl wd_92 dX4_leftOf_13 ?_
        refine r_iln X dX4_leftOf_16 rfl (lv_at hl 1 rfl) ?_
        refine r_ic X dX4_leftOf_17 ?_
        refine r_isub X dX4_leftOf_18 ?_
        obtain ⟨v3, hv3, hiv3, h⟩ := rdA_ex h
        refine r_ial X Y V (ka4_0 ho) (ln4_0 ho) hiv3 hv3 dX4_leftOf_19 ?_
        refine r_goto (tgt := 25) X dX4_leftOf_20 (by decide) ?_
        exact r_ri X V (so1 h) rfl dX4_leftOf_25
      · replace h := ite_f c2 h
        refine r_bp X dX4_leftOf_23 (by decide) ?_
        exact r_ri X V (so1 h) rfl dX4_leftOf_25
    · replace h := ite_f c1 h
      refine r_bp X dX4_leftOf_23 (by decide) ?_
      exact r_ri X V (so1 h) rfl dX4_leftOf_25
  exact go _ _ _ X V

set_option maxRecDepth 100000 in
set_option maxHeartbeats 4000000 in
theorem c_X4_rightOf (l : Launch) (G : UG) (σ0 : St) (o : Int) (a1 : Int) (r : Int) (ho : uvKd o = 4) (h : f_X4_rightOf σ0 o a1 = some r) : Met l yX4_rightOf (.code yX4_rightOf cX4_rightOf 2 (Option.some Jvm.ClassFile.FieldType.int) :: TB) { frames := 0, cells := 0, slots := 0, locals := 0 } (uvPc G σ0 [.ref (G.2.2.1 o), .int (iV a1)]) (uvQi G r σ0) 0 0 (uvA G) := by
  unfold f_X4_rightOf at h
  refine r_met (own := RX4) (lv := [(0, .ref (G.2.2.1 o)), (1, .int (iV a1))]) (by decide) rfl (Nat.le_of_ble_eq_true rfl) rfl ?_
  intro p e s m below meth c ls X Y V hl
  have go : ∀ (args : Array Value) (H : Heap) (locs : List Loc), uvCx p m c cX4_rightOf 2 RX4 s args meth (Option.some Jvm.ClassFile.FieldType.int) → uvWo G σ0 s H locs → W p l e { frames := 0, cells := 0, slots := 0, locals := 0 } s m args below meth c H locs 0 0 (MQ below (uvQi G r σ0) args s 0 0 (uvA G)) (F0 m 0 ls []) := by
    intro args H locs X V
    refine r_iln X dX4_rightOf_0 rfl (lv_at hl 1 rfl) ?_
    refine r_lt (cx := wI a1) (tgt := 25) X rfl dX4_rightOf_1 (by decide) (fun c1 => ?_) (fun c1 => ?_)
    · replace h := ite_t c1 h
      refine r_bp X dX4_rightOf_25 (by decide) ?_
      exact r_ri X V (so1 h) rfl dX4_rightOf_27
    · replace h := ite_f c1 h
      refine r_iln X dX4_rightOf_4 rfl (lv_at hl 1 rfl) ?_
      refine r_aln X dX4_rightOf_5 rfl (lv_at hl 0 rfl) ?_
      refine r_gi (kI := 3) X Y V ci_4 ho 3 rfl (by decide) rfl rfl wd_103 dX4_rightOf_6 ?_
      refine r_ic X dX4_rightOf_9 ?_
      refine r_isub X dX4_rightOf_10 ?_
      refine r_cge (cx := wI a1) (cy := wI ((σ0 o 3) - 1)) (tgt := 25) X rfl rfl dX4_rightOf_11 (by decide) (fun c2 => ?_) (fun c2 => ?_)
      · replace h := ite_t c2 h
        refine r_aln X dX4_rightOf_14 rfl (lv_at hl 0 rfl) ?_
        refine r_gr X Y V ci_4 ho 0 rfl (rf4_0 ho) (by decide) rfl rfl wd_92 dX4_rightOf_15 ?_
        refine r_iln X dX4_rightOf_18 rfl (lv_at hl 1 rfl) ?_
        refine r_ic X dX4_rightOf_19 ?_
        refine r_iadd X dX4_rightOf_20 ?_
        obtain ⟨v3, hv3, hiv3, h⟩ := rdA_ex h
        refine r_ial X Y V (ka4_0 ho) (ln4_0 ho) hiv3 hv3 dX4_rightOf_21 ?_
        refine r_goto (tgt := 27) X dX4_rightOf_22 (by decide) ?_
        exact r_ri X V (so1 h) rfl dX4_rightOf_27
      · replace h := ite_f c2 h
        refine r_bp X dX4_rightOf_25 (by decide) ?_
        exact r_ri X V (so1 h) rfl dX4_rightOf_27
  exact go _ _ _ X V

set_option maxRecDepth 100000 in
set_option maxHeartbeats 4000000 in
theorem c_X3_besidePart (l : Launch) (G : UG) (σ0 : St) (a1 : Int) (a2 : Int) (r : Int)  (h : f_X3_besidePart σ0 a1 a2 = some r) : Met l yX3_besidePart (.code yX3_besidePart cX3_besidePart 5 (Option.some Jvm.ClassFile.FieldType.int) :: TB) { frames := 1, cells := 0, slots := 0, locals := 21 } (uvPc G σ0 [.ref (G.2.2.1 54), .int (iV a1), .int (iV a2)]) (uvQi G r σ0) 0 0 (uvA G) := by
  unfold f_X3_besidePart at h
  refine r_met (own := RX3) (lv := [(0, .ref (G.2.2.1 54)), (1, .int (iV a1)), (2, .int (iV a2))]) (by decide) rfl (Nat.le_of_ble_eq_true rfl) rfl ?_
  intro p e s m below meth c ls X Y V hl
  have go : ∀ (args : Array Value) (H : Heap) (locs : List Loc), uvCx p m c cX3_besidePart 5 RX3 s args meth (Option.some Jvm.ClassFile.FieldType.int) → uvWo G σ0 s H locs → W p l e { frames := 1, cells := 0, slots := 0, locals := 21 } s m args below meth c H locs 0 0 (MQ below (uvQi G r σ0) args s 0 0 (uvA G)) (F0 m 0 ls []) := by
    intro args H locs X V
    refine r_aln X dX3_besidePart_0 rfl (lv_at hl 0 rfl) ?_
    refine r_gr X Y V ci_3 kd_54 0 rfl rfl (by decide) rfl rfl wd_258 dX3_besidePart_1 ?_
    refine r_gr X Y V ci_8 kd_1 1 rfl rfl (by decide) rfl rfl wd_42 dX3_besidePart_4 ?_
    refine r_iln X dX3_besidePart_7 rfl (lv_at hl 1 rfl) ?_
    obtain ⟨v1, hv1, hiv1, h⟩ := rdA_ex h
    refine r_ial X Y V kd_3 ln_3 hiv1 hv1 dX3_besidePart_8 ?_
    refine r_aln X dX3_besidePart_9 rfl (lv_at hl 0 rfl) ?_
    refine r_gr X Y V ci_3 kd_54 1 rfl rfl (by decide) rfl rfl wd_259 dX3_besidePart_10 ?_
    refine r_iln X dX3_besidePart_13 rfl (lv_at hl 2 rfl) ?_
    obtain ⟨v2, hv2, h⟩ := bd1_ex h
    refine r_ki V (r_runV (As := [.int (iV a2)]) (rest := [.int (iV v1)]) X Y V (c_X4_leftOf l G σ0 10 a2 _ kd_10 hv2) mv_X4_leftOf wd_724 ci_4 kd_10 ⟨rfl, rfl, Nat.le_of_ble_eq_true rfl, Nat.le_of_ble_eq_true rfl⟩ rfl rfl hl.1 (Nat.le_of_ble_eq_true rfl) ⟨Nat.le_refl 0, Nat.le_refl 0⟩ dX3_besidePart_14) (fun H locs V => ?_)
    have J3 : W p l e { frames := 1, cells := 0, slots := 0, locals := 21 } s m args below meth c H locs 0 0 (MQ below (uvQi G r σ0) args s 0 0 (uvA G)) (F0 m 25 ls [.int (iV (if wI v1 = wI v2 then 0 else 2))]) := by
      obtain ⟨v4, hv4, h⟩ := bnd_ex h
      refine r_eqI hv4 ?_
      refine r_isn (lv' := [(3, .int (iV v4)), (0, .ref (G.2.2.1 54)), (1, .int (iV a1)), (2, .int (iV a2))]) X dX3_besidePart_25 rfl hl (by decide) rfl (fun ls hl => ?_)
      refine r_aln X dX3_besidePart_26 rfl (lv_at hl 1 rfl) ?_
      refine r_gr X Y V ci_3 kd_54 0 rfl rfl (by decide) rfl rfl wd_258 dX3_besidePart_27 ?_
      refine r_gr X Y V ci_8 kd_1 2 rfl rfl (by decide) rfl rfl wd_46 dX3_besidePart_30 ?_
      refine r_iln X dX3_besidePart_33 rfl (lv_at hl 2 rfl) ?_
      obtain ⟨v5, hv5, hiv5, h⟩ := rdA_ex h
      refine r_ial X Y V kd_4 ln_4 hiv5 hv5 dX3_besidePart_34 ?_
      refine r_aln X dX3_besidePart_35 rfl (lv_at hl 1 rfl) ?_
      refine r_gr X Y V ci_3 kd_54 1 rfl rfl (by decide) rfl rfl wd_259 dX3_besidePart_36 ?_
      refine r_iln X dX3_besidePart_39 rfl (lv_at hl 3 rfl) ?_
      obtain ⟨v6, hv6, h⟩ := bd1_ex h
      refine r_ki V (r_runV (As := [.int (iV a2)]) (rest := [.int (iV v5)]) X Y V (c_X4_rightOf l G σ0 10 a2 _ kd_10 hv6) mv_X4_rightOf wd_725 ci_4 kd_10 ⟨rfl, rfl, Nat.le_of_ble_eq_true rfl, Nat.le_of_ble_eq_true rfl⟩ rfl rfl hl.1 (Nat.le_of_ble_eq_true rfl) ⟨Nat.le_refl 0, Nat.le_refl 0⟩ dX3_besidePart_40) (fun H locs V => ?_)
      have J7 : W p l e { frames := 1, cells := 0, slots := 0, locals := 21 } s m args below meth c H locs 0 0 (MQ below (uvQi G r σ0) args s 0 0 (uvA G)) (F0 m 51 ls [.int (iV (if wI v5 = wI v6 then 0 else 2))]) := by
        obtain ⟨v8, hv8, h⟩ := bnd_ex h
        refine r_eqI hv8 ?_
        refine r_is (lv' := [(4, .int (iV v8)), (3, .int (iV v4)), (0, .ref (G.2.2.1 54)), (1, .int (iV a1)), (2, .int (iV a2))]) X dX3_besidePart_51 hl (by decide) rfl (fun ls hl => ?_)
        refine r_iln X dX3_besidePart_53 rfl (lv_at hl 1 rfl) ?_
        refine r_il X dX3_besidePart_54 (lv_at hl 0 rfl) ?_
        refine r_iadd X dX3_besidePart_56 ?_
        exact r_ri X V (so1 h) rfl dX3_besidePart_57
      refine r_cne (cx := wI v5) (cy := wI v6) (tgt := 50) X rfl rfl dX3_besidePart_43 (by decide) (fun c9 => ?_) (fun c9 => ?_)
      · skip
        refine r_ic X dX3_besidePart_46 ?_
        refine r_goto (tgt := 51) X dX3_besidePart_47 (by decide) ?_
        rw [if_pos c9] at J7
        exact J7
      · skip
        refine r_ic X dX3_besidePart_50 ?_
        rw [if_neg c9] at J7
        exact J7
    refine r_cne (cx := wI v1) (cy := wI v2) (tgt := 24) X rfl rfl dX3_besidePart_17 (by decide) (fun c10 => ?_) (fun c10 => ?_)
    · skip
      refine r_ic X dX3_besidePart_20 ?_
      refine r_goto (tgt := 25) X dX3_besidePart_21 (by decide) ?_
      rw [if_pos c10] at J3
      exact J3
    · skip
      refine r_ic X dX3_besidePart_24 ?_
      rw [if_neg c10] at J3
      exact J3
  exact go _ _ _ X V

set_option maxRecDepth 100000 in
set_option maxHeartbeats 4000000 in
theorem c_X3_ofFit (l : Launch) (G : UG) (σ0 : St) (a1 : Int) (a2 : Int) (a3 : Int) (r : Int)  (h : f_X3_ofFit σ0 a1 a2 a3 = some r) : Met l yX3_ofFit (.code yX3_ofFit cX3_ofFit 6 (Option.some Jvm.ClassFile.FieldType.int) :: TB) { frames := 2, cells := 0, slots := 0, locals := 45 } (uvPc G σ0 [.ref (G.2.2.1 54), .int (iV a1), .int (iV a2), .int (iV a3)]) (uvQi G r σ0) 0 0 (uvA G) := by
  unfold f_X3_ofFit at h
  refine r_met (own := RX3) (lv := [(0, .ref (G.2.2.1 54)), (1, .int (iV a1)), (2, .int (iV a2)), (3, .int (iV a3))]) (by decide) rfl (Nat.le_of_ble_eq_true rfl) rfl ?_
  intro p e s m below meth c ls X Y V hl
  have go : ∀ (args : Array Value) (H : Heap) (locs : List Loc), uvCx p m c cX3_ofFit 6 RX3 s args meth (Option.some Jvm.ClassFile.FieldType.int) → uvWo G σ0 s H locs → W p l e { frames := 2, cells := 0, slots := 0, locals := 45 } s m args below meth c H locs 0 0 (MQ below (uvQi G r σ0) args s 0 0 (uvA G)) (F0 m 0 ls []) := by
    intro args H locs X V
    refine r_aln X dX3_ofFit_0 rfl (lv_at hl 0 rfl) ?_
    refine r_gr X Y V ci_3 kd_54 0 rfl rfl (by decide) rfl rfl wd_258 dX3_ofFit_1 ?_
    refine r_gr X Y V ci_8 kd_1 3 rfl rfl (by decide) rfl rfl wd_49 dX3_ofFit_4 ?_
    refine r_iln X dX3_ofFit_7 rfl (lv_at hl 2 rfl) ?_
    obtain ⟨v1, hv1, hiv1, h⟩ := rdA_ex h
    refine r_ial X Y V kd_5 ln_5 hiv1 hv1 dX3_ofFit_8 ?_
    refine r_aln X dX3_ofFit_9 rfl (lv_at hl 0 rfl) ?_
    refine r_gr X Y V ci_3 kd_54 1 rfl rfl (by decide) rfl rfl wd_259 dX3_ofFit_10 ?_
    refine r_gr X Y V ci_4 kd_10 1 rfl rfl (by decide) rfl rfl wd_96 dX3_ofFit_13 ?_
    refine r_iln X dX3_ofFit_16 rfl (lv_at hl 3 rfl) ?_
    obtain ⟨v2, hv2, hiv2, h⟩ := rdA_ex h
    refine r_ial X Y V kd_12 ln_12 hiv2 hv2 dX3_ofFit_17 ?_
    refine r_isub X dX3_ofFit_18 ?_
    refine r_mabs X wd_717 hl.1 (Nat.le_of_ble_eq_true rfl) (Nat.le_of_ble_eq_true rfl) ⟨Nat.le_refl 0, Nat.le_refl 0⟩ dX3_ofFit_19 ?_
    obtain ⟨v3, hv3, h⟩ := bnd_ex h
    refine r_eqI hv3 ?_
    refine r_is (lv' := [(4, .int (iV v3)), (0, .ref (G.2.2.1 54)), (1, .int (iV a1)), (2, .int (iV a2)), (3, .int (iV a3))]) X dX3_ofFit_22 hl (by decide) rfl (fun ls hl => ?_)
    refine r_il X dX3_ofFit_24 (lv_at hl 0 rfl) ?_
    refine r_aln X dX3_ofFit_26 rfl (lv_at hl 1 rfl) ?_
    refine r_gr X Y V ci_3 kd_54 0 rfl rfl (by decide) rfl rfl wd_258 dX3_ofFit_27 ?_
    refine r_gr X Y V ci_8 kd_1 4 rfl rfl (by decide) rfl rfl wd_53 dX3_ofFit_30 ?_
    refine r_iln X dX3_ofFit_33 rfl (lv_at hl 3 rfl) ?_
    obtain ⟨v4, hv4, hiv4, h⟩ := rdA_ex h
    refine r_ial X Y V kd_6 ln_6 hiv4 hv4 dX3_ofFit_34 ?_
    refine r_aln X dX3_ofFit_35 rfl (lv_at hl 1 rfl) ?_
    refine r_gr X Y V ci_3 kd_54 1 rfl rfl (by decide) rfl rfl wd_259 dX3_ofFit_36 ?_
    refine r_gr X Y V ci_4 kd_10 2 rfl rfl (by decide) rfl rfl wd_100 dX3_ofFit_39 ?_
    refine r_iln X dX3_ofFit_42 rfl (lv_at hl 4 rfl) ?_
    obtain ⟨v5, hv5, hiv5, h⟩ := rdA_ex h
    refine r_ial X Y V kd_13 ln_13 hiv5 hv5 dX3_ofFit_43 ?_
    refine r_isub X dX3_ofFit_44 ?_
    refine r_mabs X wd_717 hl.1 (Nat.le_of_ble_eq_true rfl) (Nat.le_of_ble_eq_true rfl) ⟨Nat.le_refl 0, Nat.le_refl 0⟩ dX3_ofFit_45 ?_
    refine r_iadd X dX3_ofFit_48 ?_
    obtain ⟨v6, hv6, h⟩ := bnd_ex h
    refine r_eqI hv6 ?_
    refine r_is (lv' := [(5, .int (iV v6)), (4, .int (iV v3)), (0, .ref (G.2.2.1 54)), (1, .int (iV a1)), (2, .int (iV a2)), (3, .int (iV a3))]) X dX3_ofFit_49 hl (by decide) rfl (fun ls hl => ?_)
    refine r_iln X dX3_ofFit_51 rfl (lv_at hl 3 rfl) ?_
    by_cases c7 : wI a1 = 1
    · replace h := ite_t c7 h
      refine r_tbi (tgt := 84) X rfl dX3_ofFit_52 c7 (by decide) (by decide) rfl (by decide) ?_
      refine r_il X dX3_ofFit_84 (lv_at hl 0 rfl) ?_
      refine r_aln X dX3_ofFit_86 rfl (lv_at hl 2 rfl) ?_
      refine r_iln X dX3_ofFit_87 rfl (lv_at hl 4 rfl) ?_
      refine r_iln X dX3_ofFit_88 rfl (lv_at hl 5 rfl) ?_
      obtain ⟨v8, hv8, h⟩ := bd1_ex h
      refine r_ki V (r_runV (As := [.int (iV a2), .int (iV a3)]) (rest := [.int (iV v6)]) X Y V (c_X3_besidePart l G σ0 a2 a3 _  hv8) mv_X3_besidePart wd_720 ci_3 kd_54 ⟨rfl, rfl, Nat.le_of_ble_eq_true rfl, Nat.le_of_ble_eq_true rfl⟩ rfl rfl hl.1 (Nat.le_of_ble_eq_true rfl) ⟨Nat.le_refl 0, Nat.le_refl 0⟩ dX3_ofFit_89) (fun H locs V => ?_)
      refine r_iadd X dX3_ofFit_92 ?_
      exact r_ri X V (so1 h) rfl dX3_ofFit_93
    · replace h := ite_f c7 h
      by_cases c9 : wI a1 = 2
      · replace h := ite_t c9 h
        refine r_tbi (tgt := 94) X rfl dX3_ofFit_52 c9 (by decide) (by decide) rfl (by decide) ?_
        refine r_il X dX3_ofFit_94 (lv_at hl 0 rfl) ?_
        refine r_il X dX3_ofFit_96 (lv_at hl 1 rfl) ?_
        refine r_iadd X dX3_ofFit_98 ?_
        exact r_ri X V (so1 h) rfl dX3_ofFit_99
      · replace h := ite_f c9 h
        by_cases c10 : wI a1 = 3
        · replace h := ite_t c10 h
          refine r_tbi (tgt := 100) X rfl dX3_ofFit_52 c10 (by decide) (by decide) rfl (by decide) ?_
          refine r_ic X dX3_ofFit_100 ?_
          refine r_il X dX3_ofFit_101 (lv_at hl 0 rfl) ?_
          refine r_aln X dX3_ofFit_103 rfl (lv_at hl 2 rfl) ?_
          refine r_iln X dX3_ofFit_104 rfl (lv_at hl 4 rfl) ?_
          refine r_iln X dX3_ofFit_105 rfl (lv_at hl 5 rfl) ?_
          obtain ⟨v11, hv11, h⟩ := bd1_ex h
          refine r_ki V (r_runV (As := [.int (iV a2), .int (iV a3)]) (rest := [.int (iV v6), .int (iV 2)]) X Y V (c_X3_besidePart l G σ0 a2 a3 _  hv11) mv_X3_besidePart wd_720 ci_3 kd_54 ⟨rfl, rfl, Nat.le_of_ble_eq_true rfl, Nat.le_of_ble_eq_true rfl⟩ rfl rfl hl.1 (Nat.le_of_ble_eq_true rfl) ⟨Nat.le_refl 0, Nat.le_refl 0⟩ dX3_ofFit_106) (fun H locs V => ?_)
          refine r_iadd X dX3_ofFit_109 ?_
          refine r_imul X dX3_ofFit_110 ?_
          exact r_ri X V (so1 h) rfl dX3_ofFit_111
        · replace h := ite_f c10 h
          by_cases c12 : wI a1 = 4
          · replace h := ite_t c12 h
            refine r_tbi (tgt := 112) X rfl dX3_ofFit_52 c12 (by decide) (by decide) rfl (by decide) ?_
            refine r_il X dX3_ofFit_112 (lv_at hl 0 rfl) ?_
            refine r_il X dX3_ofFit_114 (lv_at hl 1 rfl) ?_
            refine r_iadd X dX3_ofFit_116 ?_
            refine r_ic X dX3_ofFit_117 ?_
            refine r_idiv X (by decide) dX3_ofFit_118 ?_
            exact r_ri X V (so1 h) rfl dX3_ofFit_119
          · replace h := ite_f c12 h
            refine r_tbo (tgt := 120) X rfl dX3_ofFit_52 (by omega) (by decide) ?_
            refine r_il X dX3_ofFit_120 (lv_at hl 0 rfl) ?_
            exact r_ri X V (so1 h) rfl dX3_ofFit_122
  exact go _ _ _ X V

set_option maxRecDepth 100000 in
set_option maxHeartbeats 4000000 in
theorem c_X5_begin (l : Launch) (G : UG) (σ : St) (o : Int) (a1 : Int) (r : Int) (σ' : St) (ho : uvKd o = 5) (h : f_X5_begin σ o a1 = some (r, σ')) : Met l yX5_begin (.code yX5_begin cX5_begin 2 (Option.none : Option Jvm.ClassFile.FieldType) :: TB) { frames := 0, cells := 0, slots := 0, locals := 0 } (uvPc G σ [.ref (G.2.2.1 o), .int (iV a1)]) (uvQv G σ') 0 0 (uvA G) := by
  unfold f_X5_begin at h
  refine r_met (own := RX5) (lv := [(0, .ref (G.2.2.1 o)), (1, .int (iV a1))]) (by decide) rfl (Nat.le_of_ble_eq_true rfl) rfl ?_
  intro p e s m below meth c ls X Y V hl
  have go : ∀ (args : Array Value) (H : Heap) (locs : List Loc), uvCx p m c cX5_begin 2 RX5 s args meth (Option.none : Option Jvm.ClassFile.FieldType) → uvWo G σ s H locs → W p l e { frames := 0, cells := 0, slots := 0, locals := 0 } s m args below meth c H locs 0 0 (MQ below (uvQv G σ') args s 0 0 (uvA G)) (F0 m 0 ls []) := by
    intro args H locs X V
    refine r_aln X dX5_begin_0 rfl (lv_at hl 0 rfl) ?_
    refine r_gr X Y V ci_5 ho 0 rfl (rf5_0 ho) (by decide) rfl rfl wd_281 dX5_begin_1 ?_
    refine r_iln X dX5_begin_4 rfl (lv_at hl 1 rfl) ?_
    refine r_ldc X (n := 1000000) wd_310 (by decide) dX5_begin_5 ?_
    obtain ⟨σ1, hσ1, hiσ1, h⟩ := wrA_ex h
    refine r_ias X Y V (ka5_0 ho) rfl hiσ1 hσ1 dX5_begin_7 (fun H locs V => ?_)
    refine r_aln X dX5_begin_8 rfl (lv_at hl 0 rfl) ?_
    refine r_gr X Y V ci_5 ho 1 rfl (rf5_1 ho) (by decide) rfl rfl wd_283 dX5_begin_9 ?_
    refine r_iln X dX5_begin_12 rfl (lv_at hl 1 rfl) ?_
    refine r_ldc X (n := 1000000) wd_310 (by decide) dX5_begin_13 ?_
    obtain ⟨σ2, hσ2, hiσ2, h⟩ := wrA_ex h
    refine r_ias X Y V (ka5_1 ho) rfl hiσ2 hσ2 dX5_begin_15 (fun H locs V => ?_)
    refine r_aln X dX5_begin_16 rfl (lv_at hl 0 rfl) ?_
    refine r_gr X Y V ci_5 ho 2 rfl (rf5_2 ho) (by decide) rfl rfl wd_285 dX5_begin_17 ?_
    refine r_iln X dX5_begin_20 rfl (lv_at hl 1 rfl) ?_
    refine r_ic X dX5_begin_21 ?_
    obtain ⟨σ3, hσ3, hiσ3, h⟩ := wrA_ex h
    refine r_ias X Y V (ka5_2 ho) rfl hiσ3 hσ3 dX5_begin_22 (fun H locs V => ?_)
    refine r_aln X dX5_begin_23 rfl (lv_at hl 0 rfl) ?_
    refine r_gr X Y V ci_5 ho 3 rfl (rf5_3 ho) (by decide) rfl rfl wd_287 dX5_begin_24 ?_
    refine r_iln X dX5_begin_27 rfl (lv_at hl 1 rfl) ?_
    refine r_ic X dX5_begin_28 ?_
    obtain ⟨σ4, hσ4, hiσ4, h⟩ := wrA_ex h
    refine r_ias X Y V (ka5_3 ho) rfl hiσ4 hσ4 dX5_begin_29 (fun H locs V => ?_)
    refine r_aln X dX5_begin_30 rfl (lv_at hl 0 rfl) ?_
    refine r_gr X Y V ci_5 ho 4 rfl (rf5_4 ho) (by decide) rfl rfl wd_289 dX5_begin_31 ?_
    refine r_iln X dX5_begin_34 rfl (lv_at hl 1 rfl) ?_
    refine r_ic X dX5_begin_35 ?_
    obtain ⟨σ5, hσ5, hiσ5, h⟩ := wrA_ex h
    refine r_ias X Y V (ka5_4 ho) rfl hiσ5 hσ5 dX5_begin_36 (fun H locs V => ?_)
    exact r_rv X V (so2 h).2 dX5_begin_37
  exact go _ _ _ X V

set_option maxRecDepth 100000 in
set_option maxHeartbeats 4000000 in
theorem c_X5_offer (l : Launch) (G : UG) (σ : St) (o : Int) (a1 : Int) (a2 : Int) (a3 : Int) (a4 : Int) (r : Int) (σ' : St) (ho : uvKd o = 5) (ha3 : uvKd a3 = 5) (h : f_X5_offer σ o a1 a2 a3 a4 = some (r, σ')) : Met l yX5_offer (.code yX5_offer cX5_offer 6 (Option.none : Option Jvm.ClassFile.FieldType) :: TB) { frames := 1, cells := 0, slots := 0, locals := 21 } (uvPc G σ [.ref (G.2.2.1 o), .int (iV a1), .int (iV a2), .ref (G.2.2.1 a3), .int (iV a4)]) (uvQv G σ') 0 0 (uvA G) := by
  unfold f_X5_offer at h
  refine r_met (own := RX5) (lv := [(0, .ref (G.2.2.1 o)), (1, .int (iV a1)), (2, .int (iV a2)), (3, .ref (G.2.2.1 a3)), (4, .int (iV a4))]) (by decide) rfl (Nat.le_of_ble_eq_true rfl) rfl ?_
  intro p e s m below meth c ls X Y V hl
  have go : ∀ (args : Array Value) (H : Heap) (locs : List Loc), uvCx p m c cX5_offer 6 RX5 s args meth (Option.none : Option Jvm.ClassFile.FieldType) → uvWo G σ s H locs → W p l e { frames := 1, cells := 0, slots := 0, locals := 21 } s m args below meth c H locs 0 0 (MQ below (uvQv G σ') args s 0 0 (uvA G)) (F0 m 0 ls []) := by
    intro args H locs X V
    refine r_iln X dX5_offer_0 rfl (lv_at hl 2 rfl) ?_
    refine r_aln X dX5_offer_1 rfl (lv_at hl 3 rfl) ?_
    refine r_gr X Y V ci_5 ha3 0 rfl (rf5_0 ha3) (by decide) rfl rfl wd_281 dX5_offer_2 ?_
    refine r_il X dX5_offer_5 (lv_at hl 4 rfl) ?_
    obtain ⟨v1, hv1, hiv1, h⟩ := rdA_ex h
    refine r_ial X Y V (ka5_0 ha3) rfl hiv1 hv1 dX5_offer_7 ?_
    refine r_iadd X dX5_offer_8 ?_
    obtain ⟨v2, hv2, h⟩ := bnd_ex h
    refine r_eqI hv2 ?_
    refine r_is (lv' := [(5, .int (iV v2)), (0, .ref (G.2.2.1 o)), (1, .int (iV a1)), (2, .int (iV a2)), (3, .ref (G.2.2.1 a3)), (4, .int (iV a4))]) X dX5_offer_9 hl (by decide) rfl (fun ls hl => ?_)
    refine r_aln X dX5_offer_11 rfl (lv_at hl 1 rfl) ?_
    refine r_gr X Y V ci_5 ho 2 rfl (rf5_2 ho) (by decide) rfl rfl wd_285 dX5_offer_12 ?_
    refine r_iln X dX5_offer_15 rfl (lv_at hl 2 rfl) ?_
    refine r_aln X dX5_offer_16 rfl (lv_at hl 1 rfl) ?_
    refine r_gr X Y V ci_5 ho 2 rfl (rf5_2 ho) (by decide) rfl rfl wd_285 dX5_offer_17 ?_
    refine r_iln X dX5_offer_20 rfl (lv_at hl 2 rfl) ?_
    obtain ⟨v3, hv3, hiv3, h⟩ := rdA_ex h
    refine r_ial X Y V (ka5_2 ho) rfl hiv3 hv3 dX5_offer_21 ?_
    refine r_iln X dX5_offer_22 rfl (lv_at hl 3 rfl) ?_
    refine r_aln X dX5_offer_23 rfl (lv_at hl 4 rfl) ?_
    refine r_gr X Y V ci_5 ha3 2 rfl (rf5_2 ha3) (by decide) rfl rfl wd_285 dX5_offer_24 ?_
    refine r_il X dX5_offer_27 (lv_at hl 5 rfl) ?_
    obtain ⟨v4, hv4, hiv4, h⟩ := rdA_ex h
    refine r_ial X Y V (ka5_2 ha3) rfl hiv4 hv4 dX5_offer_29 ?_
    refine r_iadd X dX5_offer_30 ?_
    refine r_mmax X wd_278 hl.1 (Nat.le_of_ble_eq_true rfl) (Nat.le_of_ble_eq_true rfl) ⟨Nat.le_refl 0, Nat.le_refl 0⟩ dX5_offer_31 ?_
    obtain ⟨σ5, hσ5, hiσ5, h⟩ := wrA_ex h
    refine r_ias X Y V (ka5_2 ho) rfl hiσ5 hσ5 dX5_offer_34 (fun H locs V => ?_)
    refine r_il X dX5_offer_35 (lv_at hl 0 rfl) ?_
    refine r_aln X dX5_offer_37 rfl (lv_at hl 1 rfl) ?_
    refine r_gr X Y V ci_5 ho 0 rfl (rf5_0 ho) (by decide) rfl rfl wd_281 dX5_offer_38 ?_
    refine r_iln X dX5_offer_41 rfl (lv_at hl 2 rfl) ?_
    obtain ⟨v6, hv6, hiv6, h⟩ := rdA_ex h
    refine r_ial X Y V (ka5_0 ho) rfl hiv6 hv6 dX5_offer_42 ?_
    refine r_cge (cx := wI v2) (cy := wI v6) (tgt := 100) X rfl rfl dX5_offer_43 (by decide) (fun c7 => ?_) (fun c7 => ?_)
    · replace h := ite_t c7 h
      refine r_aln X dX5_offer_46 rfl (lv_at hl 1 rfl) ?_
      refine r_gr X Y V ci_5 ho 1 rfl (rf5_1 ho) (by decide) rfl rfl wd_283 dX5_offer_47 ?_
      refine r_iln X dX5_offer_50 rfl (lv_at hl 2 rfl) ?_
      refine r_aln X dX5_offer_51 rfl (lv_at hl 1 rfl) ?_
      refine r_gr X Y V ci_5 ho 0 rfl (rf5_0 ho) (by decide) rfl rfl wd_281 dX5_offer_52 ?_
      refine r_iln X dX5_offer_55 rfl (lv_at hl 2 rfl) ?_
      obtain ⟨v8, hv8, hiv8, h⟩ := rdA_ex h
      refine r_ial X Y V (ka5_0 ho) rfl hiv8 hv8 dX5_offer_56 ?_
      refine r_iln X dX5_offer_57 rfl (lv_at hl 3 rfl) ?_
      refine r_aln X dX5_offer_58 rfl (lv_at hl 4 rfl) ?_
      refine r_gr X Y V ci_5 ha3 1 rfl (rf5_1 ha3) (by decide) rfl rfl wd_283 dX5_offer_59 ?_
      refine r_il X dX5_offer_62 (lv_at hl 5 rfl) ?_
      obtain ⟨v9, hv9, hiv9, h⟩ := rdA_ex h
      refine r_ial X Y V (ka5_1 ha3) rfl hiv9 hv9 dX5_offer_64 ?_
      refine r_iadd X dX5_offer_65 ?_
      refine r_mmin X wd_761 hl.1 (Nat.le_of_ble_eq_true rfl) (Nat.le_of_ble_eq_true rfl) ⟨Nat.le_refl 0, Nat.le_refl 0⟩ dX5_offer_66 ?_
      obtain ⟨σ10, hσ10, hiσ10, h⟩ := wrA_ex h
      refine r_ias X Y V (ka5_1 ho) rfl hiσ10 hσ10 dX5_offer_69 (fun H locs V => ?_)
      refine r_aln X dX5_offer_70 rfl (lv_at hl 1 rfl) ?_
      refine r_gr X Y V ci_5 ho 0 rfl (rf5_0 ho) (by decide) rfl rfl wd_281 dX5_offer_71 ?_
      refine r_iln X dX5_offer_74 rfl (lv_at hl 2 rfl) ?_
      refine r_il X dX5_offer_75 (lv_at hl 0 rfl) ?_
      obtain ⟨σ11, hσ11, hiσ11, h⟩ := wrA_ex h
      refine r_ias X Y V (ka5_0 ho) rfl hiσ11 hσ11 dX5_offer_77 (fun H locs V => ?_)
      refine r_aln X dX5_offer_78 rfl (lv_at hl 1 rfl) ?_
      refine r_gr X Y V ci_5 ho 3 rfl (rf5_3 ho) (by decide) rfl rfl wd_287 dX5_offer_79 ?_
      refine r_iln X dX5_offer_82 rfl (lv_at hl 2 rfl) ?_
      refine r_aln X dX5_offer_83 rfl (lv_at hl 4 rfl) ?_
      refine r_gr X Y V ci_5 ha3 3 rfl (rf5_3 ha3) (by decide) rfl rfl wd_287 dX5_offer_84 ?_
      refine r_il X dX5_offer_87 (lv_at hl 5 rfl) ?_
      obtain ⟨v12, hv12, hiv12, h⟩ := rdA_ex h
      refine r_ial X Y V (ka5_3 ha3) rfl hiv12 hv12 dX5_offer_89 ?_
      obtain ⟨σ13, hσ13, hiσ13, h⟩ := wrA_ex h
      refine r_ias X Y V (ka5_3 ho) rfl hiσ13 hσ13 dX5_offer_90 (fun H locs V => ?_)
      refine r_aln X dX5_offer_91 rfl (lv_at hl 1 rfl) ?_
      refine r_gr X Y V ci_5 ho 4 rfl (rf5_4 ho) (by decide) rfl rfl wd_289 dX5_offer_92 ?_
      refine r_iln X dX5_offer_95 rfl (lv_at hl 2 rfl) ?_
      refine r_il X dX5_offer_96 (lv_at hl 5 rfl) ?_
      obtain ⟨σ14, hσ14, hiσ14, h⟩ := wrA_ex h
      refine r_ias X Y V (ka5_4 ho) rfl hiσ14 hσ14 dX5_offer_98 (fun H locs V => ?_)
      exact r_rv X V (so2 h).2 dX5_offer_99
    · replace h := ite_f c7 h
      refine r_aln X dX5_offer_100 rfl (lv_at hl 1 rfl) ?_
      refine r_gr X Y V ci_5 ho 1 rfl (rf5_1 ho) (by decide) rfl rfl wd_283 dX5_offer_101 ?_
      refine r_iln X dX5_offer_104 rfl (lv_at hl 2 rfl) ?_
      refine r_aln X dX5_offer_105 rfl (lv_at hl 1 rfl) ?_
      refine r_gr X Y V ci_5 ho 1 rfl (rf5_1 ho) (by decide) rfl rfl wd_283 dX5_offer_106 ?_
      refine r_iln X dX5_offer_109 rfl (lv_at hl 2 rfl) ?_
      obtain ⟨v15, hv15, hiv15, h⟩ := rdA_ex h
      refine r_ial X Y V (ka5_1 ho) rfl hiv15 hv15 dX5_offer_110 ?_
      refine r_il X dX5_offer_111 (lv_at hl 0 rfl) ?_
      refine r_mmin X wd_761 hl.1 (Nat.le_of_ble_eq_true rfl) (Nat.le_of_ble_eq_true rfl) ⟨Nat.le_refl 0, Nat.le_refl 0⟩ dX5_offer_113 ?_
      obtain ⟨σ16, hσ16, hiσ16, h⟩ := wrA_ex h
      refine r_ias X Y V (ka5_1 ho) rfl hiσ16 hσ16 dX5_offer_116 (fun H locs V => ?_)
      refine r_il X dX5_offer_117 (lv_at hl 0 rfl) ?_
      refine r_aln X dX5_offer_119 rfl (lv_at hl 1 rfl) ?_
      refine r_gr X Y V ci_5 ho 0 rfl (rf5_0 ho) (by decide) rfl rfl wd_281 dX5_offer_120 ?_
      refine r_iln X dX5_offer_123 rfl (lv_at hl 2 rfl) ?_
      obtain ⟨v17, hv17, hiv17, h⟩ := rdA_ex h
      refine r_ial X Y V (ka5_0 ho) rfl hiv17 hv17 dX5_offer_124 ?_
      refine r_cne (cx := wI v2) (cy := wI v17) (tgt := 153) X rfl rfl dX5_offer_125 (by decide) (fun c18 => ?_) (fun c18 => ?_)
      · replace h := ite_t c18 h
        refine r_aln X dX5_offer_128 rfl (lv_at hl 1 rfl) ?_
        refine r_gr X Y V ci_5 ho 3 rfl (rf5_3 ho) (by decide) rfl rfl wd_287 dX5_offer_129 ?_
        refine r_iln X dX5_offer_132 rfl (lv_at hl 2 rfl) ?_
        refine r_ldc X (n := 1000000000) wd_764 (by decide) dX5_offer_133 ?_
        refine r_aln X dX5_offer_135 rfl (lv_at hl 1 rfl) ?_
        refine r_gr X Y V ci_5 ho 3 rfl (rf5_3 ho) (by decide) rfl rfl wd_287 dX5_offer_136 ?_
        refine r_iln X dX5_offer_139 rfl (lv_at hl 2 rfl) ?_
        obtain ⟨v19, hv19, hiv19, h⟩ := rdA_ex h
        refine r_ial X Y V (ka5_3 ho) rfl hiv19 hv19 dX5_offer_140 ?_
        refine r_aln X dX5_offer_141 rfl (lv_at hl 4 rfl) ?_
        refine r_gr X Y V ci_5 ha3 3 rfl (rf5_3 ha3) (by decide) rfl rfl wd_287 dX5_offer_142 ?_
        refine r_il X dX5_offer_145 (lv_at hl 5 rfl) ?_
        obtain ⟨v20, hv20, hiv20, h⟩ := rdA_ex h
        refine r_ial X Y V (ka5_3 ha3) rfl hiv20 hv20 dX5_offer_147 ?_
        refine r_iadd X dX5_offer_148 ?_
        refine r_mmin X wd_761 hl.1 (Nat.le_of_ble_eq_true rfl) (Nat.le_of_ble_eq_true rfl) ⟨Nat.le_refl 0, Nat.le_refl 0⟩ dX5_offer_149 ?_
        obtain ⟨σ21, hσ21, hiσ21, h⟩ := wrA_ex h
        refine r_ias X Y V (ka5_3 ho) rfl hiσ21 hσ21 dX5_offer_152 (fun H locs V => ?_)
        exact r_rv X V (so2 h).2 dX5_offer_153
      · replace h := ite_f c18 h
        exact r_rv X V (so2 h).2 dX5_offer_153
  exact go _ _ _ X V

set_option maxRecDepth 100000 in
set_option maxHeartbeats 4000000 in
theorem c_X3_ofJoint (l : Launch) (G : UG) (σ0 : St) (a1 : Int) (a2 : Int) (r : Int)  (h : f_X3_ofJoint σ0 a1 a2 = some r) : Met l yX3_ofJoint (.code yX3_ofJoint cX3_ofJoint 5 (Option.some Jvm.ClassFile.FieldType.int) :: TB) { frames := 1, cells := 0, slots := 0, locals := 20 } (uvPc G σ0 [.ref (G.2.2.1 54), .int (iV a1), .int (iV a2)]) (uvQi G r σ0) 0 0 (uvA G) := by
  unfold f_X3_ofJoint at h
  refine r_met (own := RX3) (lv := [(0, .ref (G.2.2.1 54)), (1, .int (iV a1)), (2, .int (iV a2))]) (by decide) rfl (Nat.le_of_ble_eq_true rfl) rfl ?_
  intro p e s m below meth c ls X Y V hl
  have go : ∀ (args : Array Value) (H : Heap) (locs : List Loc), uvCx p m c cX3_ofJoint 5 RX3 s args meth (Option.some Jvm.ClassFile.FieldType.int) → uvWo G σ0 s H locs → W p l e { frames := 1, cells := 0, slots := 0, locals := 20 } s m args below meth c H locs 0 0 (MQ below (uvQi G r σ0) args s 0 0 (uvA G)) (F0 m 0 ls []) := by
    intro args H locs X V
    refine r_aln X dX3_ofJoint_0 rfl (lv_at hl 0 rfl) ?_
    refine r_gr X Y V ci_3 kd_54 0 rfl rfl (by decide) rfl rfl wd_258 dX3_ofJoint_1 ?_
    refine r_gr X Y V ci_8 kd_1 6 rfl rfl (by decide) rfl rfl wd_59 dX3_ofJoint_4 ?_
    refine r_iln X dX3_ofJoint_7 rfl (lv_at hl 1 rfl) ?_
    obtain ⟨v1, hv1, hiv1, h⟩ := rdA_ex h
    refine r_ial X Y V kd_8 ln_8 hiv1 hv1 dX3_ofJoint_8 ?_
    refine r_iln X dX3_ofJoint_9 rfl (lv_at hl 2 rfl) ?_
    refine r_cne (cx := wI v1) (cy := wI a2) (tgt := 15) X rfl rfl dX3_ofJoint_10 (by decide) (fun c2 => ?_) (fun c2 => ?_)
    · replace h := ite_t c2 h
      refine r_ic X dX3_ofJoint_13 ?_
      exact r_ri X V (so1 h) rfl dX3_ofJoint_14
    · replace h := ite_f c2 h
      refine r_aln X dX3_ofJoint_15 rfl (lv_at hl 0 rfl) ?_
      refine r_gr X Y V ci_3 kd_54 0 rfl rfl (by decide) rfl rfl wd_258 dX3_ofJoint_16 ?_
      refine r_gr X Y V ci_8 kd_1 2 rfl rfl (by decide) rfl rfl wd_46 dX3_ofJoint_19 ?_
      refine r_iln X dX3_ofJoint_22 rfl (lv_at hl 1 rfl) ?_
      obtain ⟨v3, hv3, hiv3, h⟩ := rdA_ex h
      refine r_ial X Y V kd_4 ln_4 hiv3 hv3 dX3_ofJoint_23 ?_
      refine r_aln X dX3_ofJoint_24 rfl (lv_at hl 0 rfl) ?_
      refine r_gr X Y V ci_3 kd_54 0 rfl rfl (by decide) rfl rfl wd_258 dX3_ofJoint_25 ?_
      refine r_gr X Y V ci_8 kd_1 0 rfl rfl (by decide) rfl rfl wd_37 dX3_ofJoint_28 ?_
      refine r_iln X dX3_ofJoint_31 rfl (lv_at hl 2 rfl) ?_
      obtain ⟨v4, hv4, hiv4, h⟩ := rdA_ex h
      refine r_ial X Y V kd_2 ln_2 hiv4 hv4 dX3_ofJoint_32 ?_
      have J5 : W p l e { frames := 1, cells := 0, slots := 0, locals := 20 } s m args below meth c H locs 0 0 (MQ below (uvQi G r σ0) args s 0 0 (uvA G)) (F0 m 41 ls [.int (iV (if wI v3 = wI v4 then 0 else 2))]) := by
        obtain ⟨v6, hv6, h⟩ := bnd_ex h
        refine r_eqI hv6 ?_
        refine r_isn (lv' := [(3, .int (iV v6)), (0, .ref (G.2.2.1 54)), (1, .int (iV a1)), (2, .int (iV a2))]) X dX3_ofJoint_41 rfl hl (by decide) rfl (fun ls hl => ?_)
        refine r_aln X dX3_ofJoint_42 rfl (lv_at hl 1 rfl) ?_
        refine r_gr X Y V ci_3 kd_54 0 rfl rfl (by decide) rfl rfl wd_258 dX3_ofJoint_43 ?_
        refine r_gr X Y V ci_8 kd_1 1 rfl rfl (by decide) rfl rfl wd_42 dX3_ofJoint_46 ?_
        refine r_iln X dX3_ofJoint_49 rfl (lv_at hl 3 rfl) ?_
        obtain ⟨v7, hv7, hiv7, h⟩ := rdA_ex h
        refine r_ial X Y V kd_3 ln_3 hiv7 hv7 dX3_ofJoint_50 ?_
        refine r_aln X dX3_ofJoint_51 rfl (lv_at hl 1 rfl) ?_
        refine r_gr X Y V ci_3 kd_54 0 rfl rfl (by decide) rfl rfl wd_258 dX3_ofJoint_52 ?_
        refine r_gr X Y V ci_8 kd_1 0 rfl rfl (by decide) rfl rfl wd_37 dX3_ofJoint_55 ?_
        refine r_iln X dX3_ofJoint_58 rfl (lv_at hl 2 rfl) ?_
        obtain ⟨v8, hv8, hiv8, h⟩ := rdA_ex h
        refine r_ial X Y V kd_2 ln_2 hiv8 hv8 dX3_ofJoint_59 ?_
        have J9 : W p l e { frames := 1, cells := 0, slots := 0, locals := 20 } s m args below meth c H locs 0 0 (MQ below (uvQi G r σ0) args s 0 0 (uvA G)) (F0 m 68 ls [.int (iV (if wI v7 = wI v8 then 0 else 2))]) := by
          obtain ⟨v10, hv10, h⟩ := bnd_ex h
          refine r_eqI hv10 ?_
          refine r_is (lv' := [(4, .int (iV v10)), (3, .int (iV v6)), (0, .ref (G.2.2.1 54)), (1, .int (iV a1)), (2, .int (iV a2))]) X dX3_ofJoint_68 hl (by decide) rfl (fun ls hl => ?_)
          refine r_ic X dX3_ofJoint_70 ?_
          refine r_aln X dX3_ofJoint_71 rfl (lv_at hl 2 rfl) ?_
          refine r_gr X Y V ci_3 kd_54 0 rfl rfl (by decide) rfl rfl wd_258 dX3_ofJoint_72 ?_
          refine r_gr X Y V ci_8 kd_1 3 rfl rfl (by decide) rfl rfl wd_49 dX3_ofJoint_75 ?_
          refine r_iln X dX3_ofJoint_78 rfl (lv_at hl 3 rfl) ?_
          obtain ⟨v11, hv11, hiv11, h⟩ := rdA_ex h
          refine r_ial X Y V kd_5 ln_5 hiv11 hv11 dX3_ofJoint_79 ?_
          refine r_aln X dX3_ofJoint_80 rfl (lv_at hl 2 rfl) ?_
          refine r_gr X Y V ci_3 kd_54 0 rfl rfl (by decide) rfl rfl wd_258 dX3_ofJoint_81 ?_
          refine r_gr X Y V ci_8 kd_1 3 rfl rfl (by decide) rfl rfl wd_49 dX3_ofJoint_84 ?_
          refine r_iln X dX3_ofJoint_87 rfl (lv_at hl 4 rfl) ?_
          obtain ⟨v12, hv12, hiv12, h⟩ := rdA_ex h
          refine r_ial X Y V kd_5 ln_5 hiv12 hv12 dX3_ofJoint_88 ?_
          refine r_isub X dX3_ofJoint_89 ?_
          refine r_mabs X wd_717 hl.1 (Nat.le_of_ble_eq_true rfl) (Nat.le_of_ble_eq_true rfl) ⟨Nat.le_refl 0, Nat.le_refl 0⟩ dX3_ofJoint_90 ?_
          refine r_iadd X dX3_ofJoint_93 ?_
          refine r_iln X dX3_ofJoint_94 rfl (lv_at hl 1 rfl) ?_
          refine r_iadd X dX3_ofJoint_95 ?_
          refine r_il X dX3_ofJoint_96 (lv_at hl 0 rfl) ?_
          refine r_iadd X dX3_ofJoint_98 ?_
          exact r_ri X V (so1 h) rfl dX3_ofJoint_99
        refine r_cne (cx := wI v7) (cy := wI v8) (tgt := 67) X rfl rfl dX3_ofJoint_60 (by decide) (fun c13 => ?_) (fun c13 => ?_)
        · skip
          refine r_ic X dX3_ofJoint_63 ?_
          refine r_goto (tgt := 68) X dX3_ofJoint_64 (by decide) ?_
          rw [if_pos c13] at J9
          exact J9
        · skip
          refine r_ic X dX3_ofJoint_67 ?_
          rw [if_neg c13] at J9
          exact J9
      refine r_cne (cx := wI v3) (cy := wI v4) (tgt := 40) X rfl rfl dX3_ofJoint_33 (by decide) (fun c14 => ?_) (fun c14 => ?_)
      · skip
        refine r_ic X dX3_ofJoint_36 ?_
        refine r_goto (tgt := 41) X dX3_ofJoint_37 (by decide) ?_
        rw [if_pos c14] at J5
        exact J5
      · skip
        refine r_ic X dX3_ofJoint_40 ?_
        rw [if_neg c14] at J5
        exact J5
  exact go _ _ _ X V

set_option maxRecDepth 100000 in
set_option maxHeartbeats 4000000 in
theorem wl_X0_weighEntry_80 {p : Program} {l : Launch} {e : Env} {s : State} {m : MethodId} {args : Array Value} {below : List Frame} {meth : Method} {c : Code} {G : UG} (X : uvCx p m c cX0_weighEntry 9 RX0 s args meth (Option.none : Option Jvm.ClassFile.FieldType)) (Y : uvGd G s s.heap) (x2 : Int) (x3 : Int) (x4 : Int) (x5 : Int) (x6 : Int) (hx6 : uvKd x6 = 1) (r : Int) (σ' : St) (kx : St → Option (Int × St)) (hkx : ∀ (σ : St)  (H : Heap) (locs : List Loc) (ls : Array Slot), uvWo G σ s H locs → lv_has ls 9 [] → kx σ  = some (r, σ') → W p l e { frames := 3, cells := 0, slots := 0, locals := 70 } s m args below meth c H locs 0 0 (MQ below (uvQv G σ') args s 0 0 (uvA G)) (F0 m 140 ls [])) : ∀ (n : Nat) (σ : St) (x7 : Int) (H : Heap) (locs : List Loc) (ls : Array Slot), uvWo G σ s H locs → lv_has ls 9 [(0, .ref (G.2.2.1 55)), (2, .int (iV x2)), (3, .int (iV x3)), (4, .int (iV x4)), (5, .int (iV x5)), (6, .ref (G.2.2.1 x6)), (7, .int (iV x7))] → lp_X0_weighEntry_80 x2 x3 x4 x5 x6 kx n σ x7 = some (r, σ') → W p l e { frames := 3, cells := 0, slots := 0, locals := 70 } s m args below meth c H locs 0 0 (MQ below (uvQv G σ') args s 0 0 (uvA G)) (F0 m 80 ls []) := by
  intro n
  induction n with
  | zero => intro σ x7 H locs ls V hl h; cases h
  | succ n ih =>
    intro σ x7 H locs ls V hl h
    rw [lp_X0_weighEntry_80] at h
    refine r_il X dX0_weighEntry_80 (lv_at hl 6 rfl) ?_
    refine r_al X dX0_weighEntry_82 (lv_at hl 5 rfl) ?_
    refine r_gi (kI := 1) X Y V ci_1 hx6 1 rfl (by decide) rfl rfl wd_214 dX0_weighEntry_84 ?_
    refine r_cge (cx := wI x7) (cy := wI (σ x6 1)) (tgt := 140) X rfl rfl dX0_weighEntry_87 (by decide) (fun c9 => ?_) (fun c9 => ?_)
    · replace h := ite_t c9 h
      refine r_aln X dX0_weighEntry_90 rfl (lv_at hl 0 rfl) ?_
      refine r_gr X Y V ci_0 kd_55 2 rfl rfl (by decide) rfl rfl wd_313 dX0_weighEntry_91 ?_
      refine r_il X dX0_weighEntry_94 (lv_at hl 3 rfl) ?_
      refine r_al X dX0_weighEntry_96 (lv_at hl 5 rfl) ?_
      refine r_gr X Y V ci_1 hx6 0 rfl (rf1_0 hx6) (by decide) rfl rfl wd_211 dX0_weighEntry_98 ?_
      refine r_il X dX0_weighEntry_101 (lv_at hl 6 rfl) ?_
      obtain ⟨v10, hv10, hiv10, h⟩ := rdA_ex h
      refine r_ial X Y V (ka1_0 hx6) (ln1_0 hx6) hiv10 hv10 dX0_weighEntry_103 ?_
      obtain ⟨v11, hv11, h⟩ := bd1_ex h
      refine r_ki V (r_runV (As := [.int (iV x4), .int (iV v10)]) (rest := []) X Y V (c_X3_ofJoint l G σ x4 v10 _  hv11) mv_X3_ofJoint wd_765 ci_3 kd_54 ⟨rfl, rfl, Nat.le_of_ble_eq_true rfl, Nat.le_of_ble_eq_true rfl⟩ rfl rfl hl.1 (Nat.le_of_ble_eq_true rfl) ⟨Nat.le_refl 0, Nat.le_refl 0⟩ dX0_weighEntry_104) (fun H locs V => ?_)
      refine r_is (lv' := [(8, .int (iV v11)), (0, .ref (G.2.2.1 55)), (2, .int (iV x2)), (3, .int (iV x3)), (4, .int (iV x4)), (5, .int (iV x5)), (6, .ref (G.2.2.1 x6)), (7, .int (iV x7))]) X dX0_weighEntry_107 hl (by decide) rfl (fun ls hl => ?_)
      refine r_aln X dX0_weighEntry_109 rfl (lv_at hl 1 rfl) ?_
      refine r_gr X Y V ci_0 kd_55 3 rfl rfl (by decide) rfl rfl wd_314 dX0_weighEntry_110 ?_
      refine r_iln X dX0_weighEntry_113 rfl (lv_at hl 2 rfl) ?_
      obtain ⟨hiq12, h⟩ := ixA_ex h
      refine r_aal X Y V 2 (by decide) kd_56 rfl ln_56 hiq12 (rf_56 _) dX0_weighEntry_114 ?_
      refine r_iln X dX0_weighEntry_115 rfl (lv_at hl 3 rfl) ?_
      refine r_il X dX0_weighEntry_116 (lv_at hl 5 rfl) ?_
      refine r_il X dX0_weighEntry_118 (lv_at hl 0 rfl) ?_
      refine r_iadd X dX0_weighEntry_120 ?_
      refine r_aln X dX0_weighEntry_121 rfl (lv_at hl 1 rfl) ?_
      refine r_gr X Y V ci_0 kd_55 3 rfl rfl (by decide) rfl rfl wd_314 dX0_weighEntry_122 ?_
      refine r_iln X dX0_weighEntry_125 rfl (lv_at hl 2 rfl) ?_
      refine r_ic X dX0_weighEntry_126 ?_
      refine r_iadd X dX0_weighEntry_127 ?_
      obtain ⟨hiq13, h⟩ := ixA_ex h
      refine r_aal X Y V 2 (by decide) kd_56 rfl ln_56 hiq13 (rf_56 _) dX0_weighEntry_128 ?_
      refine r_il X dX0_weighEntry_129 (lv_at hl 7 rfl) ?_
      obtain ⟨v14, σ15, hv14, h⟩ := bd2_ex h
      refine r_kv V (r_runV (As := [.int (iV x3), .int (iV (x5 + v11)), .ref (G.2.2.1 (70 + 6 * (x2 + 1))), .int (iV x7)]) (rest := []) X Y V (c_X5_offer l G σ (70 + 6 * x2) x3 (x5 + v11) (70 + 6 * (x2 + 1)) x7 _ _ (kd_ta hiq12) (kd_ta hiq13) hv14) mv_X5_offer wd_757 ci_5 (kd_ta hiq12) ⟨rfl, rfl, Nat.le_of_ble_eq_true rfl, Nat.le_of_ble_eq_true rfl⟩ rfl rfl hl.1 (Nat.le_of_ble_eq_true rfl) ⟨Nat.le_refl 0, Nat.le_refl 0⟩ dX0_weighEntry_131) (fun H locs V => ?_)
      refine r_inc (kk := 7) (lv' := [(7, .int (iV (x7 + 1))), (8, .int (iV v11)), (0, .ref (G.2.2.1 55)), (2, .int (iV x2)), (3, .int (iV x3)), (4, .int (iV x4)), (5, .int (iV x5)), (6, .ref (G.2.2.1 x6))]) X dX0_weighEntry_134 hl rfl (by decide) rfl (fun ls hl => ?_)
      refine r_goto (tgt := 80) X dX0_weighEntry_137 (by decide) ?_
      exact ih σ15 (x7 + 1) _ _ _ V (lv_sub hl [2, 3, 4, 5, 6, 7, 0] rfl) h
    · replace h := ite_f c9 h
      exact hkx σ  _ _ _ V (lv_sub hl [] rfl) h

set_option maxRecDepth 100000 in
set_option maxHeartbeats 4000000 in
theorem c_X0_weighEntry (l : Launch) (G : UG) (σ : St) (a1 : Int) (a2 : Int) (a3 : Int) (r : Int) (σ' : St)  (h : f_X0_weighEntry σ a1 a2 a3 = some (r, σ')) : Met l yX0_weighEntry (.code yX0_weighEntry cX0_weighEntry 9 (Option.none : Option Jvm.ClassFile.FieldType) :: TB) { frames := 3, cells := 0, slots := 0, locals := 70 } (uvPc G σ [.ref (G.2.2.1 55), .int (iV a1), .int (iV a2), .int (iV a3)]) (uvQv G σ') 0 0 (uvA G) := by
  unfold f_X0_weighEntry at h
  refine r_met (own := RX0) (lv := [(0, .ref (G.2.2.1 55)), (1, .int (iV a1)), (2, .int (iV a2)), (3, .int (iV a3))]) (by decide) rfl (Nat.le_of_ble_eq_true rfl) rfl ?_
  intro p e s m below meth c ls X Y V hl
  have go : ∀ (args : Array Value) (H : Heap) (locs : List Loc), uvCx p m c cX0_weighEntry 9 RX0 s args meth (Option.none : Option Jvm.ClassFile.FieldType) → uvWo G σ s H locs → W p l e { frames := 3, cells := 0, slots := 0, locals := 70 } s m args below meth c H locs 0 0 (MQ below (uvQv G σ') args s 0 0 (uvA G)) (F0 m 0 ls []) := by
    intro args H locs X V
    refine r_aln X dX0_weighEntry_0 rfl (lv_at hl 0 rfl) ?_
    refine r_gr X Y V ci_0 kd_55 1 rfl rfl (by decide) rfl rfl wd_312 dX0_weighEntry_1 ?_
    refine r_iln X dX0_weighEntry_4 rfl (lv_at hl 2 rfl) ?_
    obtain ⟨hiq1, h⟩ := ixA_ex h
    refine r_aal X Y V 1 (by decide) kd_37 rfl ln_37 hiq1 (rf_37 _) dX0_weighEntry_5 ?_
    refine r_gr X Y V ci_1 (kd_ch hiq1) 0 rfl (rf1_0 (kd_ch hiq1)) (by decide) rfl rfl wd_211 dX0_weighEntry_6 ?_
    refine r_iln X dX0_weighEntry_9 rfl (lv_at hl 3 rfl) ?_
    obtain ⟨v2, hv2, hiv2, h⟩ := rdA_ex h
    refine r_ial X Y V (ka1_0 (kd_ch hiq1)) (ln1_0 (kd_ch hiq1)) hiv2 hv2 dX0_weighEntry_10 ?_
    refine r_is (lv' := [(4, .int (iV v2)), (0, .ref (G.2.2.1 55)), (1, .int (iV a1)), (2, .int (iV a2)), (3, .int (iV a3))]) X dX0_weighEntry_11 hl (by decide) rfl (fun ls hl => ?_)
    refine r_aln X dX0_weighEntry_13 rfl (lv_at hl 1 rfl) ?_
    refine r_gr X Y V ci_0 kd_55 2 rfl rfl (by decide) rfl rfl wd_313 dX0_weighEntry_14 ?_
    refine r_iln X dX0_weighEntry_17 rfl (lv_at hl 2 rfl) ?_
    refine r_il X dX0_weighEntry_18 (lv_at hl 0 rfl) ?_
    refine r_iln X dX0_weighEntry_20 rfl (lv_at hl 3 rfl) ?_
    obtain ⟨v3, hv3, h⟩ := bd1_ex h
    refine r_ki V (r_runV (As := [.int (iV a1), .int (iV v2), .int (iV a2)]) (rest := []) X Y V (c_X3_ofFit l G σ a1 v2 a2 _  hv3) mv_X3_ofFit wd_755 ci_3 kd_54 ⟨rfl, rfl, Nat.le_of_ble_eq_true rfl, Nat.le_of_ble_eq_true rfl⟩ rfl rfl hl.1 (Nat.le_of_ble_eq_true rfl) ⟨Nat.le_refl 0, Nat.le_refl 0⟩ dX0_weighEntry_21) (fun H locs V => ?_)
    refine r_is (lv' := [(5, .int (iV v3)), (4, .int (iV v2)), (0, .ref (G.2.2.1 55)), (1, .int (iV a1)), (2, .int (iV a2)), (3, .int (iV a3))]) X dX0_weighEntry_24 hl (by decide) rfl (fun ls hl => ?_)
    refine r_aln X dX0_weighEntry_26 rfl (lv_at hl 2 rfl) ?_
    refine r_gr X Y V ci_0 kd_55 3 rfl rfl (by decide) rfl rfl wd_314 dX0_weighEntry_27 ?_
    refine r_iln X dX0_weighEntry_30 rfl (lv_at hl 4 rfl) ?_
    obtain ⟨hiq4, h⟩ := ixA_ex h
    refine r_aal X Y V 2 (by decide) kd_56 rfl ln_56 hiq4 (rf_56 _) dX0_weighEntry_31 ?_
    refine r_iln X dX0_weighEntry_32 rfl (lv_at hl 5 rfl) ?_
    obtain ⟨v5, σ6, hv5, h⟩ := bd2_ex h
    refine r_kv V (r_runV (As := [.int (iV a3)]) (rest := []) X Y V (c_X5_begin l G σ (70 + 6 * a2) a3 _ _ (kd_ta hiq4) hv5) mv_X5_begin wd_756 ci_5 (kd_ta hiq4) ⟨rfl, rfl, Nat.le_of_ble_eq_true rfl, Nat.le_of_ble_eq_true rfl⟩ rfl rfl hl.1 (Nat.le_of_ble_eq_true rfl) ⟨Nat.le_refl 0, Nat.le_refl 0⟩ dX0_weighEntry_33) (fun H locs V => ?_)
    refine r_iln X dX0_weighEntry_36 rfl (lv_at hl 4 rfl) ?_
    refine r_ic X dX0_weighEntry_37 ?_
    refine r_iadd X dX0_weighEntry_38 ?_
    refine r_aln X dX0_weighEntry_39 rfl (lv_at hl 2 rfl) ?_
    refine r_gr X Y V ci_0 kd_55 0 rfl rfl (by decide) rfl rfl wd_311 dX0_weighEntry_40 ?_
    refine r_gi (kI := 3) X Y V ci_4 kd_10 3 rfl (by decide) rfl rfl wd_104 dX0_weighEntry_43 ?_
    refine r_clt (cx := wI (a2 + 1)) (cy := wI (σ6 10 3)) (tgt := 67) X rfl rfl dX0_weighEntry_46 (by decide) (fun c7 => ?_) (fun c7 => ?_)
    · replace h := ite_t c7 h
      refine r_aln X dX0_weighEntry_67 rfl (lv_at hl 2 rfl) ?_
      refine r_gr X Y V ci_0 kd_55 1 rfl rfl (by decide) rfl rfl wd_312 dX0_weighEntry_68 ?_
      refine r_iln X dX0_weighEntry_71 rfl (lv_at hl 4 rfl) ?_
      refine r_ic X dX0_weighEntry_72 ?_
      refine r_iadd X dX0_weighEntry_73 ?_
      obtain ⟨hiq8, h⟩ := ixA_ex h
      refine r_aal X Y V 1 (by decide) kd_37 rfl ln_37 hiq8 (rf_37 _) dX0_weighEntry_74 ?_
      refine r_as (lv' := [(6, .ref (G.2.2.1 (38 + 2 * (a2 + 1)))), (5, .int (iV v3)), (4, .int (iV v2)), (0, .ref (G.2.2.1 55)), (1, .int (iV a1)), (2, .int (iV a2)), (3, .int (iV a3))]) X dX0_weighEntry_75 hl (by decide) rfl (fun ls hl => ?_)
      refine r_ic X dX0_weighEntry_77 ?_
      refine r_is (lv' := [(7, .int (iV 0)), (6, .ref (G.2.2.1 (38 + 2 * (a2 + 1)))), (5, .int (iV v3)), (4, .int (iV v2)), (0, .ref (G.2.2.1 55)), (1, .int (iV a1)), (2, .int (iV a2)), (3, .int (iV a3))]) X dX0_weighEntry_78 hl (by decide) rfl (fun ls hl => ?_)
      refine wl_X0_weighEntry_80 X Y a2 a3 v2 v3 (38 + 2 * (a2 + 1)) (kd_ch hiq8) r σ' _ (fun σ16  H locs ls V hl h => ?_) 1000 σ6 0 _ _ _ V (lv_sub hl [4, 6, 7, 3, 2, 1, 0] rfl) h
      exact r_rv X V (so2 h).2 dX0_weighEntry_140
    · replace h := ite_f c7 h
      refine r_aln X dX0_weighEntry_49 rfl (lv_at hl 2 rfl) ?_
      refine r_gr X Y V ci_0 kd_55 3 rfl rfl (by decide) rfl rfl wd_314 dX0_weighEntry_50 ?_
      refine r_iln X dX0_weighEntry_53 rfl (lv_at hl 4 rfl) ?_
      obtain ⟨hiq17, h⟩ := ixA_ex h
      refine r_aal X Y V 2 (by decide) kd_56 rfl ln_56 hiq17 (rf_56 _) dX0_weighEntry_54 ?_
      refine r_iln X dX0_weighEntry_55 rfl (lv_at hl 5 rfl) ?_
      refine r_il X dX0_weighEntry_56 (lv_at hl 0 rfl) ?_
      refine r_aln X dX0_weighEntry_58 rfl (lv_at hl 2 rfl) ?_
      refine r_gr X Y V ci_0 kd_55 5 rfl rfl (by decide) rfl rfl wd_316 dX0_weighEntry_59 ?_
      refine r_ic X dX0_weighEntry_62 ?_
      obtain ⟨v18, σ19, hv18, h⟩ := bd2_ex h
      refine r_kv V (r_runV (As := [.int (iV a3), .int (iV v3), .ref (G.2.2.1 63), .int (iV 0)]) (rest := []) X Y V (c_X5_offer l G σ6 (70 + 6 * a2) a3 v3 63 0 _ _ (kd_ta hiq17) kd_63 hv18) mv_X5_offer wd_757 ci_5 (kd_ta hiq17) ⟨rfl, rfl, Nat.le_of_ble_eq_true rfl, Nat.le_of_ble_eq_true rfl⟩ rfl rfl hl.1 (Nat.le_of_ble_eq_true rfl) ⟨Nat.le_refl 0, Nat.le_refl 0⟩ dX0_weighEntry_63) (fun H locs V => ?_)
      exact r_rv X V (so2 h).2 dX0_weighEntry_66
  exact go _ _ _ X V

set_option maxRecDepth 100000 in
set_option maxHeartbeats 4000000 in
theorem wl_X0_weigh_16 {p : Program} {l : Launch} {e : Env} {s : State} {m : MethodId} {args : Array Value} {below : List Frame} {meth : Method} {c : Code} {G : UG} (X : uvCx p m c cX0_weigh 4 RX0 s args meth (Option.none : Option Jvm.ClassFile.FieldType)) (Y : uvGd G s s.heap) (x1 : Int) (x2 : Int)  (r : Int) (σ' : St) (kx : St → Option (Int × St)) (hkx : ∀ (σ : St)  (H : Heap) (locs : List Loc) (ls : Array Slot), uvWo G σ s H locs → lv_has ls 4 [(0, .ref (G.2.2.1 55)), (1, .int (iV x1)), (2, .int (iV x2))] → kx σ  = some (r, σ') → W p l e { frames := 4, cells := 0, slots := 0, locals := 98 } s m args below meth c H locs 0 0 (MQ below (uvQv G σ') args s 0 0 (uvA G)) (F0 m 42 ls [])) : ∀ (n : Nat) (σ : St) (x3 : Int) (H : Heap) (locs : List Loc) (ls : Array Slot), uvWo G σ s H locs → lv_has ls 4 [(0, .ref (G.2.2.1 55)), (1, .int (iV x1)), (2, .int (iV x2)), (3, .int (iV x3))] → lp_X0_weigh_16 x1 x2 kx n σ x3 = some (r, σ') → W p l e { frames := 4, cells := 0, slots := 0, locals := 98 } s m args below meth c H locs 0 0 (MQ below (uvQv G σ') args s 0 0 (uvA G)) (F0 m 16 ls []) := by
  intro n
  induction n with
  | zero => intro σ x3 H locs ls V hl h; cases h
  | succ n ih =>
    intro σ x3 H locs ls V hl h
    rw [lp_X0_weigh_16] at h
    refine r_iln X dX0_weigh_16 rfl (lv_at hl 3 rfl) ?_
    refine r_aln X dX0_weigh_17 rfl (lv_at hl 0 rfl) ?_
    refine r_gr X Y V ci_0 kd_55 1 rfl rfl (by decide) rfl rfl wd_312 dX0_weigh_18 ?_
    refine r_iln X dX0_weigh_21 rfl (lv_at hl 2 rfl) ?_
    obtain ⟨hiq3, h⟩ := ixA_ex h
    refine r_aal X Y V 1 (by decide) kd_37 rfl ln_37 hiq3 (rf_37 _) dX0_weigh_22 ?_
    refine r_gi (kI := 1) X Y V ci_1 (kd_ch hiq3) 1 rfl (by decide) rfl rfl wd_214 dX0_weigh_23 ?_
    refine r_cge (cx := wI x3) (cy := wI (σ (38 + 2 * x2) 1)) (tgt := 42) X rfl rfl dX0_weigh_26 (by decide) (fun c4 => ?_) (fun c4 => ?_)
    · replace h := ite_t c4 h
      refine r_aln X dX0_weigh_29 rfl (lv_at hl 0 rfl) ?_
      refine r_iln X dX0_weigh_30 rfl (lv_at hl 1 rfl) ?_
      refine r_iln X dX0_weigh_31 rfl (lv_at hl 2 rfl) ?_
      refine r_iln X dX0_weigh_32 rfl (lv_at hl 3 rfl) ?_
      obtain ⟨v5, σ6, hv5, h⟩ := bd2_ex h
      refine r_kv V (r_runV (As := [.int (iV x1), .int (iV x2), .int (iV x3)]) (rest := []) X Y V (c_X0_weighEntry l G σ x1 x2 x3 _ _  hv5) mv_X0_weighEntry wd_751 ci_0 kd_55 ⟨rfl, rfl, Nat.le_of_ble_eq_true rfl, Nat.le_of_ble_eq_true rfl⟩ rfl rfl hl.1 (Nat.le_of_ble_eq_true rfl) ⟨Nat.le_refl 0, Nat.le_refl 0⟩ dX0_weigh_33) (fun H locs V => ?_)
      refine r_inc (kk := 3) (lv' := [(3, .int (iV (x3 + 1))), (0, .ref (G.2.2.1 55)), (1, .int (iV x1)), (2, .int (iV x2))]) X dX0_weigh_36 hl rfl (by decide) rfl (fun ls hl => ?_)
      refine r_goto (tgt := 16) X dX0_weigh_39 (by decide) ?_
      exact ih σ6 (x3 + 1) _ _ _ V (lv_sub hl [1, 2, 3, 0] rfl) h
    · replace h := ite_f c4 h
      exact hkx σ  _ _ _ V (lv_sub hl [0, 1, 2] rfl) h

set_option maxRecDepth 100000 in
set_option maxHeartbeats 4000000 in
theorem wl_X0_weigh_10 {p : Program} {l : Launch} {e : Env} {s : State} {m : MethodId} {args : Array Value} {below : List Frame} {meth : Method} {c : Code} {G : UG} (X : uvCx p m c cX0_weigh 4 RX0 s args meth (Option.none : Option Jvm.ClassFile.FieldType)) (Y : uvGd G s s.heap) (x1 : Int)  (r : Int) (σ' : St) (kx : St → Option (Int × St)) (hkx : ∀ (σ : St)  (H : Heap) (locs : List Loc) (ls : Array Slot), uvWo G σ s H locs → lv_has ls 4 [(0, .ref (G.2.2.1 55))] → kx σ  = some (r, σ') → W p l e { frames := 4, cells := 0, slots := 0, locals := 98 } s m args below meth c H locs 0 0 (MQ below (uvQv G σ') args s 0 0 (uvA G)) (F0 m 48 ls [])) : ∀ (n : Nat) (σ : St) (x2 : Int) (H : Heap) (locs : List Loc) (ls : Array Slot), uvWo G σ s H locs → lv_has ls 4 [(0, .ref (G.2.2.1 55)), (1, .int (iV x1)), (2, .int (iV x2))] → lp_X0_weigh_10 x1 kx n σ x2 = some (r, σ') → W p l e { frames := 4, cells := 0, slots := 0, locals := 98 } s m args below meth c H locs 0 0 (MQ below (uvQv G σ') args s 0 0 (uvA G)) (F0 m 10 ls []) := by
  intro n
  induction n with
  | zero => intro σ x2 H locs ls V hl h; cases h
  | succ n ih =>
    intro σ x2 H locs ls V hl h
    rw [lp_X0_weigh_10] at h
    refine r_iln X dX0_weigh_10 rfl (lv_at hl 2 rfl) ?_
    refine r_lt (cx := wI x2) (tgt := 48) X rfl dX0_weigh_11 (by decide) (fun c2 => ?_) (fun c2 => ?_)
    · replace h := ite_t c2 h
      exact hkx σ  _ _ _ V (lv_sub hl [0] rfl) h
    · replace h := ite_f c2 h
      refine r_ic X dX0_weigh_14 ?_
      refine r_isn (lv' := [(3, .int (iV 0)), (0, .ref (G.2.2.1 55)), (1, .int (iV x1)), (2, .int (iV x2))]) X dX0_weigh_15 rfl hl (by decide) rfl (fun ls hl => ?_)
      refine wl_X0_weigh_16 X Y x1 x2  r σ' _ (fun σ7  H locs ls V hl h => ?_) 1000 σ 0 _ _ _ V (lv_sub hl [1, 2, 3, 0] rfl) h
      refine r_inc (kk := 2) (lv' := [(2, .int (iV (x2 + (-1)))), (0, .ref (G.2.2.1 55)), (1, .int (iV x1))]) X dX0_weigh_42 hl rfl (by decide) rfl (fun ls hl => ?_)
      refine r_goto (tgt := 10) X dX0_weigh_45 (by decide) ?_
      exact ih σ7 (x2 + (-1)) _ _ _ V (lv_sub hl [1, 2, 0] rfl) h

set_option maxRecDepth 100000 in
set_option maxHeartbeats 4000000 in
theorem wl_X0_weigh_58 {p : Program} {l : Launch} {e : Env} {s : State} {m : MethodId} {args : Array Value} {below : List Frame} {meth : Method} {c : Code} {G : UG} (X : uvCx p m c cX0_weigh 4 RX0 s args meth (Option.none : Option Jvm.ClassFile.FieldType)) (Y : uvGd G s s.heap)   (r : Int) (σ' : St) (kx : St → Option (Int × St)) (hkx : ∀ (σ : St)  (H : Heap) (locs : List Loc) (ls : Array Slot), uvWo G σ s H locs → lv_has ls 4 [] → kx σ  = some (r, σ') → W p l e { frames := 4, cells := 0, slots := 0, locals := 98 } s m args below meth c H locs 0 0 (MQ below (uvQv G σ') args s 0 0 (uvA G)) (F0 m 93 ls [])) : ∀ (n : Nat) (σ : St) (x2 : Int) (H : Heap) (locs : List Loc) (ls : Array Slot), uvWo G σ s H locs → lv_has ls 4 [(0, .ref (G.2.2.1 55)), (2, .int (iV x2))] → lp_X0_weigh_58 kx n σ x2 = some (r, σ') → W p l e { frames := 4, cells := 0, slots := 0, locals := 98 } s m args below meth c H locs 0 0 (MQ below (uvQv G σ') args s 0 0 (uvA G)) (F0 m 58 ls []) := by
  intro n
  induction n with
  | zero => intro σ x2 H locs ls V hl h; cases h
  | succ n ih =>
    intro σ x2 H locs ls V hl h
    rw [lp_X0_weigh_58] at h
    refine r_iln X dX0_weigh_58 rfl (lv_at hl 1 rfl) ?_
    refine r_aln X dX0_weigh_59 rfl (lv_at hl 0 rfl) ?_
    refine r_gr X Y V ci_0 kd_55 1 rfl rfl (by decide) rfl rfl wd_312 dX0_weigh_60 ?_
    refine r_ic X dX0_weigh_63 ?_
    obtain ⟨hiq11, h⟩ := ixA_ex h
    refine r_aal X Y V 1 (by decide) kd_37 rfl ln_37 hiq11 (rf_37 _) dX0_weigh_64 ?_
    refine r_gi (kI := 1) X Y V ci_1 (kd_ch hiq11) 1 rfl (by decide) rfl rfl wd_214 dX0_weigh_65 ?_
    refine r_cge (cx := wI x2) (cy := wI (σ (38 + 2 * 0) 1)) (tgt := 93) X rfl rfl dX0_weigh_68 (by decide) (fun c12 => ?_) (fun c12 => ?_)
    · replace h := ite_t c12 h
      refine r_aln X dX0_weigh_71 rfl (lv_at hl 0 rfl) ?_
      refine r_gr X Y V ci_0 kd_55 4 rfl rfl (by decide) rfl rfl wd_315 dX0_weigh_72 ?_
      refine r_ic X dX0_weigh_75 ?_
      refine r_ic X dX0_weigh_76 ?_
      refine r_aln X dX0_weigh_77 rfl (lv_at hl 0 rfl) ?_
      refine r_gr X Y V ci_0 kd_55 3 rfl rfl (by decide) rfl rfl wd_314 dX0_weigh_78 ?_
      refine r_ic X dX0_weigh_81 ?_
      obtain ⟨hiq13, h⟩ := ixA_ex h
      refine r_aal X Y V 2 (by decide) kd_56 rfl ln_56 hiq13 (rf_56 _) dX0_weigh_82 ?_
      refine r_iln X dX0_weigh_83 rfl (lv_at hl 1 rfl) ?_
      obtain ⟨v14, σ15, hv14, h⟩ := bd2_ex h
      refine r_kv V (r_runV (As := [.int (iV 0), .int (iV 0), .ref (G.2.2.1 (70 + 6 * 0)), .int (iV x2)]) (rest := []) X Y V (c_X5_offer l G σ 57 0 0 (70 + 6 * 0) x2 _ _ kd_57 (kd_ta hiq13) hv14) mv_X5_offer wd_757 ci_5 kd_57 ⟨rfl, rfl, Nat.le_of_ble_eq_true rfl, Nat.le_of_ble_eq_true rfl⟩ rfl rfl hl.1 (Nat.le_of_ble_eq_true rfl) ⟨Nat.le_refl 0, Nat.le_refl 0⟩ dX0_weigh_84) (fun H locs V => ?_)
      refine r_inc (kk := 1) (lv' := [(2, .int (iV (x2 + 1))), (0, .ref (G.2.2.1 55))]) X dX0_weigh_87 hl rfl (by decide) rfl (fun ls hl => ?_)
      refine r_goto (tgt := 58) X dX0_weigh_90 (by decide) ?_
      exact ih σ15 (x2 + 1) _ _ _ V (lv_sub hl [1, 0] rfl) h
    · replace h := ite_f c12 h
      exact hkx σ  _ _ _ V (lv_sub hl [] rfl) h

set_option maxRecDepth 100000 in
set_option maxHeartbeats 4000000 in
theorem c_X0_weigh (l : Launch) (G : UG) (σ : St) (a1 : Int) (r : Int) (σ' : St)  (h : f_X0_weigh σ a1 = some (r, σ')) : Met l yX0_weigh (.code yX0_weigh cX0_weigh 4 (Option.none : Option Jvm.ClassFile.FieldType) :: TB) { frames := 4, cells := 0, slots := 0, locals := 98 } (uvPc G σ [.ref (G.2.2.1 55), .int (iV a1)]) (uvQv G σ') 0 0 (uvA G) := by
  unfold f_X0_weigh at h
  refine r_met (own := RX0) (lv := [(0, .ref (G.2.2.1 55)), (1, .int (iV a1))]) (by decide) rfl (Nat.le_of_ble_eq_true rfl) rfl ?_
  intro p e s m below meth c ls X Y V hl
  have go : ∀ (args : Array Value) (H : Heap) (locs : List Loc), uvCx p m c cX0_weigh 4 RX0 s args meth (Option.none : Option Jvm.ClassFile.FieldType) → uvWo G σ s H locs → W p l e { frames := 4, cells := 0, slots := 0, locals := 98 } s m args below meth c H locs 0 0 (MQ below (uvQv G σ') args s 0 0 (uvA G)) (F0 m 0 ls []) := by
    intro args H locs X V
    refine r_aln X dX0_weigh_0 rfl (lv_at hl 0 rfl) ?_
    refine r_gr X Y V ci_0 kd_55 0 rfl rfl (by decide) rfl rfl wd_311 dX0_weigh_1 ?_
    refine r_gi (kI := 3) X Y V ci_4 kd_10 3 rfl (by decide) rfl rfl wd_104 dX0_weigh_4 ?_
    refine r_ic X dX0_weigh_7 ?_
    refine r_isub X dX0_weigh_8 ?_
    obtain ⟨v1, hv1, h⟩ := bnd_ex h
    refine r_eqI hv1 ?_
    refine r_isn (lv' := [(2, .int (iV v1)), (0, .ref (G.2.2.1 55)), (1, .int (iV a1))]) X dX0_weigh_9 rfl hl (by decide) rfl (fun ls hl => ?_)
    refine wl_X0_weigh_10 X Y a1  r σ' _ (fun σ8  H locs ls V hl h => ?_) 1000 σ v1 _ _ _ V (lv_sub hl [1, 2, 0] rfl) h
    refine r_aln X dX0_weigh_48 rfl (lv_at hl 0 rfl) ?_
    refine r_gr X Y V ci_0 kd_55 4 rfl rfl (by decide) rfl rfl wd_315 dX0_weigh_49 ?_
    refine r_ic X dX0_weigh_52 ?_
    obtain ⟨v9, σ10, hv9, h⟩ := bd2_ex h
    refine r_kv V (r_runV (As := [.int (iV 0)]) (rest := []) X Y V (c_X5_begin l G σ8 57 0 _ _ kd_57 hv9) mv_X5_begin wd_756 ci_5 kd_57 ⟨rfl, rfl, Nat.le_of_ble_eq_true rfl, Nat.le_of_ble_eq_true rfl⟩ rfl rfl hl.1 (Nat.le_of_ble_eq_true rfl) ⟨Nat.le_refl 0, Nat.le_refl 0⟩ dX0_weigh_53) (fun H locs V => ?_)
    refine r_ic X dX0_weigh_56 ?_
    refine r_isn (lv' := [(2, .int (iV 0)), (0, .ref (G.2.2.1 55))]) X dX0_weigh_57 rfl hl (by decide) rfl (fun ls hl => ?_)
    refine wl_X0_weigh_58 X Y   r σ' _ (fun σ16  H locs ls V hl h => ?_) 1000 σ10 0 _ _ _ V (lv_sub hl [1, 0] rfl) h
    exact r_rv X V (so2 h).2 dX0_weigh_93
  exact go _ _ _ X V

set_option maxRecDepth 100000 in
set_option maxHeartbeats 4000000 in
theorem wl_X0_trace_12 {p : Program} {l : Launch} {e : Env} {s : State} {m : MethodId} {args : Array Value} {below : List Frame} {meth : Method} {c : Code} {G : UG} (X : uvCx p m c cX0_trace 3 RX0 s args meth (Option.none : Option Jvm.ClassFile.FieldType)) (Y : uvGd G s s.heap)   (r : Int) (σ' : St) (kx : St → Option (Int × St)) (hkx : ∀ (σ : St)  (H : Heap) (locs : List Loc) (ls : Array Slot), uvWo G σ s H locs → lv_has ls 3 [] → kx σ  = some (r, σ') → W p l e { frames := 0, cells := 0, slots := 0, locals := 0 } s m args below meth c H locs 0 0 (MQ below (uvQv G σ') args s 0 0 (uvA G)) (F0 m 71 ls [])) : ∀ (n : Nat) (σ : St) (x1 : Int) (x2 : Int) (H : Heap) (locs : List Loc) (ls : Array Slot), uvWo G σ s H locs → lv_has ls 3 [(0, .ref (G.2.2.1 55)), (1, .int (iV x1)), (2, .int (iV x2))] → lp_X0_trace_12 kx n σ x1 x2 = some (r, σ') → W p l e { frames := 0, cells := 0, slots := 0, locals := 0 } s m args below meth c H locs 0 0 (MQ below (uvQv G σ') args s 0 0 (uvA G)) (F0 m 12 ls []) := by
  intro n
  induction n with
  | zero => intro σ x1 x2 H locs ls V hl h; cases h
  | succ n ih =>
    intro σ x1 x2 H locs ls V hl h
    rw [lp_X0_trace_12] at h
    refine r_iln X dX0_trace_12 rfl (lv_at hl 2 rfl) ?_
    refine r_aln X dX0_trace_13 rfl (lv_at hl 0 rfl) ?_
    refine r_gr X Y V ci_0 kd_55 0 rfl rfl (by decide) rfl rfl wd_311 dX0_trace_14 ?_
    refine r_gi (kI := 3) X Y V ci_4 kd_10 3 rfl (by decide) rfl rfl wd_104 dX0_trace_17 ?_
    refine r_cge (cx := wI x2) (cy := wI (σ 10 3)) (tgt := 71) X rfl rfl dX0_trace_20 (by decide) (fun c2 => ?_) (fun c2 => ?_)
    · replace h := ite_t c2 h
      refine r_iln X dX0_trace_23 rfl (lv_at hl 1 rfl) ?_
      refine r_aln X dX0_trace_24 rfl (lv_at hl 0 rfl) ?_
      refine r_gr X Y V ci_0 kd_55 1 rfl rfl (by decide) rfl rfl wd_312 dX0_trace_25 ?_
      refine r_iln X dX0_trace_28 rfl (lv_at hl 2 rfl) ?_
      obtain ⟨hiq3, h⟩ := ixA_ex h
      refine r_aal X Y V 1 (by decide) kd_37 rfl ln_37 hiq3 (rf_37 _) dX0_trace_29 ?_
      refine r_gi (kI := 1) X Y V ci_1 (kd_ch hiq3) 1 rfl (by decide) rfl rfl wd_214 dX0_trace_30 ?_
      refine r_cge (cx := wI x1) (cy := wI (σ (38 + 2 * x2) 1)) (tgt := 71) X rfl rfl dX0_trace_33 (by decide) (fun c4 => ?_) (fun c4 => ?_)
      · replace h := ite_t c4 h
        refine r_aln X dX0_trace_36 rfl (lv_at hl 0 rfl) ?_
        refine r_gr X Y V ci_0 kd_55 6 rfl rfl (by decide) rfl rfl wd_317 dX0_trace_37 ?_
        refine r_iln X dX0_trace_40 rfl (lv_at hl 2 rfl) ?_
        refine r_aln X dX0_trace_41 rfl (lv_at hl 0 rfl) ?_
        refine r_gr X Y V ci_0 kd_55 1 rfl rfl (by decide) rfl rfl wd_312 dX0_trace_42 ?_
        refine r_iln X dX0_trace_45 rfl (lv_at hl 2 rfl) ?_
        obtain ⟨hiq5, h⟩ := ixA_ex h
        refine r_aal X Y V 1 (by decide) kd_37 rfl ln_37 hiq5 (rf_37 _) dX0_trace_46 ?_
        refine r_gr X Y V ci_1 (kd_ch hiq5) 0 rfl (rf1_0 (kd_ch hiq5)) (by decide) rfl rfl wd_211 dX0_trace_47 ?_
        refine r_iln X dX0_trace_50 rfl (lv_at hl 1 rfl) ?_
        obtain ⟨v6, hv6, hiv6, h⟩ := rdA_ex h
        refine r_ial X Y V (ka1_0 (kd_ch hiq5)) (ln1_0 (kd_ch hiq5)) hiv6 hv6 dX0_trace_51 ?_
        obtain ⟨σ7, hσ7, hiσ7, h⟩ := wrA_ex h
        refine r_ias X Y V kd_69 ln_69 hiσ7 hσ7 dX0_trace_52 (fun H locs V => ?_)
        refine r_aln X dX0_trace_53 rfl (lv_at hl 0 rfl) ?_
        refine r_gr X Y V ci_0 kd_55 3 rfl rfl (by decide) rfl rfl wd_314 dX0_trace_54 ?_
        refine r_iln X dX0_trace_57 rfl (lv_at hl 2 rfl) ?_
        obtain ⟨hiq8, h⟩ := ixA_ex h
        refine r_aal X Y V 2 (by decide) kd_56 rfl ln_56 hiq8 (rf_56 _) dX0_trace_58 ?_
        refine r_gr X Y V ci_5 (kd_ta hiq8) 4 rfl (rf5_4 (kd_ta hiq8)) (by decide) rfl rfl wd_290 dX0_trace_59 ?_
        refine r_iln X dX0_trace_62 rfl (lv_at hl 1 rfl) ?_
        obtain ⟨v9, hv9, hiv9, h⟩ := rdA_ex h
        refine r_ial X Y V (ka5_4 (kd_ta hiq8)) rfl hiv9 hv9 dX0_trace_63 ?_
        refine r_isn (lv' := [(1, .int (iV v9)), (0, .ref (G.2.2.1 55)), (2, .int (iV x2))]) X dX0_trace_64 rfl hl (by decide) rfl (fun ls hl => ?_)
        refine r_inc (kk := 2) (lv' := [(2, .int (iV (x2 + 1))), (1, .int (iV v9)), (0, .ref (G.2.2.1 55))]) X dX0_trace_65 hl rfl (by decide) rfl (fun ls hl => ?_)
        refine r_goto (tgt := 12) X dX0_trace_68 (by decide) ?_
        exact ih σ7 v9 (x2 + 1) _ _ _ V (lv_sub hl [2, 1, 0] rfl) h
      · replace h := ite_f c4 h
        exact hkx σ  _ _ _ V (lv_sub hl [] rfl) h
    · replace h := ite_f c2 h
      exact hkx σ  _ _ _ V (lv_sub hl [] rfl) h

set_option maxRecDepth 100000 in
set_option maxHeartbeats 4000000 in
theorem c_X0_trace (l : Launch) (G : UG) (σ : St)  (r : Int) (σ' : St)  (h : f_X0_trace σ = some (r, σ')) : Met l yX0_trace (.code yX0_trace cX0_trace 3 (Option.none : Option Jvm.ClassFile.FieldType) :: TB) { frames := 0, cells := 0, slots := 0, locals := 0 } (uvPc G σ [.ref (G.2.2.1 55)]) (uvQv G σ') 0 0 (uvA G) := by
  unfold f_X0_trace at h
  refine r_met (own := RX0) (lv := [(0, .ref (G.2.2.1 55))]) (by decide) rfl (Nat.le_of_ble_eq_true rfl) rfl ?_
  intro p e s m below meth c ls X Y V hl
  have go : ∀ (args : Array Value) (H : Heap) (locs : List Loc), uvCx p m c cX0_trace 3 RX0 s args meth (Option.none : Option Jvm.ClassFile.FieldType) → uvWo G σ s H locs → W p l e { frames := 0, cells := 0, slots := 0, locals := 0 } s m args below meth c H locs 0 0 (MQ below (uvQv G σ') args s 0 0 (uvA G)) (F0 m 0 ls []) := by
    intro args H locs X V
    refine r_aln X dX0_trace_0 rfl (lv_at hl 0 rfl) ?_
    refine r_gr X Y V ci_0 kd_55 4 rfl rfl (by decide) rfl rfl wd_315 dX0_trace_1 ?_
    refine r_gr X Y V ci_5 kd_57 4 rfl rfl (by decide) rfl rfl wd_290 dX0_trace_4 ?_
    refine r_ic X dX0_trace_7 ?_
    obtain ⟨v1, hv1, hiv1, h⟩ := rdA_ex h
    refine r_ial X Y V kd_62 ln_62 hiv1 hv1 dX0_trace_8 ?_
    refine r_isn (lv' := [(1, .int (iV v1)), (0, .ref (G.2.2.1 55))]) X dX0_trace_9 rfl hl (by decide) rfl (fun ls hl => ?_)
    refine r_ic X dX0_trace_10 ?_
    refine r_isn (lv' := [(2, .int (iV 0)), (1, .int (iV v1)), (0, .ref (G.2.2.1 55))]) X dX0_trace_11 rfl hl (by decide) rfl (fun ls hl => ?_)
    refine wl_X0_trace_12 X Y   r σ' _ (fun σ10  H locs ls V hl h => ?_) 1000 σ v1 0 _ _ _ V (lv_sub hl [2, 1, 0] rfl) h
    exact r_rv X V (so2 h).2 dX0_trace_71
  exact go _ _ _ X V

set_option maxRecDepth 100000 in
set_option maxHeartbeats 4000000 in
theorem c_X0_leastPrice (l : Launch) (G : UG) (σ0 : St)  (r : Int)  (h : f_X0_leastPrice σ0 = some r) : Met l yX0_leastPrice (.code yX0_leastPrice cX0_leastPrice 1 (Option.some Jvm.ClassFile.FieldType.int) :: TB) { frames := 0, cells := 0, slots := 0, locals := 0 } (uvPc G σ0 [.ref (G.2.2.1 55)]) (uvQi G r σ0) 0 0 (uvA G) := by
  unfold f_X0_leastPrice at h
  refine r_met (own := RX0) (lv := [(0, .ref (G.2.2.1 55))]) (by decide) rfl (Nat.le_of_ble_eq_true rfl) rfl ?_
  intro p e s m below meth c ls X Y V hl
  have go : ∀ (args : Array Value) (H : Heap) (locs : List Loc), uvCx p m c cX0_leastPrice 1 RX0 s args meth (Option.some Jvm.ClassFile.FieldType.int) → uvWo G σ0 s H locs → W p l e { frames := 0, cells := 0, slots := 0, locals := 0 } s m args below meth c H locs 0 0 (MQ below (uvQi G r σ0) args s 0 0 (uvA G)) (F0 m 0 ls []) := by
    intro args H locs X V
    refine r_aln X dX0_leastPrice_0 rfl (lv_at hl 0 rfl) ?_
    refine r_gr X Y V ci_0 kd_55 4 rfl rfl (by decide) rfl rfl wd_315 dX0_leastPrice_1 ?_
    refine r_gr X Y V ci_5 kd_57 0 rfl rfl (by decide) rfl rfl wd_282 dX0_leastPrice_4 ?_
    refine r_ic X dX0_leastPrice_7 ?_
    obtain ⟨v1, hv1, hiv1, h⟩ := rdA_ex h
    refine r_ial X Y V kd_58 ln_58 hiv1 hv1 dX0_leastPrice_8 ?_
    exact r_ri X V (so1 h) rfl dX0_leastPrice_9
  exact go _ _ _ X V

set_option maxRecDepth 100000 in
set_option maxHeartbeats 4000000 in
theorem c_X0_secondPrice (l : Launch) (G : UG) (σ0 : St)  (r : Int)  (h : f_X0_secondPrice σ0 = some r) : Met l yX0_secondPrice (.code yX0_secondPrice cX0_secondPrice 1 (Option.some Jvm.ClassFile.FieldType.int) :: TB) { frames := 0, cells := 0, slots := 0, locals := 0 } (uvPc G σ0 [.ref (G.2.2.1 55)]) (uvQi G r σ0) 0 0 (uvA G) := by
  unfold f_X0_secondPrice at h
  refine r_met (own := RX0) (lv := [(0, .ref (G.2.2.1 55))]) (by decide) rfl (Nat.le_of_ble_eq_true rfl) rfl ?_
  intro p e s m below meth c ls X Y V hl
  have go : ∀ (args : Array Value) (H : Heap) (locs : List Loc), uvCx p m c cX0_secondPrice 1 RX0 s args meth (Option.some Jvm.ClassFile.FieldType.int) → uvWo G σ0 s H locs → W p l e { frames := 0, cells := 0, slots := 0, locals := 0 } s m args below meth c H locs 0 0 (MQ below (uvQi G r σ0) args s 0 0 (uvA G)) (F0 m 0 ls []) := by
    intro args H locs X V
    refine r_aln X dX0_secondPrice_0 rfl (lv_at hl 0 rfl) ?_
    refine r_gr X Y V ci_0 kd_55 4 rfl rfl (by decide) rfl rfl wd_315 dX0_secondPrice_1 ?_
    refine r_gr X Y V ci_5 kd_57 1 rfl rfl (by decide) rfl rfl wd_284 dX0_secondPrice_4 ?_
    refine r_ic X dX0_secondPrice_7 ?_
    obtain ⟨v1, hv1, hiv1, h⟩ := rdA_ex h
    refine r_ial X Y V kd_59 ln_59 hiv1 hv1 dX0_secondPrice_8 ?_
    refine r_ldc X (n := 1000000) wd_794 (by decide) dX0_secondPrice_9 ?_
    refine r_cge (cx := wI v1) (cy := 1000000) (tgt := 26) X rfl rfl dX0_secondPrice_11 (by decide) (fun c2 => ?_) (fun c2 => ?_)
    · replace h := ite_t c2 h
      refine r_aln X dX0_secondPrice_14 rfl (lv_at hl 0 rfl) ?_
      refine r_gr X Y V ci_0 kd_55 4 rfl rfl (by decide) rfl rfl wd_315 dX0_secondPrice_15 ?_
      refine r_gr X Y V ci_5 kd_57 1 rfl rfl (by decide) rfl rfl wd_284 dX0_secondPrice_18 ?_
      refine r_ic X dX0_secondPrice_21 ?_
      obtain ⟨v3, hv3, hiv3, h⟩ := rdA_ex h
      refine r_ial X Y V kd_59 ln_59 hiv3 hv3 dX0_secondPrice_22 ?_
      refine r_goto (tgt := 27) X dX0_secondPrice_23 (by decide) ?_
      exact r_ri X V (so1 h) rfl dX0_secondPrice_27
    · replace h := ite_f c2 h
      refine r_ic X dX0_secondPrice_26 ?_
      exact r_ri X V (so1 h) rfl dX0_secondPrice_27
  exact go _ _ _ X V

set_option maxRecDepth 100000 in
set_option maxHeartbeats 4000000 in
theorem c_X0_mostPrice (l : Launch) (G : UG) (σ0 : St)  (r : Int)  (h : f_X0_mostPrice σ0 = some r) : Met l yX0_mostPrice (.code yX0_mostPrice cX0_mostPrice 1 (Option.some Jvm.ClassFile.FieldType.int) :: TB) { frames := 0, cells := 0, slots := 0, locals := 0 } (uvPc G σ0 [.ref (G.2.2.1 55)]) (uvQi G r σ0) 0 0 (uvA G) := by
  unfold f_X0_mostPrice at h
  refine r_met (own := RX0) (lv := [(0, .ref (G.2.2.1 55))]) (by decide) rfl (Nat.le_of_ble_eq_true rfl) rfl ?_
  intro p e s m below meth c ls X Y V hl
  have go : ∀ (args : Array Value) (H : Heap) (locs : List Loc), uvCx p m c cX0_mostPrice 1 RX0 s args meth (Option.some Jvm.ClassFile.FieldType.int) → uvWo G σ0 s H locs → W p l e { frames := 0, cells := 0, slots := 0, locals := 0 } s m args below meth c H locs 0 0 (MQ below (uvQi G r σ0) args s 0 0 (uvA G)) (F0 m 0 ls []) := by
    intro args H locs X V
    refine r_aln X dX0_mostPrice_0 rfl (lv_at hl 0 rfl) ?_
    refine r_gr X Y V ci_0 kd_55 4 rfl rfl (by decide) rfl rfl wd_315 dX0_mostPrice_1 ?_
    refine r_gr X Y V ci_5 kd_57 2 rfl rfl (by decide) rfl rfl wd_286 dX0_mostPrice_4 ?_
    refine r_ic X dX0_mostPrice_7 ?_
    obtain ⟨v1, hv1, hiv1, h⟩ := rdA_ex h
    refine r_ial X Y V kd_60 ln_60 hiv1 hv1 dX0_mostPrice_8 ?_
    exact r_ri X V (so1 h) rfl dX0_mostPrice_9
  exact go _ _ _ X V

set_option maxRecDepth 100000 in
set_option maxHeartbeats 4000000 in
theorem c_X0_waysOfLeast (l : Launch) (G : UG) (σ0 : St)  (r : Int)  (h : f_X0_waysOfLeast σ0 = some r) : Met l yX0_waysOfLeast (.code yX0_waysOfLeast cX0_waysOfLeast 1 (Option.some Jvm.ClassFile.FieldType.int) :: TB) { frames := 0, cells := 0, slots := 0, locals := 0 } (uvPc G σ0 [.ref (G.2.2.1 55)]) (uvQi G r σ0) 0 0 (uvA G) := by
  unfold f_X0_waysOfLeast at h
  refine r_met (own := RX0) (lv := [(0, .ref (G.2.2.1 55))]) (by decide) rfl (Nat.le_of_ble_eq_true rfl) rfl ?_
  intro p e s m below meth c ls X Y V hl
  have go : ∀ (args : Array Value) (H : Heap) (locs : List Loc), uvCx p m c cX0_waysOfLeast 1 RX0 s args meth (Option.some Jvm.ClassFile.FieldType.int) → uvWo G σ0 s H locs → W p l e { frames := 0, cells := 0, slots := 0, locals := 0 } s m args below meth c H locs 0 0 (MQ below (uvQi G r σ0) args s 0 0 (uvA G)) (F0 m 0 ls []) := by
    intro args H locs X V
    refine r_aln X dX0_waysOfLeast_0 rfl (lv_at hl 0 rfl) ?_
    refine r_gr X Y V ci_0 kd_55 4 rfl rfl (by decide) rfl rfl wd_315 dX0_waysOfLeast_1 ?_
    refine r_gr X Y V ci_5 kd_57 3 rfl rfl (by decide) rfl rfl wd_288 dX0_waysOfLeast_4 ?_
    refine r_ic X dX0_waysOfLeast_7 ?_
    obtain ⟨v1, hv1, hiv1, h⟩ := rdA_ex h
    refine r_ial X Y V kd_61 ln_61 hiv1 hv1 dX0_waysOfLeast_8 ?_
    exact r_ri X V (so1 h) rfl dX0_waysOfLeast_9
  exact go _ _ _ X V

set_option maxRecDepth 100000 in
set_option maxHeartbeats 4000000 in
theorem wl_X0_pathFollowers_4 {p : Program} {l : Launch} {e : Env} {s : State} {m : MethodId} {args : Array Value} {below : List Frame} {meth : Method} {c : Code} {G : UG} (X : uvCx p m c cX0_pathFollowers 4 RX0 s args meth (Option.some Jvm.ClassFile.FieldType.int)) (Y : uvGd G s s.heap) (σ0 : St)   (r : Int) (kx : Int → Option Int) (hkx : ∀ (x2 : Int) (H : Heap) (locs : List Loc) (ls : Array Slot), uvWo G σ0 s H locs → lv_has ls 4 [(2, .int (iV x2))] → kx x2 = some r → W p l e { frames := 0, cells := 0, slots := 0, locals := 0 } s m args below meth c H locs 0 0 (MQ below (uvQi G r σ0) args s 0 0 (uvA G)) (F0 m 46 ls [])) : ∀ (n : Nat) (x2 : Int) (x3 : Int) (H : Heap) (locs : List Loc) (ls : Array Slot), uvWo G σ0 s H locs → lv_has ls 4 [(0, .ref (G.2.2.1 55)), (1, .ref (G.2.2.1 1)), (2, .int (iV x2)), (3, .int (iV x3))] → lp_X0_pathFollowers_4 σ0 kx n x2 x3 = some r → W p l e { frames := 0, cells := 0, slots := 0, locals := 0 } s m args below meth c H locs 0 0 (MQ below (uvQi G r σ0) args s 0 0 (uvA G)) (F0 m 4 ls []) := by
  intro n
  induction n with
  | zero => intro x2 x3 H locs ls V hl h; cases h
  | succ n ih =>
    intro x2 x3 H locs ls V hl h
    rw [lp_X0_pathFollowers_4] at h
    refine r_iln X dX0_pathFollowers_4 rfl (lv_at hl 3 rfl) ?_
    refine r_aln X dX0_pathFollowers_5 rfl (lv_at hl 0 rfl) ?_
    refine r_gr X Y V ci_0 kd_55 0 rfl rfl (by decide) rfl rfl wd_311 dX0_pathFollowers_6 ?_
    refine r_gi (kI := 3) X Y V ci_4 kd_10 3 rfl (by decide) rfl rfl wd_104 dX0_pathFollowers_9 ?_
    refine r_cge (cx := wI x3) (cy := wI (σ0 10 3)) (tgt := 46) X rfl rfl dX0_pathFollowers_12 (by decide) (fun c1 => ?_) (fun c1 => ?_)
    · replace h := ite_t c1 h
      refine r_aln X dX0_pathFollowers_15 rfl (lv_at hl 1 rfl) ?_
      refine r_gr X Y V ci_8 kd_1 6 rfl rfl (by decide) rfl rfl wd_61 dX0_pathFollowers_16 ?_
      refine r_aln X dX0_pathFollowers_19 rfl (lv_at hl 0 rfl) ?_
      refine r_gr X Y V ci_0 kd_55 6 rfl rfl (by decide) rfl rfl wd_317 dX0_pathFollowers_20 ?_
      refine r_iln X dX0_pathFollowers_23 rfl (lv_at hl 3 rfl) ?_
      refine r_ic X dX0_pathFollowers_24 ?_
      refine r_isub X dX0_pathFollowers_25 ?_
      obtain ⟨v2, hv2, hiv2, h⟩ := rdA_ex h
      refine r_ial X Y V kd_69 ln_69 hiv2 hv2 dX0_pathFollowers_26 ?_
      obtain ⟨v3, hv3, hiv3, h⟩ := rdA_ex h
      refine r_ial X Y V kd_8 ln_8 hiv3 hv3 dX0_pathFollowers_27 ?_
      refine r_aln X dX0_pathFollowers_28 rfl (lv_at hl 0 rfl) ?_
      refine r_gr X Y V ci_0 kd_55 6 rfl rfl (by decide) rfl rfl wd_317 dX0_pathFollowers_29 ?_
      refine r_iln X dX0_pathFollowers_32 rfl (lv_at hl 3 rfl) ?_
      obtain ⟨v4, hv4, hiv4, h⟩ := rdA_ex h
      refine r_ial X Y V kd_69 ln_69 hiv4 hv4 dX0_pathFollowers_33 ?_
      refine r_cne (cx := wI v3) (cy := wI v4) (tgt := 40) X rfl rfl dX0_pathFollowers_34 (by decide) (fun c5 => ?_) (fun c5 => ?_)
      · replace h := ite_t c5 h
        refine r_inc (kk := 2) (lv' := [(2, .int (iV (x2 + 1))), (0, .ref (G.2.2.1 55)), (1, .ref (G.2.2.1 1)), (3, .int (iV x3))]) X dX0_pathFollowers_37 hl rfl (by decide) rfl (fun ls hl => ?_)
        refine r_inc (kk := 3) (lv' := [(3, .int (iV (x3 + 1))), (2, .int (iV (x2 + 1))), (0, .ref (G.2.2.1 55)), (1, .ref (G.2.2.1 1))]) X dX0_pathFollowers_40 hl rfl (by decide) rfl (fun ls hl => ?_)
        refine r_goto (tgt := 4) X dX0_pathFollowers_43 (by decide) ?_
        exact ih (x2 + 1) (x3 + 1) _ _ _ V (lv_sub hl [2, 3, 1, 0] rfl) h
      · replace h := ite_f c5 h
        refine r_inc (kk := 3) (lv' := [(3, .int (iV (x3 + 1))), (0, .ref (G.2.2.1 55)), (1, .ref (G.2.2.1 1)), (2, .int (iV x2))]) X dX0_pathFollowers_40 hl rfl (by decide) rfl (fun ls hl => ?_)
        refine r_goto (tgt := 4) X dX0_pathFollowers_43 (by decide) ?_
        exact ih x2 (x3 + 1) _ _ _ V (lv_sub hl [1, 2, 3, 0] rfl) h
    · replace h := ite_f c1 h
      exact hkx x2 _ _ _ V (lv_sub hl [2] rfl) h

set_option maxRecDepth 100000 in
set_option maxHeartbeats 4000000 in
theorem c_X0_pathFollowers (l : Launch) (G : UG) (σ0 : St)  (r : Int)  (h : f_X0_pathFollowers σ0 = some r) : Met l yX0_pathFollowers (.code yX0_pathFollowers cX0_pathFollowers 4 (Option.some Jvm.ClassFile.FieldType.int) :: TB) { frames := 0, cells := 0, slots := 0, locals := 0 } (uvPc G σ0 [.ref (G.2.2.1 55), .ref (G.2.2.1 1)]) (uvQi G r σ0) 0 0 (uvA G) := by
  unfold f_X0_pathFollowers at h
  refine r_met (own := RX0) (lv := [(0, .ref (G.2.2.1 55)), (1, .ref (G.2.2.1 1))]) (by decide) rfl (Nat.le_of_ble_eq_true rfl) rfl ?_
  intro p e s m below meth c ls X Y V hl
  have go : ∀ (args : Array Value) (H : Heap) (locs : List Loc), uvCx p m c cX0_pathFollowers 4 RX0 s args meth (Option.some Jvm.ClassFile.FieldType.int) → uvWo G σ0 s H locs → W p l e { frames := 0, cells := 0, slots := 0, locals := 0 } s m args below meth c H locs 0 0 (MQ below (uvQi G r σ0) args s 0 0 (uvA G)) (F0 m 0 ls []) := by
    intro args H locs X V
    refine r_ic X dX0_pathFollowers_0 ?_
    refine r_isn (lv' := [(2, .int (iV 0)), (0, .ref (G.2.2.1 55)), (1, .ref (G.2.2.1 1))]) X dX0_pathFollowers_1 rfl hl (by decide) rfl (fun ls hl => ?_)
    refine r_ic X dX0_pathFollowers_2 ?_
    refine r_isn (lv' := [(3, .int (iV 1)), (2, .int (iV 0)), (0, .ref (G.2.2.1 55)), (1, .ref (G.2.2.1 1))]) X dX0_pathFollowers_3 rfl hl (by decide) rfl (fun ls hl => ?_)
    refine wl_X0_pathFollowers_4 X Y σ0   r _ (fun y6 H locs ls V hl h => ?_) 1000 0 1 _ _ _ V (lv_sub hl [2, 3, 1, 0] rfl) h
    refine r_iln X dX0_pathFollowers_46 rfl (lv_at hl 0 rfl) ?_
    exact r_ri X V (so1 h) rfl dX0_pathFollowers_47
  exact go _ _ _ X V

set_option maxRecDepth 100000 in
set_option maxHeartbeats 4000000 in
theorem wl_X0_pathFits_4 {p : Program} {l : Launch} {e : Env} {s : State} {m : MethodId} {args : Array Value} {below : List Frame} {meth : Method} {c : Code} {G : UG} (X : uvCx p m c cX0_pathFits 4 RX0 s args meth (Option.some Jvm.ClassFile.FieldType.int)) (Y : uvGd G s s.heap) (σ0 : St) (x1 : Int)  (r : Int) (kx : Int → Option Int) (hkx : ∀ (x2 : Int) (H : Heap) (locs : List Loc) (ls : Array Slot), uvWo G σ0 s H locs → lv_has ls 4 [(2, .int (iV x2))] → kx x2 = some r → W p l e { frames := 3, cells := 0, slots := 0, locals := 70 } s m args below meth c H locs 0 0 (MQ below (uvQi G r σ0) args s 0 0 (uvA G)) (F0 m 39 ls [])) : ∀ (n : Nat) (x2 : Int) (x3 : Int) (H : Heap) (locs : List Loc) (ls : Array Slot), uvWo G σ0 s H locs → lv_has ls 4 [(0, .ref (G.2.2.1 55)), (1, .int (iV x1)), (2, .int (iV x2)), (3, .int (iV x3))] → lp_X0_pathFits_4 σ0 x1 kx n x2 x3 = some r → W p l e { frames := 3, cells := 0, slots := 0, locals := 70 } s m args below meth c H locs 0 0 (MQ below (uvQi G r σ0) args s 0 0 (uvA G)) (F0 m 4 ls []) := by
  intro n
  induction n with
  | zero => intro x2 x3 H locs ls V hl h; cases h
  | succ n ih =>
    intro x2 x3 H locs ls V hl h
    rw [lp_X0_pathFits_4] at h
    refine r_iln X dX0_pathFits_4 rfl (lv_at hl 3 rfl) ?_
    refine r_aln X dX0_pathFits_5 rfl (lv_at hl 0 rfl) ?_
    refine r_gr X Y V ci_0 kd_55 0 rfl rfl (by decide) rfl rfl wd_311 dX0_pathFits_6 ?_
    refine r_gi (kI := 3) X Y V ci_4 kd_10 3 rfl (by decide) rfl rfl wd_104 dX0_pathFits_9 ?_
    refine r_cge (cx := wI x3) (cy := wI (σ0 10 3)) (tgt := 39) X rfl rfl dX0_pathFits_12 (by decide) (fun c1 => ?_) (fun c1 => ?_)
    · replace h := ite_t c1 h
      refine r_iln X dX0_pathFits_15 rfl (lv_at hl 2 rfl) ?_
      refine r_aln X dX0_pathFits_16 rfl (lv_at hl 0 rfl) ?_
      refine r_gr X Y V ci_0 kd_55 2 rfl rfl (by decide) rfl rfl wd_313 dX0_pathFits_17 ?_
      refine r_iln X dX0_pathFits_20 rfl (lv_at hl 1 rfl) ?_
      refine r_aln X dX0_pathFits_21 rfl (lv_at hl 0 rfl) ?_
      refine r_gr X Y V ci_0 kd_55 6 rfl rfl (by decide) rfl rfl wd_317 dX0_pathFits_22 ?_
      refine r_iln X dX0_pathFits_25 rfl (lv_at hl 3 rfl) ?_
      obtain ⟨v2, hv2, hiv2, h⟩ := rdA_ex h
      refine r_ial X Y V kd_69 ln_69 hiv2 hv2 dX0_pathFits_26 ?_
      refine r_iln X dX0_pathFits_27 rfl (lv_at hl 3 rfl) ?_
      obtain ⟨v3, hv3, h⟩ := bd1_ex h
      refine r_ki V (r_runV (As := [.int (iV x1), .int (iV v2), .int (iV x3)]) (rest := [.int (iV x2)]) X Y V (c_X3_ofFit l G σ0 x1 v2 x3 _  hv3) mv_X3_ofFit wd_755 ci_3 kd_54 ⟨rfl, rfl, Nat.le_of_ble_eq_true rfl, Nat.le_of_ble_eq_true rfl⟩ rfl rfl hl.1 (Nat.le_of_ble_eq_true rfl) ⟨Nat.le_refl 0, Nat.le_refl 0⟩ dX0_pathFits_28) (fun H locs V => ?_)
      refine r_iadd X dX0_pathFits_31 ?_
      obtain ⟨v4, hv4, h⟩ := bnd_ex h
      refine r_eqI hv4 ?_
      refine r_isn (lv' := [(2, .int (iV v4)), (0, .ref (G.2.2.1 55)), (1, .int (iV x1)), (3, .int (iV x3))]) X dX0_pathFits_32 rfl hl (by decide) rfl (fun ls hl => ?_)
      refine r_inc (kk := 3) (lv' := [(3, .int (iV (x3 + 1))), (2, .int (iV v4)), (0, .ref (G.2.2.1 55)), (1, .int (iV x1))]) X dX0_pathFits_33 hl rfl (by decide) rfl (fun ls hl => ?_)
      refine r_goto (tgt := 4) X dX0_pathFits_36 (by decide) ?_
      exact ih v4 (x3 + 1) _ _ _ V (lv_sub hl [2, 3, 1, 0] rfl) h
    · replace h := ite_f c1 h
      exact hkx x2 _ _ _ V (lv_sub hl [2] rfl) h

set_option maxRecDepth 100000 in
set_option maxHeartbeats 4000000 in
theorem c_X0_pathFits (l : Launch) (G : UG) (σ0 : St) (a1 : Int) (r : Int)  (h : f_X0_pathFits σ0 a1 = some r) : Met l yX0_pathFits (.code yX0_pathFits cX0_pathFits 4 (Option.some Jvm.ClassFile.FieldType.int) :: TB) { frames := 3, cells := 0, slots := 0, locals := 70 } (uvPc G σ0 [.ref (G.2.2.1 55), .int (iV a1)]) (uvQi G r σ0) 0 0 (uvA G) := by
  unfold f_X0_pathFits at h
  refine r_met (own := RX0) (lv := [(0, .ref (G.2.2.1 55)), (1, .int (iV a1))]) (by decide) rfl (Nat.le_of_ble_eq_true rfl) rfl ?_
  intro p e s m below meth c ls X Y V hl
  have go : ∀ (args : Array Value) (H : Heap) (locs : List Loc), uvCx p m c cX0_pathFits 4 RX0 s args meth (Option.some Jvm.ClassFile.FieldType.int) → uvWo G σ0 s H locs → W p l e { frames := 3, cells := 0, slots := 0, locals := 70 } s m args below meth c H locs 0 0 (MQ below (uvQi G r σ0) args s 0 0 (uvA G)) (F0 m 0 ls []) := by
    intro args H locs X V
    refine r_ic X dX0_pathFits_0 ?_
    refine r_isn (lv' := [(2, .int (iV 0)), (0, .ref (G.2.2.1 55)), (1, .int (iV a1))]) X dX0_pathFits_1 rfl hl (by decide) rfl (fun ls hl => ?_)
    refine r_ic X dX0_pathFits_2 ?_
    refine r_isn (lv' := [(3, .int (iV 0)), (2, .int (iV 0)), (0, .ref (G.2.2.1 55)), (1, .int (iV a1))]) X dX0_pathFits_3 rfl hl (by decide) rfl (fun ls hl => ?_)
    refine wl_X0_pathFits_4 X Y σ0 a1  r _ (fun y5 H locs ls V hl h => ?_) 1000 0 0 _ _ _ V (lv_sub hl [2, 3, 1, 0] rfl) h
    refine r_iln X dX0_pathFits_39 rfl (lv_at hl 0 rfl) ?_
    exact r_ri X V (so1 h) rfl dX0_pathFits_40
  exact go _ _ _ X V

set_option maxRecDepth 100000 in
set_option maxHeartbeats 4000000 in
theorem wl_X0_pathJoints_4 {p : Program} {l : Launch} {e : Env} {s : State} {m : MethodId} {args : Array Value} {below : List Frame} {meth : Method} {c : Code} {G : UG} (X : uvCx p m c cX0_pathJoints 3 RX0 s args meth (Option.some Jvm.ClassFile.FieldType.int)) (Y : uvGd G s s.heap) (σ0 : St)   (r : Int) (kx : Int → Option Int) (hkx : ∀ (x1 : Int) (H : Heap) (locs : List Loc) (ls : Array Slot), uvWo G σ0 s H locs → lv_has ls 3 [(1, .int (iV x1))] → kx x1 = some r → W p l e { frames := 2, cells := 0, slots := 0, locals := 44 } s m args below meth c H locs 0 0 (MQ below (uvQi G r σ0) args s 0 0 (uvA G)) (F0 m 45 ls [])) : ∀ (n : Nat) (x1 : Int) (x2 : Int) (H : Heap) (locs : List Loc) (ls : Array Slot), uvWo G σ0 s H locs → lv_has ls 3 [(0, .ref (G.2.2.1 55)), (1, .int (iV x1)), (2, .int (iV x2))] → lp_X0_pathJoints_4 σ0 kx n x1 x2 = some r → W p l e { frames := 2, cells := 0, slots := 0, locals := 44 } s m args below meth c H locs 0 0 (MQ below (uvQi G r σ0) args s 0 0 (uvA G)) (F0 m 4 ls []) := by
  intro n
  induction n with
  | zero => intro x1 x2 H locs ls V hl h; cases h
  | succ n ih =>
    intro x1 x2 H locs ls V hl h
    rw [lp_X0_pathJoints_4] at h
    refine r_iln X dX0_pathJoints_4 rfl (lv_at hl 2 rfl) ?_
    refine r_aln X dX0_pathJoints_5 rfl (lv_at hl 0 rfl) ?_
    refine r_gr X Y V ci_0 kd_55 0 rfl rfl (by decide) rfl rfl wd_311 dX0_pathJoints_6 ?_
    refine r_gi (kI := 3) X Y V ci_4 kd_10 3 rfl (by decide) rfl rfl wd_104 dX0_pathJoints_9 ?_
    refine r_cge (cx := wI x2) (cy := wI (σ0 10 3)) (tgt := 45) X rfl rfl dX0_pathJoints_12 (by decide) (fun c1 => ?_) (fun c1 => ?_)
    · replace h := ite_t c1 h
      refine r_iln X dX0_pathJoints_15 rfl (lv_at hl 1 rfl) ?_
      refine r_aln X dX0_pathJoints_16 rfl (lv_at hl 0 rfl) ?_
      refine r_gr X Y V ci_0 kd_55 2 rfl rfl (by decide) rfl rfl wd_313 dX0_pathJoints_17 ?_
      refine r_aln X dX0_pathJoints_20 rfl (lv_at hl 0 rfl) ?_
      refine r_gr X Y V ci_0 kd_55 6 rfl rfl (by decide) rfl rfl wd_317 dX0_pathJoints_21 ?_
      refine r_iln X dX0_pathJoints_24 rfl (lv_at hl 2 rfl) ?_
      refine r_ic X dX0_pathJoints_25 ?_
      refine r_isub X dX0_pathJoints_26 ?_
      obtain ⟨v2, hv2, hiv2, h⟩ := rdA_ex h
      refine r_ial X Y V kd_69 ln_69 hiv2 hv2 dX0_pathJoints_27 ?_
      refine r_aln X dX0_pathJoints_28 rfl (lv_at hl 0 rfl) ?_
      refine r_gr X Y V ci_0 kd_55 6 rfl rfl (by decide) rfl rfl wd_317 dX0_pathJoints_29 ?_
      refine r_iln X dX0_pathJoints_32 rfl (lv_at hl 2 rfl) ?_
      obtain ⟨v3, hv3, hiv3, h⟩ := rdA_ex h
      refine r_ial X Y V kd_69 ln_69 hiv3 hv3 dX0_pathJoints_33 ?_
      obtain ⟨v4, hv4, h⟩ := bd1_ex h
      refine r_ki V (r_runV (As := [.int (iV v2), .int (iV v3)]) (rest := [.int (iV x1)]) X Y V (c_X3_ofJoint l G σ0 v2 v3 _  hv4) mv_X3_ofJoint wd_765 ci_3 kd_54 ⟨rfl, rfl, Nat.le_of_ble_eq_true rfl, Nat.le_of_ble_eq_true rfl⟩ rfl rfl hl.1 (Nat.le_of_ble_eq_true rfl) ⟨Nat.le_refl 0, Nat.le_refl 0⟩ dX0_pathJoints_34) (fun H locs V => ?_)
      refine r_iadd X dX0_pathJoints_37 ?_
      obtain ⟨v5, hv5, h⟩ := bnd_ex h
      refine r_eqI hv5 ?_
      refine r_isn (lv' := [(1, .int (iV v5)), (0, .ref (G.2.2.1 55)), (2, .int (iV x2))]) X dX0_pathJoints_38 rfl hl (by decide) rfl (fun ls hl => ?_)
      refine r_inc (kk := 2) (lv' := [(2, .int (iV (x2 + 1))), (1, .int (iV v5)), (0, .ref (G.2.2.1 55))]) X dX0_pathJoints_39 hl rfl (by decide) rfl (fun ls hl => ?_)
      refine r_goto (tgt := 4) X dX0_pathJoints_42 (by decide) ?_
      exact ih v5 (x2 + 1) _ _ _ V (lv_sub hl [2, 1, 0] rfl) h
    · replace h := ite_f c1 h
      exact hkx x1 _ _ _ V (lv_sub hl [1] rfl) h

set_option maxRecDepth 100000 in
set_option maxHeartbeats 4000000 in
theorem c_X0_pathJoints (l : Launch) (G : UG) (σ0 : St)  (r : Int)  (h : f_X0_pathJoints σ0 = some r) : Met l yX0_pathJoints (.code yX0_pathJoints cX0_pathJoints 3 (Option.some Jvm.ClassFile.FieldType.int) :: TB) { frames := 2, cells := 0, slots := 0, locals := 44 } (uvPc G σ0 [.ref (G.2.2.1 55)]) (uvQi G r σ0) 0 0 (uvA G) := by
  unfold f_X0_pathJoints at h
  refine r_met (own := RX0) (lv := [(0, .ref (G.2.2.1 55))]) (by decide) rfl (Nat.le_of_ble_eq_true rfl) rfl ?_
  intro p e s m below meth c ls X Y V hl
  have go : ∀ (args : Array Value) (H : Heap) (locs : List Loc), uvCx p m c cX0_pathJoints 3 RX0 s args meth (Option.some Jvm.ClassFile.FieldType.int) → uvWo G σ0 s H locs → W p l e { frames := 2, cells := 0, slots := 0, locals := 44 } s m args below meth c H locs 0 0 (MQ below (uvQi G r σ0) args s 0 0 (uvA G)) (F0 m 0 ls []) := by
    intro args H locs X V
    refine r_ic X dX0_pathJoints_0 ?_
    refine r_isn (lv' := [(1, .int (iV 0)), (0, .ref (G.2.2.1 55))]) X dX0_pathJoints_1 rfl hl (by decide) rfl (fun ls hl => ?_)
    refine r_ic X dX0_pathJoints_2 ?_
    refine r_isn (lv' := [(2, .int (iV 1)), (1, .int (iV 0)), (0, .ref (G.2.2.1 55))]) X dX0_pathJoints_3 rfl hl (by decide) rfl (fun ls hl => ?_)
    refine wl_X0_pathJoints_4 X Y σ0   r _ (fun y6 H locs ls V hl h => ?_) 1000 0 1 _ _ _ V (lv_sub hl [2, 1, 0] rfl) h
    refine r_iln X dX0_pathJoints_45 rfl (lv_at hl 0 rfl) ?_
    exact r_ri X V (so1 h) rfl dX0_pathJoints_46
  exact go _ _ _ X V

