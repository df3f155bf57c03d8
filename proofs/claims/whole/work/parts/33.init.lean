set_option maxRecDepth 100000 in
set_option maxHeartbeats 4000000 in
theorem ki_X8_removeAll_8 (l : Launch) (G : UG) : Met l yX8_removeAll (.code yX8_removeAll cX8_removeAll 2 (Option.none : Option Jvm.ClassFile.FieldType) :: TB) { frames := 0, cells := 0, slots := 0, locals := 0 } (uvPk G 10 st_8 [.ref (G.2.2.1 1)]) (uvKv G 10 st_13) 0 0 (uvKA G) := by
  refine k_met (own := RX8) (lv := [(0, .ref (G.2.2.1 1))]) (by decide) rfl (Nat.le_of_ble_eq_true rfl) rfl ?_
  intro p e s m below meth c ls X Y V hl hin
  have go : ∀ (args : Array Value) (H : Heap) (locs : List Loc), uvCx p m c cX8_removeAll 2 RX8 s args meth (Option.none : Option Jvm.ClassFile.FieldType) → uvWk G 10 st_8 s H locs → W p l e { frames := 0, cells := 0, slots := 0, locals := 0 } s m args below meth c H locs 0 0 (MQ below (uvKv G 10 st_13) args s 0 0 (uvKA G)) (F0 m 0 ls []) := by
    intro args H locs X V
    refine r_aln X dX8_removeAll_0 rfl (lv_at hl 0 rfl) ?_
    refine r_ic X dX8_removeAll_1 ?_
    refine k_pi (kI := 8) X Y V ci_8 kd_1 ⟨by decide, by decide⟩ (by decide) 8 rfl (by decide) rfl rfl rfl (tyX8_ok 8 (by decide)) wd_63 (σ' := st_9) rfl dX8_removeAll_2 (fun H locs V => ?_)
    refine r_ic X dX8_removeAll_5 ?_
    refine r_isn (lv' := [(1, .int (iV 0)), (0, .ref (G.2.2.1 1))]) X dX8_removeAll_6 rfl hl (by decide) rfl (fun ls hl => ?_)
    refine r_iln X dX8_removeAll_7 rfl (lv_at hl 0 rfl) ?_
    refine r_ic X dX8_removeAll_8 ?_
    refine r_cge (cx := 0) (cy := 4) (tgt := 25) X rfl rfl dX8_removeAll_9 (by decide) (fun _ => ?_) (fun c => absurd (by decide) c)
    refine r_aln X dX8_removeAll_12 rfl (lv_at hl 1 rfl) ?_
    refine k_gr (kI := 7) (o' := 9) X Y V ci_8 kd_1 ⟨by decide, by decide⟩ 7 rfl (by decide +kernel) (by decide) rfl rfl wd_62 dX8_removeAll_13 ?_
    refine r_iln X dX8_removeAll_16 rfl (lv_at hl 0 rfl) ?_
    refine r_ic X dX8_removeAll_17 ?_
    refine k_ias X Y V kd_9 ⟨by decide, by decide⟩ (by decide) ln_9 ⟨by decide, by decide⟩ (σ' := st_10) rfl dX8_removeAll_18 (fun H locs V => ?_)
    refine r_inc (kk := 0) (lv' := [(1, .int (iV 1)), (0, .ref (G.2.2.1 1))]) X dX8_removeAll_19 hl rfl (by decide) rfl (fun ls hl => ?_)
    refine r_goto (tgt := 7) X dX8_removeAll_22 (by decide) ?_
    refine r_iln X dX8_removeAll_7 rfl (lv_at hl 0 rfl) ?_
    refine r_ic X dX8_removeAll_8 ?_
    refine r_cge (cx := 1) (cy := 4) (tgt := 25) X rfl rfl dX8_removeAll_9 (by decide) (fun _ => ?_) (fun c => absurd (by decide) c)
    refine r_aln X dX8_removeAll_12 rfl (lv_at hl 1 rfl) ?_
    refine k_gr (kI := 7) (o' := 9) X Y V ci_8 kd_1 ⟨by decide, by decide⟩ 7 rfl (by decide +kernel) (by decide) rfl rfl wd_62 dX8_removeAll_13 ?_
    refine r_iln X dX8_removeAll_16 rfl (lv_at hl 0 rfl) ?_
    refine r_ic X dX8_removeAll_17 ?_
    refine k_ias X Y V kd_9 ⟨by decide, by decide⟩ (by decide) ln_9 ⟨by decide, by decide⟩ (σ' := st_11) rfl dX8_removeAll_18 (fun H locs V => ?_)
    refine r_inc (kk := 0) (lv' := [(1, .int (iV 2)), (0, .ref (G.2.2.1 1))]) X dX8_removeAll_19 hl rfl (by decide) rfl (fun ls hl => ?_)
    refine r_goto (tgt := 7) X dX8_removeAll_22 (by decide) ?_
    refine r_iln X dX8_removeAll_7 rfl (lv_at hl 0 rfl) ?_
    refine r_ic X dX8_removeAll_8 ?_
    refine r_cge (cx := 2) (cy := 4) (tgt := 25) X rfl rfl dX8_removeAll_9 (by decide) (fun _ => ?_) (fun c => absurd (by decide) c)
    refine r_aln X dX8_removeAll_12 rfl (lv_at hl 1 rfl) ?_
    refine k_gr (kI := 7) (o' := 9) X Y V ci_8 kd_1 ⟨by decide, by decide⟩ 7 rfl (by decide +kernel) (by decide) rfl rfl wd_62 dX8_removeAll_13 ?_
    refine r_iln X dX8_removeAll_16 rfl (lv_at hl 0 rfl) ?_
    refine r_ic X dX8_removeAll_17 ?_
    refine k_ias X Y V kd_9 ⟨by decide, by decide⟩ (by decide) ln_9 ⟨by decide, by decide⟩ (σ' := st_12) rfl dX8_removeAll_18 (fun H locs V => ?_)
    refine r_inc (kk := 0) (lv' := [(1, .int (iV 3)), (0, .ref (G.2.2.1 1))]) X dX8_removeAll_19 hl rfl (by decide) rfl (fun ls hl => ?_)
    refine r_goto (tgt := 7) X dX8_removeAll_22 (by decide) ?_
    refine r_iln X dX8_removeAll_7 rfl (lv_at hl 0 rfl) ?_
    refine r_ic X dX8_removeAll_8 ?_
    refine r_cge (cx := 3) (cy := 4) (tgt := 25) X rfl rfl dX8_removeAll_9 (by decide) (fun _ => ?_) (fun c => absurd (by decide) c)
    refine r_aln X dX8_removeAll_12 rfl (lv_at hl 1 rfl) ?_
    refine k_gr (kI := 7) (o' := 9) X Y V ci_8 kd_1 ⟨by decide, by decide⟩ 7 rfl (by decide +kernel) (by decide) rfl rfl wd_62 dX8_removeAll_13 ?_
    refine r_iln X dX8_removeAll_16 rfl (lv_at hl 0 rfl) ?_
    refine r_ic X dX8_removeAll_17 ?_
    refine k_ias X Y V kd_9 ⟨by decide, by decide⟩ (by decide) ln_9 ⟨by decide, by decide⟩ (σ' := st_13) rfl dX8_removeAll_18 (fun H locs V => ?_)
    refine r_inc (kk := 0) (lv' := [(1, .int (iV 4)), (0, .ref (G.2.2.1 1))]) X dX8_removeAll_19 hl rfl (by decide) rfl (fun ls hl => ?_)
    refine r_goto (tgt := 7) X dX8_removeAll_22 (by decide) ?_
    refine r_iln X dX8_removeAll_7 rfl (lv_at hl 0 rfl) ?_
    refine r_ic X dX8_removeAll_8 ?_
    refine r_cge (cx := 4) (cy := 4) (tgt := 25) X rfl rfl dX8_removeAll_9 (by decide) (fun c => absurd c (by decide)) (fun _ => ?_)
    exact k_rv X V dX8_removeAll_25
  exact go _ _ _ X V
set_option maxRecDepth 100000 in
set_option maxHeartbeats 4000000 in
theorem ki_X8_init_0 (l : Launch) (G : UG) : Met l yX8_init (.code yX8_init cX8_init 1 (Option.none : Option Jvm.ClassFile.FieldType) :: TB) { frames := 1, cells := 8, slots := 284, locals := 21 } (uvPk G 2 st_0 [.ref (G.2.2.1 1)]) (uvKv G 10 st_13) 8 284 (uvKA G) := by
  refine k_met (own := RX8) (lv := [(0, .ref (G.2.2.1 1))]) (by decide) rfl (Nat.le_of_ble_eq_true rfl) rfl ?_
  intro p e s m below meth c ls X Y V hl hin
  have go : ∀ (args : Array Value) (H : Heap) (locs : List Loc), uvCx p m c cX8_init 1 RX8 s args meth (Option.none : Option Jvm.ClassFile.FieldType) → uvWk G 2 st_0 s H locs → W p l e { frames := 1, cells := 8, slots := 284, locals := 21 } s m args below meth c H locs 0 0 (MQ below (uvKv G 10 st_13) args s 8 284 (uvKA G)) (F0 m 0 ls []) := by
    intro args H locs X V
    refine r_aln X dX8_init_0 rfl (lv_at hl 0 rfl) ?_
    refine k_obj X wd_31 w_obj hl.1 (Nat.le_of_ble_eq_true rfl) (Nat.le_of_ble_eq_true rfl) dX8_init_1 ?_
    refine r_aln X dX8_init_4 rfl (lv_at hl 0 rfl) ?_
    refine r_bp X dX8_init_5 (by decide) ?_
    refine k_newa X Y V kd_2 ln_2 rfl (Nat.le_of_ble_eq_true rfl) (zst_n (zst_mono z_0 (by decide))) wd_85 (Nat.le_of_ble_eq_true rfl) (Nat.le_of_ble_eq_true rfl) dX8_init_7 (fun H V => ?_)
    refine k_pr (kI := 0) X Y V hin ci_8 kd_1 ⟨by decide, by decide⟩ (by decide) (by decide) 0 rfl (by decide) rfl rfl rfl rfl (tyX8_ok 0 (by decide)) (fun _ => rfl) (fun _ => rfl) wd_36 (σ' := st_1) rfl dX8_init_9 (fun H locs V => ?_)
    refine r_aln X dX8_init_12 rfl (lv_at hl 0 rfl) ?_
    refine r_bp X dX8_init_13 (by decide) ?_
    refine k_newa X Y V kd_3 ln_3 rfl (Nat.le_of_ble_eq_true rfl) (zst_n (zst_mono z_1 (by decide))) wd_85 (Nat.le_of_ble_eq_true rfl) (Nat.le_of_ble_eq_true rfl) dX8_init_15 (fun H V => ?_)
    refine k_pr (kI := 1) X Y V hin ci_8 kd_1 ⟨by decide, by decide⟩ (by decide) (by decide) 1 rfl (by decide) rfl rfl rfl rfl (tyX8_ok 1 (by decide)) (fun _ => rfl) (fun _ => rfl) wd_40 (σ' := st_2) rfl dX8_init_17 (fun H locs V => ?_)
    refine r_aln X dX8_init_20 rfl (lv_at hl 0 rfl) ?_
    refine r_bp X dX8_init_21 (by decide) ?_
    refine k_newa X Y V kd_4 ln_4 rfl (Nat.le_of_ble_eq_true rfl) (zst_n (zst_mono z_2 (by decide))) wd_85 (Nat.le_of_ble_eq_true rfl) (Nat.le_of_ble_eq_true rfl) dX8_init_23 (fun H V => ?_)
    refine k_pr (kI := 2) X Y V hin ci_8 kd_1 ⟨by decide, by decide⟩ (by decide) (by decide) 2 rfl (by decide) rfl rfl rfl rfl (tyX8_ok 2 (by decide)) (fun _ => rfl) (fun _ => rfl) wd_44 (σ' := st_3) rfl dX8_init_25 (fun H locs V => ?_)
    refine r_aln X dX8_init_28 rfl (lv_at hl 0 rfl) ?_
    refine r_bp X dX8_init_29 (by decide) ?_
    refine k_newa X Y V kd_5 ln_5 rfl (Nat.le_of_ble_eq_true rfl) (zst_n (zst_mono z_3 (by decide))) wd_85 (Nat.le_of_ble_eq_true rfl) (Nat.le_of_ble_eq_true rfl) dX8_init_31 (fun H V => ?_)
    refine k_pr (kI := 3) X Y V hin ci_8 kd_1 ⟨by decide, by decide⟩ (by decide) (by decide) 3 rfl (by decide) rfl rfl rfl rfl (tyX8_ok 3 (by decide)) (fun _ => rfl) (fun _ => rfl) wd_48 (σ' := st_4) rfl dX8_init_33 (fun H locs V => ?_)
    refine r_aln X dX8_init_36 rfl (lv_at hl 0 rfl) ?_
    refine r_bp X dX8_init_37 (by decide) ?_
    refine k_newa X Y V kd_6 ln_6 rfl (Nat.le_of_ble_eq_true rfl) (zst_n (zst_mono z_4 (by decide))) wd_85 (Nat.le_of_ble_eq_true rfl) (Nat.le_of_ble_eq_true rfl) dX8_init_39 (fun H V => ?_)
    refine k_pr (kI := 4) X Y V hin ci_8 kd_1 ⟨by decide, by decide⟩ (by decide) (by decide) 4 rfl (by decide) rfl rfl rfl rfl (tyX8_ok 4 (by decide)) (fun _ => rfl) (fun _ => rfl) wd_52 (σ' := st_5) rfl dX8_init_41 (fun H locs V => ?_)
    refine r_aln X dX8_init_44 rfl (lv_at hl 0 rfl) ?_
    refine r_bp X dX8_init_45 (by decide) ?_
    refine k_newa X Y V kd_7 ln_7 rfl (Nat.le_of_ble_eq_true rfl) (zst_n (zst_mono z_5 (by decide))) wd_85 (Nat.le_of_ble_eq_true rfl) (Nat.le_of_ble_eq_true rfl) dX8_init_47 (fun H V => ?_)
    refine k_pr (kI := 5) X Y V hin ci_8 kd_1 ⟨by decide, by decide⟩ (by decide) (by decide) 5 rfl (by decide) rfl rfl rfl rfl (tyX8_ok 5 (by decide)) (fun _ => rfl) (fun _ => rfl) wd_56 (σ' := st_6) rfl dX8_init_49 (fun H locs V => ?_)
    refine r_aln X dX8_init_52 rfl (lv_at hl 0 rfl) ?_
    refine r_bp X dX8_init_53 (by decide) ?_
    refine k_newa X Y V kd_8 ln_8 rfl (Nat.le_of_ble_eq_true rfl) (zst_n (zst_mono z_6 (by decide))) wd_85 (Nat.le_of_ble_eq_true rfl) (Nat.le_of_ble_eq_true rfl) dX8_init_55 (fun H V => ?_)
    refine k_pr (kI := 6) X Y V hin ci_8 kd_1 ⟨by decide, by decide⟩ (by decide) (by decide) 6 rfl (by decide) rfl rfl rfl rfl (tyX8_ok 6 (by decide)) (fun _ => rfl) (fun _ => rfl) wd_58 (σ' := st_7) rfl dX8_init_57 (fun H locs V => ?_)
    refine r_aln X dX8_init_60 rfl (lv_at hl 0 rfl) ?_
    refine r_ic X dX8_init_61 ?_
    refine k_newa X Y V kd_9 ln_9 rfl (Nat.le_of_ble_eq_true rfl) (zst_n (zst_mono z_7 (by decide))) wd_85 (Nat.le_of_ble_eq_true rfl) (Nat.le_of_ble_eq_true rfl) dX8_init_62 (fun H V => ?_)
    refine k_pr (kI := 7) X Y V hin ci_8 kd_1 ⟨by decide, by decide⟩ (by decide) (by decide) 7 rfl (by decide) rfl rfl rfl rfl (tyX8_ok 7 (by decide)) (fun _ => rfl) (fun _ => rfl) wd_62 (σ' := st_8) rfl dX8_init_64 (fun H locs V => ?_)
    refine r_aln X dX8_init_67 rfl (lv_at hl 0 rfl) ?_
    refine k_kv V (k_runV (As := []) (rest := []) (o := 1) X Y V (ki_X8_removeAll_8 l G) mv_X8_removeAll wd_32 ci_8 kd_1 ⟨by decide, by decide⟩ ⟨⟨rfl, rfl⟩, ⟨Nat.le_of_ble_eq_true rfl, Nat.le_of_ble_eq_true rfl⟩, Nat.le_of_ble_eq_true rfl, Nat.le_of_ble_eq_true rfl⟩ rfl rfl hl.1 (Nat.le_of_ble_eq_true rfl) dX8_init_68) (fun H locs V => ?_)
    exact k_rv X V dX8_init_71
  exact go _ _ _ X V
set_option maxRecDepth 100000 in
set_option maxHeartbeats 4000000 in
theorem ki_X4_init_14 (l : Launch) (G : UG) : Met l yX4_init (.code yX4_init cX4_init 1 (Option.none : Option Jvm.ClassFile.FieldType) :: TB) { frames := 1, cells := 3, slots := 24, locals := 12 } (uvPk G 11 st_14 [.ref (G.2.2.1 10)]) (uvKv G 14 st_17) 3 24 (uvKA G) := by
  refine k_met (own := RX4) (lv := [(0, .ref (G.2.2.1 10))]) (by decide) rfl (Nat.le_of_ble_eq_true rfl) rfl ?_
  intro p e s m below meth c ls X Y V hl hin
  have go : ∀ (args : Array Value) (H : Heap) (locs : List Loc), uvCx p m c cX4_init 1 RX4 s args meth (Option.none : Option Jvm.ClassFile.FieldType) → uvWk G 11 st_14 s H locs → W p l e { frames := 1, cells := 3, slots := 24, locals := 12 } s m args below meth c H locs 0 0 (MQ below (uvKv G 14 st_17) args s 3 24 (uvKA G)) (F0 m 0 ls []) := by
    intro args H locs X V
    refine r_aln X dX4_init_0 rfl (lv_at hl 0 rfl) ?_
    refine k_obj X wd_91 w_obj hl.1 (Nat.le_of_ble_eq_true rfl) (Nat.le_of_ble_eq_true rfl) dX4_init_1 ?_
    refine r_aln X dX4_init_4 rfl (lv_at hl 0 rfl) ?_
    refine r_bp X dX4_init_5 (by decide) ?_
    refine k_newa X Y V kd_11 ln_11 rfl (Nat.le_of_ble_eq_true rfl) (zst_n (zst_mono z_14 (by decide))) wd_85 (Nat.le_of_ble_eq_true rfl) (Nat.le_of_ble_eq_true rfl) dX4_init_7 (fun H V => ?_)
    refine k_pr (kI := 0) X Y V hin ci_4 kd_10 ⟨by decide, by decide⟩ (by decide) (by decide) 0 rfl (by decide) rfl rfl rfl rfl (tyX4_ok 0 (by decide)) (fun _ => rfl) (fun _ => rfl) wd_92 (σ' := st_15) rfl dX4_init_9 (fun H locs V => ?_)
    refine r_aln X dX4_init_12 rfl (lv_at hl 0 rfl) ?_
    refine r_bp X dX4_init_13 (by decide) ?_
    refine k_newa X Y V kd_12 ln_12 rfl (Nat.le_of_ble_eq_true rfl) (zst_n (zst_mono z_15 (by decide))) wd_85 (Nat.le_of_ble_eq_true rfl) (Nat.le_of_ble_eq_true rfl) dX4_init_15 (fun H V => ?_)
    refine k_pr (kI := 1) X Y V hin ci_4 kd_10 ⟨by decide, by decide⟩ (by decide) (by decide) 1 rfl (by decide) rfl rfl rfl rfl (tyX4_ok 1 (by decide)) (fun _ => rfl) (fun _ => rfl) wd_95 (σ' := st_16) rfl dX4_init_17 (fun H locs V => ?_)
    refine r_aln X dX4_init_20 rfl (lv_at hl 0 rfl) ?_
    refine r_bp X dX4_init_21 (by decide) ?_
    refine k_newa X Y V kd_13 ln_13 rfl (Nat.le_of_ble_eq_true rfl) (zst_n (zst_mono z_16 (by decide))) wd_85 (Nat.le_of_ble_eq_true rfl) (Nat.le_of_ble_eq_true rfl) dX4_init_23 (fun H V => ?_)
    refine k_pr (kI := 2) X Y V hin ci_4 kd_10 ⟨by decide, by decide⟩ (by decide) (by decide) 2 rfl (by decide) rfl rfl rfl rfl (tyX4_ok 2 (by decide)) (fun _ => rfl) (fun _ => rfl) wd_99 (σ' := st_17) rfl dX4_init_25 (fun H locs V => ?_)
    exact k_rv X V dX4_init_28
  exact go _ _ _ X V
set_option maxRecDepth 100000 in
set_option maxHeartbeats 4000000 in
theorem ki_X7_addNode_24 (l : Launch) (G : UG) : Met l yX7_addNode (.code yX7_addNode cX7_addNode 5 (Option.some Jvm.ClassFile.FieldType.int) :: TB) { frames := 0, cells := 0, slots := 0, locals := 0 } (uvPk G 21 st_24 [.ref (G.2.2.1 14), .int (iV 42), .int (iV 0), .int (iV (-1))]) (uvKi G 0 21 st_31) 0 0 (uvKA G) := by
  refine k_met (own := RX7) (lv := [(0, .ref (G.2.2.1 14)), (1, .int (iV 42)), (2, .int (iV 0)), (3, .int (iV (-1)))]) (by decide) rfl (Nat.le_of_ble_eq_true rfl) rfl ?_
  intro p e s m below meth c ls X Y V hl hin
  have go : ∀ (args : Array Value) (H : Heap) (locs : List Loc), uvCx p m c cX7_addNode 5 RX7 s args meth (Option.some Jvm.ClassFile.FieldType.int) → uvWk G 21 st_24 s H locs → W p l e { frames := 0, cells := 0, slots := 0, locals := 0 } s m args below meth c H locs 0 0 (MQ below (uvKi G 0 21 st_31) args s 0 0 (uvKA G)) (F0 m 0 ls []) := by
    intro args H locs X V
    refine r_aln X dX7_addNode_0 rfl (lv_at hl 0 rfl) ?_
    refine k_gi (kI := 6) (x := 0) X Y V ci_7 kd_14 ⟨by decide, by decide⟩ 6 rfl (by decide +kernel) (by decide) rfl rfl wd_137 dX7_addNode_1 ?_
    refine r_lt (cx := 0) (tgt := 16) X rfl dX7_addNode_4 (by decide) (fun c => absurd c (by decide)) (fun _ => ?_)
    refine r_aln X dX7_addNode_7 rfl (lv_at hl 0 rfl) ?_
    refine k_gi (kI := 6) (x := 0) X Y V ci_7 kd_14 ⟨by decide, by decide⟩ 6 rfl (by decide +kernel) (by decide) rfl rfl wd_137 dX7_addNode_8 ?_
    refine r_bp X dX7_addNode_11 (by decide) ?_
    refine r_clt (cx := 0) (cy := 120) (tgt := 18) X rfl rfl dX7_addNode_13 (by decide) (fun _ => ?_) (fun c => absurd (by decide) c)
    refine r_aln X dX7_addNode_18 rfl (lv_at hl 0 rfl) ?_
    refine k_gi (kI := 6) (x := 0) X Y V ci_7 kd_14 ⟨by decide, by decide⟩ 6 rfl (by decide +kernel) (by decide) rfl rfl wd_137 dX7_addNode_19 ?_
    refine r_is (lv' := [(4, .int (iV 0)), (0, .ref (G.2.2.1 14)), (1, .int (iV 42)), (2, .int (iV 0)), (3, .int (iV (-1)))]) X dX7_addNode_22 hl (by decide) rfl (fun ls hl => ?_)
    refine r_aln X dX7_addNode_24 rfl (lv_at hl 1 rfl) ?_
    refine k_gr (kI := 0) (o' := 15) X Y V ci_7 kd_14 ⟨by decide, by decide⟩ 0 rfl (by decide +kernel) (by decide) rfl rfl wd_131 dX7_addNode_25 ?_
    refine r_il X dX7_addNode_28 (lv_at hl 0 rfl) ?_
    refine r_iln X dX7_addNode_30 rfl (lv_at hl 2 rfl) ?_
    refine k_ias X Y V kd_15 ⟨by decide, by decide⟩ (by decide) ln_15 ⟨by decide, by decide⟩ (σ' := st_25) rfl dX7_addNode_31 (fun H locs V => ?_)
    refine r_aln X dX7_addNode_32 rfl (lv_at hl 1 rfl) ?_
    refine k_gr (kI := 1) (o' := 16) X Y V ci_7 kd_14 ⟨by decide, by decide⟩ 1 rfl (by decide +kernel) (by decide) rfl rfl wd_132 dX7_addNode_33 ?_
    refine r_il X dX7_addNode_36 (lv_at hl 0 rfl) ?_
    refine r_iln X dX7_addNode_38 rfl (lv_at hl 3 rfl) ?_
    refine k_ias X Y V kd_16 ⟨by decide, by decide⟩ (by decide) ln_16 ⟨by decide, by decide⟩ (σ' := st_26) rfl dX7_addNode_39 (fun H locs V => ?_)
    refine r_aln X dX7_addNode_40 rfl (lv_at hl 1 rfl) ?_
    refine k_gr (kI := 2) (o' := 17) X Y V ci_7 kd_14 ⟨by decide, by decide⟩ 2 rfl (by decide +kernel) (by decide) rfl rfl wd_133 dX7_addNode_41 ?_
    refine r_il X dX7_addNode_44 (lv_at hl 0 rfl) ?_
    refine r_iln X dX7_addNode_46 rfl (lv_at hl 4 rfl) ?_
    refine k_ias X Y V kd_17 ⟨by decide, by decide⟩ (by decide) ln_17 ⟨by decide, by decide⟩ (σ' := st_27) rfl dX7_addNode_47 (fun H locs V => ?_)
    refine r_aln X dX7_addNode_48 rfl (lv_at hl 1 rfl) ?_
    refine k_gr (kI := 3) (o' := 18) X Y V ci_7 kd_14 ⟨by decide, by decide⟩ 3 rfl (by decide +kernel) (by decide) rfl rfl wd_134 dX7_addNode_49 ?_
    refine r_il X dX7_addNode_52 (lv_at hl 0 rfl) ?_
    refine r_ic X dX7_addNode_54 ?_
    refine k_ias X Y V kd_18 ⟨by decide, by decide⟩ (by decide) ln_18 ⟨by decide, by decide⟩ (σ' := st_28) rfl dX7_addNode_55 (fun H locs V => ?_)
    refine r_aln X dX7_addNode_56 rfl (lv_at hl 1 rfl) ?_
    refine k_gr (kI := 4) (o' := 19) X Y V ci_7 kd_14 ⟨by decide, by decide⟩ 4 rfl (by decide +kernel) (by decide) rfl rfl wd_135 dX7_addNode_57 ?_
    refine r_il X dX7_addNode_60 (lv_at hl 0 rfl) ?_
    refine r_ic X dX7_addNode_62 ?_
    refine k_ias X Y V kd_19 ⟨by decide, by decide⟩ (by decide) ln_19 ⟨by decide, by decide⟩ (σ' := st_29) rfl dX7_addNode_63 (fun H locs V => ?_)
    refine r_aln X dX7_addNode_64 rfl (lv_at hl 1 rfl) ?_
    refine k_gr (kI := 5) (o' := 20) X Y V ci_7 kd_14 ⟨by decide, by decide⟩ 5 rfl (by decide +kernel) (by decide) rfl rfl wd_136 dX7_addNode_65 ?_
    refine r_il X dX7_addNode_68 (lv_at hl 0 rfl) ?_
    refine r_ic X dX7_addNode_70 ?_
    refine k_ias X Y V kd_20 ⟨by decide, by decide⟩ (by decide) ln_20 ⟨by decide, by decide⟩ (σ' := st_30) rfl dX7_addNode_71 (fun H locs V => ?_)
    refine r_aln X dX7_addNode_72 rfl (lv_at hl 1 rfl) ?_
    refine r_dup X dX7_addNode_73 rfl ?_
    refine k_gi (kI := 6) (x := 0) X Y V ci_7 kd_14 ⟨by decide, by decide⟩ 6 rfl (by decide +kernel) (by decide) rfl rfl wd_137 dX7_addNode_74 ?_
    refine r_ic X dX7_addNode_77 ?_
    refine r_iadd X dX7_addNode_78 ?_
    refine r_eqI (v := 1) (by decide) ?_
    refine k_pi (kI := 6) X Y V ci_7 kd_14 ⟨by decide, by decide⟩ (by decide) 6 rfl (by decide) rfl rfl rfl (tyX7_ok 6 (by decide)) wd_137 (σ' := st_31) rfl dX7_addNode_79 (fun H locs V => ?_)
    refine r_il X dX7_addNode_82 (lv_at hl 0 rfl) ?_
    exact k_ri X V dX7_addNode_84
  exact go _ _ _ X V
set_option maxRecDepth 100000 in
set_option maxHeartbeats 4000000 in
theorem ki_X7_addLeaf_24 (l : Launch) (G : UG) : Met l yX7_addLeaf (.code yX7_addLeaf cX7_addLeaf 3 (Option.some Jvm.ClassFile.FieldType.int) :: TB) { frames := 1, cells := 0, slots := 0, locals := 24 } (uvPk G 21 st_24 [.ref (G.2.2.1 14), .int (iV (-1))]) (uvKi G 0 21 st_33) 0 0 (uvKA G) := by
  refine k_met (own := RX7) (lv := [(0, .ref (G.2.2.1 14)), (1, .int (iV (-1)))]) (by decide) rfl (Nat.le_of_ble_eq_true rfl) rfl ?_
  intro p e s m below meth c ls X Y V hl hin
  have go : ∀ (args : Array Value) (H : Heap) (locs : List Loc), uvCx p m c cX7_addLeaf 3 RX7 s args meth (Option.some Jvm.ClassFile.FieldType.int) → uvWk G 21 st_24 s H locs → W p l e { frames := 1, cells := 0, slots := 0, locals := 24 } s m args below meth c H locs 0 0 (MQ below (uvKi G 0 21 st_33) args s 0 0 (uvKA G)) (F0 m 0 ls []) := by
    intro args H locs X V
    refine r_aln X dX7_addLeaf_0 rfl (lv_at hl 0 rfl) ?_
    refine r_bp X dX7_addLeaf_1 (by decide) ?_
    refine r_ic X dX7_addLeaf_3 ?_
    refine r_iln X dX7_addLeaf_4 rfl (lv_at hl 1 rfl) ?_
    refine k_ki V (k_runV (As := [.int (iV 42), .int (iV 0), .int (iV (-1))]) (rest := []) (o := 14) X Y V (ki_X7_addNode_24 l G) mv_X7_addNode wd_127 ci_7 kd_14 ⟨by decide, by decide⟩ ⟨⟨rfl, rfl⟩, ⟨Nat.le_of_ble_eq_true rfl, Nat.le_of_ble_eq_true rfl⟩, Nat.le_of_ble_eq_true rfl, Nat.le_of_ble_eq_true rfl⟩ rfl rfl hl.1 (Nat.le_of_ble_eq_true rfl) dX7_addLeaf_5) (fun H locs V => ?_)
    refine r_isn (lv' := [(2, .int (iV 0)), (0, .ref (G.2.2.1 14)), (1, .int (iV (-1)))]) X dX7_addLeaf_8 rfl hl (by decide) rfl (fun ls hl => ?_)
    refine r_iln X dX7_addLeaf_9 rfl (lv_at hl 0 rfl) ?_
    refine r_ic X dX7_addLeaf_10 ?_
    refine r_ceq (cx := 0) (cy := (-1)) (tgt := 34) X rfl rfl dX7_addLeaf_11 (by decide) (fun c => absurd c (by decide)) (fun _ => ?_)
    refine r_aln X dX7_addLeaf_14 rfl (lv_at hl 1 rfl) ?_
    refine k_gr (kI := 5) (o' := 20) X Y V ci_7 kd_14 ⟨by decide, by decide⟩ 5 rfl (by decide +kernel) (by decide) rfl rfl wd_136 dX7_addLeaf_15 ?_
    refine r_iln X dX7_addLeaf_18 rfl (lv_at hl 0 rfl) ?_
    refine r_aln X dX7_addLeaf_19 rfl (lv_at hl 1 rfl) ?_
    refine k_gi (kI := 7) (x := 0) X Y V ci_7 kd_14 ⟨by decide, by decide⟩ 7 rfl (by decide +kernel) (by decide) rfl rfl wd_138 dX7_addLeaf_20 ?_
    refine k_ias X Y V kd_20 ⟨by decide, by decide⟩ (by decide) ln_20 ⟨by decide, by decide⟩ (σ' := st_32) rfl dX7_addLeaf_23 (fun H locs V => ?_)
    refine r_aln X dX7_addLeaf_24 rfl (lv_at hl 1 rfl) ?_
    refine r_dup X dX7_addLeaf_25 rfl ?_
    refine k_gi (kI := 7) (x := 0) X Y V ci_7 kd_14 ⟨by decide, by decide⟩ 7 rfl (by decide +kernel) (by decide) rfl rfl wd_138 dX7_addLeaf_26 ?_
    refine r_ic X dX7_addLeaf_29 ?_
    refine r_iadd X dX7_addLeaf_30 ?_
    refine r_eqI (v := 1) (by decide) ?_
    refine k_pi (kI := 7) X Y V ci_7 kd_14 ⟨by decide, by decide⟩ (by decide) 7 rfl (by decide) rfl rfl rfl (tyX7_ok 7 (by decide)) wd_138 (σ' := st_33) rfl dX7_addLeaf_31 (fun H locs V => ?_)
    refine r_iln X dX7_addLeaf_34 rfl (lv_at hl 0 rfl) ?_
    exact k_ri X V dX7_addLeaf_35
  exact go _ _ _ X V
set_option maxRecDepth 100000 in
set_option maxHeartbeats 4000000 in
theorem ki_X7_init_18 (l : Launch) (G : UG) : Met l yX7_init (.code yX7_init cX7_init 1 (Option.none : Option Jvm.ClassFile.FieldType) :: TB) { frames := 2, cells := 6, slots := 720, locals := 46 } (uvPk G 15 st_18 [.ref (G.2.2.1 14)]) (uvKv G 21 st_33) 6 720 (uvKA G) := by
  refine k_met (own := RX7) (lv := [(0, .ref (G.2.2.1 14))]) (by decide) rfl (Nat.le_of_ble_eq_true rfl) rfl ?_
  intro p e s m below meth c ls X Y V hl hin
  have go : ∀ (args : Array Value) (H : Heap) (locs : List Loc), uvCx p m c cX7_init 1 RX7 s args meth (Option.none : Option Jvm.ClassFile.FieldType) → uvWk G 15 st_18 s H locs → W p l e { frames := 2, cells := 6, slots := 720, locals := 46 } s m args below meth c H locs 0 0 (MQ below (uvKv G 21 st_33) args s 6 720 (uvKA G)) (F0 m 0 ls []) := by
    intro args H locs X V
    refine r_aln X dX7_init_0 rfl (lv_at hl 0 rfl) ?_
    refine k_obj X wd_122 w_obj hl.1 (Nat.le_of_ble_eq_true rfl) (Nat.le_of_ble_eq_true rfl) dX7_init_1 ?_
    refine r_aln X dX7_init_4 rfl (lv_at hl 0 rfl) ?_
    refine r_bp X dX7_init_5 (by decide) ?_
    refine k_newa X Y V kd_15 ln_15 rfl (Nat.le_of_ble_eq_true rfl) (zst_n (zst_mono z_18 (by decide))) wd_85 (Nat.le_of_ble_eq_true rfl) (Nat.le_of_ble_eq_true rfl) dX7_init_7 (fun H V => ?_)
    refine k_pr (kI := 0) X Y V hin ci_7 kd_14 ⟨by decide, by decide⟩ (by decide) (by decide) 0 rfl (by decide) rfl rfl rfl rfl (tyX7_ok 0 (by decide)) (fun _ => rfl) (fun _ => rfl) wd_131 (σ' := st_19) rfl dX7_init_9 (fun H locs V => ?_)
    refine r_aln X dX7_init_12 rfl (lv_at hl 0 rfl) ?_
    refine r_bp X dX7_init_13 (by decide) ?_
    refine k_newa X Y V kd_16 ln_16 rfl (Nat.le_of_ble_eq_true rfl) (zst_n (zst_mono z_19 (by decide))) wd_85 (Nat.le_of_ble_eq_true rfl) (Nat.le_of_ble_eq_true rfl) dX7_init_15 (fun H V => ?_)
    refine k_pr (kI := 1) X Y V hin ci_7 kd_14 ⟨by decide, by decide⟩ (by decide) (by decide) 1 rfl (by decide) rfl rfl rfl rfl (tyX7_ok 1 (by decide)) (fun _ => rfl) (fun _ => rfl) wd_132 (σ' := st_20) rfl dX7_init_17 (fun H locs V => ?_)
    refine r_aln X dX7_init_20 rfl (lv_at hl 0 rfl) ?_
    refine r_bp X dX7_init_21 (by decide) ?_
    refine k_newa X Y V kd_17 ln_17 rfl (Nat.le_of_ble_eq_true rfl) (zst_n (zst_mono z_20 (by decide))) wd_85 (Nat.le_of_ble_eq_true rfl) (Nat.le_of_ble_eq_true rfl) dX7_init_23 (fun H V => ?_)
    refine k_pr (kI := 2) X Y V hin ci_7 kd_14 ⟨by decide, by decide⟩ (by decide) (by decide) 2 rfl (by decide) rfl rfl rfl rfl (tyX7_ok 2 (by decide)) (fun _ => rfl) (fun _ => rfl) wd_133 (σ' := st_21) rfl dX7_init_25 (fun H locs V => ?_)
    refine r_aln X dX7_init_28 rfl (lv_at hl 0 rfl) ?_
    refine r_bp X dX7_init_29 (by decide) ?_
    refine k_newa X Y V kd_18 ln_18 rfl (Nat.le_of_ble_eq_true rfl) (zst_n (zst_mono z_21 (by decide))) wd_85 (Nat.le_of_ble_eq_true rfl) (Nat.le_of_ble_eq_true rfl) dX7_init_31 (fun H V => ?_)
    refine k_pr (kI := 3) X Y V hin ci_7 kd_14 ⟨by decide, by decide⟩ (by decide) (by decide) 3 rfl (by decide) rfl rfl rfl rfl (tyX7_ok 3 (by decide)) (fun _ => rfl) (fun _ => rfl) wd_134 (σ' := st_22) rfl dX7_init_33 (fun H locs V => ?_)
    refine r_aln X dX7_init_36 rfl (lv_at hl 0 rfl) ?_
    refine r_bp X dX7_init_37 (by decide) ?_
    refine k_newa X Y V kd_19 ln_19 rfl (Nat.le_of_ble_eq_true rfl) (zst_n (zst_mono z_22 (by decide))) wd_85 (Nat.le_of_ble_eq_true rfl) (Nat.le_of_ble_eq_true rfl) dX7_init_39 (fun H V => ?_)
    refine k_pr (kI := 4) X Y V hin ci_7 kd_14 ⟨by decide, by decide⟩ (by decide) (by decide) 4 rfl (by decide) rfl rfl rfl rfl (tyX7_ok 4 (by decide)) (fun _ => rfl) (fun _ => rfl) wd_135 (σ' := st_23) rfl dX7_init_41 (fun H locs V => ?_)
    refine r_aln X dX7_init_44 rfl (lv_at hl 0 rfl) ?_
    refine r_bp X dX7_init_45 (by decide) ?_
    refine k_newa X Y V kd_20 ln_20 rfl (Nat.le_of_ble_eq_true rfl) (zst_n (zst_mono z_23 (by decide))) wd_85 (Nat.le_of_ble_eq_true rfl) (Nat.le_of_ble_eq_true rfl) dX7_init_47 (fun H V => ?_)
    refine k_pr (kI := 5) X Y V hin ci_7 kd_14 ⟨by decide, by decide⟩ (by decide) (by decide) 5 rfl (by decide) rfl rfl rfl rfl (tyX7_ok 5 (by decide)) (fun _ => rfl) (fun _ => rfl) wd_136 (σ' := st_24) rfl dX7_init_49 (fun H locs V => ?_)
    refine r_aln X dX7_init_52 rfl (lv_at hl 0 rfl) ?_
    refine r_ic X dX7_init_53 ?_
    refine k_ki V (k_runV (As := [.int (iV (-1))]) (rest := []) (o := 14) X Y V (ki_X7_addLeaf_24 l G) mv_X7_addLeaf wd_123 ci_7 kd_14 ⟨by decide, by decide⟩ ⟨⟨rfl, rfl⟩, ⟨Nat.le_of_ble_eq_true rfl, Nat.le_of_ble_eq_true rfl⟩, Nat.le_of_ble_eq_true rfl, Nat.le_of_ble_eq_true rfl⟩ rfl rfl hl.1 (Nat.le_of_ble_eq_true rfl) dX7_init_54) (fun H locs V => ?_)
    refine r_pop X dX7_init_57 rfl ?_
    exact k_rv X V dX7_init_58
  exact go _ _ _ X V
set_option maxRecDepth 100000 in
set_option maxHeartbeats 4000000 in
theorem ki_X4_init_35 (l : Launch) (G : UG) : Met l yX4_init (.code yX4_init cX4_init 1 (Option.none : Option Jvm.ClassFile.FieldType) :: TB) { frames := 1, cells := 3, slots := 24, locals := 12 } (uvPk G 24 st_35 [.ref (G.2.2.1 23)]) (uvKv G 27 st_38) 3 24 (uvKA G) := by
  refine k_met (own := RX4) (lv := [(0, .ref (G.2.2.1 23))]) (by decide) rfl (Nat.le_of_ble_eq_true rfl) rfl ?_
  intro p e s m below meth c ls X Y V hl hin
  have go : ∀ (args : Array Value) (H : Heap) (locs : List Loc), uvCx p m c cX4_init 1 RX4 s args meth (Option.none : Option Jvm.ClassFile.FieldType) → uvWk G 24 st_35 s H locs → W p l e { frames := 1, cells := 3, slots := 24, locals := 12 } s m args below meth c H locs 0 0 (MQ below (uvKv G 27 st_38) args s 3 24 (uvKA G)) (F0 m 0 ls []) := by
    intro args H locs X V
    refine r_aln X dX4_init_0 rfl (lv_at hl 0 rfl) ?_
    refine k_obj X wd_91 w_obj hl.1 (Nat.le_of_ble_eq_true rfl) (Nat.le_of_ble_eq_true rfl) dX4_init_1 ?_
    refine r_aln X dX4_init_4 rfl (lv_at hl 0 rfl) ?_
    refine r_bp X dX4_init_5 (by decide) ?_
    refine k_newa X Y V kd_24 ln_24 rfl (Nat.le_of_ble_eq_true rfl) (zst_n (zst_mono z_35 (by decide))) wd_85 (Nat.le_of_ble_eq_true rfl) (Nat.le_of_ble_eq_true rfl) dX4_init_7 (fun H V => ?_)
    refine k_pr (kI := 0) X Y V hin ci_4 kd_23 ⟨by decide, by decide⟩ (by decide) (by decide) 0 rfl (by decide) rfl rfl rfl rfl (tyX4_ok 0 (by decide)) (fun _ => rfl) (fun _ => rfl) wd_92 (σ' := st_36) rfl dX4_init_9 (fun H locs V => ?_)
    refine r_aln X dX4_init_12 rfl (lv_at hl 0 rfl) ?_
    refine r_bp X dX4_init_13 (by decide) ?_
    refine k_newa X Y V kd_25 ln_25 rfl (Nat.le_of_ble_eq_true rfl) (zst_n (zst_mono z_36 (by decide))) wd_85 (Nat.le_of_ble_eq_true rfl) (Nat.le_of_ble_eq_true rfl) dX4_init_15 (fun H V => ?_)
    refine k_pr (kI := 1) X Y V hin ci_4 kd_23 ⟨by decide, by decide⟩ (by decide) (by decide) 1 rfl (by decide) rfl rfl rfl rfl (tyX4_ok 1 (by decide)) (fun _ => rfl) (fun _ => rfl) wd_95 (σ' := st_37) rfl dX4_init_17 (fun H locs V => ?_)
    refine r_aln X dX4_init_20 rfl (lv_at hl 0 rfl) ?_
    refine r_bp X dX4_init_21 (by decide) ?_
    refine k_newa X Y V kd_26 ln_26 rfl (Nat.le_of_ble_eq_true rfl) (zst_n (zst_mono z_37 (by decide))) wd_85 (Nat.le_of_ble_eq_true rfl) (Nat.le_of_ble_eq_true rfl) dX4_init_23 (fun H V => ?_)
    refine k_pr (kI := 2) X Y V hin ci_4 kd_23 ⟨by decide, by decide⟩ (by decide) (by decide) 2 rfl (by decide) rfl rfl rfl rfl (tyX4_ok 2 (by decide)) (fun _ => rfl) (fun _ => rfl) wd_99 (σ' := st_38) rfl dX4_init_25 (fun H locs V => ?_)
    exact k_rv X V dX4_init_28
  exact go _ _ _ X V
set_option maxRecDepth 100000 in
set_option maxHeartbeats 4000000 in
theorem ki_X7_addNode_45 (l : Launch) (G : UG) : Met l yX7_addNode (.code yX7_addNode cX7_addNode 5 (Option.some Jvm.ClassFile.FieldType.int) :: TB) { frames := 0, cells := 0, slots := 0, locals := 0 } (uvPk G 34 st_45 [.ref (G.2.2.1 27), .int (iV 42), .int (iV 0), .int (iV (-1))]) (uvKi G 0 34 st_52) 0 0 (uvKA G) := by
  refine k_met (own := RX7) (lv := [(0, .ref (G.2.2.1 27)), (1, .int (iV 42)), (2, .int (iV 0)), (3, .int (iV (-1)))]) (by decide) rfl (Nat.le_of_ble_eq_true rfl) rfl ?_
  intro p e s m below meth c ls X Y V hl hin
  have go : ∀ (args : Array Value) (H : Heap) (locs : List Loc), uvCx p m c cX7_addNode 5 RX7 s args meth (Option.some Jvm.ClassFile.FieldType.int) → uvWk G 34 st_45 s H locs → W p l e { frames := 0, cells := 0, slots := 0, locals := 0 } s m args below meth c H locs 0 0 (MQ below (uvKi G 0 34 st_52) args s 0 0 (uvKA G)) (F0 m 0 ls []) := by
    intro args H locs X V
    refine r_aln X dX7_addNode_0 rfl (lv_at hl 0 rfl) ?_
    refine k_gi (kI := 6) (x := 0) X Y V ci_7 kd_27 ⟨by decide, by decide⟩ 6 rfl (by decide +kernel) (by decide) rfl rfl wd_137 dX7_addNode_1 ?_
    refine r_lt (cx := 0) (tgt := 16) X rfl dX7_addNode_4 (by decide) (fun c => absurd c (by decide)) (fun _ => ?_)
    refine r_aln X dX7_addNode_7 rfl (lv_at hl 0 rfl) ?_
    refine k_gi (kI := 6) (x := 0) X Y V ci_7 kd_27 ⟨by decide, by decide⟩ 6 rfl (by decide +kernel) (by decide) rfl rfl wd_137 dX7_addNode_8 ?_
    refine r_bp X dX7_addNode_11 (by decide) ?_
    refine r_clt (cx := 0) (cy := 120) (tgt := 18) X rfl rfl dX7_addNode_13 (by decide) (fun _ => ?_) (fun c => absurd (by decide) c)
    refine r_aln X dX7_addNode_18 rfl (lv_at hl 0 rfl) ?_
    refine k_gi (kI := 6) (x := 0) X Y V ci_7 kd_27 ⟨by decide, by decide⟩ 6 rfl (by decide +kernel) (by decide) rfl rfl wd_137 dX7_addNode_19 ?_
    refine r_is (lv' := [(4, .int (iV 0)), (0, .ref (G.2.2.1 27)), (1, .int (iV 42)), (2, .int (iV 0)), (3, .int (iV (-1)))]) X dX7_addNode_22 hl (by decide) rfl (fun ls hl => ?_)
    refine r_aln X dX7_addNode_24 rfl (lv_at hl 1 rfl) ?_
    refine k_gr (kI := 0) (o' := 28) X Y V ci_7 kd_27 ⟨by decide, by decide⟩ 0 rfl (by decide +kernel) (by decide) rfl rfl wd_131 dX7_addNode_25 ?_
    refine r_il X dX7_addNode_28 (lv_at hl 0 rfl) ?_
    refine r_iln X dX7_addNode_30 rfl (lv_at hl 2 rfl) ?_
    refine k_ias X Y V kd_28 ⟨by decide, by decide⟩ (by decide) ln_28 ⟨by decide, by decide⟩ (σ' := st_46) rfl dX7_addNode_31 (fun H locs V => ?_)
    refine r_aln X dX7_addNode_32 rfl (lv_at hl 1 rfl) ?_
    refine k_gr (kI := 1) (o' := 29) X Y V ci_7 kd_27 ⟨by decide, by decide⟩ 1 rfl (by decide +kernel) (by decide) rfl rfl wd_132 dX7_addNode_33 ?_
    refine r_il X dX7_addNode_36 (lv_at hl 0 rfl) ?_
    refine r_iln X dX7_addNode_38 rfl (lv_at hl 3 rfl) ?_
    refine k_ias X Y V kd_29 ⟨by decide, by decide⟩ (by decide) ln_29 ⟨by decide, by decide⟩ (σ' := st_47) rfl dX7_addNode_39 (fun H locs V => ?_)
    refine r_aln X dX7_addNode_40 rfl (lv_at hl 1 rfl) ?_
    refine k_gr (kI := 2) (o' := 30) X Y V ci_7 kd_27 ⟨by decide, by decide⟩ 2 rfl (by decide +kernel) (by decide) rfl rfl wd_133 dX7_addNode_41 ?_
    refine r_il X dX7_addNode_44 (lv_at hl 0 rfl) ?_
    refine r_iln X dX7_addNode_46 rfl (lv_at hl 4 rfl) ?_
    refine k_ias X Y V kd_30 ⟨by decide, by decide⟩ (by decide) ln_30 ⟨by decide, by decide⟩ (σ' := st_48) rfl dX7_addNode_47 (fun H locs V => ?_)
    refine r_aln X dX7_addNode_48 rfl (lv_at hl 1 rfl) ?_
    refine k_gr (kI := 3) (o' := 31) X Y V ci_7 kd_27 ⟨by decide, by decide⟩ 3 rfl (by decide +kernel) (by decide) rfl rfl wd_134 dX7_addNode_49 ?_
    refine r_il X dX7_addNode_52 (lv_at hl 0 rfl) ?_
    refine r_ic X dX7_addNode_54 ?_
    refine k_ias X Y V kd_31 ⟨by decide, by decide⟩ (by decide) ln_31 ⟨by decide, by decide⟩ (σ' := st_49) rfl dX7_addNode_55 (fun H locs V => ?_)
    refine r_aln X dX7_addNode_56 rfl (lv_at hl 1 rfl) ?_
    refine k_gr (kI := 4) (o' := 32) X Y V ci_7 kd_27 ⟨by decide, by decide⟩ 4 rfl (by decide +kernel) (by decide) rfl rfl wd_135 dX7_addNode_57 ?_
    refine r_il X dX7_addNode_60 (lv_at hl 0 rfl) ?_
    refine r_ic X dX7_addNode_62 ?_
    refine k_ias X Y V kd_32 ⟨by decide, by decide⟩ (by decide) ln_32 ⟨by decide, by decide⟩ (σ' := st_50) rfl dX7_addNode_63 (fun H locs V => ?_)
    refine r_aln X dX7_addNode_64 rfl (lv_at hl 1 rfl) ?_
    refine k_gr (kI := 5) (o' := 33) X Y V ci_7 kd_27 ⟨by decide, by decide⟩ 5 rfl (by decide +kernel) (by decide) rfl rfl wd_136 dX7_addNode_65 ?_
    refine r_il X dX7_addNode_68 (lv_at hl 0 rfl) ?_
    refine r_ic X dX7_addNode_70 ?_
    refine k_ias X Y V kd_33 ⟨by decide, by decide⟩ (by decide) ln_33 ⟨by decide, by decide⟩ (σ' := st_51) rfl dX7_addNode_71 (fun H locs V => ?_)
    refine r_aln X dX7_addNode_72 rfl (lv_at hl 1 rfl) ?_
    refine r_dup X dX7_addNode_73 rfl ?_
    refine k_gi (kI := 6) (x := 0) X Y V ci_7 kd_27 ⟨by decide, by decide⟩ 6 rfl (by decide +kernel) (by decide) rfl rfl wd_137 dX7_addNode_74 ?_
    refine r_ic X dX7_addNode_77 ?_
    refine r_iadd X dX7_addNode_78 ?_
    refine r_eqI (v := 1) (by decide) ?_
    refine k_pi (kI := 6) X Y V ci_7 kd_27 ⟨by decide, by decide⟩ (by decide) 6 rfl (by decide) rfl rfl rfl (tyX7_ok 6 (by decide)) wd_137 (σ' := st_52) rfl dX7_addNode_79 (fun H locs V => ?_)
    refine r_il X dX7_addNode_82 (lv_at hl 0 rfl) ?_
    exact k_ri X V dX7_addNode_84
  exact go _ _ _ X V
set_option maxRecDepth 100000 in
set_option maxHeartbeats 4000000 in
theorem ki_X7_addLeaf_45 (l : Launch) (G : UG) : Met l yX7_addLeaf (.code yX7_addLeaf cX7_addLeaf 3 (Option.some Jvm.ClassFile.FieldType.int) :: TB) { frames := 1, cells := 0, slots := 0, locals := 24 } (uvPk G 34 st_45 [.ref (G.2.2.1 27), .int (iV (-1))]) (uvKi G 0 34 st_54) 0 0 (uvKA G) := by
  refine k_met (own := RX7) (lv := [(0, .ref (G.2.2.1 27)), (1, .int (iV (-1)))]) (by decide) rfl (Nat.le_of_ble_eq_true rfl) rfl ?_
  intro p e s m below meth c ls X Y V hl hin
  have go : ∀ (args : Array Value) (H : Heap) (locs : List Loc), uvCx p m c cX7_addLeaf 3 RX7 s args meth (Option.some Jvm.ClassFile.FieldType.int) → uvWk G 34 st_45 s H locs → W p l e { frames := 1, cells := 0, slots := 0, locals := 24 } s m args below meth c H locs 0 0 (MQ below (uvKi G 0 34 st_54) args s 0 0 (uvKA G)) (F0 m 0 ls []) := by
    intro args H locs X V
    refine r_aln X dX7_addLeaf_0 rfl (lv_at hl 0 rfl) ?_
    refine r_bp X dX7_addLeaf_1 (by decide) ?_
    refine r_ic X dX7_addLeaf_3 ?_
    refine r_iln X dX7_addLeaf_4 rfl (lv_at hl 1 rfl) ?_
    refine k_ki V (k_runV (As := [.int (iV 42), .int (iV 0), .int (iV (-1))]) (rest := []) (o := 27) X Y V (ki_X7_addNode_45 l G) mv_X7_addNode wd_127 ci_7 kd_27 ⟨by decide, by decide⟩ ⟨⟨rfl, rfl⟩, ⟨Nat.le_of_ble_eq_true rfl, Nat.le_of_ble_eq_true rfl⟩, Nat.le_of_ble_eq_true rfl, Nat.le_of_ble_eq_true rfl⟩ rfl rfl hl.1 (Nat.le_of_ble_eq_true rfl) dX7_addLeaf_5) (fun H locs V => ?_)
    refine r_isn (lv' := [(2, .int (iV 0)), (0, .ref (G.2.2.1 27)), (1, .int (iV (-1)))]) X dX7_addLeaf_8 rfl hl (by decide) rfl (fun ls hl => ?_)
    refine r_iln X dX7_addLeaf_9 rfl (lv_at hl 0 rfl) ?_
    refine r_ic X dX7_addLeaf_10 ?_
    refine r_ceq (cx := 0) (cy := (-1)) (tgt := 34) X rfl rfl dX7_addLeaf_11 (by decide) (fun c => absurd c (by decide)) (fun _ => ?_)
    refine r_aln X dX7_addLeaf_14 rfl (lv_at hl 1 rfl) ?_
    refine k_gr (kI := 5) (o' := 33) X Y V ci_7 kd_27 ⟨by decide, by decide⟩ 5 rfl (by decide +kernel) (by decide) rfl rfl wd_136 dX7_addLeaf_15 ?_
    refine r_iln X dX7_addLeaf_18 rfl (lv_at hl 0 rfl) ?_
    refine r_aln X dX7_addLeaf_19 rfl (lv_at hl 1 rfl) ?_
    refine k_gi (kI := 7) (x := 0) X Y V ci_7 kd_27 ⟨by decide, by decide⟩ 7 rfl (by decide +kernel) (by decide) rfl rfl wd_138 dX7_addLeaf_20 ?_
    refine k_ias X Y V kd_33 ⟨by decide, by decide⟩ (by decide) ln_33 ⟨by decide, by decide⟩ (σ' := st_53) rfl dX7_addLeaf_23 (fun H locs V => ?_)
    refine r_aln X dX7_addLeaf_24 rfl (lv_at hl 1 rfl) ?_
    refine r_dup X dX7_addLeaf_25 rfl ?_
    refine k_gi (kI := 7) (x := 0) X Y V ci_7 kd_27 ⟨by decide, by decide⟩ 7 rfl (by decide +kernel) (by decide) rfl rfl wd_138 dX7_addLeaf_26 ?_
    refine r_ic X dX7_addLeaf_29 ?_
    refine r_iadd X dX7_addLeaf_30 ?_
    refine r_eqI (v := 1) (by decide) ?_
    refine k_pi (kI := 7) X Y V ci_7 kd_27 ⟨by decide, by decide⟩ (by decide) 7 rfl (by decide) rfl rfl rfl (tyX7_ok 7 (by decide)) wd_138 (σ' := st_54) rfl dX7_addLeaf_31 (fun H locs V => ?_)
    refine r_iln X dX7_addLeaf_34 rfl (lv_at hl 0 rfl) ?_
    exact k_ri X V dX7_addLeaf_35
  exact go _ _ _ X V
set_option maxRecDepth 100000 in
set_option maxHeartbeats 4000000 in
theorem ki_X7_init_39 (l : Launch) (G : UG) : Met l yX7_init (.code yX7_init cX7_init 1 (Option.none : Option Jvm.ClassFile.FieldType) :: TB) { frames := 2, cells := 6, slots := 720, locals := 46 } (uvPk G 28 st_39 [.ref (G.2.2.1 27)]) (uvKv G 34 st_54) 6 720 (uvKA G) := by
  refine k_met (own := RX7) (lv := [(0, .ref (G.2.2.1 27))]) (by decide) rfl (Nat.le_of_ble_eq_true rfl) rfl ?_
  intro p e s m below meth c ls X Y V hl hin
  have go : ∀ (args : Array Value) (H : Heap) (locs : List Loc), uvCx p m c cX7_init 1 RX7 s args meth (Option.none : Option Jvm.ClassFile.FieldType) → uvWk G 28 st_39 s H locs → W p l e { frames := 2, cells := 6, slots := 720, locals := 46 } s m args below meth c H locs 0 0 (MQ below (uvKv G 34 st_54) args s 6 720 (uvKA G)) (F0 m 0 ls []) := by
    intro args H locs X V
    refine r_aln X dX7_init_0 rfl (lv_at hl 0 rfl) ?_
    refine k_obj X wd_122 w_obj hl.1 (Nat.le_of_ble_eq_true rfl) (Nat.le_of_ble_eq_true rfl) dX7_init_1 ?_
    refine r_aln X dX7_init_4 rfl (lv_at hl 0 rfl) ?_
    refine r_bp X dX7_init_5 (by decide) ?_
    refine k_newa X Y V kd_28 ln_28 rfl (Nat.le_of_ble_eq_true rfl) (zst_n (zst_mono z_39 (by decide))) wd_85 (Nat.le_of_ble_eq_true rfl) (Nat.le_of_ble_eq_true rfl) dX7_init_7 (fun H V => ?_)
    refine k_pr (kI := 0) X Y V hin ci_7 kd_27 ⟨by decide, by decide⟩ (by decide) (by decide) 0 rfl (by decide) rfl rfl rfl rfl (tyX7_ok 0 (by decide)) (fun _ => rfl) (fun _ => rfl) wd_131 (σ' := st_40) rfl dX7_init_9 (fun H locs V => ?_)
    refine r_aln X dX7_init_12 rfl (lv_at hl 0 rfl) ?_
    refine r_bp X dX7_init_13 (by decide) ?_
    refine k_newa X Y V kd_29 ln_29 rfl (Nat.le_of_ble_eq_true rfl) (zst_n (zst_mono z_40 (by decide))) wd_85 (Nat.le_of_ble_eq_true rfl) (Nat.le_of_ble_eq_true rfl) dX7_init_15 (fun H V => ?_)
    refine k_pr (kI := 1) X Y V hin ci_7 kd_27 ⟨by decide, by decide⟩ (by decide) (by decide) 1 rfl (by decide) rfl rfl rfl rfl (tyX7_ok 1 (by decide)) (fun _ => rfl) (fun _ => rfl) wd_132 (σ' := st_41) rfl dX7_init_17 (fun H locs V => ?_)
    refine r_aln X dX7_init_20 rfl (lv_at hl 0 rfl) ?_
    refine r_bp X dX7_init_21 (by decide) ?_
    refine k_newa X Y V kd_30 ln_30 rfl (Nat.le_of_ble_eq_true rfl) (zst_n (zst_mono z_41 (by decide))) wd_85 (Nat.le_of_ble_eq_true rfl) (Nat.le_of_ble_eq_true rfl) dX7_init_23 (fun H V => ?_)
    refine k_pr (kI := 2) X Y V hin ci_7 kd_27 ⟨by decide, by decide⟩ (by decide) (by decide) 2 rfl (by decide) rfl rfl rfl rfl (tyX7_ok 2 (by decide)) (fun _ => rfl) (fun _ => rfl) wd_133 (σ' := st_42) rfl dX7_init_25 (fun H locs V => ?_)
    refine r_aln X dX7_init_28 rfl (lv_at hl 0 rfl) ?_
    refine r_bp X dX7_init_29 (by decide) ?_
    refine k_newa X Y V kd_31 ln_31 rfl (Nat.le_of_ble_eq_true rfl) (zst_n (zst_mono z_42 (by decide))) wd_85 (Nat.le_of_ble_eq_true rfl) (Nat.le_of_ble_eq_true rfl) dX7_init_31 (fun H V => ?_)
    refine k_pr (kI := 3) X Y V hin ci_7 kd_27 ⟨by decide, by decide⟩ (by decide) (by decide) 3 rfl (by decide) rfl rfl rfl rfl (tyX7_ok 3 (by decide)) (fun _ => rfl) (fun _ => rfl) wd_134 (σ' := st_43) rfl dX7_init_33 (fun H locs V => ?_)
    refine r_aln X dX7_init_36 rfl (lv_at hl 0 rfl) ?_
    refine r_bp X dX7_init_37 (by decide) ?_
    refine k_newa X Y V kd_32 ln_32 rfl (Nat.le_of_ble_eq_true rfl) (zst_n (zst_mono z_43 (by decide))) wd_85 (Nat.le_of_ble_eq_true rfl) (Nat.le_of_ble_eq_true rfl) dX7_init_39 (fun H V => ?_)
    refine k_pr (kI := 4) X Y V hin ci_7 kd_27 ⟨by decide, by decide⟩ (by decide) (by decide) 4 rfl (by decide) rfl rfl rfl rfl (tyX7_ok 4 (by decide)) (fun _ => rfl) (fun _ => rfl) wd_135 (σ' := st_44) rfl dX7_init_41 (fun H locs V => ?_)
    refine r_aln X dX7_init_44 rfl (lv_at hl 0 rfl) ?_
    refine r_bp X dX7_init_45 (by decide) ?_
    refine k_newa X Y V kd_33 ln_33 rfl (Nat.le_of_ble_eq_true rfl) (zst_n (zst_mono z_44 (by decide))) wd_85 (Nat.le_of_ble_eq_true rfl) (Nat.le_of_ble_eq_true rfl) dX7_init_47 (fun H V => ?_)
    refine k_pr (kI := 5) X Y V hin ci_7 kd_27 ⟨by decide, by decide⟩ (by decide) (by decide) 5 rfl (by decide) rfl rfl rfl rfl (tyX7_ok 5 (by decide)) (fun _ => rfl) (fun _ => rfl) wd_136 (σ' := st_45) rfl dX7_init_49 (fun H locs V => ?_)
    refine r_aln X dX7_init_52 rfl (lv_at hl 0 rfl) ?_
    refine r_ic X dX7_init_53 ?_
    refine k_ki V (k_runV (As := [.int (iV (-1))]) (rest := []) (o := 27) X Y V (ki_X7_addLeaf_45 l G) mv_X7_addLeaf wd_123 ci_7 kd_27 ⟨by decide, by decide⟩ ⟨⟨rfl, rfl⟩, ⟨Nat.le_of_ble_eq_true rfl, Nat.le_of_ble_eq_true rfl⟩, Nat.le_of_ble_eq_true rfl, Nat.le_of_ble_eq_true rfl⟩ rfl rfl hl.1 (Nat.le_of_ble_eq_true rfl) dX7_init_54) (fun H locs V => ?_)
    refine r_pop X dX7_init_57 rfl ?_
    exact k_rv X V dX7_init_58
  exact go _ _ _ X V
set_option maxRecDepth 100000 in
set_option maxHeartbeats 4000000 in
theorem ki_X6_init_34 (l : Launch) (G : UG) : Met l yX6_init (.code yX6_init cX6_init 1 (Option.none : Option Jvm.ClassFile.FieldType) :: TB) { frames := 3, cells := 12, slots := 877, locals := 66 } (uvPk G 22 st_34 [.ref (G.2.2.1 21)]) (uvKv G 34 st_55) 12 877 (uvKA G) := by
  refine k_met (own := RX6) (lv := [(0, .ref (G.2.2.1 21))]) (by decide) rfl (Nat.le_of_ble_eq_true rfl) rfl ?_
  intro p e s m below meth c ls X Y V hl hin
  have go : ∀ (args : Array Value) (H : Heap) (locs : List Loc), uvCx p m c cX6_init 1 RX6 s args meth (Option.none : Option Jvm.ClassFile.FieldType) → uvWk G 22 st_34 s H locs → W p l e { frames := 3, cells := 12, slots := 877, locals := 66 } s m args below meth c H locs 0 0 (MQ below (uvKv G 34 st_55) args s 12 877 (uvKA G)) (F0 m 0 ls []) := by
    intro args H locs X V
    refine r_aln X dX6_init_0 rfl (lv_at hl 0 rfl) ?_
    refine k_obj X wd_166 w_obj hl.1 (Nat.le_of_ble_eq_true rfl) (Nat.le_of_ble_eq_true rfl) dX6_init_1 ?_
    refine r_aln X dX6_init_4 rfl (lv_at hl 0 rfl) ?_
    refine r_bp X dX6_init_5 (by decide) ?_
    refine k_newa X Y V kd_22 ln_22 rfl (Nat.le_of_ble_eq_true rfl) (zst_n (zst_mono z_34 (by decide))) wd_85 (Nat.le_of_ble_eq_true rfl) (Nat.le_of_ble_eq_true rfl) dX6_init_7 (fun H V => ?_)
    refine k_pr (kI := 0) X Y V hin ci_6 kd_21 ⟨by decide, by decide⟩ (by decide) (by decide) 0 rfl (by decide) rfl rfl rfl rfl (tyX6_ok 0 (by decide)) (fun _ => rfl) (fun _ => rfl) wd_171 (σ' := st_35) rfl dX6_init_9 (fun H locs V => ?_)
    refine r_aln X dX6_init_12 rfl (lv_at hl 0 rfl) ?_
    refine k_new X Y V ci_4 kd_23 (zst_n (zst_mono z_35 (by decide))) (zst_r (zst_mono z_35 (by decide))) df_4 wd_167 wd_87 wd_3 (Nat.le_of_ble_eq_true rfl) (Nat.le_of_ble_eq_true rfl) dX6_init_13 (fun H V => ?_)
    refine r_dup X dX6_init_16 rfl ?_
    refine k_kv V (k_runIN (nn := 0) (As := []) (rest := [.ref (G.2.2.1 23), .ref (G.2.2.1 21)]) (o := 23) X Y V (ki_X4_init_35 l G) rfl wi_X4 (by decide +kernel) Y.2.2.2.2.2.1 ⟨⟨rfl, rfl⟩, ⟨Nat.le_of_ble_eq_true rfl, Nat.le_of_ble_eq_true rfl⟩, Nat.le_of_ble_eq_true rfl, Nat.le_of_ble_eq_true rfl⟩ rfl rfl hl.1 (Nat.le_of_ble_eq_true rfl) dX6_init_17) (fun H locs V => ?_)
    refine k_pr (kI := 1) X Y V hin ci_6 kd_21 ⟨by decide, by decide⟩ (by decide) (by decide) 1 rfl (by decide) rfl rfl rfl rfl (tyX6_ok 1 (by decide)) (fun _ => rfl) (fun _ => rfl) wd_172 (σ' := st_39) rfl dX6_init_20 (fun H locs V => ?_)
    refine r_aln X dX6_init_23 rfl (lv_at hl 0 rfl) ?_
    refine k_new X Y V ci_7 kd_27 (zst_n (zst_mono z_39 (by decide))) (zst_r (zst_mono z_39 (by decide))) df_7 wd_169 wd_118 wd_4 (Nat.le_of_ble_eq_true rfl) (Nat.le_of_ble_eq_true rfl) dX6_init_24 (fun H V => ?_)
    refine r_dup X dX6_init_27 rfl ?_
    refine k_kv V (k_runI (nn := 0) (As := []) (rest := [.ref (G.2.2.1 27), .ref (G.2.2.1 21)]) (o := 27) X Y V (ki_X7_init_39 l G) rfl wi_X7 (by decide +kernel) wd_170 ⟨⟨rfl, rfl⟩, ⟨Nat.le_of_ble_eq_true rfl, Nat.le_of_ble_eq_true rfl⟩, Nat.le_of_ble_eq_true rfl, Nat.le_of_ble_eq_true rfl⟩ rfl rfl hl.1 (Nat.le_of_ble_eq_true rfl) dX6_init_28) (fun H locs V => ?_)
    refine k_pr (kI := 2) X Y V hin ci_6 kd_21 ⟨by decide, by decide⟩ (by decide) (by decide) 2 rfl (by decide) rfl rfl rfl rfl (tyX6_ok 2 (by decide)) (fun _ => rfl) (fun _ => rfl) wd_174 (σ' := st_55) rfl dX6_init_31 (fun H locs V => ?_)
    exact k_rv X V dX6_init_34
  exact go _ _ _ X V
set_option maxRecDepth 100000 in
set_option maxHeartbeats 4000000 in
theorem ki_X1_init_69 (l : Launch) (G : UG) : Met l yX1_init (.code yX1_init cX1_init 1 (Option.none : Option Jvm.ClassFile.FieldType) :: TB) { frames := 1, cells := 1, slots := 40, locals := 12 } (uvPk G 39 st_69 [.ref (G.2.2.1 38)]) (uvKv G 40 st_70) 1 40 (uvKA G) := by
  refine k_met (own := RX1) (lv := [(0, .ref (G.2.2.1 38))]) (by decide) rfl (Nat.le_of_ble_eq_true rfl) rfl ?_
  intro p e s m below meth c ls X Y V hl hin
  have go : ∀ (args : Array Value) (H : Heap) (locs : List Loc), uvCx p m c cX1_init 1 RX1 s args meth (Option.none : Option Jvm.ClassFile.FieldType) → uvWk G 39 st_69 s H locs → W p l e { frames := 1, cells := 1, slots := 40, locals := 12 } s m args below meth c H locs 0 0 (MQ below (uvKv G 40 st_70) args s 1 40 (uvKA G)) (F0 m 0 ls []) := by
    intro args H locs X V
    refine r_aln X dX1_init_0 rfl (lv_at hl 0 rfl) ?_
    refine k_obj X wd_209 w_obj hl.1 (Nat.le_of_ble_eq_true rfl) (Nat.le_of_ble_eq_true rfl) dX1_init_1 ?_
    refine r_aln X dX1_init_4 rfl (lv_at hl 0 rfl) ?_
    refine r_bp X dX1_init_5 (by decide) ?_
    refine k_newa X Y V kd_39 ln_39 rfl (Nat.le_of_ble_eq_true rfl) (zst_n (zst_mono z_69 (by decide))) wd_85 (Nat.le_of_ble_eq_true rfl) (Nat.le_of_ble_eq_true rfl) dX1_init_7 (fun H V => ?_)
    refine k_pr (kI := 0) X Y V hin ci_1 kd_38 ⟨by decide, by decide⟩ (by decide) (by decide) 0 rfl (by decide) rfl rfl rfl rfl (tyX1_ok 0 (by decide)) (fun _ => rfl) (fun _ => rfl) wd_210 (σ' := st_70) rfl dX1_init_9 (fun H locs V => ?_)
    exact k_rv X V dX1_init_12
  exact go _ _ _ X V
set_option maxRecDepth 100000 in
set_option maxHeartbeats 4000000 in
theorem ki_X1_init_71 (l : Launch) (G : UG) : Met l yX1_init (.code yX1_init cX1_init 1 (Option.none : Option Jvm.ClassFile.FieldType) :: TB) { frames := 1, cells := 1, slots := 40, locals := 12 } (uvPk G 41 st_71 [.ref (G.2.2.1 40)]) (uvKv G 42 st_72) 1 40 (uvKA G) := by
  refine k_met (own := RX1) (lv := [(0, .ref (G.2.2.1 40))]) (by decide) rfl (Nat.le_of_ble_eq_true rfl) rfl ?_
  intro p e s m below meth c ls X Y V hl hin
  have go : ∀ (args : Array Value) (H : Heap) (locs : List Loc), uvCx p m c cX1_init 1 RX1 s args meth (Option.none : Option Jvm.ClassFile.FieldType) → uvWk G 41 st_71 s H locs → W p l e { frames := 1, cells := 1, slots := 40, locals := 12 } s m args below meth c H locs 0 0 (MQ below (uvKv G 42 st_72) args s 1 40 (uvKA G)) (F0 m 0 ls []) := by
    intro args H locs X V
    refine r_aln X dX1_init_0 rfl (lv_at hl 0 rfl) ?_
    refine k_obj X wd_209 w_obj hl.1 (Nat.le_of_ble_eq_true rfl) (Nat.le_of_ble_eq_true rfl) dX1_init_1 ?_
    refine r_aln X dX1_init_4 rfl (lv_at hl 0 rfl) ?_
    refine r_bp X dX1_init_5 (by decide) ?_
    refine k_newa X Y V kd_41 ln_41 rfl (Nat.le_of_ble_eq_true rfl) (zst_n (zst_mono z_71 (by decide))) wd_85 (Nat.le_of_ble_eq_true rfl) (Nat.le_of_ble_eq_true rfl) dX1_init_7 (fun H V => ?_)
    refine k_pr (kI := 0) X Y V hin ci_1 kd_40 ⟨by decide, by decide⟩ (by decide) (by decide) 0 rfl (by decide) rfl rfl rfl rfl (tyX1_ok 0 (by decide)) (fun _ => rfl) (fun _ => rfl) wd_210 (σ' := st_72) rfl dX1_init_9 (fun H locs V => ?_)
    exact k_rv X V dX1_init_12
  exact go _ _ _ X V
set_option maxRecDepth 100000 in
set_option maxHeartbeats 4000000 in
theorem ki_X1_init_73 (l : Launch) (G : UG) : Met l yX1_init (.code yX1_init cX1_init 1 (Option.none : Option Jvm.ClassFile.FieldType) :: TB) { frames := 1, cells := 1, slots := 40, locals := 12 } (uvPk G 43 st_73 [.ref (G.2.2.1 42)]) (uvKv G 44 st_74) 1 40 (uvKA G) := by
  refine k_met (own := RX1) (lv := [(0, .ref (G.2.2.1 42))]) (by decide) rfl (Nat.le_of_ble_eq_true rfl) rfl ?_
  intro p e s m below meth c ls X Y V hl hin
  have go : ∀ (args : Array Value) (H : Heap) (locs : List Loc), uvCx p m c cX1_init 1 RX1 s args meth (Option.none : Option Jvm.ClassFile.FieldType) → uvWk G 43 st_73 s H locs → W p l e { frames := 1, cells := 1, slots := 40, locals := 12 } s m args below meth c H locs 0 0 (MQ below (uvKv G 44 st_74) args s 1 40 (uvKA G)) (F0 m 0 ls []) := by
    intro args H locs X V
    refine r_aln X dX1_init_0 rfl (lv_at hl 0 rfl) ?_
    refine k_obj X wd_209 w_obj hl.1 (Nat.le_of_ble_eq_true rfl) (Nat.le_of_ble_eq_true rfl) dX1_init_1 ?_
    refine r_aln X dX1_init_4 rfl (lv_at hl 0 rfl) ?_
    refine r_bp X dX1_init_5 (by decide) ?_
    refine k_newa X Y V kd_43 ln_43 rfl (Nat.le_of_ble_eq_true rfl) (zst_n (zst_mono z_73 (by decide))) wd_85 (Nat.le_of_ble_eq_true rfl) (Nat.le_of_ble_eq_true rfl) dX1_init_7 (fun H V => ?_)
    refine k_pr (kI := 0) X Y V hin ci_1 kd_42 ⟨by decide, by decide⟩ (by decide) (by decide) 0 rfl (by decide) rfl rfl rfl rfl (tyX1_ok 0 (by decide)) (fun _ => rfl) (fun _ => rfl) wd_210 (σ' := st_74) rfl dX1_init_9 (fun H locs V => ?_)
    exact k_rv X V dX1_init_12
  exact go _ _ _ X V
set_option maxRecDepth 100000 in
set_option maxHeartbeats 4000000 in
theorem ki_X1_init_75 (l : Launch) (G : UG) : Met l yX1_init (.code yX1_init cX1_init 1 (Option.none : Option Jvm.ClassFile.FieldType) :: TB) { frames := 1, cells := 1, slots := 40, locals := 12 } (uvPk G 45 st_75 [.ref (G.2.2.1 44)]) (uvKv G 46 st_76) 1 40 (uvKA G) := by
  refine k_met (own := RX1) (lv := [(0, .ref (G.2.2.1 44))]) (by decide) rfl (Nat.le_of_ble_eq_true rfl) rfl ?_
  intro p e s m below meth c ls X Y V hl hin
  have go : ∀ (args : Array Value) (H : Heap) (locs : List Loc), uvCx p m c cX1_init 1 RX1 s args meth (Option.none : Option Jvm.ClassFile.FieldType) → uvWk G 45 st_75 s H locs → W p l e { frames := 1, cells := 1, slots := 40, locals := 12 } s m args below meth c H locs 0 0 (MQ below (uvKv G 46 st_76) args s 1 40 (uvKA G)) (F0 m 0 ls []) := by
    intro args H locs X V
    refine r_aln X dX1_init_0 rfl (lv_at hl 0 rfl) ?_
    refine k_obj X wd_209 w_obj hl.1 (Nat.le_of_ble_eq_true rfl) (Nat.le_of_ble_eq_true rfl) dX1_init_1 ?_
    refine r_aln X dX1_init_4 rfl (lv_at hl 0 rfl) ?_
    refine r_bp X dX1_init_5 (by decide) ?_
    refine k_newa X Y V kd_45 ln_45 rfl (Nat.le_of_ble_eq_true rfl) (zst_n (zst_mono z_75 (by decide))) wd_85 (Nat.le_of_ble_eq_true rfl) (Nat.le_of_ble_eq_true rfl) dX1_init_7 (fun H V => ?_)
    refine k_pr (kI := 0) X Y V hin ci_1 kd_44 ⟨by decide, by decide⟩ (by decide) (by decide) 0 rfl (by decide) rfl rfl rfl rfl (tyX1_ok 0 (by decide)) (fun _ => rfl) (fun _ => rfl) wd_210 (σ' := st_76) rfl dX1_init_9 (fun H locs V => ?_)
    exact k_rv X V dX1_init_12
  exact go _ _ _ X V
set_option maxRecDepth 100000 in
set_option maxHeartbeats 4000000 in
theorem ki_X1_init_77 (l : Launch) (G : UG) : Met l yX1_init (.code yX1_init cX1_init 1 (Option.none : Option Jvm.ClassFile.FieldType) :: TB) { frames := 1, cells := 1, slots := 40, locals := 12 } (uvPk G 47 st_77 [.ref (G.2.2.1 46)]) (uvKv G 48 st_78) 1 40 (uvKA G) := by
  refine k_met (own := RX1) (lv := [(0, .ref (G.2.2.1 46))]) (by decide) rfl (Nat.le_of_ble_eq_true rfl) rfl ?_
  intro p e s m below meth c ls X Y V hl hin
  have go : ∀ (args : Array Value) (H : Heap) (locs : List Loc), uvCx p m c cX1_init 1 RX1 s args meth (Option.none : Option Jvm.ClassFile.FieldType) → uvWk G 47 st_77 s H locs → W p l e { frames := 1, cells := 1, slots := 40, locals := 12 } s m args below meth c H locs 0 0 (MQ below (uvKv G 48 st_78) args s 1 40 (uvKA G)) (F0 m 0 ls []) := by
    intro args H locs X V
    refine r_aln X dX1_init_0 rfl (lv_at hl 0 rfl) ?_
    refine k_obj X wd_209 w_obj hl.1 (Nat.le_of_ble_eq_true rfl) (Nat.le_of_ble_eq_true rfl) dX1_init_1 ?_
    refine r_aln X dX1_init_4 rfl (lv_at hl 0 rfl) ?_
    refine r_bp X dX1_init_5 (by decide) ?_
    refine k_newa X Y V kd_47 ln_47 rfl (Nat.le_of_ble_eq_true rfl) (zst_n (zst_mono z_77 (by decide))) wd_85 (Nat.le_of_ble_eq_true rfl) (Nat.le_of_ble_eq_true rfl) dX1_init_7 (fun H V => ?_)
    refine k_pr (kI := 0) X Y V hin ci_1 kd_46 ⟨by decide, by decide⟩ (by decide) (by decide) 0 rfl (by decide) rfl rfl rfl rfl (tyX1_ok 0 (by decide)) (fun _ => rfl) (fun _ => rfl) wd_210 (σ' := st_78) rfl dX1_init_9 (fun H locs V => ?_)
    exact k_rv X V dX1_init_12
  exact go _ _ _ X V
set_option maxRecDepth 100000 in
set_option maxHeartbeats 4000000 in
theorem ki_X1_init_79 (l : Launch) (G : UG) : Met l yX1_init (.code yX1_init cX1_init 1 (Option.none : Option Jvm.ClassFile.FieldType) :: TB) { frames := 1, cells := 1, slots := 40, locals := 12 } (uvPk G 49 st_79 [.ref (G.2.2.1 48)]) (uvKv G 50 st_80) 1 40 (uvKA G) := by
  refine k_met (own := RX1) (lv := [(0, .ref (G.2.2.1 48))]) (by decide) rfl (Nat.le_of_ble_eq_true rfl) rfl ?_
  intro p e s m below meth c ls X Y V hl hin
  have go : ∀ (args : Array Value) (H : Heap) (locs : List Loc), uvCx p m c cX1_init 1 RX1 s args meth (Option.none : Option Jvm.ClassFile.FieldType) → uvWk G 49 st_79 s H locs → W p l e { frames := 1, cells := 1, slots := 40, locals := 12 } s m args below meth c H locs 0 0 (MQ below (uvKv G 50 st_80) args s 1 40 (uvKA G)) (F0 m 0 ls []) := by
    intro args H locs X V
    refine r_aln X dX1_init_0 rfl (lv_at hl 0 rfl) ?_
    refine k_obj X wd_209 w_obj hl.1 (Nat.le_of_ble_eq_true rfl) (Nat.le_of_ble_eq_true rfl) dX1_init_1 ?_
    refine r_aln X dX1_init_4 rfl (lv_at hl 0 rfl) ?_
    refine r_bp X dX1_init_5 (by decide) ?_
    refine k_newa X Y V kd_49 ln_49 rfl (Nat.le_of_ble_eq_true rfl) (zst_n (zst_mono z_79 (by decide))) wd_85 (Nat.le_of_ble_eq_true rfl) (Nat.le_of_ble_eq_true rfl) dX1_init_7 (fun H V => ?_)
    refine k_pr (kI := 0) X Y V hin ci_1 kd_48 ⟨by decide, by decide⟩ (by decide) (by decide) 0 rfl (by decide) rfl rfl rfl rfl (tyX1_ok 0 (by decide)) (fun _ => rfl) (fun _ => rfl) wd_210 (σ' := st_80) rfl dX1_init_9 (fun H locs V => ?_)
    exact k_rv X V dX1_init_12
  exact go _ _ _ X V
set_option maxRecDepth 100000 in
set_option maxHeartbeats 4000000 in
theorem ki_X1_init_81 (l : Launch) (G : UG) : Met l yX1_init (.code yX1_init cX1_init 1 (Option.none : Option Jvm.ClassFile.FieldType) :: TB) { frames := 1, cells := 1, slots := 40, locals := 12 } (uvPk G 51 st_81 [.ref (G.2.2.1 50)]) (uvKv G 52 st_82) 1 40 (uvKA G) := by
  refine k_met (own := RX1) (lv := [(0, .ref (G.2.2.1 50))]) (by decide) rfl (Nat.le_of_ble_eq_true rfl) rfl ?_
  intro p e s m below meth c ls X Y V hl hin
  have go : ∀ (args : Array Value) (H : Heap) (locs : List Loc), uvCx p m c cX1_init 1 RX1 s args meth (Option.none : Option Jvm.ClassFile.FieldType) → uvWk G 51 st_81 s H locs → W p l e { frames := 1, cells := 1, slots := 40, locals := 12 } s m args below meth c H locs 0 0 (MQ below (uvKv G 52 st_82) args s 1 40 (uvKA G)) (F0 m 0 ls []) := by
    intro args H locs X V
    refine r_aln X dX1_init_0 rfl (lv_at hl 0 rfl) ?_
    refine k_obj X wd_209 w_obj hl.1 (Nat.le_of_ble_eq_true rfl) (Nat.le_of_ble_eq_true rfl) dX1_init_1 ?_
    refine r_aln X dX1_init_4 rfl (lv_at hl 0 rfl) ?_
    refine r_bp X dX1_init_5 (by decide) ?_
    refine k_newa X Y V kd_51 ln_51 rfl (Nat.le_of_ble_eq_true rfl) (zst_n (zst_mono z_81 (by decide))) wd_85 (Nat.le_of_ble_eq_true rfl) (Nat.le_of_ble_eq_true rfl) dX1_init_7 (fun H V => ?_)
    refine k_pr (kI := 0) X Y V hin ci_1 kd_50 ⟨by decide, by decide⟩ (by decide) (by decide) 0 rfl (by decide) rfl rfl rfl rfl (tyX1_ok 0 (by decide)) (fun _ => rfl) (fun _ => rfl) wd_210 (σ' := st_82) rfl dX1_init_9 (fun H locs V => ?_)
    exact k_rv X V dX1_init_12
  exact go _ _ _ X V
set_option maxRecDepth 100000 in
set_option maxHeartbeats 4000000 in
theorem ki_X1_init_83 (l : Launch) (G : UG) : Met l yX1_init (.code yX1_init cX1_init 1 (Option.none : Option Jvm.ClassFile.FieldType) :: TB) { frames := 1, cells := 1, slots := 40, locals := 12 } (uvPk G 53 st_83 [.ref (G.2.2.1 52)]) (uvKv G 54 st_84) 1 40 (uvKA G) := by
  refine k_met (own := RX1) (lv := [(0, .ref (G.2.2.1 52))]) (by decide) rfl (Nat.le_of_ble_eq_true rfl) rfl ?_
  intro p e s m below meth c ls X Y V hl hin
  have go : ∀ (args : Array Value) (H : Heap) (locs : List Loc), uvCx p m c cX1_init 1 RX1 s args meth (Option.none : Option Jvm.ClassFile.FieldType) → uvWk G 53 st_83 s H locs → W p l e { frames := 1, cells := 1, slots := 40, locals := 12 } s m args below meth c H locs 0 0 (MQ below (uvKv G 54 st_84) args s 1 40 (uvKA G)) (F0 m 0 ls []) := by
    intro args H locs X V
    refine r_aln X dX1_init_0 rfl (lv_at hl 0 rfl) ?_
    refine k_obj X wd_209 w_obj hl.1 (Nat.le_of_ble_eq_true rfl) (Nat.le_of_ble_eq_true rfl) dX1_init_1 ?_
    refine r_aln X dX1_init_4 rfl (lv_at hl 0 rfl) ?_
    refine r_bp X dX1_init_5 (by decide) ?_
    refine k_newa X Y V kd_53 ln_53 rfl (Nat.le_of_ble_eq_true rfl) (zst_n (zst_mono z_83 (by decide))) wd_85 (Nat.le_of_ble_eq_true rfl) (Nat.le_of_ble_eq_true rfl) dX1_init_7 (fun H V => ?_)
    refine k_pr (kI := 0) X Y V hin ci_1 kd_52 ⟨by decide, by decide⟩ (by decide) (by decide) 0 rfl (by decide) rfl rfl rfl rfl (tyX1_ok 0 (by decide)) (fun _ => rfl) (fun _ => rfl) wd_210 (σ' := st_84) rfl dX1_init_9 (fun H locs V => ?_)
    exact k_rv X V dX1_init_12
  exact go _ _ _ X V
set_option maxRecDepth 100000 in
set_option maxHeartbeats 4000000 in
theorem ki_X2_init_63 (l : Launch) (G : UG) : Met l yX2_init (.code yX2_init cX2_init 6 (Option.none : Option Jvm.ClassFile.FieldType) :: TB) { frames := 2, cells := 18, slots := 400, locals := 32 } (uvPk G 36 st_63 [.ref (G.2.2.1 35), .ref (G.2.2.1 1), .ref (G.2.2.1 10), .ref (G.2.2.1 14), .ref (G.2.2.1 34)]) (uvKv G 54 st_85) 18 400 (uvKA G) := by
  refine k_met (own := RX2) (lv := [(0, .ref (G.2.2.1 35)), (1, .ref (G.2.2.1 1)), (2, .ref (G.2.2.1 10)), (3, .ref (G.2.2.1 14)), (4, .ref (G.2.2.1 34))]) (by decide) rfl (Nat.le_of_ble_eq_true rfl) rfl ?_
  intro p e s m below meth c ls X Y V hl hin
  have go : ∀ (args : Array Value) (H : Heap) (locs : List Loc), uvCx p m c cX2_init 6 RX2 s args meth (Option.none : Option Jvm.ClassFile.FieldType) → uvWk G 36 st_63 s H locs → W p l e { frames := 2, cells := 18, slots := 400, locals := 32 } s m args below meth c H locs 0 0 (MQ below (uvKv G 54 st_85) args s 18 400 (uvKA G)) (F0 m 0 ls []) := by
    intro args H locs X V
    refine r_aln X dX2_init_0 rfl (lv_at hl 0 rfl) ?_
    refine k_obj X wd_202 w_obj hl.1 (Nat.le_of_ble_eq_true rfl) (Nat.le_of_ble_eq_true rfl) dX2_init_1 ?_
    refine r_aln X dX2_init_4 rfl (lv_at hl 0 rfl) ?_
    refine r_bp X dX2_init_5 (by decide) ?_
    refine k_newa X Y V kd_36 ln_36 rfl (Nat.le_of_ble_eq_true rfl) (zst_n (zst_mono z_63 (by decide))) wd_85 (Nat.le_of_ble_eq_true rfl) (Nat.le_of_ble_eq_true rfl) dX2_init_7 (fun H V => ?_)
    refine k_pr (kI := 4) X Y V hin ci_2 kd_35 ⟨by decide, by decide⟩ (by decide) (by decide) 4 rfl (by decide) rfl rfl rfl rfl (tyX2_ok 4 (by decide)) (fun _ => rfl) (fun _ => rfl) wd_236 (σ' := st_64) rfl dX2_init_9 (fun H locs V => ?_)
    refine r_aln X dX2_init_12 rfl (lv_at hl 0 rfl) ?_
    refine r_bp X dX2_init_13 (by decide) ?_
    refine k_newq X Y V 1 (by decide) kd_37 rfl Y.2.2.1.1 ln_37 rfl (Nat.le_of_ble_eq_true rfl) (zst_r (zst_mono z_64 (by decide))) wd_203 (Nat.le_of_ble_eq_true rfl) (Nat.le_of_ble_eq_true rfl) dX2_init_15 (fun H V => ?_)
    refine k_pr (kI := 5) X Y V hin ci_2 kd_35 ⟨by decide, by decide⟩ (by decide) (by decide) 5 rfl (by decide) rfl rfl rfl rfl (tyX2_ok 5 (by decide)) (fun _ => rfl) (fun _ => rfl) wd_237 (σ' := st_65) rfl dX2_init_18 (fun H locs V => ?_)
    refine r_aln X dX2_init_21 rfl (lv_at hl 0 rfl) ?_
    refine r_aln X dX2_init_22 rfl (lv_at hl 1 rfl) ?_
    refine k_pr (kI := 0) X Y V hin ci_2 kd_35 ⟨by decide, by decide⟩ (by decide) (by decide) 0 rfl (by decide) rfl rfl rfl rfl (tyX2_ok 0 (by decide)) (fun _ => rfl) (fun _ => rfl) wd_232 (σ' := st_66) rfl dX2_init_23 (fun H locs V => ?_)
    refine r_aln X dX2_init_26 rfl (lv_at hl 0 rfl) ?_
    refine r_aln X dX2_init_27 rfl (lv_at hl 2 rfl) ?_
    refine k_pr (kI := 1) X Y V hin ci_2 kd_35 ⟨by decide, by decide⟩ (by decide) (by decide) 1 rfl (by decide) rfl rfl rfl rfl (tyX2_ok 1 (by decide)) (fun _ => rfl) (fun _ => rfl) wd_233 (σ' := st_67) rfl dX2_init_28 (fun H locs V => ?_)
    refine r_aln X dX2_init_31 rfl (lv_at hl 0 rfl) ?_
    refine r_aln X dX2_init_32 rfl (lv_at hl 3 rfl) ?_
    refine k_pr (kI := 2) X Y V hin ci_2 kd_35 ⟨by decide, by decide⟩ (by decide) (by decide) 2 rfl (by decide) rfl rfl rfl rfl (tyX2_ok 2 (by decide)) (fun _ => rfl) (fun _ => rfl) wd_234 (σ' := st_68) rfl dX2_init_33 (fun H locs V => ?_)
    refine r_aln X dX2_init_36 rfl (lv_at hl 0 rfl) ?_
    refine r_al X dX2_init_37 (lv_at hl 4 rfl) ?_
    refine k_pr (kI := 3) X Y V hin ci_2 kd_35 ⟨by decide, by decide⟩ (by decide) (by decide) 3 rfl (by decide) rfl rfl rfl rfl (tyX2_ok 3 (by decide)) (fun _ => rfl) (fun _ => rfl) wd_235 (σ' := st_69) rfl dX2_init_39 (fun H locs V => ?_)
    refine r_ic X dX2_init_42 ?_
    refine r_is (lv' := [(5, .int (iV 0)), (0, .ref (G.2.2.1 35)), (1, .ref (G.2.2.1 1)), (2, .ref (G.2.2.1 10)), (3, .ref (G.2.2.1 14)), (4, .ref (G.2.2.1 34))]) X dX2_init_43 hl (by decide) rfl (fun ls hl => ?_)
    refine r_il X dX2_init_45 (lv_at hl 0 rfl) ?_
    refine r_bp X dX2_init_47 (by decide) ?_
    refine r_cge (cx := 0) (cy := 8) (tgt := 72) X rfl rfl dX2_init_49 (by decide) (fun _ => ?_) (fun c => absurd (by decide) c)
    refine r_aln X dX2_init_52 rfl (lv_at hl 1 rfl) ?_
    refine k_gr (kI := 5) (o' := 37) X Y V ci_2 kd_35 ⟨by decide, by decide⟩ 5 rfl (by decide +kernel) (by decide) rfl rfl wd_237 dX2_init_53 ?_
    refine r_il X dX2_init_56 (lv_at hl 0 rfl) ?_
    refine k_new X Y V ci_1 kd_38 (zst_n (zst_mono z_69 (by decide))) (zst_r (zst_mono z_69 (by decide))) df_1 wd_203 wd_205 wd_7 (Nat.le_of_ble_eq_true rfl) (Nat.le_of_ble_eq_true rfl) dX2_init_58 (fun H V => ?_)
    refine r_dup X dX2_init_61 rfl ?_
    refine k_kv V (k_runIN (nn := 0) (As := []) (rest := [.ref (G.2.2.1 38), .int (iV 0), .ref (G.2.2.1 37)]) (o := 38) X Y V (ki_X1_init_69 l G) rfl wi_X1 (by decide +kernel) Y.2.2.2.2.2.2 ⟨⟨rfl, rfl⟩, ⟨Nat.le_of_ble_eq_true rfl, Nat.le_of_ble_eq_true rfl⟩, Nat.le_of_ble_eq_true rfl, Nat.le_of_ble_eq_true rfl⟩ rfl rfl hl.1 (Nat.le_of_ble_eq_true rfl) dX2_init_62) (fun H locs V => ?_)
    refine k_aas X Y V 1 (r := (RX1, TX1, 4)) (by decide) kd_37 ⟨by decide, by decide⟩ (by decide) rfl (ci := 1) rfl (by decide) kd_38 ⟨by decide, by decide⟩ ln_37 ⟨by decide, by decide⟩ (σ' := st_71) rfl dX2_init_65 (fun H locs V => ?_)
    refine r_inc (kk := 0) (lv' := [(5, .int (iV 1)), (0, .ref (G.2.2.1 35)), (1, .ref (G.2.2.1 1)), (2, .ref (G.2.2.1 10)), (3, .ref (G.2.2.1 14)), (4, .ref (G.2.2.1 34))]) X dX2_init_66 hl rfl (by decide) rfl (fun ls hl => ?_)
    refine r_goto (tgt := 45) X dX2_init_69 (by decide) ?_
    refine r_il X dX2_init_45 (lv_at hl 0 rfl) ?_
    refine r_bp X dX2_init_47 (by decide) ?_
    refine r_cge (cx := 1) (cy := 8) (tgt := 72) X rfl rfl dX2_init_49 (by decide) (fun _ => ?_) (fun c => absurd (by decide) c)
    refine r_aln X dX2_init_52 rfl (lv_at hl 1 rfl) ?_
    refine k_gr (kI := 5) (o' := 37) X Y V ci_2 kd_35 ⟨by decide, by decide⟩ 5 rfl (by decide +kernel) (by decide) rfl rfl wd_237 dX2_init_53 ?_
    refine r_il X dX2_init_56 (lv_at hl 0 rfl) ?_
    refine k_new X Y V ci_1 kd_40 (zst_n (zst_mono z_71 (by decide))) (zst_r (zst_mono z_71 (by decide))) df_1 wd_203 wd_205 wd_7 (Nat.le_of_ble_eq_true rfl) (Nat.le_of_ble_eq_true rfl) dX2_init_58 (fun H V => ?_)
    refine r_dup X dX2_init_61 rfl ?_
    refine k_kv V (k_runIN (nn := 0) (As := []) (rest := [.ref (G.2.2.1 40), .int (iV 1), .ref (G.2.2.1 37)]) (o := 40) X Y V (ki_X1_init_71 l G) rfl wi_X1 (by decide +kernel) Y.2.2.2.2.2.2 ⟨⟨rfl, rfl⟩, ⟨Nat.le_of_ble_eq_true rfl, Nat.le_of_ble_eq_true rfl⟩, Nat.le_of_ble_eq_true rfl, Nat.le_of_ble_eq_true rfl⟩ rfl rfl hl.1 (Nat.le_of_ble_eq_true rfl) dX2_init_62) (fun H locs V => ?_)
    refine k_aas X Y V 1 (r := (RX1, TX1, 4)) (by decide) kd_37 ⟨by decide, by decide⟩ (by decide) rfl (ci := 1) rfl (by decide) kd_40 ⟨by decide, by decide⟩ ln_37 ⟨by decide, by decide⟩ (σ' := st_73) rfl dX2_init_65 (fun H locs V => ?_)
    refine r_inc (kk := 0) (lv' := [(5, .int (iV 2)), (0, .ref (G.2.2.1 35)), (1, .ref (G.2.2.1 1)), (2, .ref (G.2.2.1 10)), (3, .ref (G.2.2.1 14)), (4, .ref (G.2.2.1 34))]) X dX2_init_66 hl rfl (by decide) rfl (fun ls hl => ?_)
    refine r_goto (tgt := 45) X dX2_init_69 (by decide) ?_
    refine r_il X dX2_init_45 (lv_at hl 0 rfl) ?_
    refine r_bp X dX2_init_47 (by decide) ?_
    refine r_cge (cx := 2) (cy := 8) (tgt := 72) X rfl rfl dX2_init_49 (by decide) (fun _ => ?_) (fun c => absurd (by decide) c)
    refine r_aln X dX2_init_52 rfl (lv_at hl 1 rfl) ?_
    refine k_gr (kI := 5) (o' := 37) X Y V ci_2 kd_35 ⟨by decide, by decide⟩ 5 rfl (by decide +kernel) (by decide) rfl rfl wd_237 dX2_init_53 ?_
    refine r_il X dX2_init_56 (lv_at hl 0 rfl) ?_
    refine k_new X Y V ci_1 kd_42 (zst_n (zst_mono z_73 (by decide))) (zst_r (zst_mono z_73 (by decide))) df_1 wd_203 wd_205 wd_7 (Nat.le_of_ble_eq_true rfl) (Nat.le_of_ble_eq_true rfl) dX2_init_58 (fun H V => ?_)
    refine r_dup X dX2_init_61 rfl ?_
    refine k_kv V (k_runIN (nn := 0) (As := []) (rest := [.ref (G.2.2.1 42), .int (iV 2), .ref (G.2.2.1 37)]) (o := 42) X Y V (ki_X1_init_73 l G) rfl wi_X1 (by decide +kernel) Y.2.2.2.2.2.2 ⟨⟨rfl, rfl⟩, ⟨Nat.le_of_ble_eq_true rfl, Nat.le_of_ble_eq_true rfl⟩, Nat.le_of_ble_eq_true rfl, Nat.le_of_ble_eq_true rfl⟩ rfl rfl hl.1 (Nat.le_of_ble_eq_true rfl) dX2_init_62) (fun H locs V => ?_)
    refine k_aas X Y V 1 (r := (RX1, TX1, 4)) (by decide) kd_37 ⟨by decide, by decide⟩ (by decide) rfl (ci := 1) rfl (by decide) kd_42 ⟨by decide, by decide⟩ ln_37 ⟨by decide, by decide⟩ (σ' := st_75) rfl dX2_init_65 (fun H locs V => ?_)
    refine r_inc (kk := 0) (lv' := [(5, .int (iV 3)), (0, .ref (G.2.2.1 35)), (1, .ref (G.2.2.1 1)), (2, .ref (G.2.2.1 10)), (3, .ref (G.2.2.1 14)), (4, .ref (G.2.2.1 34))]) X dX2_init_66 hl rfl (by decide) rfl (fun ls hl => ?_)
    refine r_goto (tgt := 45) X dX2_init_69 (by decide) ?_
    refine r_il X dX2_init_45 (lv_at hl 0 rfl) ?_
    refine r_bp X dX2_init_47 (by decide) ?_
    refine r_cge (cx := 3) (cy := 8) (tgt := 72) X rfl rfl dX2_init_49 (by decide) (fun _ => ?_) (fun c => absurd (by decide) c)
    refine r_aln X dX2_init_52 rfl (lv_at hl 1 rfl) ?_
    refine k_gr (kI := 5) (o' := 37) X Y V ci_2 kd_35 ⟨by decide, by decide⟩ 5 rfl (by decide +kernel) (by decide) rfl rfl wd_237 dX2_init_53 ?_
    refine r_il X dX2_init_56 (lv_at hl 0 rfl) ?_
    refine k_new X Y V ci_1 kd_44 (zst_n (zst_mono z_75 (by decide))) (zst_r (zst_mono z_75 (by decide))) df_1 wd_203 wd_205 wd_7 (Nat.le_of_ble_eq_true rfl) (Nat.le_of_ble_eq_true rfl) dX2_init_58 (fun H V => ?_)
    refine r_dup X dX2_init_61 rfl ?_
    refine k_kv V (k_runIN (nn := 0) (As := []) (rest := [.ref (G.2.2.1 44), .int (iV 3), .ref (G.2.2.1 37)]) (o := 44) X Y V (ki_X1_init_75 l G) rfl wi_X1 (by decide +kernel) Y.2.2.2.2.2.2 ⟨⟨rfl, rfl⟩, ⟨Nat.le_of_ble_eq_true rfl, Nat.le_of_ble_eq_true rfl⟩, Nat.le_of_ble_eq_true rfl, Nat.le_of_ble_eq_true rfl⟩ rfl rfl hl.1 (Nat.le_of_ble_eq_true rfl) dX2_init_62) (fun H locs V => ?_)
    refine k_aas X Y V 1 (r := (RX1, TX1, 4)) (by decide) kd_37 ⟨by decide, by decide⟩ (by decide) rfl (ci := 1) rfl (by decide) kd_44 ⟨by decide, by decide⟩ ln_37 ⟨by decide, by decide⟩ (σ' := st_77) rfl dX2_init_65 (fun H locs V => ?_)
    refine r_inc (kk := 0) (lv' := [(5, .int (iV 4)), (0, .ref (G.2.2.1 35)), (1, .ref (G.2.2.1 1)), (2, .ref (G.2.2.1 10)), (3, .ref (G.2.2.1 14)), (4, .ref (G.2.2.1 34))]) X dX2_init_66 hl rfl (by decide) rfl (fun ls hl => ?_)
    refine r_goto (tgt := 45) X dX2_init_69 (by decide) ?_
    refine r_il X dX2_init_45 (lv_at hl 0 rfl) ?_
    refine r_bp X dX2_init_47 (by decide) ?_
    refine r_cge (cx := 4) (cy := 8) (tgt := 72) X rfl rfl dX2_init_49 (by decide) (fun _ => ?_) (fun c => absurd (by decide) c)
    refine r_aln X dX2_init_52 rfl (lv_at hl 1 rfl) ?_
    refine k_gr (kI := 5) (o' := 37) X Y V ci_2 kd_35 ⟨by decide, by decide⟩ 5 rfl (by decide +kernel) (by decide) rfl rfl wd_237 dX2_init_53 ?_
    refine r_il X dX2_init_56 (lv_at hl 0 rfl) ?_
    refine k_new X Y V ci_1 kd_46 (zst_n (zst_mono z_77 (by decide))) (zst_r (zst_mono z_77 (by decide))) df_1 wd_203 wd_205 wd_7 (Nat.le_of_ble_eq_true rfl) (Nat.le_of_ble_eq_true rfl) dX2_init_58 (fun H V => ?_)
    refine r_dup X dX2_init_61 rfl ?_
    refine k_kv V (k_runIN (nn := 0) (As := []) (rest := [.ref (G.2.2.1 46), .int (iV 4), .ref (G.2.2.1 37)]) (o := 46) X Y V (ki_X1_init_77 l G) rfl wi_X1 (by decide +kernel) Y.2.2.2.2.2.2 ⟨⟨rfl, rfl⟩, ⟨Nat.le_of_ble_eq_true rfl, Nat.le_of_ble_eq_true rfl⟩, Nat.le_of_ble_eq_true rfl, Nat.le_of_ble_eq_true rfl⟩ rfl rfl hl.1 (Nat.le_of_ble_eq_true rfl) dX2_init_62) (fun H locs V => ?_)
    refine k_aas X Y V 1 (r := (RX1, TX1, 4)) (by decide) kd_37 ⟨by decide, by decide⟩ (by decide) rfl (ci := 1) rfl (by decide) kd_46 ⟨by decide, by decide⟩ ln_37 ⟨by decide, by decide⟩ (σ' := st_79) rfl dX2_init_65 (fun H locs V => ?_)
    refine r_inc (kk := 0) (lv' := [(5, .int (iV 5)), (0, .ref (G.2.2.1 35)), (1, .ref (G.2.2.1 1)), (2, .ref (G.2.2.1 10)), (3, .ref (G.2.2.1 14)), (4, .ref (G.2.2.1 34))]) X dX2_init_66 hl rfl (by decide) rfl (fun ls hl => ?_)
    refine r_goto (tgt := 45) X dX2_init_69 (by decide) ?_
    refine r_il X dX2_init_45 (lv_at hl 0 rfl) ?_
    refine r_bp X dX2_init_47 (by decide) ?_
    refine r_cge (cx := 5) (cy := 8) (tgt := 72) X rfl rfl dX2_init_49 (by decide) (fun _ => ?_) (fun c => absurd (by decide) c)
    refine r_aln X dX2_init_52 rfl (lv_at hl 1 rfl) ?_
    refine k_gr (kI := 5) (o' := 37) X Y V ci_2 kd_35 ⟨by decide, by decide⟩ 5 rfl (by decide +kernel) (by decide) rfl rfl wd_237 dX2_init_53 ?_
    refine r_il X dX2_init_56 (lv_at hl 0 rfl) ?_
    refine k_new X Y V ci_1 kd_48 (zst_n (zst_mono z_79 (by decide))) (zst_r (zst_mono z_79 (by decide))) df_1 wd_203 wd_205 wd_7 (Nat.le_of_ble_eq_true rfl) (Nat.le_of_ble_eq_true rfl) dX2_init_58 (fun H V => ?_)
    refine r_dup X dX2_init_61 rfl ?_
    refine k_kv V (k_runIN (nn := 0) (As := []) (rest := [.ref (G.2.2.1 48), .int (iV 5), .ref (G.2.2.1 37)]) (o := 48) X Y V (ki_X1_init_79 l G) rfl wi_X1 (by decide +kernel) Y.2.2.2.2.2.2 ⟨⟨rfl, rfl⟩, ⟨Nat.le_of_ble_eq_true rfl, Nat.le_of_ble_eq_true rfl⟩, Nat.le_of_ble_eq_true rfl, Nat.le_of_ble_eq_true rfl⟩ rfl rfl hl.1 (Nat.le_of_ble_eq_true rfl) dX2_init_62) (fun H locs V => ?_)
    refine k_aas X Y V 1 (r := (RX1, TX1, 4)) (by decide) kd_37 ⟨by decide, by decide⟩ (by decide) rfl (ci := 1) rfl (by decide) kd_48 ⟨by decide, by decide⟩ ln_37 ⟨by decide, by decide⟩ (σ' := st_81) rfl dX2_init_65 (fun H locs V => ?_)
    refine r_inc (kk := 0) (lv' := [(5, .int (iV 6)), (0, .ref (G.2.2.1 35)), (1, .ref (G.2.2.1 1)), (2, .ref (G.2.2.1 10)), (3, .ref (G.2.2.1 14)), (4, .ref (G.2.2.1 34))]) X dX2_init_66 hl rfl (by decide) rfl (fun ls hl => ?_)
    refine r_goto (tgt := 45) X dX2_init_69 (by decide) ?_
    refine r_il X dX2_init_45 (lv_at hl 0 rfl) ?_
    refine r_bp X dX2_init_47 (by decide) ?_
    refine r_cge (cx := 6) (cy := 8) (tgt := 72) X rfl rfl dX2_init_49 (by decide) (fun _ => ?_) (fun c => absurd (by decide) c)
    refine r_aln X dX2_init_52 rfl (lv_at hl 1 rfl) ?_
    refine k_gr (kI := 5) (o' := 37) X Y V ci_2 kd_35 ⟨by decide, by decide⟩ 5 rfl (by decide +kernel) (by decide) rfl rfl wd_237 dX2_init_53 ?_
    refine r_il X dX2_init_56 (lv_at hl 0 rfl) ?_
    refine k_new X Y V ci_1 kd_50 (zst_n (zst_mono z_81 (by decide))) (zst_r (zst_mono z_81 (by decide))) df_1 wd_203 wd_205 wd_7 (Nat.le_of_ble_eq_true rfl) (Nat.le_of_ble_eq_true rfl) dX2_init_58 (fun H V => ?_)
    refine r_dup X dX2_init_61 rfl ?_
    refine k_kv V (k_runIN (nn := 0) (As := []) (rest := [.ref (G.2.2.1 50), .int (iV 6), .ref (G.2.2.1 37)]) (o := 50) X Y V (ki_X1_init_81 l G) rfl wi_X1 (by decide +kernel) Y.2.2.2.2.2.2 ⟨⟨rfl, rfl⟩, ⟨Nat.le_of_ble_eq_true rfl, Nat.le_of_ble_eq_true rfl⟩, Nat.le_of_ble_eq_true rfl, Nat.le_of_ble_eq_true rfl⟩ rfl rfl hl.1 (Nat.le_of_ble_eq_true rfl) dX2_init_62) (fun H locs V => ?_)
    refine k_aas X Y V 1 (r := (RX1, TX1, 4)) (by decide) kd_37 ⟨by decide, by decide⟩ (by decide) rfl (ci := 1) rfl (by decide) kd_50 ⟨by decide, by decide⟩ ln_37 ⟨by decide, by decide⟩ (σ' := st_83) rfl dX2_init_65 (fun H locs V => ?_)
    refine r_inc (kk := 0) (lv' := [(5, .int (iV 7)), (0, .ref (G.2.2.1 35)), (1, .ref (G.2.2.1 1)), (2, .ref (G.2.2.1 10)), (3, .ref (G.2.2.1 14)), (4, .ref (G.2.2.1 34))]) X dX2_init_66 hl rfl (by decide) rfl (fun ls hl => ?_)
    refine r_goto (tgt := 45) X dX2_init_69 (by decide) ?_
    refine r_il X dX2_init_45 (lv_at hl 0 rfl) ?_
    refine r_bp X dX2_init_47 (by decide) ?_
    refine r_cge (cx := 7) (cy := 8) (tgt := 72) X rfl rfl dX2_init_49 (by decide) (fun _ => ?_) (fun c => absurd (by decide) c)
    refine r_aln X dX2_init_52 rfl (lv_at hl 1 rfl) ?_
    refine k_gr (kI := 5) (o' := 37) X Y V ci_2 kd_35 ⟨by decide, by decide⟩ 5 rfl (by decide +kernel) (by decide) rfl rfl wd_237 dX2_init_53 ?_
    refine r_il X dX2_init_56 (lv_at hl 0 rfl) ?_
    refine k_new X Y V ci_1 kd_52 (zst_n (zst_mono z_83 (by decide))) (zst_r (zst_mono z_83 (by decide))) df_1 wd_203 wd_205 wd_7 (Nat.le_of_ble_eq_true rfl) (Nat.le_of_ble_eq_true rfl) dX2_init_58 (fun H V => ?_)
    refine r_dup X dX2_init_61 rfl ?_
    refine k_kv V (k_runIN (nn := 0) (As := []) (rest := [.ref (G.2.2.1 52), .int (iV 7), .ref (G.2.2.1 37)]) (o := 52) X Y V (ki_X1_init_83 l G) rfl wi_X1 (by decide +kernel) Y.2.2.2.2.2.2 ⟨⟨rfl, rfl⟩, ⟨Nat.le_of_ble_eq_true rfl, Nat.le_of_ble_eq_true rfl⟩, Nat.le_of_ble_eq_true rfl, Nat.le_of_ble_eq_true rfl⟩ rfl rfl hl.1 (Nat.le_of_ble_eq_true rfl) dX2_init_62) (fun H locs V => ?_)
    refine k_aas X Y V 1 (r := (RX1, TX1, 4)) (by decide) kd_37 ⟨by decide, by decide⟩ (by decide) rfl (ci := 1) rfl (by decide) kd_52 ⟨by decide, by decide⟩ ln_37 ⟨by decide, by decide⟩ (σ' := st_85) rfl dX2_init_65 (fun H locs V => ?_)
    refine r_inc (kk := 0) (lv' := [(5, .int (iV 8)), (0, .ref (G.2.2.1 35)), (1, .ref (G.2.2.1 1)), (2, .ref (G.2.2.1 10)), (3, .ref (G.2.2.1 14)), (4, .ref (G.2.2.1 34))]) X dX2_init_66 hl rfl (by decide) rfl (fun ls hl => ?_)
    refine r_goto (tgt := 45) X dX2_init_69 (by decide) ?_
    refine r_il X dX2_init_45 (lv_at hl 0 rfl) ?_
    refine r_bp X dX2_init_47 (by decide) ?_
    refine r_cge (cx := 8) (cy := 8) (tgt := 72) X rfl rfl dX2_init_49 (by decide) (fun c => absurd c (by decide)) (fun _ => ?_)
    exact k_rv X V dX2_init_72
  exact go _ _ _ X V
set_option maxRecDepth 100000 in
set_option maxHeartbeats 4000000 in
theorem ki_X3_init_86 (l : Launch) (G : UG) : Met l yX3_init (.code yX3_init cX3_init 3 (Option.none : Option Jvm.ClassFile.FieldType) :: TB) { frames := 1, cells := 0, slots := 0, locals := 12 } (uvPk G 55 st_86 [.ref (G.2.2.1 54), .ref (G.2.2.1 1), .ref (G.2.2.1 10)]) (uvKv G 55 st_88) 0 0 (uvKA G) := by
  refine k_met (own := RX3) (lv := [(0, .ref (G.2.2.1 54)), (1, .ref (G.2.2.1 1)), (2, .ref (G.2.2.1 10))]) (by decide) rfl (Nat.le_of_ble_eq_true rfl) rfl ?_
  intro p e s m below meth c ls X Y V hl hin
  have go : ∀ (args : Array Value) (H : Heap) (locs : List Loc), uvCx p m c cX3_init 3 RX3 s args meth (Option.none : Option Jvm.ClassFile.FieldType) → uvWk G 55 st_86 s H locs → W p l e { frames := 1, cells := 0, slots := 0, locals := 12 } s m args below meth c H locs 0 0 (MQ below (uvKv G 55 st_88) args s 0 0 (uvKA G)) (F0 m 0 ls []) := by
    intro args H locs X V
    refine r_aln X dX3_init_0 rfl (lv_at hl 0 rfl) ?_
    refine k_obj X wd_257 w_obj hl.1 (Nat.le_of_ble_eq_true rfl) (Nat.le_of_ble_eq_true rfl) dX3_init_1 ?_
    refine r_aln X dX3_init_4 rfl (lv_at hl 0 rfl) ?_
    refine r_aln X dX3_init_5 rfl (lv_at hl 1 rfl) ?_
    refine k_pr (kI := 0) X Y V hin ci_3 kd_54 ⟨by decide, by decide⟩ (by decide) (by decide) 0 rfl (by decide) rfl rfl rfl rfl (tyX3_ok 0 (by decide)) (fun _ => rfl) (fun _ => rfl) wd_258 (σ' := st_87) rfl dX3_init_6 (fun H locs V => ?_)
    refine r_aln X dX3_init_9 rfl (lv_at hl 0 rfl) ?_
    refine r_aln X dX3_init_10 rfl (lv_at hl 2 rfl) ?_
    refine k_pr (kI := 1) X Y V hin ci_3 kd_54 ⟨by decide, by decide⟩ (by decide) (by decide) 1 rfl (by decide) rfl rfl rfl rfl (tyX3_ok 1 (by decide)) (fun _ => rfl) (fun _ => rfl) wd_259 (σ' := st_88) rfl dX3_init_11 (fun H locs V => ?_)
    exact k_rv X V dX3_init_14
  exact go _ _ _ X V
set_option maxRecDepth 100000 in
set_option maxHeartbeats 4000000 in
theorem ki_X5_init_90 (l : Launch) (G : UG) : Met l yX5_init (.code yX5_init cX5_init 3 (Option.none : Option Jvm.ClassFile.FieldType) :: TB) { frames := 1, cells := 5, slots := 5, locals := 21 } (uvPk G 58 st_90 [.ref (G.2.2.1 57), .int (iV 1)]) (uvKv G 63 st_95) 5 5 (uvKA G) := by
  refine k_met (own := RX5) (lv := [(0, .ref (G.2.2.1 57)), (1, .int (iV 1))]) (by decide) rfl (Nat.le_of_ble_eq_true rfl) rfl ?_
  intro p e s m below meth c ls X Y V hl hin
  have go : ∀ (args : Array Value) (H : Heap) (locs : List Loc), uvCx p m c cX5_init 3 RX5 s args meth (Option.none : Option Jvm.ClassFile.FieldType) → uvWk G 58 st_90 s H locs → W p l e { frames := 1, cells := 5, slots := 5, locals := 21 } s m args below meth c H locs 0 0 (MQ below (uvKv G 63 st_95) args s 5 5 (uvKA G)) (F0 m 0 ls []) := by
    intro args H locs X V
    refine r_aln X dX5_init_0 rfl (lv_at hl 0 rfl) ?_
    refine k_obj X wd_277 w_obj hl.1 (Nat.le_of_ble_eq_true rfl) (Nat.le_of_ble_eq_true rfl) dX5_init_1 ?_
    refine r_iln X dX5_init_4 rfl (lv_at hl 1 rfl) ?_
    refine r_ic X dX5_init_5 ?_
    refine r_mmax X wd_278 hl.1 (Nat.le_of_ble_eq_true rfl) (Nat.le_of_ble_eq_true rfl) ⟨Nat.le_of_ble_eq_true rfl, Nat.le_of_ble_eq_true rfl⟩ dX5_init_6 ?_
    refine r_eqI (v := 1) (by decide) ?_
    refine r_isn (lv' := [(2, .int (iV 1)), (0, .ref (G.2.2.1 57)), (1, .int (iV 1))]) X dX5_init_9 rfl hl (by decide) rfl (fun ls hl => ?_)
    refine r_aln X dX5_init_10 rfl (lv_at hl 1 rfl) ?_
    refine r_iln X dX5_init_11 rfl (lv_at hl 0 rfl) ?_
    refine k_newa X Y V kd_58 ln_58 rfl (Nat.le_of_ble_eq_true rfl) (zst_n (zst_mono z_90 (by decide))) wd_85 (Nat.le_of_ble_eq_true rfl) (Nat.le_of_ble_eq_true rfl) dX5_init_12 (fun H V => ?_)
    refine k_pr (kI := 0) X Y V hin ci_5 kd_57 ⟨by decide, by decide⟩ (by decide) (by decide) 0 rfl (by decide) rfl rfl rfl rfl (tyX5_ok 0 (by decide)) (fun _ => rfl) (fun _ => rfl) wd_281 (σ' := st_91) rfl dX5_init_14 (fun H locs V => ?_)
    refine r_aln X dX5_init_17 rfl (lv_at hl 1 rfl) ?_
    refine r_iln X dX5_init_18 rfl (lv_at hl 0 rfl) ?_
    refine k_newa X Y V kd_59 ln_59 rfl (Nat.le_of_ble_eq_true rfl) (zst_n (zst_mono z_91 (by decide))) wd_85 (Nat.le_of_ble_eq_true rfl) (Nat.le_of_ble_eq_true rfl) dX5_init_19 (fun H V => ?_)
    refine k_pr (kI := 1) X Y V hin ci_5 kd_57 ⟨by decide, by decide⟩ (by decide) (by decide) 1 rfl (by decide) rfl rfl rfl rfl (tyX5_ok 1 (by decide)) (fun _ => rfl) (fun _ => rfl) wd_283 (σ' := st_92) rfl dX5_init_21 (fun H locs V => ?_)
    refine r_aln X dX5_init_24 rfl (lv_at hl 1 rfl) ?_
    refine r_iln X dX5_init_25 rfl (lv_at hl 0 rfl) ?_
    refine k_newa X Y V kd_60 ln_60 rfl (Nat.le_of_ble_eq_true rfl) (zst_n (zst_mono z_92 (by decide))) wd_85 (Nat.le_of_ble_eq_true rfl) (Nat.le_of_ble_eq_true rfl) dX5_init_26 (fun H V => ?_)
    refine k_pr (kI := 2) X Y V hin ci_5 kd_57 ⟨by decide, by decide⟩ (by decide) (by decide) 2 rfl (by decide) rfl rfl rfl rfl (tyX5_ok 2 (by decide)) (fun _ => rfl) (fun _ => rfl) wd_285 (σ' := st_93) rfl dX5_init_28 (fun H locs V => ?_)
    refine r_aln X dX5_init_31 rfl (lv_at hl 1 rfl) ?_
    refine r_iln X dX5_init_32 rfl (lv_at hl 0 rfl) ?_
    refine k_newa X Y V kd_61 ln_61 rfl (Nat.le_of_ble_eq_true rfl) (zst_n (zst_mono z_93 (by decide))) wd_85 (Nat.le_of_ble_eq_true rfl) (Nat.le_of_ble_eq_true rfl) dX5_init_33 (fun H V => ?_)
    refine k_pr (kI := 3) X Y V hin ci_5 kd_57 ⟨by decide, by decide⟩ (by decide) (by decide) 3 rfl (by decide) rfl rfl rfl rfl (tyX5_ok 3 (by decide)) (fun _ => rfl) (fun _ => rfl) wd_287 (σ' := st_94) rfl dX5_init_35 (fun H locs V => ?_)
    refine r_aln X dX5_init_38 rfl (lv_at hl 1 rfl) ?_
    refine r_iln X dX5_init_39 rfl (lv_at hl 0 rfl) ?_
    refine k_newa X Y V kd_62 ln_62 rfl (Nat.le_of_ble_eq_true rfl) (zst_n (zst_mono z_94 (by decide))) wd_85 (Nat.le_of_ble_eq_true rfl) (Nat.le_of_ble_eq_true rfl) dX5_init_40 (fun H V => ?_)
    refine k_pr (kI := 4) X Y V hin ci_5 kd_57 ⟨by decide, by decide⟩ (by decide) (by decide) 4 rfl (by decide) rfl rfl rfl rfl (tyX5_ok 4 (by decide)) (fun _ => rfl) (fun _ => rfl) wd_289 (σ' := st_95) rfl dX5_init_42 (fun H locs V => ?_)
    exact k_rv X V dX5_init_45
  exact go _ _ _ X V
set_option maxRecDepth 100000 in
set_option maxHeartbeats 4000000 in
theorem ki_X5_init_96 (l : Launch) (G : UG) : Met l yX5_init (.code yX5_init cX5_init 3 (Option.none : Option Jvm.ClassFile.FieldType) :: TB) { frames := 1, cells := 5, slots := 5, locals := 21 } (uvPk G 64 st_96 [.ref (G.2.2.1 63), .int (iV 1)]) (uvKv G 69 st_101) 5 5 (uvKA G) := by
  refine k_met (own := RX5) (lv := [(0, .ref (G.2.2.1 63)), (1, .int (iV 1))]) (by decide) rfl (Nat.le_of_ble_eq_true rfl) rfl ?_
  intro p e s m below meth c ls X Y V hl hin
  have go : ∀ (args : Array Value) (H : Heap) (locs : List Loc), uvCx p m c cX5_init 3 RX5 s args meth (Option.none : Option Jvm.ClassFile.FieldType) → uvWk G 64 st_96 s H locs → W p l e { frames := 1, cells := 5, slots := 5, locals := 21 } s m args below meth c H locs 0 0 (MQ below (uvKv G 69 st_101) args s 5 5 (uvKA G)) (F0 m 0 ls []) := by
    intro args H locs X V
    refine r_aln X dX5_init_0 rfl (lv_at hl 0 rfl) ?_
    refine k_obj X wd_277 w_obj hl.1 (Nat.le_of_ble_eq_true rfl) (Nat.le_of_ble_eq_true rfl) dX5_init_1 ?_
    refine r_iln X dX5_init_4 rfl (lv_at hl 1 rfl) ?_
    refine r_ic X dX5_init_5 ?_
    refine r_mmax X wd_278 hl.1 (Nat.le_of_ble_eq_true rfl) (Nat.le_of_ble_eq_true rfl) ⟨Nat.le_of_ble_eq_true rfl, Nat.le_of_ble_eq_true rfl⟩ dX5_init_6 ?_
    refine r_eqI (v := 1) (by decide) ?_
    refine r_isn (lv' := [(2, .int (iV 1)), (0, .ref (G.2.2.1 63)), (1, .int (iV 1))]) X dX5_init_9 rfl hl (by decide) rfl (fun ls hl => ?_)
    refine r_aln X dX5_init_10 rfl (lv_at hl 1 rfl) ?_
    refine r_iln X dX5_init_11 rfl (lv_at hl 0 rfl) ?_
    refine k_newa X Y V kd_64 ln_64 rfl (Nat.le_of_ble_eq_true rfl) (zst_n (zst_mono z_96 (by decide))) wd_85 (Nat.le_of_ble_eq_true rfl) (Nat.le_of_ble_eq_true rfl) dX5_init_12 (fun H V => ?_)
    refine k_pr (kI := 0) X Y V hin ci_5 kd_63 ⟨by decide, by decide⟩ (by decide) (by decide) 0 rfl (by decide) rfl rfl rfl rfl (tyX5_ok 0 (by decide)) (fun _ => rfl) (fun _ => rfl) wd_281 (σ' := st_97) rfl dX5_init_14 (fun H locs V => ?_)
    refine r_aln X dX5_init_17 rfl (lv_at hl 1 rfl) ?_
    refine r_iln X dX5_init_18 rfl (lv_at hl 0 rfl) ?_
    refine k_newa X Y V kd_65 ln_65 rfl (Nat.le_of_ble_eq_true rfl) (zst_n (zst_mono z_97 (by decide))) wd_85 (Nat.le_of_ble_eq_true rfl) (Nat.le_of_ble_eq_true rfl) dX5_init_19 (fun H V => ?_)
    refine k_pr (kI := 1) X Y V hin ci_5 kd_63 ⟨by decide, by decide⟩ (by decide) (by decide) 1 rfl (by decide) rfl rfl rfl rfl (tyX5_ok 1 (by decide)) (fun _ => rfl) (fun _ => rfl) wd_283 (σ' := st_98) rfl dX5_init_21 (fun H locs V => ?_)
    refine r_aln X dX5_init_24 rfl (lv_at hl 1 rfl) ?_
    refine r_iln X dX5_init_25 rfl (lv_at hl 0 rfl) ?_
    refine k_newa X Y V kd_66 ln_66 rfl (Nat.le_of_ble_eq_true rfl) (zst_n (zst_mono z_98 (by decide))) wd_85 (Nat.le_of_ble_eq_true rfl) (Nat.le_of_ble_eq_true rfl) dX5_init_26 (fun H V => ?_)
    refine k_pr (kI := 2) X Y V hin ci_5 kd_63 ⟨by decide, by decide⟩ (by decide) (by decide) 2 rfl (by decide) rfl rfl rfl rfl (tyX5_ok 2 (by decide)) (fun _ => rfl) (fun _ => rfl) wd_285 (σ' := st_99) rfl dX5_init_28 (fun H locs V => ?_)
    refine r_aln X dX5_init_31 rfl (lv_at hl 1 rfl) ?_
    refine r_iln X dX5_init_32 rfl (lv_at hl 0 rfl) ?_
    refine k_newa X Y V kd_67 ln_67 rfl (Nat.le_of_ble_eq_true rfl) (zst_n (zst_mono z_99 (by decide))) wd_85 (Nat.le_of_ble_eq_true rfl) (Nat.le_of_ble_eq_true rfl) dX5_init_33 (fun H V => ?_)
    refine k_pr (kI := 3) X Y V hin ci_5 kd_63 ⟨by decide, by decide⟩ (by decide) (by decide) 3 rfl (by decide) rfl rfl rfl rfl (tyX5_ok 3 (by decide)) (fun _ => rfl) (fun _ => rfl) wd_287 (σ' := st_100) rfl dX5_init_35 (fun H locs V => ?_)
    refine r_aln X dX5_init_38 rfl (lv_at hl 1 rfl) ?_
    refine r_iln X dX5_init_39 rfl (lv_at hl 0 rfl) ?_
    refine k_newa X Y V kd_68 ln_68 rfl (Nat.le_of_ble_eq_true rfl) (zst_n (zst_mono z_100 (by decide))) wd_85 (Nat.le_of_ble_eq_true rfl) (Nat.le_of_ble_eq_true rfl) dX5_init_40 (fun H V => ?_)
    refine k_pr (kI := 4) X Y V hin ci_5 kd_63 ⟨by decide, by decide⟩ (by decide) (by decide) 4 rfl (by decide) rfl rfl rfl rfl (tyX5_ok 4 (by decide)) (fun _ => rfl) (fun _ => rfl) wd_289 (σ' := st_101) rfl dX5_init_42 (fun H locs V => ?_)
    exact k_rv X V dX5_init_45
  exact go _ _ _ X V
set_option maxRecDepth 100000 in
set_option maxHeartbeats 4000000 in
theorem ki_X5_init_106 (l : Launch) (G : UG) : Met l yX5_init (.code yX5_init cX5_init 3 (Option.none : Option Jvm.ClassFile.FieldType) :: TB) { frames := 1, cells := 5, slots := 200, locals := 21 } (uvPk G 71 st_106 [.ref (G.2.2.1 70), .int (iV 40)]) (uvKv G 76 st_111) 5 200 (uvKA G) := by
  refine k_met (own := RX5) (lv := [(0, .ref (G.2.2.1 70)), (1, .int (iV 40))]) (by decide) rfl (Nat.le_of_ble_eq_true rfl) rfl ?_
  intro p e s m below meth c ls X Y V hl hin
  have go : ∀ (args : Array Value) (H : Heap) (locs : List Loc), uvCx p m c cX5_init 3 RX5 s args meth (Option.none : Option Jvm.ClassFile.FieldType) → uvWk G 71 st_106 s H locs → W p l e { frames := 1, cells := 5, slots := 200, locals := 21 } s m args below meth c H locs 0 0 (MQ below (uvKv G 76 st_111) args s 5 200 (uvKA G)) (F0 m 0 ls []) := by
    intro args H locs X V
    refine r_aln X dX5_init_0 rfl (lv_at hl 0 rfl) ?_
    refine k_obj X wd_277 w_obj hl.1 (Nat.le_of_ble_eq_true rfl) (Nat.le_of_ble_eq_true rfl) dX5_init_1 ?_
    refine r_iln X dX5_init_4 rfl (lv_at hl 1 rfl) ?_
    refine r_ic X dX5_init_5 ?_
    refine r_mmax X wd_278 hl.1 (Nat.le_of_ble_eq_true rfl) (Nat.le_of_ble_eq_true rfl) ⟨Nat.le_of_ble_eq_true rfl, Nat.le_of_ble_eq_true rfl⟩ dX5_init_6 ?_
    refine r_eqI (v := 40) (by decide) ?_
    refine r_isn (lv' := [(2, .int (iV 40)), (0, .ref (G.2.2.1 70)), (1, .int (iV 40))]) X dX5_init_9 rfl hl (by decide) rfl (fun ls hl => ?_)
    refine r_aln X dX5_init_10 rfl (lv_at hl 1 rfl) ?_
    refine r_iln X dX5_init_11 rfl (lv_at hl 0 rfl) ?_
    refine k_newa X Y V kd_71 ln_71 rfl (Nat.le_of_ble_eq_true rfl) (zst_n (zst_mono z_106 (by decide))) wd_85 (Nat.le_of_ble_eq_true rfl) (Nat.le_of_ble_eq_true rfl) dX5_init_12 (fun H V => ?_)
    refine k_pr (kI := 0) X Y V hin ci_5 kd_70 ⟨by decide, by decide⟩ (by decide) (by decide) 0 rfl (by decide) rfl rfl rfl rfl (tyX5_ok 0 (by decide)) (fun _ => rfl) (fun _ => rfl) wd_281 (σ' := st_107) rfl dX5_init_14 (fun H locs V => ?_)
    refine r_aln X dX5_init_17 rfl (lv_at hl 1 rfl) ?_
    refine r_iln X dX5_init_18 rfl (lv_at hl 0 rfl) ?_
    refine k_newa X Y V kd_72 ln_72 rfl (Nat.le_of_ble_eq_true rfl) (zst_n (zst_mono z_107 (by decide))) wd_85 (Nat.le_of_ble_eq_true rfl) (Nat.le_of_ble_eq_true rfl) dX5_init_19 (fun H V => ?_)
    refine k_pr (kI := 1) X Y V hin ci_5 kd_70 ⟨by decide, by decide⟩ (by decide) (by decide) 1 rfl (by decide) rfl rfl rfl rfl (tyX5_ok 1 (by decide)) (fun _ => rfl) (fun _ => rfl) wd_283 (σ' := st_108) rfl dX5_init_21 (fun H locs V => ?_)
    refine r_aln X dX5_init_24 rfl (lv_at hl 1 rfl) ?_
    refine r_iln X dX5_init_25 rfl (lv_at hl 0 rfl) ?_
    refine k_newa X Y V kd_73 ln_73 rfl (Nat.le_of_ble_eq_true rfl) (zst_n (zst_mono z_108 (by decide))) wd_85 (Nat.le_of_ble_eq_true rfl) (Nat.le_of_ble_eq_true rfl) dX5_init_26 (fun H V => ?_)
    refine k_pr (kI := 2) X Y V hin ci_5 kd_70 ⟨by decide, by decide⟩ (by decide) (by decide) 2 rfl (by decide) rfl rfl rfl rfl (tyX5_ok 2 (by decide)) (fun _ => rfl) (fun _ => rfl) wd_285 (σ' := st_109) rfl dX5_init_28 (fun H locs V => ?_)
    refine r_aln X dX5_init_31 rfl (lv_at hl 1 rfl) ?_
    refine r_iln X dX5_init_32 rfl (lv_at hl 0 rfl) ?_
    refine k_newa X Y V kd_74 ln_74 rfl (Nat.le_of_ble_eq_true rfl) (zst_n (zst_mono z_109 (by decide))) wd_85 (Nat.le_of_ble_eq_true rfl) (Nat.le_of_ble_eq_true rfl) dX5_init_33 (fun H V => ?_)
    refine k_pr (kI := 3) X Y V hin ci_5 kd_70 ⟨by decide, by decide⟩ (by decide) (by decide) 3 rfl (by decide) rfl rfl rfl rfl (tyX5_ok 3 (by decide)) (fun _ => rfl) (fun _ => rfl) wd_287 (σ' := st_110) rfl dX5_init_35 (fun H locs V => ?_)
    refine r_aln X dX5_init_38 rfl (lv_at hl 1 rfl) ?_
    refine r_iln X dX5_init_39 rfl (lv_at hl 0 rfl) ?_
    refine k_newa X Y V kd_75 ln_75 rfl (Nat.le_of_ble_eq_true rfl) (zst_n (zst_mono z_110 (by decide))) wd_85 (Nat.le_of_ble_eq_true rfl) (Nat.le_of_ble_eq_true rfl) dX5_init_40 (fun H V => ?_)
    refine k_pr (kI := 4) X Y V hin ci_5 kd_70 ⟨by decide, by decide⟩ (by decide) (by decide) 4 rfl (by decide) rfl rfl rfl rfl (tyX5_ok 4 (by decide)) (fun _ => rfl) (fun _ => rfl) wd_289 (σ' := st_111) rfl dX5_init_42 (fun H locs V => ?_)
    exact k_rv X V dX5_init_45
  exact go _ _ _ X V
set_option maxRecDepth 100000 in
set_option maxHeartbeats 4000000 in
theorem ki_X5_init_112 (l : Launch) (G : UG) : Met l yX5_init (.code yX5_init cX5_init 3 (Option.none : Option Jvm.ClassFile.FieldType) :: TB) { frames := 1, cells := 5, slots := 200, locals := 21 } (uvPk G 77 st_112 [.ref (G.2.2.1 76), .int (iV 40)]) (uvKv G 82 st_117) 5 200 (uvKA G) := by
  refine k_met (own := RX5) (lv := [(0, .ref (G.2.2.1 76)), (1, .int (iV 40))]) (by decide) rfl (Nat.le_of_ble_eq_true rfl) rfl ?_
  intro p e s m below meth c ls X Y V hl hin
  have go : ∀ (args : Array Value) (H : Heap) (locs : List Loc), uvCx p m c cX5_init 3 RX5 s args meth (Option.none : Option Jvm.ClassFile.FieldType) → uvWk G 77 st_112 s H locs → W p l e { frames := 1, cells := 5, slots := 200, locals := 21 } s m args below meth c H locs 0 0 (MQ below (uvKv G 82 st_117) args s 5 200 (uvKA G)) (F0 m 0 ls []) := by
    intro args H locs X V
    refine r_aln X dX5_init_0 rfl (lv_at hl 0 rfl) ?_
    refine k_obj X wd_277 w_obj hl.1 (Nat.le_of_ble_eq_true rfl) (Nat.le_of_ble_eq_true rfl) dX5_init_1 ?_
    refine r_iln X dX5_init_4 rfl (lv_at hl 1 rfl) ?_
    refine r_ic X dX5_init_5 ?_
    refine r_mmax X wd_278 hl.1 (Nat.le_of_ble_eq_true rfl) (Nat.le_of_ble_eq_true rfl) ⟨Nat.le_of_ble_eq_true rfl, Nat.le_of_ble_eq_true rfl⟩ dX5_init_6 ?_
    refine r_eqI (v := 40) (by decide) ?_
    refine r_isn (lv' := [(2, .int (iV 40)), (0, .ref (G.2.2.1 76)), (1, .int (iV 40))]) X dX5_init_9 rfl hl (by decide) rfl (fun ls hl => ?_)
    refine r_aln X dX5_init_10 rfl (lv_at hl 1 rfl) ?_
    refine r_iln X dX5_init_11 rfl (lv_at hl 0 rfl) ?_
    refine k_newa X Y V kd_77 ln_77 rfl (Nat.le_of_ble_eq_true rfl) (zst_n (zst_mono z_112 (by decide))) wd_85 (Nat.le_of_ble_eq_true rfl) (Nat.le_of_ble_eq_true rfl) dX5_init_12 (fun H V => ?_)
    refine k_pr (kI := 0) X Y V hin ci_5 kd_76 ⟨by decide, by decide⟩ (by decide) (by decide) 0 rfl (by decide) rfl rfl rfl rfl (tyX5_ok 0 (by decide)) (fun _ => rfl) (fun _ => rfl) wd_281 (σ' := st_113) rfl dX5_init_14 (fun H locs V => ?_)
    refine r_aln X dX5_init_17 rfl (lv_at hl 1 rfl) ?_
    refine r_iln X dX5_init_18 rfl (lv_at hl 0 rfl) ?_
    refine k_newa X Y V kd_78 ln_78 rfl (Nat.le_of_ble_eq_true rfl) (zst_n (zst_mono z_113 (by decide))) wd_85 (Nat.le_of_ble_eq_true rfl) (Nat.le_of_ble_eq_true rfl) dX5_init_19 (fun H V => ?_)
    refine k_pr (kI := 1) X Y V hin ci_5 kd_76 ⟨by decide, by decide⟩ (by decide) (by decide) 1 rfl (by decide) rfl rfl rfl rfl (tyX5_ok 1 (by decide)) (fun _ => rfl) (fun _ => rfl) wd_283 (σ' := st_114) rfl dX5_init_21 (fun H locs V => ?_)
    refine r_aln X dX5_init_24 rfl (lv_at hl 1 rfl) ?_
    refine r_iln X dX5_init_25 rfl (lv_at hl 0 rfl) ?_
    refine k_newa X Y V kd_79 ln_79 rfl (Nat.le_of_ble_eq_true rfl) (zst_n (zst_mono z_114 (by decide))) wd_85 (Nat.le_of_ble_eq_true rfl) (Nat.le_of_ble_eq_true rfl) dX5_init_26 (fun H V => ?_)
    refine k_pr (kI := 2) X Y V hin ci_5 kd_76 ⟨by decide, by decide⟩ (by decide) (by decide) 2 rfl (by decide) rfl rfl rfl rfl (tyX5_ok 2 (by decide)) (fun _ => rfl) (fun _ => rfl) wd_285 (σ' := st_115) rfl dX5_init_28 (fun H locs V => ?_)
    refine r_aln X dX5_init_31 rfl (lv_at hl 1 rfl) ?_
    refine r_iln X dX5_init_32 rfl (lv_at hl 0 rfl) ?_
    refine k_newa X Y V kd_80 ln_80 rfl (Nat.le_of_ble_eq_true rfl) (zst_n (zst_mono z_115 (by decide))) wd_85 (Nat.le_of_ble_eq_true rfl) (Nat.le_of_ble_eq_true rfl) dX5_init_33 (fun H V => ?_)
    refine k_pr (kI := 3) X Y V hin ci_5 kd_76 ⟨by decide, by decide⟩ (by decide) (by decide) 3 rfl (by decide) rfl rfl rfl rfl (tyX5_ok 3 (by decide)) (fun _ => rfl) (fun _ => rfl) wd_287 (σ' := st_116) rfl dX5_init_35 (fun H locs V => ?_)
    refine r_aln X dX5_init_38 rfl (lv_at hl 1 rfl) ?_
    refine r_iln X dX5_init_39 rfl (lv_at hl 0 rfl) ?_
    refine k_newa X Y V kd_81 ln_81 rfl (Nat.le_of_ble_eq_true rfl) (zst_n (zst_mono z_116 (by decide))) wd_85 (Nat.le_of_ble_eq_true rfl) (Nat.le_of_ble_eq_true rfl) dX5_init_40 (fun H V => ?_)
    refine k_pr (kI := 4) X Y V hin ci_5 kd_76 ⟨by decide, by decide⟩ (by decide) (by decide) 4 rfl (by decide) rfl rfl rfl rfl (tyX5_ok 4 (by decide)) (fun _ => rfl) (fun _ => rfl) wd_289 (σ' := st_117) rfl dX5_init_42 (fun H locs V => ?_)
    exact k_rv X V dX5_init_45
  exact go _ _ _ X V
set_option maxRecDepth 100000 in
set_option maxHeartbeats 4000000 in
theorem ki_X5_init_118 (l : Launch) (G : UG) : Met l yX5_init (.code yX5_init cX5_init 3 (Option.none : Option Jvm.ClassFile.FieldType) :: TB) { frames := 1, cells := 5, slots := 200, locals := 21 } (uvPk G 83 st_118 [.ref (G.2.2.1 82), .int (iV 40)]) (uvKv G 88 st_123) 5 200 (uvKA G) := by
  refine k_met (own := RX5) (lv := [(0, .ref (G.2.2.1 82)), (1, .int (iV 40))]) (by decide) rfl (Nat.le_of_ble_eq_true rfl) rfl ?_
  intro p e s m below meth c ls X Y V hl hin
  have go : ∀ (args : Array Value) (H : Heap) (locs : List Loc), uvCx p m c cX5_init 3 RX5 s args meth (Option.none : Option Jvm.ClassFile.FieldType) → uvWk G 83 st_118 s H locs → W p l e { frames := 1, cells := 5, slots := 200, locals := 21 } s m args below meth c H locs 0 0 (MQ below (uvKv G 88 st_123) args s 5 200 (uvKA G)) (F0 m 0 ls []) := by
    intro args H locs X V
    refine r_aln X dX5_init_0 rfl (lv_at hl 0 rfl) ?_
    refine k_obj X wd_277 w_obj hl.1 (Nat.le_of_ble_eq_true rfl) (Nat.le_of_ble_eq_true rfl) dX5_init_1 ?_
    refine r_iln X dX5_init_4 rfl (lv_at hl 1 rfl) ?_
    refine r_ic X dX5_init_5 ?_
    refine r_mmax X wd_278 hl.1 (Nat.le_of_ble_eq_true rfl) (Nat.le_of_ble_eq_true rfl) ⟨Nat.le_of_ble_eq_true rfl, Nat.le_of_ble_eq_true rfl⟩ dX5_init_6 ?_
    refine r_eqI (v := 40) (by decide) ?_
    refine r_isn (lv' := [(2, .int (iV 40)), (0, .ref (G.2.2.1 82)), (1, .int (iV 40))]) X dX5_init_9 rfl hl (by decide) rfl (fun ls hl => ?_)
    refine r_aln X dX5_init_10 rfl (lv_at hl 1 rfl) ?_
    refine r_iln X dX5_init_11 rfl (lv_at hl 0 rfl) ?_
    refine k_newa X Y V kd_83 ln_83 rfl (Nat.le_of_ble_eq_true rfl) (zst_n (zst_mono z_118 (by decide))) wd_85 (Nat.le_of_ble_eq_true rfl) (Nat.le_of_ble_eq_true rfl) dX5_init_12 (fun H V => ?_)
    refine k_pr (kI := 0) X Y V hin ci_5 kd_82 ⟨by decide, by decide⟩ (by decide) (by decide) 0 rfl (by decide) rfl rfl rfl rfl (tyX5_ok 0 (by decide)) (fun _ => rfl) (fun _ => rfl) wd_281 (σ' := st_119) rfl dX5_init_14 (fun H locs V => ?_)
    refine r_aln X dX5_init_17 rfl (lv_at hl 1 rfl) ?_
    refine r_iln X dX5_init_18 rfl (lv_at hl 0 rfl) ?_
    refine k_newa X Y V kd_84 ln_84 rfl (Nat.le_of_ble_eq_true rfl) (zst_n (zst_mono z_119 (by decide))) wd_85 (Nat.le_of_ble_eq_true rfl) (Nat.le_of_ble_eq_true rfl) dX5_init_19 (fun H V => ?_)
    refine k_pr (kI := 1) X Y V hin ci_5 kd_82 ⟨by decide, by decide⟩ (by decide) (by decide) 1 rfl (by decide) rfl rfl rfl rfl (tyX5_ok 1 (by decide)) (fun _ => rfl) (fun _ => rfl) wd_283 (σ' := st_120) rfl dX5_init_21 (fun H locs V => ?_)
    refine r_aln X dX5_init_24 rfl (lv_at hl 1 rfl) ?_
    refine r_iln X dX5_init_25 rfl (lv_at hl 0 rfl) ?_
    refine k_newa X Y V kd_85 ln_85 rfl (Nat.le_of_ble_eq_true rfl) (zst_n (zst_mono z_120 (by decide))) wd_85 (Nat.le_of_ble_eq_true rfl) (Nat.le_of_ble_eq_true rfl) dX5_init_26 (fun H V => ?_)
    refine k_pr (kI := 2) X Y V hin ci_5 kd_82 ⟨by decide, by decide⟩ (by decide) (by decide) 2 rfl (by decide) rfl rfl rfl rfl (tyX5_ok 2 (by decide)) (fun _ => rfl) (fun _ => rfl) wd_285 (σ' := st_121) rfl dX5_init_28 (fun H locs V => ?_)
    refine r_aln X dX5_init_31 rfl (lv_at hl 1 rfl) ?_
    refine r_iln X dX5_init_32 rfl (lv_at hl 0 rfl) ?_
    refine k_newa X Y V kd_86 ln_86 rfl (Nat.le_of_ble_eq_true rfl) (zst_n (zst_mono z_121 (by decide))) wd_85 (Nat.le_of_ble_eq_true rfl) (Nat.le_of_ble_eq_true rfl) dX5_init_33 (fun H V => ?_)
    refine k_pr (kI := 3) X Y V hin ci_5 kd_82 ⟨by decide, by decide⟩ (by decide) (by decide) 3 rfl (by decide) rfl rfl rfl rfl (tyX5_ok 3 (by decide)) (fun _ => rfl) (fun _ => rfl) wd_287 (σ' := st_122) rfl dX5_init_35 (fun H locs V => ?_)
    refine r_aln X dX5_init_38 rfl (lv_at hl 1 rfl) ?_
    refine r_iln X dX5_init_39 rfl (lv_at hl 0 rfl) ?_
    refine k_newa X Y V kd_87 ln_87 rfl (Nat.le_of_ble_eq_true rfl) (zst_n (zst_mono z_122 (by decide))) wd_85 (Nat.le_of_ble_eq_true rfl) (Nat.le_of_ble_eq_true rfl) dX5_init_40 (fun H V => ?_)
    refine k_pr (kI := 4) X Y V hin ci_5 kd_82 ⟨by decide, by decide⟩ (by decide) (by decide) 4 rfl (by decide) rfl rfl rfl rfl (tyX5_ok 4 (by decide)) (fun _ => rfl) (fun _ => rfl) wd_289 (σ' := st_123) rfl dX5_init_42 (fun H locs V => ?_)
    exact k_rv X V dX5_init_45
  exact go _ _ _ X V
set_option maxRecDepth 100000 in
set_option maxHeartbeats 4000000 in
theorem ki_X5_init_124 (l : Launch) (G : UG) : Met l yX5_init (.code yX5_init cX5_init 3 (Option.none : Option Jvm.ClassFile.FieldType) :: TB) { frames := 1, cells := 5, slots := 200, locals := 21 } (uvPk G 89 st_124 [.ref (G.2.2.1 88), .int (iV 40)]) (uvKv G 94 st_129) 5 200 (uvKA G) := by
  refine k_met (own := RX5) (lv := [(0, .ref (G.2.2.1 88)), (1, .int (iV 40))]) (by decide) rfl (Nat.le_of_ble_eq_true rfl) rfl ?_
  intro p e s m below meth c ls X Y V hl hin
  have go : ∀ (args : Array Value) (H : Heap) (locs : List Loc), uvCx p m c cX5_init 3 RX5 s args meth (Option.none : Option Jvm.ClassFile.FieldType) → uvWk G 89 st_124 s H locs → W p l e { frames := 1, cells := 5, slots := 200, locals := 21 } s m args below meth c H locs 0 0 (MQ below (uvKv G 94 st_129) args s 5 200 (uvKA G)) (F0 m 0 ls []) := by
    intro args H locs X V
    refine r_aln X dX5_init_0 rfl (lv_at hl 0 rfl) ?_
    refine k_obj X wd_277 w_obj hl.1 (Nat.le_of_ble_eq_true rfl) (Nat.le_of_ble_eq_true rfl) dX5_init_1 ?_
    refine r_iln X dX5_init_4 rfl (lv_at hl 1 rfl) ?_
    refine r_ic X dX5_init_5 ?_
    refine r_mmax X wd_278 hl.1 (Nat.le_of_ble_eq_true rfl) (Nat.le_of_ble_eq_true rfl) ⟨Nat.le_of_ble_eq_true rfl, Nat.le_of_ble_eq_true rfl⟩ dX5_init_6 ?_
    refine r_eqI (v := 40) (by decide) ?_
    refine r_isn (lv' := [(2, .int (iV 40)), (0, .ref (G.2.2.1 88)), (1, .int (iV 40))]) X dX5_init_9 rfl hl (by decide) rfl (fun ls hl => ?_)
    refine r_aln X dX5_init_10 rfl (lv_at hl 1 rfl) ?_
    refine r_iln X dX5_init_11 rfl (lv_at hl 0 rfl) ?_
    refine k_newa X Y V kd_89 ln_89 rfl (Nat.le_of_ble_eq_true rfl) (zst_n (zst_mono z_124 (by decide))) wd_85 (Nat.le_of_ble_eq_true rfl) (Nat.le_of_ble_eq_true rfl) dX5_init_12 (fun H V => ?_)
    refine k_pr (kI := 0) X Y V hin ci_5 kd_88 ⟨by decide, by decide⟩ (by decide) (by decide) 0 rfl (by decide) rfl rfl rfl rfl (tyX5_ok 0 (by decide)) (fun _ => rfl) (fun _ => rfl) wd_281 (σ' := st_125) rfl dX5_init_14 (fun H locs V => ?_)
    refine r_aln X dX5_init_17 rfl (lv_at hl 1 rfl) ?_
    refine r_iln X dX5_init_18 rfl (lv_at hl 0 rfl) ?_
    refine k_newa X Y V kd_90 ln_90 rfl (Nat.le_of_ble_eq_true rfl) (zst_n (zst_mono z_125 (by decide))) wd_85 (Nat.le_of_ble_eq_true rfl) (Nat.le_of_ble_eq_true rfl) dX5_init_19 (fun H V => ?_)
    refine k_pr (kI := 1) X Y V hin ci_5 kd_88 ⟨by decide, by decide⟩ (by decide) (by decide) 1 rfl (by decide) rfl rfl rfl rfl (tyX5_ok 1 (by decide)) (fun _ => rfl) (fun _ => rfl) wd_283 (σ' := st_126) rfl dX5_init_21 (fun H locs V => ?_)
    refine r_aln X dX5_init_24 rfl (lv_at hl 1 rfl) ?_
    refine r_iln X dX5_init_25 rfl (lv_at hl 0 rfl) ?_
    refine k_newa X Y V kd_91 ln_91 rfl (Nat.le_of_ble_eq_true rfl) (zst_n (zst_mono z_126 (by decide))) wd_85 (Nat.le_of_ble_eq_true rfl) (Nat.le_of_ble_eq_true rfl) dX5_init_26 (fun H V => ?_)
    refine k_pr (kI := 2) X Y V hin ci_5 kd_88 ⟨by decide, by decide⟩ (by decide) (by decide) 2 rfl (by decide) rfl rfl rfl rfl (tyX5_ok 2 (by decide)) (fun _ => rfl) (fun _ => rfl) wd_285 (σ' := st_127) rfl dX5_init_28 (fun H locs V => ?_)
    refine r_aln X dX5_init_31 rfl (lv_at hl 1 rfl) ?_
    refine r_iln X dX5_init_32 rfl (lv_at hl 0 rfl) ?_
    refine k_newa X Y V kd_92 ln_92 rfl (Nat.le_of_ble_eq_true rfl) (zst_n (zst_mono z_127 (by decide))) wd_85 (Nat.le_of_ble_eq_true rfl) (Nat.le_of_ble_eq_true rfl) dX5_init_33 (fun H V => ?_)
    refine k_pr (kI := 3) X Y V hin ci_5 kd_88 ⟨by decide, by decide⟩ (by decide) (by decide) 3 rfl (by decide) rfl rfl rfl rfl (tyX5_ok 3 (by decide)) (fun _ => rfl) (fun _ => rfl) wd_287 (σ' := st_128) rfl dX5_init_35 (fun H locs V => ?_)
    refine r_aln X dX5_init_38 rfl (lv_at hl 1 rfl) ?_
    refine r_iln X dX5_init_39 rfl (lv_at hl 0 rfl) ?_
    refine k_newa X Y V kd_93 ln_93 rfl (Nat.le_of_ble_eq_true rfl) (zst_n (zst_mono z_128 (by decide))) wd_85 (Nat.le_of_ble_eq_true rfl) (Nat.le_of_ble_eq_true rfl) dX5_init_40 (fun H V => ?_)
    refine k_pr (kI := 4) X Y V hin ci_5 kd_88 ⟨by decide, by decide⟩ (by decide) (by decide) 4 rfl (by decide) rfl rfl rfl rfl (tyX5_ok 4 (by decide)) (fun _ => rfl) (fun _ => rfl) wd_289 (σ' := st_129) rfl dX5_init_42 (fun H locs V => ?_)
    exact k_rv X V dX5_init_45
  exact go _ _ _ X V
set_option maxRecDepth 100000 in
set_option maxHeartbeats 4000000 in
theorem ki_X5_init_130 (l : Launch) (G : UG) : Met l yX5_init (.code yX5_init cX5_init 3 (Option.none : Option Jvm.ClassFile.FieldType) :: TB) { frames := 1, cells := 5, slots := 200, locals := 21 } (uvPk G 95 st_130 [.ref (G.2.2.1 94), .int (iV 40)]) (uvKv G 100 st_135) 5 200 (uvKA G) := by
  refine k_met (own := RX5) (lv := [(0, .ref (G.2.2.1 94)), (1, .int (iV 40))]) (by decide) rfl (Nat.le_of_ble_eq_true rfl) rfl ?_
  intro p e s m below meth c ls X Y V hl hin
  have go : ∀ (args : Array Value) (H : Heap) (locs : List Loc), uvCx p m c cX5_init 3 RX5 s args meth (Option.none : Option Jvm.ClassFile.FieldType) → uvWk G 95 st_130 s H locs → W p l e { frames := 1, cells := 5, slots := 200, locals := 21 } s m args below meth c H locs 0 0 (MQ below (uvKv G 100 st_135) args s 5 200 (uvKA G)) (F0 m 0 ls []) := by
    intro args H locs X V
    refine r_aln X dX5_init_0 rfl (lv_at hl 0 rfl) ?_
    refine k_obj X wd_277 w_obj hl.1 (Nat.le_of_ble_eq_true rfl) (Nat.le_of_ble_eq_true rfl) dX5_init_1 ?_
    refine r_iln X dX5_init_4 rfl (lv_at hl 1 rfl) ?_
    refine r_ic X dX5_init_5 ?_
    refine r_mmax X wd_278 hl.1 (Nat.le_of_ble_eq_true rfl) (Nat.le_of_ble_eq_true rfl) ⟨Nat.le_of_ble_eq_true rfl, Nat.le_of_ble_eq_true rfl⟩ dX5_init_6 ?_
    refine r_eqI (v := 40) (by decide) ?_
    refine r_isn (lv' := [(2, .int (iV 40)), (0, .ref (G.2.2.1 94)), (1, .int (iV 40))]) X dX5_init_9 rfl hl (by decide) rfl (fun ls hl => ?_)
    refine r_aln X dX5_init_10 rfl (lv_at hl 1 rfl) ?_
    refine r_iln X dX5_init_11 rfl (lv_at hl 0 rfl) ?_
    refine k_newa X Y V kd_95 ln_95 rfl (Nat.le_of_ble_eq_true rfl) (zst_n (zst_mono z_130 (by decide))) wd_85 (Nat.le_of_ble_eq_true rfl) (Nat.le_of_ble_eq_true rfl) dX5_init_12 (fun H V => ?_)
    refine k_pr (kI := 0) X Y V hin ci_5 kd_94 ⟨by decide, by decide⟩ (by decide) (by decide) 0 rfl (by decide) rfl rfl rfl rfl (tyX5_ok 0 (by decide)) (fun _ => rfl) (fun _ => rfl) wd_281 (σ' := st_131) rfl dX5_init_14 (fun H locs V => ?_)
    refine r_aln X dX5_init_17 rfl (lv_at hl 1 rfl) ?_
    refine r_iln X dX5_init_18 rfl (lv_at hl 0 rfl) ?_
    refine k_newa X Y V kd_96 ln_96 rfl (Nat.le_of_ble_eq_true rfl) (zst_n (zst_mono z_131 (by decide))) wd_85 (Nat.le_of_ble_eq_true rfl) (Nat.le_of_ble_eq_true rfl) dX5_init_19 (fun H V => ?_)
    refine k_pr (kI := 1) X Y V hin ci_5 kd_94 ⟨by decide, by decide⟩ (by decide) (by decide) 1 rfl (by decide) rfl rfl rfl rfl (tyX5_ok 1 (by decide)) (fun _ => rfl) (fun _ => rfl) wd_283 (σ' := st_132) rfl dX5_init_21 (fun H locs V => ?_)
    refine r_aln X dX5_init_24 rfl (lv_at hl 1 rfl) ?_
    refine r_iln X dX5_init_25 rfl (lv_at hl 0 rfl) ?_
    refine k_newa X Y V kd_97 ln_97 rfl (Nat.le_of_ble_eq_true rfl) (zst_n (zst_mono z_132 (by decide))) wd_85 (Nat.le_of_ble_eq_true rfl) (Nat.le_of_ble_eq_true rfl) dX5_init_26 (fun H V => ?_)
    refine k_pr (kI := 2) X Y V hin ci_5 kd_94 ⟨by decide, by decide⟩ (by decide) (by decide) 2 rfl (by decide) rfl rfl rfl rfl (tyX5_ok 2 (by decide)) (fun _ => rfl) (fun _ => rfl) wd_285 (σ' := st_133) rfl dX5_init_28 (fun H locs V => ?_)
    refine r_aln X dX5_init_31 rfl (lv_at hl 1 rfl) ?_
    refine r_iln X dX5_init_32 rfl (lv_at hl 0 rfl) ?_
    refine k_newa X Y V kd_98 ln_98 rfl (Nat.le_of_ble_eq_true rfl) (zst_n (zst_mono z_133 (by decide))) wd_85 (Nat.le_of_ble_eq_true rfl) (Nat.le_of_ble_eq_true rfl) dX5_init_33 (fun H V => ?_)
    refine k_pr (kI := 3) X Y V hin ci_5 kd_94 ⟨by decide, by decide⟩ (by decide) (by decide) 3 rfl (by decide) rfl rfl rfl rfl (tyX5_ok 3 (by decide)) (fun _ => rfl) (fun _ => rfl) wd_287 (σ' := st_134) rfl dX5_init_35 (fun H locs V => ?_)
    refine r_aln X dX5_init_38 rfl (lv_at hl 1 rfl) ?_
    refine r_iln X dX5_init_39 rfl (lv_at hl 0 rfl) ?_
    refine k_newa X Y V kd_99 ln_99 rfl (Nat.le_of_ble_eq_true rfl) (zst_n (zst_mono z_134 (by decide))) wd_85 (Nat.le_of_ble_eq_true rfl) (Nat.le_of_ble_eq_true rfl) dX5_init_40 (fun H V => ?_)
    refine k_pr (kI := 4) X Y V hin ci_5 kd_94 ⟨by decide, by decide⟩ (by decide) (by decide) 4 rfl (by decide) rfl rfl rfl rfl (tyX5_ok 4 (by decide)) (fun _ => rfl) (fun _ => rfl) wd_289 (σ' := st_135) rfl dX5_init_42 (fun H locs V => ?_)
    exact k_rv X V dX5_init_45
  exact go _ _ _ X V
set_option maxRecDepth 100000 in
set_option maxHeartbeats 4000000 in
theorem ki_X5_init_136 (l : Launch) (G : UG) : Met l yX5_init (.code yX5_init cX5_init 3 (Option.none : Option Jvm.ClassFile.FieldType) :: TB) { frames := 1, cells := 5, slots := 200, locals := 21 } (uvPk G 101 st_136 [.ref (G.2.2.1 100), .int (iV 40)]) (uvKv G 106 st_141) 5 200 (uvKA G) := by
  refine k_met (own := RX5) (lv := [(0, .ref (G.2.2.1 100)), (1, .int (iV 40))]) (by decide) rfl (Nat.le_of_ble_eq_true rfl) rfl ?_
  intro p e s m below meth c ls X Y V hl hin
  have go : ∀ (args : Array Value) (H : Heap) (locs : List Loc), uvCx p m c cX5_init 3 RX5 s args meth (Option.none : Option Jvm.ClassFile.FieldType) → uvWk G 101 st_136 s H locs → W p l e { frames := 1, cells := 5, slots := 200, locals := 21 } s m args below meth c H locs 0 0 (MQ below (uvKv G 106 st_141) args s 5 200 (uvKA G)) (F0 m 0 ls []) := by
    intro args H locs X V
    refine r_aln X dX5_init_0 rfl (lv_at hl 0 rfl) ?_
    refine k_obj X wd_277 w_obj hl.1 (Nat.le_of_ble_eq_true rfl) (Nat.le_of_ble_eq_true rfl) dX5_init_1 ?_
    refine r_iln X dX5_init_4 rfl (lv_at hl 1 rfl) ?_
    refine r_ic X dX5_init_5 ?_
    refine r_mmax X wd_278 hl.1 (Nat.le_of_ble_eq_true rfl) (Nat.le_of_ble_eq_true rfl) ⟨Nat.le_of_ble_eq_true rfl, Nat.le_of_ble_eq_true rfl⟩ dX5_init_6 ?_
    refine r_eqI (v := 40) (by decide) ?_
    refine r_isn (lv' := [(2, .int (iV 40)), (0, .ref (G.2.2.1 100)), (1, .int (iV 40))]) X dX5_init_9 rfl hl (by decide) rfl (fun ls hl => ?_)
    refine r_aln X dX5_init_10 rfl (lv_at hl 1 rfl) ?_
    refine r_iln X dX5_init_11 rfl (lv_at hl 0 rfl) ?_
    refine k_newa X Y V kd_101 ln_101 rfl (Nat.le_of_ble_eq_true rfl) (zst_n (zst_mono z_136 (by decide))) wd_85 (Nat.le_of_ble_eq_true rfl) (Nat.le_of_ble_eq_true rfl) dX5_init_12 (fun H V => ?_)
    refine k_pr (kI := 0) X Y V hin ci_5 kd_100 ⟨by decide, by decide⟩ (by decide) (by decide) 0 rfl (by decide) rfl rfl rfl rfl (tyX5_ok 0 (by decide)) (fun _ => rfl) (fun _ => rfl) wd_281 (σ' := st_137) rfl dX5_init_14 (fun H locs V => ?_)
    refine r_aln X dX5_init_17 rfl (lv_at hl 1 rfl) ?_
    refine r_iln X dX5_init_18 rfl (lv_at hl 0 rfl) ?_
    refine k_newa X Y V kd_102 ln_102 rfl (Nat.le_of_ble_eq_true rfl) (zst_n (zst_mono z_137 (by decide))) wd_85 (Nat.le_of_ble_eq_true rfl) (Nat.le_of_ble_eq_true rfl) dX5_init_19 (fun H V => ?_)
    refine k_pr (kI := 1) X Y V hin ci_5 kd_100 ⟨by decide, by decide⟩ (by decide) (by decide) 1 rfl (by decide) rfl rfl rfl rfl (tyX5_ok 1 (by decide)) (fun _ => rfl) (fun _ => rfl) wd_283 (σ' := st_138) rfl dX5_init_21 (fun H locs V => ?_)
    refine r_aln X dX5_init_24 rfl (lv_at hl 1 rfl) ?_
    refine r_iln X dX5_init_25 rfl (lv_at hl 0 rfl) ?_
    refine k_newa X Y V kd_103 ln_103 rfl (Nat.le_of_ble_eq_true rfl) (zst_n (zst_mono z_138 (by decide))) wd_85 (Nat.le_of_ble_eq_true rfl) (Nat.le_of_ble_eq_true rfl) dX5_init_26 (fun H V => ?_)
    refine k_pr (kI := 2) X Y V hin ci_5 kd_100 ⟨by decide, by decide⟩ (by decide) (by decide) 2 rfl (by decide) rfl rfl rfl rfl (tyX5_ok 2 (by decide)) (fun _ => rfl) (fun _ => rfl) wd_285 (σ' := st_139) rfl dX5_init_28 (fun H locs V => ?_)
    refine r_aln X dX5_init_31 rfl (lv_at hl 1 rfl) ?_
    refine r_iln X dX5_init_32 rfl (lv_at hl 0 rfl) ?_
    refine k_newa X Y V kd_104 ln_104 rfl (Nat.le_of_ble_eq_true rfl) (zst_n (zst_mono z_139 (by decide))) wd_85 (Nat.le_of_ble_eq_true rfl) (Nat.le_of_ble_eq_true rfl) dX5_init_33 (fun H V => ?_)
    refine k_pr (kI := 3) X Y V hin ci_5 kd_100 ⟨by decide, by decide⟩ (by decide) (by decide) 3 rfl (by decide) rfl rfl rfl rfl (tyX5_ok 3 (by decide)) (fun _ => rfl) (fun _ => rfl) wd_287 (σ' := st_140) rfl dX5_init_35 (fun H locs V => ?_)
    refine r_aln X dX5_init_38 rfl (lv_at hl 1 rfl) ?_
    refine r_iln X dX5_init_39 rfl (lv_at hl 0 rfl) ?_
    refine k_newa X Y V kd_105 ln_105 rfl (Nat.le_of_ble_eq_true rfl) (zst_n (zst_mono z_140 (by decide))) wd_85 (Nat.le_of_ble_eq_true rfl) (Nat.le_of_ble_eq_true rfl) dX5_init_40 (fun H V => ?_)
    refine k_pr (kI := 4) X Y V hin ci_5 kd_100 ⟨by decide, by decide⟩ (by decide) (by decide) 4 rfl (by decide) rfl rfl rfl rfl (tyX5_ok 4 (by decide)) (fun _ => rfl) (fun _ => rfl) wd_289 (σ' := st_141) rfl dX5_init_42 (fun H locs V => ?_)
    exact k_rv X V dX5_init_45
  exact go _ _ _ X V
set_option maxRecDepth 100000 in
set_option maxHeartbeats 4000000 in
theorem ki_X5_init_142 (l : Launch) (G : UG) : Met l yX5_init (.code yX5_init cX5_init 3 (Option.none : Option Jvm.ClassFile.FieldType) :: TB) { frames := 1, cells := 5, slots := 200, locals := 21 } (uvPk G 107 st_142 [.ref (G.2.2.1 106), .int (iV 40)]) (uvKv G 112 st_147) 5 200 (uvKA G) := by
  refine k_met (own := RX5) (lv := [(0, .ref (G.2.2.1 106)), (1, .int (iV 40))]) (by decide) rfl (Nat.le_of_ble_eq_true rfl) rfl ?_
  intro p e s m below meth c ls X Y V hl hin
  have go : ∀ (args : Array Value) (H : Heap) (locs : List Loc), uvCx p m c cX5_init 3 RX5 s args meth (Option.none : Option Jvm.ClassFile.FieldType) → uvWk G 107 st_142 s H locs → W p l e { frames := 1, cells := 5, slots := 200, locals := 21 } s m args below meth c H locs 0 0 (MQ below (uvKv G 112 st_147) args s 5 200 (uvKA G)) (F0 m 0 ls []) := by
    intro args H locs X V
    refine r_aln X dX5_init_0 rfl (lv_at hl 0 rfl) ?_
    refine k_obj X wd_277 w_obj hl.1 (Nat.le_of_ble_eq_true rfl) (Nat.le_of_ble_eq_true rfl) dX5_init_1 ?_
    refine r_iln X dX5_init_4 rfl (lv_at hl 1 rfl) ?_
    refine r_ic X dX5_init_5 ?_
    refine r_mmax X wd_278 hl.1 (Nat.le_of_ble_eq_true rfl) (Nat.le_of_ble_eq_true rfl) ⟨Nat.le_of_ble_eq_true rfl, Nat.le_of_ble_eq_true rfl⟩ dX5_init_6 ?_
    refine r_eqI (v := 40) (by decide) ?_
    refine r_isn (lv' := [(2, .int (iV 40)), (0, .ref (G.2.2.1 106)), (1, .int (iV 40))]) X dX5_init_9 rfl hl (by decide) rfl (fun ls hl => ?_)
    refine r_aln X dX5_init_10 rfl (lv_at hl 1 rfl) ?_
    refine r_iln X dX5_init_11 rfl (lv_at hl 0 rfl) ?_
    refine k_newa X Y V kd_107 ln_107 rfl (Nat.le_of_ble_eq_true rfl) (zst_n (zst_mono z_142 (by decide))) wd_85 (Nat.le_of_ble_eq_true rfl) (Nat.le_of_ble_eq_true rfl) dX5_init_12 (fun H V => ?_)
    refine k_pr (kI := 0) X Y V hin ci_5 kd_106 ⟨by decide, by decide⟩ (by decide) (by decide) 0 rfl (by decide) rfl rfl rfl rfl (tyX5_ok 0 (by decide)) (fun _ => rfl) (fun _ => rfl) wd_281 (σ' := st_143) rfl dX5_init_14 (fun H locs V => ?_)
    refine r_aln X dX5_init_17 rfl (lv_at hl 1 rfl) ?_
    refine r_iln X dX5_init_18 rfl (lv_at hl 0 rfl) ?_
    refine k_newa X Y V kd_108 ln_108 rfl (Nat.le_of_ble_eq_true rfl) (zst_n (zst_mono z_143 (by decide))) wd_85 (Nat.le_of_ble_eq_true rfl) (Nat.le_of_ble_eq_true rfl) dX5_init_19 (fun H V => ?_)
    refine k_pr (kI := 1) X Y V hin ci_5 kd_106 ⟨by decide, by decide⟩ (by decide) (by decide) 1 rfl (by decide) rfl rfl rfl rfl (tyX5_ok 1 (by decide)) (fun _ => rfl) (fun _ => rfl) wd_283 (σ' := st_144) rfl dX5_init_21 (fun H locs V => ?_)
    refine r_aln X dX5_init_24 rfl (lv_at hl 1 rfl) ?_
    refine r_iln X dX5_init_25 rfl (lv_at hl 0 rfl) ?_
    refine k_newa X Y V kd_109 ln_109 rfl (Nat.le_of_ble_eq_true rfl) (zst_n (zst_mono z_144 (by decide))) wd_85 (Nat.le_of_ble_eq_true rfl) (Nat.le_of_ble_eq_true rfl) dX5_init_26 (fun H V => ?_)
    refine k_pr (kI := 2) X Y V hin ci_5 kd_106 ⟨by decide, by decide⟩ (by decide) (by decide) 2 rfl (by decide) rfl rfl rfl rfl (tyX5_ok 2 (by decide)) (fun _ => rfl) (fun _ => rfl) wd_285 (σ' := st_145) rfl dX5_init_28 (fun H locs V => ?_)
    refine r_aln X dX5_init_31 rfl (lv_at hl 1 rfl) ?_
    refine r_iln X dX5_init_32 rfl (lv_at hl 0 rfl) ?_
    refine k_newa X Y V kd_110 ln_110 rfl (Nat.le_of_ble_eq_true rfl) (zst_n (zst_mono z_145 (by decide))) wd_85 (Nat.le_of_ble_eq_true rfl) (Nat.le_of_ble_eq_true rfl) dX5_init_33 (fun H V => ?_)
    refine k_pr (kI := 3) X Y V hin ci_5 kd_106 ⟨by decide, by decide⟩ (by decide) (by decide) 3 rfl (by decide) rfl rfl rfl rfl (tyX5_ok 3 (by decide)) (fun _ => rfl) (fun _ => rfl) wd_287 (σ' := st_146) rfl dX5_init_35 (fun H locs V => ?_)
    refine r_aln X dX5_init_38 rfl (lv_at hl 1 rfl) ?_
    refine r_iln X dX5_init_39 rfl (lv_at hl 0 rfl) ?_
    refine k_newa X Y V kd_111 ln_111 rfl (Nat.le_of_ble_eq_true rfl) (zst_n (zst_mono z_146 (by decide))) wd_85 (Nat.le_of_ble_eq_true rfl) (Nat.le_of_ble_eq_true rfl) dX5_init_40 (fun H V => ?_)
    refine k_pr (kI := 4) X Y V hin ci_5 kd_106 ⟨by decide, by decide⟩ (by decide) (by decide) 4 rfl (by decide) rfl rfl rfl rfl (tyX5_ok 4 (by decide)) (fun _ => rfl) (fun _ => rfl) wd_289 (σ' := st_147) rfl dX5_init_42 (fun H locs V => ?_)
    exact k_rv X V dX5_init_45
  exact go _ _ _ X V
set_option maxRecDepth 100000 in
set_option maxHeartbeats 4000000 in
theorem ki_X5_init_148 (l : Launch) (G : UG) : Met l yX5_init (.code yX5_init cX5_init 3 (Option.none : Option Jvm.ClassFile.FieldType) :: TB) { frames := 1, cells := 5, slots := 200, locals := 21 } (uvPk G 113 st_148 [.ref (G.2.2.1 112), .int (iV 40)]) (uvKv G 118 st_153) 5 200 (uvKA G) := by
  refine k_met (own := RX5) (lv := [(0, .ref (G.2.2.1 112)), (1, .int (iV 40))]) (by decide) rfl (Nat.le_of_ble_eq_true rfl) rfl ?_
  intro p e s m below meth c ls X Y V hl hin
  have go : ∀ (args : Array Value) (H : Heap) (locs : List Loc), uvCx p m c cX5_init 3 RX5 s args meth (Option.none : Option Jvm.ClassFile.FieldType) → uvWk G 113 st_148 s H locs → W p l e { frames := 1, cells := 5, slots := 200, locals := 21 } s m args below meth c H locs 0 0 (MQ below (uvKv G 118 st_153) args s 5 200 (uvKA G)) (F0 m 0 ls []) := by
    intro args H locs X V
    refine r_aln X dX5_init_0 rfl (lv_at hl 0 rfl) ?_
    refine k_obj X wd_277 w_obj hl.1 (Nat.le_of_ble_eq_true rfl) (Nat.le_of_ble_eq_true rfl) dX5_init_1 ?_
    refine r_iln X dX5_init_4 rfl (lv_at hl 1 rfl) ?_
    refine r_ic X dX5_init_5 ?_
    refine r_mmax X wd_278 hl.1 (Nat.le_of_ble_eq_true rfl) (Nat.le_of_ble_eq_true rfl) ⟨Nat.le_of_ble_eq_true rfl, Nat.le_of_ble_eq_true rfl⟩ dX5_init_6 ?_
    refine r_eqI (v := 40) (by decide) ?_
    refine r_isn (lv' := [(2, .int (iV 40)), (0, .ref (G.2.2.1 112)), (1, .int (iV 40))]) X dX5_init_9 rfl hl (by decide) rfl (fun ls hl => ?_)
    refine r_aln X dX5_init_10 rfl (lv_at hl 1 rfl) ?_
    refine r_iln X dX5_init_11 rfl (lv_at hl 0 rfl) ?_
    refine k_newa X Y V kd_113 ln_113 rfl (Nat.le_of_ble_eq_true rfl) (zst_n (zst_mono z_148 (by decide))) wd_85 (Nat.le_of_ble_eq_true rfl) (Nat.le_of_ble_eq_true rfl) dX5_init_12 (fun H V => ?_)
    refine k_pr (kI := 0) X Y V hin ci_5 kd_112 ⟨by decide, by decide⟩ (by decide) (by decide) 0 rfl (by decide) rfl rfl rfl rfl (tyX5_ok 0 (by decide)) (fun _ => rfl) (fun _ => rfl) wd_281 (σ' := st_149) rfl dX5_init_14 (fun H locs V => ?_)
    refine r_aln X dX5_init_17 rfl (lv_at hl 1 rfl) ?_
    refine r_iln X dX5_init_18 rfl (lv_at hl 0 rfl) ?_
    refine k_newa X Y V kd_114 ln_114 rfl (Nat.le_of_ble_eq_true rfl) (zst_n (zst_mono z_149 (by decide))) wd_85 (Nat.le_of_ble_eq_true rfl) (Nat.le_of_ble_eq_true rfl) dX5_init_19 (fun H V => ?_)
    refine k_pr (kI := 1) X Y V hin ci_5 kd_112 ⟨by decide, by decide⟩ (by decide) (by decide) 1 rfl (by decide) rfl rfl rfl rfl (tyX5_ok 1 (by decide)) (fun _ => rfl) (fun _ => rfl) wd_283 (σ' := st_150) rfl dX5_init_21 (fun H locs V => ?_)
    refine r_aln X dX5_init_24 rfl (lv_at hl 1 rfl) ?_
    refine r_iln X dX5_init_25 rfl (lv_at hl 0 rfl) ?_
    refine k_newa X Y V kd_115 ln_115 rfl (Nat.le_of_ble_eq_true rfl) (zst_n (zst_mono z_150 (by decide))) wd_85 (Nat.le_of_ble_eq_true rfl) (Nat.le_of_ble_eq_true rfl) dX5_init_26 (fun H V => ?_)
    refine k_pr (kI := 2) X Y V hin ci_5 kd_112 ⟨by decide, by decide⟩ (by decide) (by decide) 2 rfl (by decide) rfl rfl rfl rfl (tyX5_ok 2 (by decide)) (fun _ => rfl) (fun _ => rfl) wd_285 (σ' := st_151) rfl dX5_init_28 (fun H locs V => ?_)
    refine r_aln X dX5_init_31 rfl (lv_at hl 1 rfl) ?_
    refine r_iln X dX5_init_32 rfl (lv_at hl 0 rfl) ?_
    refine k_newa X Y V kd_116 ln_116 rfl (Nat.le_of_ble_eq_true rfl) (zst_n (zst_mono z_151 (by decide))) wd_85 (Nat.le_of_ble_eq_true rfl) (Nat.le_of_ble_eq_true rfl) dX5_init_33 (fun H V => ?_)
    refine k_pr (kI := 3) X Y V hin ci_5 kd_112 ⟨by decide, by decide⟩ (by decide) (by decide) 3 rfl (by decide) rfl rfl rfl rfl (tyX5_ok 3 (by decide)) (fun _ => rfl) (fun _ => rfl) wd_287 (σ' := st_152) rfl dX5_init_35 (fun H locs V => ?_)
    refine r_aln X dX5_init_38 rfl (lv_at hl 1 rfl) ?_
    refine r_iln X dX5_init_39 rfl (lv_at hl 0 rfl) ?_
    refine k_newa X Y V kd_117 ln_117 rfl (Nat.le_of_ble_eq_true rfl) (zst_n (zst_mono z_152 (by decide))) wd_85 (Nat.le_of_ble_eq_true rfl) (Nat.le_of_ble_eq_true rfl) dX5_init_40 (fun H V => ?_)
    refine k_pr (kI := 4) X Y V hin ci_5 kd_112 ⟨by decide, by decide⟩ (by decide) (by decide) 4 rfl (by decide) rfl rfl rfl rfl (tyX5_ok 4 (by decide)) (fun _ => rfl) (fun _ => rfl) wd_289 (σ' := st_153) rfl dX5_init_42 (fun H locs V => ?_)
    exact k_rv X V dX5_init_45
  exact go _ _ _ X V
set_option maxRecDepth 100000 in
set_option maxHeartbeats 4000000 in
theorem ki_X5_begin_154 (l : Launch) (G : UG) : Met l yX5_begin (.code yX5_begin cX5_begin 2 (Option.none : Option Jvm.ClassFile.FieldType) :: TB) { frames := 0, cells := 0, slots := 0, locals := 0 } (uvPk G 118 st_154 [.ref (G.2.2.1 63), .int (iV 0)]) (uvKv G 118 st_159) 0 0 (uvKA G) := by
  refine k_met (own := RX5) (lv := [(0, .ref (G.2.2.1 63)), (1, .int (iV 0))]) (by decide) rfl (Nat.le_of_ble_eq_true rfl) rfl ?_
  intro p e s m below meth c ls X Y V hl hin
  have go : ∀ (args : Array Value) (H : Heap) (locs : List Loc), uvCx p m c cX5_begin 2 RX5 s args meth (Option.none : Option Jvm.ClassFile.FieldType) → uvWk G 118 st_154 s H locs → W p l e { frames := 0, cells := 0, slots := 0, locals := 0 } s m args below meth c H locs 0 0 (MQ below (uvKv G 118 st_159) args s 0 0 (uvKA G)) (F0 m 0 ls []) := by
    intro args H locs X V
    refine r_aln X dX5_begin_0 rfl (lv_at hl 0 rfl) ?_
    refine k_gr (kI := 0) (o' := 64) X Y V ci_5 kd_63 ⟨by decide, by decide⟩ 0 rfl (by decide +kernel) (by decide) rfl rfl wd_281 dX5_begin_1 ?_
    refine r_iln X dX5_begin_4 rfl (lv_at hl 1 rfl) ?_
    refine r_ldc X (n := 1000000) wd_310 (by decide) dX5_begin_5 ?_
    refine k_ias X Y V kd_64 ⟨by decide, by decide⟩ (by decide) ln_64 ⟨by decide, by decide⟩ (σ' := st_155) rfl dX5_begin_7 (fun H locs V => ?_)
    refine r_aln X dX5_begin_8 rfl (lv_at hl 0 rfl) ?_
    refine k_gr (kI := 1) (o' := 65) X Y V ci_5 kd_63 ⟨by decide, by decide⟩ 1 rfl (by decide +kernel) (by decide) rfl rfl wd_283 dX5_begin_9 ?_
    refine r_iln X dX5_begin_12 rfl (lv_at hl 1 rfl) ?_
    refine r_ldc X (n := 1000000) wd_310 (by decide) dX5_begin_13 ?_
    refine k_ias X Y V kd_65 ⟨by decide, by decide⟩ (by decide) ln_65 ⟨by decide, by decide⟩ (σ' := st_156) rfl dX5_begin_15 (fun H locs V => ?_)
    refine r_aln X dX5_begin_16 rfl (lv_at hl 0 rfl) ?_
    refine k_gr (kI := 2) (o' := 66) X Y V ci_5 kd_63 ⟨by decide, by decide⟩ 2 rfl (by decide +kernel) (by decide) rfl rfl wd_285 dX5_begin_17 ?_
    refine r_iln X dX5_begin_20 rfl (lv_at hl 1 rfl) ?_
    refine r_ic X dX5_begin_21 ?_
    refine k_ias X Y V kd_66 ⟨by decide, by decide⟩ (by decide) ln_66 ⟨by decide, by decide⟩ (σ' := st_157) rfl dX5_begin_22 (fun H locs V => ?_)
    refine r_aln X dX5_begin_23 rfl (lv_at hl 0 rfl) ?_
    refine k_gr (kI := 3) (o' := 67) X Y V ci_5 kd_63 ⟨by decide, by decide⟩ 3 rfl (by decide +kernel) (by decide) rfl rfl wd_287 dX5_begin_24 ?_
    refine r_iln X dX5_begin_27 rfl (lv_at hl 1 rfl) ?_
    refine r_ic X dX5_begin_28 ?_
    refine k_ias X Y V kd_67 ⟨by decide, by decide⟩ (by decide) ln_67 ⟨by decide, by decide⟩ (σ' := st_158) rfl dX5_begin_29 (fun H locs V => ?_)
    refine r_aln X dX5_begin_30 rfl (lv_at hl 0 rfl) ?_
    refine k_gr (kI := 4) (o' := 68) X Y V ci_5 kd_63 ⟨by decide, by decide⟩ 4 rfl (by decide +kernel) (by decide) rfl rfl wd_289 dX5_begin_31 ?_
    refine r_iln X dX5_begin_34 rfl (lv_at hl 1 rfl) ?_
    refine r_ic X dX5_begin_35 ?_
    refine k_ias X Y V kd_68 ⟨by decide, by decide⟩ (by decide) ln_68 ⟨by decide, by decide⟩ (σ' := st_159) rfl dX5_begin_36 (fun H locs V => ?_)
    exact k_rv X V dX5_begin_37
  exact go _ _ _ X V
set_option maxRecDepth 100000 in
set_option maxHeartbeats 4000000 in
theorem ki_X5_end_154 (l : Launch) (G : UG) : Met l yX5_end (.code yX5_end cX5_end 2 (Option.none : Option Jvm.ClassFile.FieldType) :: TB) { frames := 1, cells := 0, slots := 0, locals := 21 } (uvPk G 118 st_154 [.ref (G.2.2.1 63), .int (iV 0)]) (uvKv G 118 st_161) 0 0 (uvKA G) := by
  refine k_met (own := RX5) (lv := [(0, .ref (G.2.2.1 63)), (1, .int (iV 0))]) (by decide) rfl (Nat.le_of_ble_eq_true rfl) rfl ?_
  intro p e s m below meth c ls X Y V hl hin
  have go : ∀ (args : Array Value) (H : Heap) (locs : List Loc), uvCx p m c cX5_end 2 RX5 s args meth (Option.none : Option Jvm.ClassFile.FieldType) → uvWk G 118 st_154 s H locs → W p l e { frames := 1, cells := 0, slots := 0, locals := 21 } s m args below meth c H locs 0 0 (MQ below (uvKv G 118 st_161) args s 0 0 (uvKA G)) (F0 m 0 ls []) := by
    intro args H locs X V
    refine r_aln X dX5_end_0 rfl (lv_at hl 0 rfl) ?_
    refine r_iln X dX5_end_1 rfl (lv_at hl 1 rfl) ?_
    refine k_kv V (k_runV (As := [.int (iV 0)]) (rest := []) (o := 63) X Y V (ki_X5_begin_154 l G) mv_X5_begin wd_306 ci_5 kd_63 ⟨by decide, by decide⟩ ⟨⟨rfl, rfl⟩, ⟨Nat.le_of_ble_eq_true rfl, Nat.le_of_ble_eq_true rfl⟩, Nat.le_of_ble_eq_true rfl, Nat.le_of_ble_eq_true rfl⟩ rfl rfl hl.1 (Nat.le_of_ble_eq_true rfl) dX5_end_2) (fun H locs V => ?_)
    refine r_aln X dX5_end_5 rfl (lv_at hl 0 rfl) ?_
    refine k_gr (kI := 0) (o' := 64) X Y V ci_5 kd_63 ⟨by decide, by decide⟩ 0 rfl (by decide +kernel) (by decide) rfl rfl wd_281 dX5_end_6 ?_
    refine r_iln X dX5_end_9 rfl (lv_at hl 1 rfl) ?_
    refine r_ic X dX5_end_10 ?_
    refine k_ias X Y V kd_64 ⟨by decide, by decide⟩ (by decide) ln_64 ⟨by decide, by decide⟩ (σ' := st_160) rfl dX5_end_11 (fun H locs V => ?_)
    refine r_aln X dX5_end_12 rfl (lv_at hl 0 rfl) ?_
    refine k_gr (kI := 3) (o' := 67) X Y V ci_5 kd_63 ⟨by decide, by decide⟩ 3 rfl (by decide +kernel) (by decide) rfl rfl wd_287 dX5_end_13 ?_
    refine r_iln X dX5_end_16 rfl (lv_at hl 1 rfl) ?_
    refine r_ic X dX5_end_17 ?_
    refine k_ias X Y V kd_67 ⟨by decide, by decide⟩ (by decide) ln_67 ⟨by decide, by decide⟩ (σ' := st_161) rfl dX5_end_18 (fun H locs V => ?_)
    exact k_rv X V dX5_end_19
  exact go _ _ _ X V
set_option maxRecDepth 100000 in
set_option maxHeartbeats 4000000 in
theorem ki_X0_init_89 (l : Launch) (G : UG) : Met l yX0_init (.code yX0_init cX0_init 5 (Option.none : Option Jvm.ClassFile.FieldType) :: TB) { frames := 2, cells := 62, slots := 1676, locals := 43 } (uvPk G 56 st_89 [.ref (G.2.2.1 55), .ref (G.2.2.1 10), .ref (G.2.2.1 35), .ref (G.2.2.1 54)]) (uvKv G 118 st_161) 62 1676 (uvKA G) := by
  refine k_met (own := RX0) (lv := [(0, .ref (G.2.2.1 55)), (1, .ref (G.2.2.1 10)), (2, .ref (G.2.2.1 35)), (3, .ref (G.2.2.1 54))]) (by decide) rfl (Nat.le_of_ble_eq_true rfl) rfl ?_
  intro p e s m below meth c ls X Y V hl hin
  have go : ∀ (args : Array Value) (H : Heap) (locs : List Loc), uvCx p m c cX0_init 5 RX0 s args meth (Option.none : Option Jvm.ClassFile.FieldType) → uvWk G 56 st_89 s H locs → W p l e { frames := 2, cells := 62, slots := 1676, locals := 43 } s m args below meth c H locs 0 0 (MQ below (uvKv G 118 st_161) args s 62 1676 (uvKA G)) (F0 m 0 ls []) := by
    intro args H locs X V
    refine r_aln X dX0_init_0 rfl (lv_at hl 0 rfl) ?_
    refine k_obj X wd_270 w_obj hl.1 (Nat.le_of_ble_eq_true rfl) (Nat.le_of_ble_eq_true rfl) dX0_init_1 ?_
    refine r_aln X dX0_init_4 rfl (lv_at hl 0 rfl) ?_
    refine r_bp X dX0_init_5 (by decide) ?_
    refine k_newq X Y V 2 (by decide) kd_56 rfl Y.2.2.1.2 ln_56 rfl (Nat.le_of_ble_eq_true rfl) (zst_r (zst_mono z_89 (by decide))) wd_271 (Nat.le_of_ble_eq_true rfl) (Nat.le_of_ble_eq_true rfl) dX0_init_7 (fun H V => ?_)
    refine k_pr (kI := 3) X Y V hin ci_0 kd_55 ⟨by decide, by decide⟩ (by decide) (by decide) 3 rfl (by decide) rfl rfl rfl rfl (tyX0_ok 3 (by decide)) (fun _ => rfl) (fun _ => rfl) wd_314 (σ' := st_90) rfl dX0_init_10 (fun H locs V => ?_)
    refine r_aln X dX0_init_13 rfl (lv_at hl 0 rfl) ?_
    refine k_new X Y V ci_5 kd_57 (zst_n (zst_mono z_90 (by decide))) (zst_r (zst_mono z_90 (by decide))) df_5 wd_271 wd_273 wd_10 (Nat.le_of_ble_eq_true rfl) (Nat.le_of_ble_eq_true rfl) dX0_init_14 (fun H V => ?_)
    refine r_dup X dX0_init_17 rfl ?_
    refine r_ic X dX0_init_18 ?_
    refine k_kv V (k_runI (nn := 1) (As := [.int (iV 1)]) (rest := [.ref (G.2.2.1 57), .ref (G.2.2.1 55)]) (o := 57) X Y V (ki_X5_init_90 l G) rfl wi_X5 (by decide +kernel) wd_274 ⟨⟨rfl, rfl⟩, ⟨Nat.le_of_ble_eq_true rfl, Nat.le_of_ble_eq_true rfl⟩, Nat.le_of_ble_eq_true rfl, Nat.le_of_ble_eq_true rfl⟩ rfl rfl hl.1 (Nat.le_of_ble_eq_true rfl) dX0_init_19) (fun H locs V => ?_)
    refine k_pr (kI := 4) X Y V hin ci_0 kd_55 ⟨by decide, by decide⟩ (by decide) (by decide) 4 rfl (by decide) rfl rfl rfl rfl (tyX0_ok 4 (by decide)) (fun _ => rfl) (fun _ => rfl) wd_315 (σ' := st_96) rfl dX0_init_22 (fun H locs V => ?_)
    refine r_aln X dX0_init_25 rfl (lv_at hl 0 rfl) ?_
    refine k_new X Y V ci_5 kd_63 (zst_n (zst_mono z_96 (by decide))) (zst_r (zst_mono z_96 (by decide))) df_5 wd_271 wd_273 wd_10 (Nat.le_of_ble_eq_true rfl) (Nat.le_of_ble_eq_true rfl) dX0_init_26 (fun H V => ?_)
    refine r_dup X dX0_init_29 rfl ?_
    refine r_ic X dX0_init_30 ?_
    refine k_kv V (k_runI (nn := 1) (As := [.int (iV 1)]) (rest := [.ref (G.2.2.1 63), .ref (G.2.2.1 55)]) (o := 63) X Y V (ki_X5_init_96 l G) rfl wi_X5 (by decide +kernel) wd_274 ⟨⟨rfl, rfl⟩, ⟨Nat.le_of_ble_eq_true rfl, Nat.le_of_ble_eq_true rfl⟩, Nat.le_of_ble_eq_true rfl, Nat.le_of_ble_eq_true rfl⟩ rfl rfl hl.1 (Nat.le_of_ble_eq_true rfl) dX0_init_31) (fun H locs V => ?_)
    refine k_pr (kI := 5) X Y V hin ci_0 kd_55 ⟨by decide, by decide⟩ (by decide) (by decide) 5 rfl (by decide) rfl rfl rfl rfl (tyX0_ok 5 (by decide)) (fun _ => rfl) (fun _ => rfl) wd_316 (σ' := st_102) rfl dX0_init_34 (fun H locs V => ?_)
    refine r_aln X dX0_init_37 rfl (lv_at hl 0 rfl) ?_
    refine r_bp X dX0_init_38 (by decide) ?_
    refine k_newa X Y V kd_69 ln_69 rfl (Nat.le_of_ble_eq_true rfl) (zst_n (zst_mono z_102 (by decide))) wd_85 (Nat.le_of_ble_eq_true rfl) (Nat.le_of_ble_eq_true rfl) dX0_init_40 (fun H V => ?_)
    refine k_pr (kI := 6) X Y V hin ci_0 kd_55 ⟨by decide, by decide⟩ (by decide) (by decide) 6 rfl (by decide) rfl rfl rfl rfl (tyX0_ok 6 (by decide)) (fun _ => rfl) (fun _ => rfl) wd_317 (σ' := st_103) rfl dX0_init_42 (fun H locs V => ?_)
    refine r_aln X dX0_init_45 rfl (lv_at hl 0 rfl) ?_
    refine r_aln X dX0_init_46 rfl (lv_at hl 1 rfl) ?_
    refine k_pr (kI := 0) X Y V hin ci_0 kd_55 ⟨by decide, by decide⟩ (by decide) (by decide) 0 rfl (by decide) rfl rfl rfl rfl (tyX0_ok 0 (by decide)) (fun _ => rfl) (fun _ => rfl) wd_311 (σ' := st_104) rfl dX0_init_47 (fun H locs V => ?_)
    refine r_aln X dX0_init_50 rfl (lv_at hl 0 rfl) ?_
    refine r_aln X dX0_init_51 rfl (lv_at hl 2 rfl) ?_
    refine k_gr (kI := 5) (o' := 37) X Y V ci_2 kd_35 ⟨by decide, by decide⟩ 5 rfl (by decide +kernel) (by decide) rfl rfl wd_238 dX0_init_52 ?_
    refine k_pr (kI := 1) X Y V hin ci_0 kd_55 ⟨by decide, by decide⟩ (by decide) (by decide) 1 rfl (by decide) rfl rfl rfl rfl (tyX0_ok 1 (by decide)) (fun _ => rfl) (fun _ => rfl) wd_312 (σ' := st_105) rfl dX0_init_55 (fun H locs V => ?_)
    refine r_aln X dX0_init_58 rfl (lv_at hl 0 rfl) ?_
    refine r_aln X dX0_init_59 rfl (lv_at hl 3 rfl) ?_
    refine k_pr (kI := 2) X Y V hin ci_0 kd_55 ⟨by decide, by decide⟩ (by decide) (by decide) 2 rfl (by decide) rfl rfl rfl rfl (tyX0_ok 2 (by decide)) (fun _ => rfl) (fun _ => rfl) wd_313 (σ' := st_106) rfl dX0_init_60 (fun H locs V => ?_)
    refine r_ic X dX0_init_63 ?_
    refine r_is (lv' := [(4, .int (iV 0)), (0, .ref (G.2.2.1 55)), (1, .ref (G.2.2.1 10)), (2, .ref (G.2.2.1 35)), (3, .ref (G.2.2.1 54))]) X dX0_init_64 hl (by decide) rfl (fun ls hl => ?_)
    refine r_il X dX0_init_66 (lv_at hl 0 rfl) ?_
    refine r_bp X dX0_init_68 (by decide) ?_
    refine r_cge (cx := 0) (cy := 8) (tgt := 95) X rfl rfl dX0_init_70 (by decide) (fun _ => ?_) (fun c => absurd (by decide) c)
    refine r_aln X dX0_init_73 rfl (lv_at hl 1 rfl) ?_
    refine k_gr (kI := 3) (o' := 56) X Y V ci_0 kd_55 ⟨by decide, by decide⟩ 3 rfl (by decide +kernel) (by decide) rfl rfl wd_314 dX0_init_74 ?_
    refine r_il X dX0_init_77 (lv_at hl 0 rfl) ?_
    refine k_new X Y V ci_5 kd_70 (zst_n (zst_mono z_106 (by decide))) (zst_r (zst_mono z_106 (by decide))) df_5 wd_271 wd_273 wd_10 (Nat.le_of_ble_eq_true rfl) (Nat.le_of_ble_eq_true rfl) dX0_init_79 (fun H V => ?_)
    refine r_dup X dX0_init_82 rfl ?_
    refine r_bp X dX0_init_83 (by decide) ?_
    refine k_kv V (k_runI (nn := 1) (As := [.int (iV 40)]) (rest := [.ref (G.2.2.1 70), .int (iV 0), .ref (G.2.2.1 56)]) (o := 70) X Y V (ki_X5_init_106 l G) rfl wi_X5 (by decide +kernel) wd_274 ⟨⟨rfl, rfl⟩, ⟨Nat.le_of_ble_eq_true rfl, Nat.le_of_ble_eq_true rfl⟩, Nat.le_of_ble_eq_true rfl, Nat.le_of_ble_eq_true rfl⟩ rfl rfl hl.1 (Nat.le_of_ble_eq_true rfl) dX0_init_85) (fun H locs V => ?_)
    refine k_aas X Y V 2 (r := (RX5, TX5, 5)) (by decide) kd_56 ⟨by decide, by decide⟩ (by decide) rfl (ci := 5) rfl (by decide) kd_70 ⟨by decide, by decide⟩ ln_56 ⟨by decide, by decide⟩ (σ' := st_112) rfl dX0_init_88 (fun H locs V => ?_)
    refine r_inc (kk := 0) (lv' := [(4, .int (iV 1)), (0, .ref (G.2.2.1 55)), (1, .ref (G.2.2.1 10)), (2, .ref (G.2.2.1 35)), (3, .ref (G.2.2.1 54))]) X dX0_init_89 hl rfl (by decide) rfl (fun ls hl => ?_)
    refine r_goto (tgt := 66) X dX0_init_92 (by decide) ?_
    refine r_il X dX0_init_66 (lv_at hl 0 rfl) ?_
    refine r_bp X dX0_init_68 (by decide) ?_
    refine r_cge (cx := 1) (cy := 8) (tgt := 95) X rfl rfl dX0_init_70 (by decide) (fun _ => ?_) (fun c => absurd (by decide) c)
    refine r_aln X dX0_init_73 rfl (lv_at hl 1 rfl) ?_
    refine k_gr (kI := 3) (o' := 56) X Y V ci_0 kd_55 ⟨by decide, by decide⟩ 3 rfl (by decide +kernel) (by decide) rfl rfl wd_314 dX0_init_74 ?_
    refine r_il X dX0_init_77 (lv_at hl 0 rfl) ?_
    refine k_new X Y V ci_5 kd_76 (zst_n (zst_mono z_112 (by decide))) (zst_r (zst_mono z_112 (by decide))) df_5 wd_271 wd_273 wd_10 (Nat.le_of_ble_eq_true rfl) (Nat.le_of_ble_eq_true rfl) dX0_init_79 (fun H V => ?_)
    refine r_dup X dX0_init_82 rfl ?_
    refine r_bp X dX0_init_83 (by decide) ?_
    refine k_kv V (k_runI (nn := 1) (As := [.int (iV 40)]) (rest := [.ref (G.2.2.1 76), .int (iV 1), .ref (G.2.2.1 56)]) (o := 76) X Y V (ki_X5_init_112 l G) rfl wi_X5 (by decide +kernel) wd_274 ⟨⟨rfl, rfl⟩, ⟨Nat.le_of_ble_eq_true rfl, Nat.le_of_ble_eq_true rfl⟩, Nat.le_of_ble_eq_true rfl, Nat.le_of_ble_eq_true rfl⟩ rfl rfl hl.1 (Nat.le_of_ble_eq_true rfl) dX0_init_85) (fun H locs V => ?_)
    refine k_aas X Y V 2 (r := (RX5, TX5, 5)) (by decide) kd_56 ⟨by decide, by decide⟩ (by decide) rfl (ci := 5) rfl (by decide) kd_76 ⟨by decide, by decide⟩ ln_56 ⟨by decide, by decide⟩ (σ' := st_118) rfl dX0_init_88 (fun H locs V => ?_)
    refine r_inc (kk := 0) (lv' := [(4, .int (iV 2)), (0, .ref (G.2.2.1 55)), (1, .ref (G.2.2.1 10)), (2, .ref (G.2.2.1 35)), (3, .ref (G.2.2.1 54))]) X dX0_init_89 hl rfl (by decide) rfl (fun ls hl => ?_)
    refine r_goto (tgt := 66) X dX0_init_92 (by decide) ?_
    refine r_il X dX0_init_66 (lv_at hl 0 rfl) ?_
    refine r_bp X dX0_init_68 (by decide) ?_
    refine r_cge (cx := 2) (cy := 8) (tgt := 95) X rfl rfl dX0_init_70 (by decide) (fun _ => ?_) (fun c => absurd (by decide) c)
    refine r_aln X dX0_init_73 rfl (lv_at hl 1 rfl) ?_
    refine k_gr (kI := 3) (o' := 56) X Y V ci_0 kd_55 ⟨by decide, by decide⟩ 3 rfl (by decide +kernel) (by decide) rfl rfl wd_314 dX0_init_74 ?_
    refine r_il X dX0_init_77 (lv_at hl 0 rfl) ?_
    refine k_new X Y V ci_5 kd_82 (zst_n (zst_mono z_118 (by decide))) (zst_r (zst_mono z_118 (by decide))) df_5 wd_271 wd_273 wd_10 (Nat.le_of_ble_eq_true rfl) (Nat.le_of_ble_eq_true rfl) dX0_init_79 (fun H V => ?_)
    refine r_dup X dX0_init_82 rfl ?_
    refine r_bp X dX0_init_83 (by decide) ?_
    refine k_kv V (k_runI (nn := 1) (As := [.int (iV 40)]) (rest := [.ref (G.2.2.1 82), .int (iV 2), .ref (G.2.2.1 56)]) (o := 82) X Y V (ki_X5_init_118 l G) rfl wi_X5 (by decide +kernel) wd_274 ⟨⟨rfl, rfl⟩, ⟨Nat.le_of_ble_eq_true rfl, Nat.le_of_ble_eq_true rfl⟩, Nat.le_of_ble_eq_true rfl, Nat.le_of_ble_eq_true rfl⟩ rfl rfl hl.1 (Nat.le_of_ble_eq_true rfl) dX0_init_85) (fun H locs V => ?_)
    refine k_aas X Y V 2 (r := (RX5, TX5, 5)) (by decide) kd_56 ⟨by decide, by decide⟩ (by decide) rfl (ci := 5) rfl (by decide) kd_82 ⟨by decide, by decide⟩ ln_56 ⟨by decide, by decide⟩ (σ' := st_124) rfl dX0_init_88 (fun H locs V => ?_)
    refine r_inc (kk := 0) (lv' := [(4, .int (iV 3)), (0, .ref (G.2.2.1 55)), (1, .ref (G.2.2.1 10)), (2, .ref (G.2.2.1 35)), (3, .ref (G.2.2.1 54))]) X dX0_init_89 hl rfl (by decide) rfl (fun ls hl => ?_)
    refine r_goto (tgt := 66) X dX0_init_92 (by decide) ?_
    refine r_il X dX0_init_66 (lv_at hl 0 rfl) ?_
    refine r_bp X dX0_init_68 (by decide) ?_
    refine r_cge (cx := 3) (cy := 8) (tgt := 95) X rfl rfl dX0_init_70 (by decide) (fun _ => ?_) (fun c => absurd (by decide) c)
    refine r_aln X dX0_init_73 rfl (lv_at hl 1 rfl) ?_
    refine k_gr (kI := 3) (o' := 56) X Y V ci_0 kd_55 ⟨by decide, by decide⟩ 3 rfl (by decide +kernel) (by decide) rfl rfl wd_314 dX0_init_74 ?_
    refine r_il X dX0_init_77 (lv_at hl 0 rfl) ?_
    refine k_new X Y V ci_5 kd_88 (zst_n (zst_mono z_124 (by decide))) (zst_r (zst_mono z_124 (by decide))) df_5 wd_271 wd_273 wd_10 (Nat.le_of_ble_eq_true rfl) (Nat.le_of_ble_eq_true rfl) dX0_init_79 (fun H V => ?_)
    refine r_dup X dX0_init_82 rfl ?_
    refine r_bp X dX0_init_83 (by decide) ?_
    refine k_kv V (k_runI (nn := 1) (As := [.int (iV 40)]) (rest := [.ref (G.2.2.1 88), .int (iV 3), .ref (G.2.2.1 56)]) (o := 88) X Y V (ki_X5_init_124 l G) rfl wi_X5 (by decide +kernel) wd_274 ⟨⟨rfl, rfl⟩, ⟨Nat.le_of_ble_eq_true rfl, Nat.le_of_ble_eq_true rfl⟩, Nat.le_of_ble_eq_true rfl, Nat.le_of_ble_eq_true rfl⟩ rfl rfl hl.1 (Nat.le_of_ble_eq_true rfl) dX0_init_85) (fun H locs V => ?_)
    refine k_aas X Y V 2 (r := (RX5, TX5, 5)) (by decide) kd_56 ⟨by decide, by decide⟩ (by decide) rfl (ci := 5) rfl (by decide) kd_88 ⟨by decide, by decide⟩ ln_56 ⟨by decide, by decide⟩ (σ' := st_130) rfl dX0_init_88 (fun H locs V => ?_)
    refine r_inc (kk := 0) (lv' := [(4, .int (iV 4)), (0, .ref (G.2.2.1 55)), (1, .ref (G.2.2.1 10)), (2, .ref (G.2.2.1 35)), (3, .ref (G.2.2.1 54))]) X dX0_init_89 hl rfl (by decide) rfl (fun ls hl => ?_)
    refine r_goto (tgt := 66) X dX0_init_92 (by decide) ?_
    refine r_il X dX0_init_66 (lv_at hl 0 rfl) ?_
    refine r_bp X dX0_init_68 (by decide) ?_
    refine r_cge (cx := 4) (cy := 8) (tgt := 95) X rfl rfl dX0_init_70 (by decide) (fun _ => ?_) (fun c => absurd (by decide) c)
    refine r_aln X dX0_init_73 rfl (lv_at hl 1 rfl) ?_
    refine k_gr (kI := 3) (o' := 56) X Y V ci_0 kd_55 ⟨by decide, by decide⟩ 3 rfl (by decide +kernel) (by decide) rfl rfl wd_314 dX0_init_74 ?_
    refine r_il X dX0_init_77 (lv_at hl 0 rfl) ?_
    refine k_new X Y V ci_5 kd_94 (zst_n (zst_mono z_130 (by decide))) (zst_r (zst_mono z_130 (by decide))) df_5 wd_271 wd_273 wd_10 (Nat.le_of_ble_eq_true rfl) (Nat.le_of_ble_eq_true rfl) dX0_init_79 (fun H V => ?_)
    refine r_dup X dX0_init_82 rfl ?_
    refine r_bp X dX0_init_83 (by decide) ?_
    refine k_kv V (k_runI (nn := 1) (As := [.int (iV 40)]) (rest := [.ref (G.2.2.1 94), .int (iV 4), .ref (G.2.2.1 56)]) (o := 94) X Y V (ki_X5_init_130 l G) rfl wi_X5 (by decide +kernel) wd_274 ⟨⟨rfl, rfl⟩, ⟨Nat.le_of_ble_eq_true rfl, Nat.le_of_ble_eq_true rfl⟩, Nat.le_of_ble_eq_true rfl, Nat.le_of_ble_eq_true rfl⟩ rfl rfl hl.1 (Nat.le_of_ble_eq_true rfl) dX0_init_85) (fun H locs V => ?_)
    refine k_aas X Y V 2 (r := (RX5, TX5, 5)) (by decide) kd_56 ⟨by decide, by decide⟩ (by decide) rfl (ci := 5) rfl (by decide) kd_94 ⟨by decide, by decide⟩ ln_56 ⟨by decide, by decide⟩ (σ' := st_136) rfl dX0_init_88 (fun H locs V => ?_)
    refine r_inc (kk := 0) (lv' := [(4, .int (iV 5)), (0, .ref (G.2.2.1 55)), (1, .ref (G.2.2.1 10)), (2, .ref (G.2.2.1 35)), (3, .ref (G.2.2.1 54))]) X dX0_init_89 hl rfl (by decide) rfl (fun ls hl => ?_)
    refine r_goto (tgt := 66) X dX0_init_92 (by decide) ?_
    refine r_il X dX0_init_66 (lv_at hl 0 rfl) ?_
    refine r_bp X dX0_init_68 (by decide) ?_
    refine r_cge (cx := 5) (cy := 8) (tgt := 95) X rfl rfl dX0_init_70 (by decide) (fun _ => ?_) (fun c => absurd (by decide) c)
    refine r_aln X dX0_init_73 rfl (lv_at hl 1 rfl) ?_
    refine k_gr (kI := 3) (o' := 56) X Y V ci_0 kd_55 ⟨by decide, by decide⟩ 3 rfl (by decide +kernel) (by decide) rfl rfl wd_314 dX0_init_74 ?_
    refine r_il X dX0_init_77 (lv_at hl 0 rfl) ?_
    refine k_new X Y V ci_5 kd_100 (zst_n (zst_mono z_136 (by decide))) (zst_r (zst_mono z_136 (by decide))) df_5 wd_271 wd_273 wd_10 (Nat.le_of_ble_eq_true rfl) (Nat.le_of_ble_eq_true rfl) dX0_init_79 (fun H V => ?_)
    refine r_dup X dX0_init_82 rfl ?_
    refine r_bp X dX0_init_83 (by decide) ?_
    refine k_kv V (k_runI (nn := 1) (As := [.int (iV 40)]) (rest := [.ref (G.2.2.1 100), .int (iV 5), .ref (G.2.2.1 56)]) (o := 100) X Y V (ki_X5_init_136 l G) rfl wi_X5 (by decide +kernel) wd_274 ⟨⟨rfl, rfl⟩, ⟨Nat.le_of_ble_eq_true rfl, Nat.le_of_ble_eq_true rfl⟩, Nat.le_of_ble_eq_true rfl, Nat.le_of_ble_eq_true rfl⟩ rfl rfl hl.1 (Nat.le_of_ble_eq_true rfl) dX0_init_85) (fun H locs V => ?_)
    refine k_aas X Y V 2 (r := (RX5, TX5, 5)) (by decide) kd_56 ⟨by decide, by decide⟩ (by decide) rfl (ci := 5) rfl (by decide) kd_100 ⟨by decide, by decide⟩ ln_56 ⟨by decide, by decide⟩ (σ' := st_142) rfl dX0_init_88 (fun H locs V => ?_)
    refine r_inc (kk := 0) (lv' := [(4, .int (iV 6)), (0, .ref (G.2.2.1 55)), (1, .ref (G.2.2.1 10)), (2, .ref (G.2.2.1 35)), (3, .ref (G.2.2.1 54))]) X dX0_init_89 hl rfl (by decide) rfl (fun ls hl => ?_)
    refine r_goto (tgt := 66) X dX0_init_92 (by decide) ?_
    refine r_il X dX0_init_66 (lv_at hl 0 rfl) ?_
    refine r_bp X dX0_init_68 (by decide) ?_
    refine r_cge (cx := 6) (cy := 8) (tgt := 95) X rfl rfl dX0_init_70 (by decide) (fun _ => ?_) (fun c => absurd (by decide) c)
    refine r_aln X dX0_init_73 rfl (lv_at hl 1 rfl) ?_
    refine k_gr (kI := 3) (o' := 56) X Y V ci_0 kd_55 ⟨by decide, by decide⟩ 3 rfl (by decide +kernel) (by decide) rfl rfl wd_314 dX0_init_74 ?_
    refine r_il X dX0_init_77 (lv_at hl 0 rfl) ?_
    refine k_new X Y V ci_5 kd_106 (zst_n (zst_mono z_142 (by decide))) (zst_r (zst_mono z_142 (by decide))) df_5 wd_271 wd_273 wd_10 (Nat.le_of_ble_eq_true rfl) (Nat.le_of_ble_eq_true rfl) dX0_init_79 (fun H V => ?_)
    refine r_dup X dX0_init_82 rfl ?_
    refine r_bp X dX0_init_83 (by decide) ?_
    refine k_kv V (k_runI (nn := 1) (As := [.int (iV 40)]) (rest := [.ref (G.2.2.1 106), .int (iV 6), .ref (G.2.2.1 56)]) (o := 106) X Y V (ki_X5_init_142 l G) rfl wi_X5 (by decide +kernel) wd_274 ⟨⟨rfl, rfl⟩, ⟨Nat.le_of_ble_eq_true rfl, Nat.le_of_ble_eq_true rfl⟩, Nat.le_of_ble_eq_true rfl, Nat.le_of_ble_eq_true rfl⟩ rfl rfl hl.1 (Nat.le_of_ble_eq_true rfl) dX0_init_85) (fun H locs V => ?_)
    refine k_aas X Y V 2 (r := (RX5, TX5, 5)) (by decide) kd_56 ⟨by decide, by decide⟩ (by decide) rfl (ci := 5) rfl (by decide) kd_106 ⟨by decide, by decide⟩ ln_56 ⟨by decide, by decide⟩ (σ' := st_148) rfl dX0_init_88 (fun H locs V => ?_)
    refine r_inc (kk := 0) (lv' := [(4, .int (iV 7)), (0, .ref (G.2.2.1 55)), (1, .ref (G.2.2.1 10)), (2, .ref (G.2.2.1 35)), (3, .ref (G.2.2.1 54))]) X dX0_init_89 hl rfl (by decide) rfl (fun ls hl => ?_)
    refine r_goto (tgt := 66) X dX0_init_92 (by decide) ?_
    refine r_il X dX0_init_66 (lv_at hl 0 rfl) ?_
    refine r_bp X dX0_init_68 (by decide) ?_
    refine r_cge (cx := 7) (cy := 8) (tgt := 95) X rfl rfl dX0_init_70 (by decide) (fun _ => ?_) (fun c => absurd (by decide) c)
    refine r_aln X dX0_init_73 rfl (lv_at hl 1 rfl) ?_
    refine k_gr (kI := 3) (o' := 56) X Y V ci_0 kd_55 ⟨by decide, by decide⟩ 3 rfl (by decide +kernel) (by decide) rfl rfl wd_314 dX0_init_74 ?_
    refine r_il X dX0_init_77 (lv_at hl 0 rfl) ?_
    refine k_new X Y V ci_5 kd_112 (zst_n (zst_mono z_148 (by decide))) (zst_r (zst_mono z_148 (by decide))) df_5 wd_271 wd_273 wd_10 (Nat.le_of_ble_eq_true rfl) (Nat.le_of_ble_eq_true rfl) dX0_init_79 (fun H V => ?_)
    refine r_dup X dX0_init_82 rfl ?_
    refine r_bp X dX0_init_83 (by decide) ?_
    refine k_kv V (k_runI (nn := 1) (As := [.int (iV 40)]) (rest := [.ref (G.2.2.1 112), .int (iV 7), .ref (G.2.2.1 56)]) (o := 112) X Y V (ki_X5_init_148 l G) rfl wi_X5 (by decide +kernel) wd_274 ⟨⟨rfl, rfl⟩, ⟨Nat.le_of_ble_eq_true rfl, Nat.le_of_ble_eq_true rfl⟩, Nat.le_of_ble_eq_true rfl, Nat.le_of_ble_eq_true rfl⟩ rfl rfl hl.1 (Nat.le_of_ble_eq_true rfl) dX0_init_85) (fun H locs V => ?_)
    refine k_aas X Y V 2 (r := (RX5, TX5, 5)) (by decide) kd_56 ⟨by decide, by decide⟩ (by decide) rfl (ci := 5) rfl (by decide) kd_112 ⟨by decide, by decide⟩ ln_56 ⟨by decide, by decide⟩ (σ' := st_154) rfl dX0_init_88 (fun H locs V => ?_)
    refine r_inc (kk := 0) (lv' := [(4, .int (iV 8)), (0, .ref (G.2.2.1 55)), (1, .ref (G.2.2.1 10)), (2, .ref (G.2.2.1 35)), (3, .ref (G.2.2.1 54))]) X dX0_init_89 hl rfl (by decide) rfl (fun ls hl => ?_)
    refine r_goto (tgt := 66) X dX0_init_92 (by decide) ?_
    refine r_il X dX0_init_66 (lv_at hl 0 rfl) ?_
    refine r_bp X dX0_init_68 (by decide) ?_
    refine r_cge (cx := 8) (cy := 8) (tgt := 95) X rfl rfl dX0_init_70 (by decide) (fun c => absurd c (by decide)) (fun _ => ?_)
    refine r_aln X dX0_init_95 rfl (lv_at hl 1 rfl) ?_
    refine k_gr (kI := 5) (o' := 63) X Y V ci_0 kd_55 ⟨by decide, by decide⟩ 5 rfl (by decide +kernel) (by decide) rfl rfl wd_316 dX0_init_96 ?_
    refine r_ic X dX0_init_99 ?_
    refine k_kv V (k_runV (As := [.int (iV 0)]) (rest := []) (o := 63) X Y V (ki_X5_end_154 l G) mv_X5_end wd_302 ci_5 kd_63 ⟨by decide, by decide⟩ ⟨⟨rfl, rfl⟩, ⟨Nat.le_of_ble_eq_true rfl, Nat.le_of_ble_eq_true rfl⟩, Nat.le_of_ble_eq_true rfl, Nat.le_of_ble_eq_true rfl⟩ rfl rfl hl.1 (Nat.le_of_ble_eq_true rfl) dX0_init_100) (fun H locs V => ?_)
    exact k_rv X V dX0_init_103
  exact go _ _ _ X V
set_option maxRecDepth 100000 in
set_option maxHeartbeats 4000000 in
theorem ki_X9_init_0 (l : Launch) (G : UG) : Met l yX9_init (.code yX9_init cX9_init 2 (Option.none : Option Jvm.ClassFile.FieldType) :: TB) { frames := 4, cells := 117, slots := 4031, locals := 86 } (uvPk G 1 st_0 [.ref (G.2.2.1 0)]) (uvKv G 118 st_162) 117 4031 (uvKA G) := by
  refine k_met (own := RX9) (lv := [(0, .ref (G.2.2.1 0))]) (by decide) rfl (Nat.le_of_ble_eq_true rfl) rfl ?_
  intro p e s m below meth c ls X Y V hl hin
  have go : ∀ (args : Array Value) (H : Heap) (locs : List Loc), uvCx p m c cX9_init 2 RX9 s args meth (Option.none : Option Jvm.ClassFile.FieldType) → uvWk G 1 st_0 s H locs → W p l e { frames := 4, cells := 117, slots := 4031, locals := 86 } s m args below meth c H locs 0 0 (MQ below (uvKv G 118 st_162) args s 117 4031 (uvKA G)) (F0 m 0 ls []) := by
    intro args H locs X V
    refine r_aln X dX9_init_0 rfl (lv_at hl 0 rfl) ?_
    refine k_obj X wd_23 w_obj hl.1 (Nat.le_of_ble_eq_true rfl) (Nat.le_of_ble_eq_true rfl) dX9_init_1 ?_
    refine r_aln X dX9_init_4 rfl (lv_at hl 0 rfl) ?_
    refine k_new X Y V ci_8 kd_1 (zst_n (zst_mono z_0 (by decide))) (zst_r (zst_mono z_0 (by decide))) df_8 wd_26 wd_27 wd_2 (Nat.le_of_ble_eq_true rfl) (Nat.le_of_ble_eq_true rfl) dX9_init_5 (fun H V => ?_)
    refine r_dup X dX9_init_8 rfl ?_
    refine k_kv V (k_runI (nn := 0) (As := []) (rest := [.ref (G.2.2.1 1), .ref (G.2.2.1 0)]) (o := 1) X Y V (ki_X8_init_0 l G) rfl wi_X8 (by decide +kernel) wd_28 ⟨⟨rfl, rfl⟩, ⟨Nat.le_of_ble_eq_true rfl, Nat.le_of_ble_eq_true rfl⟩, Nat.le_of_ble_eq_true rfl, Nat.le_of_ble_eq_true rfl⟩ rfl rfl hl.1 (Nat.le_of_ble_eq_true rfl) dX9_init_9) (fun H locs V => ?_)
    refine k_pr (kI := 0) X Y V hin ci_9 kd_0 ⟨by decide, by decide⟩ (by decide) (by decide) 0 rfl (by decide) rfl rfl rfl rfl (tyX9_ok 0 (by decide)) (fun _ => rfl) (fun _ => rfl) wd_334 (σ' := st_14) rfl dX9_init_12 (fun H locs V => ?_)
    refine r_aln X dX9_init_15 rfl (lv_at hl 0 rfl) ?_
    refine k_new X Y V ci_4 kd_10 (zst_n (zst_mono z_14 (by decide))) (zst_r (zst_mono z_14 (by decide))) df_4 wd_86 wd_87 wd_3 (Nat.le_of_ble_eq_true rfl) (Nat.le_of_ble_eq_true rfl) dX9_init_16 (fun H V => ?_)
    refine r_dup X dX9_init_19 rfl ?_
    refine k_kv V (k_runIN (nn := 0) (As := []) (rest := [.ref (G.2.2.1 10), .ref (G.2.2.1 0)]) (o := 10) X Y V (ki_X4_init_14 l G) rfl wi_X4 (by decide +kernel) Y.2.2.2.1 ⟨⟨rfl, rfl⟩, ⟨Nat.le_of_ble_eq_true rfl, Nat.le_of_ble_eq_true rfl⟩, Nat.le_of_ble_eq_true rfl, Nat.le_of_ble_eq_true rfl⟩ rfl rfl hl.1 (Nat.le_of_ble_eq_true rfl) dX9_init_20) (fun H locs V => ?_)
    refine k_pr (kI := 1) X Y V hin ci_9 kd_0 ⟨by decide, by decide⟩ (by decide) (by decide) 1 rfl (by decide) rfl rfl rfl rfl (tyX9_ok 1 (by decide)) (fun _ => rfl) (fun _ => rfl) wd_335 (σ' := st_18) rfl dX9_init_23 (fun H locs V => ?_)
    refine r_aln X dX9_init_26 rfl (lv_at hl 0 rfl) ?_
    refine k_new X Y V ci_7 kd_14 (zst_n (zst_mono z_18 (by decide))) (zst_r (zst_mono z_18 (by decide))) df_7 wd_117 wd_118 wd_4 (Nat.le_of_ble_eq_true rfl) (Nat.le_of_ble_eq_true rfl) dX9_init_27 (fun H V => ?_)
    refine r_dup X dX9_init_30 rfl ?_
    refine k_kv V (k_runI (nn := 0) (As := []) (rest := [.ref (G.2.2.1 14), .ref (G.2.2.1 0)]) (o := 14) X Y V (ki_X7_init_18 l G) rfl wi_X7 (by decide +kernel) wd_119 ⟨⟨rfl, rfl⟩, ⟨Nat.le_of_ble_eq_true rfl, Nat.le_of_ble_eq_true rfl⟩, Nat.le_of_ble_eq_true rfl, Nat.le_of_ble_eq_true rfl⟩ rfl rfl hl.1 (Nat.le_of_ble_eq_true rfl) dX9_init_31) (fun H locs V => ?_)
    refine k_pr (kI := 2) X Y V hin ci_9 kd_0 ⟨by decide, by decide⟩ (by decide) (by decide) 2 rfl (by decide) rfl rfl rfl rfl (tyX9_ok 2 (by decide)) (fun _ => rfl) (fun _ => rfl) wd_336 (σ' := st_34) rfl dX9_init_34 (fun H locs V => ?_)
    refine r_aln X dX9_init_37 rfl (lv_at hl 0 rfl) ?_
    refine k_new X Y V ci_6 kd_21 (zst_n (zst_mono z_34 (by decide))) (zst_r (zst_mono z_34 (by decide))) df_6 wd_161 wd_162 wd_5 (Nat.le_of_ble_eq_true rfl) (Nat.le_of_ble_eq_true rfl) dX9_init_38 (fun H V => ?_)
    refine r_dup X dX9_init_41 rfl ?_
    refine k_kv V (k_runIN (nn := 0) (As := []) (rest := [.ref (G.2.2.1 21), .ref (G.2.2.1 0)]) (o := 21) X Y V (ki_X6_init_34 l G) rfl wi_X6 (by decide +kernel) Y.2.2.2.2.1 ⟨⟨rfl, rfl⟩, ⟨Nat.le_of_ble_eq_true rfl, Nat.le_of_ble_eq_true rfl⟩, Nat.le_of_ble_eq_true rfl, Nat.le_of_ble_eq_true rfl⟩ rfl rfl hl.1 (Nat.le_of_ble_eq_true rfl) dX9_init_42) (fun H locs V => ?_)
    refine k_pr (kI := 3) X Y V hin ci_9 kd_0 ⟨by decide, by decide⟩ (by decide) (by decide) 3 rfl (by decide) rfl rfl rfl rfl (tyX9_ok 3 (by decide)) (fun _ => rfl) (fun _ => rfl) wd_337 (σ' := st_56) rfl dX9_init_45 (fun H locs V => ?_)
    refine r_aln X dX9_init_48 rfl (lv_at hl 0 rfl) ?_
    refine r_bp X dX9_init_49 (by decide) ?_
    refine k_newa X Y V kd_34 ln_34 rfl (Nat.le_of_ble_eq_true rfl) (zst_n (zst_mono z_56 (by decide))) wd_85 (Nat.le_of_ble_eq_true rfl) (Nat.le_of_ble_eq_true rfl) dX9_init_51 (fun H V => ?_)
    refine k_pr (kI := 4) X Y V hin ci_9 kd_0 ⟨by decide, by decide⟩ (by decide) (by decide) 4 rfl (by decide) rfl rfl rfl rfl (tyX9_ok 4 (by decide)) (fun _ => rfl) (fun _ => rfl) wd_338 (σ' := st_57) rfl dX9_init_53 (fun H locs V => ?_)
    refine r_ic X dX9_init_56 ?_
    refine r_isn (lv' := [(1, .int (iV 0)), (0, .ref (G.2.2.1 0))]) X dX9_init_57 rfl hl (by decide) rfl (fun ls hl => ?_)
    refine r_iln X dX9_init_58 rfl (lv_at hl 0 rfl) ?_
    refine r_bp X dX9_init_59 (by decide) ?_
    refine r_cge (cx := 0) (cy := 6) (tgt := 77) X rfl rfl dX9_init_61 (by decide) (fun _ => ?_) (fun c => absurd (by decide) c)
    refine r_aln X dX9_init_64 rfl (lv_at hl 1 rfl) ?_
    refine k_gr (kI := 4) (o' := 34) X Y V ci_9 kd_0 ⟨by decide, by decide⟩ 4 rfl (by decide +kernel) (by decide) rfl rfl wd_338 dX9_init_65 ?_
    refine r_iln X dX9_init_68 rfl (lv_at hl 0 rfl) ?_
    refine r_iln X dX9_init_69 rfl (lv_at hl 0 rfl) ?_
    refine k_ias X Y V kd_34 ⟨by decide, by decide⟩ (by decide) ln_34 ⟨by decide, by decide⟩ (σ' := st_58) rfl dX9_init_70 (fun H locs V => ?_)
    refine r_inc (kk := 0) (lv' := [(1, .int (iV 1)), (0, .ref (G.2.2.1 0))]) X dX9_init_71 hl rfl (by decide) rfl (fun ls hl => ?_)
    refine r_goto (tgt := 58) X dX9_init_74 (by decide) ?_
    refine r_iln X dX9_init_58 rfl (lv_at hl 0 rfl) ?_
    refine r_bp X dX9_init_59 (by decide) ?_
    refine r_cge (cx := 1) (cy := 6) (tgt := 77) X rfl rfl dX9_init_61 (by decide) (fun _ => ?_) (fun c => absurd (by decide) c)
    refine r_aln X dX9_init_64 rfl (lv_at hl 1 rfl) ?_
    refine k_gr (kI := 4) (o' := 34) X Y V ci_9 kd_0 ⟨by decide, by decide⟩ 4 rfl (by decide +kernel) (by decide) rfl rfl wd_338 dX9_init_65 ?_
    refine r_iln X dX9_init_68 rfl (lv_at hl 0 rfl) ?_
    refine r_iln X dX9_init_69 rfl (lv_at hl 0 rfl) ?_
    refine k_ias X Y V kd_34 ⟨by decide, by decide⟩ (by decide) ln_34 ⟨by decide, by decide⟩ (σ' := st_59) rfl dX9_init_70 (fun H locs V => ?_)
    refine r_inc (kk := 0) (lv' := [(1, .int (iV 2)), (0, .ref (G.2.2.1 0))]) X dX9_init_71 hl rfl (by decide) rfl (fun ls hl => ?_)
    refine r_goto (tgt := 58) X dX9_init_74 (by decide) ?_
    refine r_iln X dX9_init_58 rfl (lv_at hl 0 rfl) ?_
    refine r_bp X dX9_init_59 (by decide) ?_
    refine r_cge (cx := 2) (cy := 6) (tgt := 77) X rfl rfl dX9_init_61 (by decide) (fun _ => ?_) (fun c => absurd (by decide) c)
    refine r_aln X dX9_init_64 rfl (lv_at hl 1 rfl) ?_
    refine k_gr (kI := 4) (o' := 34) X Y V ci_9 kd_0 ⟨by decide, by decide⟩ 4 rfl (by decide +kernel) (by decide) rfl rfl wd_338 dX9_init_65 ?_
    refine r_iln X dX9_init_68 rfl (lv_at hl 0 rfl) ?_
    refine r_iln X dX9_init_69 rfl (lv_at hl 0 rfl) ?_
    refine k_ias X Y V kd_34 ⟨by decide, by decide⟩ (by decide) ln_34 ⟨by decide, by decide⟩ (σ' := st_60) rfl dX9_init_70 (fun H locs V => ?_)
    refine r_inc (kk := 0) (lv' := [(1, .int (iV 3)), (0, .ref (G.2.2.1 0))]) X dX9_init_71 hl rfl (by decide) rfl (fun ls hl => ?_)
    refine r_goto (tgt := 58) X dX9_init_74 (by decide) ?_
    refine r_iln X dX9_init_58 rfl (lv_at hl 0 rfl) ?_
    refine r_bp X dX9_init_59 (by decide) ?_
    refine r_cge (cx := 3) (cy := 6) (tgt := 77) X rfl rfl dX9_init_61 (by decide) (fun _ => ?_) (fun c => absurd (by decide) c)
    refine r_aln X dX9_init_64 rfl (lv_at hl 1 rfl) ?_
    refine k_gr (kI := 4) (o' := 34) X Y V ci_9 kd_0 ⟨by decide, by decide⟩ 4 rfl (by decide +kernel) (by decide) rfl rfl wd_338 dX9_init_65 ?_
    refine r_iln X dX9_init_68 rfl (lv_at hl 0 rfl) ?_
    refine r_iln X dX9_init_69 rfl (lv_at hl 0 rfl) ?_
    refine k_ias X Y V kd_34 ⟨by decide, by decide⟩ (by decide) ln_34 ⟨by decide, by decide⟩ (σ' := st_61) rfl dX9_init_70 (fun H locs V => ?_)
    refine r_inc (kk := 0) (lv' := [(1, .int (iV 4)), (0, .ref (G.2.2.1 0))]) X dX9_init_71 hl rfl (by decide) rfl (fun ls hl => ?_)
    refine r_goto (tgt := 58) X dX9_init_74 (by decide) ?_
    refine r_iln X dX9_init_58 rfl (lv_at hl 0 rfl) ?_
    refine r_bp X dX9_init_59 (by decide) ?_
    refine r_cge (cx := 4) (cy := 6) (tgt := 77) X rfl rfl dX9_init_61 (by decide) (fun _ => ?_) (fun c => absurd (by decide) c)
    refine r_aln X dX9_init_64 rfl (lv_at hl 1 rfl) ?_
    refine k_gr (kI := 4) (o' := 34) X Y V ci_9 kd_0 ⟨by decide, by decide⟩ 4 rfl (by decide +kernel) (by decide) rfl rfl wd_338 dX9_init_65 ?_
    refine r_iln X dX9_init_68 rfl (lv_at hl 0 rfl) ?_
    refine r_iln X dX9_init_69 rfl (lv_at hl 0 rfl) ?_
    refine k_ias X Y V kd_34 ⟨by decide, by decide⟩ (by decide) ln_34 ⟨by decide, by decide⟩ (σ' := st_62) rfl dX9_init_70 (fun H locs V => ?_)
    refine r_inc (kk := 0) (lv' := [(1, .int (iV 5)), (0, .ref (G.2.2.1 0))]) X dX9_init_71 hl rfl (by decide) rfl (fun ls hl => ?_)
    refine r_goto (tgt := 58) X dX9_init_74 (by decide) ?_
    refine r_iln X dX9_init_58 rfl (lv_at hl 0 rfl) ?_
    refine r_bp X dX9_init_59 (by decide) ?_
    refine r_cge (cx := 5) (cy := 6) (tgt := 77) X rfl rfl dX9_init_61 (by decide) (fun _ => ?_) (fun c => absurd (by decide) c)
    refine r_aln X dX9_init_64 rfl (lv_at hl 1 rfl) ?_
    refine k_gr (kI := 4) (o' := 34) X Y V ci_9 kd_0 ⟨by decide, by decide⟩ 4 rfl (by decide +kernel) (by decide) rfl rfl wd_338 dX9_init_65 ?_
    refine r_iln X dX9_init_68 rfl (lv_at hl 0 rfl) ?_
    refine r_iln X dX9_init_69 rfl (lv_at hl 0 rfl) ?_
    refine k_ias X Y V kd_34 ⟨by decide, by decide⟩ (by decide) ln_34 ⟨by decide, by decide⟩ (σ' := st_63) rfl dX9_init_70 (fun H locs V => ?_)
    refine r_inc (kk := 0) (lv' := [(1, .int (iV 6)), (0, .ref (G.2.2.1 0))]) X dX9_init_71 hl rfl (by decide) rfl (fun ls hl => ?_)
    refine r_goto (tgt := 58) X dX9_init_74 (by decide) ?_
    refine r_iln X dX9_init_58 rfl (lv_at hl 0 rfl) ?_
    refine r_bp X dX9_init_59 (by decide) ?_
    refine r_cge (cx := 6) (cy := 6) (tgt := 77) X rfl rfl dX9_init_61 (by decide) (fun c => absurd c (by decide)) (fun _ => ?_)
    refine r_aln X dX9_init_77 rfl (lv_at hl 1 rfl) ?_
    refine k_new X Y V ci_2 kd_35 (zst_n (zst_mono z_63 (by decide))) (zst_r (zst_mono z_63 (by decide))) df_2 wd_197 wd_198 wd_6 (Nat.le_of_ble_eq_true rfl) (Nat.le_of_ble_eq_true rfl) dX9_init_78 (fun H V => ?_)
    refine r_dup X dX9_init_81 rfl ?_
    refine r_aln X dX9_init_82 rfl (lv_at hl 1 rfl) ?_
    refine k_gr (kI := 0) (o' := 1) X Y V ci_9 kd_0 ⟨by decide, by decide⟩ 0 rfl (by decide +kernel) (by decide) rfl rfl wd_334 dX9_init_83 ?_
    refine r_aln X dX9_init_86 rfl (lv_at hl 1 rfl) ?_
    refine k_gr (kI := 1) (o' := 10) X Y V ci_9 kd_0 ⟨by decide, by decide⟩ 1 rfl (by decide +kernel) (by decide) rfl rfl wd_335 dX9_init_87 ?_
    refine r_aln X dX9_init_90 rfl (lv_at hl 1 rfl) ?_
    refine k_gr (kI := 2) (o' := 14) X Y V ci_9 kd_0 ⟨by decide, by decide⟩ 2 rfl (by decide +kernel) (by decide) rfl rfl wd_336 dX9_init_91 ?_
    refine r_aln X dX9_init_94 rfl (lv_at hl 1 rfl) ?_
    refine k_gr (kI := 4) (o' := 34) X Y V ci_9 kd_0 ⟨by decide, by decide⟩ 4 rfl (by decide +kernel) (by decide) rfl rfl wd_338 dX9_init_95 ?_
    refine k_kv V (k_runI (nn := 4) (As := [.ref (G.2.2.1 1), .ref (G.2.2.1 10), .ref (G.2.2.1 14), .ref (G.2.2.1 34)]) (rest := [.ref (G.2.2.1 35), .ref (G.2.2.1 0)]) (o := 35) X Y V (ki_X2_init_63 l G) rfl wi_X2 (by decide +kernel) wd_199 ⟨⟨rfl, rfl⟩, ⟨Nat.le_of_ble_eq_true rfl, Nat.le_of_ble_eq_true rfl⟩, Nat.le_of_ble_eq_true rfl, Nat.le_of_ble_eq_true rfl⟩ rfl rfl hl.1 (Nat.le_of_ble_eq_true rfl) dX9_init_98) (fun H locs V => ?_)
    refine k_pr (kI := 5) X Y V hin ci_9 kd_0 ⟨by decide, by decide⟩ (by decide) (by decide) 5 rfl (by decide) rfl rfl rfl rfl (tyX9_ok 5 (by decide)) (fun _ => rfl) (fun _ => rfl) wd_339 (σ' := st_86) rfl dX9_init_101 (fun H locs V => ?_)
    refine r_aln X dX9_init_104 rfl (lv_at hl 1 rfl) ?_
    refine k_new X Y V ci_3 kd_54 (zst_n (zst_mono z_86 (by decide))) (zst_r (zst_mono z_86 (by decide))) df_3 wd_252 wd_253 wd_8 (Nat.le_of_ble_eq_true rfl) (Nat.le_of_ble_eq_true rfl) dX9_init_105 (fun H V => ?_)
    refine r_dup X dX9_init_108 rfl ?_
    refine r_aln X dX9_init_109 rfl (lv_at hl 1 rfl) ?_
    refine k_gr (kI := 0) (o' := 1) X Y V ci_9 kd_0 ⟨by decide, by decide⟩ 0 rfl (by decide +kernel) (by decide) rfl rfl wd_334 dX9_init_110 ?_
    refine r_aln X dX9_init_113 rfl (lv_at hl 1 rfl) ?_
    refine k_gr (kI := 1) (o' := 10) X Y V ci_9 kd_0 ⟨by decide, by decide⟩ 1 rfl (by decide +kernel) (by decide) rfl rfl wd_335 dX9_init_114 ?_
    refine k_kv V (k_runI (nn := 2) (As := [.ref (G.2.2.1 1), .ref (G.2.2.1 10)]) (rest := [.ref (G.2.2.1 54), .ref (G.2.2.1 0)]) (o := 54) X Y V (ki_X3_init_86 l G) rfl wi_X3 (by decide +kernel) wd_254 ⟨⟨rfl, rfl⟩, ⟨Nat.le_of_ble_eq_true rfl, Nat.le_of_ble_eq_true rfl⟩, Nat.le_of_ble_eq_true rfl, Nat.le_of_ble_eq_true rfl⟩ rfl rfl hl.1 (Nat.le_of_ble_eq_true rfl) dX9_init_117) (fun H locs V => ?_)
    refine k_pr (kI := 6) X Y V hin ci_9 kd_0 ⟨by decide, by decide⟩ (by decide) (by decide) 6 rfl (by decide) rfl rfl rfl rfl (tyX9_ok 6 (by decide)) (fun _ => rfl) (fun _ => rfl) wd_340 (σ' := st_89) rfl dX9_init_120 (fun H locs V => ?_)
    refine r_aln X dX9_init_123 rfl (lv_at hl 1 rfl) ?_
    refine k_new X Y V ci_0 kd_55 (zst_n (zst_mono z_89 (by decide))) (zst_r (zst_mono z_89 (by decide))) df_0 wd_265 wd_266 wd_9 (Nat.le_of_ble_eq_true rfl) (Nat.le_of_ble_eq_true rfl) dX9_init_124 (fun H V => ?_)
    refine r_dup X dX9_init_127 rfl ?_
    refine r_aln X dX9_init_128 rfl (lv_at hl 1 rfl) ?_
    refine k_gr (kI := 1) (o' := 10) X Y V ci_9 kd_0 ⟨by decide, by decide⟩ 1 rfl (by decide +kernel) (by decide) rfl rfl wd_335 dX9_init_129 ?_
    refine r_aln X dX9_init_132 rfl (lv_at hl 1 rfl) ?_
    refine k_gr (kI := 5) (o' := 35) X Y V ci_9 kd_0 ⟨by decide, by decide⟩ 5 rfl (by decide +kernel) (by decide) rfl rfl wd_339 dX9_init_133 ?_
    refine r_aln X dX9_init_136 rfl (lv_at hl 1 rfl) ?_
    refine k_gr (kI := 6) (o' := 54) X Y V ci_9 kd_0 ⟨by decide, by decide⟩ 6 rfl (by decide +kernel) (by decide) rfl rfl wd_340 dX9_init_137 ?_
    refine k_kv V (k_runI (nn := 3) (As := [.ref (G.2.2.1 10), .ref (G.2.2.1 35), .ref (G.2.2.1 54)]) (rest := [.ref (G.2.2.1 55), .ref (G.2.2.1 0)]) (o := 55) X Y V (ki_X0_init_89 l G) rfl wi_X0 (by decide +kernel) wd_267 ⟨⟨rfl, rfl⟩, ⟨Nat.le_of_ble_eq_true rfl, Nat.le_of_ble_eq_true rfl⟩, Nat.le_of_ble_eq_true rfl, Nat.le_of_ble_eq_true rfl⟩ rfl rfl hl.1 (Nat.le_of_ble_eq_true rfl) dX9_init_140) (fun H locs V => ?_)
    refine k_pr (kI := 7) X Y V hin ci_9 kd_0 ⟨by decide, by decide⟩ (by decide) (by decide) 7 rfl (by decide) rfl rfl rfl rfl (tyX9_ok 7 (by decide)) (fun _ => rfl) (fun _ => rfl) wd_341 (σ' := st_162) rfl dX9_init_143 (fun H locs V => ?_)
    exact k_rv X V dX9_init_146
  exact go _ _ _ X V
set_option maxRecDepth 100000 in
set_option maxHeartbeats 4000000 in
theorem ki_X10_init_162 (l : Launch) (G : UG) : Met l yX10_init (.code yX10_init cX10_init 2 (Option.none : Option Jvm.ClassFile.FieldType) :: TB) { frames := 1, cells := 23, slots := 3073, locals := 12 } (uvPk G 119 st_162 [.ref (G.2.2.1 118)]) (uvKv G 142 st_193) 23 3073 (uvKA G) := by
  refine k_met (own := RX10) (lv := [(0, .ref (G.2.2.1 118))]) (by decide) rfl (Nat.le_of_ble_eq_true rfl) rfl ?_
  intro p e s m below meth c ls X Y V hl hin
  have go : ∀ (args : Array Value) (H : Heap) (locs : List Loc), uvCx p m c cX10_init 2 RX10 s args meth (Option.none : Option Jvm.ClassFile.FieldType) → uvWk G 119 st_162 s H locs → W p l e { frames := 1, cells := 23, slots := 3073, locals := 12 } s m args below meth c H locs 0 0 (MQ below (uvKv G 142 st_193) args s 23 3073 (uvKA G)) (F0 m 0 ls []) := by
    intro args H locs X V
    refine r_aln X dX10_init_0 rfl (lv_at hl 0 rfl) ?_
    refine k_obj X wd_852 w_obj hl.1 (Nat.le_of_ble_eq_true rfl) (Nat.le_of_ble_eq_true rfl) dX10_init_1 ?_
    refine r_aln X dX10_init_4 rfl (lv_at hl 0 rfl) ?_
    refine r_sp X dX10_init_5 (by decide) ?_
    refine k_newa X Y V kd_119 ln_119 rfl (Nat.le_of_ble_eq_true rfl) (zst_n (zst_mono z_162 (by decide))) wd_85 (Nat.le_of_ble_eq_true rfl) (Nat.le_of_ble_eq_true rfl) dX10_init_8 (fun H V => ?_)
    refine k_pr (kI := 0) X Y V hin ci_10 kd_118 ⟨by decide, by decide⟩ (by decide) (by decide) 0 rfl (by decide) rfl rfl rfl rfl (tyX10_ok 0 (by decide)) (fun _ => rfl) (fun _ => rfl) wd_853 (σ' := st_163) rfl dX10_init_10 (fun H locs V => ?_)
    refine r_aln X dX10_init_13 rfl (lv_at hl 0 rfl) ?_
    refine r_bp X dX10_init_14 (by decide) ?_
    refine k_newa X Y V kd_120 ln_120 rfl (Nat.le_of_ble_eq_true rfl) (zst_n (zst_mono z_163 (by decide))) wd_85 (Nat.le_of_ble_eq_true rfl) (Nat.le_of_ble_eq_true rfl) dX10_init_16 (fun H V => ?_)
    refine k_pr (kI := 2) X Y V hin ci_10 kd_118 ⟨by decide, by decide⟩ (by decide) (by decide) 2 rfl (by decide) rfl rfl rfl rfl (tyX10_ok 2 (by decide)) (fun _ => rfl) (fun _ => rfl) wd_855 (σ' := st_164) rfl dX10_init_18 (fun H locs V => ?_)
    refine r_aln X dX10_init_21 rfl (lv_at hl 0 rfl) ?_
    refine r_bp X dX10_init_22 (by decide) ?_
    refine k_newa X Y V kd_121 ln_121 rfl (Nat.le_of_ble_eq_true rfl) (zst_n (zst_mono z_164 (by decide))) wd_85 (Nat.le_of_ble_eq_true rfl) (Nat.le_of_ble_eq_true rfl) dX10_init_24 (fun H V => ?_)
    refine k_pr (kI := 4) X Y V hin ci_10 kd_118 ⟨by decide, by decide⟩ (by decide) (by decide) 4 rfl (by decide) rfl rfl rfl rfl (tyX10_ok 4 (by decide)) (fun _ => rfl) (fun _ => rfl) wd_857 (σ' := st_165) rfl dX10_init_26 (fun H locs V => ?_)
    refine r_aln X dX10_init_29 rfl (lv_at hl 0 rfl) ?_
    refine r_sp X dX10_init_30 (by decide) ?_
    refine k_newa X Y V kd_122 ln_122 rfl (Nat.le_of_ble_eq_true rfl) (zst_n (zst_mono z_165 (by decide))) wd_85 (Nat.le_of_ble_eq_true rfl) (Nat.le_of_ble_eq_true rfl) dX10_init_33 (fun H V => ?_)
    refine k_pr (kI := 6) X Y V hin ci_10 kd_118 ⟨by decide, by decide⟩ (by decide) (by decide) 6 rfl (by decide) rfl rfl rfl rfl (tyX10_ok 6 (by decide)) (fun _ => rfl) (fun _ => rfl) wd_859 (σ' := st_166) rfl dX10_init_35 (fun H locs V => ?_)
    refine r_aln X dX10_init_38 rfl (lv_at hl 0 rfl) ?_
    refine r_sp X dX10_init_39 (by decide) ?_
    refine k_newa X Y V kd_123 ln_123 rfl (Nat.le_of_ble_eq_true rfl) (zst_n (zst_mono z_166 (by decide))) wd_85 (Nat.le_of_ble_eq_true rfl) (Nat.le_of_ble_eq_true rfl) dX10_init_42 (fun H V => ?_)
    refine k_pr (kI := 7) X Y V hin ci_10 kd_118 ⟨by decide, by decide⟩ (by decide) (by decide) 7 rfl (by decide) rfl rfl rfl rfl (tyX10_ok 7 (by decide)) (fun _ => rfl) (fun _ => rfl) wd_860 (σ' := st_167) rfl dX10_init_44 (fun H locs V => ?_)
    refine r_aln X dX10_init_47 rfl (lv_at hl 0 rfl) ?_
    refine r_sp X dX10_init_48 (by decide) ?_
    refine k_newa X Y V kd_124 ln_124 rfl (Nat.le_of_ble_eq_true rfl) (zst_n (zst_mono z_167 (by decide))) wd_85 (Nat.le_of_ble_eq_true rfl) (Nat.le_of_ble_eq_true rfl) dX10_init_51 (fun H V => ?_)
    refine k_pr (kI := 8) X Y V hin ci_10 kd_118 ⟨by decide, by decide⟩ (by decide) (by decide) 8 rfl (by decide) rfl rfl rfl rfl (tyX10_ok 8 (by decide)) (fun _ => rfl) (fun _ => rfl) wd_861 (σ' := st_168) rfl dX10_init_53 (fun H locs V => ?_)
    refine r_aln X dX10_init_56 rfl (lv_at hl 0 rfl) ?_
    refine r_sp X dX10_init_57 (by decide) ?_
    refine k_newa X Y V kd_125 ln_125 rfl (Nat.le_of_ble_eq_true rfl) (zst_n (zst_mono z_168 (by decide))) wd_85 (Nat.le_of_ble_eq_true rfl) (Nat.le_of_ble_eq_true rfl) dX10_init_60 (fun H V => ?_)
    refine k_pr (kI := 9) X Y V hin ci_10 kd_118 ⟨by decide, by decide⟩ (by decide) (by decide) 9 rfl (by decide) rfl rfl rfl rfl (tyX10_ok 9 (by decide)) (fun _ => rfl) (fun _ => rfl) wd_862 (σ' := st_169) rfl dX10_init_62 (fun H locs V => ?_)
    refine r_aln X dX10_init_65 rfl (lv_at hl 0 rfl) ?_
    refine r_ic X dX10_init_66 ?_
    refine k_pi (kI := 10) X Y V ci_10 kd_118 ⟨by decide, by decide⟩ (by decide) 10 rfl (by decide) rfl rfl rfl (tyX10_ok 10 (by decide)) wd_863 (σ' := st_170) rfl dX10_init_67 (fun H locs V => ?_)
    refine r_aln X dX10_init_70 rfl (lv_at hl 0 rfl) ?_
    refine r_ic X dX10_init_71 ?_
    refine k_newa X Y V kd_126 ln_126 rfl (Nat.le_of_ble_eq_true rfl) (zst_n (zst_mono z_170 (by decide))) wd_85 (Nat.le_of_ble_eq_true rfl) (Nat.le_of_ble_eq_true rfl) dX10_init_72 (fun H V => ?_)
    refine k_pr (kI := 12) X Y V hin ci_10 kd_118 ⟨by decide, by decide⟩ (by decide) (by decide) 12 rfl (by decide) rfl rfl rfl rfl (tyX10_ok 12 (by decide)) (fun _ => rfl) (fun _ => rfl) wd_865 (σ' := st_171) rfl dX10_init_74 (fun H locs V => ?_)
    refine r_aln X dX10_init_77 rfl (lv_at hl 0 rfl) ?_
    refine r_bp X dX10_init_78 (by decide) ?_
    refine k_newa X Y V kd_127 ln_127 rfl (Nat.le_of_ble_eq_true rfl) (zst_n (zst_mono z_171 (by decide))) wd_85 (Nat.le_of_ble_eq_true rfl) (Nat.le_of_ble_eq_true rfl) dX10_init_80 (fun H V => ?_)
    refine k_pr (kI := 13) X Y V hin ci_10 kd_118 ⟨by decide, by decide⟩ (by decide) (by decide) 13 rfl (by decide) rfl rfl rfl rfl (tyX10_ok 13 (by decide)) (fun _ => rfl) (fun _ => rfl) wd_866 (σ' := st_172) rfl dX10_init_82 (fun H locs V => ?_)
    refine r_aln X dX10_init_85 rfl (lv_at hl 0 rfl) ?_
    refine r_bp X dX10_init_86 (by decide) ?_
    refine k_newa X Y V kd_128 ln_128 rfl (Nat.le_of_ble_eq_true rfl) (zst_n (zst_mono z_172 (by decide))) wd_85 (Nat.le_of_ble_eq_true rfl) (Nat.le_of_ble_eq_true rfl) dX10_init_88 (fun H V => ?_)
    refine k_pr (kI := 16) X Y V hin ci_10 kd_118 ⟨by decide, by decide⟩ (by decide) (by decide) 16 rfl (by decide) rfl rfl rfl rfl (tyX10_ok 16 (by decide)) (fun _ => rfl) (fun _ => rfl) wd_869 (σ' := st_173) rfl dX10_init_90 (fun H locs V => ?_)
    refine r_aln X dX10_init_93 rfl (lv_at hl 0 rfl) ?_
    refine r_sp X dX10_init_94 (by decide) ?_
    refine k_newa X Y V kd_129 ln_129 rfl (Nat.le_of_ble_eq_true rfl) (zst_n (zst_mono z_173 (by decide))) wd_85 (Nat.le_of_ble_eq_true rfl) (Nat.le_of_ble_eq_true rfl) dX10_init_97 (fun H V => ?_)
    refine k_pr (kI := 17) X Y V hin ci_10 kd_118 ⟨by decide, by decide⟩ (by decide) (by decide) 17 rfl (by decide) rfl rfl rfl rfl (tyX10_ok 17 (by decide)) (fun _ => rfl) (fun _ => rfl) wd_870 (σ' := st_174) rfl dX10_init_99 (fun H locs V => ?_)
    refine r_aln X dX10_init_102 rfl (lv_at hl 0 rfl) ?_
    refine r_sp X dX10_init_103 (by decide) ?_
    refine k_newa X Y V kd_130 ln_130 rfl (Nat.le_of_ble_eq_true rfl) (zst_n (zst_mono z_174 (by decide))) wd_85 (Nat.le_of_ble_eq_true rfl) (Nat.le_of_ble_eq_true rfl) dX10_init_106 (fun H V => ?_)
    refine k_pr (kI := 18) X Y V hin ci_10 kd_118 ⟨by decide, by decide⟩ (by decide) (by decide) 18 rfl (by decide) rfl rfl rfl rfl (tyX10_ok 18 (by decide)) (fun _ => rfl) (fun _ => rfl) wd_871 (σ' := st_175) rfl dX10_init_108 (fun H locs V => ?_)
    refine r_aln X dX10_init_111 rfl (lv_at hl 0 rfl) ?_
    refine r_sp X dX10_init_112 (by decide) ?_
    refine k_newa X Y V kd_131 ln_131 rfl (Nat.le_of_ble_eq_true rfl) (zst_n (zst_mono z_175 (by decide))) wd_85 (Nat.le_of_ble_eq_true rfl) (Nat.le_of_ble_eq_true rfl) dX10_init_115 (fun H V => ?_)
    refine k_pr (kI := 19) X Y V hin ci_10 kd_118 ⟨by decide, by decide⟩ (by decide) (by decide) 19 rfl (by decide) rfl rfl rfl rfl (tyX10_ok 19 (by decide)) (fun _ => rfl) (fun _ => rfl) wd_872 (σ' := st_176) rfl dX10_init_117 (fun H locs V => ?_)
    refine r_aln X dX10_init_120 rfl (lv_at hl 0 rfl) ?_
    refine r_sp X dX10_init_121 (by decide) ?_
    refine k_newa X Y V kd_132 ln_132 rfl (Nat.le_of_ble_eq_true rfl) (zst_n (zst_mono z_176 (by decide))) wd_85 (Nat.le_of_ble_eq_true rfl) (Nat.le_of_ble_eq_true rfl) dX10_init_124 (fun H V => ?_)
    refine k_pr (kI := 20) X Y V hin ci_10 kd_118 ⟨by decide, by decide⟩ (by decide) (by decide) 20 rfl (by decide) rfl rfl rfl rfl (tyX10_ok 20 (by decide)) (fun _ => rfl) (fun _ => rfl) wd_873 (σ' := st_177) rfl dX10_init_126 (fun H locs V => ?_)
    refine r_aln X dX10_init_129 rfl (lv_at hl 0 rfl) ?_
    refine r_bp X dX10_init_130 (by decide) ?_
    refine k_newa X Y V kd_133 ln_133 rfl (Nat.le_of_ble_eq_true rfl) (zst_n (zst_mono z_177 (by decide))) wd_85 (Nat.le_of_ble_eq_true rfl) (Nat.le_of_ble_eq_true rfl) dX10_init_132 (fun H V => ?_)
    refine k_pr (kI := 23) X Y V hin ci_10 kd_118 ⟨by decide, by decide⟩ (by decide) (by decide) 23 rfl (by decide) rfl rfl rfl rfl (tyX10_ok 23 (by decide)) (fun _ => rfl) (fun _ => rfl) wd_876 (σ' := st_178) rfl dX10_init_134 (fun H locs V => ?_)
    refine r_aln X dX10_init_137 rfl (lv_at hl 0 rfl) ?_
    refine r_bp X dX10_init_138 (by decide) ?_
    refine k_newa X Y V kd_134 ln_134 rfl (Nat.le_of_ble_eq_true rfl) (zst_n (zst_mono z_178 (by decide))) wd_85 (Nat.le_of_ble_eq_true rfl) (Nat.le_of_ble_eq_true rfl) dX10_init_140 (fun H V => ?_)
    refine k_pr (kI := 24) X Y V hin ci_10 kd_118 ⟨by decide, by decide⟩ (by decide) (by decide) 24 rfl (by decide) rfl rfl rfl rfl (tyX10_ok 24 (by decide)) (fun _ => rfl) (fun _ => rfl) wd_877 (σ' := st_179) rfl dX10_init_142 (fun H locs V => ?_)
    refine r_aln X dX10_init_145 rfl (lv_at hl 0 rfl) ?_
    refine r_sp X dX10_init_146 (by decide) ?_
    refine k_newa X Y V kd_135 ln_135 rfl (Nat.le_of_ble_eq_true rfl) (zst_n (zst_mono z_179 (by decide))) wd_85 (Nat.le_of_ble_eq_true rfl) (Nat.le_of_ble_eq_true rfl) dX10_init_149 (fun H V => ?_)
    refine k_pr (kI := 25) X Y V hin ci_10 kd_118 ⟨by decide, by decide⟩ (by decide) (by decide) 25 rfl (by decide) rfl rfl rfl rfl (tyX10_ok 25 (by decide)) (fun _ => rfl) (fun _ => rfl) wd_878 (σ' := st_180) rfl dX10_init_151 (fun H locs V => ?_)
    refine r_aln X dX10_init_154 rfl (lv_at hl 0 rfl) ?_
    refine r_bp X dX10_init_155 (by decide) ?_
    refine k_newa X Y V kd_136 ln_136 rfl (Nat.le_of_ble_eq_true rfl) (zst_n (zst_mono z_180 (by decide))) wd_85 (Nat.le_of_ble_eq_true rfl) (Nat.le_of_ble_eq_true rfl) dX10_init_157 (fun H V => ?_)
    refine k_pr (kI := 26) X Y V hin ci_10 kd_118 ⟨by decide, by decide⟩ (by decide) (by decide) 26 rfl (by decide) rfl rfl rfl rfl (tyX10_ok 26 (by decide)) (fun _ => rfl) (fun _ => rfl) wd_879 (σ' := st_181) rfl dX10_init_159 (fun H locs V => ?_)
    refine r_aln X dX10_init_162 rfl (lv_at hl 0 rfl) ?_
    refine r_ic X dX10_init_163 ?_
    refine k_pi (kI := 27) X Y V ci_10 kd_118 ⟨by decide, by decide⟩ (by decide) 27 rfl (by decide) rfl rfl rfl (tyX10_ok 27 (by decide)) wd_880 (σ' := st_182) rfl dX10_init_164 (fun H locs V => ?_)
    refine r_aln X dX10_init_167 rfl (lv_at hl 0 rfl) ?_
    refine r_sp X dX10_init_168 (by decide) ?_
    refine k_newa X Y V kd_137 ln_137 rfl (Nat.le_of_ble_eq_true rfl) (zst_n (zst_mono z_182 (by decide))) wd_85 (Nat.le_of_ble_eq_true rfl) (Nat.le_of_ble_eq_true rfl) dX10_init_171 (fun H V => ?_)
    refine k_pr (kI := 30) X Y V hin ci_10 kd_118 ⟨by decide, by decide⟩ (by decide) (by decide) 30 rfl (by decide) rfl rfl rfl rfl (tyX10_ok 30 (by decide)) (fun _ => rfl) (fun _ => rfl) wd_883 (σ' := st_183) rfl dX10_init_173 (fun H locs V => ?_)
    refine r_aln X dX10_init_176 rfl (lv_at hl 0 rfl) ?_
    refine r_sp X dX10_init_177 (by decide) ?_
    refine k_newa X Y V kd_138 ln_138 rfl (Nat.le_of_ble_eq_true rfl) (zst_n (zst_mono z_183 (by decide))) wd_85 (Nat.le_of_ble_eq_true rfl) (Nat.le_of_ble_eq_true rfl) dX10_init_180 (fun H V => ?_)
    refine k_pr (kI := 31) X Y V hin ci_10 kd_118 ⟨by decide, by decide⟩ (by decide) (by decide) 31 rfl (by decide) rfl rfl rfl rfl (tyX10_ok 31 (by decide)) (fun _ => rfl) (fun _ => rfl) wd_884 (σ' := st_184) rfl dX10_init_182 (fun H locs V => ?_)
    refine r_aln X dX10_init_185 rfl (lv_at hl 0 rfl) ?_
    refine r_sp X dX10_init_186 (by decide) ?_
    refine k_newa X Y V kd_139 ln_139 rfl (Nat.le_of_ble_eq_true rfl) (zst_n (zst_mono z_184 (by decide))) wd_85 (Nat.le_of_ble_eq_true rfl) (Nat.le_of_ble_eq_true rfl) dX10_init_189 (fun H V => ?_)
    refine k_pr (kI := 32) X Y V hin ci_10 kd_118 ⟨by decide, by decide⟩ (by decide) (by decide) 32 rfl (by decide) rfl rfl rfl rfl (tyX10_ok 32 (by decide)) (fun _ => rfl) (fun _ => rfl) wd_885 (σ' := st_185) rfl dX10_init_191 (fun H locs V => ?_)
    refine r_aln X dX10_init_194 rfl (lv_at hl 0 rfl) ?_
    refine r_sp X dX10_init_195 (by decide) ?_
    refine k_newa X Y V kd_140 ln_140 rfl (Nat.le_of_ble_eq_true rfl) (zst_n (zst_mono z_185 (by decide))) wd_85 (Nat.le_of_ble_eq_true rfl) (Nat.le_of_ble_eq_true rfl) dX10_init_198 (fun H V => ?_)
    refine k_pr (kI := 33) X Y V hin ci_10 kd_118 ⟨by decide, by decide⟩ (by decide) (by decide) 33 rfl (by decide) rfl rfl rfl rfl (tyX10_ok 33 (by decide)) (fun _ => rfl) (fun _ => rfl) wd_886 (σ' := st_186) rfl dX10_init_200 (fun H locs V => ?_)
    refine r_aln X dX10_init_203 rfl (lv_at hl 0 rfl) ?_
    refine r_bp X dX10_init_204 (by decide) ?_
    refine k_newa X Y V kd_141 ln_141 rfl (Nat.le_of_ble_eq_true rfl) (zst_n (zst_mono z_186 (by decide))) wd_85 (Nat.le_of_ble_eq_true rfl) (Nat.le_of_ble_eq_true rfl) dX10_init_206 (fun H V => ?_)
    refine k_pr (kI := 38) X Y V hin ci_10 kd_118 ⟨by decide, by decide⟩ (by decide) (by decide) 38 rfl (by decide) rfl rfl rfl rfl (tyX10_ok 38 (by decide)) (fun _ => rfl) (fun _ => rfl) wd_891 (σ' := st_187) rfl dX10_init_208 (fun H locs V => ?_)
    refine r_ic X dX10_init_211 ?_
    refine r_isn (lv' := [(1, .int (iV 0)), (0, .ref (G.2.2.1 118))]) X dX10_init_212 rfl hl (by decide) rfl (fun ls hl => ?_)
    refine r_iln X dX10_init_213 rfl (lv_at hl 0 rfl) ?_
    refine r_bp X dX10_init_214 (by decide) ?_
    refine r_cge (cx := 0) (cy := 6) (tgt := 232) X rfl rfl dX10_init_216 (by decide) (fun _ => ?_) (fun c => absurd (by decide) c)
    refine r_aln X dX10_init_219 rfl (lv_at hl 1 rfl) ?_
    refine k_gr (kI := 4) (o' := 121) X Y V ci_10 kd_118 ⟨by decide, by decide⟩ 4 rfl (by decide +kernel) (by decide) rfl rfl wd_857 dX10_init_220 ?_
    refine r_iln X dX10_init_223 rfl (lv_at hl 0 rfl) ?_
    refine r_iln X dX10_init_224 rfl (lv_at hl 0 rfl) ?_
    refine k_ias X Y V kd_121 ⟨by decide, by decide⟩ (by decide) ln_121 ⟨by decide, by decide⟩ (σ' := st_188) rfl dX10_init_225 (fun H locs V => ?_)
    refine r_inc (kk := 0) (lv' := [(1, .int (iV 1)), (0, .ref (G.2.2.1 118))]) X dX10_init_226 hl rfl (by decide) rfl (fun ls hl => ?_)
    refine r_goto (tgt := 213) X dX10_init_229 (by decide) ?_
    refine r_iln X dX10_init_213 rfl (lv_at hl 0 rfl) ?_
    refine r_bp X dX10_init_214 (by decide) ?_
    refine r_cge (cx := 1) (cy := 6) (tgt := 232) X rfl rfl dX10_init_216 (by decide) (fun _ => ?_) (fun c => absurd (by decide) c)
    refine r_aln X dX10_init_219 rfl (lv_at hl 1 rfl) ?_
    refine k_gr (kI := 4) (o' := 121) X Y V ci_10 kd_118 ⟨by decide, by decide⟩ 4 rfl (by decide +kernel) (by decide) rfl rfl wd_857 dX10_init_220 ?_
    refine r_iln X dX10_init_223 rfl (lv_at hl 0 rfl) ?_
    refine r_iln X dX10_init_224 rfl (lv_at hl 0 rfl) ?_
    refine k_ias X Y V kd_121 ⟨by decide, by decide⟩ (by decide) ln_121 ⟨by decide, by decide⟩ (σ' := st_189) rfl dX10_init_225 (fun H locs V => ?_)
    refine r_inc (kk := 0) (lv' := [(1, .int (iV 2)), (0, .ref (G.2.2.1 118))]) X dX10_init_226 hl rfl (by decide) rfl (fun ls hl => ?_)
    refine r_goto (tgt := 213) X dX10_init_229 (by decide) ?_
    refine r_iln X dX10_init_213 rfl (lv_at hl 0 rfl) ?_
    refine r_bp X dX10_init_214 (by decide) ?_
    refine r_cge (cx := 2) (cy := 6) (tgt := 232) X rfl rfl dX10_init_216 (by decide) (fun _ => ?_) (fun c => absurd (by decide) c)
    refine r_aln X dX10_init_219 rfl (lv_at hl 1 rfl) ?_
    refine k_gr (kI := 4) (o' := 121) X Y V ci_10 kd_118 ⟨by decide, by decide⟩ 4 rfl (by decide +kernel) (by decide) rfl rfl wd_857 dX10_init_220 ?_
    refine r_iln X dX10_init_223 rfl (lv_at hl 0 rfl) ?_
    refine r_iln X dX10_init_224 rfl (lv_at hl 0 rfl) ?_
    refine k_ias X Y V kd_121 ⟨by decide, by decide⟩ (by decide) ln_121 ⟨by decide, by decide⟩ (σ' := st_190) rfl dX10_init_225 (fun H locs V => ?_)
    refine r_inc (kk := 0) (lv' := [(1, .int (iV 3)), (0, .ref (G.2.2.1 118))]) X dX10_init_226 hl rfl (by decide) rfl (fun ls hl => ?_)
    refine r_goto (tgt := 213) X dX10_init_229 (by decide) ?_
    refine r_iln X dX10_init_213 rfl (lv_at hl 0 rfl) ?_
    refine r_bp X dX10_init_214 (by decide) ?_
    refine r_cge (cx := 3) (cy := 6) (tgt := 232) X rfl rfl dX10_init_216 (by decide) (fun _ => ?_) (fun c => absurd (by decide) c)
    refine r_aln X dX10_init_219 rfl (lv_at hl 1 rfl) ?_
    refine k_gr (kI := 4) (o' := 121) X Y V ci_10 kd_118 ⟨by decide, by decide⟩ 4 rfl (by decide +kernel) (by decide) rfl rfl wd_857 dX10_init_220 ?_
    refine r_iln X dX10_init_223 rfl (lv_at hl 0 rfl) ?_
    refine r_iln X dX10_init_224 rfl (lv_at hl 0 rfl) ?_
    refine k_ias X Y V kd_121 ⟨by decide, by decide⟩ (by decide) ln_121 ⟨by decide, by decide⟩ (σ' := st_191) rfl dX10_init_225 (fun H locs V => ?_)
    refine r_inc (kk := 0) (lv' := [(1, .int (iV 4)), (0, .ref (G.2.2.1 118))]) X dX10_init_226 hl rfl (by decide) rfl (fun ls hl => ?_)
    refine r_goto (tgt := 213) X dX10_init_229 (by decide) ?_
    refine r_iln X dX10_init_213 rfl (lv_at hl 0 rfl) ?_
    refine r_bp X dX10_init_214 (by decide) ?_
    refine r_cge (cx := 4) (cy := 6) (tgt := 232) X rfl rfl dX10_init_216 (by decide) (fun _ => ?_) (fun c => absurd (by decide) c)
    refine r_aln X dX10_init_219 rfl (lv_at hl 1 rfl) ?_
    refine k_gr (kI := 4) (o' := 121) X Y V ci_10 kd_118 ⟨by decide, by decide⟩ 4 rfl (by decide +kernel) (by decide) rfl rfl wd_857 dX10_init_220 ?_
    refine r_iln X dX10_init_223 rfl (lv_at hl 0 rfl) ?_
    refine r_iln X dX10_init_224 rfl (lv_at hl 0 rfl) ?_
    refine k_ias X Y V kd_121 ⟨by decide, by decide⟩ (by decide) ln_121 ⟨by decide, by decide⟩ (σ' := st_192) rfl dX10_init_225 (fun H locs V => ?_)
    refine r_inc (kk := 0) (lv' := [(1, .int (iV 5)), (0, .ref (G.2.2.1 118))]) X dX10_init_226 hl rfl (by decide) rfl (fun ls hl => ?_)
    refine r_goto (tgt := 213) X dX10_init_229 (by decide) ?_
    refine r_iln X dX10_init_213 rfl (lv_at hl 0 rfl) ?_
    refine r_bp X dX10_init_214 (by decide) ?_
    refine r_cge (cx := 5) (cy := 6) (tgt := 232) X rfl rfl dX10_init_216 (by decide) (fun _ => ?_) (fun c => absurd (by decide) c)
    refine r_aln X dX10_init_219 rfl (lv_at hl 1 rfl) ?_
    refine k_gr (kI := 4) (o' := 121) X Y V ci_10 kd_118 ⟨by decide, by decide⟩ 4 rfl (by decide +kernel) (by decide) rfl rfl wd_857 dX10_init_220 ?_
    refine r_iln X dX10_init_223 rfl (lv_at hl 0 rfl) ?_
    refine r_iln X dX10_init_224 rfl (lv_at hl 0 rfl) ?_
    refine k_ias X Y V kd_121 ⟨by decide, by decide⟩ (by decide) ln_121 ⟨by decide, by decide⟩ (σ' := st_193) rfl dX10_init_225 (fun H locs V => ?_)
    refine r_inc (kk := 0) (lv' := [(1, .int (iV 6)), (0, .ref (G.2.2.1 118))]) X dX10_init_226 hl rfl (by decide) rfl (fun ls hl => ?_)
    refine r_goto (tgt := 213) X dX10_init_229 (by decide) ?_
    refine r_iln X dX10_init_213 rfl (lv_at hl 0 rfl) ?_
    refine r_bp X dX10_init_214 (by decide) ?_
    refine r_cge (cx := 6) (cy := 6) (tgt := 232) X rfl rfl dX10_init_216 (by decide) (fun c => absurd c (by decide)) (fun _ => ?_)
    exact k_rv X V dX10_init_232
  exact go _ _ _ X V
