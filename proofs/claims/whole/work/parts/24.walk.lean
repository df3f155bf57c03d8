set_option maxRecDepth 100000 in
set_option maxHeartbeats 4000000 in
theorem c_X9_type (l : Launch) (G : UG) (σ : St) (a1 : Int) (r : Int) (σ' : St)  (h : f_X9_type σ a1 = some (r, σ')) : Met l yX9_type (.code yX9_type cX9_type 2 (Option.some Jvm.ClassFile.FieldType.int) :: TB) { frames := 1, cells := 0, slots := 0, locals := 22 } (uvPc G σ [.ref (G.2.2.1 0), .int (iV a1)]) (uvQi G r σ') 0 0 (uvA G) := by
  unfold f_X9_type at h
  refine r_met (own := RX9) (lv := [(0, .ref (G.2.2.1 0)), (1, .int (iV a1))]) (by decide) rfl (Nat.le_of_ble_eq_true rfl) rfl ?_
  intro p e s m below meth c ls X Y V hl
  have go : ∀ (args : Array Value) (H : Heap) (locs : List Loc), uvCx p m c cX9_type 2 RX9 s args meth (Option.some Jvm.ClassFile.FieldType.int) → uvWo G σ s H locs → W p l e { frames := 1, cells := 0, slots := 0, locals := 22 } s m args below meth c H locs 0 0 (MQ below (uvQi G r σ') args s 0 0 (uvA G)) (F0 m 0 ls []) := by
    intro args H locs X V
    refine r_iln X dX9_type_0 rfl (lv_at hl 1 rfl) ?_
    refine r_ic X dX9_type_1 ?_
    refine r_bp X dX9_type_2 (by decide) ?_
    refine r_kz V (r_runS (As := [.int (iV a1), .int (iV 0), .int (iV 127)]) (rest := []) X Y V (c_X9_within l G σ a1 0 127 _  rfl) ms_X9_within wd_378 ⟨rfl, rfl, Nat.le_of_ble_eq_true rfl, Nat.le_of_ble_eq_true rfl⟩ rfl rfl hl.1 (Nat.le_of_ble_eq_true rfl) ⟨Nat.le_refl 0, Nat.le_refl 0⟩ dX9_type_4) (fun H locs V z1 => ?_)
    refine r_ne (cx := (f_X9_within a1 0 127)) (tgt := 15) X (wI_01 z1) dX9_type_7 (by decide) (fun c2 => ?_) (fun c2 => ?_)
    · replace h := ite_t c2 h
      refine r_aln X dX9_type_10 rfl (lv_at hl 0 rfl) ?_
      obtain ⟨v3, σ4, hv3, h⟩ := bd2_ex h
      refine r_ki V (r_runV (As := []) (rest := []) X Y V (c_X9_bad l G σ  _ _  hv3) mv_X9_bad wd_384 ci_9 kd_0 ⟨rfl, rfl, Nat.le_of_ble_eq_true rfl, Nat.le_of_ble_eq_true rfl⟩ rfl rfl hl.1 (Nat.le_of_ble_eq_true rfl) ⟨Nat.le_refl 0, Nat.le_refl 0⟩ dX9_type_11) (fun H locs V => ?_)
      exact r_ri X V (so2 h).1 (so2 h).2 dX9_type_14
    · replace h := ite_f c2 h
      refine r_aln X dX9_type_15 rfl (lv_at hl 0 rfl) ?_
      refine r_gr X Y V ci_9 kd_0 3 rfl rfl (by decide) rfl rfl wd_337 dX9_type_16 ?_
      refine r_gi (kI := 3) X Y V ci_6 kd_21 3 rfl (by decide) rfl rfl wd_177 dX9_type_19 ?_
      refine r_bp X dX9_type_22 (by decide) ?_
      refine r_clt (cx := wI (σ 21 3)) (cy := 120) (tgt := 32) X rfl rfl dX9_type_24 (by decide) (fun c5 => ?_) (fun c5 => ?_)
      · replace h := ite_t c5 h
        refine r_aln X dX9_type_32 rfl (lv_at hl 0 rfl) ?_
        refine r_gr X Y V ci_9 kd_0 3 rfl rfl (by decide) rfl rfl wd_337 dX9_type_33 ?_
        refine r_iln X dX9_type_36 rfl (lv_at hl 1 rfl) ?_
        obtain ⟨v6, σ7, hv6, h⟩ := bd2_ex h
        refine r_kv V (r_runV (As := [.int (iV a1)]) (rest := []) X Y V (c_X6_add l G σ a1 _ _  hv6) mv_X6_add wd_440 ci_6 kd_21 ⟨rfl, rfl, Nat.le_of_ble_eq_true rfl, Nat.le_of_ble_eq_true rfl⟩ rfl rfl hl.1 (Nat.le_of_ble_eq_true rfl) ⟨Nat.le_refl 0, Nat.le_refl 0⟩ dX9_type_37) (fun H locs V => ?_)
        refine r_aln X dX9_type_40 rfl (lv_at hl 0 rfl) ?_
        refine r_gr X Y V ci_9 kd_0 3 rfl rfl (by decide) rfl rfl wd_337 dX9_type_41 ?_
        refine r_gi (kI := 3) X Y V ci_6 kd_21 3 rfl (by decide) rfl rfl wd_177 dX9_type_44 ?_
        exact r_ri X V (so2 h).1 (so2 h).2 dX9_type_47
      · replace h := ite_f c5 h
        refine r_aln X dX9_type_27 rfl (lv_at hl 0 rfl) ?_
        obtain ⟨v8, σ9, hv8, h⟩ := bd2_ex h
        refine r_ki V (r_runV (As := []) (rest := []) X Y V (c_X9_full l G σ  _ _  hv8) mv_X9_full wd_388 ci_9 kd_0 ⟨rfl, rfl, Nat.le_of_ble_eq_true rfl, Nat.le_of_ble_eq_true rfl⟩ rfl rfl hl.1 (Nat.le_of_ble_eq_true rfl) ⟨Nat.le_refl 0, Nat.le_refl 0⟩ dX9_type_28) (fun H locs V => ?_)
        exact r_ri X V (so2 h).1 (so2 h).2 dX9_type_31
  exact go _ _ _ X V

set_option maxRecDepth 100000 in
set_option maxHeartbeats 4000000 in
theorem c_X9_clear (l : Launch) (G : UG) (σ : St)  (r : Int) (σ' : St)  (h : f_X9_clear σ = some (r, σ')) : Met l yX9_clear (.code yX9_clear cX9_clear 2 (Option.some Jvm.ClassFile.FieldType.int) :: TB) { frames := 0, cells := 0, slots := 0, locals := 0 } (uvPc G σ [.ref (G.2.2.1 0)]) (uvQi G r σ') 0 0 (uvA G) := by
  unfold f_X9_clear at h
  refine r_met (own := RX9) (lv := [(0, .ref (G.2.2.1 0))]) (by decide) rfl (Nat.le_of_ble_eq_true rfl) rfl ?_
  intro p e s m below meth c ls X Y V hl
  have go : ∀ (args : Array Value) (H : Heap) (locs : List Loc), uvCx p m c cX9_clear 2 RX9 s args meth (Option.some Jvm.ClassFile.FieldType.int) → uvWo G σ s H locs → W p l e { frames := 0, cells := 0, slots := 0, locals := 0 } s m args below meth c H locs 0 0 (MQ below (uvQi G r σ') args s 0 0 (uvA G)) (F0 m 0 ls []) := by
    intro args H locs X V
    refine r_aln X dX9_clear_0 rfl (lv_at hl 0 rfl) ?_
    refine r_gr X Y V ci_9 kd_0 3 rfl rfl (by decide) rfl rfl wd_337 dX9_clear_1 ?_
    refine r_gi (kI := 3) X Y V ci_6 kd_21 3 rfl (by decide) rfl rfl wd_177 dX9_clear_4 ?_
    refine r_isn (lv' := [(1, .int (iV (σ 21 3))), (0, .ref (G.2.2.1 0))]) X dX9_clear_7 rfl hl (by decide) rfl (fun ls hl => ?_)
    refine r_aln X dX9_clear_8 rfl (lv_at hl 1 rfl) ?_
    refine r_gr X Y V ci_9 kd_0 3 rfl rfl (by decide) rfl rfl wd_337 dX9_clear_9 ?_
    refine r_ic X dX9_clear_12 ?_
    obtain ⟨σ1, hσ1, h⟩ := wrF_ex h
    refine r_pi X Y V ci_6 kd_21 3 rfl (by decide) rfl rfl rfl (tyX6_ok 3 (by decide)) wd_177 hσ1 dX9_clear_13 (fun H locs V => ?_)
    refine r_iln X dX9_clear_16 rfl (lv_at hl 0 rfl) ?_
    exact r_ri X V (so2 h).1 (so2 h).2 dX9_clear_17
  exact go _ _ _ X V

set_option maxRecDepth 100000 in
set_option maxHeartbeats 4000000 in
theorem c_X9_reads (l : Launch) (G : UG) (σ : St)  (r : Int) (σ' : St)  (h : f_X9_reads σ = some (r, σ')) : Met l yX9_reads (.code yX9_reads cX9_reads 2 (Option.some Jvm.ClassFile.FieldType.int) :: TB) { frames := 25, cells := 0, slots := 0, locals := 1266 } (uvPc G σ [.ref (G.2.2.1 0)]) (uvQi G r σ') 0 0 (uvA G) := by
  unfold f_X9_reads at h
  refine r_met (own := RX9) (lv := [(0, .ref (G.2.2.1 0))]) (by decide) rfl (Nat.le_of_ble_eq_true rfl) rfl ?_
  intro p e s m below meth c ls X Y V hl
  have go : ∀ (args : Array Value) (H : Heap) (locs : List Loc), uvCx p m c cX9_reads 2 RX9 s args meth (Option.some Jvm.ClassFile.FieldType.int) → uvWo G σ s H locs → W p l e { frames := 25, cells := 0, slots := 0, locals := 1266 } s m args below meth c H locs 0 0 (MQ below (uvQi G r σ') args s 0 0 (uvA G)) (F0 m 0 ls []) := by
    intro args H locs X V
    refine r_aln X dX9_reads_0 rfl (lv_at hl 0 rfl) ?_
    refine r_gr X Y V ci_9 kd_0 3 rfl rfl (by decide) rfl rfl wd_337 dX9_reads_1 ?_
    obtain ⟨v1, σ2, hv1, h⟩ := bd2_ex h
    refine r_ki V (r_runV (As := []) (rest := []) X Y V (c_X6_read l G σ  _ _  hv1) mv_X6_read wd_452 ci_6 kd_21 ⟨rfl, rfl, Nat.le_of_ble_eq_true rfl, Nat.le_of_ble_eq_true rfl⟩ rfl rfl hl.1 (Nat.le_of_ble_eq_true rfl) ⟨Nat.le_refl 0, Nat.le_refl 0⟩ dX9_reads_4) (fun H locs V => ?_)
    refine r_isn (lv' := [(1, .int (iV v1)), (0, .ref (G.2.2.1 0))]) X dX9_reads_7 rfl hl (by decide) rfl (fun ls hl => ?_)
    refine r_iln X dX9_reads_8 rfl (lv_at hl 0 rfl) ?_
    refine r_ic X dX9_reads_9 ?_
    refine r_ceq (cx := wI v1) (cy := (-1)) (tgt := 18) X rfl rfl dX9_reads_10 (by decide) (fun c3 => ?_) (fun c3 => ?_)
    · replace h := ite_t c3 h
      refine r_aln X dX9_reads_18 rfl (lv_at hl 1 rfl) ?_
      refine r_gr X Y V ci_9 kd_0 3 rfl rfl (by decide) rfl rfl wd_337 dX9_reads_19 ?_
      refine r_gi (kI := 4) X Y V ci_6 kd_21 4 rfl (by decide) rfl rfl wd_179 dX9_reads_22 ?_
      refine r_eq (cx := wI (σ2 21 4)) (tgt := 50) X rfl dX9_reads_25 (by decide) (fun c4 => ?_) (fun c4 => ?_)
      · replace h := ite_t c4 h
        refine r_aln X dX9_reads_50 rfl (lv_at hl 1 rfl) ?_
        refine r_gr X Y V ci_9 kd_0 2 rfl rfl (by decide) rfl rfl wd_336 dX9_reads_51 ?_
        refine r_aln X dX9_reads_54 rfl (lv_at hl 1 rfl) ?_
        refine r_gr X Y V ci_9 kd_0 3 rfl rfl (by decide) rfl rfl wd_337 dX9_reads_55 ?_
        refine r_gr X Y V ci_6 kd_21 2 rfl rfl (by decide) rfl rfl wd_175 dX9_reads_58 ?_
        obtain ⟨v5, σ6, hv5, h⟩ := bd2_ex h
        refine r_kv V (r_runV (As := [.ref (G.2.2.1 27)]) (rest := []) X Y V (c_X7_become l G σ2 14 27 _ _ kd_14 kd_27 hv5) mv_X7_become wd_581 ci_7 kd_14 ⟨rfl, rfl, Nat.le_of_ble_eq_true rfl, Nat.le_of_ble_eq_true rfl⟩ rfl rfl hl.1 (Nat.le_of_ble_eq_true rfl) ⟨Nat.le_refl 0, Nat.le_refl 0⟩ dX9_reads_61) (fun H locs V => ?_)
        refine r_aln X dX9_reads_64 rfl (lv_at hl 1 rfl) ?_
        refine r_gr X Y V ci_9 kd_0 2 rfl rfl (by decide) rfl rfl wd_336 dX9_reads_65 ?_
        refine r_gi (kI := 7) X Y V ci_7 kd_14 7 rfl (by decide) rfl rfl wd_139 dX9_reads_68 ?_
        exact r_ri X V (so2 h).1 (so2 h).2 dX9_reads_71
      · replace h := ite_f c4 h
        refine r_aln X dX9_reads_28 rfl (lv_at hl 1 rfl) ?_
        refine r_gr X Y V ci_9 kd_0 1 rfl rfl (by decide) rfl rfl wd_335 dX9_reads_29 ?_
        refine r_aln X dX9_reads_32 rfl (lv_at hl 1 rfl) ?_
        refine r_gr X Y V ci_9 kd_0 3 rfl rfl (by decide) rfl rfl wd_337 dX9_reads_33 ?_
        refine r_gr X Y V ci_6 kd_21 1 rfl rfl (by decide) rfl rfl wd_173 dX9_reads_36 ?_
        obtain ⟨v7, σ8, hv7, h⟩ := bd2_ex h
        refine r_kv V (r_runV (As := [.ref (G.2.2.1 23)]) (rest := []) X Y V (c_X4_become l G σ2 10 23 _ _ kd_10 kd_23 hv7) mv_X4_become wd_576 ci_4 kd_10 ⟨rfl, rfl, Nat.le_of_ble_eq_true rfl, Nat.le_of_ble_eq_true rfl⟩ rfl rfl hl.1 (Nat.le_of_ble_eq_true rfl) ⟨Nat.le_refl 0, Nat.le_refl 0⟩ dX9_reads_39) (fun H locs V => ?_)
        refine r_aln X dX9_reads_42 rfl (lv_at hl 1 rfl) ?_
        refine r_gr X Y V ci_9 kd_0 1 rfl rfl (by decide) rfl rfl wd_335 dX9_reads_43 ?_
        refine r_gi (kI := 3) X Y V ci_4 kd_10 3 rfl (by decide) rfl rfl wd_107 dX9_reads_46 ?_
        exact r_ri X V (so2 h).1 (so2 h).2 dX9_reads_49
    · replace h := ite_f c3 h
      refine r_bp X dX9_reads_13 (by decide) ?_
      refine r_iln X dX9_reads_15 rfl (lv_at hl 0 rfl) ?_
      refine r_isub X dX9_reads_16 ?_
      exact r_ri X V (so2 h).1 (so2 h).2 dX9_reads_17
  exact go _ _ _ X V

set_option maxRecDepth 100000 in
set_option maxHeartbeats 4000000 in
theorem c_X9_isTarget (l : Launch) (G : UG) (σ0 : St) (a1 : Int) (r : Int)  (h : f_X9_isTarget σ0 a1 = r) : Met l yX9_isTarget (.code yX9_isTarget cX9_isTarget 2 (Option.some Jvm.ClassFile.FieldType.boolean) :: TB) { frames := 0, cells := 0, slots := 0, locals := 0 } (uvPc G σ0 [.ref (G.2.2.1 0), .int (iV a1)]) (uvQz G r σ0) 0 0 (uvA G) := by
  unfold f_X9_isTarget at h
  refine r_met (own := RX9) (lv := [(0, .ref (G.2.2.1 0)), (1, .int (iV a1))]) (by decide) rfl (Nat.le_of_ble_eq_true rfl) rfl ?_
  intro p e s m below meth c ls X Y V hl
  have go : ∀ (args : Array Value) (H : Heap) (locs : List Loc), uvCx p m c cX9_isTarget 2 RX9 s args meth (Option.some Jvm.ClassFile.FieldType.boolean) → uvWo G σ0 s H locs → W p l e { frames := 0, cells := 0, slots := 0, locals := 0 } s m args below meth c H locs 0 0 (MQ below (uvQz G r σ0) args s 0 0 (uvA G)) (F0 m 0 ls []) := by
    intro args H locs X V
    refine r_iln X dX9_isTarget_0 rfl (lv_at hl 1 rfl) ?_
    have J1 : W p l e { frames := 0, cells := 0, slots := 0, locals := 0 } s m args below meth c H locs 0 0 (MQ below (uvQz G r σ0) args s 0 0 (uvA G)) (F0 m 20 ls [.int (iV (if wI a1 < 0 then 0 else (if wI a1 < wI (σ0 10 3) then 1 else 0)))]) := by
      exact r_rz X V (b01_ite (Or.inl rfl) (b01_ite (Or.inr rfl) (Or.inl rfl))) h rfl dX9_isTarget_20
    refine r_lt (cx := wI a1) (tgt := 19) X rfl dX9_isTarget_1 (by decide) (fun c2 => ?_) (fun c2 => ?_)
    · skip
      refine r_ic X dX9_isTarget_19 ?_
      rw [if_pos c2] at J1
      exact J1
    · skip
      refine r_iln X dX9_isTarget_4 rfl (lv_at hl 1 rfl) ?_
      refine r_aln X dX9_isTarget_5 rfl (lv_at hl 0 rfl) ?_
      refine r_gr X Y V ci_9 kd_0 1 rfl rfl (by decide) rfl rfl wd_335 dX9_isTarget_6 ?_
      refine r_gi (kI := 3) X Y V ci_4 kd_10 3 rfl (by decide) rfl rfl wd_107 dX9_isTarget_9 ?_
      refine r_cge (cx := wI a1) (cy := wI (σ0 10 3)) (tgt := 19) X rfl rfl dX9_isTarget_12 (by decide) (fun c3 => ?_) (fun c3 => ?_)
      · skip
        refine r_ic X dX9_isTarget_15 ?_
        refine r_goto (tgt := 20) X dX9_isTarget_16 (by decide) ?_
        rw [if_neg c2] at J1
        rw [if_pos c3] at J1
        exact J1
      · skip
        refine r_ic X dX9_isTarget_19 ?_
        rw [if_neg c2] at J1
        rw [if_neg c3] at J1
        exact J1
  exact go _ _ _ X V

set_option maxRecDepth 100000 in
set_option maxHeartbeats 4000000 in
theorem c_X9_target (l : Launch) (G : UG) (σ : St) (a1 : Int) (a2 : Int) (r : Int) (σ' : St)  (h : f_X9_target σ a1 a2 = some (r, σ')) : Met l yX9_target (.code yX9_target cX9_target 3 (Option.some Jvm.ClassFile.FieldType.int) :: TB) { frames := 1, cells := 0, slots := 0, locals := 21 } (uvPc G σ [.ref (G.2.2.1 0), .int (iV a1), .int (iV a2)]) (uvQi G r σ') 0 0 (uvA G) := by
  unfold f_X9_target at h
  refine r_met (own := RX9) (lv := [(0, .ref (G.2.2.1 0)), (1, .int (iV a1)), (2, .int (iV a2))]) (by decide) rfl (Nat.le_of_ble_eq_true rfl) rfl ?_
  intro p e s m below meth c ls X Y V hl
  have go : ∀ (args : Array Value) (H : Heap) (locs : List Loc), uvCx p m c cX9_target 3 RX9 s args meth (Option.some Jvm.ClassFile.FieldType.int) → uvWo G σ s H locs → W p l e { frames := 1, cells := 0, slots := 0, locals := 21 } s m args below meth c H locs 0 0 (MQ below (uvQi G r σ') args s 0 0 (uvA G)) (F0 m 0 ls []) := by
    intro args H locs X V
    refine r_aln X dX9_target_0 rfl (lv_at hl 0 rfl) ?_
    refine r_iln X dX9_target_1 rfl (lv_at hl 1 rfl) ?_
    refine r_kz V (r_runV (As := [.int (iV a1)]) (rest := []) X Y V (c_X9_isTarget l G σ a1 _  rfl) mv_X9_isTarget wd_590 ci_9 kd_0 ⟨rfl, rfl, Nat.le_of_ble_eq_true rfl, Nat.le_of_ble_eq_true rfl⟩ rfl rfl hl.1 (Nat.le_of_ble_eq_true rfl) ⟨Nat.le_refl 0, Nat.le_refl 0⟩ dX9_target_2) (fun H locs V z1 => ?_)
    refine r_ne (cx := (f_X9_isTarget σ a1)) (tgt := 13) X (wI_01 z1) dX9_target_5 (by decide) (fun c2 => ?_) (fun c2 => ?_)
    · replace h := ite_t c2 h
      refine r_aln X dX9_target_8 rfl (lv_at hl 0 rfl) ?_
      obtain ⟨v3, σ4, hv3, h⟩ := bd2_ex h
      refine r_ki V (r_runV (As := []) (rest := []) X Y V (c_X9_bad l G σ  _ _  hv3) mv_X9_bad wd_384 ci_9 kd_0 ⟨rfl, rfl, Nat.le_of_ble_eq_true rfl, Nat.le_of_ble_eq_true rfl⟩ rfl rfl hl.1 (Nat.le_of_ble_eq_true rfl) ⟨Nat.le_refl 0, Nat.le_refl 0⟩ dX9_target_9) (fun H locs V => ?_)
      exact r_ri X V (so2 h).1 (so2 h).2 dX9_target_12
    · replace h := ite_f c2 h
      refine r_iln X dX9_target_13 rfl (lv_at hl 2 rfl) ?_
      by_cases c5 : wI a2 = 0
      · replace h := ite_t c5 h
        refine r_tbi (tgt := 48) X rfl dX9_target_14 c5 (by decide) (by decide) rfl (by decide) ?_
        refine r_aln X dX9_target_48 rfl (lv_at hl 0 rfl) ?_
        refine r_gr X Y V ci_9 kd_0 1 rfl rfl (by decide) rfl rfl wd_335 dX9_target_49 ?_
        refine r_gr X Y V ci_4 kd_10 0 rfl rfl (by decide) rfl rfl wd_94 dX9_target_52 ?_
        refine r_iln X dX9_target_55 rfl (lv_at hl 1 rfl) ?_
        obtain ⟨v6, hv6, hiv6, h⟩ := rdA_ex h
        refine r_ial X Y V kd_11 ln_11 hiv6 hv6 dX9_target_56 ?_
        exact r_ri X V (so2 h).1 (so2 h).2 dX9_target_57
      · replace h := ite_f c5 h
        by_cases c7 : wI a2 = 1
        · replace h := ite_t c7 h
          refine r_tbi (tgt := 58) X rfl dX9_target_14 c7 (by decide) (by decide) rfl (by decide) ?_
          refine r_aln X dX9_target_58 rfl (lv_at hl 0 rfl) ?_
          refine r_gr X Y V ci_9 kd_0 1 rfl rfl (by decide) rfl rfl wd_335 dX9_target_59 ?_
          refine r_gr X Y V ci_4 kd_10 1 rfl rfl (by decide) rfl rfl wd_98 dX9_target_62 ?_
          refine r_iln X dX9_target_65 rfl (lv_at hl 1 rfl) ?_
          obtain ⟨v8, hv8, hiv8, h⟩ := rdA_ex h
          refine r_ial X Y V kd_12 ln_12 hiv8 hv8 dX9_target_66 ?_
          exact r_ri X V (so2 h).1 (so2 h).2 dX9_target_67
        · replace h := ite_f c7 h
          by_cases c9 : wI a2 = 2
          · replace h := ite_t c9 h
            refine r_tbi (tgt := 68) X rfl dX9_target_14 c9 (by decide) (by decide) rfl (by decide) ?_
            refine r_aln X dX9_target_68 rfl (lv_at hl 0 rfl) ?_
            refine r_gr X Y V ci_9 kd_0 1 rfl rfl (by decide) rfl rfl wd_335 dX9_target_69 ?_
            refine r_gr X Y V ci_4 kd_10 2 rfl rfl (by decide) rfl rfl wd_102 dX9_target_72 ?_
            refine r_iln X dX9_target_75 rfl (lv_at hl 1 rfl) ?_
            obtain ⟨v10, hv10, hiv10, h⟩ := rdA_ex h
            refine r_ial X Y V kd_13 ln_13 hiv10 hv10 dX9_target_76 ?_
            exact r_ri X V (so2 h).1 (so2 h).2 dX9_target_77
          · replace h := ite_f c9 h
            by_cases c11 : wI a2 = 3
            · replace h := ite_t c11 h
              refine r_tbi (tgt := 78) X rfl dX9_target_14 c11 (by decide) (by decide) rfl (by decide) ?_
              refine r_aln X dX9_target_78 rfl (lv_at hl 0 rfl) ?_
              refine r_gr X Y V ci_9 kd_0 1 rfl rfl (by decide) rfl rfl wd_335 dX9_target_79 ?_
              refine r_iln X dX9_target_82 rfl (lv_at hl 1 rfl) ?_
              obtain ⟨v12, hv12, h⟩ := bd1_ex h
              refine r_ki V (r_runV (As := [.int (iV a1)]) (rest := []) X Y V (c_X4_leftOf l G σ 10 a1 _ kd_10 hv12) mv_X4_leftOf wd_594 ci_4 kd_10 ⟨rfl, rfl, Nat.le_of_ble_eq_true rfl, Nat.le_of_ble_eq_true rfl⟩ rfl rfl hl.1 (Nat.le_of_ble_eq_true rfl) ⟨Nat.le_refl 0, Nat.le_refl 0⟩ dX9_target_83) (fun H locs V => ?_)
              exact r_ri X V (so2 h).1 (so2 h).2 dX9_target_86
            · replace h := ite_f c11 h
              by_cases c13 : wI a2 = 4
              · replace h := ite_t c13 h
                refine r_tbi (tgt := 87) X rfl dX9_target_14 c13 (by decide) (by decide) rfl (by decide) ?_
                refine r_aln X dX9_target_87 rfl (lv_at hl 0 rfl) ?_
                refine r_gr X Y V ci_9 kd_0 1 rfl rfl (by decide) rfl rfl wd_335 dX9_target_88 ?_
                refine r_iln X dX9_target_91 rfl (lv_at hl 1 rfl) ?_
                obtain ⟨v14, hv14, h⟩ := bd1_ex h
                refine r_ki V (r_runV (As := [.int (iV a1)]) (rest := []) X Y V (c_X4_rightOf l G σ 10 a1 _ kd_10 hv14) mv_X4_rightOf wd_598 ci_4 kd_10 ⟨rfl, rfl, Nat.le_of_ble_eq_true rfl, Nat.le_of_ble_eq_true rfl⟩ rfl rfl hl.1 (Nat.le_of_ble_eq_true rfl) ⟨Nat.le_refl 0, Nat.le_refl 0⟩ dX9_target_92) (fun H locs V => ?_)
                exact r_ri X V (so2 h).1 (so2 h).2 dX9_target_95
              · replace h := ite_f c13 h
                refine r_tbo (tgt := 96) X rfl dX9_target_14 (by omega) (by decide) ?_
                refine r_aln X dX9_target_96 rfl (lv_at hl 0 rfl) ?_
                obtain ⟨v15, σ16, hv15, h⟩ := bd2_ex h
                refine r_ki V (r_runV (As := []) (rest := []) X Y V (c_X9_bad l G σ  _ _  hv15) mv_X9_bad wd_384 ci_9 kd_0 ⟨rfl, rfl, Nat.le_of_ble_eq_true rfl, Nat.le_of_ble_eq_true rfl⟩ rfl rfl hl.1 (Nat.le_of_ble_eq_true rfl) ⟨Nat.le_refl 0, Nat.le_refl 0⟩ dX9_target_97) (fun H locs V => ?_)
                exact r_ri X V (so2 h).1 (so2 h).2 dX9_target_100
  exact go _ _ _ X V

set_option maxRecDepth 100000 in
set_option maxHeartbeats 4000000 in
theorem c_J13_bitCount_95d88 (l : Launch) (G : UG) (σ0 : St) (a0 : Int) (r : Int)  (h : f_J13_bitCount_95d88 a0 = r) : Met l yJ13_bitCount_95d88 (.code yJ13_bitCount_95d88 cJ13_bitCount_95d88 2 (Option.some Jvm.ClassFile.FieldType.int) :: TB) { frames := 0, cells := 0, slots := 0, locals := 0 } (uvPc G σ0 [.long (lV a0)]) (uvQi G r σ0) 0 0 (uvA G) := by
  unfold f_J13_bitCount_95d88 at h
  refine r_met (own := RJ13) (lv := [(0, .long (lV a0))]) (by decide) rfl (Nat.le_of_ble_eq_true rfl) rfl ?_
  intro p e s m below meth c ls X Y V hl
  have go : ∀ (args : Array Value) (H : Heap) (locs : List Loc), uvCx p m c cJ13_bitCount_95d88 2 RJ13 s args meth (Option.some Jvm.ClassFile.FieldType.int) → uvWo G σ0 s H locs → W p l e { frames := 0, cells := 0, slots := 0, locals := 0 } s m args below meth c H locs 0 0 (MQ below (uvQi G r σ0) args s 0 0 (uvA G)) (F0 m 0 ls []) := by
    intro args H locs X V
    refine r_lln X dJ13_bitCount_95d88_0 rfl (lv_at hl 0 rfl) ?_
    refine r_lln X dJ13_bitCount_95d88_1 rfl (lv_at hl 0 rfl) ?_
    refine r_ic X dJ13_bitCount_95d88_2 ?_
    refine r_lushr X dJ13_bitCount_95d88_3 ?_
    refine r_ldc2 X (n := 6148914691236517205) wd_629 (by decide) dJ13_bitCount_95d88_4 ?_
    refine r_land X dJ13_bitCount_95d88_7 ?_
    refine r_lsub X dJ13_bitCount_95d88_8 ?_
    obtain ⟨v1, hv1, h⟩ := bnd_ex h
    refine r_eqL hv1 ?_
    refine r_lsn (lv' := [(0, .long (lV v1))]) X dJ13_bitCount_95d88_9 rfl hl (by decide) rfl (fun ls hl => ?_)
    refine r_lln X dJ13_bitCount_95d88_10 rfl (lv_at hl 0 rfl) ?_
    refine r_ldc2 X (n := 3689348814741910323) wd_630 (by decide) dJ13_bitCount_95d88_11 ?_
    refine r_land X dJ13_bitCount_95d88_14 ?_
    refine r_lln X dJ13_bitCount_95d88_15 rfl (lv_at hl 0 rfl) ?_
    refine r_ic X dJ13_bitCount_95d88_16 ?_
    refine r_lushr X dJ13_bitCount_95d88_17 ?_
    refine r_ldc2 X (n := 3689348814741910323) wd_630 (by decide) dJ13_bitCount_95d88_18 ?_
    refine r_land X dJ13_bitCount_95d88_21 ?_
    refine r_ladd X dJ13_bitCount_95d88_22 ?_
    obtain ⟨v2, hv2, h⟩ := bnd_ex h
    refine r_eqL hv2 ?_
    refine r_lsn (lv' := [(0, .long (lV v2))]) X dJ13_bitCount_95d88_23 rfl hl (by decide) rfl (fun ls hl => ?_)
    refine r_lln X dJ13_bitCount_95d88_24 rfl (lv_at hl 0 rfl) ?_
    refine r_lln X dJ13_bitCount_95d88_25 rfl (lv_at hl 0 rfl) ?_
    refine r_ic X dJ13_bitCount_95d88_26 ?_
    refine r_lushr X dJ13_bitCount_95d88_27 ?_
    refine r_ladd X dJ13_bitCount_95d88_28 ?_
    refine r_ldc2 X (n := 1085102592571150095) wd_631 (by decide) dJ13_bitCount_95d88_29 ?_
    refine r_land X dJ13_bitCount_95d88_32 ?_
    obtain ⟨v3, hv3, h⟩ := bnd_ex h
    refine r_eqL hv3 ?_
    refine r_lsn (lv' := [(0, .long (lV v3))]) X dJ13_bitCount_95d88_33 rfl hl (by decide) rfl (fun ls hl => ?_)
    refine r_lln X dJ13_bitCount_95d88_34 rfl (lv_at hl 0 rfl) ?_
    refine r_lln X dJ13_bitCount_95d88_35 rfl (lv_at hl 0 rfl) ?_
    refine r_bp X dJ13_bitCount_95d88_36 (by decide) ?_
    refine r_lushr X dJ13_bitCount_95d88_38 ?_
    refine r_ladd X dJ13_bitCount_95d88_39 ?_
    obtain ⟨v4, hv4, h⟩ := bnd_ex h
    refine r_eqL hv4 ?_
    refine r_lsn (lv' := [(0, .long (lV v4))]) X dJ13_bitCount_95d88_40 rfl hl (by decide) rfl (fun ls hl => ?_)
    refine r_lln X dJ13_bitCount_95d88_41 rfl (lv_at hl 0 rfl) ?_
    refine r_lln X dJ13_bitCount_95d88_42 rfl (lv_at hl 0 rfl) ?_
    refine r_bp X dJ13_bitCount_95d88_43 (by decide) ?_
    refine r_lushr X dJ13_bitCount_95d88_45 ?_
    refine r_ladd X dJ13_bitCount_95d88_46 ?_
    obtain ⟨v5, hv5, h⟩ := bnd_ex h
    refine r_eqL hv5 ?_
    refine r_lsn (lv' := [(0, .long (lV v5))]) X dJ13_bitCount_95d88_47 rfl hl (by decide) rfl (fun ls hl => ?_)
    refine r_lln X dJ13_bitCount_95d88_48 rfl (lv_at hl 0 rfl) ?_
    refine r_lln X dJ13_bitCount_95d88_49 rfl (lv_at hl 0 rfl) ?_
    refine r_bp X dJ13_bitCount_95d88_50 (by decide) ?_
    refine r_lushr X dJ13_bitCount_95d88_52 ?_
    refine r_ladd X dJ13_bitCount_95d88_53 ?_
    obtain ⟨v6, hv6, h⟩ := bnd_ex h
    refine r_eqL hv6 ?_
    refine r_lsn (lv' := [(0, .long (lV v6))]) X dJ13_bitCount_95d88_54 rfl hl (by decide) rfl (fun ls hl => ?_)
    refine r_lln X dJ13_bitCount_95d88_55 rfl (lv_at hl 0 rfl) ?_
    refine r_l2i X dJ13_bitCount_95d88_56 ?_
    refine r_bp X dJ13_bitCount_95d88_57 (by decide) ?_
    refine r_iand X dJ13_bitCount_95d88_59 ?_
    exact r_ri X V h rfl dJ13_bitCount_95d88_60
  exact go _ _ _ X V

set_option maxRecDepth 100000 in
set_option maxHeartbeats 4000000 in
theorem wl_X9_emptyLeaves_4 {p : Program} {l : Launch} {e : Env} {s : State} {m : MethodId} {args : Array Value} {below : List Frame} {meth : Method} {c : Code} {G : UG} (X : uvCx p m c cX9_emptyLeaves 4 RX9 s args meth (Option.some Jvm.ClassFile.FieldType.int)) (Y : uvGd G s s.heap) (σ0 : St)   (r : Int) (kx : Int → Option Int) (hkx : ∀ (x1 : Int) (H : Heap) (locs : List Loc) (ls : Array Slot), uvWo G σ0 s H locs → lv_has ls 4 [(0, .ref (G.2.2.1 0)), (1, .long (lV x1))] → kx x1 = some r → W p l e { frames := 3, cells := 0, slots := 0, locals := 73 } s m args below meth c H locs 0 0 (MQ below (uvQi G r σ0) args s 0 0 (uvA G)) (F0 m 41 ls [])) : ∀ (n : Nat) (x1 : Int) (x3 : Int) (H : Heap) (locs : List Loc) (ls : Array Slot), uvWo G σ0 s H locs → lv_has ls 4 [(0, .ref (G.2.2.1 0)), (1, .long (lV x1)), (3, .int (iV x3))] → lp_X9_emptyLeaves_4 σ0 kx n x1 x3 = some r → W p l e { frames := 3, cells := 0, slots := 0, locals := 73 } s m args below meth c H locs 0 0 (MQ below (uvQi G r σ0) args s 0 0 (uvA G)) (F0 m 4 ls []) := by
  intro n
  induction n with
  | zero => intro x1 x3 H locs ls V hl h; cases h
  | succ n ih =>
    intro x1 x3 H locs ls V hl h
    rw [lp_X9_emptyLeaves_4] at h
    refine r_iln X dX9_emptyLeaves_4 rfl (lv_at hl 2 rfl) ?_
    refine r_aln X dX9_emptyLeaves_5 rfl (lv_at hl 0 rfl) ?_
    refine r_gr X Y V ci_9 kd_0 0 rfl rfl (by decide) rfl rfl wd_334 dX9_emptyLeaves_6 ?_
    refine r_gi (kI := 8) X Y V ci_8 kd_1 8 rfl (by decide) rfl rfl wd_64 dX9_emptyLeaves_9 ?_
    refine r_cge (cx := wI x3) (cy := wI (σ0 1 8)) (tgt := 41) X rfl rfl dX9_emptyLeaves_12 (by decide) (fun c1 => ?_) (fun c1 => ?_)
    · replace h := ite_t c1 h
      refine r_lln X dX9_emptyLeaves_15 rfl (lv_at hl 1 rfl) ?_
      refine r_lc (v := 1) X dX9_emptyLeaves_16 rfl ?_
      refine r_aln X dX9_emptyLeaves_17 rfl (lv_at hl 0 rfl) ?_
      refine r_gr X Y V ci_9 kd_0 2 rfl rfl (by decide) rfl rfl wd_336 dX9_emptyLeaves_18 ?_
      refine r_aln X dX9_emptyLeaves_21 rfl (lv_at hl 0 rfl) ?_
      refine r_gr X Y V ci_9 kd_0 5 rfl rfl (by decide) rfl rfl wd_339 dX9_emptyLeaves_22 ?_
      refine r_iln X dX9_emptyLeaves_25 rfl (lv_at hl 2 rfl) ?_
      obtain ⟨v2, hv2, h⟩ := bd1_ex h
      refine r_ki V (r_runV (As := [.int (iV x3)]) (rest := [.ref (G.2.2.1 14), .long (lV 1), .long (lV x1)]) X Y V (c_X2_leafOfUnit l G σ0 x3 _  hv2) mv_X2_leafOfUnit wd_610 ci_2 kd_35 ⟨rfl, rfl, Nat.le_of_ble_eq_true rfl, Nat.le_of_ble_eq_true rfl⟩ rfl rfl hl.1 (Nat.le_of_ble_eq_true rfl) ⟨Nat.le_refl 0, Nat.le_refl 0⟩ dX9_emptyLeaves_26) (fun H locs V => ?_)
      obtain ⟨v3, hv3, h⟩ := bd1_ex h
      refine r_ki V (r_runV (As := [.int (iV v2)]) (rest := [.long (lV 1), .long (lV x1)]) X Y V (c_X7_numberOf l G σ0 14 v2 _ kd_14 hv3) mv_X7_numberOf wd_622 ci_7 kd_14 ⟨rfl, rfl, Nat.le_of_ble_eq_true rfl, Nat.le_of_ble_eq_true rfl⟩ rfl rfl hl.1 (Nat.le_of_ble_eq_true rfl) ⟨Nat.le_refl 0, Nat.le_refl 0⟩ dX9_emptyLeaves_29) (fun H locs V => ?_)
      refine r_lshl X dX9_emptyLeaves_32 ?_
      refine r_lor X dX9_emptyLeaves_33 ?_
      obtain ⟨v4, hv4, h⟩ := bnd_ex h
      refine r_eqL hv4 ?_
      refine r_lsn (lv' := [(1, .long (lV v4)), (0, .ref (G.2.2.1 0)), (3, .int (iV x3))]) X dX9_emptyLeaves_34 rfl hl (by decide) rfl (fun ls hl => ?_)
      refine r_inc (kk := 2) (lv' := [(3, .int (iV (x3 + 1))), (1, .long (lV v4)), (0, .ref (G.2.2.1 0))]) X dX9_emptyLeaves_35 hl rfl (by decide) rfl (fun ls hl => ?_)
      refine r_goto (tgt := 4) X dX9_emptyLeaves_38 (by decide) ?_
      exact ih v4 (x3 + 1) _ _ _ V (lv_sub hl [2, 1, 0] rfl) h
    · replace h := ite_f c1 h
      exact hkx x1 _ _ _ V (lv_sub hl [0, 1] rfl) h

set_option maxRecDepth 100000 in
set_option maxHeartbeats 4000000 in
theorem c_X9_emptyLeaves (l : Launch) (G : UG) (σ0 : St)  (r : Int)  (h : f_X9_emptyLeaves σ0 = some r) : Met l yX9_emptyLeaves (.code yX9_emptyLeaves cX9_emptyLeaves 4 (Option.some Jvm.ClassFile.FieldType.int) :: TB) { frames := 3, cells := 0, slots := 0, locals := 73 } (uvPc G σ0 [.ref (G.2.2.1 0)]) (uvQi G r σ0) 0 0 (uvA G) := by
  unfold f_X9_emptyLeaves at h
  refine r_met (own := RX9) (lv := [(0, .ref (G.2.2.1 0))]) (by decide) rfl (Nat.le_of_ble_eq_true rfl) rfl ?_
  intro p e s m below meth c ls X Y V hl
  have go : ∀ (args : Array Value) (H : Heap) (locs : List Loc), uvCx p m c cX9_emptyLeaves 4 RX9 s args meth (Option.some Jvm.ClassFile.FieldType.int) → uvWo G σ0 s H locs → W p l e { frames := 3, cells := 0, slots := 0, locals := 73 } s m args below meth c H locs 0 0 (MQ below (uvQi G r σ0) args s 0 0 (uvA G)) (F0 m 0 ls []) := by
    intro args H locs X V
    refine r_lc (v := 0) X dX9_emptyLeaves_0 rfl ?_
    refine r_lsn (lv' := [(1, .long (lV 0)), (0, .ref (G.2.2.1 0))]) X dX9_emptyLeaves_1 rfl hl (by decide) rfl (fun ls hl => ?_)
    refine r_ic X dX9_emptyLeaves_2 ?_
    refine r_isn (lv' := [(3, .int (iV 0)), (1, .long (lV 0)), (0, .ref (G.2.2.1 0))]) X dX9_emptyLeaves_3 rfl hl (by decide) rfl (fun ls hl => ?_)
    refine wl_X9_emptyLeaves_4 X Y σ0   r _ (fun y5 H locs ls V hl h => ?_) 1000 0 0 _ _ _ V (lv_sub hl [2, 1, 0] rfl) h
    refine r_aln X dX9_emptyLeaves_41 rfl (lv_at hl 0 rfl) ?_
    refine r_gr X Y V ci_9 kd_0 2 rfl rfl (by decide) rfl rfl wd_336 dX9_emptyLeaves_42 ?_
    refine r_gi (kI := 7) X Y V ci_7 kd_14 7 rfl (by decide) rfl rfl wd_139 dX9_emptyLeaves_45 ?_
    refine r_lln X dX9_emptyLeaves_48 rfl (lv_at hl 1 rfl) ?_
    refine r_ki V (r_runS (As := [.long (lV y5)]) (rest := [.int (iV (σ0 14 7))]) X Y V (c_J13_bitCount_95d88 l G σ0 y5 _  rfl) ms_J13_bitCount_95d88 wd_626 ⟨rfl, rfl, Nat.le_of_ble_eq_true rfl, Nat.le_of_ble_eq_true rfl⟩ rfl rfl hl.1 (Nat.le_of_ble_eq_true rfl) ⟨Nat.le_refl 0, Nat.le_refl 0⟩ dX9_emptyLeaves_49) (fun H locs V => ?_)
    refine r_isub X dX9_emptyLeaves_52 ?_
    exact r_ri X V (so1 h) rfl dX9_emptyLeaves_53
  exact go _ _ _ X V

set_option maxRecDepth 100000 in
set_option maxHeartbeats 4000000 in
theorem c_X9_tree (l : Launch) (G : UG) (σ : St) (a1 : Int) (r : Int) (σ' : St)  (h : f_X9_tree σ a1 = some (r, σ')) : Met l yX9_tree (.code yX9_tree cX9_tree 2 (Option.some Jvm.ClassFile.FieldType.int) :: TB) { frames := 4, cells := 0, slots := 0, locals := 96 } (uvPc G σ [.ref (G.2.2.1 0), .int (iV a1)]) (uvQi G r σ') 0 0 (uvA G) := by
  unfold f_X9_tree at h
  refine r_met (own := RX9) (lv := [(0, .ref (G.2.2.1 0)), (1, .int (iV a1))]) (by decide) rfl (Nat.le_of_ble_eq_true rfl) rfl ?_
  intro p e s m below meth c ls X Y V hl
  have go : ∀ (args : Array Value) (H : Heap) (locs : List Loc), uvCx p m c cX9_tree 2 RX9 s args meth (Option.some Jvm.ClassFile.FieldType.int) → uvWo G σ s H locs → W p l e { frames := 4, cells := 0, slots := 0, locals := 96 } s m args below meth c H locs 0 0 (MQ below (uvQi G r σ') args s 0 0 (uvA G)) (F0 m 0 ls []) := by
    intro args H locs X V
    refine r_iln X dX9_tree_0 rfl (lv_at hl 1 rfl) ?_
    by_cases c1 : wI a1 = 0
    · replace h := ite_t c1 h
      refine r_tbi (tgt := 28) X rfl dX9_tree_1 c1 (by decide) (by decide) rfl (by decide) ?_
      refine r_aln X dX9_tree_28 rfl (lv_at hl 0 rfl) ?_
      refine r_gr X Y V ci_9 kd_0 2 rfl rfl (by decide) rfl rfl wd_336 dX9_tree_29 ?_
      refine r_gi (kI := 7) X Y V ci_7 kd_14 7 rfl (by decide) rfl rfl wd_139 dX9_tree_32 ?_
      exact r_ri X V (so2 h).1 (so2 h).2 dX9_tree_35
    · replace h := ite_f c1 h
      by_cases c2 : wI a1 = 1
      · replace h := ite_t c2 h
        refine r_tbi (tgt := 36) X rfl dX9_tree_1 c2 (by decide) (by decide) rfl (by decide) ?_
        refine r_aln X dX9_tree_36 rfl (lv_at hl 0 rfl) ?_
        refine r_gr X Y V ci_9 kd_0 2 rfl rfl (by decide) rfl rfl wd_336 dX9_tree_37 ?_
        refine r_gi (kI := 8) X Y V ci_7 kd_14 8 rfl (by decide) rfl rfl wd_141 dX9_tree_40 ?_
        exact r_ri X V (so2 h).1 (so2 h).2 dX9_tree_43
      · replace h := ite_f c2 h
        by_cases c3 : wI a1 = 2
        · replace h := ite_t c3 h
          refine r_tbi (tgt := 44) X rfl dX9_tree_1 c3 (by decide) (by decide) rfl (by decide) ?_
          refine r_aln X dX9_tree_44 rfl (lv_at hl 0 rfl) ?_
          obtain ⟨v4, hv4, h⟩ := bd1_ex h
          refine r_ki V (r_runV (As := []) (rest := []) X Y V (c_X9_emptyLeaves l G σ  _  hv4) mv_X9_emptyLeaves wd_606 ci_9 kd_0 ⟨rfl, rfl, Nat.le_of_ble_eq_true rfl, Nat.le_of_ble_eq_true rfl⟩ rfl rfl hl.1 (Nat.le_of_ble_eq_true rfl) ⟨Nat.le_refl 0, Nat.le_refl 0⟩ dX9_tree_45) (fun H locs V => ?_)
          exact r_ri X V (so2 h).1 (so2 h).2 dX9_tree_48
        · replace h := ite_f c3 h
          refine r_tbo (tgt := 49) X rfl dX9_tree_1 (by omega) (by decide) ?_
          refine r_aln X dX9_tree_49 rfl (lv_at hl 0 rfl) ?_
          obtain ⟨v5, σ6, hv5, h⟩ := bd2_ex h
          refine r_ki V (r_runV (As := []) (rest := []) X Y V (c_X9_bad l G σ  _ _  hv5) mv_X9_bad wd_384 ci_9 kd_0 ⟨rfl, rfl, Nat.le_of_ble_eq_true rfl, Nat.le_of_ble_eq_true rfl⟩ rfl rfl hl.1 (Nat.le_of_ble_eq_true rfl) ⟨Nat.le_refl 0, Nat.le_refl 0⟩ dX9_tree_50) (fun H locs V => ?_)
          exact r_ri X V (so2 h).1 (so2 h).2 dX9_tree_53
  exact go _ _ _ X V

set_option maxRecDepth 100000 in
set_option maxHeartbeats 4000000 in
theorem wj_X9_leaf_28 {p : Program} {l : Launch} {e : Env} {s : State} {m : MethodId} {args : Array Value} {below : List Frame} {meth : Method} {c : Code} {G : UG} (X : uvCx p m c cX9_leaf 3 RX9 s args meth (Option.some Jvm.ClassFile.FieldType.int)) (Y : uvGd G s s.heap) (r : Int) (σ' : St) (σ : St) (x1 : Int) (x2 : Int)  (H : Heap) (locs : List Loc) (ls : Array Slot) (V : uvWo G σ s H locs) (hl : lv_has ls 3 [(0, .ref (G.2.2.1 0)), (1, .int (iV x1)), (2, .int (iV x2))]) (h : jn_X9_leaf_28 σ x1 x2 = some (r, σ')) : W p l e { frames := 3, cells := 0, slots := 0, locals := 73 } s m args below meth c H locs 0 0 (MQ below (uvQi G r σ') args s 0 0 (uvA G)) (F0 m 28 ls []) := by
  unfold jn_X9_leaf_28 at h
  refine r_iln X dX9_leaf_28 rfl (lv_at hl 1 rfl) ?_
  refine r_ic X dX9_leaf_29 ?_
  refine r_cne (cx := wI x1) (cy := 1) (tgt := 57) X rfl rfl dX9_leaf_30 (by decide) (fun c4 => ?_) (fun c4 => ?_)
  · replace h := ite_t c4 h
    refine r_aln X dX9_leaf_33 rfl (lv_at hl 0 rfl) ?_
    refine r_iln X dX9_leaf_34 rfl (lv_at hl 2 rfl) ?_
    refine r_kz V (r_runV (As := [.int (iV x2)]) (rest := []) X Y V (c_X9_isTarget l G σ x2 _  rfl) mv_X9_isTarget wd_590 ci_9 kd_0 ⟨rfl, rfl, Nat.le_of_ble_eq_true rfl, Nat.le_of_ble_eq_true rfl⟩ rfl rfl hl.1 (Nat.le_of_ble_eq_true rfl) ⟨Nat.le_refl 0, Nat.le_refl 0⟩ dX9_leaf_35) (fun H locs V z5 => ?_)
    refine r_eq (cx := (f_X9_isTarget σ x2)) (tgt := 57) X (wI_01 z5) dX9_leaf_38 (by decide) (fun c6 => ?_) (fun c6 => ?_)
    · replace h := ite_t c6 h
      refine r_aln X dX9_leaf_57 rfl (lv_at hl 0 rfl) ?_
      obtain ⟨v7, σ8, hv7, h⟩ := bd2_ex h
      refine r_ki V (r_runV (As := []) (rest := []) X Y V (c_X9_bad l G σ  _ _  hv7) mv_X9_bad wd_384 ci_9 kd_0 ⟨rfl, rfl, Nat.le_of_ble_eq_true rfl, Nat.le_of_ble_eq_true rfl⟩ rfl rfl hl.1 (Nat.le_of_ble_eq_true rfl) ⟨Nat.le_refl 0, Nat.le_refl 0⟩ dX9_leaf_58) (fun H locs V => ?_)
      exact r_ri X V (so2 h).1 (so2 h).2 dX9_leaf_61
    · replace h := ite_f c6 h
      refine r_aln X dX9_leaf_41 rfl (lv_at hl 0 rfl) ?_
      refine r_gr X Y V ci_9 kd_0 2 rfl rfl (by decide) rfl rfl wd_336 dX9_leaf_42 ?_
      refine r_aln X dX9_leaf_45 rfl (lv_at hl 0 rfl) ?_
      refine r_gr X Y V ci_9 kd_0 5 rfl rfl (by decide) rfl rfl wd_339 dX9_leaf_46 ?_
      refine r_iln X dX9_leaf_49 rfl (lv_at hl 2 rfl) ?_
      obtain ⟨v9, hv9, h⟩ := bd1_ex h
      refine r_ki V (r_runV (As := [.int (iV x2)]) (rest := [.ref (G.2.2.1 14)]) X Y V (c_X2_leafOfTarget l G σ x2 _  hv9) mv_X2_leafOfTarget wd_636 ci_2 kd_35 ⟨rfl, rfl, Nat.le_of_ble_eq_true rfl, Nat.le_of_ble_eq_true rfl⟩ rfl rfl hl.1 (Nat.le_of_ble_eq_true rfl) ⟨Nat.le_refl 0, Nat.le_refl 0⟩ dX9_leaf_50) (fun H locs V => ?_)
      obtain ⟨v10, hv10, h⟩ := bd1_ex h
      refine r_ki V (r_runV (As := [.int (iV v9)]) (rest := []) X Y V (c_X7_numberOf l G σ 14 v9 _ kd_14 hv10) mv_X7_numberOf wd_622 ci_7 kd_14 ⟨rfl, rfl, Nat.le_of_ble_eq_true rfl, Nat.le_of_ble_eq_true rfl⟩ rfl rfl hl.1 (Nat.le_of_ble_eq_true rfl) ⟨Nat.le_refl 0, Nat.le_refl 0⟩ dX9_leaf_53) (fun H locs V => ?_)
      exact r_ri X V (so2 h).1 (so2 h).2 dX9_leaf_56
  · replace h := ite_f c4 h
    refine r_aln X dX9_leaf_57 rfl (lv_at hl 0 rfl) ?_
    obtain ⟨v11, σ12, hv11, h⟩ := bd2_ex h
    refine r_ki V (r_runV (As := []) (rest := []) X Y V (c_X9_bad l G σ  _ _  hv11) mv_X9_bad wd_384 ci_9 kd_0 ⟨rfl, rfl, Nat.le_of_ble_eq_true rfl, Nat.le_of_ble_eq_true rfl⟩ rfl rfl hl.1 (Nat.le_of_ble_eq_true rfl) ⟨Nat.le_refl 0, Nat.le_refl 0⟩ dX9_leaf_58) (fun H locs V => ?_)
    exact r_ri X V (so2 h).1 (so2 h).2 dX9_leaf_61

set_option maxRecDepth 100000 in
set_option maxHeartbeats 4000000 in
theorem c_X9_leaf (l : Launch) (G : UG) (σ : St) (a1 : Int) (a2 : Int) (r : Int) (σ' : St)  (h : f_X9_leaf σ a1 a2 = some (r, σ')) : Met l yX9_leaf (.code yX9_leaf cX9_leaf 3 (Option.some Jvm.ClassFile.FieldType.int) :: TB) { frames := 3, cells := 0, slots := 0, locals := 73 } (uvPc G σ [.ref (G.2.2.1 0), .int (iV a1), .int (iV a2)]) (uvQi G r σ') 0 0 (uvA G) := by
  unfold f_X9_leaf at h
  refine r_met (own := RX9) (lv := [(0, .ref (G.2.2.1 0)), (1, .int (iV a1)), (2, .int (iV a2))]) (by decide) rfl (Nat.le_of_ble_eq_true rfl) rfl ?_
  intro p e s m below meth c ls X Y V hl
  have go : ∀ (args : Array Value) (H : Heap) (locs : List Loc), uvCx p m c cX9_leaf 3 RX9 s args meth (Option.some Jvm.ClassFile.FieldType.int) → uvWo G σ s H locs → W p l e { frames := 3, cells := 0, slots := 0, locals := 73 } s m args below meth c H locs 0 0 (MQ below (uvQi G r σ') args s 0 0 (uvA G)) (F0 m 0 ls []) := by
    intro args H locs X V
    refine r_iln X dX9_leaf_0 rfl (lv_at hl 1 rfl) ?_
    refine r_ne (cx := wI a1) (tgt := 28) X rfl dX9_leaf_1 (by decide) (fun c1 => ?_) (fun c1 => ?_)
    · replace h := ite_t c1 h
      refine r_aln X dX9_leaf_4 rfl (lv_at hl 0 rfl) ?_
      refine r_iln X dX9_leaf_5 rfl (lv_at hl 2 rfl) ?_
      refine r_kz V (r_runV (As := [.int (iV a2)]) (rest := []) X Y V (c_X9_isUnit l G σ a2 _  rfl) mv_X9_isUnit wd_419 ci_9 kd_0 ⟨rfl, rfl, Nat.le_of_ble_eq_true rfl, Nat.le_of_ble_eq_true rfl⟩ rfl rfl hl.1 (Nat.le_of_ble_eq_true rfl) ⟨Nat.le_refl 0, Nat.le_refl 0⟩ dX9_leaf_6) (fun H locs V z2 => ?_)
      refine r_eq (cx := (f_X9_isUnit σ a2)) (tgt := 28) X (wI_01 z2) dX9_leaf_9 (by decide) (fun c3 => ?_) (fun c3 => ?_)
      · replace h := ite_t c3 h
        exact wj_X9_leaf_28 X Y r σ' σ a1 a2  _ _ _ V (lv_sub hl [0, 1, 2] rfl) h
      · replace h := ite_f c3 h
        refine r_aln X dX9_leaf_12 rfl (lv_at hl 0 rfl) ?_
        refine r_gr X Y V ci_9 kd_0 2 rfl rfl (by decide) rfl rfl wd_336 dX9_leaf_13 ?_
        refine r_aln X dX9_leaf_16 rfl (lv_at hl 0 rfl) ?_
        refine r_gr X Y V ci_9 kd_0 5 rfl rfl (by decide) rfl rfl wd_339 dX9_leaf_17 ?_
        refine r_iln X dX9_leaf_20 rfl (lv_at hl 2 rfl) ?_
        obtain ⟨v13, hv13, h⟩ := bd1_ex h
        refine r_ki V (r_runV (As := [.int (iV a2)]) (rest := [.ref (G.2.2.1 14)]) X Y V (c_X2_leafOfUnit l G σ a2 _  hv13) mv_X2_leafOfUnit wd_610 ci_2 kd_35 ⟨rfl, rfl, Nat.le_of_ble_eq_true rfl, Nat.le_of_ble_eq_true rfl⟩ rfl rfl hl.1 (Nat.le_of_ble_eq_true rfl) ⟨Nat.le_refl 0, Nat.le_refl 0⟩ dX9_leaf_21) (fun H locs V => ?_)
        obtain ⟨v14, hv14, h⟩ := bd1_ex h
        refine r_ki V (r_runV (As := [.int (iV v13)]) (rest := []) X Y V (c_X7_numberOf l G σ 14 v13 _ kd_14 hv14) mv_X7_numberOf wd_622 ci_7 kd_14 ⟨rfl, rfl, Nat.le_of_ble_eq_true rfl, Nat.le_of_ble_eq_true rfl⟩ rfl rfl hl.1 (Nat.le_of_ble_eq_true rfl) ⟨Nat.le_refl 0, Nat.le_refl 0⟩ dX9_leaf_24) (fun H locs V => ?_)
        exact r_ri X V (so2 h).1 (so2 h).2 dX9_leaf_27
    · replace h := ite_f c1 h
      exact wj_X9_leaf_28 X Y r σ' σ a1 a2  _ _ _ V (lv_sub hl [0, 1, 2] rfl) h
  exact go _ _ _ X V

set_option maxRecDepth 100000 in
set_option maxHeartbeats 4000000 in
theorem c_X9_isPlace (l : Launch) (G : UG) (σ0 : St) (a1 : Int) (r : Int)  (h : f_X9_isPlace σ0 a1 = r) : Met l yX9_isPlace (.code yX9_isPlace cX9_isPlace 2 (Option.some Jvm.ClassFile.FieldType.boolean) :: TB) { frames := 1, cells := 0, slots := 0, locals := 22 } (uvPc G σ0 [.ref (G.2.2.1 0), .int (iV a1)]) (uvQz G r σ0) 0 0 (uvA G) := by
  unfold f_X9_isPlace at h
  refine r_met (own := RX9) (lv := [(0, .ref (G.2.2.1 0)), (1, .int (iV a1))]) (by decide) rfl (Nat.le_of_ble_eq_true rfl) rfl ?_
  intro p e s m below meth c ls X Y V hl
  have go : ∀ (args : Array Value) (H : Heap) (locs : List Loc), uvCx p m c cX9_isPlace 2 RX9 s args meth (Option.some Jvm.ClassFile.FieldType.boolean) → uvWo G σ0 s H locs → W p l e { frames := 1, cells := 0, slots := 0, locals := 22 } s m args below meth c H locs 0 0 (MQ below (uvQz G r σ0) args s 0 0 (uvA G)) (F0 m 0 ls []) := by
    intro args H locs X V
    refine r_aln X dX9_isPlace_0 rfl (lv_at hl 0 rfl) ?_
    refine r_gr X Y V ci_9 kd_0 1 rfl rfl (by decide) rfl rfl wd_335 dX9_isPlace_1 ?_
    refine r_gi (kI := 3) X Y V ci_4 kd_10 3 rfl (by decide) rfl rfl wd_107 dX9_isPlace_4 ?_
    refine r_ne (cx := wI (σ0 10 3)) (tgt := 20) X rfl dX9_isPlace_7 (by decide) (fun c1 => ?_) (fun c1 => ?_)
    · replace h := ite_t c1 h
      refine r_iln X dX9_isPlace_10 rfl (lv_at hl 1 rfl) ?_
      refine r_ic X dX9_isPlace_11 ?_
      refine r_bp X dX9_isPlace_12 (by decide) ?_
      refine r_kz V (r_runS (As := [.int (iV a1), .int (iV 0), .int (iV 7)]) (rest := []) X Y V (c_X9_within l G σ0 a1 0 7 _  rfl) ms_X9_within wd_378 ⟨rfl, rfl, Nat.le_of_ble_eq_true rfl, Nat.le_of_ble_eq_true rfl⟩ rfl rfl hl.1 (Nat.le_of_ble_eq_true rfl) ⟨Nat.le_refl 0, Nat.le_refl 0⟩ dX9_isPlace_14) (fun H locs V z2 => ?_)
      refine r_goto (tgt := 25) X dX9_isPlace_17 (by decide) ?_
      exact r_rz X V z2 h rfl dX9_isPlace_25
    · replace h := ite_f c1 h
      refine r_aln X dX9_isPlace_20 rfl (lv_at hl 0 rfl) ?_
      refine r_iln X dX9_isPlace_21 rfl (lv_at hl 1 rfl) ?_
      refine r_kz V (r_runV (As := [.int (iV a1)]) (rest := []) X Y V (c_X9_isTarget l G σ0 a1 _  rfl) mv_X9_isTarget wd_590 ci_9 kd_0 ⟨rfl, rfl, Nat.le_of_ble_eq_true rfl, Nat.le_of_ble_eq_true rfl⟩ rfl rfl hl.1 (Nat.le_of_ble_eq_true rfl) ⟨Nat.le_refl 0, Nat.le_refl 0⟩ dX9_isPlace_22) (fun H locs V z3 => ?_)
      exact r_rz X V z3 h rfl dX9_isPlace_25
  exact go _ _ _ X V

set_option maxRecDepth 100000 in
set_option maxHeartbeats 4000000 in
theorem c_X9_no (l : Launch) (G : UG) (σ : St)  (r : Int) (σ' : St)  (h : f_X9_no σ = some (r, σ')) : Met l yX9_no (.code yX9_no cX9_no 1 (Option.some Jvm.ClassFile.FieldType.int) :: TB) { frames := 0, cells := 0, slots := 0, locals := 0 } (uvPc G σ [.ref (G.2.2.1 0)]) (uvQi G r σ') 0 0 (uvA G) := by
  unfold f_X9_no at h
  refine r_met (own := RX9) (lv := [(0, .ref (G.2.2.1 0))]) (by decide) rfl (Nat.le_of_ble_eq_true rfl) rfl ?_
  intro p e s m below meth c ls X Y V hl
  have go : ∀ (args : Array Value) (H : Heap) (locs : List Loc), uvCx p m c cX9_no 1 RX9 s args meth (Option.some Jvm.ClassFile.FieldType.int) → uvWo G σ s H locs → W p l e { frames := 0, cells := 0, slots := 0, locals := 0 } s m args below meth c H locs 0 0 (MQ below (uvQi G r σ') args s 0 0 (uvA G)) (F0 m 0 ls []) := by
    intro args H locs X V
    refine r_aln X dX9_no_0 rfl (lv_at hl 0 rfl) ?_
    refine r_dup X dX9_no_1 rfl ?_
    refine r_gi (kI := 10) X Y V ci_9 kd_0 10 rfl (by decide) rfl rfl wd_344 dX9_no_2 ?_
    refine r_ic X dX9_no_5 ?_
    refine r_iadd X dX9_no_6 ?_
    obtain ⟨σ1, hσ1, h⟩ := wrF_ex h
    refine r_pi X Y V ci_9 kd_0 10 rfl (by decide) rfl rfl rfl (tyX9_ok 10 (by decide)) wd_344 hσ1 dX9_no_7 (fun H locs V => ?_)
    refine r_bp X dX9_no_10 (by decide) ?_
    exact r_ri X V (so2 h).1 (so2 h).2 dX9_no_12
  exact go _ _ _ X V

set_option maxRecDepth 100000 in
set_option maxHeartbeats 4000000 in
theorem c_X9_choice (l : Launch) (G : UG) (σ : St) (a1 : Int) (a2 : Int) (r : Int) (σ' : St)  (h : f_X9_choice σ a1 a2 = some (r, σ')) : Met l yX9_choice (.code yX9_choice cX9_choice 4 (Option.some Jvm.ClassFile.FieldType.int) :: TB) { frames := 6, cells := 0, slots := 0, locals := 145 } (uvPc G σ [.ref (G.2.2.1 0), .int (iV a1), .int (iV a2)]) (uvQi G r σ') 0 0 (uvA G) := by
  unfold f_X9_choice at h
  refine r_met (own := RX9) (lv := [(0, .ref (G.2.2.1 0)), (1, .int (iV a1)), (2, .int (iV a2))]) (by decide) rfl (Nat.le_of_ble_eq_true rfl) rfl ?_
  intro p e s m below meth c ls X Y V hl
  have go : ∀ (args : Array Value) (H : Heap) (locs : List Loc), uvCx p m c cX9_choice 4 RX9 s args meth (Option.some Jvm.ClassFile.FieldType.int) → uvWo G σ s H locs → W p l e { frames := 6, cells := 0, slots := 0, locals := 145 } s m args below meth c H locs 0 0 (MQ below (uvQi G r σ') args s 0 0 (uvA G)) (F0 m 0 ls []) := by
    intro args H locs X V
    refine r_aln X dX9_choice_0 rfl (lv_at hl 0 rfl) ?_
    refine r_iln X dX9_choice_1 rfl (lv_at hl 1 rfl) ?_
    refine r_kz V (r_runV (As := [.int (iV a1)]) (rest := []) X Y V (c_X9_isPlace l G σ a1 _  rfl) mv_X9_isPlace wd_646 ci_9 kd_0 ⟨rfl, rfl, Nat.le_of_ble_eq_true rfl, Nat.le_of_ble_eq_true rfl⟩ rfl rfl hl.1 (Nat.le_of_ble_eq_true rfl) ⟨Nat.le_refl 0, Nat.le_refl 0⟩ dX9_choice_2) (fun H locs V z1 => ?_)
    refine r_eq (cx := (f_X9_isPlace σ a1)) (tgt := 13) X (wI_01 z1) dX9_choice_5 (by decide) (fun c2 => ?_) (fun c2 => ?_)
    · replace h := ite_t c2 h
      refine r_aln X dX9_choice_13 rfl (lv_at hl 0 rfl) ?_
      refine r_dup X dX9_choice_14 rfl ?_
      refine r_gi (kI := 9) X Y V ci_9 kd_0 9 rfl (by decide) rfl rfl wd_343 dX9_choice_15 ?_
      refine r_ic X dX9_choice_18 ?_
      refine r_iadd X dX9_choice_19 ?_
      obtain ⟨σ3, hσ3, h⟩ := wrF_ex h
      refine r_pi X Y V ci_9 kd_0 9 rfl (by decide) rfl rfl rfl (tyX9_ok 9 (by decide)) wd_343 hσ3 dX9_choice_20 (fun H locs V => ?_)
      refine r_bp X dX9_choice_23 (by decide) ?_
      exact r_ri X V (so2 h).1 (so2 h).2 dX9_choice_25
    · replace h := ite_f c2 h
      refine r_iln X dX9_choice_8 rfl (lv_at hl 2 rfl) ?_
      refine r_ic X dX9_choice_9 ?_
      refine r_cge (cx := wI a2) (cy := (-1)) (tgt := 26) X rfl rfl dX9_choice_10 (by decide) (fun c4 => ?_) (fun c4 => ?_)
      · replace h := ite_t c4 h
        refine r_aln X dX9_choice_13 rfl (lv_at hl 0 rfl) ?_
        refine r_dup X dX9_choice_14 rfl ?_
        refine r_gi (kI := 9) X Y V ci_9 kd_0 9 rfl (by decide) rfl rfl wd_343 dX9_choice_15 ?_
        refine r_ic X dX9_choice_18 ?_
        refine r_iadd X dX9_choice_19 ?_
        obtain ⟨σ5, hσ5, h⟩ := wrF_ex h
        refine r_pi X Y V ci_9 kd_0 9 rfl (by decide) rfl rfl rfl (tyX9_ok 9 (by decide)) wd_343 hσ5 dX9_choice_20 (fun H locs V => ?_)
        refine r_bp X dX9_choice_23 (by decide) ?_
        exact r_ri X V (so2 h).1 (so2 h).2 dX9_choice_25
      · replace h := ite_f c4 h
        refine r_aln X dX9_choice_26 rfl (lv_at hl 0 rfl) ?_
        refine r_gr X Y V ci_9 kd_0 1 rfl rfl (by decide) rfl rfl wd_335 dX9_choice_27 ?_
        refine r_gi (kI := 3) X Y V ci_4 kd_10 3 rfl (by decide) rfl rfl wd_107 dX9_choice_30 ?_
        refine r_ne (cx := wI (σ 10 3)) (tgt := 41) X rfl dX9_choice_33 (by decide) (fun c6 => ?_) (fun c6 => ?_)
        · replace h := ite_t c6 h
          refine r_aln X dX9_choice_36 rfl (lv_at hl 0 rfl) ?_
          obtain ⟨v7, σ8, hv7, h⟩ := bd2_ex h
          refine r_ki V (r_runV (As := []) (rest := []) X Y V (c_X9_no l G σ  _ _  hv7) mv_X9_no wd_650 ci_9 kd_0 ⟨rfl, rfl, Nat.le_of_ble_eq_true rfl, Nat.le_of_ble_eq_true rfl⟩ rfl rfl hl.1 (Nat.le_of_ble_eq_true rfl) ⟨Nat.le_refl 0, Nat.le_refl 0⟩ dX9_choice_37) (fun H locs V => ?_)
          exact r_ri X V (so2 h).1 (so2 h).2 dX9_choice_40
        · replace h := ite_f c6 h
          refine r_aln X dX9_choice_41 rfl (lv_at hl 0 rfl) ?_
          refine r_gr X Y V ci_9 kd_0 5 rfl rfl (by decide) rfl rfl wd_339 dX9_choice_42 ?_
          refine r_iln X dX9_choice_45 rfl (lv_at hl 1 rfl) ?_
          refine r_ic X dX9_choice_46 ?_
          obtain ⟨v9, σ10, hv9, h⟩ := bd2_ex h
          refine r_kr V (r_runV (As := [.int (iV a1), .int (iV (-1))]) (rest := []) X Y V (c_X2_choose l G σ a1 (-1) _ _  hv9) mv_X2_choose wd_654 ci_2 kd_35 ⟨rfl, rfl, Nat.le_of_ble_eq_true rfl, Nat.le_of_ble_eq_true rfl⟩ rfl rfl hl.1 (Nat.le_of_ble_eq_true rfl) ⟨Nat.le_refl 0, Nat.le_refl 0⟩ dX9_choice_47) (fun H locs V z11 => ?_)
          refine r_asn (lv' := [(3, .ref (G.2.2.1 v9)), (0, .ref (G.2.2.1 0)), (1, .int (iV a1)), (2, .int (iV a2))]) X dX9_choice_50 rfl hl (by decide) rfl (fun ls hl => ?_)
          refine r_aln X dX9_choice_51 rfl (lv_at hl 0 rfl) ?_
          refine r_kz V (r_runV (As := []) (rest := []) X Y V (c_X1_isMissing l G σ10 v9 _ z11 rfl) mv_X1_isMissing wd_697 ci_1 z11 ⟨rfl, rfl, Nat.le_of_ble_eq_true rfl, Nat.le_of_ble_eq_true rfl⟩ rfl rfl hl.1 (Nat.le_of_ble_eq_true rfl) ⟨Nat.le_refl 0, Nat.le_refl 0⟩ dX9_choice_52) (fun H locs V z12 => ?_)
          refine r_eq (cx := (f_X1_isMissing σ10 v9)) (tgt := 63) X (wI_01 z12) dX9_choice_55 (by decide) (fun c13 => ?_) (fun c13 => ?_)
          · replace h := ite_t c13 h
            refine r_iln X dX9_choice_63 rfl (lv_at hl 3 rfl) ?_
            refine r_ic X dX9_choice_64 ?_
            refine r_cne (cx := wI a2) (cy := (-1)) (tgt := 73) X rfl rfl dX9_choice_65 (by decide) (fun c14 => ?_) (fun c14 => ?_)
            · replace h := ite_t c14 h
              refine r_aln X dX9_choice_68 rfl (lv_at hl 0 rfl) ?_
              refine r_gi (kI := 1) X Y V ci_1 z11 1 rfl (by decide) rfl rfl wd_216 dX9_choice_69 ?_
              exact r_ri X V (so2 h).1 (so2 h).2 dX9_choice_72
            · replace h := ite_f c14 h
              refine r_iln X dX9_choice_73 rfl (lv_at hl 3 rfl) ?_
              refine r_aln X dX9_choice_74 rfl (lv_at hl 0 rfl) ?_
              refine r_gi (kI := 1) X Y V ci_1 z11 1 rfl (by decide) rfl rfl wd_216 dX9_choice_75 ?_
              refine r_cge (cx := wI a2) (cy := wI (σ10 v9 1)) (tgt := 90) X rfl rfl dX9_choice_78 (by decide) (fun c15 => ?_) (fun c15 => ?_)
              · replace h := ite_t c15 h
                refine r_aln X dX9_choice_81 rfl (lv_at hl 0 rfl) ?_
                refine r_gr X Y V ci_1 z11 0 rfl (rf1_0 z11) (by decide) rfl rfl wd_212 dX9_choice_82 ?_
                refine r_iln X dX9_choice_85 rfl (lv_at hl 3 rfl) ?_
                obtain ⟨v16, hv16, hiv16, h⟩ := rdA_ex h
                refine r_ial X Y V (ka1_0 z11) (ln1_0 z11) hiv16 hv16 dX9_choice_86 ?_
                refine r_goto (tgt := 92) X dX9_choice_87 (by decide) ?_
                exact r_ri X V (so2 h).1 (so2 h).2 dX9_choice_92
              · replace h := ite_f c15 h
                refine r_bp X dX9_choice_90 (by decide) ?_
                exact r_ri X V (so2 h).1 (so2 h).2 dX9_choice_92
          · replace h := ite_f c13 h
            refine r_aln X dX9_choice_58 rfl (lv_at hl 1 rfl) ?_
            obtain ⟨v17, σ18, hv17, h⟩ := bd2_ex h
            refine r_ki V (r_runV (As := []) (rest := []) X Y V (c_X9_no l G σ10  _ _  hv17) mv_X9_no wd_650 ci_9 kd_0 ⟨rfl, rfl, Nat.le_of_ble_eq_true rfl, Nat.le_of_ble_eq_true rfl⟩ rfl rfl hl.1 (Nat.le_of_ble_eq_true rfl) ⟨Nat.le_refl 0, Nat.le_refl 0⟩ dX9_choice_59) (fun H locs V => ?_)
            exact r_ri X V (so2 h).1 (so2 h).2 dX9_choice_62
  exact go _ _ _ X V

set_option maxRecDepth 100000 in
set_option maxHeartbeats 4000000 in
theorem c_X9_steps (l : Launch) (G : UG) (σ : St) (a1 : Int) (r : Int) (σ' : St)  (h : f_X9_steps σ a1 = some (r, σ')) : Met l yX9_steps (.code yX9_steps cX9_steps 2 (Option.some Jvm.ClassFile.FieldType.int) :: TB) { frames := 6, cells := 0, slots := 0, locals := 145 } (uvPc G σ [.ref (G.2.2.1 0), .int (iV a1)]) (uvQi G r σ') 0 0 (uvA G) := by
  unfold f_X9_steps at h
  refine r_met (own := RX9) (lv := [(0, .ref (G.2.2.1 0)), (1, .int (iV a1))]) (by decide) rfl (Nat.le_of_ble_eq_true rfl) rfl ?_
  intro p e s m below meth c ls X Y V hl
  have go : ∀ (args : Array Value) (H : Heap) (locs : List Loc), uvCx p m c cX9_steps 2 RX9 s args meth (Option.some Jvm.ClassFile.FieldType.int) → uvWo G σ s H locs → W p l e { frames := 6, cells := 0, slots := 0, locals := 145 } s m args below meth c H locs 0 0 (MQ below (uvQi G r σ') args s 0 0 (uvA G)) (F0 m 0 ls []) := by
    intro args H locs X V
    refine r_aln X dX9_steps_0 rfl (lv_at hl 0 rfl) ?_
    refine r_iln X dX9_steps_1 rfl (lv_at hl 1 rfl) ?_
    refine r_kz V (r_runV (As := [.int (iV a1)]) (rest := []) X Y V (c_X9_isTarget l G σ a1 _  rfl) mv_X9_isTarget wd_590 ci_9 kd_0 ⟨rfl, rfl, Nat.le_of_ble_eq_true rfl, Nat.le_of_ble_eq_true rfl⟩ rfl rfl hl.1 (Nat.le_of_ble_eq_true rfl) ⟨Nat.le_refl 0, Nat.le_refl 0⟩ dX9_steps_2) (fun H locs V z1 => ?_)
    refine r_eq (cx := (f_X9_isTarget σ a1)) (tgt := 23) X (wI_01 z1) dX9_steps_5 (by decide) (fun c2 => ?_) (fun c2 => ?_)
    · replace h := ite_t c2 h
      refine r_aln X dX9_steps_23 rfl (lv_at hl 0 rfl) ?_
      obtain ⟨v3, σ4, hv3, h⟩ := bd2_ex h
      refine r_ki V (r_runV (As := []) (rest := []) X Y V (c_X9_bad l G σ  _ _  hv3) mv_X9_bad wd_384 ci_9 kd_0 ⟨rfl, rfl, Nat.le_of_ble_eq_true rfl, Nat.le_of_ble_eq_true rfl⟩ rfl rfl hl.1 (Nat.le_of_ble_eq_true rfl) ⟨Nat.le_refl 0, Nat.le_refl 0⟩ dX9_steps_24) (fun H locs V => ?_)
      exact r_ri X V (so2 h).1 (so2 h).2 dX9_steps_27
    · replace h := ite_f c2 h
      refine r_aln X dX9_steps_8 rfl (lv_at hl 0 rfl) ?_
      refine r_gr X Y V ci_9 kd_0 5 rfl rfl (by decide) rfl rfl wd_339 dX9_steps_9 ?_
      refine r_iln X dX9_steps_12 rfl (lv_at hl 1 rfl) ?_
      refine r_ic X dX9_steps_13 ?_
      obtain ⟨v5, σ6, hv5, h⟩ := bd2_ex h
      refine r_kr V (r_runV (As := [.int (iV a1), .int (iV (-1))]) (rest := []) X Y V (c_X2_choose l G σ a1 (-1) _ _  hv5) mv_X2_choose wd_654 ci_2 kd_35 ⟨rfl, rfl, Nat.le_of_ble_eq_true rfl, Nat.le_of_ble_eq_true rfl⟩ rfl rfl hl.1 (Nat.le_of_ble_eq_true rfl) ⟨Nat.le_refl 0, Nat.le_refl 0⟩ dX9_steps_14) (fun H locs V z7 => ?_)
      refine r_gi (kI := 2) X Y V ci_1 z7 2 rfl (by decide) rfl rfl wd_219 dX9_steps_17 ?_
      refine r_goto (tgt := 27) X dX9_steps_20 (by decide) ?_
      exact r_ri X V (so2 h).1 (so2 h).2 dX9_steps_27
  exact go _ _ _ X V

set_option maxRecDepth 100000 in
set_option maxHeartbeats 4000000 in
theorem c_X9_tried (l : Launch) (G : UG) (σ : St) (a1 : Int) (r : Int) (σ' : St)  (h : f_X9_tried σ a1 = some (r, σ')) : Met l yX9_tried (.code yX9_tried cX9_tried 2 (Option.some Jvm.ClassFile.FieldType.int) :: TB) { frames := 6, cells := 0, slots := 0, locals := 145 } (uvPc G σ [.ref (G.2.2.1 0), .int (iV a1)]) (uvQi G r σ') 0 0 (uvA G) := by
  unfold f_X9_tried at h
  refine r_met (own := RX9) (lv := [(0, .ref (G.2.2.1 0)), (1, .int (iV a1))]) (by decide) rfl (Nat.le_of_ble_eq_true rfl) rfl ?_
  intro p e s m below meth c ls X Y V hl
  have go : ∀ (args : Array Value) (H : Heap) (locs : List Loc), uvCx p m c cX9_tried 2 RX9 s args meth (Option.some Jvm.ClassFile.FieldType.int) → uvWo G σ s H locs → W p l e { frames := 6, cells := 0, slots := 0, locals := 145 } s m args below meth c H locs 0 0 (MQ below (uvQi G r σ') args s 0 0 (uvA G)) (F0 m 0 ls []) := by
    intro args H locs X V
    refine r_aln X dX9_tried_0 rfl (lv_at hl 0 rfl) ?_
    refine r_iln X dX9_tried_1 rfl (lv_at hl 1 rfl) ?_
    refine r_kz V (r_runV (As := [.int (iV a1)]) (rest := []) X Y V (c_X9_isTarget l G σ a1 _  rfl) mv_X9_isTarget wd_590 ci_9 kd_0 ⟨rfl, rfl, Nat.le_of_ble_eq_true rfl, Nat.le_of_ble_eq_true rfl⟩ rfl rfl hl.1 (Nat.le_of_ble_eq_true rfl) ⟨Nat.le_refl 0, Nat.le_refl 0⟩ dX9_tried_2) (fun H locs V z1 => ?_)
    refine r_eq (cx := (f_X9_isTarget σ a1)) (tgt := 23) X (wI_01 z1) dX9_tried_5 (by decide) (fun c2 => ?_) (fun c2 => ?_)
    · replace h := ite_t c2 h
      refine r_aln X dX9_tried_23 rfl (lv_at hl 0 rfl) ?_
      obtain ⟨v3, σ4, hv3, h⟩ := bd2_ex h
      refine r_ki V (r_runV (As := []) (rest := []) X Y V (c_X9_bad l G σ  _ _  hv3) mv_X9_bad wd_384 ci_9 kd_0 ⟨rfl, rfl, Nat.le_of_ble_eq_true rfl, Nat.le_of_ble_eq_true rfl⟩ rfl rfl hl.1 (Nat.le_of_ble_eq_true rfl) ⟨Nat.le_refl 0, Nat.le_refl 0⟩ dX9_tried_24) (fun H locs V => ?_)
      exact r_ri X V (so2 h).1 (so2 h).2 dX9_tried_27
    · replace h := ite_f c2 h
      refine r_aln X dX9_tried_8 rfl (lv_at hl 0 rfl) ?_
      refine r_gr X Y V ci_9 kd_0 5 rfl rfl (by decide) rfl rfl wd_339 dX9_tried_9 ?_
      refine r_iln X dX9_tried_12 rfl (lv_at hl 1 rfl) ?_
      refine r_ic X dX9_tried_13 ?_
      obtain ⟨v5, σ6, hv5, h⟩ := bd2_ex h
      refine r_kr V (r_runV (As := [.int (iV a1), .int (iV (-1))]) (rest := []) X Y V (c_X2_choose l G σ a1 (-1) _ _  hv5) mv_X2_choose wd_654 ci_2 kd_35 ⟨rfl, rfl, Nat.le_of_ble_eq_true rfl, Nat.le_of_ble_eq_true rfl⟩ rfl rfl hl.1 (Nat.le_of_ble_eq_true rfl) ⟨Nat.le_refl 0, Nat.le_refl 0⟩ dX9_tried_14) (fun H locs V z7 => ?_)
      refine r_gi (kI := 3) X Y V ci_1 z7 3 rfl (by decide) rfl rfl wd_222 dX9_tried_17 ?_
      refine r_goto (tgt := 27) X dX9_tried_20 (by decide) ?_
      exact r_ri X V (so2 h).1 (so2 h).2 dX9_tried_27
  exact go _ _ _ X V

set_option maxRecDepth 100000 in
set_option maxHeartbeats 4000000 in
theorem c_X9_fit (l : Launch) (G : UG) (σ : St) (a1 : Int) (a2 : Int) (r : Int) (σ' : St)  (h : f_X9_fit σ a1 a2 = some (r, σ')) : Met l yX9_fit (.code yX9_fit cX9_fit 3 (Option.some Jvm.ClassFile.FieldType.int) :: TB) { frames := 3, cells := 0, slots := 0, locals := 70 } (uvPc G σ [.ref (G.2.2.1 0), .int (iV a1), .int (iV a2)]) (uvQi G r σ') 0 0 (uvA G) := by
  unfold f_X9_fit at h
  refine r_met (own := RX9) (lv := [(0, .ref (G.2.2.1 0)), (1, .int (iV a1)), (2, .int (iV a2))]) (by decide) rfl (Nat.le_of_ble_eq_true rfl) rfl ?_
  intro p e s m below meth c ls X Y V hl
  have go : ∀ (args : Array Value) (H : Heap) (locs : List Loc), uvCx p m c cX9_fit 3 RX9 s args meth (Option.some Jvm.ClassFile.FieldType.int) → uvWo G σ s H locs → W p l e { frames := 3, cells := 0, slots := 0, locals := 70 } s m args below meth c H locs 0 0 (MQ below (uvQi G r σ') args s 0 0 (uvA G)) (F0 m 0 ls []) := by
    intro args H locs X V
    refine r_aln X dX9_fit_0 rfl (lv_at hl 0 rfl) ?_
    refine r_iln X dX9_fit_1 rfl (lv_at hl 1 rfl) ?_
    refine r_kz V (r_runV (As := [.int (iV a1)]) (rest := []) X Y V (c_X9_isUnit l G σ a1 _  rfl) mv_X9_isUnit wd_419 ci_9 kd_0 ⟨rfl, rfl, Nat.le_of_ble_eq_true rfl, Nat.le_of_ble_eq_true rfl⟩ rfl rfl hl.1 (Nat.le_of_ble_eq_true rfl) ⟨Nat.le_refl 0, Nat.le_refl 0⟩ dX9_fit_2) (fun H locs V z1 => ?_)
    refine r_eq (cx := (f_X9_isUnit σ a1)) (tgt := 32) X (wI_01 z1) dX9_fit_5 (by decide) (fun c2 => ?_) (fun c2 => ?_)
    · replace h := ite_t c2 h
      refine r_aln X dX9_fit_32 rfl (lv_at hl 0 rfl) ?_
      obtain ⟨v3, σ4, hv3, h⟩ := bd2_ex h
      refine r_ki V (r_runV (As := []) (rest := []) X Y V (c_X9_bad l G σ  _ _  hv3) mv_X9_bad wd_384 ci_9 kd_0 ⟨rfl, rfl, Nat.le_of_ble_eq_true rfl, Nat.le_of_ble_eq_true rfl⟩ rfl rfl hl.1 (Nat.le_of_ble_eq_true rfl) ⟨Nat.le_refl 0, Nat.le_refl 0⟩ dX9_fit_33) (fun H locs V => ?_)
      exact r_ri X V (so2 h).1 (so2 h).2 dX9_fit_36
    · replace h := ite_f c2 h
      refine r_aln X dX9_fit_8 rfl (lv_at hl 0 rfl) ?_
      refine r_iln X dX9_fit_9 rfl (lv_at hl 2 rfl) ?_
      refine r_kz V (r_runV (As := [.int (iV a2)]) (rest := []) X Y V (c_X9_isTarget l G σ a2 _  rfl) mv_X9_isTarget wd_590 ci_9 kd_0 ⟨rfl, rfl, Nat.le_of_ble_eq_true rfl, Nat.le_of_ble_eq_true rfl⟩ rfl rfl hl.1 (Nat.le_of_ble_eq_true rfl) ⟨Nat.le_refl 0, Nat.le_refl 0⟩ dX9_fit_10) (fun H locs V z5 => ?_)
      refine r_eq (cx := (f_X9_isTarget σ a2)) (tgt := 32) X (wI_01 z5) dX9_fit_13 (by decide) (fun c6 => ?_) (fun c6 => ?_)
      · replace h := ite_t c6 h
        refine r_aln X dX9_fit_32 rfl (lv_at hl 0 rfl) ?_
        obtain ⟨v7, σ8, hv7, h⟩ := bd2_ex h
        refine r_ki V (r_runV (As := []) (rest := []) X Y V (c_X9_bad l G σ  _ _  hv7) mv_X9_bad wd_384 ci_9 kd_0 ⟨rfl, rfl, Nat.le_of_ble_eq_true rfl, Nat.le_of_ble_eq_true rfl⟩ rfl rfl hl.1 (Nat.le_of_ble_eq_true rfl) ⟨Nat.le_refl 0, Nat.le_refl 0⟩ dX9_fit_33) (fun H locs V => ?_)
        exact r_ri X V (so2 h).1 (so2 h).2 dX9_fit_36
      · replace h := ite_f c6 h
        refine r_aln X dX9_fit_16 rfl (lv_at hl 0 rfl) ?_
        refine r_gr X Y V ci_9 kd_0 6 rfl rfl (by decide) rfl rfl wd_340 dX9_fit_17 ?_
        refine r_aln X dX9_fit_20 rfl (lv_at hl 0 rfl) ?_
        refine r_gi (kI := 8) X Y V ci_9 kd_0 8 rfl (by decide) rfl rfl wd_342 dX9_fit_21 ?_
        refine r_iln X dX9_fit_24 rfl (lv_at hl 1 rfl) ?_
        refine r_iln X dX9_fit_25 rfl (lv_at hl 2 rfl) ?_
        obtain ⟨v9, hv9, h⟩ := bd1_ex h
        refine r_ki V (r_runV (As := [.int (iV (σ 0 8)), .int (iV a1), .int (iV a2)]) (rest := []) X Y V (c_X3_ofFit l G σ (σ 0 8) a1 a2 _  hv9) mv_X3_ofFit wd_713 ci_3 kd_54 ⟨rfl, rfl, Nat.le_of_ble_eq_true rfl, Nat.le_of_ble_eq_true rfl⟩ rfl rfl hl.1 (Nat.le_of_ble_eq_true rfl) ⟨Nat.le_refl 0, Nat.le_refl 0⟩ dX9_fit_26) (fun H locs V => ?_)
        refine r_goto (tgt := 36) X dX9_fit_29 (by decide) ?_
        exact r_ri X V (so2 h).1 (so2 h).2 dX9_fit_36
  exact go _ _ _ X V

set_option maxRecDepth 100000 in
set_option maxHeartbeats 4000000 in
theorem c_X9_joint (l : Launch) (G : UG) (σ : St) (a1 : Int) (a2 : Int) (r : Int) (σ' : St)  (h : f_X9_joint σ a1 a2 = some (r, σ')) : Met l yX9_joint (.code yX9_joint cX9_joint 3 (Option.some Jvm.ClassFile.FieldType.int) :: TB) { frames := 2, cells := 0, slots := 0, locals := 44 } (uvPc G σ [.ref (G.2.2.1 0), .int (iV a1), .int (iV a2)]) (uvQi G r σ') 0 0 (uvA G) := by
  unfold f_X9_joint at h
  refine r_met (own := RX9) (lv := [(0, .ref (G.2.2.1 0)), (1, .int (iV a1)), (2, .int (iV a2))]) (by decide) rfl (Nat.le_of_ble_eq_true rfl) rfl ?_
  intro p e s m below meth c ls X Y V hl
  have go : ∀ (args : Array Value) (H : Heap) (locs : List Loc), uvCx p m c cX9_joint 3 RX9 s args meth (Option.some Jvm.ClassFile.FieldType.int) → uvWo G σ s H locs → W p l e { frames := 2, cells := 0, slots := 0, locals := 44 } s m args below meth c H locs 0 0 (MQ below (uvQi G r σ') args s 0 0 (uvA G)) (F0 m 0 ls []) := by
    intro args H locs X V
    refine r_aln X dX9_joint_0 rfl (lv_at hl 0 rfl) ?_
    refine r_iln X dX9_joint_1 rfl (lv_at hl 1 rfl) ?_
    refine r_kz V (r_runV (As := [.int (iV a1)]) (rest := []) X Y V (c_X9_isUnit l G σ a1 _  rfl) mv_X9_isUnit wd_419 ci_9 kd_0 ⟨rfl, rfl, Nat.le_of_ble_eq_true rfl, Nat.le_of_ble_eq_true rfl⟩ rfl rfl hl.1 (Nat.le_of_ble_eq_true rfl) ⟨Nat.le_refl 0, Nat.le_refl 0⟩ dX9_joint_2) (fun H locs V z1 => ?_)
    refine r_eq (cx := (f_X9_isUnit σ a1)) (tgt := 28) X (wI_01 z1) dX9_joint_5 (by decide) (fun c2 => ?_) (fun c2 => ?_)
    · replace h := ite_t c2 h
      refine r_aln X dX9_joint_28 rfl (lv_at hl 0 rfl) ?_
      obtain ⟨v3, σ4, hv3, h⟩ := bd2_ex h
      refine r_ki V (r_runV (As := []) (rest := []) X Y V (c_X9_bad l G σ  _ _  hv3) mv_X9_bad wd_384 ci_9 kd_0 ⟨rfl, rfl, Nat.le_of_ble_eq_true rfl, Nat.le_of_ble_eq_true rfl⟩ rfl rfl hl.1 (Nat.le_of_ble_eq_true rfl) ⟨Nat.le_refl 0, Nat.le_refl 0⟩ dX9_joint_29) (fun H locs V => ?_)
      exact r_ri X V (so2 h).1 (so2 h).2 dX9_joint_32
    · replace h := ite_f c2 h
      refine r_aln X dX9_joint_8 rfl (lv_at hl 0 rfl) ?_
      refine r_iln X dX9_joint_9 rfl (lv_at hl 2 rfl) ?_
      refine r_kz V (r_runV (As := [.int (iV a2)]) (rest := []) X Y V (c_X9_isUnit l G σ a2 _  rfl) mv_X9_isUnit wd_419 ci_9 kd_0 ⟨rfl, rfl, Nat.le_of_ble_eq_true rfl, Nat.le_of_ble_eq_true rfl⟩ rfl rfl hl.1 (Nat.le_of_ble_eq_true rfl) ⟨Nat.le_refl 0, Nat.le_refl 0⟩ dX9_joint_10) (fun H locs V z5 => ?_)
      refine r_eq (cx := (f_X9_isUnit σ a2)) (tgt := 28) X (wI_01 z5) dX9_joint_13 (by decide) (fun c6 => ?_) (fun c6 => ?_)
      · replace h := ite_t c6 h
        refine r_aln X dX9_joint_28 rfl (lv_at hl 0 rfl) ?_
        obtain ⟨v7, σ8, hv7, h⟩ := bd2_ex h
        refine r_ki V (r_runV (As := []) (rest := []) X Y V (c_X9_bad l G σ  _ _  hv7) mv_X9_bad wd_384 ci_9 kd_0 ⟨rfl, rfl, Nat.le_of_ble_eq_true rfl, Nat.le_of_ble_eq_true rfl⟩ rfl rfl hl.1 (Nat.le_of_ble_eq_true rfl) ⟨Nat.le_refl 0, Nat.le_refl 0⟩ dX9_joint_29) (fun H locs V => ?_)
        exact r_ri X V (so2 h).1 (so2 h).2 dX9_joint_32
      · replace h := ite_f c6 h
        refine r_aln X dX9_joint_16 rfl (lv_at hl 0 rfl) ?_
        refine r_gr X Y V ci_9 kd_0 6 rfl rfl (by decide) rfl rfl wd_340 dX9_joint_17 ?_
        refine r_iln X dX9_joint_20 rfl (lv_at hl 1 rfl) ?_
        refine r_iln X dX9_joint_21 rfl (lv_at hl 2 rfl) ?_
        obtain ⟨v9, hv9, h⟩ := bd1_ex h
        refine r_ki V (r_runV (As := [.int (iV a1), .int (iV a2)]) (rest := []) X Y V (c_X3_ofJoint l G σ a1 a2 _  hv9) mv_X3_ofJoint wd_730 ci_3 kd_54 ⟨rfl, rfl, Nat.le_of_ble_eq_true rfl, Nat.le_of_ble_eq_true rfl⟩ rfl rfl hl.1 (Nat.le_of_ble_eq_true rfl) ⟨Nat.le_refl 0, Nat.le_refl 0⟩ dX9_joint_22) (fun H locs V => ?_)
        refine r_goto (tgt := 32) X dX9_joint_25 (by decide) ?_
        exact r_ri X V (so2 h).1 (so2 h).2 dX9_joint_32
  exact go _ _ _ X V

set_option maxRecDepth 100000 in
set_option maxHeartbeats 4000000 in
theorem c_X9_findChain (l : Launch) (G : UG) (σ : St) (a1 : Int) (r : Int) (σ' : St)  (h : f_X9_findChain σ a1 = some (r, σ')) : Met l yX9_findChain (.code yX9_findChain cX9_findChain 2 (Option.some Jvm.ClassFile.FieldType.boolean) :: TB) { frames := 6, cells := 0, slots := 0, locals := 145 } (uvPc G σ [.ref (G.2.2.1 0), .int (iV a1)]) (uvQz G r σ') 0 0 (uvA G) := by
  unfold f_X9_findChain at h
  refine r_met (own := RX9) (lv := [(0, .ref (G.2.2.1 0)), (1, .int (iV a1))]) (by decide) rfl (Nat.le_of_ble_eq_true rfl) rfl ?_
  intro p e s m below meth c ls X Y V hl
  have go : ∀ (args : Array Value) (H : Heap) (locs : List Loc), uvCx p m c cX9_findChain 2 RX9 s args meth (Option.some Jvm.ClassFile.FieldType.boolean) → uvWo G σ s H locs → W p l e { frames := 6, cells := 0, slots := 0, locals := 145 } s m args below meth c H locs 0 0 (MQ below (uvQz G r σ') args s 0 0 (uvA G)) (F0 m 0 ls []) := by
    intro args H locs X V
    refine r_aln X dX9_findChain_0 rfl (lv_at hl 0 rfl) ?_
    refine r_gr X Y V ci_9 kd_0 5 rfl rfl (by decide) rfl rfl wd_339 dX9_findChain_1 ?_
    refine r_iln X dX9_findChain_4 rfl (lv_at hl 1 rfl) ?_
    obtain ⟨v1, σ2, hv1, h⟩ := bd2_ex h
    refine r_kz V (r_runV (As := [.int (iV a1)]) (rest := []) X Y V (c_X2_chooseAll l G σ a1 _ _  hv1) mv_X2_chooseAll wd_742 ci_2 kd_35 ⟨rfl, rfl, Nat.le_of_ble_eq_true rfl, Nat.le_of_ble_eq_true rfl⟩ rfl rfl hl.1 (Nat.le_of_ble_eq_true rfl) ⟨Nat.le_refl 0, Nat.le_refl 0⟩ dX9_findChain_5) (fun H locs V z3 => ?_)
    refine r_ne (cx := v1) (tgt := 13) X (wI_01 z3) dX9_findChain_8 (by decide) (fun c4 => ?_) (fun c4 => ?_)
    · replace h := ite_t c4 h
      refine r_ic X dX9_findChain_11 ?_
      exact r_rz X V (Or.inl rfl) (so2 h).1 (so2 h).2 dX9_findChain_12
    · replace h := ite_f c4 h
      refine r_aln X dX9_findChain_13 rfl (lv_at hl 0 rfl) ?_
      refine r_gr X Y V ci_9 kd_0 7 rfl rfl (by decide) rfl rfl wd_341 dX9_findChain_14 ?_
      refine r_aln X dX9_findChain_17 rfl (lv_at hl 0 rfl) ?_
      refine r_gi (kI := 8) X Y V ci_9 kd_0 8 rfl (by decide) rfl rfl wd_342 dX9_findChain_18 ?_
      obtain ⟨v5, σ6, hv5, h⟩ := bd2_ex h
      refine r_kv V (r_runV (As := [.int (iV (σ2 0 8))]) (rest := []) X Y V (c_X0_weigh l G σ2 (σ2 0 8) _ _  hv5) mv_X0_weigh wd_747 ci_0 kd_55 ⟨rfl, rfl, Nat.le_of_ble_eq_true rfl, Nat.le_of_ble_eq_true rfl⟩ rfl rfl hl.1 (Nat.le_of_ble_eq_true rfl) ⟨Nat.le_refl 0, Nat.le_refl 0⟩ dX9_findChain_21) (fun H locs V => ?_)
      refine r_aln X dX9_findChain_24 rfl (lv_at hl 0 rfl) ?_
      refine r_gr X Y V ci_9 kd_0 7 rfl rfl (by decide) rfl rfl wd_341 dX9_findChain_25 ?_
      obtain ⟨v7, σ8, hv7, h⟩ := bd2_ex h
      refine r_kv V (r_runV (As := []) (rest := []) X Y V (c_X0_trace l G σ6  _ _  hv7) mv_X0_trace wd_766 ci_0 kd_55 ⟨rfl, rfl, Nat.le_of_ble_eq_true rfl, Nat.le_of_ble_eq_true rfl⟩ rfl rfl hl.1 (Nat.le_of_ble_eq_true rfl) ⟨Nat.le_refl 0, Nat.le_refl 0⟩ dX9_findChain_28) (fun H locs V => ?_)
      refine r_ic X dX9_findChain_31 ?_
      exact r_rz X V (Or.inr rfl) (so2 h).1 (so2 h).2 dX9_findChain_32
  exact go _ _ _ X V

set_option maxRecDepth 100000 in
set_option maxHeartbeats 4000000 in
theorem c_X9_cost (l : Launch) (G : UG) (σ : St)  (r : Int) (σ' : St)  (h : f_X9_cost σ = some (r, σ')) : Met l yX9_cost (.code yX9_cost cX9_cost 1 (Option.some Jvm.ClassFile.FieldType.int) :: TB) { frames := 7, cells := 0, slots := 0, locals := 166 } (uvPc G σ [.ref (G.2.2.1 0)]) (uvQi G r σ') 0 0 (uvA G) := by
  unfold f_X9_cost at h
  refine r_met (own := RX9) (lv := [(0, .ref (G.2.2.1 0))]) (by decide) rfl (Nat.le_of_ble_eq_true rfl) rfl ?_
  intro p e s m below meth c ls X Y V hl
  have go : ∀ (args : Array Value) (H : Heap) (locs : List Loc), uvCx p m c cX9_cost 1 RX9 s args meth (Option.some Jvm.ClassFile.FieldType.int) → uvWo G σ s H locs → W p l e { frames := 7, cells := 0, slots := 0, locals := 166 } s m args below meth c H locs 0 0 (MQ below (uvQi G r σ') args s 0 0 (uvA G)) (F0 m 0 ls []) := by
    intro args H locs X V
    refine r_aln X dX9_cost_0 rfl (lv_at hl 0 rfl) ?_
    refine r_ic X dX9_cost_1 ?_
    obtain ⟨v1, σ2, hv1, h⟩ := bd2_ex h
    refine r_kz V (r_runV (As := [.int (iV (-1))]) (rest := []) X Y V (c_X9_findChain l G σ (-1) _ _  hv1) mv_X9_findChain wd_738 ci_9 kd_0 ⟨rfl, rfl, Nat.le_of_ble_eq_true rfl, Nat.le_of_ble_eq_true rfl⟩ rfl rfl hl.1 (Nat.le_of_ble_eq_true rfl) ⟨Nat.le_refl 0, Nat.le_refl 0⟩ dX9_cost_2) (fun H locs V z3 => ?_)
    refine r_eq (cx := v1) (tgt := 18) X (wI_01 z3) dX9_cost_5 (by decide) (fun c4 => ?_) (fun c4 => ?_)
    · replace h := ite_t c4 h
      refine r_aln X dX9_cost_18 rfl (lv_at hl 0 rfl) ?_
      obtain ⟨v5, σ6, hv5, h⟩ := bd2_ex h
      refine r_ki V (r_runV (As := []) (rest := []) X Y V (c_X9_no l G σ2  _ _  hv5) mv_X9_no wd_650 ci_9 kd_0 ⟨rfl, rfl, Nat.le_of_ble_eq_true rfl, Nat.le_of_ble_eq_true rfl⟩ rfl rfl hl.1 (Nat.le_of_ble_eq_true rfl) ⟨Nat.le_refl 0, Nat.le_refl 0⟩ dX9_cost_19) (fun H locs V => ?_)
      exact r_ri X V (so2 h).1 (so2 h).2 dX9_cost_22
    · replace h := ite_f c4 h
      refine r_aln X dX9_cost_8 rfl (lv_at hl 0 rfl) ?_
      refine r_gr X Y V ci_9 kd_0 7 rfl rfl (by decide) rfl rfl wd_341 dX9_cost_9 ?_
      obtain ⟨v7, hv7, h⟩ := bd1_ex h
      refine r_ki V (r_runV (As := []) (rest := []) X Y V (c_X0_leastPrice l G σ2  _  hv7) mv_X0_leastPrice wd_770 ci_0 kd_55 ⟨rfl, rfl, Nat.le_of_ble_eq_true rfl, Nat.le_of_ble_eq_true rfl⟩ rfl rfl hl.1 (Nat.le_of_ble_eq_true rfl) ⟨Nat.le_refl 0, Nat.le_refl 0⟩ dX9_cost_12) (fun H locs V => ?_)
      refine r_goto (tgt := 22) X dX9_cost_15 (by decide) ?_
      exact r_ri X V (so2 h).1 (so2 h).2 dX9_cost_22
  exact go _ _ _ X V

set_option maxRecDepth 100000 in
set_option maxHeartbeats 4000000 in
theorem c_X9_chain (l : Launch) (G : UG) (σ : St) (a1 : Int) (r : Int) (σ' : St)  (h : f_X9_chain σ a1 = some (r, σ')) : Met l yX9_chain (.code yX9_chain cX9_chain 2 (Option.some Jvm.ClassFile.FieldType.int) :: TB) { frames := 7, cells := 0, slots := 0, locals := 166 } (uvPc G σ [.ref (G.2.2.1 0), .int (iV a1)]) (uvQi G r σ') 0 0 (uvA G) := by
  unfold f_X9_chain at h
  refine r_met (own := RX9) (lv := [(0, .ref (G.2.2.1 0)), (1, .int (iV a1))]) (by decide) rfl (Nat.le_of_ble_eq_true rfl) rfl ?_
  intro p e s m below meth c ls X Y V hl
  have go : ∀ (args : Array Value) (H : Heap) (locs : List Loc), uvCx p m c cX9_chain 2 RX9 s args meth (Option.some Jvm.ClassFile.FieldType.int) → uvWo G σ s H locs → W p l e { frames := 7, cells := 0, slots := 0, locals := 166 } s m args below meth c H locs 0 0 (MQ below (uvQi G r σ') args s 0 0 (uvA G)) (F0 m 0 ls []) := by
    intro args H locs X V
    refine r_aln X dX9_chain_0 rfl (lv_at hl 0 rfl) ?_
    refine r_iln X dX9_chain_1 rfl (lv_at hl 1 rfl) ?_
    refine r_kz V (r_runV (As := [.int (iV a1)]) (rest := []) X Y V (c_X9_isPlace l G σ a1 _  rfl) mv_X9_isPlace wd_646 ci_9 kd_0 ⟨rfl, rfl, Nat.le_of_ble_eq_true rfl, Nat.le_of_ble_eq_true rfl⟩ rfl rfl hl.1 (Nat.le_of_ble_eq_true rfl) ⟨Nat.le_refl 0, Nat.le_refl 0⟩ dX9_chain_2) (fun H locs V z1 => ?_)
    refine r_ne (cx := (f_X9_isPlace σ a1)) (tgt := 13) X (wI_01 z1) dX9_chain_5 (by decide) (fun c2 => ?_) (fun c2 => ?_)
    · replace h := ite_t c2 h
      refine r_aln X dX9_chain_8 rfl (lv_at hl 0 rfl) ?_
      obtain ⟨v3, σ4, hv3, h⟩ := bd2_ex h
      refine r_ki V (r_runV (As := []) (rest := []) X Y V (c_X9_bad l G σ  _ _  hv3) mv_X9_bad wd_384 ci_9 kd_0 ⟨rfl, rfl, Nat.le_of_ble_eq_true rfl, Nat.le_of_ble_eq_true rfl⟩ rfl rfl hl.1 (Nat.le_of_ble_eq_true rfl) ⟨Nat.le_refl 0, Nat.le_refl 0⟩ dX9_chain_9) (fun H locs V => ?_)
      exact r_ri X V (so2 h).1 (so2 h).2 dX9_chain_12
    · replace h := ite_f c2 h
      refine r_aln X dX9_chain_13 rfl (lv_at hl 0 rfl) ?_
      refine r_ic X dX9_chain_14 ?_
      obtain ⟨v5, σ6, hv5, h⟩ := bd2_ex h
      refine r_kz V (r_runV (As := [.int (iV (-1))]) (rest := []) X Y V (c_X9_findChain l G σ (-1) _ _  hv5) mv_X9_findChain wd_738 ci_9 kd_0 ⟨rfl, rfl, Nat.le_of_ble_eq_true rfl, Nat.le_of_ble_eq_true rfl⟩ rfl rfl hl.1 (Nat.le_of_ble_eq_true rfl) ⟨Nat.le_refl 0, Nat.le_refl 0⟩ dX9_chain_15) (fun H locs V z7 => ?_)
      refine r_eq (cx := v5) (tgt := 33) X (wI_01 z7) dX9_chain_18 (by decide) (fun c8 => ?_) (fun c8 => ?_)
      · replace h := ite_t c8 h
        refine r_aln X dX9_chain_33 rfl (lv_at hl 0 rfl) ?_
        obtain ⟨v9, σ10, hv9, h⟩ := bd2_ex h
        refine r_ki V (r_runV (As := []) (rest := []) X Y V (c_X9_no l G σ6  _ _  hv9) mv_X9_no wd_650 ci_9 kd_0 ⟨rfl, rfl, Nat.le_of_ble_eq_true rfl, Nat.le_of_ble_eq_true rfl⟩ rfl rfl hl.1 (Nat.le_of_ble_eq_true rfl) ⟨Nat.le_refl 0, Nat.le_refl 0⟩ dX9_chain_34) (fun H locs V => ?_)
        exact r_ri X V (so2 h).1 (so2 h).2 dX9_chain_37
      · replace h := ite_f c8 h
        refine r_aln X dX9_chain_21 rfl (lv_at hl 0 rfl) ?_
        refine r_gr X Y V ci_9 kd_0 7 rfl rfl (by decide) rfl rfl wd_341 dX9_chain_22 ?_
        refine r_gr X Y V ci_0 kd_55 6 rfl rfl (by decide) rfl rfl wd_318 dX9_chain_25 ?_
        refine r_iln X dX9_chain_28 rfl (lv_at hl 1 rfl) ?_
        obtain ⟨v11, hv11, hiv11, h⟩ := rdA_ex h
        refine r_ial X Y V kd_69 ln_69 hiv11 hv11 dX9_chain_29 ?_
        refine r_goto (tgt := 37) X dX9_chain_30 (by decide) ?_
        exact r_ri X V (so2 h).1 (so2 h).2 dX9_chain_37
  exact go _ _ _ X V

set_option maxRecDepth 100000 in
set_option maxHeartbeats 4000000 in
theorem c_X9_ways (l : Launch) (G : UG) (σ : St)  (r : Int) (σ' : St)  (h : f_X9_ways σ = some (r, σ')) : Met l yX9_ways (.code yX9_ways cX9_ways 1 (Option.some Jvm.ClassFile.FieldType.int) :: TB) { frames := 7, cells := 0, slots := 0, locals := 166 } (uvPc G σ [.ref (G.2.2.1 0)]) (uvQi G r σ') 0 0 (uvA G) := by
  unfold f_X9_ways at h
  refine r_met (own := RX9) (lv := [(0, .ref (G.2.2.1 0))]) (by decide) rfl (Nat.le_of_ble_eq_true rfl) rfl ?_
  intro p e s m below meth c ls X Y V hl
  have go : ∀ (args : Array Value) (H : Heap) (locs : List Loc), uvCx p m c cX9_ways 1 RX9 s args meth (Option.some Jvm.ClassFile.FieldType.int) → uvWo G σ s H locs → W p l e { frames := 7, cells := 0, slots := 0, locals := 166 } s m args below meth c H locs 0 0 (MQ below (uvQi G r σ') args s 0 0 (uvA G)) (F0 m 0 ls []) := by
    intro args H locs X V
    refine r_aln X dX9_ways_0 rfl (lv_at hl 0 rfl) ?_
    refine r_ic X dX9_ways_1 ?_
    obtain ⟨v1, σ2, hv1, h⟩ := bd2_ex h
    refine r_kz V (r_runV (As := [.int (iV (-1))]) (rest := []) X Y V (c_X9_findChain l G σ (-1) _ _  hv1) mv_X9_findChain wd_738 ci_9 kd_0 ⟨rfl, rfl, Nat.le_of_ble_eq_true rfl, Nat.le_of_ble_eq_true rfl⟩ rfl rfl hl.1 (Nat.le_of_ble_eq_true rfl) ⟨Nat.le_refl 0, Nat.le_refl 0⟩ dX9_ways_2) (fun H locs V z3 => ?_)
    refine r_eq (cx := v1) (tgt := 18) X (wI_01 z3) dX9_ways_5 (by decide) (fun c4 => ?_) (fun c4 => ?_)
    · replace h := ite_t c4 h
      refine r_aln X dX9_ways_18 rfl (lv_at hl 0 rfl) ?_
      obtain ⟨v5, σ6, hv5, h⟩ := bd2_ex h
      refine r_ki V (r_runV (As := []) (rest := []) X Y V (c_X9_no l G σ2  _ _  hv5) mv_X9_no wd_650 ci_9 kd_0 ⟨rfl, rfl, Nat.le_of_ble_eq_true rfl, Nat.le_of_ble_eq_true rfl⟩ rfl rfl hl.1 (Nat.le_of_ble_eq_true rfl) ⟨Nat.le_refl 0, Nat.le_refl 0⟩ dX9_ways_19) (fun H locs V => ?_)
      exact r_ri X V (so2 h).1 (so2 h).2 dX9_ways_22
    · replace h := ite_f c4 h
      refine r_aln X dX9_ways_8 rfl (lv_at hl 0 rfl) ?_
      refine r_gr X Y V ci_9 kd_0 7 rfl rfl (by decide) rfl rfl wd_341 dX9_ways_9 ?_
      obtain ⟨v7, hv7, h⟩ := bd1_ex h
      refine r_ki V (r_runV (As := []) (rest := []) X Y V (c_X0_waysOfLeast l G σ2  _  hv7) mv_X0_waysOfLeast wd_782 ci_0 kd_55 ⟨rfl, rfl, Nat.le_of_ble_eq_true rfl, Nat.le_of_ble_eq_true rfl⟩ rfl rfl hl.1 (Nat.le_of_ble_eq_true rfl) ⟨Nat.le_refl 0, Nat.le_refl 0⟩ dX9_ways_12) (fun H locs V => ?_)
      refine r_goto (tgt := 22) X dX9_ways_15 (by decide) ?_
      exact r_ri X V (so2 h).1 (so2 h).2 dX9_ways_22
  exact go _ _ _ X V

set_option maxRecDepth 100000 in
set_option maxHeartbeats 4000000 in
theorem c_X9_next (l : Launch) (G : UG) (σ : St)  (r : Int) (σ' : St)  (h : f_X9_next σ = some (r, σ')) : Met l yX9_next (.code yX9_next cX9_next 1 (Option.some Jvm.ClassFile.FieldType.int) :: TB) { frames := 7, cells := 0, slots := 0, locals := 166 } (uvPc G σ [.ref (G.2.2.1 0)]) (uvQi G r σ') 0 0 (uvA G) := by
  unfold f_X9_next at h
  refine r_met (own := RX9) (lv := [(0, .ref (G.2.2.1 0))]) (by decide) rfl (Nat.le_of_ble_eq_true rfl) rfl ?_
  intro p e s m below meth c ls X Y V hl
  have go : ∀ (args : Array Value) (H : Heap) (locs : List Loc), uvCx p m c cX9_next 1 RX9 s args meth (Option.some Jvm.ClassFile.FieldType.int) → uvWo G σ s H locs → W p l e { frames := 7, cells := 0, slots := 0, locals := 166 } s m args below meth c H locs 0 0 (MQ below (uvQi G r σ') args s 0 0 (uvA G)) (F0 m 0 ls []) := by
    intro args H locs X V
    refine r_aln X dX9_next_0 rfl (lv_at hl 0 rfl) ?_
    refine r_ic X dX9_next_1 ?_
    obtain ⟨v1, σ2, hv1, h⟩ := bd2_ex h
    refine r_kz V (r_runV (As := [.int (iV (-1))]) (rest := []) X Y V (c_X9_findChain l G σ (-1) _ _  hv1) mv_X9_findChain wd_738 ci_9 kd_0 ⟨rfl, rfl, Nat.le_of_ble_eq_true rfl, Nat.le_of_ble_eq_true rfl⟩ rfl rfl hl.1 (Nat.le_of_ble_eq_true rfl) ⟨Nat.le_refl 0, Nat.le_refl 0⟩ dX9_next_2) (fun H locs V z3 => ?_)
    refine r_eq (cx := v1) (tgt := 18) X (wI_01 z3) dX9_next_5 (by decide) (fun c4 => ?_) (fun c4 => ?_)
    · replace h := ite_t c4 h
      refine r_aln X dX9_next_18 rfl (lv_at hl 0 rfl) ?_
      obtain ⟨v5, σ6, hv5, h⟩ := bd2_ex h
      refine r_ki V (r_runV (As := []) (rest := []) X Y V (c_X9_no l G σ2  _ _  hv5) mv_X9_no wd_650 ci_9 kd_0 ⟨rfl, rfl, Nat.le_of_ble_eq_true rfl, Nat.le_of_ble_eq_true rfl⟩ rfl rfl hl.1 (Nat.le_of_ble_eq_true rfl) ⟨Nat.le_refl 0, Nat.le_refl 0⟩ dX9_next_19) (fun H locs V => ?_)
      exact r_ri X V (so2 h).1 (so2 h).2 dX9_next_22
    · replace h := ite_f c4 h
      refine r_aln X dX9_next_8 rfl (lv_at hl 0 rfl) ?_
      refine r_gr X Y V ci_9 kd_0 7 rfl rfl (by decide) rfl rfl wd_341 dX9_next_9 ?_
      obtain ⟨v7, hv7, h⟩ := bd1_ex h
      refine r_ki V (r_runV (As := []) (rest := []) X Y V (c_X0_secondPrice l G σ2  _  hv7) mv_X0_secondPrice wd_790 ci_0 kd_55 ⟨rfl, rfl, Nat.le_of_ble_eq_true rfl, Nat.le_of_ble_eq_true rfl⟩ rfl rfl hl.1 (Nat.le_of_ble_eq_true rfl) ⟨Nat.le_refl 0, Nat.le_refl 0⟩ dX9_next_12) (fun H locs V => ?_)
      refine r_goto (tgt := 22) X dX9_next_15 (by decide) ?_
      exact r_ri X V (so2 h).1 (so2 h).2 dX9_next_22
  exact go _ _ _ X V

set_option maxRecDepth 100000 in
set_option maxHeartbeats 4000000 in
theorem c_X9_dearest (l : Launch) (G : UG) (σ : St)  (r : Int) (σ' : St)  (h : f_X9_dearest σ = some (r, σ')) : Met l yX9_dearest (.code yX9_dearest cX9_dearest 1 (Option.some Jvm.ClassFile.FieldType.int) :: TB) { frames := 7, cells := 0, slots := 0, locals := 166 } (uvPc G σ [.ref (G.2.2.1 0)]) (uvQi G r σ') 0 0 (uvA G) := by
  unfold f_X9_dearest at h
  refine r_met (own := RX9) (lv := [(0, .ref (G.2.2.1 0))]) (by decide) rfl (Nat.le_of_ble_eq_true rfl) rfl ?_
  intro p e s m below meth c ls X Y V hl
  have go : ∀ (args : Array Value) (H : Heap) (locs : List Loc), uvCx p m c cX9_dearest 1 RX9 s args meth (Option.some Jvm.ClassFile.FieldType.int) → uvWo G σ s H locs → W p l e { frames := 7, cells := 0, slots := 0, locals := 166 } s m args below meth c H locs 0 0 (MQ below (uvQi G r σ') args s 0 0 (uvA G)) (F0 m 0 ls []) := by
    intro args H locs X V
    refine r_aln X dX9_dearest_0 rfl (lv_at hl 0 rfl) ?_
    refine r_ic X dX9_dearest_1 ?_
    obtain ⟨v1, σ2, hv1, h⟩ := bd2_ex h
    refine r_kz V (r_runV (As := [.int (iV (-1))]) (rest := []) X Y V (c_X9_findChain l G σ (-1) _ _  hv1) mv_X9_findChain wd_738 ci_9 kd_0 ⟨rfl, rfl, Nat.le_of_ble_eq_true rfl, Nat.le_of_ble_eq_true rfl⟩ rfl rfl hl.1 (Nat.le_of_ble_eq_true rfl) ⟨Nat.le_refl 0, Nat.le_refl 0⟩ dX9_dearest_2) (fun H locs V z3 => ?_)
    refine r_eq (cx := v1) (tgt := 18) X (wI_01 z3) dX9_dearest_5 (by decide) (fun c4 => ?_) (fun c4 => ?_)
    · replace h := ite_t c4 h
      refine r_aln X dX9_dearest_18 rfl (lv_at hl 0 rfl) ?_
      obtain ⟨v5, σ6, hv5, h⟩ := bd2_ex h
      refine r_ki V (r_runV (As := []) (rest := []) X Y V (c_X9_no l G σ2  _ _  hv5) mv_X9_no wd_650 ci_9 kd_0 ⟨rfl, rfl, Nat.le_of_ble_eq_true rfl, Nat.le_of_ble_eq_true rfl⟩ rfl rfl hl.1 (Nat.le_of_ble_eq_true rfl) ⟨Nat.le_refl 0, Nat.le_refl 0⟩ dX9_dearest_19) (fun H locs V => ?_)
      exact r_ri X V (so2 h).1 (so2 h).2 dX9_dearest_22
    · replace h := ite_f c4 h
      refine r_aln X dX9_dearest_8 rfl (lv_at hl 0 rfl) ?_
      refine r_gr X Y V ci_9 kd_0 7 rfl rfl (by decide) rfl rfl wd_341 dX9_dearest_9 ?_
      obtain ⟨v7, hv7, h⟩ := bd1_ex h
      refine r_ki V (r_runV (As := []) (rest := []) X Y V (c_X0_mostPrice l G σ2  _  hv7) mv_X0_mostPrice wd_799 ci_0 kd_55 ⟨rfl, rfl, Nat.le_of_ble_eq_true rfl, Nat.le_of_ble_eq_true rfl⟩ rfl rfl hl.1 (Nat.le_of_ble_eq_true rfl) ⟨Nat.le_refl 0, Nat.le_refl 0⟩ dX9_dearest_12) (fun H locs V => ?_)
      refine r_goto (tgt := 22) X dX9_dearest_15 (by decide) ?_
      exact r_ri X V (so2 h).1 (so2 h).2 dX9_dearest_22
  exact go _ _ _ X V

set_option maxRecDepth 100000 in
set_option maxHeartbeats 4000000 in
theorem c_X9_without (l : Launch) (G : UG) (σ : St) (a1 : Int) (r : Int) (σ' : St)  (h : f_X9_without σ a1 = some (r, σ')) : Met l yX9_without (.code yX9_without cX9_without 2 (Option.some Jvm.ClassFile.FieldType.int) :: TB) { frames := 7, cells := 0, slots := 0, locals := 166 } (uvPc G σ [.ref (G.2.2.1 0), .int (iV a1)]) (uvQi G r σ') 0 0 (uvA G) := by
  unfold f_X9_without at h
  refine r_met (own := RX9) (lv := [(0, .ref (G.2.2.1 0)), (1, .int (iV a1))]) (by decide) rfl (Nat.le_of_ble_eq_true rfl) rfl ?_
  intro p e s m below meth c ls X Y V hl
  have go : ∀ (args : Array Value) (H : Heap) (locs : List Loc), uvCx p m c cX9_without 2 RX9 s args meth (Option.some Jvm.ClassFile.FieldType.int) → uvWo G σ s H locs → W p l e { frames := 7, cells := 0, slots := 0, locals := 166 } s m args below meth c H locs 0 0 (MQ below (uvQi G r σ') args s 0 0 (uvA G)) (F0 m 0 ls []) := by
    intro args H locs X V
    refine r_aln X dX9_without_0 rfl (lv_at hl 0 rfl) ?_
    refine r_iln X dX9_without_1 rfl (lv_at hl 1 rfl) ?_
    refine r_kz V (r_runV (As := [.int (iV a1)]) (rest := []) X Y V (c_X9_isUnit l G σ a1 _  rfl) mv_X9_isUnit wd_419 ci_9 kd_0 ⟨rfl, rfl, Nat.le_of_ble_eq_true rfl, Nat.le_of_ble_eq_true rfl⟩ rfl rfl hl.1 (Nat.le_of_ble_eq_true rfl) ⟨Nat.le_refl 0, Nat.le_refl 0⟩ dX9_without_2) (fun H locs V z1 => ?_)
    refine r_ne (cx := (f_X9_isUnit σ a1)) (tgt := 13) X (wI_01 z1) dX9_without_5 (by decide) (fun c2 => ?_) (fun c2 => ?_)
    · replace h := ite_t c2 h
      refine r_aln X dX9_without_8 rfl (lv_at hl 0 rfl) ?_
      obtain ⟨v3, σ4, hv3, h⟩ := bd2_ex h
      refine r_ki V (r_runV (As := []) (rest := []) X Y V (c_X9_bad l G σ  _ _  hv3) mv_X9_bad wd_384 ci_9 kd_0 ⟨rfl, rfl, Nat.le_of_ble_eq_true rfl, Nat.le_of_ble_eq_true rfl⟩ rfl rfl hl.1 (Nat.le_of_ble_eq_true rfl) ⟨Nat.le_refl 0, Nat.le_refl 0⟩ dX9_without_9) (fun H locs V => ?_)
      exact r_ri X V (so2 h).1 (so2 h).2 dX9_without_12
    · replace h := ite_f c2 h
      refine r_aln X dX9_without_13 rfl (lv_at hl 0 rfl) ?_
      refine r_iln X dX9_without_14 rfl (lv_at hl 1 rfl) ?_
      obtain ⟨v5, σ6, hv5, h⟩ := bd2_ex h
      refine r_kz V (r_runV (As := [.int (iV a1)]) (rest := []) X Y V (c_X9_findChain l G σ a1 _ _  hv5) mv_X9_findChain wd_738 ci_9 kd_0 ⟨rfl, rfl, Nat.le_of_ble_eq_true rfl, Nat.le_of_ble_eq_true rfl⟩ rfl rfl hl.1 (Nat.le_of_ble_eq_true rfl) ⟨Nat.le_refl 0, Nat.le_refl 0⟩ dX9_without_15) (fun H locs V z7 => ?_)
      refine r_eq (cx := v5) (tgt := 31) X (wI_01 z7) dX9_without_18 (by decide) (fun c8 => ?_) (fun c8 => ?_)
      · replace h := ite_t c8 h
        refine r_aln X dX9_without_31 rfl (lv_at hl 0 rfl) ?_
        obtain ⟨v9, σ10, hv9, h⟩ := bd2_ex h
        refine r_ki V (r_runV (As := []) (rest := []) X Y V (c_X9_no l G σ6  _ _  hv9) mv_X9_no wd_650 ci_9 kd_0 ⟨rfl, rfl, Nat.le_of_ble_eq_true rfl, Nat.le_of_ble_eq_true rfl⟩ rfl rfl hl.1 (Nat.le_of_ble_eq_true rfl) ⟨Nat.le_refl 0, Nat.le_refl 0⟩ dX9_without_32) (fun H locs V => ?_)
        exact r_ri X V (so2 h).1 (so2 h).2 dX9_without_35
      · replace h := ite_f c8 h
        refine r_aln X dX9_without_21 rfl (lv_at hl 0 rfl) ?_
        refine r_gr X Y V ci_9 kd_0 7 rfl rfl (by decide) rfl rfl wd_341 dX9_without_22 ?_
        obtain ⟨v11, hv11, h⟩ := bd1_ex h
        refine r_ki V (r_runV (As := []) (rest := []) X Y V (c_X0_leastPrice l G σ6  _  hv11) mv_X0_leastPrice wd_770 ci_0 kd_55 ⟨rfl, rfl, Nat.le_of_ble_eq_true rfl, Nat.le_of_ble_eq_true rfl⟩ rfl rfl hl.1 (Nat.le_of_ble_eq_true rfl) ⟨Nat.le_refl 0, Nat.le_refl 0⟩ dX9_without_25) (fun H locs V => ?_)
        refine r_goto (tgt := 35) X dX9_without_28 (by decide) ?_
        exact r_ri X V (so2 h).1 (so2 h).2 dX9_without_35
  exact go _ _ _ X V

