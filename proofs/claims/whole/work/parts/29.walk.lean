set_option maxRecDepth 100000 in
set_option maxHeartbeats 4000000 in
theorem c_X10_joint (l : Launch) (G : UG) (σ : St) (a1 : Int) (a2 : Int) (r : Int) (σ' : St)  (h : f_X10_joint σ a1 a2 = some (r, σ')) : Met l yX10_joint (.code yX10_joint cX10_joint 3 (Option.some Jvm.ClassFile.FieldType.int) :: TB) { frames := 3, cells := 0, slots := 0, locals := 66 } (uvPc G σ [.ref (G.2.2.1 118), .int (iV a1), .int (iV a2)]) (uvQi G r σ') 0 0 (uvA G) := by
  unfold f_X10_joint at h
  refine r_met (own := RX10) (lv := [(0, .ref (G.2.2.1 118)), (1, .int (iV a1)), (2, .int (iV a2))]) (by decide) rfl (Nat.le_of_ble_eq_true rfl) rfl ?_
  intro p e s m below meth c ls X Y V hl
  have go : ∀ (args : Array Value) (H : Heap) (locs : List Loc), uvCx p m c cX10_joint 3 RX10 s args meth (Option.some Jvm.ClassFile.FieldType.int) → uvWo G σ s H locs → W p l e { frames := 3, cells := 0, slots := 0, locals := 66 } s m args below meth c H locs 0 0 (MQ below (uvQi G r σ') args s 0 0 (uvA G)) (F0 m 0 ls []) := by
    intro args H locs X V
    refine r_aln X dX10_joint_0 rfl (lv_at hl 0 rfl) ?_
    refine r_iln X dX10_joint_1 rfl (lv_at hl 1 rfl) ?_
    refine r_kz V (r_runV (As := [.int (iV a1)]) (rest := []) X Y V (c_X10_isUnit l G σ a1 _  rfl) mv_X10_isUnit wd_1020 ci_10 kd_118 ⟨rfl, rfl, Nat.le_of_ble_eq_true rfl, Nat.le_of_ble_eq_true rfl⟩ rfl rfl hl.1 (Nat.le_of_ble_eq_true rfl) ⟨Nat.le_refl 0, Nat.le_refl 0⟩ dX10_joint_2) (fun H locs V z1 => ?_)
    refine r_eq (cx := (f_X10_isUnit σ a1)) (tgt := 25) X (wI_01 z1) dX10_joint_5 (by decide) (fun c2 => ?_) (fun c2 => ?_)
    · replace h := ite_t c2 h
      refine r_aln X dX10_joint_25 rfl (lv_at hl 0 rfl) ?_
      refine r_bp X dX10_joint_26 (by decide) ?_
      obtain ⟨v3, σ4, hv3, h⟩ := bd2_ex h
      refine r_ki V (r_runV (As := [.int (iV (-2))]) (rest := []) X Y V (c_X10_bad l G σ (-2) _ _  hv3) mv_X10_bad wd_988 ci_10 kd_118 ⟨rfl, rfl, Nat.le_of_ble_eq_true rfl, Nat.le_of_ble_eq_true rfl⟩ rfl rfl hl.1 (Nat.le_of_ble_eq_true rfl) ⟨Nat.le_refl 0, Nat.le_refl 0⟩ dX10_joint_28) (fun H locs V => ?_)
      exact r_ri X V (so2 h).1 (so2 h).2 dX10_joint_31
    · replace h := ite_f c2 h
      refine r_aln X dX10_joint_8 rfl (lv_at hl 0 rfl) ?_
      refine r_iln X dX10_joint_9 rfl (lv_at hl 2 rfl) ?_
      refine r_kz V (r_runV (As := [.int (iV a2)]) (rest := []) X Y V (c_X10_isUnit l G σ a2 _  rfl) mv_X10_isUnit wd_1020 ci_10 kd_118 ⟨rfl, rfl, Nat.le_of_ble_eq_true rfl, Nat.le_of_ble_eq_true rfl⟩ rfl rfl hl.1 (Nat.le_of_ble_eq_true rfl) ⟨Nat.le_refl 0, Nat.le_refl 0⟩ dX10_joint_10) (fun H locs V z5 => ?_)
      refine r_eq (cx := (f_X10_isUnit σ a2)) (tgt := 25) X (wI_01 z5) dX10_joint_13 (by decide) (fun c6 => ?_) (fun c6 => ?_)
      · replace h := ite_t c6 h
        refine r_aln X dX10_joint_25 rfl (lv_at hl 0 rfl) ?_
        refine r_bp X dX10_joint_26 (by decide) ?_
        obtain ⟨v7, σ8, hv7, h⟩ := bd2_ex h
        refine r_ki V (r_runV (As := [.int (iV (-2))]) (rest := []) X Y V (c_X10_bad l G σ (-2) _ _  hv7) mv_X10_bad wd_988 ci_10 kd_118 ⟨rfl, rfl, Nat.le_of_ble_eq_true rfl, Nat.le_of_ble_eq_true rfl⟩ rfl rfl hl.1 (Nat.le_of_ble_eq_true rfl) ⟨Nat.le_refl 0, Nat.le_refl 0⟩ dX10_joint_28) (fun H locs V => ?_)
        exact r_ri X V (so2 h).1 (so2 h).2 dX10_joint_31
      · replace h := ite_f c6 h
        refine r_aln X dX10_joint_16 rfl (lv_at hl 0 rfl) ?_
        refine r_iln X dX10_joint_17 rfl (lv_at hl 1 rfl) ?_
        refine r_iln X dX10_joint_18 rfl (lv_at hl 2 rfl) ?_
        obtain ⟨v9, hv9, h⟩ := bd1_ex h
        refine r_ki V (r_runV (As := [.int (iV a1), .int (iV a2)]) (rest := []) X Y V (c_X10_jointOf l G σ a1 a2 _  hv9) mv_X10_jointOf wd_1173 ci_10 kd_118 ⟨rfl, rfl, Nat.le_of_ble_eq_true rfl, Nat.le_of_ble_eq_true rfl⟩ rfl rfl hl.1 (Nat.le_of_ble_eq_true rfl) ⟨Nat.le_refl 0, Nat.le_refl 0⟩ dX10_joint_19) (fun H locs V => ?_)
        refine r_goto (tgt := 31) X dX10_joint_22 (by decide) ?_
        exact r_ri X V (so2 h).1 (so2 h).2 dX10_joint_31
  exact go _ _ _ X V

set_option maxRecDepth 100000 in
set_option maxHeartbeats 4000000 in
theorem c_X10_begins (l : Launch) (G : UG) (σ : St)  (r : Int) (σ' : St)  (h : f_X10_begins σ = some (r, σ')) : Met l yX10_begins (.code yX10_begins cX10_begins 1 (Option.none : Option Jvm.ClassFile.FieldType) :: TB) { frames := 0, cells := 0, slots := 0, locals := 0 } (uvPc G σ [.ref (G.2.2.1 118)]) (uvQv G σ') 0 0 (uvA G) := by
  unfold f_X10_begins at h
  refine r_met (own := RX10) (lv := [(0, .ref (G.2.2.1 118))]) (by decide) rfl (Nat.le_of_ble_eq_true rfl) rfl ?_
  intro p e s m below meth c ls X Y V hl
  have go : ∀ (args : Array Value) (H : Heap) (locs : List Loc), uvCx p m c cX10_begins 1 RX10 s args meth (Option.none : Option Jvm.ClassFile.FieldType) → uvWo G σ s H locs → W p l e { frames := 0, cells := 0, slots := 0, locals := 0 } s m args below meth c H locs 0 0 (MQ below (uvQv G σ') args s 0 0 (uvA G)) (F0 m 0 ls []) := by
    intro args H locs X V
    refine r_aln X dX10_begins_0 rfl (lv_at hl 0 rfl) ?_
    refine r_ic X dX10_begins_1 ?_
    obtain ⟨σ1, hσ1, h⟩ := wrF_ex h
    refine r_pi X Y V ci_10 kd_118 34 rfl (by decide) rfl rfl rfl (tyX10_ok 34 (by decide)) wd_887 hσ1 dX10_begins_2 (fun H locs V => ?_)
    refine r_aln X dX10_begins_5 rfl (lv_at hl 0 rfl) ?_
    refine r_ic X dX10_begins_6 ?_
    obtain ⟨σ2, hσ2, h⟩ := wrF_ex h
    refine r_pi X Y V ci_10 kd_118 35 rfl (by decide) rfl rfl rfl (tyX10_ok 35 (by decide)) wd_888 hσ2 dX10_begins_7 (fun H locs V => ?_)
    refine r_aln X dX10_begins_10 rfl (lv_at hl 0 rfl) ?_
    refine r_ic X dX10_begins_11 ?_
    obtain ⟨σ3, hσ3, h⟩ := wrF_ex h
    refine r_pi X Y V ci_10 kd_118 36 rfl (by decide) rfl rfl rfl (tyX10_ok 36 (by decide)) wd_889 hσ3 dX10_begins_12 (fun H locs V => ?_)
    refine r_aln X dX10_begins_15 rfl (lv_at hl 0 rfl) ?_
    refine r_ic X dX10_begins_16 ?_
    obtain ⟨σ4, hσ4, h⟩ := wrF_ex h
    refine r_pi X Y V ci_10 kd_118 37 rfl (by decide) rfl rfl rfl (tyX10_ok 37 (by decide)) wd_890 hσ4 dX10_begins_17 (fun H locs V => ?_)
    exact r_rv X V (so2 h).2 dX10_begins_20
  exact go _ _ _ X V

set_option maxRecDepth 100000 in
set_option maxHeartbeats 4000000 in
theorem c_X10_offers (l : Launch) (G : UG) (σ : St) (a1 : Int) (r : Int) (σ' : St)  (h : f_X10_offers σ a1 = some (r, σ')) : Met l yX10_offers (.code yX10_offers cX10_offers 2 (Option.none : Option Jvm.ClassFile.FieldType) :: TB) { frames := 0, cells := 0, slots := 0, locals := 0 } (uvPc G σ [.ref (G.2.2.1 118), .int (iV a1)]) (uvQv G σ') 0 0 (uvA G) := by
  unfold f_X10_offers at h
  refine r_met (own := RX10) (lv := [(0, .ref (G.2.2.1 118)), (1, .int (iV a1))]) (by decide) rfl (Nat.le_of_ble_eq_true rfl) rfl ?_
  intro p e s m below meth c ls X Y V hl
  have go : ∀ (args : Array Value) (H : Heap) (locs : List Loc), uvCx p m c cX10_offers 2 RX10 s args meth (Option.none : Option Jvm.ClassFile.FieldType) → uvWo G σ s H locs → W p l e { frames := 0, cells := 0, slots := 0, locals := 0 } s m args below meth c H locs 0 0 (MQ below (uvQv G σ') args s 0 0 (uvA G)) (F0 m 0 ls []) := by
    intro args H locs X V
    refine r_aln X dX10_offers_0 rfl (lv_at hl 0 rfl) ?_
    refine r_gi (kI := 34) X Y V ci_10 kd_118 34 rfl (by decide) rfl rfl wd_887 dX10_offers_1 ?_
    refine r_ic X dX10_offers_4 ?_
    refine r_ceq (cx := wI (σ 118 34)) (cy := (-1)) (tgt := 16) X rfl rfl dX10_offers_5 (by decide) (fun c1 => ?_) (fun c1 => ?_)
    · replace h := ite_t c1 h
      refine r_aln X dX10_offers_16 rfl (lv_at hl 0 rfl) ?_
      refine r_aln X dX10_offers_17 rfl (lv_at hl 0 rfl) ?_
      refine r_gi (kI := 34) X Y V ci_10 kd_118 34 rfl (by decide) rfl rfl wd_887 dX10_offers_18 ?_
      obtain ⟨σ2, hσ2, h⟩ := wrF_ex h
      refine r_pi X Y V ci_10 kd_118 35 rfl (by decide) rfl rfl rfl (tyX10_ok 35 (by decide)) wd_888 hσ2 dX10_offers_21 (fun H locs V => ?_)
      refine r_aln X dX10_offers_24 rfl (lv_at hl 0 rfl) ?_
      refine r_iln X dX10_offers_25 rfl (lv_at hl 1 rfl) ?_
      obtain ⟨σ3, hσ3, h⟩ := wrF_ex h
      refine r_pi X Y V ci_10 kd_118 34 rfl (by decide) rfl rfl rfl (tyX10_ok 34 (by decide)) wd_887 hσ3 dX10_offers_26 (fun H locs V => ?_)
      refine r_goto (tgt := 53) X dX10_offers_29 (by decide) ?_
      exact r_rv X V (so2 h).2 dX10_offers_53
    · replace h := ite_f c1 h
      refine r_iln X dX10_offers_8 rfl (lv_at hl 1 rfl) ?_
      refine r_aln X dX10_offers_9 rfl (lv_at hl 0 rfl) ?_
      refine r_gi (kI := 34) X Y V ci_10 kd_118 34 rfl (by decide) rfl rfl wd_887 dX10_offers_10 ?_
      refine r_cge (cx := wI a1) (cy := wI (σ 118 34)) (tgt := 32) X rfl rfl dX10_offers_13 (by decide) (fun c4 => ?_) (fun c4 => ?_)
      · replace h := ite_t c4 h
        refine r_aln X dX10_offers_16 rfl (lv_at hl 0 rfl) ?_
        refine r_aln X dX10_offers_17 rfl (lv_at hl 0 rfl) ?_
        refine r_gi (kI := 34) X Y V ci_10 kd_118 34 rfl (by decide) rfl rfl wd_887 dX10_offers_18 ?_
        obtain ⟨σ5, hσ5, h⟩ := wrF_ex h
        refine r_pi X Y V ci_10 kd_118 35 rfl (by decide) rfl rfl rfl (tyX10_ok 35 (by decide)) wd_888 hσ5 dX10_offers_21 (fun H locs V => ?_)
        refine r_aln X dX10_offers_24 rfl (lv_at hl 0 rfl) ?_
        refine r_iln X dX10_offers_25 rfl (lv_at hl 1 rfl) ?_
        obtain ⟨σ6, hσ6, h⟩ := wrF_ex h
        refine r_pi X Y V ci_10 kd_118 34 rfl (by decide) rfl rfl rfl (tyX10_ok 34 (by decide)) wd_887 hσ6 dX10_offers_26 (fun H locs V => ?_)
        refine r_goto (tgt := 53) X dX10_offers_29 (by decide) ?_
        exact r_rv X V (so2 h).2 dX10_offers_53
      · replace h := ite_f c4 h
        refine r_aln X dX10_offers_32 rfl (lv_at hl 0 rfl) ?_
        refine r_gi (kI := 35) X Y V ci_10 kd_118 35 rfl (by decide) rfl rfl wd_888 dX10_offers_33 ?_
        refine r_ic X dX10_offers_36 ?_
        refine r_ceq (cx := wI (σ 118 35)) (cy := (-1)) (tgt := 48) X rfl rfl dX10_offers_37 (by decide) (fun c7 => ?_) (fun c7 => ?_)
        · replace h := ite_t c7 h
          refine r_aln X dX10_offers_48 rfl (lv_at hl 0 rfl) ?_
          refine r_iln X dX10_offers_49 rfl (lv_at hl 1 rfl) ?_
          obtain ⟨σ8, hσ8, h⟩ := wrF_ex h
          refine r_pi X Y V ci_10 kd_118 35 rfl (by decide) rfl rfl rfl (tyX10_ok 35 (by decide)) wd_888 hσ8 dX10_offers_50 (fun H locs V => ?_)
          exact r_rv X V (so2 h).2 dX10_offers_53
        · replace h := ite_f c7 h
          refine r_iln X dX10_offers_40 rfl (lv_at hl 1 rfl) ?_
          refine r_aln X dX10_offers_41 rfl (lv_at hl 0 rfl) ?_
          refine r_gi (kI := 35) X Y V ci_10 kd_118 35 rfl (by decide) rfl rfl wd_888 dX10_offers_42 ?_
          refine r_cge (cx := wI a1) (cy := wI (σ 118 35)) (tgt := 53) X rfl rfl dX10_offers_45 (by decide) (fun c9 => ?_) (fun c9 => ?_)
          · replace h := ite_t c9 h
            refine r_aln X dX10_offers_48 rfl (lv_at hl 0 rfl) ?_
            refine r_iln X dX10_offers_49 rfl (lv_at hl 1 rfl) ?_
            obtain ⟨σ10, hσ10, h⟩ := wrF_ex h
            refine r_pi X Y V ci_10 kd_118 35 rfl (by decide) rfl rfl rfl (tyX10_ok 35 (by decide)) wd_888 hσ10 dX10_offers_50 (fun H locs V => ?_)
            exact r_rv X V (so2 h).2 dX10_offers_53
          · replace h := ite_f c9 h
            exact r_rv X V (so2 h).2 dX10_offers_53
  exact go _ _ _ X V

set_option maxRecDepth 100000 in
set_option maxHeartbeats 4000000 in
theorem wj_X10_takesIn_118 {p : Program} {l : Launch} {e : Env} {s : State} {m : MethodId} {args : Array Value} {below : List Frame} {meth : Method} {c : Code} {G : UG} (X : uvCx p m c cX10_takesIn 7 RX10 s args meth (Option.none : Option Jvm.ClassFile.FieldType)) (Y : uvGd G s s.heap) (r : Int) (σ' : St) (σ : St) (x1 : Int) (x2 : Int) (t0 : Int)  (H : Heap) (locs : List Loc) (ls : Array Slot) (V : uvWo G σ s H locs) (hl : lv_has ls 7 [(0, .ref (G.2.2.1 118)), (1, .int (iV x1)), (2, .int (iV x2))]) (h : jn_X10_takesIn_118 σ x1 x2 t0 = some (r, σ')) : W p l e { frames := 1, cells := 0, slots := 0, locals := 21 } s m args below meth c H locs 0 0 (MQ below (uvQv G σ') args s 0 0 (uvA G)) (F0 m 118 ls [.int (iV t0), .ref (G.2.2.1 118)]) := by
  unfold jn_X10_takesIn_118 at h
  obtain ⟨σ12, hσ12, h⟩ := wrF_ex h
  refine r_pi X Y V ci_10 kd_118 37 rfl (by decide) rfl rfl rfl (tyX10_ok 37 (by decide)) wd_890 hσ12 dX10_takesIn_118 (fun H locs V => ?_)
  refine r_aln X dX10_takesIn_121 rfl (lv_at hl 0 rfl) ?_
  refine r_aln X dX10_takesIn_122 rfl (lv_at hl 0 rfl) ?_
  refine r_gr X Y V ci_10 kd_118 32 rfl rfl (by decide) rfl rfl wd_885 dX10_takesIn_123 ?_
  refine r_iln X dX10_takesIn_126 rfl (lv_at hl 1 rfl) ?_
  obtain ⟨v13, hv13, hiv13, h⟩ := rdA_ex h
  refine r_ial X Y V kd_139 ln_139 hiv13 hv13 dX10_takesIn_127 ?_
  refine r_iln X dX10_takesIn_128 rfl (lv_at hl 2 rfl) ?_
  refine r_iadd X dX10_takesIn_129 ?_
  refine r_aln X dX10_takesIn_130 rfl (lv_at hl 0 rfl) ?_
  refine r_gi (kI := 36) X Y V ci_10 kd_118 36 rfl (by decide) rfl rfl wd_889 dX10_takesIn_131 ?_
  refine r_cle (cx := wI (v13 + x2)) (cy := wI (σ12 118 36)) (tgt := 148) X rfl rfl dX10_takesIn_134 (by decide) (fun c14 => ?_) (fun c14 => ?_)
  · replace h := ite_t c14 h
    refine r_aln X dX10_takesIn_137 rfl (lv_at hl 0 rfl) ?_
    refine r_gr X Y V ci_10 kd_118 32 rfl rfl (by decide) rfl rfl wd_885 dX10_takesIn_138 ?_
    refine r_iln X dX10_takesIn_141 rfl (lv_at hl 1 rfl) ?_
    obtain ⟨v15, hv15, hiv15, h⟩ := rdA_ex h
    refine r_ial X Y V kd_139 ln_139 hiv15 hv15 dX10_takesIn_142 ?_
    refine r_iln X dX10_takesIn_143 rfl (lv_at hl 2 rfl) ?_
    refine r_iadd X dX10_takesIn_144 ?_
    refine r_goto (tgt := 152) X dX10_takesIn_145 (by decide) ?_
    obtain ⟨σ16, hσ16, h⟩ := wrF_ex h
    refine r_pi X Y V ci_10 kd_118 36 rfl (by decide) rfl rfl rfl (tyX10_ok 36 (by decide)) wd_889 hσ16 dX10_takesIn_152 (fun H locs V => ?_)
    exact r_rv X V (so2 h).2 dX10_takesIn_155
  · replace h := ite_f c14 h
    refine r_aln X dX10_takesIn_148 rfl (lv_at hl 0 rfl) ?_
    refine r_gi (kI := 36) X Y V ci_10 kd_118 36 rfl (by decide) rfl rfl wd_889 dX10_takesIn_149 ?_
    obtain ⟨σ17, hσ17, h⟩ := wrF_ex h
    refine r_pi X Y V ci_10 kd_118 36 rfl (by decide) rfl rfl rfl (tyX10_ok 36 (by decide)) wd_889 hσ17 dX10_takesIn_152 (fun H locs V => ?_)
    exact r_rv X V (so2 h).2 dX10_takesIn_155

set_option maxRecDepth 100000 in
set_option maxHeartbeats 4000000 in
theorem wj_X10_takesIn_84 {p : Program} {l : Launch} {e : Env} {s : State} {m : MethodId} {args : Array Value} {below : List Frame} {meth : Method} {c : Code} {G : UG} (X : uvCx p m c cX10_takesIn 7 RX10 s args meth (Option.none : Option Jvm.ClassFile.FieldType)) (Y : uvGd G s s.heap) (r : Int) (σ' : St) (σ : St) (x1 : Int) (x2 : Int) (x5 : Int)  (H : Heap) (locs : List Loc) (ls : Array Slot) (V : uvWo G σ s H locs) (hl : lv_has ls 7 [(0, .ref (G.2.2.1 118)), (1, .int (iV x1)), (2, .int (iV x2)), (5, .long (lV x5))]) (h : jn_X10_takesIn_84 σ x1 x2 x5 = some (r, σ')) : W p l e { frames := 1, cells := 0, slots := 0, locals := 21 } s m args below meth c H locs 0 0 (MQ below (uvQv G σ') args s 0 0 (uvA G)) (F0 m 84 ls [.ref (G.2.2.1 118)]) := by
  unfold jn_X10_takesIn_84 at h
  refine r_ll X dX10_takesIn_84 (lv_at hl 3 rfl) ?_
  refine r_aln X dX10_takesIn_86 rfl (lv_at hl 0 rfl) ?_
  refine r_gr X Y V ci_10 kd_118 33 rfl rfl (by decide) rfl rfl wd_886 dX10_takesIn_87 ?_
  refine r_iln X dX10_takesIn_90 rfl (lv_at hl 1 rfl) ?_
  obtain ⟨v10, hv10, hiv10, h⟩ := rdA_ex h
  refine r_ial X Y V kd_140 ln_140 hiv10 hv10 dX10_takesIn_91 ?_
  refine r_i2l X dX10_takesIn_92 ?_
  refine r_ladd X dX10_takesIn_93 ?_
  refine r_ldc2 X (n := 1000000000) wd_1201 (by decide) dX10_takesIn_94 ?_
  refine r_lcmp X dX10_takesIn_97 ?_
  refine r_le (cx := cmpL (x5 + (i2lI v10)) 1000000000) (tgt := 107) X (wI_cmp _ _) dX10_takesIn_98 (by decide) (fun c11 => ?_) (fun c11 => ?_)
  · replace h := ite_t c11 h
    refine r_ldcw X (n := 1000000000) wd_1202 (by decide) dX10_takesIn_101 ?_
    refine r_goto (tgt := 118) X dX10_takesIn_104 (by decide) ?_
    exact wj_X10_takesIn_118 X Y r σ' σ x1 x2 1000000000  _ _ _ V (lv_sub hl [0, 1, 2] rfl) h
  · replace h := ite_f c11 h
    refine r_ll X dX10_takesIn_107 (lv_at hl 3 rfl) ?_
    refine r_aln X dX10_takesIn_109 rfl (lv_at hl 0 rfl) ?_
    refine r_gr X Y V ci_10 kd_118 33 rfl rfl (by decide) rfl rfl wd_886 dX10_takesIn_110 ?_
    refine r_iln X dX10_takesIn_113 rfl (lv_at hl 1 rfl) ?_
    obtain ⟨v18, hv18, hiv18, h⟩ := rdA_ex h
    refine r_ial X Y V kd_140 ln_140 hiv18 hv18 dX10_takesIn_114 ?_
    refine r_i2l X dX10_takesIn_115 ?_
    refine r_ladd X dX10_takesIn_116 ?_
    refine r_l2i X dX10_takesIn_117 ?_
    exact wj_X10_takesIn_118 X Y r σ' σ x1 x2 (x5 + (i2lI v18))  _ _ _ V (lv_sub hl [0, 1, 2] rfl) h

set_option maxRecDepth 100000 in
set_option maxHeartbeats 4000000 in
theorem wj_X10_takesIn_43 {p : Program} {l : Launch} {e : Env} {s : State} {m : MethodId} {args : Array Value} {below : List Frame} {meth : Method} {c : Code} {G : UG} (X : uvCx p m c cX10_takesIn 7 RX10 s args meth (Option.none : Option Jvm.ClassFile.FieldType)) (Y : uvGd G s s.heap) (r : Int) (σ' : St) (σ : St) (x1 : Int) (x2 : Int) (x3 : Int) (x4 : Int)  (H : Heap) (locs : List Loc) (ls : Array Slot) (V : uvWo G σ s H locs) (hl : lv_has ls 7 [(0, .ref (G.2.2.1 118)), (1, .int (iV x1)), (2, .int (iV x2)), (3, .int (iV x3)), (4, .int (iV x4))]) (h : jn_X10_takesIn_43 σ x1 x2 x3 x4 = some (r, σ')) : W p l e { frames := 1, cells := 0, slots := 0, locals := 21 } s m args below meth c H locs 0 0 (MQ below (uvQv G σ') args s 0 0 (uvA G)) (F0 m 43 ls []) := by
  unfold jn_X10_takesIn_43 at h
  refine r_iln X dX10_takesIn_43 rfl (lv_at hl 3 rfl) ?_
  refine r_ic X dX10_takesIn_44 ?_
  have J7 : W p l e { frames := 1, cells := 0, slots := 0, locals := 21 } s m args below meth c H locs 0 0 (MQ below (uvQv G σ') args s 0 0 (uvA G)) (F0 m 63 ls [.long (lV (if wI x3 = (-1) then 0 else (if wI x4 < wI x3 then 0 else i2lI (σ 118 37))))]) := by
    obtain ⟨v8, hv8, h⟩ := bnd_ex h
    refine r_eqL hv8 ?_
    refine r_ls (lv' := [(5, .long (lV v8)), (0, .ref (G.2.2.1 118)), (1, .int (iV x1)), (2, .int (iV x2)), (3, .int (iV x3)), (4, .int (iV x4))]) X dX10_takesIn_63 hl (by decide) rfl (fun ls hl => ?_)
    refine r_aln X dX10_takesIn_65 rfl (lv_at hl 1 rfl) ?_
    refine r_iln X dX10_takesIn_66 rfl (lv_at hl 4 rfl) ?_
    refine r_ic X dX10_takesIn_67 ?_
    refine r_ceq (cx := wI x3) (cy := (-1)) (tgt := 84) X rfl rfl dX10_takesIn_68 (by decide) (fun c9 => ?_) (fun c9 => ?_)
    · replace h := ite_t c9 h
      exact wj_X10_takesIn_84 X Y r σ' σ x1 x2 v8  _ _ _ V (lv_sub hl [1, 2, 3, 0] rfl) h
    · replace h := ite_f c9 h
      refine r_il X dX10_takesIn_71 (lv_at hl 5 rfl) ?_
      refine r_iln X dX10_takesIn_73 rfl (lv_at hl 4 rfl) ?_
      refine r_cle (cx := wI x4) (cy := wI x3) (tgt := 84) X rfl rfl dX10_takesIn_74 (by decide) (fun c19 => ?_) (fun c19 => ?_)
      · replace h := ite_t c19 h
        refine r_aln X dX10_takesIn_77 rfl (lv_at hl 1 rfl) ?_
        refine r_gi (kI := 37) X Y V ci_10 kd_118 37 rfl (by decide) rfl rfl wd_890 dX10_takesIn_78 ?_
        refine r_goto (tgt := 118) X dX10_takesIn_81 (by decide) ?_
        exact wj_X10_takesIn_118 X Y r σ' σ x1 x2 (σ 118 37)  _ _ _ V (lv_sub hl [1, 2, 3] rfl) h
      · replace h := ite_f c19 h
        exact wj_X10_takesIn_84 X Y r σ' σ x1 x2 v8  _ _ _ V (lv_sub hl [1, 2, 3, 0] rfl) h
  refine r_ceq (cx := wI x3) (cy := (-1)) (tgt := 54) X rfl rfl dX10_takesIn_45 (by decide) (fun c20 => ?_) (fun c20 => ?_)
  · skip
    refine r_lc (v := 0) X dX10_takesIn_54 rfl ?_
    refine r_goto (tgt := 63) X dX10_takesIn_55 (by decide) ?_
    rw [if_pos c20] at J7
    exact J7
  · skip
    refine r_il X dX10_takesIn_48 (lv_at hl 4 rfl) ?_
    refine r_iln X dX10_takesIn_50 rfl (lv_at hl 3 rfl) ?_
    refine r_cge (cx := wI x4) (cy := wI x3) (tgt := 58) X rfl rfl dX10_takesIn_51 (by decide) (fun c21 => ?_) (fun c21 => ?_)
    · skip
      refine r_lc (v := 0) X dX10_takesIn_54 rfl ?_
      refine r_goto (tgt := 63) X dX10_takesIn_55 (by decide) ?_
      rw [if_neg c20] at J7
      rw [if_pos c21] at J7
      exact J7
    · skip
      refine r_aln X dX10_takesIn_58 rfl (lv_at hl 0 rfl) ?_
      refine r_gi (kI := 37) X Y V ci_10 kd_118 37 rfl (by decide) rfl rfl wd_890 dX10_takesIn_59 ?_
      refine r_i2l X dX10_takesIn_62 ?_
      rw [if_neg c20] at J7
      rw [if_neg c21] at J7
      exact J7

set_option maxRecDepth 100000 in
set_option maxHeartbeats 4000000 in
theorem c_X10_takesIn (l : Launch) (G : UG) (σ : St) (a1 : Int) (a2 : Int) (r : Int) (σ' : St)  (h : f_X10_takesIn σ a1 a2 = some (r, σ')) : Met l yX10_takesIn (.code yX10_takesIn cX10_takesIn 7 (Option.none : Option Jvm.ClassFile.FieldType) :: TB) { frames := 1, cells := 0, slots := 0, locals := 21 } (uvPc G σ [.ref (G.2.2.1 118), .int (iV a1), .int (iV a2)]) (uvQv G σ') 0 0 (uvA G) := by
  unfold f_X10_takesIn at h
  refine r_met (own := RX10) (lv := [(0, .ref (G.2.2.1 118)), (1, .int (iV a1)), (2, .int (iV a2))]) (by decide) rfl (Nat.le_of_ble_eq_true rfl) rfl ?_
  intro p e s m below meth c ls X Y V hl
  have go : ∀ (args : Array Value) (H : Heap) (locs : List Loc), uvCx p m c cX10_takesIn 7 RX10 s args meth (Option.none : Option Jvm.ClassFile.FieldType) → uvWo G σ s H locs → W p l e { frames := 1, cells := 0, slots := 0, locals := 21 } s m args below meth c H locs 0 0 (MQ below (uvQv G σ') args s 0 0 (uvA G)) (F0 m 0 ls []) := by
    intro args H locs X V
    refine r_aln X dX10_takesIn_0 rfl (lv_at hl 0 rfl) ?_
    refine r_gi (kI := 34) X Y V ci_10 kd_118 34 rfl (by decide) rfl rfl wd_887 dX10_takesIn_1 ?_
    refine r_isn (lv' := [(3, .int (iV (σ 118 34))), (0, .ref (G.2.2.1 118)), (1, .int (iV a1)), (2, .int (iV a2))]) X dX10_takesIn_4 rfl hl (by decide) rfl (fun ls hl => ?_)
    refine r_aln X dX10_takesIn_5 rfl (lv_at hl 1 rfl) ?_
    refine r_gr X Y V ci_10 kd_118 30 rfl rfl (by decide) rfl rfl wd_883 dX10_takesIn_6 ?_
    refine r_iln X dX10_takesIn_9 rfl (lv_at hl 2 rfl) ?_
    obtain ⟨v1, hv1, hiv1, h⟩ := rdA_ex h
    refine r_ial X Y V kd_137 ln_137 hiv1 hv1 dX10_takesIn_10 ?_
    refine r_iln X dX10_takesIn_11 rfl (lv_at hl 3 rfl) ?_
    refine r_iadd X dX10_takesIn_12 ?_
    obtain ⟨v2, hv2, h⟩ := bnd_ex h
    refine r_eqI hv2 ?_
    refine r_is (lv' := [(4, .int (iV v2)), (3, .int (iV (σ 118 34))), (0, .ref (G.2.2.1 118)), (1, .int (iV a1)), (2, .int (iV a2))]) X dX10_takesIn_13 hl (by decide) rfl (fun ls hl => ?_)
    refine r_aln X dX10_takesIn_15 rfl (lv_at hl 2 rfl) ?_
    refine r_il X dX10_takesIn_16 (lv_at hl 0 rfl) ?_
    obtain ⟨v3, σ4, hv3, h⟩ := bd2_ex h
    refine r_kv V (r_runV (As := [.int (iV v2)]) (rest := []) X Y V (c_X10_offers l G σ v2 _ _  hv3) mv_X10_offers wd_1197 ci_10 kd_118 ⟨rfl, rfl, Nat.le_of_ble_eq_true rfl, Nat.le_of_ble_eq_true rfl⟩ rfl rfl hl.1 (Nat.le_of_ble_eq_true rfl) ⟨Nat.le_refl 0, Nat.le_refl 0⟩ dX10_takesIn_18) (fun H locs V => ?_)
    refine r_aln X dX10_takesIn_21 rfl (lv_at hl 2 rfl) ?_
    refine r_gr X Y V ci_10 kd_118 31 rfl rfl (by decide) rfl rfl wd_884 dX10_takesIn_22 ?_
    refine r_iln X dX10_takesIn_25 rfl (lv_at hl 3 rfl) ?_
    obtain ⟨v5, hv5, hiv5, h⟩ := rdA_ex h
    refine r_ial X Y V kd_138 ln_138 hiv5 hv5 dX10_takesIn_26 ?_
    refine r_ic X dX10_takesIn_27 ?_
    refine r_ceq (cx := wI v5) (cy := (-1)) (tgt := 43) X rfl rfl dX10_takesIn_28 (by decide) (fun c6 => ?_) (fun c6 => ?_)
    · replace h := ite_t c6 h
      exact wj_X10_takesIn_43 X Y r σ' σ4 a1 a2 (σ 118 34) v2  _ _ _ V (lv_sub hl [2, 3, 4, 1, 0] rfl) h
    · replace h := ite_f c6 h
      refine r_aln X dX10_takesIn_31 rfl (lv_at hl 2 rfl) ?_
      refine r_aln X dX10_takesIn_32 rfl (lv_at hl 2 rfl) ?_
      refine r_gr X Y V ci_10 kd_118 31 rfl rfl (by decide) rfl rfl wd_884 dX10_takesIn_33 ?_
      refine r_iln X dX10_takesIn_36 rfl (lv_at hl 3 rfl) ?_
      obtain ⟨v22, hv22, hiv22, h⟩ := rdA_ex h
      refine r_ial X Y V kd_138 ln_138 hiv22 hv22 dX10_takesIn_37 ?_
      refine r_iln X dX10_takesIn_38 rfl (lv_at hl 4 rfl) ?_
      refine r_iadd X dX10_takesIn_39 ?_
      obtain ⟨v23, σ24, hv23, h⟩ := bd2_ex h
      refine r_kv V (r_runV (As := [.int (iV (v22 + a2))]) (rest := []) X Y V (c_X10_offers l G σ4 (v22 + a2) _ _  hv23) mv_X10_offers wd_1197 ci_10 kd_118 ⟨rfl, rfl, Nat.le_of_ble_eq_true rfl, Nat.le_of_ble_eq_true rfl⟩ rfl rfl hl.1 (Nat.le_of_ble_eq_true rfl) ⟨Nat.le_refl 0, Nat.le_refl 0⟩ dX10_takesIn_40) (fun H locs V => ?_)
      exact wj_X10_takesIn_43 X Y r σ' σ24 a1 a2 (σ 118 34) v2  _ _ _ V (lv_sub hl [2, 3, 4, 1, 0] rfl) h
  exact go _ _ _ X V

set_option maxRecDepth 100000 in
set_option maxHeartbeats 4000000 in
theorem wl_X10_chains_15 {p : Program} {l : Launch} {e : Env} {s : State} {m : MethodId} {args : Array Value} {below : List Frame} {meth : Method} {c : Code} {G : UG} (X : uvCx p m c cX10_chains 10 RX10 s args meth (Option.some Jvm.ClassFile.FieldType.boolean)) (Y : uvGd G s s.heap) (x1 : Int)  (r : Int) (σ' : St) (kx : St → Int → Option (Int × St)) (hkx : ∀ (σ : St) (x2 : Int) (H : Heap) (locs : List Loc) (ls : Array Slot), uvWo G σ s H locs → lv_has ls 10 [(0, .ref (G.2.2.1 118)), (1, .int (iV x1)), (2, .int (iV x2))] → kx σ x2 = some (r, σ') → W p l e { frames := 4, cells := 0, slots := 0, locals := 100 } s m args below meth c H locs 0 0 (MQ below (uvQz G r σ') args s 0 0 (uvA G)) (F0 m 39 ls [])) : ∀ (n : Nat) (σ : St) (x2 : Int) (x3 : Int) (H : Heap) (locs : List Loc) (ls : Array Slot), uvWo G σ s H locs → lv_has ls 10 [(0, .ref (G.2.2.1 118)), (1, .int (iV x1)), (2, .int (iV x2)), (3, .int (iV x3))] → lp_X10_chains_15 x1 kx n σ x2 x3 = some (r, σ') → W p l e { frames := 4, cells := 0, slots := 0, locals := 100 } s m args below meth c H locs 0 0 (MQ below (uvQz G r σ') args s 0 0 (uvA G)) (F0 m 15 ls []) := by
  intro n
  induction n with
  | zero => intro σ x2 x3 H locs ls V hl h; cases h
  | succ n ih =>
    intro σ x2 x3 H locs ls V hl h
    rw [lp_X10_chains_15] at h
    refine r_iln X dX10_chains_15 rfl (lv_at hl 3 rfl) ?_
    refine r_aln X dX10_chains_16 rfl (lv_at hl 0 rfl) ?_
    refine r_gi (kI := 3) X Y V ci_10 kd_118 3 rfl (by decide) rfl rfl wd_856 dX10_chains_17 ?_
    refine r_cge (cx := wI x3) (cy := wI (σ 118 3)) (tgt := 39) X rfl rfl dX10_chains_20 (by decide) (fun c3 => ?_) (fun c3 => ?_)
    · replace h := ite_t c3 h
      refine r_iln X dX10_chains_23 rfl (lv_at hl 2 rfl) ?_
      refine r_eq (cx := wI x2) (tgt := 39) X rfl dX10_chains_24 (by decide) (fun c4 => ?_) (fun c4 => ?_)
      · replace h := ite_t c4 h
        exact hkx σ x2 _ _ _ V (lv_sub hl [0, 1, 2] rfl) h
      · replace h := ite_f c4 h
        refine r_aln X dX10_chains_27 rfl (lv_at hl 0 rfl) ?_
        refine r_iln X dX10_chains_28 rfl (lv_at hl 3 rfl) ?_
        obtain ⟨v5, σ6, hv5, h⟩ := bd2_ex h
        refine r_kz V (r_runV (As := [.int (iV x3)]) (rest := []) X Y V (c_X10_chooses l G σ x3 _ _  hv5) mv_X10_chooses wd_1134 ci_10 kd_118 ⟨rfl, rfl, Nat.le_of_ble_eq_true rfl, Nat.le_of_ble_eq_true rfl⟩ rfl rfl hl.1 (Nat.le_of_ble_eq_true rfl) ⟨Nat.le_refl 0, Nat.le_refl 0⟩ dX10_chains_29) (fun H locs V z7 => ?_)
        refine r_isn (lv' := [(2, .int (iV v5)), (0, .ref (G.2.2.1 118)), (1, .int (iV x1)), (3, .int (iV x3))]) X dX10_chains_32 rfl hl (by decide) rfl (fun ls hl => ?_)
        refine r_inc (kk := 3) (lv' := [(3, .int (iV (x3 + 1))), (2, .int (iV v5)), (0, .ref (G.2.2.1 118)), (1, .int (iV x1))]) X dX10_chains_33 hl rfl (by decide) rfl (fun ls hl => ?_)
        refine r_goto (tgt := 15) X dX10_chains_36 (by decide) ?_
        exact ih σ6 v5 (x3 + 1) _ _ _ V (lv_sub hl [2, 3, 1, 0] rfl) h
    · replace h := ite_f c3 h
      exact hkx σ x2 _ _ _ V (lv_sub hl [0, 1, 2] rfl) h

set_option maxRecDepth 100000 in
set_option maxHeartbeats 4000000 in
theorem wl_X10_chains_103 {p : Program} {l : Launch} {e : Env} {s : State} {m : MethodId} {args : Array Value} {below : List Frame} {meth : Method} {c : Code} {G : UG} (X : uvCx p m c cX10_chains 10 RX10 s args meth (Option.some Jvm.ClassFile.FieldType.boolean)) (Y : uvGd G s s.heap) (x1 : Int) (x2 : Int) (x3 : Int) (x4 : Int) (x5 : Int) (x6 : Int) (x7 : Int)  (r : Int) (σ' : St) (kx : St → Option (Int × St)) (hkx : ∀ (σ : St)  (H : Heap) (locs : List Loc) (ls : Array Slot), uvWo G σ s H locs → lv_has ls 10 [(0, .ref (G.2.2.1 118)), (1, .int (iV x1)), (2, .int (iV x2)), (3, .int (iV x3)), (4, .int (iV x4)), (5, .int (iV x5)), (7, .int (iV x7))] → kx σ  = some (r, σ') → W p l e { frames := 4, cells := 0, slots := 0, locals := 100 } s m args below meth c H locs 0 0 (MQ below (uvQz G r σ') args s 0 0 (uvA G)) (F0 m 162 ls [])) : ∀ (n : Nat) (σ : St) (x8 : Int) (H : Heap) (locs : List Loc) (ls : Array Slot), uvWo G σ s H locs → lv_has ls 10 [(0, .ref (G.2.2.1 118)), (1, .int (iV x1)), (2, .int (iV x2)), (3, .int (iV x3)), (4, .int (iV x4)), (5, .int (iV x5)), (6, .int (iV x6)), (7, .int (iV x7)), (8, .int (iV x8))] → lp_X10_chains_103 x1 x2 x3 x4 x5 x6 x7 kx n σ x8 = some (r, σ') → W p l e { frames := 4, cells := 0, slots := 0, locals := 100 } s m args below meth c H locs 0 0 (MQ below (uvQz G r σ') args s 0 0 (uvA G)) (F0 m 103 ls []) := by
  intro n
  induction n with
  | zero => intro σ x8 H locs ls V hl h; cases h
  | succ n ih =>
    intro σ x8 H locs ls V hl h
    rw [lp_X10_chains_103] at h
    refine r_iln X dX10_chains_103 rfl (lv_at hl 3 rfl) ?_
    refine r_ic X dX10_chains_104 ?_
    refine r_iadd X dX10_chains_105 ?_
    refine r_aln X dX10_chains_106 rfl (lv_at hl 0 rfl) ?_
    refine r_gi (kI := 3) X Y V ci_10 kd_118 3 rfl (by decide) rfl rfl wd_856 dX10_chains_107 ?_
    refine r_cge (cx := wI (x3 + 1)) (cy := wI (σ 118 3)) (tgt := 162) X rfl rfl dX10_chains_110 (by decide) (fun c20 => ?_) (fun c20 => ?_)
    · replace h := ite_t c20 h
      refine r_il X dX10_chains_113 (lv_at hl 8 rfl) ?_
      refine r_aln X dX10_chains_115 rfl (lv_at hl 0 rfl) ?_
      refine r_gr X Y V ci_10 kd_118 26 rfl rfl (by decide) rfl rfl wd_879 dX10_chains_116 ?_
      refine r_iln X dX10_chains_119 rfl (lv_at hl 3 rfl) ?_
      refine r_ic X dX10_chains_120 ?_
      refine r_iadd X dX10_chains_121 ?_
      obtain ⟨v21, hv21, hiv21, h⟩ := rdA_ex h
      refine r_ial X Y V kd_136 ln_136 hiv21 hv21 dX10_chains_122 ?_
      refine r_cge (cx := wI x8) (cy := wI v21) (tgt := 162) X rfl rfl dX10_chains_123 (by decide) (fun c22 => ?_) (fun c22 => ?_)
      · replace h := ite_t c22 h
        refine r_bp X dX10_chains_126 (by decide) ?_
        refine r_iln X dX10_chains_128 rfl (lv_at hl 3 rfl) ?_
        refine r_ic X dX10_chains_129 ?_
        refine r_iadd X dX10_chains_130 ?_
        refine r_imul X dX10_chains_131 ?_
        refine r_il X dX10_chains_132 (lv_at hl 8 rfl) ?_
        refine r_iadd X dX10_chains_134 ?_
        obtain ⟨v23, hv23, h⟩ := bnd_ex h
        refine r_eqI hv23 ?_
        refine r_is (lv' := [(9, .int (iV v23)), (0, .ref (G.2.2.1 118)), (1, .int (iV x1)), (2, .int (iV x2)), (3, .int (iV x3)), (4, .int (iV x4)), (5, .int (iV x5)), (6, .int (iV x6)), (7, .int (iV x7)), (8, .int (iV x8))]) X dX10_chains_135 hl (by decide) rfl (fun ls hl => ?_)
        refine r_aln X dX10_chains_137 rfl (lv_at hl 1 rfl) ?_
        refine r_il X dX10_chains_138 (lv_at hl 0 rfl) ?_
        refine r_aln X dX10_chains_140 rfl (lv_at hl 1 rfl) ?_
        refine r_il X dX10_chains_141 (lv_at hl 7 rfl) ?_
        refine r_aln X dX10_chains_143 rfl (lv_at hl 1 rfl) ?_
        refine r_gr X Y V ci_10 kd_118 25 rfl rfl (by decide) rfl rfl wd_878 dX10_chains_144 ?_
        refine r_il X dX10_chains_147 (lv_at hl 0 rfl) ?_
        obtain ⟨v24, hv24, hiv24, h⟩ := rdA_ex h
        refine r_ial X Y V kd_135 ln_135 hiv24 hv24 dX10_chains_149 ?_
        obtain ⟨v25, hv25, h⟩ := bd1_ex h
        refine r_ki V (r_runV (As := [.int (iV x6), .int (iV v24)]) (rest := [.int (iV v23), .ref (G.2.2.1 118)]) X Y V (c_X10_jointOf l G σ x6 v24 _  hv25) mv_X10_jointOf wd_1173 ci_10 kd_118 ⟨rfl, rfl, Nat.le_of_ble_eq_true rfl, Nat.le_of_ble_eq_true rfl⟩ rfl rfl hl.1 (Nat.le_of_ble_eq_true rfl) ⟨Nat.le_refl 0, Nat.le_refl 0⟩ dX10_chains_150) (fun H locs V => ?_)
        obtain ⟨v26, σ27, hv26, h⟩ := bd2_ex h
        refine r_kv V (r_runV (As := [.int (iV v23), .int (iV v25)]) (rest := []) X Y V (c_X10_takesIn l G σ v23 v25 _ _  hv26) mv_X10_takesIn wd_1193 ci_10 kd_118 ⟨rfl, rfl, Nat.le_of_ble_eq_true rfl, Nat.le_of_ble_eq_true rfl⟩ rfl rfl hl.1 (Nat.le_of_ble_eq_true rfl) ⟨Nat.le_refl 0, Nat.le_refl 0⟩ dX10_chains_153) (fun H locs V => ?_)
        refine r_inc (kk := 9) (lv' := [(8, .int (iV (x8 + 1))), (9, .int (iV v23)), (0, .ref (G.2.2.1 118)), (1, .int (iV x1)), (2, .int (iV x2)), (3, .int (iV x3)), (4, .int (iV x4)), (5, .int (iV x5)), (6, .int (iV x6)), (7, .int (iV x7))]) X dX10_chains_156 hl rfl (by decide) rfl (fun ls hl => ?_)
        refine r_goto (tgt := 103) X dX10_chains_159 (by decide) ?_
        exact ih σ27 (x8 + 1) _ _ _ V (lv_sub hl [2, 3, 4, 5, 6, 7, 8, 9, 0] rfl) h
      · replace h := ite_f c22 h
        exact hkx σ  _ _ _ V (lv_sub hl [0, 1, 2, 3, 4, 5, 7] rfl) h
    · replace h := ite_f c20 h
      exact hkx σ  _ _ _ V (lv_sub hl [0, 1, 2, 3, 4, 5, 7] rfl) h

set_option maxRecDepth 100000 in
set_option maxHeartbeats 4000000 in
theorem wj_X10_chains_162 {p : Program} {l : Launch} {e : Env} {s : State} {m : MethodId} {args : Array Value} {below : List Frame} {meth : Method} {c : Code} {G : UG} (X : uvCx p m c cX10_chains 10 RX10 s args meth (Option.some Jvm.ClassFile.FieldType.boolean)) (Y : uvGd G s s.heap) (kb : St → Int → Option (Int × St)) (r : Int) (σ' : St) (σ : St) (x1 : Int) (x2 : Int) (x3 : Int) (x4 : Int) (x5 : Int) (x7 : Int)  (hkb : ∀ (σ : St) (m4 : Int) (H : Heap) (locs : List Loc) (ls : Array Slot), uvWo G σ s H locs → lv_has ls 10 [(0, .ref (G.2.2.1 118)), (1, .int (iV x1)), (2, .int (iV x2)), (3, .int (iV x3)), (4, .int (iV m4))] → kb σ m4 = some (r, σ') → W p l e { frames := 4, cells := 0, slots := 0, locals := 100 } s m args below meth c H locs 0 0 (MQ below (uvQz G r σ') args s 0 0 (uvA G)) (F0 m 57 ls [])) (H : Heap) (locs : List Loc) (ls : Array Slot) (V : uvWo G σ s H locs) (hl : lv_has ls 10 [(0, .ref (G.2.2.1 118)), (1, .int (iV x1)), (2, .int (iV x2)), (3, .int (iV x3)), (4, .int (iV x4)), (5, .int (iV x5)), (7, .int (iV x7))]) (h : jn_X10_chains_162 kb σ x1 x2 x3 x4 x5 x7 = some (r, σ')) : W p l e { frames := 4, cells := 0, slots := 0, locals := 100 } s m args below meth c H locs 0 0 (MQ below (uvQz G r σ') args s 0 0 (uvA G)) (F0 m 162 ls []) := by
  unfold jn_X10_chains_162 at h
  refine r_iln X dX10_chains_162 rfl (lv_at hl 3 rfl) ?_
  refine r_ic X dX10_chains_163 ?_
  refine r_iadd X dX10_chains_164 ?_
  refine r_aln X dX10_chains_165 rfl (lv_at hl 0 rfl) ?_
  refine r_gi (kI := 3) X Y V ci_10 kd_118 3 rfl (by decide) rfl rfl wd_856 dX10_chains_166 ?_
  have J29 : W p l e { frames := 4, cells := 0, slots := 0, locals := 100 } s m args below meth c H locs 0 0 (MQ below (uvQz G r σ') args s 0 0 (uvA G)) (F0 m 177 ls [.int (iV (if wI (x3 + 1) = wI (σ 118 3) then 1 else 0))]) := by
    obtain ⟨v30, hv30, h⟩ := bnd_ex h
    refine r_eqI hv30 ?_
    refine r_is (lv' := [(8, .int (iV v30)), (0, .ref (G.2.2.1 118)), (1, .int (iV x1)), (2, .int (iV x2)), (3, .int (iV x3)), (4, .int (iV x4)), (5, .int (iV x5)), (7, .int (iV x7))]) X dX10_chains_177 hl (by decide) rfl (fun ls hl => ?_)
    refine r_aln X dX10_chains_179 rfl (lv_at hl 1 rfl) ?_
    refine r_gr X Y V ci_10 kd_118 30 rfl rfl (by decide) rfl rfl wd_883 dX10_chains_180 ?_
    refine r_il X dX10_chains_183 (lv_at hl 6 rfl) ?_
    refine r_il X dX10_chains_185 (lv_at hl 7 rfl) ?_
    refine r_il X dX10_chains_187 (lv_at hl 0 rfl) ?_
    have J31 : W p l e { frames := 4, cells := 0, slots := 0, locals := 100 } s m args below meth c H locs 0 0 (MQ below (uvQz G r σ') args s 0 0 (uvA G)) (F0 m 200 ls [.int (iV (if v30 = 0 then σ 118 34 else 0)), .int (iV x7), .int (iV x5), .ref (G.2.2.1 137)]) := by
      refine r_iadd X dX10_chains_200 ?_
      obtain ⟨σ32, hσ32, hiσ32, h⟩ := wrA_ex h
      refine r_ias X Y V kd_137 ln_137 hiσ32 hσ32 dX10_chains_201 (fun H locs V => ?_)
      refine r_aln X dX10_chains_202 rfl (lv_at hl 1 rfl) ?_
      refine r_gr X Y V ci_10 kd_118 31 rfl rfl (by decide) rfl rfl wd_884 dX10_chains_203 ?_
      refine r_il X dX10_chains_206 (lv_at hl 6 rfl) ?_
      refine r_il X dX10_chains_208 (lv_at hl 0 rfl) ?_
      have J33 : W p l e { frames := 4, cells := 0, slots := 0, locals := 100 } s m args below meth c H locs 0 0 (MQ below (uvQz G r σ') args s 0 0 (uvA G)) (F0 m 232 ls [.int (iV (if v30 = 0 then (if wI (σ32 118 35) = (-1) then (-1) else x7 + (σ32 118 35)) else (-1))), .int (iV x5), .ref (G.2.2.1 138)]) := by
        obtain ⟨σ34, hσ34, hiσ34, h⟩ := wrA_ex h
        refine r_ias X Y V kd_138 ln_138 hiσ34 hσ34 dX10_chains_232 (fun H locs V => ?_)
        refine r_aln X dX10_chains_233 rfl (lv_at hl 1 rfl) ?_
        refine r_gr X Y V ci_10 kd_118 32 rfl rfl (by decide) rfl rfl wd_885 dX10_chains_234 ?_
        refine r_il X dX10_chains_237 (lv_at hl 6 rfl) ?_
        refine r_il X dX10_chains_239 (lv_at hl 7 rfl) ?_
        refine r_il X dX10_chains_241 (lv_at hl 0 rfl) ?_
        have J35 : W p l e { frames := 4, cells := 0, slots := 0, locals := 100 } s m args below meth c H locs 0 0 (MQ below (uvQz G r σ') args s 0 0 (uvA G)) (F0 m 254 ls [.int (iV (if v30 = 0 then σ34 118 36 else 0)), .int (iV x7), .int (iV x5), .ref (G.2.2.1 139)]) := by
          refine r_iadd X dX10_chains_254 ?_
          obtain ⟨σ36, hσ36, hiσ36, h⟩ := wrA_ex h
          refine r_ias X Y V kd_139 ln_139 hiσ36 hσ36 dX10_chains_255 (fun H locs V => ?_)
          refine r_aln X dX10_chains_256 rfl (lv_at hl 1 rfl) ?_
          refine r_gr X Y V ci_10 kd_118 33 rfl rfl (by decide) rfl rfl wd_886 dX10_chains_257 ?_
          refine r_il X dX10_chains_260 (lv_at hl 6 rfl) ?_
          refine r_il X dX10_chains_262 (lv_at hl 0 rfl) ?_
          have J37 : W p l e { frames := 4, cells := 0, slots := 0, locals := 100 } s m args below meth c H locs 0 0 (MQ below (uvQz G r σ') args s 0 0 (uvA G)) (F0 m 275 ls [.int (iV (if v30 = 0 then σ36 118 37 else 1)), .int (iV x5), .ref (G.2.2.1 140)]) := by
            obtain ⟨σ38, hσ38, hiσ38, h⟩ := wrA_ex h
            refine r_ias X Y V kd_140 ln_140 hiσ38 hσ38 dX10_chains_275 (fun H locs V => ?_)
            refine r_inc (kk := 5) (lv' := [(4, .int (iV (x4 + 1))), (8, .int (iV v30)), (0, .ref (G.2.2.1 118)), (1, .int (iV x1)), (2, .int (iV x2)), (3, .int (iV x3)), (5, .int (iV x5)), (7, .int (iV x7))]) X dX10_chains_276 hl rfl (by decide) rfl (fun ls hl => ?_)
            refine r_goto (tgt := 57) X dX10_chains_279 (by decide) ?_
            exact hkb σ38 (x4 + 1) _ _ _ V (lv_sub hl [2, 3, 4, 5, 0] rfl) h
          refine r_eq (cx := v30) (tgt := 271) X (by rw [hv30]; exact (wI_ite rfl rfl)) dX10_chains_264 (by decide) (fun c39 => ?_) (fun c39 => ?_)
          · skip
            refine r_aln X dX10_chains_271 rfl (lv_at hl 1 rfl) ?_
            refine r_gi (kI := 37) X Y V ci_10 kd_118 37 rfl (by decide) rfl rfl wd_890 dX10_chains_272 ?_
            rw [if_pos c39] at J37
            exact J37
          · skip
            refine r_ic X dX10_chains_267 ?_
            refine r_goto (tgt := 275) X dX10_chains_268 (by decide) ?_
            rw [if_neg c39] at J37
            exact J37
        refine r_eq (cx := v30) (tgt := 250) X (by rw [hv30]; exact (wI_ite rfl rfl)) dX10_chains_243 (by decide) (fun c40 => ?_) (fun c40 => ?_)
        · skip
          refine r_aln X dX10_chains_250 rfl (lv_at hl 1 rfl) ?_
          refine r_gi (kI := 36) X Y V ci_10 kd_118 36 rfl (by decide) rfl rfl wd_889 dX10_chains_251 ?_
          rw [if_pos c40] at J35
          exact J35
        · skip
          refine r_ic X dX10_chains_246 ?_
          refine r_goto (tgt := 254) X dX10_chains_247 (by decide) ?_
          rw [if_neg c40] at J35
          exact J35
      refine r_ne (cx := v30) (tgt := 221) X (by rw [hv30]; exact (wI_ite rfl rfl)) dX10_chains_210 (by decide) (fun c41 => ?_) (fun c41 => ?_)
      · skip
        refine r_aln X dX10_chains_213 rfl (lv_at hl 1 rfl) ?_
        refine r_gi (kI := 35) X Y V ci_10 kd_118 35 rfl (by decide) rfl rfl wd_888 dX10_chains_214 ?_
        refine r_ic X dX10_chains_217 ?_
        refine r_cne (cx := wI (σ32 118 35)) (cy := (-1)) (tgt := 225) X rfl rfl dX10_chains_218 (by decide) (fun c42 => ?_) (fun c42 => ?_)
        · skip
          refine r_ic X dX10_chains_221 ?_
          refine r_goto (tgt := 232) X dX10_chains_222 (by decide) ?_
          rw [if_pos c41] at J33
          rw [if_pos c42] at J33
          exact J33
        · skip
          refine r_il X dX10_chains_225 (lv_at hl 7 rfl) ?_
          refine r_aln X dX10_chains_227 rfl (lv_at hl 1 rfl) ?_
          refine r_gi (kI := 35) X Y V ci_10 kd_118 35 rfl (by decide) rfl rfl wd_888 dX10_chains_228 ?_
          refine r_iadd X dX10_chains_231 ?_
          rw [if_pos c41] at J33
          rw [if_neg c42] at J33
          exact J33
      · skip
        refine r_ic X dX10_chains_221 ?_
        refine r_goto (tgt := 232) X dX10_chains_222 (by decide) ?_
        rw [if_neg c41] at J33
        exact J33
    refine r_eq (cx := v30) (tgt := 196) X (by rw [hv30]; exact (wI_ite rfl rfl)) dX10_chains_189 (by decide) (fun c43 => ?_) (fun c43 => ?_)
    · skip
      refine r_aln X dX10_chains_196 rfl (lv_at hl 1 rfl) ?_
      refine r_gi (kI := 34) X Y V ci_10 kd_118 34 rfl (by decide) rfl rfl wd_887 dX10_chains_197 ?_
      rw [if_pos c43] at J31
      exact J31
    · skip
      refine r_ic X dX10_chains_192 ?_
      refine r_goto (tgt := 200) X dX10_chains_193 (by decide) ?_
      rw [if_neg c43] at J31
      exact J31
  refine r_cne (cx := wI (x3 + 1)) (cy := wI (σ 118 3)) (tgt := 176) X rfl rfl dX10_chains_169 (by decide) (fun c44 => ?_) (fun c44 => ?_)
  · skip
    refine r_ic X dX10_chains_172 ?_
    refine r_goto (tgt := 177) X dX10_chains_173 (by decide) ?_
    rw [if_pos c44] at J29
    exact J29
  · skip
    refine r_ic X dX10_chains_176 ?_
    rw [if_neg c44] at J29
    exact J29

set_option maxRecDepth 100000 in
set_option maxHeartbeats 4000000 in
theorem wl_X10_chains_57 {p : Program} {l : Launch} {e : Env} {s : State} {m : MethodId} {args : Array Value} {below : List Frame} {meth : Method} {c : Code} {G : UG} (X : uvCx p m c cX10_chains 10 RX10 s args meth (Option.some Jvm.ClassFile.FieldType.boolean)) (Y : uvGd G s s.heap) (x1 : Int) (x2 : Int) (x3 : Int)  (r : Int) (σ' : St) (kx : St → Option (Int × St)) (hkx : ∀ (σ : St)  (H : Heap) (locs : List Loc) (ls : Array Slot), uvWo G σ s H locs → lv_has ls 10 [(0, .ref (G.2.2.1 118)), (1, .int (iV x1)), (2, .int (iV x2)), (3, .int (iV x3))] → kx σ  = some (r, σ') → W p l e { frames := 4, cells := 0, slots := 0, locals := 100 } s m args below meth c H locs 0 0 (MQ below (uvQz G r σ') args s 0 0 (uvA G)) (F0 m 282 ls [])) : ∀ (n : Nat) (σ : St) (x4 : Int) (H : Heap) (locs : List Loc) (ls : Array Slot), uvWo G σ s H locs → lv_has ls 10 [(0, .ref (G.2.2.1 118)), (1, .int (iV x1)), (2, .int (iV x2)), (3, .int (iV x3)), (4, .int (iV x4))] → lp_X10_chains_57 x1 x2 x3 kx n σ x4 = some (r, σ') → W p l e { frames := 4, cells := 0, slots := 0, locals := 100 } s m args below meth c H locs 0 0 (MQ below (uvQz G r σ') args s 0 0 (uvA G)) (F0 m 57 ls []) := by
  intro n
  induction n with
  | zero => intro σ x4 H locs ls V hl h; cases h
  | succ n ih =>
    intro σ x4 H locs ls V hl h
    rw [lp_X10_chains_57] at h
    refine r_il X dX10_chains_57 (lv_at hl 4 rfl) ?_
    refine r_aln X dX10_chains_59 rfl (lv_at hl 0 rfl) ?_
    refine r_gr X Y V ci_10 kd_118 26 rfl rfl (by decide) rfl rfl wd_879 dX10_chains_60 ?_
    refine r_iln X dX10_chains_63 rfl (lv_at hl 3 rfl) ?_
    obtain ⟨v13, hv13, hiv13, h⟩ := rdA_ex h
    refine r_ial X Y V kd_136 ln_136 hiv13 hv13 dX10_chains_64 ?_
    refine r_cge (cx := wI x4) (cy := wI v13) (tgt := 282) X rfl rfl dX10_chains_65 (by decide) (fun c14 => ?_) (fun c14 => ?_)
    · replace h := ite_t c14 h
      refine r_bp X dX10_chains_68 (by decide) ?_
      refine r_iln X dX10_chains_70 rfl (lv_at hl 3 rfl) ?_
      refine r_imul X dX10_chains_71 ?_
      refine r_il X dX10_chains_72 (lv_at hl 4 rfl) ?_
      refine r_iadd X dX10_chains_74 ?_
      obtain ⟨v15, hv15, h⟩ := bnd_ex h
      refine r_eqI hv15 ?_
      refine r_is (lv' := [(5, .int (iV v15)), (0, .ref (G.2.2.1 118)), (1, .int (iV x1)), (2, .int (iV x2)), (3, .int (iV x3)), (4, .int (iV x4))]) X dX10_chains_75 hl (by decide) rfl (fun ls hl => ?_)
      refine r_aln X dX10_chains_77 rfl (lv_at hl 1 rfl) ?_
      refine r_gr X Y V ci_10 kd_118 25 rfl rfl (by decide) rfl rfl wd_878 dX10_chains_78 ?_
      refine r_il X dX10_chains_81 (lv_at hl 0 rfl) ?_
      obtain ⟨v16, hv16, hiv16, h⟩ := rdA_ex h
      refine r_ial X Y V kd_135 ln_135 hiv16 hv16 dX10_chains_83 ?_
      refine r_is (lv' := [(6, .int (iV v16)), (5, .int (iV v15)), (0, .ref (G.2.2.1 118)), (1, .int (iV x1)), (2, .int (iV x2)), (3, .int (iV x3)), (4, .int (iV x4))]) X dX10_chains_84 hl (by decide) rfl (fun ls hl => ?_)
      refine r_aln X dX10_chains_86 rfl (lv_at hl 2 rfl) ?_
      refine r_iln X dX10_chains_87 rfl (lv_at hl 3 rfl) ?_
      refine r_il X dX10_chains_88 (lv_at hl 0 rfl) ?_
      refine r_iln X dX10_chains_90 rfl (lv_at hl 5 rfl) ?_
      obtain ⟨v17, hv17, h⟩ := bd1_ex h
      refine r_ki V (r_runV (As := [.int (iV x1), .int (iV v16), .int (iV x3)]) (rest := []) X Y V (c_X10_fitAs l G σ x1 v16 x3 _  hv17) mv_X10_fitAs wd_1162 ci_10 kd_118 ⟨rfl, rfl, Nat.le_of_ble_eq_true rfl, Nat.le_of_ble_eq_true rfl⟩ rfl rfl hl.1 (Nat.le_of_ble_eq_true rfl) ⟨Nat.le_refl 0, Nat.le_refl 0⟩ dX10_chains_91) (fun H locs V => ?_)
      refine r_is (lv' := [(7, .int (iV v17)), (6, .int (iV v16)), (5, .int (iV v15)), (0, .ref (G.2.2.1 118)), (1, .int (iV x1)), (2, .int (iV x2)), (3, .int (iV x3)), (4, .int (iV x4))]) X dX10_chains_94 hl (by decide) rfl (fun ls hl => ?_)
      refine r_aln X dX10_chains_96 rfl (lv_at hl 3 rfl) ?_
      obtain ⟨v18, σ19, hv18, h⟩ := bd2_ex h
      refine r_kv V (r_runV (As := []) (rest := []) X Y V (c_X10_begins l G σ  _ _  hv18) mv_X10_begins wd_1189 ci_10 kd_118 ⟨rfl, rfl, Nat.le_of_ble_eq_true rfl, Nat.le_of_ble_eq_true rfl⟩ rfl rfl hl.1 (Nat.le_of_ble_eq_true rfl) ⟨Nat.le_refl 0, Nat.le_refl 0⟩ dX10_chains_97) (fun H locs V => ?_)
      refine r_ic X dX10_chains_100 ?_
      refine r_is (lv' := [(8, .int (iV 0)), (7, .int (iV v17)), (6, .int (iV v16)), (5, .int (iV v15)), (0, .ref (G.2.2.1 118)), (1, .int (iV x1)), (2, .int (iV x2)), (3, .int (iV x3)), (4, .int (iV x4))]) X dX10_chains_101 hl (by decide) rfl (fun ls hl => ?_)
      refine wl_X10_chains_103 X Y x1 x2 x3 x4 v15 v16 v17  r σ' _ (fun σ28  H locs ls V hl h => ?_) 1000 σ19 0 _ _ _ V (lv_sub hl [4, 5, 6, 7, 8, 3, 2, 1, 0] rfl) h
      exact wj_X10_chains_162 X Y _ r σ' σ28 x1 x2 x3 x4 v15 v17  (fun σ m4 H locs ls V hl h => ih σ m4 H locs ls V hl h) _ _ _ V (lv_sub hl [0, 1, 2, 3, 4, 5, 6] rfl) h
    · replace h := ite_f c14 h
      exact hkx σ  _ _ _ V (lv_sub hl [0, 1, 2, 3] rfl) h

set_option maxRecDepth 100000 in
set_option maxHeartbeats 4000000 in
theorem wl_X10_chains_46 {p : Program} {l : Launch} {e : Env} {s : State} {m : MethodId} {args : Array Value} {below : List Frame} {meth : Method} {c : Code} {G : UG} (X : uvCx p m c cX10_chains 10 RX10 s args meth (Option.some Jvm.ClassFile.FieldType.boolean)) (Y : uvGd G s s.heap) (x1 : Int) (x2 : Int)  (r : Int) (σ' : St) (kx : St → Option (Int × St)) (hkx : ∀ (σ : St)  (H : Heap) (locs : List Loc) (ls : Array Slot), uvWo G σ s H locs → lv_has ls 10 [(0, .ref (G.2.2.1 118)), (2, .int (iV x2))] → kx σ  = some (r, σ') → W p l e { frames := 4, cells := 0, slots := 0, locals := 100 } s m args below meth c H locs 0 0 (MQ below (uvQz G r σ') args s 0 0 (uvA G)) (F0 m 288 ls [])) : ∀ (n : Nat) (σ : St) (x3 : Int) (H : Heap) (locs : List Loc) (ls : Array Slot), uvWo G σ s H locs → lv_has ls 10 [(0, .ref (G.2.2.1 118)), (1, .int (iV x1)), (2, .int (iV x2)), (3, .int (iV x3))] → lp_X10_chains_46 x1 x2 kx n σ x3 = some (r, σ') → W p l e { frames := 4, cells := 0, slots := 0, locals := 100 } s m args below meth c H locs 0 0 (MQ below (uvQz G r σ') args s 0 0 (uvA G)) (F0 m 46 ls []) := by
  intro n
  induction n with
  | zero => intro σ x3 H locs ls V hl h; cases h
  | succ n ih =>
    intro σ x3 H locs ls V hl h
    rw [lp_X10_chains_46] at h
    refine r_iln X dX10_chains_46 rfl (lv_at hl 3 rfl) ?_
    refine r_lt (cx := wI x3) (tgt := 288) X rfl dX10_chains_47 (by decide) (fun c11 => ?_) (fun c11 => ?_)
    · replace h := ite_t c11 h
      exact hkx σ  _ _ _ V (lv_sub hl [0, 2] rfl) h
    · replace h := ite_f c11 h
      refine r_iln X dX10_chains_50 rfl (lv_at hl 2 rfl) ?_
      refine r_eq (cx := wI x2) (tgt := 288) X rfl dX10_chains_51 (by decide) (fun c12 => ?_) (fun c12 => ?_)
      · replace h := ite_t c12 h
        exact hkx σ  _ _ _ V (lv_sub hl [0, 2] rfl) h
      · replace h := ite_f c12 h
        refine r_ic X dX10_chains_54 ?_
        refine r_is (lv' := [(4, .int (iV 0)), (0, .ref (G.2.2.1 118)), (1, .int (iV x1)), (2, .int (iV x2)), (3, .int (iV x3))]) X dX10_chains_55 hl (by decide) rfl (fun ls hl => ?_)
        refine wl_X10_chains_57 X Y x1 x2 x3  r σ' _ (fun σ45  H locs ls V hl h => ?_) 1000 σ 0 _ _ _ V (lv_sub hl [1, 2, 3, 4, 0] rfl) h
        refine r_inc (kk := 3) (lv' := [(3, .int (iV (x3 + (-1)))), (0, .ref (G.2.2.1 118)), (1, .int (iV x1)), (2, .int (iV x2))]) X dX10_chains_282 hl rfl (by decide) rfl (fun ls hl => ?_)
        refine r_goto (tgt := 46) X dX10_chains_285 (by decide) ?_
        exact ih σ45 (x3 + (-1)) _ _ _ V (lv_sub hl [1, 2, 3, 0] rfl) h

set_option maxRecDepth 100000 in
set_option maxHeartbeats 4000000 in
theorem wl_X10_chains_294 {p : Program} {l : Launch} {e : Env} {s : State} {m : MethodId} {args : Array Value} {below : List Frame} {meth : Method} {c : Code} {G : UG} (X : uvCx p m c cX10_chains 10 RX10 s args meth (Option.some Jvm.ClassFile.FieldType.boolean)) (Y : uvGd G s s.heap) (x2 : Int)  (r : Int) (σ' : St) (kx : St → Option (Int × St)) (hkx : ∀ (σ : St)  (H : Heap) (locs : List Loc) (ls : Array Slot), uvWo G σ s H locs → lv_has ls 10 [(2, .int (iV x2))] → kx σ  = some (r, σ') → W p l e { frames := 4, cells := 0, slots := 0, locals := 100 } s m args below meth c H locs 0 0 (MQ below (uvQz G r σ') args s 0 0 (uvA G)) (F0 m 320 ls [])) : ∀ (n : Nat) (σ : St) (x3 : Int) (H : Heap) (locs : List Loc) (ls : Array Slot), uvWo G σ s H locs → lv_has ls 10 [(0, .ref (G.2.2.1 118)), (2, .int (iV x2)), (3, .int (iV x3))] → lp_X10_chains_294 x2 kx n σ x3 = some (r, σ') → W p l e { frames := 4, cells := 0, slots := 0, locals := 100 } s m args below meth c H locs 0 0 (MQ below (uvQz G r σ') args s 0 0 (uvA G)) (F0 m 294 ls []) := by
  intro n
  induction n with
  | zero => intro σ x3 H locs ls V hl h; cases h
  | succ n ih =>
    intro σ x3 H locs ls V hl h
    rw [lp_X10_chains_294] at h
    refine r_iln X dX10_chains_294 rfl (lv_at hl 1 rfl) ?_
    refine r_eq (cx := wI x2) (tgt := 320) X rfl dX10_chains_295 (by decide) (fun c49 => ?_) (fun c49 => ?_)
    · replace h := ite_t c49 h
      exact hkx σ  _ _ _ V (lv_sub hl [1] rfl) h
    · replace h := ite_f c49 h
      refine r_iln X dX10_chains_298 rfl (lv_at hl 2 rfl) ?_
      refine r_aln X dX10_chains_299 rfl (lv_at hl 0 rfl) ?_
      refine r_gr X Y V ci_10 kd_118 26 rfl rfl (by decide) rfl rfl wd_879 dX10_chains_300 ?_
      refine r_ic X dX10_chains_303 ?_
      obtain ⟨v50, hv50, hiv50, h⟩ := rdA_ex h
      refine r_ial X Y V kd_136 ln_136 hiv50 hv50 dX10_chains_304 ?_
      refine r_cge (cx := wI x3) (cy := wI v50) (tgt := 320) X rfl rfl dX10_chains_305 (by decide) (fun c51 => ?_) (fun c51 => ?_)
      · replace h := ite_t c51 h
        refine r_aln X dX10_chains_308 rfl (lv_at hl 0 rfl) ?_
        refine r_iln X dX10_chains_309 rfl (lv_at hl 2 rfl) ?_
        refine r_ic X dX10_chains_310 ?_
        obtain ⟨v52, σ53, hv52, h⟩ := bd2_ex h
        refine r_kv V (r_runV (As := [.int (iV x3), .int (iV 0)]) (rest := []) X Y V (c_X10_takesIn l G σ x3 0 _ _  hv52) mv_X10_takesIn wd_1193 ci_10 kd_118 ⟨rfl, rfl, Nat.le_of_ble_eq_true rfl, Nat.le_of_ble_eq_true rfl⟩ rfl rfl hl.1 (Nat.le_of_ble_eq_true rfl) ⟨Nat.le_refl 0, Nat.le_refl 0⟩ dX10_chains_311) (fun H locs V => ?_)
        refine r_inc (kk := 2) (lv' := [(3, .int (iV (x3 + 1))), (0, .ref (G.2.2.1 118)), (2, .int (iV x2))]) X dX10_chains_314 hl rfl (by decide) rfl (fun ls hl => ?_)
        refine r_goto (tgt := 294) X dX10_chains_317 (by decide) ?_
        exact ih σ53 (x3 + 1) _ _ _ V (lv_sub hl [1, 2, 0] rfl) h
      · replace h := ite_f c51 h
        exact hkx σ  _ _ _ V (lv_sub hl [1] rfl) h

set_option maxRecDepth 100000 in
set_option maxHeartbeats 4000000 in
theorem wj_X10_chains_288 {p : Program} {l : Launch} {e : Env} {s : State} {m : MethodId} {args : Array Value} {below : List Frame} {meth : Method} {c : Code} {G : UG} (X : uvCx p m c cX10_chains 10 RX10 s args meth (Option.some Jvm.ClassFile.FieldType.boolean)) (Y : uvGd G s s.heap) (r : Int) (σ' : St) (σ : St) (x2 : Int)  (H : Heap) (locs : List Loc) (ls : Array Slot) (V : uvWo G σ s H locs) (hl : lv_has ls 10 [(0, .ref (G.2.2.1 118)), (2, .int (iV x2))]) (h : jn_X10_chains_288 σ x2 = some (r, σ')) : W p l e { frames := 4, cells := 0, slots := 0, locals := 100 } s m args below meth c H locs 0 0 (MQ below (uvQz G r σ') args s 0 0 (uvA G)) (F0 m 288 ls []) := by
  unfold jn_X10_chains_288 at h
  refine r_aln X dX10_chains_288 rfl (lv_at hl 0 rfl) ?_
  obtain ⟨v47, σ48, hv47, h⟩ := bd2_ex h
  refine r_kv V (r_runV (As := []) (rest := []) X Y V (c_X10_begins l G σ  _ _  hv47) mv_X10_begins wd_1189 ci_10 kd_118 ⟨rfl, rfl, Nat.le_of_ble_eq_true rfl, Nat.le_of_ble_eq_true rfl⟩ rfl rfl hl.1 (Nat.le_of_ble_eq_true rfl) ⟨Nat.le_refl 0, Nat.le_refl 0⟩ dX10_chains_289) (fun H locs V => ?_)
  refine r_ic X dX10_chains_292 ?_
  refine r_isn (lv' := [(3, .int (iV 0)), (0, .ref (G.2.2.1 118)), (2, .int (iV x2))]) X dX10_chains_293 rfl hl (by decide) rfl (fun ls hl => ?_)
  refine wl_X10_chains_294 X Y x2  r σ' _ (fun σ54  H locs ls V hl h => ?_) 1000 σ48 0 _ _ _ V (lv_sub hl [1, 2, 0] rfl) h
  refine r_iln X dX10_chains_320 rfl (lv_at hl 0 rfl) ?_
  obtain ⟨hz, h⟩ := ite_some h
  exact r_rz X V hz (so2 h).1 (so2 h).2 dX10_chains_321

set_option maxRecDepth 100000 in
set_option maxHeartbeats 4000000 in
theorem wj_X10_chains_39 {p : Program} {l : Launch} {e : Env} {s : State} {m : MethodId} {args : Array Value} {below : List Frame} {meth : Method} {c : Code} {G : UG} (X : uvCx p m c cX10_chains 10 RX10 s args meth (Option.some Jvm.ClassFile.FieldType.boolean)) (Y : uvGd G s s.heap) (r : Int) (σ' : St) (σ : St) (x1 : Int) (x2 : Int)  (H : Heap) (locs : List Loc) (ls : Array Slot) (V : uvWo G σ s H locs) (hl : lv_has ls 10 [(0, .ref (G.2.2.1 118)), (1, .int (iV x1)), (2, .int (iV x2))]) (h : jn_X10_chains_39 σ x1 x2 = some (r, σ')) : W p l e { frames := 4, cells := 0, slots := 0, locals := 100 } s m args below meth c H locs 0 0 (MQ below (uvQz G r σ') args s 0 0 (uvA G)) (F0 m 39 ls []) := by
  unfold jn_X10_chains_39 at h
  refine r_aln X dX10_chains_39 rfl (lv_at hl 0 rfl) ?_
  refine r_gi (kI := 3) X Y V ci_10 kd_118 3 rfl (by decide) rfl rfl wd_856 dX10_chains_40 ?_
  refine r_ic X dX10_chains_43 ?_
  refine r_isub X dX10_chains_44 ?_
  obtain ⟨v10, hv10, h⟩ := bnd_ex h
  refine r_eqI hv10 ?_
  refine r_isn (lv' := [(3, .int (iV v10)), (0, .ref (G.2.2.1 118)), (1, .int (iV x1)), (2, .int (iV x2))]) X dX10_chains_45 rfl hl (by decide) rfl (fun ls hl => ?_)
  refine wl_X10_chains_46 X Y x1 x2  r σ' _ (fun σ46  H locs ls V hl h => ?_) 1000 σ v10 _ _ _ V (lv_sub hl [1, 2, 3, 0] rfl) h
  exact wj_X10_chains_288 X Y r σ' σ46 x2  _ _ _ V (lv_sub hl [0, 1] rfl) h

set_option maxRecDepth 100000 in
set_option maxHeartbeats 4000000 in
theorem c_X10_chains (l : Launch) (G : UG) (σ : St) (a1 : Int) (r : Int) (σ' : St)  (h : f_X10_chains σ a1 = some (r, σ')) : Met l yX10_chains (.code yX10_chains cX10_chains 10 (Option.some Jvm.ClassFile.FieldType.boolean) :: TB) { frames := 4, cells := 0, slots := 0, locals := 100 } (uvPc G σ [.ref (G.2.2.1 118), .int (iV a1)]) (uvQz G r σ') 0 0 (uvA G) := by
  unfold f_X10_chains at h
  refine r_met (own := RX10) (lv := [(0, .ref (G.2.2.1 118)), (1, .int (iV a1))]) (by decide) rfl (Nat.le_of_ble_eq_true rfl) rfl ?_
  intro p e s m below meth c ls X Y V hl
  have go : ∀ (args : Array Value) (H : Heap) (locs : List Loc), uvCx p m c cX10_chains 10 RX10 s args meth (Option.some Jvm.ClassFile.FieldType.boolean) → uvWo G σ s H locs → W p l e { frames := 4, cells := 0, slots := 0, locals := 100 } s m args below meth c H locs 0 0 (MQ below (uvQz G r σ') args s 0 0 (uvA G)) (F0 m 0 ls []) := by
    intro args H locs X V
    refine r_aln X dX10_chains_0 rfl (lv_at hl 0 rfl) ?_
    refine r_gi (kI := 3) X Y V ci_10 kd_118 3 rfl (by decide) rfl rfl wd_856 dX10_chains_1 ?_
    have J1 : W p l e { frames := 4, cells := 0, slots := 0, locals := 100 } s m args below meth c H locs 0 0 (MQ below (uvQz G r σ') args s 0 0 (uvA G)) (F0 m 12 ls [.int (iV (if 0 < wI (σ 118 3) then 1 else 0))]) := by
      obtain ⟨v2, hv2, h⟩ := bnd_ex h
      refine r_eqI hv2 ?_
      refine r_isn (lv' := [(2, .int (iV v2)), (0, .ref (G.2.2.1 118)), (1, .int (iV a1))]) X dX10_chains_12 rfl hl (by decide) rfl (fun ls hl => ?_)
      refine r_ic X dX10_chains_13 ?_
      refine r_isn (lv' := [(3, .int (iV 0)), (2, .int (iV v2)), (0, .ref (G.2.2.1 118)), (1, .int (iV a1))]) X dX10_chains_14 rfl hl (by decide) rfl (fun ls hl => ?_)
      refine wl_X10_chains_15 X Y a1  r σ' _ (fun σ8 y9 H locs ls V hl h => ?_) 1000 σ v2 0 _ _ _ V (lv_sub hl [2, 3, 1, 0] rfl) h
      exact wj_X10_chains_39 X Y r σ' σ8 a1 y9  _ _ _ V (lv_sub hl [0, 1, 2] rfl) h
    refine r_le (cx := wI (σ 118 3)) (tgt := 11) X rfl dX10_chains_4 (by decide) (fun c55 => ?_) (fun c55 => ?_)
    · skip
      refine r_ic X dX10_chains_7 ?_
      refine r_goto (tgt := 12) X dX10_chains_8 (by decide) ?_
      rw [if_pos c55] at J1
      exact J1
    · skip
      refine r_ic X dX10_chains_11 ?_
      rw [if_neg c55] at J1
      exact J1
  exact go _ _ _ X V

set_option maxRecDepth 100000 in
set_option maxHeartbeats 4000000 in
theorem c_X10_fitNow (l : Launch) (G : UG) (σ0 : St) (a1 : Int) (a2 : Int) (r : Int)  (h : f_X10_fitNow σ0 a1 a2 = some r) : Met l yX10_fitNow (.code yX10_fitNow cX10_fitNow 3 (Option.some Jvm.ClassFile.FieldType.int) :: TB) { frames := 2, cells := 0, slots := 0, locals := 48 } (uvPc G σ0 [.ref (G.2.2.1 118), .int (iV a1), .int (iV a2)]) (uvQi G r σ0) 0 0 (uvA G) := by
  unfold f_X10_fitNow at h
  refine r_met (own := RX10) (lv := [(0, .ref (G.2.2.1 118)), (1, .int (iV a1)), (2, .int (iV a2))]) (by decide) rfl (Nat.le_of_ble_eq_true rfl) rfl ?_
  intro p e s m below meth c ls X Y V hl
  have go : ∀ (args : Array Value) (H : Heap) (locs : List Loc), uvCx p m c cX10_fitNow 3 RX10 s args meth (Option.some Jvm.ClassFile.FieldType.int) → uvWo G σ0 s H locs → W p l e { frames := 2, cells := 0, slots := 0, locals := 48 } s m args below meth c H locs 0 0 (MQ below (uvQi G r σ0) args s 0 0 (uvA G)) (F0 m 0 ls []) := by
    intro args H locs X V
    refine r_aln X dX10_fitNow_0 rfl (lv_at hl 0 rfl) ?_
    refine r_aln X dX10_fitNow_1 rfl (lv_at hl 0 rfl) ?_
    refine r_gi (kI := 39) X Y V ci_10 kd_118 39 rfl (by decide) rfl rfl wd_892 dX10_fitNow_2 ?_
    refine r_iln X dX10_fitNow_5 rfl (lv_at hl 1 rfl) ?_
    refine r_iln X dX10_fitNow_6 rfl (lv_at hl 2 rfl) ?_
    obtain ⟨v1, hv1, h⟩ := bd1_ex h
    refine r_ki V (r_runV (As := [.int (iV (σ0 118 39)), .int (iV a1), .int (iV a2)]) (rest := []) X Y V (c_X10_fitAs l G σ0 (σ0 118 39) a1 a2 _  hv1) mv_X10_fitAs wd_1162 ci_10 kd_118 ⟨rfl, rfl, Nat.le_of_ble_eq_true rfl, Nat.le_of_ble_eq_true rfl⟩ rfl rfl hl.1 (Nat.le_of_ble_eq_true rfl) ⟨Nat.le_refl 0, Nat.le_refl 0⟩ dX10_fitNow_7) (fun H locs V => ?_)
    exact r_ri X V (so1 h) rfl dX10_fitNow_10
  exact go _ _ _ X V

set_option maxRecDepth 100000 in
set_option maxHeartbeats 4000000 in
theorem wj_X10_layChain_68 {p : Program} {l : Launch} {e : Env} {s : State} {m : MethodId} {args : Array Value} {below : List Frame} {meth : Method} {c : Code} {G : UG} (X : uvCx p m c cX10_layChain 7 RX10 s args meth (Option.none : Option Jvm.ClassFile.FieldType)) (Y : uvGd G s s.heap) (kb : St → Int → Int → Option (Int × St)) (r : Int) (σ' : St) (σ : St) (x1 : Int) (x2 : Int) (x3 : Int) (x4 : Int) (x5 : Int) (t0 : Int)  (hkb : ∀ (σ : St) (m3 : Int) (m4 : Int) (H : Heap) (locs : List Loc) (ls : Array Slot), uvWo G σ s H locs → lv_has ls 7 [(0, .ref (G.2.2.1 118)), (1, .int (iV x1)), (2, .int (iV x2)), (3, .int (iV m3)), (4, .int (iV m4))] → kb σ m3 m4 = some (r, σ') → W p l e { frames := 3, cells := 0, slots := 0, locals := 70 } s m args below meth c H locs 0 0 (MQ below (uvQv G σ') args s 0 0 (uvA G)) (F0 m 27 ls [])) (H : Heap) (locs : List Loc) (ls : Array Slot) (V : uvWo G σ s H locs) (hl : lv_has ls 7 [(0, .ref (G.2.2.1 118)), (1, .int (iV x1)), (2, .int (iV x2)), (3, .int (iV x3)), (4, .int (iV x4)), (5, .int (iV x5))]) (h : jn_X10_layChain_68 kb σ x1 x2 x3 x4 x5 t0 = some (r, σ')) : W p l e { frames := 3, cells := 0, slots := 0, locals := 70 } s m args below meth c H locs 0 0 (MQ below (uvQv G σ') args s 0 0 (uvA G)) (F0 m 68 ls [.int (iV t0)]) := by
  unfold jn_X10_layChain_68 at h
  refine r_is (lv' := [(6, .int (iV t0)), (0, .ref (G.2.2.1 118)), (1, .int (iV x1)), (2, .int (iV x2)), (3, .int (iV x3)), (4, .int (iV x4)), (5, .int (iV x5))]) X dX10_layChain_68 hl (by decide) rfl (fun ls hl => ?_)
  refine r_aln X dX10_layChain_70 rfl (lv_at hl 1 rfl) ?_
  refine r_gr X Y V ci_10 kd_118 30 rfl rfl (by decide) rfl rfl wd_883 dX10_layChain_71 ?_
  refine r_il X dX10_layChain_74 (lv_at hl 6 rfl) ?_
  obtain ⟨v7, hv7, hiv7, h⟩ := rdA_ex h
  refine r_ial X Y V kd_137 ln_137 hiv7 hv7 dX10_layChain_76 ?_
  refine r_il X dX10_layChain_77 (lv_at hl 0 rfl) ?_
  refine r_iadd X dX10_layChain_79 ?_
  refine r_iln X dX10_layChain_80 rfl (lv_at hl 2 rfl) ?_
  have J8 : W p l e { frames := 3, cells := 0, slots := 0, locals := 70 } s m args below meth c H locs 0 0 (MQ below (uvQv G σ') args s 0 0 (uvA G)) (F0 m 90 ls [.int (iV (if wI (v7 + t0) = wI x1 then x4 else x3))]) := by
    obtain ⟨v9, hv9, h⟩ := bnd_ex h
    refine r_eqI hv9 ?_
    refine r_isn (lv' := [(3, .int (iV v9)), (6, .int (iV t0)), (0, .ref (G.2.2.1 118)), (1, .int (iV x1)), (2, .int (iV x2)), (4, .int (iV x4)), (5, .int (iV x5))]) X dX10_layChain_90 rfl hl (by decide) rfl (fun ls hl => ?_)
    refine r_inc (kk := 5) (lv' := [(4, .int (iV (x4 + (-1)))), (3, .int (iV v9)), (6, .int (iV t0)), (0, .ref (G.2.2.1 118)), (1, .int (iV x1)), (2, .int (iV x2)), (5, .int (iV x5))]) X dX10_layChain_91 hl rfl (by decide) rfl (fun ls hl => ?_)
    refine r_goto (tgt := 27) X dX10_layChain_94 (by decide) ?_
    exact hkb σ v9 (x4 + (-1)) _ _ _ V (lv_sub hl [3, 4, 5, 1, 0] rfl) h
  refine r_cne (cx := wI (v7 + t0)) (cy := wI x1) (tgt := 89) X rfl rfl dX10_layChain_81 (by decide) (fun c10 => ?_) (fun c10 => ?_)
  · skip
    refine r_il X dX10_layChain_84 (lv_at hl 5 rfl) ?_
    refine r_goto (tgt := 90) X dX10_layChain_86 (by decide) ?_
    rw [if_pos c10] at J8
    exact J8
  · skip
    refine r_iln X dX10_layChain_89 rfl (lv_at hl 4 rfl) ?_
    rw [if_neg c10] at J8
    exact J8

set_option maxRecDepth 100000 in
set_option maxHeartbeats 4000000 in
theorem wl_X10_layChain_27 {p : Program} {l : Launch} {e : Env} {s : State} {m : MethodId} {args : Array Value} {below : List Frame} {meth : Method} {c : Code} {G : UG} (X : uvCx p m c cX10_layChain 7 RX10 s args meth (Option.none : Option Jvm.ClassFile.FieldType)) (Y : uvGd G s s.heap) (x1 : Int) (x2 : Int)  (r : Int) (σ' : St) (kx : St → Int → Option (Int × St)) (hkx : ∀ (σ : St) (x3 : Int) (H : Heap) (locs : List Loc) (ls : Array Slot), uvWo G σ s H locs → lv_has ls 7 [(0, .ref (G.2.2.1 118)), (2, .int (iV x2)), (3, .int (iV x3))] → kx σ x3 = some (r, σ') → W p l e { frames := 3, cells := 0, slots := 0, locals := 70 } s m args below meth c H locs 0 0 (MQ below (uvQv G σ') args s 0 0 (uvA G)) (F0 m 97 ls [])) : ∀ (n : Nat) (σ : St) (x3 : Int) (x4 : Int) (H : Heap) (locs : List Loc) (ls : Array Slot), uvWo G σ s H locs → lv_has ls 7 [(0, .ref (G.2.2.1 118)), (1, .int (iV x1)), (2, .int (iV x2)), (3, .int (iV x3)), (4, .int (iV x4))] → lp_X10_layChain_27 x1 x2 kx n σ x3 x4 = some (r, σ') → W p l e { frames := 3, cells := 0, slots := 0, locals := 70 } s m args below meth c H locs 0 0 (MQ below (uvQv G σ') args s 0 0 (uvA G)) (F0 m 27 ls []) := by
  intro n
  induction n with
  | zero => intro σ x3 x4 H locs ls V hl h; cases h
  | succ n ih =>
    intro σ x3 x4 H locs ls V hl h
    rw [lp_X10_layChain_27] at h
    refine r_il X dX10_layChain_27 (lv_at hl 4 rfl) ?_
    refine r_lt (cx := wI x4) (tgt := 97) X rfl dX10_layChain_29 (by decide) (fun c4 => ?_) (fun c4 => ?_)
    · replace h := ite_t c4 h
      exact hkx σ x3 _ _ _ V (lv_sub hl [0, 2, 3] rfl) h
    · replace h := ite_f c4 h
      refine r_bp X dX10_layChain_32 (by decide) ?_
      refine r_iln X dX10_layChain_34 rfl (lv_at hl 2 rfl) ?_
      refine r_imul X dX10_layChain_35 ?_
      refine r_il X dX10_layChain_36 (lv_at hl 4 rfl) ?_
      refine r_iadd X dX10_layChain_38 ?_
      obtain ⟨v5, hv5, h⟩ := bnd_ex h
      refine r_eqI hv5 ?_
      refine r_is (lv' := [(5, .int (iV v5)), (0, .ref (G.2.2.1 118)), (1, .int (iV x1)), (2, .int (iV x2)), (3, .int (iV x3)), (4, .int (iV x4))]) X dX10_layChain_39 hl (by decide) rfl (fun ls hl => ?_)
      refine r_iln X dX10_layChain_41 rfl (lv_at hl 3 rfl) ?_
      refine r_ne (cx := wI x2) (tgt := 49) X rfl dX10_layChain_42 (by decide) (fun c6 => ?_) (fun c6 => ?_)
      · replace h := ite_t c6 h
        refine r_ic X dX10_layChain_45 ?_
        refine r_goto (tgt := 68) X dX10_layChain_46 (by decide) ?_
        exact wj_X10_layChain_68 X Y _ r σ' σ x1 x2 x3 x4 v5 0  (fun σ m3 m4 H locs ls V hl h => ih σ m3 m4 H locs ls V hl h) _ _ _ V (lv_sub hl [1, 2, 3, 4, 5, 0] rfl) h
      · replace h := ite_f c6 h
        refine r_aln X dX10_layChain_49 rfl (lv_at hl 1 rfl) ?_
        refine r_aln X dX10_layChain_50 rfl (lv_at hl 1 rfl) ?_
        refine r_gr X Y V ci_10 kd_118 38 rfl rfl (by decide) rfl rfl wd_891 dX10_layChain_51 ?_
        refine r_iln X dX10_layChain_54 rfl (lv_at hl 3 rfl) ?_
        refine r_ic X dX10_layChain_55 ?_
        refine r_isub X dX10_layChain_56 ?_
        obtain ⟨v11, hv11, hiv11, h⟩ := rdA_ex h
        refine r_ial X Y V kd_141 ln_141 hiv11 hv11 dX10_layChain_57 ?_
        refine r_aln X dX10_layChain_58 rfl (lv_at hl 1 rfl) ?_
        refine r_gr X Y V ci_10 kd_118 25 rfl rfl (by decide) rfl rfl wd_878 dX10_layChain_59 ?_
        refine r_il X dX10_layChain_62 (lv_at hl 0 rfl) ?_
        obtain ⟨v12, hv12, hiv12, h⟩ := rdA_ex h
        refine r_ial X Y V kd_135 ln_135 hiv12 hv12 dX10_layChain_64 ?_
        obtain ⟨v13, hv13, h⟩ := bd1_ex h
        refine r_ki V (r_runV (As := [.int (iV v11), .int (iV v12)]) (rest := []) X Y V (c_X10_jointOf l G σ v11 v12 _  hv13) mv_X10_jointOf wd_1173 ci_10 kd_118 ⟨rfl, rfl, Nat.le_of_ble_eq_true rfl, Nat.le_of_ble_eq_true rfl⟩ rfl rfl hl.1 (Nat.le_of_ble_eq_true rfl) ⟨Nat.le_refl 0, Nat.le_refl 0⟩ dX10_layChain_65) (fun H locs V => ?_)
        exact wj_X10_layChain_68 X Y _ r σ' σ x1 x2 x3 x4 v5 v13  (fun σ m3 m4 H locs ls V hl h => ih σ m3 m4 H locs ls V hl h) _ _ _ V (lv_sub hl [1, 2, 3, 4, 5, 0] rfl) h

set_option maxRecDepth 100000 in
set_option maxHeartbeats 4000000 in
theorem wl_X10_layChain_7 {p : Program} {l : Launch} {e : Env} {s : State} {m : MethodId} {args : Array Value} {below : List Frame} {meth : Method} {c : Code} {G : UG} (X : uvCx p m c cX10_layChain 7 RX10 s args meth (Option.none : Option Jvm.ClassFile.FieldType)) (Y : uvGd G s s.heap)   (r : Int) (σ' : St) (kx : St → Option (Int × St)) (hkx : ∀ (σ : St)  (H : Heap) (locs : List Loc) (ls : Array Slot), uvWo G σ s H locs → lv_has ls 7 [] → kx σ  = some (r, σ') → W p l e { frames := 3, cells := 0, slots := 0, locals := 70 } s m args below meth c H locs 0 0 (MQ below (uvQv G σ') args s 0 0 (uvA G)) (F0 m 144 ls [])) : ∀ (n : Nat) (σ : St) (x1 : Int) (x2 : Int) (H : Heap) (locs : List Loc) (ls : Array Slot), uvWo G σ s H locs → lv_has ls 7 [(0, .ref (G.2.2.1 118)), (1, .int (iV x1)), (2, .int (iV x2))] → lp_X10_layChain_7 kx n σ x1 x2 = some (r, σ') → W p l e { frames := 3, cells := 0, slots := 0, locals := 70 } s m args below meth c H locs 0 0 (MQ below (uvQv G σ') args s 0 0 (uvA G)) (F0 m 7 ls []) := by
  intro n
  induction n with
  | zero => intro σ x1 x2 H locs ls V hl h; cases h
  | succ n ih =>
    intro σ x1 x2 H locs ls V hl h
    rw [lp_X10_layChain_7] at h
    refine r_iln X dX10_layChain_7 rfl (lv_at hl 2 rfl) ?_
    refine r_aln X dX10_layChain_8 rfl (lv_at hl 0 rfl) ?_
    refine r_gi (kI := 3) X Y V ci_10 kd_118 3 rfl (by decide) rfl rfl wd_856 dX10_layChain_9 ?_
    refine r_cge (cx := wI x2) (cy := wI (σ 118 3)) (tgt := 144) X rfl rfl dX10_layChain_12 (by decide) (fun c1 => ?_) (fun c1 => ?_)
    · replace h := ite_t c1 h
      refine r_ic X dX10_layChain_15 ?_
      refine r_isn (lv' := [(3, .int (iV (-1))), (0, .ref (G.2.2.1 118)), (1, .int (iV x1)), (2, .int (iV x2))]) X dX10_layChain_16 rfl hl (by decide) rfl (fun ls hl => ?_)
      refine r_aln X dX10_layChain_17 rfl (lv_at hl 1 rfl) ?_
      refine r_gr X Y V ci_10 kd_118 26 rfl rfl (by decide) rfl rfl wd_879 dX10_layChain_18 ?_
      refine r_iln X dX10_layChain_21 rfl (lv_at hl 3 rfl) ?_
      obtain ⟨v2, hv2, hiv2, h⟩ := rdA_ex h
      refine r_ial X Y V kd_136 ln_136 hiv2 hv2 dX10_layChain_22 ?_
      refine r_ic X dX10_layChain_23 ?_
      refine r_isub X dX10_layChain_24 ?_
      obtain ⟨v3, hv3, h⟩ := bnd_ex h
      refine r_eqI hv3 ?_
      refine r_is (lv' := [(4, .int (iV v3)), (3, .int (iV (-1))), (0, .ref (G.2.2.1 118)), (1, .int (iV x1)), (2, .int (iV x2))]) X dX10_layChain_25 hl (by decide) rfl (fun ls hl => ?_)
      refine wl_X10_layChain_27 X Y x1 x2  r σ' _ (fun σ14 y15 H locs ls V hl h => ?_) 1000 σ (-1) v3 _ _ _ V (lv_sub hl [2, 3, 4, 1, 0] rfl) h
      refine r_bp X dX10_layChain_97 (by decide) ?_
      refine r_iln X dX10_layChain_99 rfl (lv_at hl 1 rfl) ?_
      refine r_imul X dX10_layChain_100 ?_
      refine r_iln X dX10_layChain_101 rfl (lv_at hl 2 rfl) ?_
      refine r_iadd X dX10_layChain_102 ?_
      obtain ⟨v16, hv16, h⟩ := bnd_ex h
      refine r_eqI hv16 ?_
      refine r_is (lv' := [(4, .int (iV v16)), (0, .ref (G.2.2.1 118)), (2, .int (iV x2)), (3, .int (iV y15))]) X dX10_layChain_103 hl (by decide) rfl (fun ls hl => ?_)
      refine r_aln X dX10_layChain_105 rfl (lv_at hl 1 rfl) ?_
      refine r_gr X Y V ci_10 kd_118 25 rfl rfl (by decide) rfl rfl wd_878 dX10_layChain_106 ?_
      refine r_il X dX10_layChain_109 (lv_at hl 0 rfl) ?_
      obtain ⟨v17, hv17, hiv17, h⟩ := rdA_ex h
      refine r_ial X Y V kd_135 ln_135 hiv17 hv17 dX10_layChain_111 ?_
      refine r_is (lv' := [(5, .int (iV v17)), (4, .int (iV v16)), (0, .ref (G.2.2.1 118)), (2, .int (iV x2)), (3, .int (iV y15))]) X dX10_layChain_112 hl (by decide) rfl (fun ls hl => ?_)
      refine r_aln X dX10_layChain_114 rfl (lv_at hl 2 rfl) ?_
      refine r_gr X Y V ci_10 kd_118 30 rfl rfl (by decide) rfl rfl wd_883 dX10_layChain_115 ?_
      refine r_il X dX10_layChain_118 (lv_at hl 1 rfl) ?_
      obtain ⟨v18, hv18, hiv18, h⟩ := rdA_ex h
      refine r_ial X Y V kd_137 ln_137 hiv18 hv18 dX10_layChain_120 ?_
      refine r_aln X dX10_layChain_121 rfl (lv_at hl 2 rfl) ?_
      refine r_il X dX10_layChain_122 (lv_at hl 0 rfl) ?_
      refine r_iln X dX10_layChain_124 rfl (lv_at hl 3 rfl) ?_
      obtain ⟨v19, hv19, h⟩ := bd1_ex h
      refine r_ki V (r_runV (As := [.int (iV v17), .int (iV x2)]) (rest := [.int (iV v18)]) X Y V (c_X10_fitNow l G σ14 v17 x2 _  hv19) mv_X10_fitNow wd_1211 ci_10 kd_118 ⟨rfl, rfl, Nat.le_of_ble_eq_true rfl, Nat.le_of_ble_eq_true rfl⟩ rfl rfl hl.1 (Nat.le_of_ble_eq_true rfl) ⟨Nat.le_refl 0, Nat.le_refl 0⟩ dX10_layChain_125) (fun H locs V => ?_)
      refine r_isub X dX10_layChain_128 ?_
      obtain ⟨v20, hv20, h⟩ := bnd_ex h
      refine r_eqI hv20 ?_
      refine r_isn (lv' := [(1, .int (iV v20)), (5, .int (iV v17)), (4, .int (iV v16)), (0, .ref (G.2.2.1 118)), (2, .int (iV x2)), (3, .int (iV y15))]) X dX10_layChain_129 rfl hl (by decide) rfl (fun ls hl => ?_)
      refine r_aln X dX10_layChain_130 rfl (lv_at hl 3 rfl) ?_
      refine r_gr X Y V ci_10 kd_118 38 rfl rfl (by decide) rfl rfl wd_891 dX10_layChain_131 ?_
      refine r_iln X dX10_layChain_134 rfl (lv_at hl 4 rfl) ?_
      refine r_il X dX10_layChain_135 (lv_at hl 1 rfl) ?_
      obtain ⟨σ21, hσ21, hiσ21, h⟩ := wrA_ex h
      refine r_ias X Y V kd_141 ln_141 hiσ21 hσ21 dX10_layChain_137 (fun H locs V => ?_)
      refine r_inc (kk := 4) (lv' := [(2, .int (iV (x2 + 1))), (1, .int (iV v20)), (5, .int (iV v17)), (4, .int (iV v16)), (0, .ref (G.2.2.1 118)), (3, .int (iV y15))]) X dX10_layChain_138 hl rfl (by decide) rfl (fun ls hl => ?_)
      refine r_goto (tgt := 7) X dX10_layChain_141 (by decide) ?_
      exact ih σ21 v20 (x2 + 1) _ _ _ V (lv_sub hl [4, 1, 0] rfl) h
    · replace h := ite_f c1 h
      exact hkx σ  _ _ _ V (lv_sub hl [] rfl) h

set_option maxRecDepth 100000 in
set_option maxHeartbeats 4000000 in
theorem c_X10_layChain (l : Launch) (G : UG) (σ : St)  (r : Int) (σ' : St)  (h : f_X10_layChain σ = some (r, σ')) : Met l yX10_layChain (.code yX10_layChain cX10_layChain 7 (Option.none : Option Jvm.ClassFile.FieldType) :: TB) { frames := 3, cells := 0, slots := 0, locals := 70 } (uvPc G σ [.ref (G.2.2.1 118)]) (uvQv G σ') 0 0 (uvA G) := by
  unfold f_X10_layChain at h
  refine r_met (own := RX10) (lv := [(0, .ref (G.2.2.1 118))]) (by decide) rfl (Nat.le_of_ble_eq_true rfl) rfl ?_
  intro p e s m below meth c ls X Y V hl
  have go : ∀ (args : Array Value) (H : Heap) (locs : List Loc), uvCx p m c cX10_layChain 7 RX10 s args meth (Option.none : Option Jvm.ClassFile.FieldType) → uvWo G σ s H locs → W p l e { frames := 3, cells := 0, slots := 0, locals := 70 } s m args below meth c H locs 0 0 (MQ below (uvQv G σ') args s 0 0 (uvA G)) (F0 m 0 ls []) := by
    intro args H locs X V
    refine r_aln X dX10_layChain_0 rfl (lv_at hl 0 rfl) ?_
    refine r_gi (kI := 34) X Y V ci_10 kd_118 34 rfl (by decide) rfl rfl wd_887 dX10_layChain_1 ?_
    refine r_isn (lv' := [(1, .int (iV (σ 118 34))), (0, .ref (G.2.2.1 118))]) X dX10_layChain_4 rfl hl (by decide) rfl (fun ls hl => ?_)
    refine r_ic X dX10_layChain_5 ?_
    refine r_isn (lv' := [(2, .int (iV 0)), (1, .int (iV (σ 118 34))), (0, .ref (G.2.2.1 118))]) X dX10_layChain_6 rfl hl (by decide) rfl (fun ls hl => ?_)
    refine wl_X10_layChain_7 X Y   r σ' _ (fun σ22  H locs ls V hl h => ?_) 1000 σ (σ 118 34) 0 _ _ _ V (lv_sub hl [2, 1, 0] rfl) h
    exact r_rv X V (so2 h).2 dX10_layChain_144
  exact go _ _ _ X V

set_option maxRecDepth 100000 in
set_option maxHeartbeats 4000000 in
theorem c_X10_chainsNow (l : Launch) (G : UG) (σ : St)  (r : Int) (σ' : St)  (h : f_X10_chainsNow σ = some (r, σ')) : Met l yX10_chainsNow (.code yX10_chainsNow cX10_chainsNow 1 (Option.some Jvm.ClassFile.FieldType.boolean) :: TB) { frames := 5, cells := 0, slots := 0, locals := 129 } (uvPc G σ [.ref (G.2.2.1 118)]) (uvQz G r σ') 0 0 (uvA G) := by
  unfold f_X10_chainsNow at h
  refine r_met (own := RX10) (lv := [(0, .ref (G.2.2.1 118))]) (by decide) rfl (Nat.le_of_ble_eq_true rfl) rfl ?_
  intro p e s m below meth c ls X Y V hl
  have go : ∀ (args : Array Value) (H : Heap) (locs : List Loc), uvCx p m c cX10_chainsNow 1 RX10 s args meth (Option.some Jvm.ClassFile.FieldType.boolean) → uvWo G σ s H locs → W p l e { frames := 5, cells := 0, slots := 0, locals := 129 } s m args below meth c H locs 0 0 (MQ below (uvQz G r σ') args s 0 0 (uvA G)) (F0 m 0 ls []) := by
    intro args H locs X V
    refine r_aln X dX10_chainsNow_0 rfl (lv_at hl 0 rfl) ?_
    refine r_aln X dX10_chainsNow_1 rfl (lv_at hl 0 rfl) ?_
    refine r_gi (kI := 5) X Y V ci_10 kd_118 5 rfl (by decide) rfl rfl wd_858 dX10_chainsNow_2 ?_
    obtain ⟨σ1, hσ1, h⟩ := wrF_ex h
    refine r_pi X Y V ci_10 kd_118 39 rfl (by decide) rfl rfl rfl (tyX10_ok 39 (by decide)) wd_892 hσ1 dX10_chainsNow_5 (fun H locs V => ?_)
    refine r_aln X dX10_chainsNow_8 rfl (lv_at hl 0 rfl) ?_
    refine r_aln X dX10_chainsNow_9 rfl (lv_at hl 0 rfl) ?_
    refine r_gi (kI := 5) X Y V ci_10 kd_118 5 rfl (by decide) rfl rfl wd_858 dX10_chainsNow_10 ?_
    obtain ⟨v2, σ3, hv2, h⟩ := bd2_ex h
    refine r_kz V (r_runV (As := [.int (iV (σ1 118 5))]) (rest := []) X Y V (c_X10_chains l G σ1 (σ1 118 5) _ _  hv2) mv_X10_chains wd_1185 ci_10 kd_118 ⟨rfl, rfl, Nat.le_of_ble_eq_true rfl, Nat.le_of_ble_eq_true rfl⟩ rfl rfl hl.1 (Nat.le_of_ble_eq_true rfl) ⟨Nat.le_refl 0, Nat.le_refl 0⟩ dX10_chainsNow_13) (fun H locs V z4 => ?_)
    exact r_rz X V z4 (so2 h).1 (so2 h).2 dX10_chainsNow_16
  exact go _ _ _ X V

set_option maxRecDepth 100000 in
set_option maxHeartbeats 4000000 in
theorem c_X10_cost (l : Launch) (G : UG) (σ : St)  (r : Int) (σ' : St)  (h : f_X10_cost σ = some (r, σ')) : Met l yX10_cost (.code yX10_cost cX10_cost 1 (Option.some Jvm.ClassFile.FieldType.int) :: TB) { frames := 6, cells := 0, slots := 0, locals := 149 } (uvPc G σ [.ref (G.2.2.1 118)]) (uvQi G r σ') 0 0 (uvA G) := by
  unfold f_X10_cost at h
  refine r_met (own := RX10) (lv := [(0, .ref (G.2.2.1 118))]) (by decide) rfl (Nat.le_of_ble_eq_true rfl) rfl ?_
  intro p e s m below meth c ls X Y V hl
  have go : ∀ (args : Array Value) (H : Heap) (locs : List Loc), uvCx p m c cX10_cost 1 RX10 s args meth (Option.some Jvm.ClassFile.FieldType.int) → uvWo G σ s H locs → W p l e { frames := 6, cells := 0, slots := 0, locals := 149 } s m args below meth c H locs 0 0 (MQ below (uvQi G r σ') args s 0 0 (uvA G)) (F0 m 0 ls []) := by
    intro args H locs X V
    refine r_aln X dX10_cost_0 rfl (lv_at hl 0 rfl) ?_
    obtain ⟨v1, σ2, hv1, h⟩ := bd2_ex h
    refine r_kz V (r_runV (As := []) (rest := []) X Y V (c_X10_chainsNow l G σ  _ _  hv1) mv_X10_chainsNow wd_1181 ci_10 kd_118 ⟨rfl, rfl, Nat.le_of_ble_eq_true rfl, Nat.le_of_ble_eq_true rfl⟩ rfl rfl hl.1 (Nat.le_of_ble_eq_true rfl) ⟨Nat.le_refl 0, Nat.le_refl 0⟩ dX10_cost_1) (fun H locs V z3 => ?_)
    refine r_eq (cx := v1) (tgt := 14) X (wI_01 z3) dX10_cost_4 (by decide) (fun c4 => ?_) (fun c4 => ?_)
    · replace h := ite_t c4 h
      refine r_aln X dX10_cost_14 rfl (lv_at hl 0 rfl) ?_
      obtain ⟨v5, σ6, hv5, h⟩ := bd2_ex h
      refine r_ki V (r_runV (As := []) (rest := []) X Y V (c_X10_no l G σ2  _ _  hv5) mv_X10_no wd_1146 ci_10 kd_118 ⟨rfl, rfl, Nat.le_of_ble_eq_true rfl, Nat.le_of_ble_eq_true rfl⟩ rfl rfl hl.1 (Nat.le_of_ble_eq_true rfl) ⟨Nat.le_refl 0, Nat.le_refl 0⟩ dX10_cost_15) (fun H locs V => ?_)
      exact r_ri X V (so2 h).1 (so2 h).2 dX10_cost_18
    · replace h := ite_f c4 h
      refine r_aln X dX10_cost_7 rfl (lv_at hl 0 rfl) ?_
      refine r_gi (kI := 34) X Y V ci_10 kd_118 34 rfl (by decide) rfl rfl wd_887 dX10_cost_8 ?_
      refine r_goto (tgt := 18) X dX10_cost_11 (by decide) ?_
      exact r_ri X V (so2 h).1 (so2 h).2 dX10_cost_18
  exact go _ _ _ X V

set_option maxRecDepth 100000 in
set_option maxHeartbeats 4000000 in
theorem wj_X10_chain_34 {p : Program} {l : Launch} {e : Env} {s : State} {m : MethodId} {args : Array Value} {below : List Frame} {meth : Method} {c : Code} {G : UG} (X : uvCx p m c cX10_chain 2 RX10 s args meth (Option.some Jvm.ClassFile.FieldType.int)) (Y : uvGd G s s.heap) (r : Int) (σ' : St) (σ : St) (x1 : Int)  (H : Heap) (locs : List Loc) (ls : Array Slot) (V : uvWo G σ s H locs) (hl : lv_has ls 2 [(0, .ref (G.2.2.1 118)), (1, .int (iV x1))]) (h : jn_X10_chain_34 σ x1 = some (r, σ')) : W p l e { frames := 6, cells := 0, slots := 0, locals := 149 } s m args below meth c H locs 0 0 (MQ below (uvQi G r σ') args s 0 0 (uvA G)) (F0 m 34 ls []) := by
  unfold jn_X10_chain_34 at h
  refine r_aln X dX10_chain_34 rfl (lv_at hl 0 rfl) ?_
  obtain ⟨v7, σ8, hv7, h⟩ := bd2_ex h
  refine r_kz V (r_runV (As := []) (rest := []) X Y V (c_X10_chainsNow l G σ  _ _  hv7) mv_X10_chainsNow wd_1181 ci_10 kd_118 ⟨rfl, rfl, Nat.le_of_ble_eq_true rfl, Nat.le_of_ble_eq_true rfl⟩ rfl rfl hl.1 (Nat.le_of_ble_eq_true rfl) ⟨Nat.le_refl 0, Nat.le_refl 0⟩ dX10_chain_35) (fun H locs V z9 => ?_)
  refine r_ne (cx := v7) (tgt := 46) X (wI_01 z9) dX10_chain_38 (by decide) (fun c10 => ?_) (fun c10 => ?_)
  · replace h := ite_t c10 h
    refine r_aln X dX10_chain_41 rfl (lv_at hl 0 rfl) ?_
    obtain ⟨v11, σ12, hv11, h⟩ := bd2_ex h
    refine r_ki V (r_runV (As := []) (rest := []) X Y V (c_X10_no l G σ8  _ _  hv11) mv_X10_no wd_1146 ci_10 kd_118 ⟨rfl, rfl, Nat.le_of_ble_eq_true rfl, Nat.le_of_ble_eq_true rfl⟩ rfl rfl hl.1 (Nat.le_of_ble_eq_true rfl) ⟨Nat.le_refl 0, Nat.le_refl 0⟩ dX10_chain_42) (fun H locs V => ?_)
    exact r_ri X V (so2 h).1 (so2 h).2 dX10_chain_45
  · replace h := ite_f c10 h
    refine r_aln X dX10_chain_46 rfl (lv_at hl 0 rfl) ?_
    obtain ⟨v13, σ14, hv13, h⟩ := bd2_ex h
    refine r_kv V (r_runV (As := []) (rest := []) X Y V (c_X10_layChain l G σ8  _ _  hv13) mv_X10_layChain wd_1207 ci_10 kd_118 ⟨rfl, rfl, Nat.le_of_ble_eq_true rfl, Nat.le_of_ble_eq_true rfl⟩ rfl rfl hl.1 (Nat.le_of_ble_eq_true rfl) ⟨Nat.le_refl 0, Nat.le_refl 0⟩ dX10_chain_47) (fun H locs V => ?_)
    refine r_aln X dX10_chain_50 rfl (lv_at hl 0 rfl) ?_
    refine r_gr X Y V ci_10 kd_118 38 rfl rfl (by decide) rfl rfl wd_891 dX10_chain_51 ?_
    refine r_iln X dX10_chain_54 rfl (lv_at hl 1 rfl) ?_
    obtain ⟨v15, hv15, hiv15, h⟩ := rdA_ex h
    refine r_ial X Y V kd_141 ln_141 hiv15 hv15 dX10_chain_55 ?_
    exact r_ri X V (so2 h).1 (so2 h).2 dX10_chain_56

set_option maxRecDepth 100000 in
set_option maxHeartbeats 4000000 in
theorem c_X10_chain (l : Launch) (G : UG) (σ : St) (a1 : Int) (r : Int) (σ' : St)  (h : f_X10_chain σ a1 = some (r, σ')) : Met l yX10_chain (.code yX10_chain cX10_chain 2 (Option.some Jvm.ClassFile.FieldType.int) :: TB) { frames := 6, cells := 0, slots := 0, locals := 149 } (uvPc G σ [.ref (G.2.2.1 118), .int (iV a1)]) (uvQi G r σ') 0 0 (uvA G) := by
  unfold f_X10_chain at h
  refine r_met (own := RX10) (lv := [(0, .ref (G.2.2.1 118)), (1, .int (iV a1))]) (by decide) rfl (Nat.le_of_ble_eq_true rfl) rfl ?_
  intro p e s m below meth c ls X Y V hl
  have go : ∀ (args : Array Value) (H : Heap) (locs : List Loc), uvCx p m c cX10_chain 2 RX10 s args meth (Option.some Jvm.ClassFile.FieldType.int) → uvWo G σ s H locs → W p l e { frames := 6, cells := 0, slots := 0, locals := 149 } s m args below meth c H locs 0 0 (MQ below (uvQi G r σ') args s 0 0 (uvA G)) (F0 m 0 ls []) := by
    intro args H locs X V
    refine r_iln X dX10_chain_0 rfl (lv_at hl 1 rfl) ?_
    refine r_i2l X dX10_chain_1 ?_
    refine r_lc (v := 0) X dX10_chain_2 rfl ?_
    refine r_ldc2 X (n := 7) wd_1133 (by decide) dX10_chain_3 ?_
    refine r_kz V (r_runS (As := [.long (lV (i2lI a1)), .long (lV 0), .long (lV 7)]) (rest := []) X Y V (c_X10_in l G σ (i2lI a1) 0 7 _  rfl) ms_X10_in wd_982 ⟨rfl, rfl, Nat.le_of_ble_eq_true rfl, Nat.le_of_ble_eq_true rfl⟩ rfl rfl hl.1 (Nat.le_of_ble_eq_true rfl) ⟨Nat.le_refl 0, Nat.le_refl 0⟩ dX10_chain_6) (fun H locs V z1 => ?_)
    refine r_eq (cx := (f_X10_in (i2lI a1) 0 7)) (tgt := 27) X (wI_01 z1) dX10_chain_9 (by decide) (fun c2 => ?_) (fun c2 => ?_)
    · replace h := ite_t c2 h
      refine r_aln X dX10_chain_27 rfl (lv_at hl 0 rfl) ?_
      refine r_bp X dX10_chain_28 (by decide) ?_
      obtain ⟨v3, σ4, hv3, h⟩ := bd2_ex h
      refine r_ki V (r_runV (As := [.int (iV (-2))]) (rest := []) X Y V (c_X10_bad l G σ (-2) _ _  hv3) mv_X10_bad wd_988 ci_10 kd_118 ⟨rfl, rfl, Nat.le_of_ble_eq_true rfl, Nat.le_of_ble_eq_true rfl⟩ rfl rfl hl.1 (Nat.le_of_ble_eq_true rfl) ⟨Nat.le_refl 0, Nat.le_refl 0⟩ dX10_chain_30) (fun H locs V => ?_)
      exact r_ri X V (so2 h).1 (so2 h).2 dX10_chain_33
    · replace h := ite_f c2 h
      refine r_aln X dX10_chain_12 rfl (lv_at hl 0 rfl) ?_
      refine r_gi (kI := 3) X Y V ci_10 kd_118 3 rfl (by decide) rfl rfl wd_856 dX10_chain_13 ?_
      refine r_le (cx := wI (σ 118 3)) (tgt := 34) X rfl dX10_chain_16 (by decide) (fun c5 => ?_) (fun c5 => ?_)
      · replace h := ite_t c5 h
        refine r_iln X dX10_chain_19 rfl (lv_at hl 1 rfl) ?_
        refine r_aln X dX10_chain_20 rfl (lv_at hl 0 rfl) ?_
        refine r_gi (kI := 3) X Y V ci_10 kd_118 3 rfl (by decide) rfl rfl wd_856 dX10_chain_21 ?_
        refine r_clt (cx := wI a1) (cy := wI (σ 118 3)) (tgt := 34) X rfl rfl dX10_chain_24 (by decide) (fun c6 => ?_) (fun c6 => ?_)
        · replace h := ite_t c6 h
          exact wj_X10_chain_34 X Y r σ' σ a1  _ _ _ V (lv_sub hl [0, 1] rfl) h
        · replace h := ite_f c6 h
          refine r_aln X dX10_chain_27 rfl (lv_at hl 0 rfl) ?_
          refine r_bp X dX10_chain_28 (by decide) ?_
          obtain ⟨v16, σ17, hv16, h⟩ := bd2_ex h
          refine r_ki V (r_runV (As := [.int (iV (-2))]) (rest := []) X Y V (c_X10_bad l G σ (-2) _ _  hv16) mv_X10_bad wd_988 ci_10 kd_118 ⟨rfl, rfl, Nat.le_of_ble_eq_true rfl, Nat.le_of_ble_eq_true rfl⟩ rfl rfl hl.1 (Nat.le_of_ble_eq_true rfl) ⟨Nat.le_refl 0, Nat.le_refl 0⟩ dX10_chain_30) (fun H locs V => ?_)
          exact r_ri X V (so2 h).1 (so2 h).2 dX10_chain_33
      · replace h := ite_f c5 h
        exact wj_X10_chain_34 X Y r σ' σ a1  _ _ _ V (lv_sub hl [0, 1] rfl) h
  exact go _ _ _ X V

set_option maxRecDepth 100000 in
set_option maxHeartbeats 4000000 in
theorem c_X10_ways (l : Launch) (G : UG) (σ : St)  (r : Int) (σ' : St)  (h : f_X10_ways σ = some (r, σ')) : Met l yX10_ways (.code yX10_ways cX10_ways 1 (Option.some Jvm.ClassFile.FieldType.int) :: TB) { frames := 6, cells := 0, slots := 0, locals := 149 } (uvPc G σ [.ref (G.2.2.1 118)]) (uvQi G r σ') 0 0 (uvA G) := by
  unfold f_X10_ways at h
  refine r_met (own := RX10) (lv := [(0, .ref (G.2.2.1 118))]) (by decide) rfl (Nat.le_of_ble_eq_true rfl) rfl ?_
  intro p e s m below meth c ls X Y V hl
  have go : ∀ (args : Array Value) (H : Heap) (locs : List Loc), uvCx p m c cX10_ways 1 RX10 s args meth (Option.some Jvm.ClassFile.FieldType.int) → uvWo G σ s H locs → W p l e { frames := 6, cells := 0, slots := 0, locals := 149 } s m args below meth c H locs 0 0 (MQ below (uvQi G r σ') args s 0 0 (uvA G)) (F0 m 0 ls []) := by
    intro args H locs X V
    refine r_aln X dX10_ways_0 rfl (lv_at hl 0 rfl) ?_
    obtain ⟨v1, σ2, hv1, h⟩ := bd2_ex h
    refine r_kz V (r_runV (As := []) (rest := []) X Y V (c_X10_chainsNow l G σ  _ _  hv1) mv_X10_chainsNow wd_1181 ci_10 kd_118 ⟨rfl, rfl, Nat.le_of_ble_eq_true rfl, Nat.le_of_ble_eq_true rfl⟩ rfl rfl hl.1 (Nat.le_of_ble_eq_true rfl) ⟨Nat.le_refl 0, Nat.le_refl 0⟩ dX10_ways_1) (fun H locs V z3 => ?_)
    refine r_eq (cx := v1) (tgt := 14) X (wI_01 z3) dX10_ways_4 (by decide) (fun c4 => ?_) (fun c4 => ?_)
    · replace h := ite_t c4 h
      refine r_aln X dX10_ways_14 rfl (lv_at hl 0 rfl) ?_
      obtain ⟨v5, σ6, hv5, h⟩ := bd2_ex h
      refine r_ki V (r_runV (As := []) (rest := []) X Y V (c_X10_no l G σ2  _ _  hv5) mv_X10_no wd_1146 ci_10 kd_118 ⟨rfl, rfl, Nat.le_of_ble_eq_true rfl, Nat.le_of_ble_eq_true rfl⟩ rfl rfl hl.1 (Nat.le_of_ble_eq_true rfl) ⟨Nat.le_refl 0, Nat.le_refl 0⟩ dX10_ways_15) (fun H locs V => ?_)
      exact r_ri X V (so2 h).1 (so2 h).2 dX10_ways_18
    · replace h := ite_f c4 h
      refine r_aln X dX10_ways_7 rfl (lv_at hl 0 rfl) ?_
      refine r_gi (kI := 37) X Y V ci_10 kd_118 37 rfl (by decide) rfl rfl wd_890 dX10_ways_8 ?_
      refine r_goto (tgt := 18) X dX10_ways_11 (by decide) ?_
      exact r_ri X V (so2 h).1 (so2 h).2 dX10_ways_18
  exact go _ _ _ X V

set_option maxRecDepth 100000 in
set_option maxHeartbeats 4000000 in
theorem c_X10_next (l : Launch) (G : UG) (σ : St)  (r : Int) (σ' : St)  (h : f_X10_next σ = some (r, σ')) : Met l yX10_next (.code yX10_next cX10_next 1 (Option.some Jvm.ClassFile.FieldType.int) :: TB) { frames := 6, cells := 0, slots := 0, locals := 149 } (uvPc G σ [.ref (G.2.2.1 118)]) (uvQi G r σ') 0 0 (uvA G) := by
  unfold f_X10_next at h
  refine r_met (own := RX10) (lv := [(0, .ref (G.2.2.1 118))]) (by decide) rfl (Nat.le_of_ble_eq_true rfl) rfl ?_
  intro p e s m below meth c ls X Y V hl
  have go : ∀ (args : Array Value) (H : Heap) (locs : List Loc), uvCx p m c cX10_next 1 RX10 s args meth (Option.some Jvm.ClassFile.FieldType.int) → uvWo G σ s H locs → W p l e { frames := 6, cells := 0, slots := 0, locals := 149 } s m args below meth c H locs 0 0 (MQ below (uvQi G r σ') args s 0 0 (uvA G)) (F0 m 0 ls []) := by
    intro args H locs X V
    refine r_aln X dX10_next_0 rfl (lv_at hl 0 rfl) ?_
    obtain ⟨v1, σ2, hv1, h⟩ := bd2_ex h
    refine r_kz V (r_runV (As := []) (rest := []) X Y V (c_X10_chainsNow l G σ  _ _  hv1) mv_X10_chainsNow wd_1181 ci_10 kd_118 ⟨rfl, rfl, Nat.le_of_ble_eq_true rfl, Nat.le_of_ble_eq_true rfl⟩ rfl rfl hl.1 (Nat.le_of_ble_eq_true rfl) ⟨Nat.le_refl 0, Nat.le_refl 0⟩ dX10_next_1) (fun H locs V z3 => ?_)
    refine r_eq (cx := v1) (tgt := 14) X (wI_01 z3) dX10_next_4 (by decide) (fun c4 => ?_) (fun c4 => ?_)
    · replace h := ite_t c4 h
      refine r_aln X dX10_next_14 rfl (lv_at hl 0 rfl) ?_
      obtain ⟨v5, σ6, hv5, h⟩ := bd2_ex h
      refine r_ki V (r_runV (As := []) (rest := []) X Y V (c_X10_no l G σ2  _ _  hv5) mv_X10_no wd_1146 ci_10 kd_118 ⟨rfl, rfl, Nat.le_of_ble_eq_true rfl, Nat.le_of_ble_eq_true rfl⟩ rfl rfl hl.1 (Nat.le_of_ble_eq_true rfl) ⟨Nat.le_refl 0, Nat.le_refl 0⟩ dX10_next_15) (fun H locs V => ?_)
      exact r_ri X V (so2 h).1 (so2 h).2 dX10_next_18
    · replace h := ite_f c4 h
      refine r_aln X dX10_next_7 rfl (lv_at hl 0 rfl) ?_
      refine r_gi (kI := 35) X Y V ci_10 kd_118 35 rfl (by decide) rfl rfl wd_888 dX10_next_8 ?_
      refine r_goto (tgt := 18) X dX10_next_11 (by decide) ?_
      exact r_ri X V (so2 h).1 (so2 h).2 dX10_next_18
  exact go _ _ _ X V

