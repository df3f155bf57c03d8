set_option maxRecDepth 100000 in
set_option maxHeartbeats 4000000 in
theorem wl_X0_dearestPathJoint_4 {p : Program} {l : Launch} {e : Env} {s : State} {m : MethodId} {args : Array Value} {below : List Frame} {meth : Method} {c : Code} {G : UG} (X : uvCx p m c cX0_dearestPathJoint 3 RX0 s args meth (Option.some Jvm.ClassFile.FieldType.int)) (Y : uvGd G s s.heap) (σ0 : St)   (r : Int) (kx : Int → Option Int) (hkx : ∀ (x1 : Int) (H : Heap) (locs : List Loc) (ls : Array Slot), uvWo G σ0 s H locs → lv_has ls 3 [(1, .int (iV x1))] → kx x1 = some r → W p l e { frames := 2, cells := 0, slots := 0, locals := 44 } s m args below meth c H locs 0 0 (MQ below (uvQi G r σ0) args s 0 0 (uvA G)) (F0 m 47 ls [])) : ∀ (n : Nat) (x1 : Int) (x2 : Int) (H : Heap) (locs : List Loc) (ls : Array Slot), uvWo G σ0 s H locs → lv_has ls 3 [(0, .ref (G.2.2.1 55)), (1, .int (iV x1)), (2, .int (iV x2))] → lp_X0_dearestPathJoint_4 σ0 kx n x1 x2 = some r → W p l e { frames := 2, cells := 0, slots := 0, locals := 44 } s m args below meth c H locs 0 0 (MQ below (uvQi G r σ0) args s 0 0 (uvA G)) (F0 m 4 ls []) := by
  intro n
  induction n with
  | zero => intro x1 x2 H locs ls V hl h; cases h
  | succ n ih =>
    intro x1 x2 H locs ls V hl h
    rw [lp_X0_dearestPathJoint_4] at h
    refine r_iln X dX0_dearestPathJoint_4 rfl (lv_at hl 2 rfl) ?_
    refine r_aln X dX0_dearestPathJoint_5 rfl (lv_at hl 0 rfl) ?_
    refine r_gr X Y V ci_0 kd_55 0 rfl rfl (by decide) rfl rfl wd_311 dX0_dearestPathJoint_6 ?_
    refine r_gi (kI := 3) X Y V ci_4 kd_10 3 rfl (by decide) rfl rfl wd_104 dX0_dearestPathJoint_9 ?_
    refine r_cge (cx := wI x2) (cy := wI (σ0 10 3)) (tgt := 47) X rfl rfl dX0_dearestPathJoint_12 (by decide) (fun c1 => ?_) (fun c1 => ?_)
    · replace h := ite_t c1 h
      refine r_iln X dX0_dearestPathJoint_15 rfl (lv_at hl 1 rfl) ?_
      refine r_aln X dX0_dearestPathJoint_16 rfl (lv_at hl 0 rfl) ?_
      refine r_gr X Y V ci_0 kd_55 2 rfl rfl (by decide) rfl rfl wd_313 dX0_dearestPathJoint_17 ?_
      refine r_aln X dX0_dearestPathJoint_20 rfl (lv_at hl 0 rfl) ?_
      refine r_gr X Y V ci_0 kd_55 6 rfl rfl (by decide) rfl rfl wd_317 dX0_dearestPathJoint_21 ?_
      refine r_iln X dX0_dearestPathJoint_24 rfl (lv_at hl 2 rfl) ?_
      refine r_ic X dX0_dearestPathJoint_25 ?_
      refine r_isub X dX0_dearestPathJoint_26 ?_
      obtain ⟨v2, hv2, hiv2, h⟩ := rdA_ex h
      refine r_ial X Y V kd_69 ln_69 hiv2 hv2 dX0_dearestPathJoint_27 ?_
      refine r_aln X dX0_dearestPathJoint_28 rfl (lv_at hl 0 rfl) ?_
      refine r_gr X Y V ci_0 kd_55 6 rfl rfl (by decide) rfl rfl wd_317 dX0_dearestPathJoint_29 ?_
      refine r_iln X dX0_dearestPathJoint_32 rfl (lv_at hl 2 rfl) ?_
      obtain ⟨v3, hv3, hiv3, h⟩ := rdA_ex h
      refine r_ial X Y V kd_69 ln_69 hiv3 hv3 dX0_dearestPathJoint_33 ?_
      obtain ⟨v4, hv4, h⟩ := bd1_ex h
      refine r_ki V (r_runV (As := [.int (iV v2), .int (iV v3)]) (rest := [.int (iV x1)]) X Y V (c_X3_ofJoint l G σ0 v2 v3 _  hv4) mv_X3_ofJoint wd_765 ci_3 kd_54 ⟨rfl, rfl, Nat.le_of_ble_eq_true rfl, Nat.le_of_ble_eq_true rfl⟩ rfl rfl hl.1 (Nat.le_of_ble_eq_true rfl) ⟨Nat.le_refl 0, Nat.le_refl 0⟩ dX0_dearestPathJoint_34) (fun H locs V => ?_)
      refine r_mmax X wd_827 hl.1 (Nat.le_of_ble_eq_true rfl) (Nat.le_of_ble_eq_true rfl) ⟨Nat.le_refl 0, Nat.le_refl 0⟩ dX0_dearestPathJoint_37 ?_
      obtain ⟨v5, hv5, h⟩ := bnd_ex h
      refine r_eqI hv5 ?_
      refine r_isn (lv' := [(1, .int (iV v5)), (0, .ref (G.2.2.1 55)), (2, .int (iV x2))]) X dX0_dearestPathJoint_40 rfl hl (by decide) rfl (fun ls hl => ?_)
      refine r_inc (kk := 2) (lv' := [(2, .int (iV (x2 + 1))), (1, .int (iV v5)), (0, .ref (G.2.2.1 55))]) X dX0_dearestPathJoint_41 hl rfl (by decide) rfl (fun ls hl => ?_)
      refine r_goto (tgt := 4) X dX0_dearestPathJoint_44 (by decide) ?_
      exact ih v5 (x2 + 1) _ _ _ V (lv_sub hl [2, 1, 0] rfl) h
    · replace h := ite_f c1 h
      exact hkx x1 _ _ _ V (lv_sub hl [1] rfl) h

set_option maxRecDepth 100000 in
set_option maxHeartbeats 4000000 in
theorem c_X0_dearestPathJoint (l : Launch) (G : UG) (σ0 : St)  (r : Int)  (h : f_X0_dearestPathJoint σ0 = some r) : Met l yX0_dearestPathJoint (.code yX0_dearestPathJoint cX0_dearestPathJoint 3 (Option.some Jvm.ClassFile.FieldType.int) :: TB) { frames := 2, cells := 0, slots := 0, locals := 44 } (uvPc G σ0 [.ref (G.2.2.1 55)]) (uvQi G r σ0) 0 0 (uvA G) := by
  unfold f_X0_dearestPathJoint at h
  refine r_met (own := RX0) (lv := [(0, .ref (G.2.2.1 55))]) (by decide) rfl (Nat.le_of_ble_eq_true rfl) rfl ?_
  intro p e s m below meth c ls X Y V hl
  have go : ∀ (args : Array Value) (H : Heap) (locs : List Loc), uvCx p m c cX0_dearestPathJoint 3 RX0 s args meth (Option.some Jvm.ClassFile.FieldType.int) → uvWo G σ0 s H locs → W p l e { frames := 2, cells := 0, slots := 0, locals := 44 } s m args below meth c H locs 0 0 (MQ below (uvQi G r σ0) args s 0 0 (uvA G)) (F0 m 0 ls []) := by
    intro args H locs X V
    refine r_ic X dX0_dearestPathJoint_0 ?_
    refine r_isn (lv' := [(1, .int (iV 0)), (0, .ref (G.2.2.1 55))]) X dX0_dearestPathJoint_1 rfl hl (by decide) rfl (fun ls hl => ?_)
    refine r_ic X dX0_dearestPathJoint_2 ?_
    refine r_isn (lv' := [(2, .int (iV 1)), (1, .int (iV 0)), (0, .ref (G.2.2.1 55))]) X dX0_dearestPathJoint_3 rfl hl (by decide) rfl (fun ls hl => ?_)
    refine wl_X0_dearestPathJoint_4 X Y σ0   r _ (fun y6 H locs ls V hl h => ?_) 1000 0 1 _ _ _ V (lv_sub hl [2, 1, 0] rfl) h
    refine r_iln X dX0_dearestPathJoint_47 rfl (lv_at hl 0 rfl) ?_
    exact r_ri X V (so1 h) rfl dX0_dearestPathJoint_48
  exact go _ _ _ X V

set_option maxRecDepth 100000 in
set_option maxHeartbeats 4000000 in
theorem c_X1_begin (l : Launch) (G : UG) (σ : St) (o : Int) (r : Int) (σ' : St) (ho : uvKd o = 1) (h : f_X1_begin σ o = some (r, σ')) : Met l yX1_begin (.code yX1_begin cX1_begin 1 (Option.none : Option Jvm.ClassFile.FieldType) :: TB) { frames := 0, cells := 0, slots := 0, locals := 0 } (uvPc G σ [.ref (G.2.2.1 o)]) (uvQv G σ') 0 0 (uvA G) := by
  unfold f_X1_begin at h
  refine r_met (own := RX1) (lv := [(0, .ref (G.2.2.1 o))]) (by decide) rfl (Nat.le_of_ble_eq_true rfl) rfl ?_
  intro p e s m below meth c ls X Y V hl
  have go : ∀ (args : Array Value) (H : Heap) (locs : List Loc), uvCx p m c cX1_begin 1 RX1 s args meth (Option.none : Option Jvm.ClassFile.FieldType) → uvWo G σ s H locs → W p l e { frames := 0, cells := 0, slots := 0, locals := 0 } s m args below meth c H locs 0 0 (MQ below (uvQv G σ') args s 0 0 (uvA G)) (F0 m 0 ls []) := by
    intro args H locs X V
    refine r_aln X dX1_begin_0 rfl (lv_at hl 0 rfl) ?_
    refine r_ic X dX1_begin_1 ?_
    obtain ⟨σ1, hσ1, h⟩ := wrF_ex h
    refine r_pi X Y V ci_1 ho 1 rfl (by decide) rfl rfl rfl (tyX1_ok 1 (by decide)) wd_213 hσ1 dX1_begin_2 (fun H locs V => ?_)
    refine r_aln X dX1_begin_5 rfl (lv_at hl 0 rfl) ?_
    refine r_ic X dX1_begin_6 ?_
    obtain ⟨σ2, hσ2, h⟩ := wrF_ex h
    refine r_pi X Y V ci_1 ho 2 rfl (by decide) rfl rfl rfl (tyX1_ok 2 (by decide)) wd_217 hσ2 dX1_begin_7 (fun H locs V => ?_)
    refine r_aln X dX1_begin_10 rfl (lv_at hl 0 rfl) ?_
    refine r_ic X dX1_begin_11 ?_
    obtain ⟨σ3, hσ3, h⟩ := wrF_ex h
    refine r_pi X Y V ci_1 ho 3 rfl (by decide) rfl rfl rfl (tyX1_ok 3 (by decide)) wd_220 hσ3 dX1_begin_12 (fun H locs V => ?_)
    exact r_rv X V (so2 h).2 dX1_begin_15
  exact go _ _ _ X V

set_option maxRecDepth 100000 in
set_option maxHeartbeats 4000000 in
theorem c_X1_add (l : Launch) (G : UG) (σ : St) (o : Int) (a1 : Int) (r : Int) (σ' : St) (ho : uvKd o = 1) (h : f_X1_add σ o a1 = some (r, σ')) : Met l yX1_add (.code yX1_add cX1_add 2 (Option.none : Option Jvm.ClassFile.FieldType) :: TB) { frames := 0, cells := 0, slots := 0, locals := 0 } (uvPc G σ [.ref (G.2.2.1 o), .int (iV a1)]) (uvQv G σ') 0 0 (uvA G) := by
  unfold f_X1_add at h
  refine r_met (own := RX1) (lv := [(0, .ref (G.2.2.1 o)), (1, .int (iV a1))]) (by decide) rfl (Nat.le_of_ble_eq_true rfl) rfl ?_
  intro p e s m below meth c ls X Y V hl
  have go : ∀ (args : Array Value) (H : Heap) (locs : List Loc), uvCx p m c cX1_add 2 RX1 s args meth (Option.none : Option Jvm.ClassFile.FieldType) → uvWo G σ s H locs → W p l e { frames := 0, cells := 0, slots := 0, locals := 0 } s m args below meth c H locs 0 0 (MQ below (uvQv G σ') args s 0 0 (uvA G)) (F0 m 0 ls []) := by
    intro args H locs X V
    refine r_aln X dX1_add_0 rfl (lv_at hl 0 rfl) ?_
    refine r_gi (kI := 1) X Y V ci_1 ho 1 rfl (by decide) rfl rfl wd_213 dX1_add_1 ?_
    refine r_lt (cx := wI (σ o 1)) (tgt := 36) X rfl dX1_add_4 (by decide) (fun c1 => ?_) (fun c1 => ?_)
    · replace h := ite_t c1 h
      exact r_rv X V (so2 h).2 dX1_add_36
    · replace h := ite_f c1 h
      refine r_aln X dX1_add_7 rfl (lv_at hl 0 rfl) ?_
      refine r_gi (kI := 1) X Y V ci_1 ho 1 rfl (by decide) rfl rfl wd_213 dX1_add_8 ?_
      refine r_bp X dX1_add_11 (by decide) ?_
      refine r_cge (cx := wI (σ o 1)) (cy := 40) (tgt := 36) X rfl rfl dX1_add_13 (by decide) (fun c2 => ?_) (fun c2 => ?_)
      · replace h := ite_t c2 h
        refine r_aln X dX1_add_16 rfl (lv_at hl 0 rfl) ?_
        refine r_gr X Y V ci_1 ho 0 rfl (rf1_0 ho) (by decide) rfl rfl wd_210 dX1_add_17 ?_
        refine r_aln X dX1_add_20 rfl (lv_at hl 0 rfl) ?_
        refine r_gi (kI := 1) X Y V ci_1 ho 1 rfl (by decide) rfl rfl wd_213 dX1_add_21 ?_
        refine r_iln X dX1_add_24 rfl (lv_at hl 1 rfl) ?_
        obtain ⟨σ3, hσ3, hiσ3, h⟩ := wrA_ex h
        refine r_ias X Y V (ka1_0 ho) (ln1_0 ho) hiσ3 hσ3 dX1_add_25 (fun H locs V => ?_)
        refine r_aln X dX1_add_26 rfl (lv_at hl 0 rfl) ?_
        refine r_dup X dX1_add_27 rfl ?_
        refine r_gi (kI := 1) X Y V ci_1 ho 1 rfl (by decide) rfl rfl wd_213 dX1_add_28 ?_
        refine r_ic X dX1_add_31 ?_
        refine r_iadd X dX1_add_32 ?_
        obtain ⟨σ4, hσ4, h⟩ := wrF_ex h
        refine r_pi X Y V ci_1 ho 1 rfl (by decide) rfl rfl rfl (tyX1_ok 1 (by decide)) wd_213 hσ4 dX1_add_33 (fun H locs V => ?_)
        exact r_rv X V (so2 h).2 dX1_add_36
      · replace h := ite_f c2 h
        exact r_rv X V (so2 h).2 dX1_add_36
  exact go _ _ _ X V

set_option maxRecDepth 100000 in
set_option maxHeartbeats 4000000 in
theorem c_X1_miss (l : Launch) (G : UG) (σ : St) (o : Int) (r : Int) (σ' : St) (ho : uvKd o = 1) (h : f_X1_miss σ o = some (r, σ')) : Met l yX1_miss (.code yX1_miss cX1_miss 1 (Option.none : Option Jvm.ClassFile.FieldType) :: TB) { frames := 0, cells := 0, slots := 0, locals := 0 } (uvPc G σ [.ref (G.2.2.1 o)]) (uvQv G σ') 0 0 (uvA G) := by
  unfold f_X1_miss at h
  refine r_met (own := RX1) (lv := [(0, .ref (G.2.2.1 o))]) (by decide) rfl (Nat.le_of_ble_eq_true rfl) rfl ?_
  intro p e s m below meth c ls X Y V hl
  have go : ∀ (args : Array Value) (H : Heap) (locs : List Loc), uvCx p m c cX1_miss 1 RX1 s args meth (Option.none : Option Jvm.ClassFile.FieldType) → uvWo G σ s H locs → W p l e { frames := 0, cells := 0, slots := 0, locals := 0 } s m args below meth c H locs 0 0 (MQ below (uvQv G σ') args s 0 0 (uvA G)) (F0 m 0 ls []) := by
    intro args H locs X V
    refine r_aln X dX1_miss_0 rfl (lv_at hl 0 rfl) ?_
    refine r_ic X dX1_miss_1 ?_
    obtain ⟨σ1, hσ1, h⟩ := wrF_ex h
    refine r_pi X Y V ci_1 ho 1 rfl (by decide) rfl rfl rfl (tyX1_ok 1 (by decide)) wd_213 hσ1 dX1_miss_2 (fun H locs V => ?_)
    refine r_aln X dX1_miss_5 rfl (lv_at hl 0 rfl) ?_
    refine r_ic X dX1_miss_6 ?_
    obtain ⟨σ2, hσ2, h⟩ := wrF_ex h
    refine r_pi X Y V ci_1 ho 2 rfl (by decide) rfl rfl rfl (tyX1_ok 2 (by decide)) wd_217 hσ2 dX1_miss_7 (fun H locs V => ?_)
    exact r_rv X V (so2 h).2 dX1_miss_10
  exact go _ _ _ X V

set_option maxRecDepth 100000 in
set_option maxHeartbeats 4000000 in
theorem c_X1_isMissing (l : Launch) (G : UG) (σ0 : St) (o : Int) (r : Int) (ho : uvKd o = 1) (h : f_X1_isMissing σ0 o = r) : Met l yX1_isMissing (.code yX1_isMissing cX1_isMissing 1 (Option.some Jvm.ClassFile.FieldType.boolean) :: TB) { frames := 0, cells := 0, slots := 0, locals := 0 } (uvPc G σ0 [.ref (G.2.2.1 o)]) (uvQz G r σ0) 0 0 (uvA G) := by
  unfold f_X1_isMissing at h
  refine r_met (own := RX1) (lv := [(0, .ref (G.2.2.1 o))]) (by decide) rfl (Nat.le_of_ble_eq_true rfl) rfl ?_
  intro p e s m below meth c ls X Y V hl
  have go : ∀ (args : Array Value) (H : Heap) (locs : List Loc), uvCx p m c cX1_isMissing 1 RX1 s args meth (Option.some Jvm.ClassFile.FieldType.boolean) → uvWo G σ0 s H locs → W p l e { frames := 0, cells := 0, slots := 0, locals := 0 } s m args below meth c H locs 0 0 (MQ below (uvQz G r σ0) args s 0 0 (uvA G)) (F0 m 0 ls []) := by
    intro args H locs X V
    refine r_aln X dX1_isMissing_0 rfl (lv_at hl 0 rfl) ?_
    refine r_gi (kI := 2) X Y V ci_1 ho 2 rfl (by decide) rfl rfl wd_217 dX1_isMissing_1 ?_
    refine r_ic X dX1_isMissing_4 ?_
    have J1 : W p l e { frames := 0, cells := 0, slots := 0, locals := 0 } s m args below meth c H locs 0 0 (MQ below (uvQz G r σ0) args s 0 0 (uvA G)) (F0 m 13 ls [.int (iV (if wI (σ0 o 2) = (-1) then 1 else 0))]) := by
      exact r_rz X V (b01_ite (Or.inr rfl) (Or.inl rfl)) h rfl dX1_isMissing_13
    refine r_cne (cx := wI (σ0 o 2)) (cy := (-1)) (tgt := 12) X rfl rfl dX1_isMissing_5 (by decide) (fun c2 => ?_) (fun c2 => ?_)
    · skip
      refine r_ic X dX1_isMissing_8 ?_
      refine r_goto (tgt := 13) X dX1_isMissing_9 (by decide) ?_
      rw [if_pos c2] at J1
      exact J1
    · skip
      refine r_ic X dX1_isMissing_12 ?_
      rw [if_neg c2] at J1
      exact J1
  exact go _ _ _ X V

set_option maxRecDepth 100000 in
set_option maxHeartbeats 4000000 in
theorem c_X7_saysYes (l : Launch) (G : UG) (σ0 : St) (o : Int) (a1 : Int) (a2 : Int) (a3 : Int) (a4 : Int) (a5 : Int) (r : Int) (ho : uvKd o = 7) (h : f_X7_saysYes σ0 o a1 a2 a3 a4 a5 = some r) : Met l yX7_saysYes (.code yX7_saysYes cX7_saysYes 6 (Option.some Jvm.ClassFile.FieldType.boolean) :: TB) { frames := 0, cells := 0, slots := 0, locals := 0 } (uvPc G σ0 [.ref (G.2.2.1 o), .int (iV a1), .int (iV a2), .int (iV a3), .int (iV a4), .int (iV a5)]) (uvQz G r σ0) 0 0 (uvA G) := by
  unfold f_X7_saysYes at h
  refine r_met (own := RX7) (lv := [(0, .ref (G.2.2.1 o)), (1, .int (iV a1)), (2, .int (iV a2)), (3, .int (iV a3)), (4, .int (iV a4)), (5, .int (iV a5))]) (by decide) rfl (Nat.le_of_ble_eq_true rfl) rfl ?_
  intro p e s m below meth c ls X Y V hl
  have go : ∀ (args : Array Value) (H : Heap) (locs : List Loc), uvCx p m c cX7_saysYes 6 RX7 s args meth (Option.some Jvm.ClassFile.FieldType.boolean) → uvWo G σ0 s H locs → W p l e { frames := 0, cells := 0, slots := 0, locals := 0 } s m args below meth c H locs 0 0 (MQ below (uvQz G r σ0) args s 0 0 (uvA G)) (F0 m 0 ls []) := by
    intro args H locs X V
    refine r_aln X dX7_saysYes_0 rfl (lv_at hl 0 rfl) ?_
    refine r_gr X Y V ci_7 ho 0 rfl (rf7_0 ho) (by decide) rfl rfl wd_131 dX7_saysYes_1 ?_
    refine r_iln X dX7_saysYes_4 rfl (lv_at hl 1 rfl) ?_
    obtain ⟨v1, hv1, hiv1, h⟩ := rdA_ex h
    refine r_ial X Y V (ka7_0 ho) (ln7_0 ho) hiv1 hv1 dX7_saysYes_5 ?_
    by_cases c2 : wI v1 = 76
    · replace h := ite_t c2 h
      refine r_lk (tgt := 40) (off := 34) X rfl dX7_saysYes_6 (by decide) (by rw [c2]; try rfl) (by decide) ?_
      refine r_iln X dX7_saysYes_40 rfl (lv_at hl 2 rfl) ?_
      refine r_aln X dX7_saysYes_41 rfl (lv_at hl 0 rfl) ?_
      refine r_gr X Y V ci_7 ho 1 rfl (rf7_1 ho) (by decide) rfl rfl wd_132 dX7_saysYes_42 ?_
      refine r_iln X dX7_saysYes_45 rfl (lv_at hl 1 rfl) ?_
      obtain ⟨v3, hv3, hiv3, h⟩ := rdA_ex h
      refine r_ial X Y V (ka7_1 ho) (ln7_1 ho) hiv3 hv3 dX7_saysYes_46 ?_
      have J4 : W p l e { frames := 0, cells := 0, slots := 0, locals := 0 } s m args below meth c H locs 0 0 (MQ below (uvQz G r σ0) args s 0 0 (uvA G)) (F0 m 55 ls [.int (iV (if wI a2 = wI v3 then 1 else 0))]) := by
        exact r_rz X V (b01_ite (Or.inr rfl) (Or.inl rfl)) (so1 h) rfl dX7_saysYes_55
      refine r_cne (cx := wI a2) (cy := wI v3) (tgt := 54) X rfl rfl dX7_saysYes_47 (by decide) (fun c5 => ?_) (fun c5 => ?_)
      · skip
        refine r_ic X dX7_saysYes_50 ?_
        refine r_goto (tgt := 55) X dX7_saysYes_51 (by decide) ?_
        rw [if_pos c5] at J4
        exact J4
      · skip
        refine r_ic X dX7_saysYes_54 ?_
        rw [if_neg c5] at J4
        exact J4
    · replace h := ite_f c2 h
      by_cases c6 : wI v1 = 80
      · replace h := ite_t c6 h
        refine r_lk (tgt := 72) (off := 66) X rfl dX7_saysYes_6 (by decide) (by rw [c6]; try rfl) (by decide) ?_
        refine r_il X dX7_saysYes_72 (lv_at hl 4 rfl) ?_
        refine r_aln X dX7_saysYes_74 rfl (lv_at hl 0 rfl) ?_
        refine r_gr X Y V ci_7 ho 1 rfl (rf7_1 ho) (by decide) rfl rfl wd_132 dX7_saysYes_75 ?_
        refine r_iln X dX7_saysYes_78 rfl (lv_at hl 1 rfl) ?_
        obtain ⟨v7, hv7, hiv7, h⟩ := rdA_ex h
        refine r_ial X Y V (ka7_1 ho) (ln7_1 ho) hiv7 hv7 dX7_saysYes_79 ?_
        have J8 : W p l e { frames := 0, cells := 0, slots := 0, locals := 0 } s m args below meth c H locs 0 0 (MQ below (uvQz G r σ0) args s 0 0 (uvA G)) (F0 m 88 ls [.int (iV (if wI v7 < wI a4 then 1 else 0))]) := by
          exact r_rz X V (b01_ite (Or.inr rfl) (Or.inl rfl)) (so1 h) rfl dX7_saysYes_88
        refine r_cle (cx := wI a4) (cy := wI v7) (tgt := 87) X rfl rfl dX7_saysYes_80 (by decide) (fun c9 => ?_) (fun c9 => ?_)
        · skip
          refine r_ic X dX7_saysYes_83 ?_
          refine r_goto (tgt := 88) X dX7_saysYes_84 (by decide) ?_
          rw [if_pos c9] at J8
          exact J8
        · skip
          refine r_ic X dX7_saysYes_87 ?_
          rw [if_neg c9] at J8
          exact J8
      · replace h := ite_f c6 h
        by_cases c10 : wI v1 = 82
        · replace h := ite_t c10 h
          refine r_lk (tgt := 56) (off := 50) X rfl dX7_saysYes_6 (by decide) (by rw [c10]; try rfl) (by decide) ?_
          refine r_iln X dX7_saysYes_56 rfl (lv_at hl 3 rfl) ?_
          refine r_aln X dX7_saysYes_57 rfl (lv_at hl 0 rfl) ?_
          refine r_gr X Y V ci_7 ho 1 rfl (rf7_1 ho) (by decide) rfl rfl wd_132 dX7_saysYes_58 ?_
          refine r_iln X dX7_saysYes_61 rfl (lv_at hl 1 rfl) ?_
          obtain ⟨v11, hv11, hiv11, h⟩ := rdA_ex h
          refine r_ial X Y V (ka7_1 ho) (ln7_1 ho) hiv11 hv11 dX7_saysYes_62 ?_
          have J12 : W p l e { frames := 0, cells := 0, slots := 0, locals := 0 } s m args below meth c H locs 0 0 (MQ below (uvQz G r σ0) args s 0 0 (uvA G)) (F0 m 71 ls [.int (iV (if wI a3 = wI v11 then 1 else 0))]) := by
            exact r_rz X V (b01_ite (Or.inr rfl) (Or.inl rfl)) (so1 h) rfl dX7_saysYes_71
          refine r_cne (cx := wI a3) (cy := wI v11) (tgt := 70) X rfl rfl dX7_saysYes_63 (by decide) (fun c13 => ?_) (fun c13 => ?_)
          · skip
            refine r_ic X dX7_saysYes_66 ?_
            refine r_goto (tgt := 71) X dX7_saysYes_67 (by decide) ?_
            rw [if_pos c13] at J12
            exact J12
          · skip
            refine r_ic X dX7_saysYes_70 ?_
            rw [if_neg c13] at J12
            exact J12
        · replace h := ite_f c10 h
          refine r_lk (tgt := 89) (off := 83) X rfl dX7_saysYes_6 (by decide) (by simp only [Op.lookupswitch.offset_cons]; rw [if_neg (fun z => c2 (by omega)), if_neg (fun z => c6 (by omega)), if_neg (fun z => c10 (by omega))]; rfl) (by decide) ?_
          refine r_il X dX7_saysYes_89 (lv_at hl 5 rfl) ?_
          refine r_aln X dX7_saysYes_91 rfl (lv_at hl 0 rfl) ?_
          refine r_gr X Y V ci_7 ho 1 rfl (rf7_1 ho) (by decide) rfl rfl wd_132 dX7_saysYes_92 ?_
          refine r_iln X dX7_saysYes_95 rfl (lv_at hl 1 rfl) ?_
          obtain ⟨v14, hv14, hiv14, h⟩ := rdA_ex h
          refine r_ial X Y V (ka7_1 ho) (ln7_1 ho) hiv14 hv14 dX7_saysYes_96 ?_
          have J15 : W p l e { frames := 0, cells := 0, slots := 0, locals := 0 } s m args below meth c H locs 0 0 (MQ below (uvQz G r σ0) args s 0 0 (uvA G)) (F0 m 105 ls [.int (iV (if wI v14 < wI a5 then 1 else 0))]) := by
            exact r_rz X V (b01_ite (Or.inr rfl) (Or.inl rfl)) (so1 h) rfl dX7_saysYes_105
          refine r_cle (cx := wI a5) (cy := wI v14) (tgt := 104) X rfl rfl dX7_saysYes_97 (by decide) (fun c16 => ?_) (fun c16 => ?_)
          · skip
            refine r_ic X dX7_saysYes_100 ?_
            refine r_goto (tgt := 105) X dX7_saysYes_101 (by decide) ?_
            rw [if_pos c16] at J15
            exact J15
          · skip
            refine r_ic X dX7_saysYes_104 ?_
            rw [if_neg c16] at J15
            exact J15
  exact go _ _ _ X V

set_option maxRecDepth 100000 in
set_option maxHeartbeats 4000000 in
theorem c_X7_isNode (l : Launch) (G : UG) (σ0 : St) (o : Int) (a1 : Int) (r : Int) (ho : uvKd o = 7) (h : f_X7_isNode σ0 o a1 = r) : Met l yX7_isNode (.code yX7_isNode cX7_isNode 2 (Option.some Jvm.ClassFile.FieldType.boolean) :: TB) { frames := 0, cells := 0, slots := 0, locals := 0 } (uvPc G σ0 [.ref (G.2.2.1 o), .int (iV a1)]) (uvQz G r σ0) 0 0 (uvA G) := by
  unfold f_X7_isNode at h
  refine r_met (own := RX7) (lv := [(0, .ref (G.2.2.1 o)), (1, .int (iV a1))]) (by decide) rfl (Nat.le_of_ble_eq_true rfl) rfl ?_
  intro p e s m below meth c ls X Y V hl
  have go : ∀ (args : Array Value) (H : Heap) (locs : List Loc), uvCx p m c cX7_isNode 2 RX7 s args meth (Option.some Jvm.ClassFile.FieldType.boolean) → uvWo G σ0 s H locs → W p l e { frames := 0, cells := 0, slots := 0, locals := 0 } s m args below meth c H locs 0 0 (MQ below (uvQz G r σ0) args s 0 0 (uvA G)) (F0 m 0 ls []) := by
    intro args H locs X V
    refine r_iln X dX7_isNode_0 rfl (lv_at hl 1 rfl) ?_
    have J1 : W p l e { frames := 0, cells := 0, slots := 0, locals := 0 } s m args below meth c H locs 0 0 (MQ below (uvQz G r σ0) args s 0 0 (uvA G)) (F0 m 17 ls [.int (iV (if wI a1 < 0 then 0 else (if wI a1 < wI (σ0 o 6) then 1 else 0)))]) := by
      exact r_rz X V (b01_ite (Or.inl rfl) (b01_ite (Or.inr rfl) (Or.inl rfl))) h rfl dX7_isNode_17
    refine r_lt (cx := wI a1) (tgt := 16) X rfl dX7_isNode_1 (by decide) (fun c2 => ?_) (fun c2 => ?_)
    · skip
      refine r_ic X dX7_isNode_16 ?_
      rw [if_pos c2] at J1
      exact J1
    · skip
      refine r_iln X dX7_isNode_4 rfl (lv_at hl 1 rfl) ?_
      refine r_aln X dX7_isNode_5 rfl (lv_at hl 0 rfl) ?_
      refine r_gi (kI := 6) X Y V ci_7 ho 6 rfl (by decide) rfl rfl wd_137 dX7_isNode_6 ?_
      refine r_cge (cx := wI a1) (cy := wI (σ0 o 6)) (tgt := 16) X rfl rfl dX7_isNode_9 (by decide) (fun c3 => ?_) (fun c3 => ?_)
      · skip
        refine r_ic X dX7_isNode_12 ?_
        refine r_goto (tgt := 17) X dX7_isNode_13 (by decide) ?_
        rw [if_neg c2] at J1
        rw [if_pos c3] at J1
        exact J1
      · skip
        refine r_ic X dX7_isNode_16 ?_
        rw [if_neg c2] at J1
        rw [if_neg c3] at J1
        exact J1
  exact go _ _ _ X V

set_option maxRecDepth 100000 in
set_option maxHeartbeats 4000000 in
theorem wj_X7_leafFor_56 {p : Program} {l : Launch} {e : Env} {s : State} {m : MethodId} {args : Array Value} {below : List Frame} {meth : Method} {c : Code} {G : UG} (X : uvCx p m c cX7_leafFor 8 RX7 s args meth (Option.some Jvm.ClassFile.FieldType.int)) (Y : uvGd G s s.heap) (σ0 : St) (kb : Int → Int → Option Int) (r : Int) (o : Int) (x1 : Int) (x2 : Int) (x3 : Int) (x4 : Int) (x5 : Int) (x6 : Int) (t0 : Int) (ho : uvKd o = 7) (hkb : ∀ (m5 : Int) (m6 : Int) (H : Heap) (locs : List Loc) (ls : Array Slot), uvWo G σ0 s H locs → lv_has ls 8 [(0, .ref (G.2.2.1 o)), (1, .int (iV x1)), (2, .int (iV x2)), (3, .int (iV x3)), (4, .int (iV x4)), (5, .int (iV m5)), (6, .int (iV m6))] → kb m5 m6 = some r → W p l e { frames := 1, cells := 0, slots := 0, locals := 25 } s m args below meth c H locs 0 0 (MQ below (uvQi G r σ0) args s 0 0 (uvA G)) (F0 m 6 ls [])) (H : Heap) (locs : List Loc) (ls : Array Slot) (V : uvWo G σ0 s H locs) (hl : lv_has ls 8 [(0, .ref (G.2.2.1 o)), (1, .int (iV x1)), (2, .int (iV x2)), (3, .int (iV x3)), (4, .int (iV x4)), (5, .int (iV x5)), (6, .int (iV x6))]) (h : jn_X7_leafFor_56 σ0 kb o x1 x2 x3 x4 x5 x6 t0 = some r) : W p l e { frames := 1, cells := 0, slots := 0, locals := 25 } s m args below meth c H locs 0 0 (MQ below (uvQi G r σ0) args s 0 0 (uvA G)) (F0 m 56 ls [.int (iV t0)]) := by
  unfold jn_X7_leafFor_56 at h
  refine r_is (lv' := [(7, .int (iV t0)), (0, .ref (G.2.2.1 o)), (1, .int (iV x1)), (2, .int (iV x2)), (3, .int (iV x3)), (4, .int (iV x4)), (5, .int (iV x5)), (6, .int (iV x6))]) X dX7_leafFor_56 hl (by decide) rfl (fun ls hl => ?_)
  refine r_aln X dX7_leafFor_58 rfl (lv_at hl 1 rfl) ?_
  refine r_il X dX7_leafFor_59 (lv_at hl 0 rfl) ?_
  refine r_kz V (r_runV (As := [.int (iV t0)]) (rest := []) X Y V (c_X7_isNode l G σ0 o t0 _ ho rfl) mv_X7_isNode wd_568 ci_7 ho ⟨rfl, rfl, Nat.le_of_ble_eq_true rfl, Nat.le_of_ble_eq_true rfl⟩ rfl rfl hl.1 (Nat.le_of_ble_eq_true rfl) ⟨Nat.le_refl 0, Nat.le_refl 0⟩ dX7_leafFor_61) (fun H locs V z8 => ?_)
  refine r_ne (cx := (f_X7_isNode σ0 o t0)) (tgt := 70) X (wI_01 z8) dX7_leafFor_64 (by decide) (fun c9 => ?_) (fun c9 => ?_)
  · replace h := ite_t c9 h
    refine r_il X dX7_leafFor_67 (lv_at hl 6 rfl) ?_
    exact r_ri X V (so1 h) rfl dX7_leafFor_69
  · replace h := ite_f c9 h
    refine r_il X dX7_leafFor_70 (lv_at hl 0 rfl) ?_
    refine r_is (lv' := [(5, .int (iV t0)), (7, .int (iV t0)), (0, .ref (G.2.2.1 o)), (1, .int (iV x1)), (2, .int (iV x2)), (3, .int (iV x3)), (4, .int (iV x4)), (6, .int (iV x6))]) X dX7_leafFor_72 hl (by decide) rfl (fun ls hl => ?_)
    refine r_inc (kk := 7) (lv' := [(6, .int (iV (x6 + 1))), (5, .int (iV t0)), (7, .int (iV t0)), (0, .ref (G.2.2.1 o)), (1, .int (iV x1)), (2, .int (iV x2)), (3, .int (iV x3)), (4, .int (iV x4))]) X dX7_leafFor_74 hl rfl (by decide) rfl (fun ls hl => ?_)
    refine r_goto (tgt := 6) X dX7_leafFor_77 (by decide) ?_
    exact hkb t0 (x6 + 1) _ _ _ V (lv_sub hl [3, 4, 5, 6, 7, 1, 0] rfl) h

set_option maxRecDepth 100000 in
set_option maxHeartbeats 4000000 in
theorem wl_X7_leafFor_6 {p : Program} {l : Launch} {e : Env} {s : State} {m : MethodId} {args : Array Value} {below : List Frame} {meth : Method} {c : Code} {G : UG} (X : uvCx p m c cX7_leafFor 8 RX7 s args meth (Option.some Jvm.ClassFile.FieldType.int)) (Y : uvGd G s s.heap) (σ0 : St) (o : Int) (x1 : Int) (x2 : Int) (x3 : Int) (x4 : Int) (ho : uvKd o = 7) (r : Int) (kx : Int → Option Int) (hkx : ∀ (x5 : Int) (H : Heap) (locs : List Loc) (ls : Array Slot), uvWo G σ0 s H locs → lv_has ls 8 [(5, .int (iV x5))] → kx x5 = some r → W p l e { frames := 1, cells := 0, slots := 0, locals := 25 } s m args below meth c H locs 0 0 (MQ below (uvQi G r σ0) args s 0 0 (uvA G)) (F0 m 80 ls [])) : ∀ (n : Nat) (x5 : Int) (x6 : Int) (H : Heap) (locs : List Loc) (ls : Array Slot), uvWo G σ0 s H locs → lv_has ls 8 [(0, .ref (G.2.2.1 o)), (1, .int (iV x1)), (2, .int (iV x2)), (3, .int (iV x3)), (4, .int (iV x4)), (5, .int (iV x5)), (6, .int (iV x6))] → lp_X7_leafFor_6 σ0 o x1 x2 x3 x4 kx n x5 x6 = some r → W p l e { frames := 1, cells := 0, slots := 0, locals := 25 } s m args below meth c H locs 0 0 (MQ below (uvQi G r σ0) args s 0 0 (uvA G)) (F0 m 6 ls []) := by
  intro n
  induction n with
  | zero => intro x5 x6 H locs ls V hl h; cases h
  | succ n ih =>
    intro x5 x6 H locs ls V hl h
    rw [lp_X7_leafFor_6] at h
    refine r_il X dX7_leafFor_6 (lv_at hl 6 rfl) ?_
    refine r_bp X dX7_leafFor_8 (by decide) ?_
    refine r_cge (cx := wI x6) (cy := 7) (tgt := 80) X rfl rfl dX7_leafFor_10 (by decide) (fun c1 => ?_) (fun c1 => ?_)
    · replace h := ite_t c1 h
      refine r_aln X dX7_leafFor_13 rfl (lv_at hl 0 rfl) ?_
      refine r_gr X Y V ci_7 ho 0 rfl (rf7_0 ho) (by decide) rfl rfl wd_131 dX7_leafFor_14 ?_
      refine r_il X dX7_leafFor_17 (lv_at hl 5 rfl) ?_
      obtain ⟨v2, hv2, hiv2, h⟩ := rdA_ex h
      refine r_ial X Y V (ka7_0 ho) (ln7_0 ho) hiv2 hv2 dX7_leafFor_19 ?_
      refine r_bp X dX7_leafFor_20 (by decide) ?_
      refine r_ceq (cx := wI v2) (cy := 42) (tgt := 80) X rfl rfl dX7_leafFor_22 (by decide) (fun c3 => ?_) (fun c3 => ?_)
      · replace h := ite_t c3 h
        exact hkx x5 _ _ _ V (lv_sub hl [5] rfl) h
      · replace h := ite_f c3 h
        refine r_aln X dX7_leafFor_25 rfl (lv_at hl 0 rfl) ?_
        refine r_il X dX7_leafFor_26 (lv_at hl 5 rfl) ?_
        refine r_iln X dX7_leafFor_28 rfl (lv_at hl 1 rfl) ?_
        refine r_iln X dX7_leafFor_29 rfl (lv_at hl 2 rfl) ?_
        refine r_iln X dX7_leafFor_30 rfl (lv_at hl 3 rfl) ?_
        refine r_il X dX7_leafFor_31 (lv_at hl 4 rfl) ?_
        obtain ⟨v4, hv4, h⟩ := bd1_ex h
        refine r_kz V (r_runV (As := [.int (iV x5), .int (iV x1), .int (iV x2), .int (iV x3), .int (iV x4)]) (rest := []) X Y V (c_X7_saysYes l G σ0 o x5 x1 x2 x3 x4 _ ho hv4) mv_X7_saysYes wd_618 ci_7 ho ⟨rfl, rfl, Nat.le_of_ble_eq_true rfl, Nat.le_of_ble_eq_true rfl⟩ rfl rfl hl.1 (Nat.le_of_ble_eq_true rfl) ⟨Nat.le_refl 0, Nat.le_refl 0⟩ dX7_leafFor_33) (fun H locs V z5 => ?_)
        refine r_eq (cx := v4) (tgt := 49) X (wI_01 z5) dX7_leafFor_36 (by decide) (fun c6 => ?_) (fun c6 => ?_)
        · replace h := ite_t c6 h
          refine r_aln X dX7_leafFor_49 rfl (lv_at hl 0 rfl) ?_
          refine r_gr X Y V ci_7 ho 4 rfl (rf7_4 ho) (by decide) rfl rfl wd_135 dX7_leafFor_50 ?_
          refine r_il X dX7_leafFor_53 (lv_at hl 5 rfl) ?_
          obtain ⟨v7, hv7, hiv7, h⟩ := rdA_ex h
          refine r_ial X Y V (ka7_4 ho) (ln7_4 ho) hiv7 hv7 dX7_leafFor_55 ?_
          exact wj_X7_leafFor_56 X Y σ0 _ r o x1 x2 x3 x4 x5 x6 v7 ho (fun m5 m6 H locs ls V hl h => ih m5 m6 H locs ls V hl h) _ _ _ V (lv_sub hl [0, 1, 2, 3, 4, 5, 6] rfl) h
        · replace h := ite_f c6 h
          refine r_aln X dX7_leafFor_39 rfl (lv_at hl 0 rfl) ?_
          refine r_gr X Y V ci_7 ho 3 rfl (rf7_3 ho) (by decide) rfl rfl wd_134 dX7_leafFor_40 ?_
          refine r_il X dX7_leafFor_43 (lv_at hl 5 rfl) ?_
          obtain ⟨v10, hv10, hiv10, h⟩ := rdA_ex h
          refine r_ial X Y V (ka7_3 ho) (ln7_3 ho) hiv10 hv10 dX7_leafFor_45 ?_
          refine r_goto (tgt := 56) X dX7_leafFor_46 (by decide) ?_
          exact wj_X7_leafFor_56 X Y σ0 _ r o x1 x2 x3 x4 x5 x6 v10 ho (fun m5 m6 H locs ls V hl h => ih m5 m6 H locs ls V hl h) _ _ _ V (lv_sub hl [0, 1, 2, 3, 4, 5, 6] rfl) h
    · replace h := ite_f c1 h
      exact hkx x5 _ _ _ V (lv_sub hl [5] rfl) h

set_option maxRecDepth 100000 in
set_option maxHeartbeats 4000000 in
theorem c_X7_leafFor (l : Launch) (G : UG) (σ0 : St) (o : Int) (a1 : Int) (a2 : Int) (a3 : Int) (a4 : Int) (r : Int) (ho : uvKd o = 7) (h : f_X7_leafFor σ0 o a1 a2 a3 a4 = some r) : Met l yX7_leafFor (.code yX7_leafFor cX7_leafFor 8 (Option.some Jvm.ClassFile.FieldType.int) :: TB) { frames := 1, cells := 0, slots := 0, locals := 25 } (uvPc G σ0 [.ref (G.2.2.1 o), .int (iV a1), .int (iV a2), .int (iV a3), .int (iV a4)]) (uvQi G r σ0) 0 0 (uvA G) := by
  unfold f_X7_leafFor at h
  refine r_met (own := RX7) (lv := [(0, .ref (G.2.2.1 o)), (1, .int (iV a1)), (2, .int (iV a2)), (3, .int (iV a3)), (4, .int (iV a4))]) (by decide) rfl (Nat.le_of_ble_eq_true rfl) rfl ?_
  intro p e s m below meth c ls X Y V hl
  have go : ∀ (args : Array Value) (H : Heap) (locs : List Loc), uvCx p m c cX7_leafFor 8 RX7 s args meth (Option.some Jvm.ClassFile.FieldType.int) → uvWo G σ0 s H locs → W p l e { frames := 1, cells := 0, slots := 0, locals := 25 } s m args below meth c H locs 0 0 (MQ below (uvQi G r σ0) args s 0 0 (uvA G)) (F0 m 0 ls []) := by
    intro args H locs X V
    refine r_ic X dX7_leafFor_0 ?_
    refine r_is (lv' := [(5, .int (iV 0)), (0, .ref (G.2.2.1 o)), (1, .int (iV a1)), (2, .int (iV a2)), (3, .int (iV a3)), (4, .int (iV a4))]) X dX7_leafFor_1 hl (by decide) rfl (fun ls hl => ?_)
    refine r_ic X dX7_leafFor_3 ?_
    refine r_is (lv' := [(6, .int (iV 0)), (5, .int (iV 0)), (0, .ref (G.2.2.1 o)), (1, .int (iV a1)), (2, .int (iV a2)), (3, .int (iV a3)), (4, .int (iV a4))]) X dX7_leafFor_4 hl (by decide) rfl (fun ls hl => ?_)
    refine wl_X7_leafFor_6 X Y σ0 o a1 a2 a3 a4 ho r _ (fun y11 H locs ls V hl h => ?_) 1000 0 0 _ _ _ V (lv_sub hl [2, 3, 4, 5, 6, 1, 0] rfl) h
    refine r_il X dX7_leafFor_80 (lv_at hl 0 rfl) ?_
    exact r_ri X V (so1 h) rfl dX7_leafFor_82
  exact go _ _ _ X V

set_option maxRecDepth 100000 in
set_option maxHeartbeats 4000000 in
theorem c_X2_leafOfUnit (l : Launch) (G : UG) (σ0 : St) (a1 : Int) (r : Int)  (h : f_X2_leafOfUnit σ0 a1 = some r) : Met l yX2_leafOfUnit (.code yX2_leafOfUnit cX2_leafOfUnit 2 (Option.some Jvm.ClassFile.FieldType.int) :: TB) { frames := 2, cells := 0, slots := 0, locals := 52 } (uvPc G σ0 [.ref (G.2.2.1 35), .int (iV a1)]) (uvQi G r σ0) 0 0 (uvA G) := by
  unfold f_X2_leafOfUnit at h
  refine r_met (own := RX2) (lv := [(0, .ref (G.2.2.1 35)), (1, .int (iV a1))]) (by decide) rfl (Nat.le_of_ble_eq_true rfl) rfl ?_
  intro p e s m below meth c ls X Y V hl
  have go : ∀ (args : Array Value) (H : Heap) (locs : List Loc), uvCx p m c cX2_leafOfUnit 2 RX2 s args meth (Option.some Jvm.ClassFile.FieldType.int) → uvWo G σ0 s H locs → W p l e { frames := 2, cells := 0, slots := 0, locals := 52 } s m args below meth c H locs 0 0 (MQ below (uvQi G r σ0) args s 0 0 (uvA G)) (F0 m 0 ls []) := by
    intro args H locs X V
    refine r_aln X dX2_leafOfUnit_0 rfl (lv_at hl 0 rfl) ?_
    refine r_gr X Y V ci_2 kd_35 2 rfl rfl (by decide) rfl rfl wd_234 dX2_leafOfUnit_1 ?_
    refine r_aln X dX2_leafOfUnit_4 rfl (lv_at hl 0 rfl) ?_
    refine r_gr X Y V ci_2 kd_35 0 rfl rfl (by decide) rfl rfl wd_232 dX2_leafOfUnit_5 ?_
    refine r_gr X Y V ci_8 kd_1 1 rfl rfl (by decide) rfl rfl wd_41 dX2_leafOfUnit_8 ?_
    refine r_iln X dX2_leafOfUnit_11 rfl (lv_at hl 1 rfl) ?_
    obtain ⟨v1, hv1, hiv1, h⟩ := rdA_ex h
    refine r_ial X Y V kd_3 ln_3 hiv1 hv1 dX2_leafOfUnit_12 ?_
    refine r_aln X dX2_leafOfUnit_13 rfl (lv_at hl 0 rfl) ?_
    refine r_gr X Y V ci_2 kd_35 0 rfl rfl (by decide) rfl rfl wd_232 dX2_leafOfUnit_14 ?_
    refine r_gr X Y V ci_8 kd_1 2 rfl rfl (by decide) rfl rfl wd_45 dX2_leafOfUnit_17 ?_
    refine r_iln X dX2_leafOfUnit_20 rfl (lv_at hl 1 rfl) ?_
    obtain ⟨v2, hv2, hiv2, h⟩ := rdA_ex h
    refine r_ial X Y V kd_4 ln_4 hiv2 hv2 dX2_leafOfUnit_21 ?_
    refine r_aln X dX2_leafOfUnit_22 rfl (lv_at hl 0 rfl) ?_
    refine r_gr X Y V ci_2 kd_35 0 rfl rfl (by decide) rfl rfl wd_232 dX2_leafOfUnit_23 ?_
    refine r_gr X Y V ci_8 kd_1 3 rfl rfl (by decide) rfl rfl wd_50 dX2_leafOfUnit_26 ?_
    refine r_iln X dX2_leafOfUnit_29 rfl (lv_at hl 1 rfl) ?_
    obtain ⟨v3, hv3, hiv3, h⟩ := rdA_ex h
    refine r_ial X Y V kd_5 ln_5 hiv3 hv3 dX2_leafOfUnit_30 ?_
    refine r_aln X dX2_leafOfUnit_31 rfl (lv_at hl 0 rfl) ?_
    refine r_gr X Y V ci_2 kd_35 0 rfl rfl (by decide) rfl rfl wd_232 dX2_leafOfUnit_32 ?_
    refine r_gr X Y V ci_8 kd_1 4 rfl rfl (by decide) rfl rfl wd_54 dX2_leafOfUnit_35 ?_
    refine r_iln X dX2_leafOfUnit_38 rfl (lv_at hl 1 rfl) ?_
    obtain ⟨v4, hv4, hiv4, h⟩ := rdA_ex h
    refine r_ial X Y V kd_6 ln_6 hiv4 hv4 dX2_leafOfUnit_39 ?_
    obtain ⟨v5, hv5, h⟩ := bd1_ex h
    refine r_ki V (r_runV (As := [.int (iV v1), .int (iV v2), .int (iV v3), .int (iV v4)]) (rest := []) X Y V (c_X7_leafFor l G σ0 14 v1 v2 v3 v4 _ kd_14 hv5) mv_X7_leafFor wd_614 ci_7 kd_14 ⟨rfl, rfl, Nat.le_of_ble_eq_true rfl, Nat.le_of_ble_eq_true rfl⟩ rfl rfl hl.1 (Nat.le_of_ble_eq_true rfl) ⟨Nat.le_refl 0, Nat.le_refl 0⟩ dX2_leafOfUnit_40) (fun H locs V => ?_)
    exact r_ri X V (so1 h) rfl dX2_leafOfUnit_43
  exact go _ _ _ X V

set_option maxRecDepth 100000 in
set_option maxHeartbeats 4000000 in
theorem c_X2_leafOfTarget (l : Launch) (G : UG) (σ0 : St) (a1 : Int) (r : Int)  (h : f_X2_leafOfTarget σ0 a1 = some r) : Met l yX2_leafOfTarget (.code yX2_leafOfTarget cX2_leafOfTarget 2 (Option.some Jvm.ClassFile.FieldType.int) :: TB) { frames := 2, cells := 0, slots := 0, locals := 52 } (uvPc G σ0 [.ref (G.2.2.1 35), .int (iV a1)]) (uvQi G r σ0) 0 0 (uvA G) := by
  unfold f_X2_leafOfTarget at h
  refine r_met (own := RX2) (lv := [(0, .ref (G.2.2.1 35)), (1, .int (iV a1))]) (by decide) rfl (Nat.le_of_ble_eq_true rfl) rfl ?_
  intro p e s m below meth c ls X Y V hl
  have go : ∀ (args : Array Value) (H : Heap) (locs : List Loc), uvCx p m c cX2_leafOfTarget 2 RX2 s args meth (Option.some Jvm.ClassFile.FieldType.int) → uvWo G σ0 s H locs → W p l e { frames := 2, cells := 0, slots := 0, locals := 52 } s m args below meth c H locs 0 0 (MQ below (uvQi G r σ0) args s 0 0 (uvA G)) (F0 m 0 ls []) := by
    intro args H locs X V
    refine r_aln X dX2_leafOfTarget_0 rfl (lv_at hl 0 rfl) ?_
    refine r_gr X Y V ci_2 kd_35 2 rfl rfl (by decide) rfl rfl wd_234 dX2_leafOfTarget_1 ?_
    refine r_aln X dX2_leafOfTarget_4 rfl (lv_at hl 0 rfl) ?_
    refine r_gr X Y V ci_2 kd_35 1 rfl rfl (by decide) rfl rfl wd_233 dX2_leafOfTarget_5 ?_
    refine r_iln X dX2_leafOfTarget_8 rfl (lv_at hl 1 rfl) ?_
    obtain ⟨v1, hv1, h⟩ := bd1_ex h
    refine r_ki V (r_runV (As := [.int (iV a1)]) (rest := [.ref (G.2.2.1 14)]) X Y V (c_X4_leftOf l G σ0 10 a1 _ kd_10 hv1) mv_X4_leftOf wd_640 ci_4 kd_10 ⟨rfl, rfl, Nat.le_of_ble_eq_true rfl, Nat.le_of_ble_eq_true rfl⟩ rfl rfl hl.1 (Nat.le_of_ble_eq_true rfl) ⟨Nat.le_refl 0, Nat.le_refl 0⟩ dX2_leafOfTarget_9) (fun H locs V => ?_)
    refine r_aln X dX2_leafOfTarget_12 rfl (lv_at hl 0 rfl) ?_
    refine r_gr X Y V ci_2 kd_35 1 rfl rfl (by decide) rfl rfl wd_233 dX2_leafOfTarget_13 ?_
    refine r_iln X dX2_leafOfTarget_16 rfl (lv_at hl 1 rfl) ?_
    obtain ⟨v2, hv2, h⟩ := bd1_ex h
    refine r_ki V (r_runV (As := [.int (iV a1)]) (rest := [.int (iV v1), .ref (G.2.2.1 14)]) X Y V (c_X4_rightOf l G σ0 10 a1 _ kd_10 hv2) mv_X4_rightOf wd_641 ci_4 kd_10 ⟨rfl, rfl, Nat.le_of_ble_eq_true rfl, Nat.le_of_ble_eq_true rfl⟩ rfl rfl hl.1 (Nat.le_of_ble_eq_true rfl) ⟨Nat.le_refl 0, Nat.le_refl 0⟩ dX2_leafOfTarget_17) (fun H locs V => ?_)
    refine r_aln X dX2_leafOfTarget_20 rfl (lv_at hl 0 rfl) ?_
    refine r_gr X Y V ci_2 kd_35 1 rfl rfl (by decide) rfl rfl wd_233 dX2_leafOfTarget_21 ?_
    refine r_gr X Y V ci_4 kd_10 1 rfl rfl (by decide) rfl rfl wd_97 dX2_leafOfTarget_24 ?_
    refine r_iln X dX2_leafOfTarget_27 rfl (lv_at hl 1 rfl) ?_
    obtain ⟨v3, hv3, hiv3, h⟩ := rdA_ex h
    refine r_ial X Y V kd_12 ln_12 hiv3 hv3 dX2_leafOfTarget_28 ?_
    refine r_aln X dX2_leafOfTarget_29 rfl (lv_at hl 0 rfl) ?_
    refine r_gr X Y V ci_2 kd_35 1 rfl rfl (by decide) rfl rfl wd_233 dX2_leafOfTarget_30 ?_
    refine r_gr X Y V ci_4 kd_10 2 rfl rfl (by decide) rfl rfl wd_101 dX2_leafOfTarget_33 ?_
    refine r_iln X dX2_leafOfTarget_36 rfl (lv_at hl 1 rfl) ?_
    obtain ⟨v4, hv4, hiv4, h⟩ := rdA_ex h
    refine r_ial X Y V kd_13 ln_13 hiv4 hv4 dX2_leafOfTarget_37 ?_
    obtain ⟨v5, hv5, h⟩ := bd1_ex h
    refine r_ki V (r_runV (As := [.int (iV v1), .int (iV v2), .int (iV v3), .int (iV v4)]) (rest := []) X Y V (c_X7_leafFor l G σ0 14 v1 v2 v3 v4 _ kd_14 hv5) mv_X7_leafFor wd_614 ci_7 kd_14 ⟨rfl, rfl, Nat.le_of_ble_eq_true rfl, Nat.le_of_ble_eq_true rfl⟩ rfl rfl hl.1 (Nat.le_of_ble_eq_true rfl) ⟨Nat.le_refl 0, Nat.le_refl 0⟩ dX2_leafOfTarget_38) (fun H locs V => ?_)
    exact r_ri X V (so1 h) rfl dX2_leafOfTarget_41
  exact go _ _ _ X V

set_option maxRecDepth 100000 in
set_option maxHeartbeats 4000000 in
theorem wl_X2_findLeaves_2 {p : Program} {l : Launch} {e : Env} {s : State} {m : MethodId} {args : Array Value} {below : List Frame} {meth : Method} {c : Code} {G : UG} (X : uvCx p m c cX2_findLeaves 2 RX2 s args meth (Option.none : Option Jvm.ClassFile.FieldType)) (Y : uvGd G s s.heap)   (r : Int) (σ' : St) (kx : St → Option (Int × St)) (hkx : ∀ (σ : St)  (H : Heap) (locs : List Loc) (ls : Array Slot), uvWo G σ s H locs → lv_has ls 2 [] → kx σ  = some (r, σ') → W p l e { frames := 3, cells := 0, slots := 0, locals := 73 } s m args below meth c H locs 0 0 (MQ below (uvQv G σ') args s 0 0 (uvA G)) (F0 m 30 ls [])) : ∀ (n : Nat) (σ : St) (x1 : Int) (H : Heap) (locs : List Loc) (ls : Array Slot), uvWo G σ s H locs → lv_has ls 2 [(0, .ref (G.2.2.1 35)), (1, .int (iV x1))] → lp_X2_findLeaves_2 kx n σ x1 = some (r, σ') → W p l e { frames := 3, cells := 0, slots := 0, locals := 73 } s m args below meth c H locs 0 0 (MQ below (uvQv G σ') args s 0 0 (uvA G)) (F0 m 2 ls []) := by
  intro n
  induction n with
  | zero => intro σ x1 H locs ls V hl h; cases h
  | succ n ih =>
    intro σ x1 H locs ls V hl h
    rw [lp_X2_findLeaves_2] at h
    refine r_iln X dX2_findLeaves_2 rfl (lv_at hl 1 rfl) ?_
    refine r_aln X dX2_findLeaves_3 rfl (lv_at hl 0 rfl) ?_
    refine r_gr X Y V ci_2 kd_35 0 rfl rfl (by decide) rfl rfl wd_232 dX2_findLeaves_4 ?_
    refine r_gi (kI := 8) X Y V ci_8 kd_1 8 rfl (by decide) rfl rfl wd_65 dX2_findLeaves_7 ?_
    refine r_cge (cx := wI x1) (cy := wI (σ 1 8)) (tgt := 30) X rfl rfl dX2_findLeaves_10 (by decide) (fun c1 => ?_) (fun c1 => ?_)
    · replace h := ite_t c1 h
      refine r_aln X dX2_findLeaves_13 rfl (lv_at hl 0 rfl) ?_
      refine r_gr X Y V ci_2 kd_35 4 rfl rfl (by decide) rfl rfl wd_236 dX2_findLeaves_14 ?_
      refine r_iln X dX2_findLeaves_17 rfl (lv_at hl 1 rfl) ?_
      refine r_aln X dX2_findLeaves_18 rfl (lv_at hl 0 rfl) ?_
      refine r_iln X dX2_findLeaves_19 rfl (lv_at hl 1 rfl) ?_
      obtain ⟨v2, hv2, h⟩ := bd1_ex h
      refine r_ki V (r_runV (As := [.int (iV x1)]) (rest := [.int (iV x1), .ref (G.2.2.1 36)]) X Y V (c_X2_leafOfUnit l G σ x1 _  hv2) mv_X2_leafOfUnit wd_662 ci_2 kd_35 ⟨rfl, rfl, Nat.le_of_ble_eq_true rfl, Nat.le_of_ble_eq_true rfl⟩ rfl rfl hl.1 (Nat.le_of_ble_eq_true rfl) ⟨Nat.le_refl 0, Nat.le_refl 0⟩ dX2_findLeaves_20) (fun H locs V => ?_)
      obtain ⟨σ3, hσ3, hiσ3, h⟩ := wrA_ex h
      refine r_ias X Y V kd_36 ln_36 hiσ3 hσ3 dX2_findLeaves_23 (fun H locs V => ?_)
      refine r_inc (kk := 1) (lv' := [(1, .int (iV (x1 + 1))), (0, .ref (G.2.2.1 35))]) X dX2_findLeaves_24 hl rfl (by decide) rfl (fun ls hl => ?_)
      refine r_goto (tgt := 2) X dX2_findLeaves_27 (by decide) ?_
      exact ih σ3 (x1 + 1) _ _ _ V (lv_sub hl [1, 0] rfl) h
    · replace h := ite_f c1 h
      exact hkx σ  _ _ _ V (lv_sub hl [] rfl) h

set_option maxRecDepth 100000 in
set_option maxHeartbeats 4000000 in
theorem c_X2_findLeaves (l : Launch) (G : UG) (σ : St)  (r : Int) (σ' : St)  (h : f_X2_findLeaves σ = some (r, σ')) : Met l yX2_findLeaves (.code yX2_findLeaves cX2_findLeaves 2 (Option.none : Option Jvm.ClassFile.FieldType) :: TB) { frames := 3, cells := 0, slots := 0, locals := 73 } (uvPc G σ [.ref (G.2.2.1 35)]) (uvQv G σ') 0 0 (uvA G) := by
  unfold f_X2_findLeaves at h
  refine r_met (own := RX2) (lv := [(0, .ref (G.2.2.1 35))]) (by decide) rfl (Nat.le_of_ble_eq_true rfl) rfl ?_
  intro p e s m below meth c ls X Y V hl
  have go : ∀ (args : Array Value) (H : Heap) (locs : List Loc), uvCx p m c cX2_findLeaves 2 RX2 s args meth (Option.none : Option Jvm.ClassFile.FieldType) → uvWo G σ s H locs → W p l e { frames := 3, cells := 0, slots := 0, locals := 73 } s m args below meth c H locs 0 0 (MQ below (uvQv G σ') args s 0 0 (uvA G)) (F0 m 0 ls []) := by
    intro args H locs X V
    refine r_ic X dX2_findLeaves_0 ?_
    refine r_isn (lv' := [(1, .int (iV 0)), (0, .ref (G.2.2.1 35))]) X dX2_findLeaves_1 rfl hl (by decide) rfl (fun ls hl => ?_)
    refine wl_X2_findLeaves_2 X Y   r σ' _ (fun σ4  H locs ls V hl h => ?_) 1000 σ 0 _ _ _ V (lv_sub hl [1, 0] rfl) h
    exact r_rv X V (so2 h).2 dX2_findLeaves_30
  exact go _ _ _ X V

set_option maxRecDepth 100000 in
set_option maxHeartbeats 4000000 in
theorem c_X7_nodeAbove (l : Launch) (G : UG) (σ0 : St) (o : Int) (a1 : Int) (r : Int) (ho : uvKd o = 7) (h : f_X7_nodeAbove σ0 o a1 = some r) : Met l yX7_nodeAbove (.code yX7_nodeAbove cX7_nodeAbove 2 (Option.some Jvm.ClassFile.FieldType.int) :: TB) { frames := 0, cells := 0, slots := 0, locals := 0 } (uvPc G σ0 [.ref (G.2.2.1 o), .int (iV a1)]) (uvQi G r σ0) 0 0 (uvA G) := by
  unfold f_X7_nodeAbove at h
  refine r_met (own := RX7) (lv := [(0, .ref (G.2.2.1 o)), (1, .int (iV a1))]) (by decide) rfl (Nat.le_of_ble_eq_true rfl) rfl ?_
  intro p e s m below meth c ls X Y V hl
  have go : ∀ (args : Array Value) (H : Heap) (locs : List Loc), uvCx p m c cX7_nodeAbove 2 RX7 s args meth (Option.some Jvm.ClassFile.FieldType.int) → uvWo G σ0 s H locs → W p l e { frames := 0, cells := 0, slots := 0, locals := 0 } s m args below meth c H locs 0 0 (MQ below (uvQi G r σ0) args s 0 0 (uvA G)) (F0 m 0 ls []) := by
    intro args H locs X V
    refine r_iln X dX7_nodeAbove_0 rfl (lv_at hl 1 rfl) ?_
    refine r_lt (cx := wI a1) (tgt := 21) X rfl dX7_nodeAbove_1 (by decide) (fun c1 => ?_) (fun c1 => ?_)
    · replace h := ite_t c1 h
      refine r_ic X dX7_nodeAbove_21 ?_
      exact r_ri X V (so1 h) rfl dX7_nodeAbove_22
    · replace h := ite_f c1 h
      refine r_iln X dX7_nodeAbove_4 rfl (lv_at hl 1 rfl) ?_
      refine r_aln X dX7_nodeAbove_5 rfl (lv_at hl 0 rfl) ?_
      refine r_gi (kI := 6) X Y V ci_7 ho 6 rfl (by decide) rfl rfl wd_137 dX7_nodeAbove_6 ?_
      refine r_cge (cx := wI a1) (cy := wI (σ0 o 6)) (tgt := 21) X rfl rfl dX7_nodeAbove_9 (by decide) (fun c2 => ?_) (fun c2 => ?_)
      · replace h := ite_t c2 h
        refine r_aln X dX7_nodeAbove_12 rfl (lv_at hl 0 rfl) ?_
        refine r_gr X Y V ci_7 ho 2 rfl (rf7_2 ho) (by decide) rfl rfl wd_133 dX7_nodeAbove_13 ?_
        refine r_iln X dX7_nodeAbove_16 rfl (lv_at hl 1 rfl) ?_
        obtain ⟨v3, hv3, hiv3, h⟩ := rdA_ex h
        refine r_ial X Y V (ka7_2 ho) (ln7_2 ho) hiv3 hv3 dX7_nodeAbove_17 ?_
        refine r_goto (tgt := 22) X dX7_nodeAbove_18 (by decide) ?_
        exact r_ri X V (so1 h) rfl dX7_nodeAbove_22
      · replace h := ite_f c2 h
        refine r_ic X dX7_nodeAbove_21 ?_
        exact r_ri X V (so1 h) rfl dX7_nodeAbove_22
  exact go _ _ _ X V

set_option maxRecDepth 100000 in
set_option maxHeartbeats 4000000 in
theorem wl_X7_liesUnder_5 {p : Program} {l : Launch} {e : Env} {s : State} {m : MethodId} {args : Array Value} {below : List Frame} {meth : Method} {c : Code} {G : UG} (X : uvCx p m c cX7_liesUnder 5 RX7 s args meth (Option.some Jvm.ClassFile.FieldType.boolean)) (Y : uvGd G s s.heap) (σ0 : St) (o : Int) (x2 : Int) (ho : uvKd o = 7) (r : Int) (kx : Int → Option Int) (hkx : ∀ (x3 : Int) (H : Heap) (locs : List Loc) (ls : Array Slot), uvWo G σ0 s H locs → lv_has ls 5 [(2, .int (iV x2)), (3, .int (iV x3))] → kx x3 = some r → W p l e { frames := 1, cells := 0, slots := 0, locals := 21 } s m args below meth c H locs 0 0 (MQ below (uvQz G r σ0) args s 0 0 (uvA G)) (F0 m 34 ls [])) : ∀ (n : Nat) (x3 : Int) (x4 : Int) (H : Heap) (locs : List Loc) (ls : Array Slot), uvWo G σ0 s H locs → lv_has ls 5 [(0, .ref (G.2.2.1 o)), (2, .int (iV x2)), (3, .int (iV x3)), (4, .int (iV x4))] → lp_X7_liesUnder_5 σ0 o x2 kx n x3 x4 = some r → W p l e { frames := 1, cells := 0, slots := 0, locals := 21 } s m args below meth c H locs 0 0 (MQ below (uvQz G r σ0) args s 0 0 (uvA G)) (F0 m 5 ls []) := by
  intro n
  induction n with
  | zero => intro x3 x4 H locs ls V hl h; cases h
  | succ n ih =>
    intro x3 x4 H locs ls V hl h
    rw [lp_X7_liesUnder_5] at h
    refine r_il X dX7_liesUnder_5 (lv_at hl 3 rfl) ?_
    refine r_bp X dX7_liesUnder_7 (by decide) ?_
    refine r_cge (cx := wI x4) (cy := 7) (tgt := 34) X rfl rfl dX7_liesUnder_9 (by decide) (fun c1 => ?_) (fun c1 => ?_)
    · replace h := ite_t c1 h
      refine r_iln X dX7_liesUnder_12 rfl (lv_at hl 2 rfl) ?_
      refine r_iln X dX7_liesUnder_13 rfl (lv_at hl 1 rfl) ?_
      refine r_ceq (cx := wI x3) (cy := wI x2) (tgt := 34) X rfl rfl dX7_liesUnder_14 (by decide) (fun c2 => ?_) (fun c2 => ?_)
      · replace h := ite_t c2 h
        exact hkx x3 _ _ _ V (lv_sub hl [1, 2] rfl) h
      · replace h := ite_f c2 h
        refine r_iln X dX7_liesUnder_17 rfl (lv_at hl 2 rfl) ?_
        refine r_ic X dX7_liesUnder_18 ?_
        refine r_ceq (cx := wI x3) (cy := (-1)) (tgt := 34) X rfl rfl dX7_liesUnder_19 (by decide) (fun c3 => ?_) (fun c3 => ?_)
        · replace h := ite_t c3 h
          exact hkx x3 _ _ _ V (lv_sub hl [1, 2] rfl) h
        · replace h := ite_f c3 h
          refine r_aln X dX7_liesUnder_22 rfl (lv_at hl 0 rfl) ?_
          refine r_iln X dX7_liesUnder_23 rfl (lv_at hl 2 rfl) ?_
          obtain ⟨v4, hv4, h⟩ := bd1_ex h
          refine r_ki V (r_runV (As := [.int (iV x3)]) (rest := []) X Y V (c_X7_nodeAbove l G σ0 o x3 _ ho hv4) mv_X7_nodeAbove wd_684 ci_7 ho ⟨rfl, rfl, Nat.le_of_ble_eq_true rfl, Nat.le_of_ble_eq_true rfl⟩ rfl rfl hl.1 (Nat.le_of_ble_eq_true rfl) ⟨Nat.le_refl 0, Nat.le_refl 0⟩ dX7_liesUnder_24) (fun H locs V => ?_)
          refine r_isn (lv' := [(3, .int (iV v4)), (0, .ref (G.2.2.1 o)), (2, .int (iV x2)), (4, .int (iV x4))]) X dX7_liesUnder_27 rfl hl (by decide) rfl (fun ls hl => ?_)
          refine r_inc (kk := 3) (lv' := [(4, .int (iV (x4 + 1))), (3, .int (iV v4)), (0, .ref (G.2.2.1 o)), (2, .int (iV x2))]) X dX7_liesUnder_28 hl rfl (by decide) rfl (fun ls hl => ?_)
          refine r_goto (tgt := 5) X dX7_liesUnder_31 (by decide) ?_
          exact ih v4 (x4 + 1) _ _ _ V (lv_sub hl [2, 3, 1, 0] rfl) h
    · replace h := ite_f c1 h
      exact hkx x3 _ _ _ V (lv_sub hl [1, 2] rfl) h

set_option maxRecDepth 100000 in
set_option maxHeartbeats 4000000 in
theorem wj_X7_liesUnder_34 {p : Program} {l : Launch} {e : Env} {s : State} {m : MethodId} {args : Array Value} {below : List Frame} {meth : Method} {c : Code} {G : UG} (X : uvCx p m c cX7_liesUnder 5 RX7 s args meth (Option.some Jvm.ClassFile.FieldType.boolean)) (Y : uvGd G s s.heap) (σ0 : St) (r : Int) (x2 : Int) (x3 : Int)  (H : Heap) (locs : List Loc) (ls : Array Slot) (V : uvWo G σ0 s H locs) (hl : lv_has ls 5 [(2, .int (iV x2)), (3, .int (iV x3))]) (h : jn_X7_liesUnder_34 σ0 x2 x3 = some r) : W p l e { frames := 1, cells := 0, slots := 0, locals := 21 } s m args below meth c H locs 0 0 (MQ below (uvQz G r σ0) args s 0 0 (uvA G)) (F0 m 34 ls []) := by
  unfold jn_X7_liesUnder_34 at h
  refine r_iln X dX7_liesUnder_34 rfl (lv_at hl 1 rfl) ?_
  refine r_iln X dX7_liesUnder_35 rfl (lv_at hl 0 rfl) ?_
  have J6 : W p l e { frames := 1, cells := 0, slots := 0, locals := 21 } s m args below meth c H locs 0 0 (MQ below (uvQz G r σ0) args s 0 0 (uvA G)) (F0 m 44 ls [.int (iV (if wI x3 = wI x2 then 1 else 0))]) := by
    exact r_rz X V (b01_ite (Or.inr rfl) (Or.inl rfl)) (so1 h) rfl dX7_liesUnder_44
  refine r_cne (cx := wI x3) (cy := wI x2) (tgt := 43) X rfl rfl dX7_liesUnder_36 (by decide) (fun c7 => ?_) (fun c7 => ?_)
  · skip
    refine r_ic X dX7_liesUnder_39 ?_
    refine r_goto (tgt := 44) X dX7_liesUnder_40 (by decide) ?_
    rw [if_pos c7] at J6
    exact J6
  · skip
    refine r_ic X dX7_liesUnder_43 ?_
    rw [if_neg c7] at J6
    exact J6

set_option maxRecDepth 100000 in
set_option maxHeartbeats 4000000 in
theorem c_X7_liesUnder (l : Launch) (G : UG) (σ0 : St) (o : Int) (a1 : Int) (a2 : Int) (r : Int) (ho : uvKd o = 7) (h : f_X7_liesUnder σ0 o a1 a2 = some r) : Met l yX7_liesUnder (.code yX7_liesUnder cX7_liesUnder 5 (Option.some Jvm.ClassFile.FieldType.boolean) :: TB) { frames := 1, cells := 0, slots := 0, locals := 21 } (uvPc G σ0 [.ref (G.2.2.1 o), .int (iV a1), .int (iV a2)]) (uvQz G r σ0) 0 0 (uvA G) := by
  unfold f_X7_liesUnder at h
  refine r_met (own := RX7) (lv := [(0, .ref (G.2.2.1 o)), (1, .int (iV a1)), (2, .int (iV a2))]) (by decide) rfl (Nat.le_of_ble_eq_true rfl) rfl ?_
  intro p e s m below meth c ls X Y V hl
  have go : ∀ (args : Array Value) (H : Heap) (locs : List Loc), uvCx p m c cX7_liesUnder 5 RX7 s args meth (Option.some Jvm.ClassFile.FieldType.boolean) → uvWo G σ0 s H locs → W p l e { frames := 1, cells := 0, slots := 0, locals := 21 } s m args below meth c H locs 0 0 (MQ below (uvQz G r σ0) args s 0 0 (uvA G)) (F0 m 0 ls []) := by
    intro args H locs X V
    refine r_iln X dX7_liesUnder_0 rfl (lv_at hl 1 rfl) ?_
    refine r_isn (lv' := [(3, .int (iV a1)), (0, .ref (G.2.2.1 o)), (1, .int (iV a1)), (2, .int (iV a2))]) X dX7_liesUnder_1 rfl hl (by decide) rfl (fun ls hl => ?_)
    refine r_ic X dX7_liesUnder_2 ?_
    refine r_is (lv' := [(4, .int (iV 0)), (3, .int (iV a1)), (0, .ref (G.2.2.1 o)), (1, .int (iV a1)), (2, .int (iV a2))]) X dX7_liesUnder_3 hl (by decide) rfl (fun ls hl => ?_)
    refine wl_X7_liesUnder_5 X Y σ0 o a2 ho r _ (fun y5 H locs ls V hl h => ?_) 1000 a1 0 _ _ _ V (lv_sub hl [2, 4, 1, 0] rfl) h
    exact wj_X7_liesUnder_34 X Y σ0 r a2 y5  _ _ _ V (lv_sub hl [0, 1] rfl) h
  exact go _ _ _ X V

set_option maxRecDepth 100000 in
set_option maxHeartbeats 4000000 in
theorem wl_X2_gather_3 {p : Program} {l : Launch} {e : Env} {s : State} {m : MethodId} {args : Array Value} {below : List Frame} {meth : Method} {c : Code} {G : UG} (X : uvCx p m c cX2_gather 6 RX2 s args meth (Option.none : Option Jvm.ClassFile.FieldType)) (Y : uvGd G s s.heap) (x1 : Int) (x2 : Int) (x3 : Int) (x4 : Int) (hx1 : uvKd x1 = 1) (r : Int) (σ' : St) (kx : St → Option (Int × St)) (hkx : ∀ (σ : St)  (H : Heap) (locs : List Loc) (ls : Array Slot), uvWo G σ s H locs → lv_has ls 6 [] → kx σ  = some (r, σ') → W p l e { frames := 2, cells := 0, slots := 0, locals := 45 } s m args below meth c H locs 0 0 (MQ below (uvQv G σ') args s 0 0 (uvA G)) (F0 m 66 ls [])) : ∀ (n : Nat) (σ : St) (x5 : Int) (H : Heap) (locs : List Loc) (ls : Array Slot), uvWo G σ s H locs → lv_has ls 6 [(0, .ref (G.2.2.1 35)), (1, .ref (G.2.2.1 x1)), (2, .int (iV x2)), (3, .int (iV x3)), (4, .int (iV x4)), (5, .int (iV x5))] → lp_X2_gather_3 x1 x2 x3 x4 kx n σ x5 = some (r, σ') → W p l e { frames := 2, cells := 0, slots := 0, locals := 45 } s m args below meth c H locs 0 0 (MQ below (uvQv G σ') args s 0 0 (uvA G)) (F0 m 3 ls []) := by
  intro n
  induction n with
  | zero => intro σ x5 H locs ls V hl h; cases h
  | succ n ih =>
    intro σ x5 H locs ls V hl h
    rw [lp_X2_gather_3] at h
    refine r_il X dX2_gather_3 (lv_at hl 5 rfl) ?_
    refine r_aln X dX2_gather_5 rfl (lv_at hl 0 rfl) ?_
    refine r_gr X Y V ci_2 kd_35 0 rfl rfl (by decide) rfl rfl wd_232 dX2_gather_6 ?_
    refine r_gi (kI := 8) X Y V ci_8 kd_1 8 rfl (by decide) rfl rfl wd_65 dX2_gather_9 ?_
    refine r_cge (cx := wI x5) (cy := wI (σ 1 8)) (tgt := 66) X rfl rfl dX2_gather_12 (by decide) (fun c1 => ?_) (fun c1 => ?_)
    · replace h := ite_t c1 h
      refine r_il X dX2_gather_15 (lv_at hl 5 rfl) ?_
      refine r_il X dX2_gather_17 (lv_at hl 4 rfl) ?_
      refine r_ceq (cx := wI x5) (cy := wI x4) (tgt := 60) X rfl rfl dX2_gather_19 (by decide) (fun c2 => ?_) (fun c2 => ?_)
      · replace h := ite_t c2 h
        refine r_inc (kk := 5) (lv' := [(5, .int (iV (x5 + 1))), (0, .ref (G.2.2.1 35)), (1, .ref (G.2.2.1 x1)), (2, .int (iV x2)), (3, .int (iV x3)), (4, .int (iV x4))]) X dX2_gather_60 hl rfl (by decide) rfl (fun ls hl => ?_)
        refine r_goto (tgt := 3) X dX2_gather_63 (by decide) ?_
        exact ih σ (x5 + 1) _ _ _ V (lv_sub hl [1, 2, 3, 4, 5, 0] rfl) h
      · replace h := ite_f c2 h
        refine r_aln X dX2_gather_22 rfl (lv_at hl 0 rfl) ?_
        refine r_gr X Y V ci_2 kd_35 0 rfl rfl (by decide) rfl rfl wd_232 dX2_gather_23 ?_
        refine r_gr X Y V ci_8 kd_1 0 rfl rfl (by decide) rfl rfl wd_39 dX2_gather_26 ?_
        refine r_il X dX2_gather_29 (lv_at hl 5 rfl) ?_
        obtain ⟨v3, hv3, hiv3, h⟩ := rdA_ex h
        refine r_ial X Y V kd_2 ln_2 hiv3 hv3 dX2_gather_31 ?_
        refine r_iln X dX2_gather_32 rfl (lv_at hl 2 rfl) ?_
        refine r_cne (cx := wI v3) (cy := wI x2) (tgt := 60) X rfl rfl dX2_gather_33 (by decide) (fun c4 => ?_) (fun c4 => ?_)
        · replace h := ite_t c4 h
          refine r_aln X dX2_gather_36 rfl (lv_at hl 0 rfl) ?_
          refine r_gr X Y V ci_2 kd_35 2 rfl rfl (by decide) rfl rfl wd_234 dX2_gather_37 ?_
          refine r_aln X dX2_gather_40 rfl (lv_at hl 0 rfl) ?_
          refine r_gr X Y V ci_2 kd_35 4 rfl rfl (by decide) rfl rfl wd_236 dX2_gather_41 ?_
          refine r_il X dX2_gather_44 (lv_at hl 5 rfl) ?_
          obtain ⟨v5, hv5, hiv5, h⟩ := rdA_ex h
          refine r_ial X Y V kd_36 ln_36 hiv5 hv5 dX2_gather_46 ?_
          refine r_iln X dX2_gather_47 rfl (lv_at hl 3 rfl) ?_
          obtain ⟨v6, hv6, h⟩ := bd1_ex h
          refine r_kz V (r_runV (As := [.int (iV v5), .int (iV x3)]) (rest := []) X Y V (c_X7_liesUnder l G σ 14 v5 x3 _ kd_14 hv6) mv_X7_liesUnder wd_680 ci_7 kd_14 ⟨rfl, rfl, Nat.le_of_ble_eq_true rfl, Nat.le_of_ble_eq_true rfl⟩ rfl rfl hl.1 (Nat.le_of_ble_eq_true rfl) ⟨Nat.le_refl 0, Nat.le_refl 0⟩ dX2_gather_48) (fun H locs V z7 => ?_)
          refine r_eq (cx := v6) (tgt := 60) X (wI_01 z7) dX2_gather_51 (by decide) (fun c8 => ?_) (fun c8 => ?_)
          · replace h := ite_t c8 h
            refine r_inc (kk := 5) (lv' := [(5, .int (iV (x5 + 1))), (0, .ref (G.2.2.1 35)), (1, .ref (G.2.2.1 x1)), (2, .int (iV x2)), (3, .int (iV x3)), (4, .int (iV x4))]) X dX2_gather_60 hl rfl (by decide) rfl (fun ls hl => ?_)
            refine r_goto (tgt := 3) X dX2_gather_63 (by decide) ?_
            exact ih σ (x5 + 1) _ _ _ V (lv_sub hl [1, 2, 3, 4, 5, 0] rfl) h
          · replace h := ite_f c8 h
            refine r_aln X dX2_gather_54 rfl (lv_at hl 1 rfl) ?_
            refine r_il X dX2_gather_55 (lv_at hl 5 rfl) ?_
            obtain ⟨v9, σ10, hv9, h⟩ := bd2_ex h
            refine r_kv V (r_runV (As := [.int (iV x5)]) (rest := []) X Y V (c_X1_add l G σ x1 x5 _ _ hx1 hv9) mv_X1_add wd_688 ci_1 hx1 ⟨rfl, rfl, Nat.le_of_ble_eq_true rfl, Nat.le_of_ble_eq_true rfl⟩ rfl rfl hl.1 (Nat.le_of_ble_eq_true rfl) ⟨Nat.le_refl 0, Nat.le_refl 0⟩ dX2_gather_57) (fun H locs V => ?_)
            refine r_inc (kk := 5) (lv' := [(5, .int (iV (x5 + 1))), (0, .ref (G.2.2.1 35)), (1, .ref (G.2.2.1 x1)), (2, .int (iV x2)), (3, .int (iV x3)), (4, .int (iV x4))]) X dX2_gather_60 hl rfl (by decide) rfl (fun ls hl => ?_)
            refine r_goto (tgt := 3) X dX2_gather_63 (by decide) ?_
            exact ih σ10 (x5 + 1) _ _ _ V (lv_sub hl [1, 2, 3, 4, 5, 0] rfl) h
        · replace h := ite_f c4 h
          refine r_inc (kk := 5) (lv' := [(5, .int (iV (x5 + 1))), (0, .ref (G.2.2.1 35)), (1, .ref (G.2.2.1 x1)), (2, .int (iV x2)), (3, .int (iV x3)), (4, .int (iV x4))]) X dX2_gather_60 hl rfl (by decide) rfl (fun ls hl => ?_)
          refine r_goto (tgt := 3) X dX2_gather_63 (by decide) ?_
          exact ih σ (x5 + 1) _ _ _ V (lv_sub hl [1, 2, 3, 4, 5, 0] rfl) h
    · replace h := ite_f c1 h
      exact hkx σ  _ _ _ V (lv_sub hl [] rfl) h

set_option maxRecDepth 100000 in
set_option maxHeartbeats 4000000 in
theorem c_X2_gather (l : Launch) (G : UG) (σ : St) (a1 : Int) (a2 : Int) (a3 : Int) (a4 : Int) (r : Int) (σ' : St) (ha1 : uvKd a1 = 1) (h : f_X2_gather σ a1 a2 a3 a4 = some (r, σ')) : Met l yX2_gather (.code yX2_gather cX2_gather 6 (Option.none : Option Jvm.ClassFile.FieldType) :: TB) { frames := 2, cells := 0, slots := 0, locals := 45 } (uvPc G σ [.ref (G.2.2.1 35), .ref (G.2.2.1 a1), .int (iV a2), .int (iV a3), .int (iV a4)]) (uvQv G σ') 0 0 (uvA G) := by
  unfold f_X2_gather at h
  refine r_met (own := RX2) (lv := [(0, .ref (G.2.2.1 35)), (1, .ref (G.2.2.1 a1)), (2, .int (iV a2)), (3, .int (iV a3)), (4, .int (iV a4))]) (by decide) rfl (Nat.le_of_ble_eq_true rfl) rfl ?_
  intro p e s m below meth c ls X Y V hl
  have go : ∀ (args : Array Value) (H : Heap) (locs : List Loc), uvCx p m c cX2_gather 6 RX2 s args meth (Option.none : Option Jvm.ClassFile.FieldType) → uvWo G σ s H locs → W p l e { frames := 2, cells := 0, slots := 0, locals := 45 } s m args below meth c H locs 0 0 (MQ below (uvQv G σ') args s 0 0 (uvA G)) (F0 m 0 ls []) := by
    intro args H locs X V
    refine r_ic X dX2_gather_0 ?_
    refine r_is (lv' := [(5, .int (iV 0)), (0, .ref (G.2.2.1 35)), (1, .ref (G.2.2.1 a1)), (2, .int (iV a2)), (3, .int (iV a3)), (4, .int (iV a4))]) X dX2_gather_1 hl (by decide) rfl (fun ls hl => ?_)
    refine wl_X2_gather_3 X Y a1 a2 a3 a4 ha1 r σ' _ (fun σ11  H locs ls V hl h => ?_) 1000 σ 0 _ _ _ V (lv_sub hl [1, 2, 3, 4, 5, 0] rfl) h
    exact r_rv X V (so2 h).2 dX2_gather_66
  exact go _ _ _ X V

set_option maxRecDepth 100000 in
set_option maxHeartbeats 4000000 in
theorem wl_X2_climb_6 {p : Program} {l : Launch} {e : Env} {s : State} {m : MethodId} {args : Array Value} {below : List Frame} {meth : Method} {c : Code} {G : UG} (X : uvCx p m c cX2_climb 7 RX2 s args meth (Option.none : Option Jvm.ClassFile.FieldType)) (Y : uvGd G s s.heap) (x1 : Int) (x2 : Int) (x4 : Int) (hx1 : uvKd x1 = 1) (r : Int) (σ' : St) (kx : St → Option (Int × St)) (hkx : ∀ (σ : St)  (H : Heap) (locs : List Loc) (ls : Array Slot), uvWo G σ s H locs → lv_has ls 7 [] → kx σ  = some (r, σ') → W p l e { frames := 3, cells := 0, slots := 0, locals := 70 } s m args below meth c H locs 0 0 (MQ below (uvQv G σ') args s 0 0 (uvA G)) (F0 m 64 ls [])) : ∀ (n : Nat) (σ : St) (x5 : Int) (x6 : Int) (H : Heap) (locs : List Loc) (ls : Array Slot), uvWo G σ s H locs → lv_has ls 7 [(0, .ref (G.2.2.1 35)), (1, .ref (G.2.2.1 x1)), (2, .int (iV x2)), (4, .int (iV x4)), (5, .int (iV x5)), (6, .int (iV x6))] → lp_X2_climb_6 x1 x2 x4 kx n σ x5 x6 = some (r, σ') → W p l e { frames := 3, cells := 0, slots := 0, locals := 70 } s m args below meth c H locs 0 0 (MQ below (uvQv G σ') args s 0 0 (uvA G)) (F0 m 6 ls []) := by
  intro n
  induction n with
  | zero => intro σ x5 x6 H locs ls V hl h; cases h
  | succ n ih =>
    intro σ x5 x6 H locs ls V hl h
    rw [lp_X2_climb_6] at h
    refine r_il X dX2_climb_6 (lv_at hl 5 rfl) ?_
    refine r_bp X dX2_climb_8 (by decide) ?_
    refine r_cgt (cx := wI x6) (cy := 7) (tgt := 64) X rfl rfl dX2_climb_10 (by decide) (fun c1 => ?_) (fun c1 => ?_)
    · replace h := ite_t c1 h
      exact hkx σ  _ _ _ V (lv_sub hl [] rfl) h
    · replace h := ite_f c1 h
      refine r_aln X dX2_climb_13 rfl (lv_at hl 0 rfl) ?_
      refine r_aln X dX2_climb_14 rfl (lv_at hl 1 rfl) ?_
      refine r_iln X dX2_climb_15 rfl (lv_at hl 2 rfl) ?_
      refine r_il X dX2_climb_16 (lv_at hl 4 rfl) ?_
      refine r_il X dX2_climb_18 (lv_at hl 3 rfl) ?_
      obtain ⟨v2, σ3, hv2, h⟩ := bd2_ex h
      refine r_kv V (r_runV (As := [.ref (G.2.2.1 x1), .int (iV x2), .int (iV x5), .int (iV x4)]) (rest := []) X Y V (c_X2_gather l G σ x1 x2 x5 x4 _ _ hx1 hv2) mv_X2_gather wd_676 ci_2 kd_35 ⟨rfl, rfl, Nat.le_of_ble_eq_true rfl, Nat.le_of_ble_eq_true rfl⟩ rfl rfl hl.1 (Nat.le_of_ble_eq_true rfl) ⟨Nat.le_refl 0, Nat.le_refl 0⟩ dX2_climb_20) (fun H locs V => ?_)
      refine r_aln X dX2_climb_23 rfl (lv_at hl 0 rfl) ?_
      refine r_gr X Y V ci_2 kd_35 2 rfl rfl (by decide) rfl rfl wd_234 dX2_climb_24 ?_
      refine r_il X dX2_climb_27 (lv_at hl 4 rfl) ?_
      obtain ⟨v4, hv4, h⟩ := bd1_ex h
      refine r_ki V (r_runV (As := [.int (iV x5)]) (rest := []) X Y V (c_X7_nodeAbove l G σ3 14 x5 _ kd_14 hv4) mv_X7_nodeAbove wd_692 ci_7 kd_14 ⟨rfl, rfl, Nat.le_of_ble_eq_true rfl, Nat.le_of_ble_eq_true rfl⟩ rfl rfl hl.1 (Nat.le_of_ble_eq_true rfl) ⟨Nat.le_refl 0, Nat.le_refl 0⟩ dX2_climb_29) (fun H locs V => ?_)
      refine r_is (lv' := [(5, .int (iV v4)), (0, .ref (G.2.2.1 35)), (1, .ref (G.2.2.1 x1)), (2, .int (iV x2)), (4, .int (iV x4)), (6, .int (iV x6))]) X dX2_climb_32 hl (by decide) rfl (fun ls hl => ?_)
      refine r_aln X dX2_climb_34 rfl (lv_at hl 2 rfl) ?_
      refine r_gi (kI := 1) X Y V ci_1 hx1 1 rfl (by decide) rfl rfl wd_215 dX2_climb_35 ?_
      refine r_gt (cx := wI (σ3 x1 1)) (tgt := 47) X rfl dX2_climb_38 (by decide) (fun c5 => ?_) (fun c5 => ?_)
      · replace h := ite_t c5 h
        exact r_rv X V (so2 h).2 dX2_climb_47
      · replace h := ite_f c5 h
        refine r_il X dX2_climb_41 (lv_at hl 0 rfl) ?_
        refine r_ic X dX2_climb_43 ?_
        refine r_cne (cx := wI v4) (cy := (-1)) (tgt := 48) X rfl rfl dX2_climb_44 (by decide) (fun c6 => ?_) (fun c6 => ?_)
        · replace h := ite_t c6 h
          exact r_rv X V (so2 h).2 dX2_climb_47
        · replace h := ite_f c6 h
          refine r_aln X dX2_climb_48 rfl (lv_at hl 2 rfl) ?_
          refine r_dup X dX2_climb_49 rfl ?_
          refine r_gi (kI := 2) X Y V ci_1 hx1 2 rfl (by decide) rfl rfl wd_218 dX2_climb_50 ?_
          refine r_ic X dX2_climb_53 ?_
          refine r_iadd X dX2_climb_54 ?_
          obtain ⟨σ7, hσ7, h⟩ := wrF_ex h
          refine r_pi X Y V ci_1 hx1 2 rfl (by decide) rfl rfl rfl (tyX1_ok 2 (by decide)) wd_218 hσ7 dX2_climb_55 (fun H locs V => ?_)
          refine r_inc (kk := 5) (lv' := [(6, .int (iV (x6 + 1))), (5, .int (iV v4)), (0, .ref (G.2.2.1 35)), (1, .ref (G.2.2.1 x1)), (2, .int (iV x2)), (4, .int (iV x4))]) X dX2_climb_58 hl rfl (by decide) rfl (fun ls hl => ?_)
          refine r_goto (tgt := 6) X dX2_climb_61 (by decide) ?_
          exact ih σ7 v4 (x6 + 1) _ _ _ V (lv_sub hl [2, 3, 4, 5, 1, 0] rfl) h

set_option maxRecDepth 100000 in
set_option maxHeartbeats 4000000 in
theorem c_X2_climb (l : Launch) (G : UG) (σ : St) (a1 : Int) (a2 : Int) (a3 : Int) (a4 : Int) (r : Int) (σ' : St) (ha1 : uvKd a1 = 1) (h : f_X2_climb σ a1 a2 a3 a4 = some (r, σ')) : Met l yX2_climb (.code yX2_climb cX2_climb 7 (Option.none : Option Jvm.ClassFile.FieldType) :: TB) { frames := 3, cells := 0, slots := 0, locals := 70 } (uvPc G σ [.ref (G.2.2.1 35), .ref (G.2.2.1 a1), .int (iV a2), .int (iV a3), .int (iV a4)]) (uvQv G σ') 0 0 (uvA G) := by
  unfold f_X2_climb at h
  refine r_met (own := RX2) (lv := [(0, .ref (G.2.2.1 35)), (1, .ref (G.2.2.1 a1)), (2, .int (iV a2)), (3, .int (iV a3)), (4, .int (iV a4))]) (by decide) rfl (Nat.le_of_ble_eq_true rfl) rfl ?_
  intro p e s m below meth c ls X Y V hl
  have go : ∀ (args : Array Value) (H : Heap) (locs : List Loc), uvCx p m c cX2_climb 7 RX2 s args meth (Option.none : Option Jvm.ClassFile.FieldType) → uvWo G σ s H locs → W p l e { frames := 3, cells := 0, slots := 0, locals := 70 } s m args below meth c H locs 0 0 (MQ below (uvQv G σ') args s 0 0 (uvA G)) (F0 m 0 ls []) := by
    intro args H locs X V
    refine r_iln X dX2_climb_0 rfl (lv_at hl 3 rfl) ?_
    refine r_is (lv' := [(5, .int (iV a3)), (0, .ref (G.2.2.1 35)), (1, .ref (G.2.2.1 a1)), (2, .int (iV a2)), (3, .int (iV a3)), (4, .int (iV a4))]) X dX2_climb_1 hl (by decide) rfl (fun ls hl => ?_)
    refine r_ic X dX2_climb_3 ?_
    refine r_is (lv' := [(6, .int (iV 0)), (5, .int (iV a3)), (0, .ref (G.2.2.1 35)), (1, .ref (G.2.2.1 a1)), (2, .int (iV a2)), (3, .int (iV a3)), (4, .int (iV a4))]) X dX2_climb_4 hl (by decide) rfl (fun ls hl => ?_)
    refine wl_X2_climb_6 X Y a1 a2 a4 ha1 r σ' _ (fun σ8  H locs ls V hl h => ?_) 1000 σ a3 0 _ _ _ V (lv_sub hl [2, 3, 4, 6, 1, 0] rfl) h
    exact r_rv X V (so2 h).2 dX2_climb_64
  exact go _ _ _ X V

set_option maxRecDepth 100000 in
set_option maxHeartbeats 4000000 in
theorem wj_X2_chooseFor_86 {p : Program} {l : Launch} {e : Env} {s : State} {m : MethodId} {args : Array Value} {below : List Frame} {meth : Method} {c : Code} {G : UG} (X : uvCx p m c cX2_chooseFor 8 RX2 s args meth (Option.none : Option Jvm.ClassFile.FieldType)) (Y : uvGd G s s.heap) (kb : St → Int → Int → Int → Option (Int × St)) (r : Int) (σ' : St) (σ : St) (x2 : Int) (x3 : Int) (x4 : Int) (x5 : Int) (x6 : Int) (x7 : Int) (hx3 : uvKd x3 = 1) (hkb : ∀ (σ : St) (m5 : Int) (m6 : Int) (m7 : Int) (H : Heap) (locs : List Loc) (ls : Array Slot), uvWo G σ s H locs → lv_has ls 8 [(0, .ref (G.2.2.1 35)), (2, .int (iV x2)), (3, .ref (G.2.2.1 x3)), (4, .int (iV x4)), (5, .int (iV m5)), (6, .int (iV m6)), (7, .int (iV m7))] → kb σ m5 m6 m7 = some (r, σ') → W p l e { frames := 4, cells := 0, slots := 0, locals := 96 } s m args below meth c H locs 0 0 (MQ below (uvQv G σ') args s 0 0 (uvA G)) (F0 m 35 ls [])) (H : Heap) (locs : List Loc) (ls : Array Slot) (V : uvWo G σ s H locs) (hl : lv_has ls 8 [(0, .ref (G.2.2.1 35)), (2, .int (iV x2)), (3, .ref (G.2.2.1 x3)), (4, .int (iV x4)), (5, .int (iV x5)), (6, .int (iV x6)), (7, .int (iV x7))]) (h : jn_X2_chooseFor_86 kb σ x2 x3 x4 x5 x6 x7 = some (r, σ')) : W p l e { frames := 4, cells := 0, slots := 0, locals := 96 } s m args below meth c H locs 0 0 (MQ below (uvQv G σ') args s 0 0 (uvA G)) (F0 m 86 ls []) := by
  unfold jn_X2_chooseFor_86 at h
  refine r_aln X dX2_chooseFor_86 rfl (lv_at hl 0 rfl) ?_
  refine r_aln X dX2_chooseFor_87 rfl (lv_at hl 2 rfl) ?_
  refine r_il X dX2_chooseFor_88 (lv_at hl 4 rfl) ?_
  refine r_il X dX2_chooseFor_90 (lv_at hl 3 rfl) ?_
  refine r_iln X dX2_chooseFor_92 rfl (lv_at hl 1 rfl) ?_
  obtain ⟨v12, σ13, hv12, h⟩ := bd2_ex h
  refine r_kv V (r_runV (As := [.ref (G.2.2.1 x3), .int (iV x5), .int (iV x4), .int (iV x2)]) (rest := []) X Y V (c_X2_climb l G σ x3 x5 x4 x2 _ _ hx3 hv12) mv_X2_climb wd_672 ci_2 kd_35 ⟨rfl, rfl, Nat.le_of_ble_eq_true rfl, Nat.le_of_ble_eq_true rfl⟩ rfl rfl hl.1 (Nat.le_of_ble_eq_true rfl) ⟨Nat.le_refl 0, Nat.le_refl 0⟩ dX2_chooseFor_93) (fun H locs V => ?_)
  refine r_aln X dX2_chooseFor_96 rfl (lv_at hl 2 rfl) ?_
  refine r_gi (kI := 1) X Y V ci_1 hx3 1 rfl (by decide) rfl rfl wd_215 dX2_chooseFor_97 ?_
  refine r_le (cx := wI (σ13 x3 1)) (tgt := 104) X rfl dX2_chooseFor_100 (by decide) (fun c14 => ?_) (fun c14 => ?_)
  · replace h := ite_t c14 h
    exact r_rv X V (so2 h).2 dX2_chooseFor_103
  · replace h := ite_f c14 h
    refine r_aln X dX2_chooseFor_104 rfl (lv_at hl 0 rfl) ?_
    refine r_gr X Y V ci_2 kd_35 3 rfl rfl (by decide) rfl rfl wd_235 dX2_chooseFor_105 ?_
    refine r_il X dX2_chooseFor_108 (lv_at hl 4 rfl) ?_
    obtain ⟨v15, hv15, hiv15, h⟩ := rdA_ex h
    refine r_ial X Y V kd_34 ln_34 hiv15 hv15 dX2_chooseFor_110 ?_
    refine r_is (lv' := [(5, .int (iV v15)), (0, .ref (G.2.2.1 35)), (2, .int (iV x2)), (3, .ref (G.2.2.1 x3)), (4, .int (iV x4)), (6, .int (iV x6)), (7, .int (iV x7))]) X dX2_chooseFor_111 hl (by decide) rfl (fun ls hl => ?_)
    refine r_inc (kk := 6) (lv' := [(7, .int (iV (x7 + 1))), (5, .int (iV v15)), (0, .ref (G.2.2.1 35)), (2, .int (iV x2)), (3, .ref (G.2.2.1 x3)), (4, .int (iV x4)), (6, .int (iV x6))]) X dX2_chooseFor_113 hl rfl (by decide) rfl (fun ls hl => ?_)
    refine r_goto (tgt := 35) X dX2_chooseFor_116 (by decide) ?_
    exact hkb σ13 v15 x6 (x7 + 1) _ _ _ V (lv_sub hl [2, 3, 4, 5, 1, 6, 0] rfl) h

set_option maxRecDepth 100000 in
set_option maxHeartbeats 4000000 in
theorem wl_X2_chooseFor_35 {p : Program} {l : Launch} {e : Env} {s : State} {m : MethodId} {args : Array Value} {below : List Frame} {meth : Method} {c : Code} {G : UG} (X : uvCx p m c cX2_chooseFor 8 RX2 s args meth (Option.none : Option Jvm.ClassFile.FieldType)) (Y : uvGd G s s.heap) (x2 : Int) (x3 : Int) (x4 : Int) (hx3 : uvKd x3 = 1) (r : Int) (σ' : St) (kx : St → Option (Int × St)) (hkx : ∀ (σ : St)  (H : Heap) (locs : List Loc) (ls : Array Slot), uvWo G σ s H locs → lv_has ls 8 [(3, .ref (G.2.2.1 x3))] → kx σ  = some (r, σ') → W p l e { frames := 4, cells := 0, slots := 0, locals := 96 } s m args below meth c H locs 0 0 (MQ below (uvQv G σ') args s 0 0 (uvA G)) (F0 m 119 ls [])) : ∀ (n : Nat) (σ : St) (x5 : Int) (x6 : Int) (x7 : Int) (H : Heap) (locs : List Loc) (ls : Array Slot), uvWo G σ s H locs → lv_has ls 8 [(0, .ref (G.2.2.1 35)), (2, .int (iV x2)), (3, .ref (G.2.2.1 x3)), (4, .int (iV x4)), (5, .int (iV x5)), (6, .int (iV x6)), (7, .int (iV x7))] → lp_X2_chooseFor_35 x2 x3 x4 kx n σ x5 x6 x7 = some (r, σ') → W p l e { frames := 4, cells := 0, slots := 0, locals := 96 } s m args below meth c H locs 0 0 (MQ below (uvQv G σ') args s 0 0 (uvA G)) (F0 m 35 ls []) := by
  intro n
  induction n with
  | zero => intro σ x5 x6 x7 H locs ls V hl h; cases h
  | succ n ih =>
    intro σ x5 x6 x7 H locs ls V hl h
    rw [lp_X2_chooseFor_35] at h
    refine r_il X dX2_chooseFor_35 (lv_at hl 6 rfl) ?_
    refine r_bp X dX2_chooseFor_37 (by decide) ?_
    refine r_cge (cx := wI x7) (cy := 6) (tgt := 119) X rfl rfl dX2_chooseFor_39 (by decide) (fun c6 => ?_) (fun c6 => ?_)
    · replace h := ite_t c6 h
      refine r_il X dX2_chooseFor_42 (lv_at hl 5 rfl) ?_
      refine r_ic X dX2_chooseFor_44 ?_
      refine r_il X dX2_chooseFor_45 (lv_at hl 4 rfl) ?_
      refine r_ishl X dX2_chooseFor_47 ?_
      refine r_iand X dX2_chooseFor_48 ?_
      refine r_ne (cx := wI (andI x6 (shlI 1 x5))) (tgt := 119) X rfl dX2_chooseFor_49 (by decide) (fun c7 => ?_) (fun c7 => ?_)
      · replace h := ite_t c7 h
        refine r_il X dX2_chooseFor_52 (lv_at hl 5 rfl) ?_
        refine r_ic X dX2_chooseFor_54 ?_
        refine r_il X dX2_chooseFor_55 (lv_at hl 4 rfl) ?_
        refine r_ishl X dX2_chooseFor_57 ?_
        refine r_ior X dX2_chooseFor_58 ?_
        obtain ⟨v8, hv8, h⟩ := bnd_ex h
        refine r_eqI hv8 ?_
        refine r_is (lv' := [(6, .int (iV v8)), (0, .ref (G.2.2.1 35)), (2, .int (iV x2)), (3, .ref (G.2.2.1 x3)), (4, .int (iV x4)), (5, .int (iV x5)), (7, .int (iV x7))]) X dX2_chooseFor_59 hl (by decide) rfl (fun ls hl => ?_)
        refine r_aln X dX2_chooseFor_61 rfl (lv_at hl 3 rfl) ?_
        refine r_dup X dX2_chooseFor_62 rfl ?_
        refine r_gi (kI := 3) X Y V ci_1 hx3 3 rfl (by decide) rfl rfl wd_221 dX2_chooseFor_63 ?_
        refine r_ic X dX2_chooseFor_66 ?_
        refine r_iadd X dX2_chooseFor_67 ?_
        obtain ⟨σ9, hσ9, h⟩ := wrF_ex h
        refine r_pi X Y V ci_1 hx3 3 rfl (by decide) rfl rfl rfl (tyX1_ok 3 (by decide)) wd_221 hσ9 dX2_chooseFor_68 (fun H locs V => ?_)
        refine r_il X dX2_chooseFor_71 (lv_at hl 6 rfl) ?_
        refine r_le (cx := wI x7) (tgt := 86) X rfl dX2_chooseFor_73 (by decide) (fun c10 => ?_) (fun c10 => ?_)
        · replace h := ite_t c10 h
          refine r_aln X dX2_chooseFor_76 rfl (lv_at hl 3 rfl) ?_
          refine r_dup X dX2_chooseFor_77 rfl ?_
          refine r_gi (kI := 2) X Y V ci_1 hx3 2 rfl (by decide) rfl rfl wd_218 dX2_chooseFor_78 ?_
          refine r_ic X dX2_chooseFor_81 ?_
          refine r_iadd X dX2_chooseFor_82 ?_
          obtain ⟨σ11, hσ11, h⟩ := wrF_ex h
          refine r_pi X Y V ci_1 hx3 2 rfl (by decide) rfl rfl rfl (tyX1_ok 2 (by decide)) wd_218 hσ11 dX2_chooseFor_83 (fun H locs V => ?_)
          exact wj_X2_chooseFor_86 X Y _ r σ' σ11 x2 x3 x4 x5 v8 x7 hx3 (fun σ m5 m6 m7 H locs ls V hl h => ih σ m5 m6 m7 H locs ls V hl h) _ _ _ V (lv_sub hl [1, 2, 3, 4, 5, 0, 6] rfl) h
        · replace h := ite_f c10 h
          exact wj_X2_chooseFor_86 X Y _ r σ' σ9 x2 x3 x4 x5 v8 x7 hx3 (fun σ m5 m6 m7 H locs ls V hl h => ih σ m5 m6 m7 H locs ls V hl h) _ _ _ V (lv_sub hl [1, 2, 3, 4, 5, 0, 6] rfl) h
      · replace h := ite_f c7 h
        exact hkx σ  _ _ _ V (lv_sub hl [2] rfl) h
    · replace h := ite_f c6 h
      exact hkx σ  _ _ _ V (lv_sub hl [2] rfl) h

set_option maxRecDepth 100000 in
set_option maxHeartbeats 4000000 in
theorem c_X2_chooseFor (l : Launch) (G : UG) (σ : St) (a1 : Int) (a2 : Int) (r : Int) (σ' : St)  (h : f_X2_chooseFor σ a1 a2 = some (r, σ')) : Met l yX2_chooseFor (.code yX2_chooseFor cX2_chooseFor 8 (Option.none : Option Jvm.ClassFile.FieldType) :: TB) { frames := 4, cells := 0, slots := 0, locals := 96 } (uvPc G σ [.ref (G.2.2.1 35), .int (iV a1), .int (iV a2)]) (uvQv G σ') 0 0 (uvA G) := by
  unfold f_X2_chooseFor at h
  refine r_met (own := RX2) (lv := [(0, .ref (G.2.2.1 35)), (1, .int (iV a1)), (2, .int (iV a2))]) (by decide) rfl (Nat.le_of_ble_eq_true rfl) rfl ?_
  intro p e s m below meth c ls X Y V hl
  have go : ∀ (args : Array Value) (H : Heap) (locs : List Loc), uvCx p m c cX2_chooseFor 8 RX2 s args meth (Option.none : Option Jvm.ClassFile.FieldType) → uvWo G σ s H locs → W p l e { frames := 4, cells := 0, slots := 0, locals := 96 } s m args below meth c H locs 0 0 (MQ below (uvQv G σ') args s 0 0 (uvA G)) (F0 m 0 ls []) := by
    intro args H locs X V
    refine r_aln X dX2_chooseFor_0 rfl (lv_at hl 0 rfl) ?_
    refine r_gr X Y V ci_2 kd_35 5 rfl rfl (by decide) rfl rfl wd_237 dX2_chooseFor_1 ?_
    refine r_iln X dX2_chooseFor_4 rfl (lv_at hl 1 rfl) ?_
    obtain ⟨hiq1, h⟩ := ixA_ex h
    refine r_aal X Y V 1 (by decide) kd_37 rfl ln_37 hiq1 (rf_37 _) dX2_chooseFor_5 ?_
    refine r_asn (lv' := [(3, .ref (G.2.2.1 (38 + 2 * a1))), (0, .ref (G.2.2.1 35)), (1, .int (iV a1)), (2, .int (iV a2))]) X dX2_chooseFor_6 rfl hl (by decide) rfl (fun ls hl => ?_)
    refine r_aln X dX2_chooseFor_7 rfl (lv_at hl 0 rfl) ?_
    obtain ⟨v2, σ3, hv2, h⟩ := bd2_ex h
    refine r_kv V (r_runV (As := []) (rest := []) X Y V (c_X1_begin l G σ (38 + 2 * a1) _ _ (kd_ch hiq1) hv2) mv_X1_begin wd_667 ci_1 (kd_ch hiq1) ⟨rfl, rfl, Nat.le_of_ble_eq_true rfl, Nat.le_of_ble_eq_true rfl⟩ rfl rfl hl.1 (Nat.le_of_ble_eq_true rfl) ⟨Nat.le_refl 0, Nat.le_refl 0⟩ dX2_chooseFor_8) (fun H locs V => ?_)
    refine r_aln X dX2_chooseFor_11 rfl (lv_at hl 1 rfl) ?_
    refine r_iln X dX2_chooseFor_12 rfl (lv_at hl 2 rfl) ?_
    obtain ⟨v4, hv4, h⟩ := bd1_ex h
    refine r_ki V (r_runV (As := [.int (iV a1)]) (rest := []) X Y V (c_X2_leafOfTarget l G σ3 a1 _  hv4) mv_X2_leafOfTarget wd_671 ci_2 kd_35 ⟨rfl, rfl, Nat.le_of_ble_eq_true rfl, Nat.le_of_ble_eq_true rfl⟩ rfl rfl hl.1 (Nat.le_of_ble_eq_true rfl) ⟨Nat.le_refl 0, Nat.le_refl 0⟩ dX2_chooseFor_13) (fun H locs V => ?_)
    refine r_is (lv' := [(4, .int (iV v4)), (3, .ref (G.2.2.1 (38 + 2 * a1))), (0, .ref (G.2.2.1 35)), (1, .int (iV a1)), (2, .int (iV a2))]) X dX2_chooseFor_16 hl (by decide) rfl (fun ls hl => ?_)
    refine r_aln X dX2_chooseFor_18 rfl (lv_at hl 2 rfl) ?_
    refine r_gr X Y V ci_2 kd_35 1 rfl rfl (by decide) rfl rfl wd_233 dX2_chooseFor_19 ?_
    refine r_gr X Y V ci_4 kd_10 0 rfl rfl (by decide) rfl rfl wd_93 dX2_chooseFor_22 ?_
    refine r_iln X dX2_chooseFor_25 rfl (lv_at hl 3 rfl) ?_
    obtain ⟨v5, hv5, hiv5, h⟩ := rdA_ex h
    refine r_ial X Y V kd_11 ln_11 hiv5 hv5 dX2_chooseFor_26 ?_
    refine r_is (lv' := [(5, .int (iV v5)), (4, .int (iV v4)), (3, .ref (G.2.2.1 (38 + 2 * a1))), (0, .ref (G.2.2.1 35)), (1, .int (iV a1)), (2, .int (iV a2))]) X dX2_chooseFor_27 hl (by decide) rfl (fun ls hl => ?_)
    refine r_ic X dX2_chooseFor_29 ?_
    refine r_is (lv' := [(6, .int (iV 0)), (5, .int (iV v5)), (4, .int (iV v4)), (3, .ref (G.2.2.1 (38 + 2 * a1))), (0, .ref (G.2.2.1 35)), (1, .int (iV a1)), (2, .int (iV a2))]) X dX2_chooseFor_30 hl (by decide) rfl (fun ls hl => ?_)
    refine r_ic X dX2_chooseFor_32 ?_
    refine r_is (lv' := [(7, .int (iV 0)), (6, .int (iV 0)), (5, .int (iV v5)), (4, .int (iV v4)), (3, .ref (G.2.2.1 (38 + 2 * a1))), (0, .ref (G.2.2.1 35)), (1, .int (iV a1)), (2, .int (iV a2))]) X dX2_chooseFor_33 hl (by decide) rfl (fun ls hl => ?_)
    refine wl_X2_chooseFor_35 X Y a2 (38 + 2 * a1) v4 (kd_ch hiq1) r σ' _ (fun σ16  H locs ls V hl h => ?_) 1000 σ3 v5 0 0 _ _ _ V (lv_sub hl [5, 7, 4, 3, 2, 1, 0] rfl) h
    refine r_aln X dX2_chooseFor_119 rfl (lv_at hl 0 rfl) ?_
    obtain ⟨v17, σ18, hv17, h⟩ := bd2_ex h
    refine r_kv V (r_runV (As := []) (rest := []) X Y V (c_X1_miss l G σ16 (38 + 2 * a1) _ _ (kd_ch hiq1) hv17) mv_X1_miss wd_693 ci_1 (kd_ch hiq1) ⟨rfl, rfl, Nat.le_of_ble_eq_true rfl, Nat.le_of_ble_eq_true rfl⟩ rfl rfl hl.1 (Nat.le_of_ble_eq_true rfl) ⟨Nat.le_refl 0, Nat.le_refl 0⟩ dX2_chooseFor_120) (fun H locs V => ?_)
    exact r_rv X V (so2 h).2 dX2_chooseFor_123
  exact go _ _ _ X V

set_option maxRecDepth 100000 in
set_option maxHeartbeats 4000000 in
theorem wl_X2_chooseAll_6 {p : Program} {l : Launch} {e : Env} {s : State} {m : MethodId} {args : Array Value} {below : List Frame} {meth : Method} {c : Code} {G : UG} (X : uvCx p m c cX2_chooseAll 3 RX2 s args meth (Option.some Jvm.ClassFile.FieldType.boolean)) (Y : uvGd G s s.heap) (x1 : Int)  (r : Int) (σ' : St) (kx : St → Option (Int × St)) (hkx : ∀ (σ : St)  (H : Heap) (locs : List Loc) (ls : Array Slot), uvWo G σ s H locs → lv_has ls 3 [(0, .ref (G.2.2.1 35))] → kx σ  = some (r, σ') → W p l e { frames := 5, cells := 0, slots := 0, locals := 123 } s m args below meth c H locs 0 0 (MQ below (uvQz G r σ') args s 0 0 (uvA G)) (F0 m 43 ls [])) : ∀ (n : Nat) (σ : St) (x2 : Int) (H : Heap) (locs : List Loc) (ls : Array Slot), uvWo G σ s H locs → lv_has ls 3 [(0, .ref (G.2.2.1 35)), (1, .int (iV x1)), (2, .int (iV x2))] → lp_X2_chooseAll_6 x1 kx n σ x2 = some (r, σ') → W p l e { frames := 5, cells := 0, slots := 0, locals := 123 } s m args below meth c H locs 0 0 (MQ below (uvQz G r σ') args s 0 0 (uvA G)) (F0 m 6 ls []) := by
  intro n
  induction n with
  | zero => intro σ x2 H locs ls V hl h; cases h
  | succ n ih =>
    intro σ x2 H locs ls V hl h
    rw [lp_X2_chooseAll_6] at h
    refine r_iln X dX2_chooseAll_6 rfl (lv_at hl 2 rfl) ?_
    refine r_aln X dX2_chooseAll_7 rfl (lv_at hl 0 rfl) ?_
    refine r_gr X Y V ci_2 kd_35 1 rfl rfl (by decide) rfl rfl wd_233 dX2_chooseAll_8 ?_
    refine r_gi (kI := 3) X Y V ci_4 kd_10 3 rfl (by decide) rfl rfl wd_106 dX2_chooseAll_11 ?_
    refine r_cge (cx := wI x2) (cy := wI (σ 10 3)) (tgt := 43) X rfl rfl dX2_chooseAll_14 (by decide) (fun c3 => ?_) (fun c3 => ?_)
    · replace h := ite_t c3 h
      refine r_aln X dX2_chooseAll_17 rfl (lv_at hl 0 rfl) ?_
      refine r_iln X dX2_chooseAll_18 rfl (lv_at hl 2 rfl) ?_
      refine r_iln X dX2_chooseAll_19 rfl (lv_at hl 1 rfl) ?_
      obtain ⟨v4, σ5, hv4, h⟩ := bd2_ex h
      refine r_kv V (r_runV (As := [.int (iV x2), .int (iV x1)]) (rest := []) X Y V (c_X2_chooseFor l G σ x2 x1 _ _  hv4) mv_X2_chooseFor wd_663 ci_2 kd_35 ⟨rfl, rfl, Nat.le_of_ble_eq_true rfl, Nat.le_of_ble_eq_true rfl⟩ rfl rfl hl.1 (Nat.le_of_ble_eq_true rfl) ⟨Nat.le_refl 0, Nat.le_refl 0⟩ dX2_chooseAll_20) (fun H locs V => ?_)
      refine r_aln X dX2_chooseAll_23 rfl (lv_at hl 0 rfl) ?_
      refine r_gr X Y V ci_2 kd_35 5 rfl rfl (by decide) rfl rfl wd_237 dX2_chooseAll_24 ?_
      refine r_iln X dX2_chooseAll_27 rfl (lv_at hl 2 rfl) ?_
      obtain ⟨hiq6, h⟩ := ixA_ex h
      refine r_aal X Y V 1 (by decide) kd_37 rfl ln_37 hiq6 (rf_37 _) dX2_chooseAll_28 ?_
      refine r_kz V (r_runV (As := []) (rest := []) X Y V (c_X1_isMissing l G σ5 (38 + 2 * x2) _ (kd_ch hiq6) rfl) mv_X1_isMissing wd_746 ci_1 (kd_ch hiq6) ⟨rfl, rfl, Nat.le_of_ble_eq_true rfl, Nat.le_of_ble_eq_true rfl⟩ rfl rfl hl.1 (Nat.le_of_ble_eq_true rfl) ⟨Nat.le_refl 0, Nat.le_refl 0⟩ dX2_chooseAll_29) (fun H locs V z7 => ?_)
      refine r_eq (cx := (f_X1_isMissing σ5 (38 + 2 * x2))) (tgt := 37) X (wI_01 z7) dX2_chooseAll_32 (by decide) (fun c8 => ?_) (fun c8 => ?_)
      · replace h := ite_t c8 h
        refine r_inc (kk := 2) (lv' := [(2, .int (iV (x2 + 1))), (0, .ref (G.2.2.1 35)), (1, .int (iV x1))]) X dX2_chooseAll_37 hl rfl (by decide) rfl (fun ls hl => ?_)
        refine r_goto (tgt := 6) X dX2_chooseAll_40 (by decide) ?_
        exact ih σ5 (x2 + 1) _ _ _ V (lv_sub hl [1, 2, 0] rfl) h
      · replace h := ite_f c8 h
        refine r_ic X dX2_chooseAll_35 ?_
        exact r_rz X V (Or.inl rfl) (so2 h).1 (so2 h).2 dX2_chooseAll_36
    · replace h := ite_f c3 h
      exact hkx σ  _ _ _ V (lv_sub hl [0] rfl) h

set_option maxRecDepth 100000 in
set_option maxHeartbeats 4000000 in
theorem c_X2_chooseAll (l : Launch) (G : UG) (σ : St) (a1 : Int) (r : Int) (σ' : St)  (h : f_X2_chooseAll σ a1 = some (r, σ')) : Met l yX2_chooseAll (.code yX2_chooseAll cX2_chooseAll 3 (Option.some Jvm.ClassFile.FieldType.boolean) :: TB) { frames := 5, cells := 0, slots := 0, locals := 123 } (uvPc G σ [.ref (G.2.2.1 35), .int (iV a1)]) (uvQz G r σ') 0 0 (uvA G) := by
  unfold f_X2_chooseAll at h
  refine r_met (own := RX2) (lv := [(0, .ref (G.2.2.1 35)), (1, .int (iV a1))]) (by decide) rfl (Nat.le_of_ble_eq_true rfl) rfl ?_
  intro p e s m below meth c ls X Y V hl
  have go : ∀ (args : Array Value) (H : Heap) (locs : List Loc), uvCx p m c cX2_chooseAll 3 RX2 s args meth (Option.some Jvm.ClassFile.FieldType.boolean) → uvWo G σ s H locs → W p l e { frames := 5, cells := 0, slots := 0, locals := 123 } s m args below meth c H locs 0 0 (MQ below (uvQz G r σ') args s 0 0 (uvA G)) (F0 m 0 ls []) := by
    intro args H locs X V
    refine r_aln X dX2_chooseAll_0 rfl (lv_at hl 0 rfl) ?_
    obtain ⟨v1, σ2, hv1, h⟩ := bd2_ex h
    refine r_kv V (r_runV (As := []) (rest := []) X Y V (c_X2_findLeaves l G σ  _ _  hv1) mv_X2_findLeaves wd_658 ci_2 kd_35 ⟨rfl, rfl, Nat.le_of_ble_eq_true rfl, Nat.le_of_ble_eq_true rfl⟩ rfl rfl hl.1 (Nat.le_of_ble_eq_true rfl) ⟨Nat.le_refl 0, Nat.le_refl 0⟩ dX2_chooseAll_1) (fun H locs V => ?_)
    refine r_ic X dX2_chooseAll_4 ?_
    refine r_isn (lv' := [(2, .int (iV 0)), (0, .ref (G.2.2.1 35)), (1, .int (iV a1))]) X dX2_chooseAll_5 rfl hl (by decide) rfl (fun ls hl => ?_)
    refine wl_X2_chooseAll_6 X Y a1  r σ' _ (fun σ9  H locs ls V hl h => ?_) 1000 σ2 0 _ _ _ V (lv_sub hl [1, 2, 0] rfl) h
    refine r_aln X dX2_chooseAll_43 rfl (lv_at hl 0 rfl) ?_
    refine r_gr X Y V ci_2 kd_35 1 rfl rfl (by decide) rfl rfl wd_233 dX2_chooseAll_44 ?_
    refine r_gi (kI := 3) X Y V ci_4 kd_10 3 rfl (by decide) rfl rfl wd_106 dX2_chooseAll_47 ?_
    have J10 : W p l e { frames := 5, cells := 0, slots := 0, locals := 123 } s m args below meth c H locs 0 0 (MQ below (uvQz G r σ') args s 0 0 (uvA G)) (F0 m 58 ls [.int (iV (if 0 < wI (σ9 10 3) then 1 else 0))]) := by
      exact r_rz X V (b01_ite (Or.inr rfl) (Or.inl rfl)) (so2 h).1 (so2 h).2 dX2_chooseAll_58
    refine r_le (cx := wI (σ9 10 3)) (tgt := 57) X rfl dX2_chooseAll_50 (by decide) (fun c11 => ?_) (fun c11 => ?_)
    · skip
      refine r_ic X dX2_chooseAll_53 ?_
      refine r_goto (tgt := 58) X dX2_chooseAll_54 (by decide) ?_
      rw [if_pos c11] at J10
      exact J10
    · skip
      refine r_ic X dX2_chooseAll_57 ?_
      rw [if_neg c11] at J10
      exact J10
  exact go _ _ _ X V

set_option maxRecDepth 100000 in
set_option maxHeartbeats 4000000 in
theorem c_X2_choose (l : Launch) (G : UG) (σ : St) (a1 : Int) (a2 : Int) (r : Int) (σ' : St)  (h : f_X2_choose σ a1 a2 = some (r, σ')) : Met l yX2_choose (.code yX2_choose cX2_choose 3 (Option.some (Jvm.ClassFile.FieldType.object "UnitVoices$Choice")) :: TB) { frames := 5, cells := 0, slots := 0, locals := 123 } (uvPc G σ [.ref (G.2.2.1 35), .int (iV a1), .int (iV a2)]) (uvQr G 1 r σ') 0 0 (uvA G) := by
  unfold f_X2_choose at h
  refine r_met (own := RX2) (lv := [(0, .ref (G.2.2.1 35)), (1, .int (iV a1)), (2, .int (iV a2))]) (by decide) rfl (Nat.le_of_ble_eq_true rfl) rfl ?_
  intro p e s m below meth c ls X Y V hl
  have go : ∀ (args : Array Value) (H : Heap) (locs : List Loc), uvCx p m c cX2_choose 3 RX2 s args meth (Option.some (Jvm.ClassFile.FieldType.object "UnitVoices$Choice")) → uvWo G σ s H locs → W p l e { frames := 5, cells := 0, slots := 0, locals := 123 } s m args below meth c H locs 0 0 (MQ below (uvQr G 1 r σ') args s 0 0 (uvA G)) (F0 m 0 ls []) := by
    intro args H locs X V
    refine r_aln X dX2_choose_0 rfl (lv_at hl 0 rfl) ?_
    obtain ⟨v1, σ2, hv1, h⟩ := bd2_ex h
    refine r_kv V (r_runV (As := []) (rest := []) X Y V (c_X2_findLeaves l G σ  _ _  hv1) mv_X2_findLeaves wd_658 ci_2 kd_35 ⟨rfl, rfl, Nat.le_of_ble_eq_true rfl, Nat.le_of_ble_eq_true rfl⟩ rfl rfl hl.1 (Nat.le_of_ble_eq_true rfl) ⟨Nat.le_refl 0, Nat.le_refl 0⟩ dX2_choose_1) (fun H locs V => ?_)
    refine r_aln X dX2_choose_4 rfl (lv_at hl 0 rfl) ?_
    refine r_iln X dX2_choose_5 rfl (lv_at hl 1 rfl) ?_
    refine r_iln X dX2_choose_6 rfl (lv_at hl 2 rfl) ?_
    obtain ⟨v3, σ4, hv3, h⟩ := bd2_ex h
    refine r_kv V (r_runV (As := [.int (iV a1), .int (iV a2)]) (rest := []) X Y V (c_X2_chooseFor l G σ2 a1 a2 _ _  hv3) mv_X2_chooseFor wd_663 ci_2 kd_35 ⟨rfl, rfl, Nat.le_of_ble_eq_true rfl, Nat.le_of_ble_eq_true rfl⟩ rfl rfl hl.1 (Nat.le_of_ble_eq_true rfl) ⟨Nat.le_refl 0, Nat.le_refl 0⟩ dX2_choose_7) (fun H locs V => ?_)
    refine r_aln X dX2_choose_10 rfl (lv_at hl 0 rfl) ?_
    refine r_gr X Y V ci_2 kd_35 5 rfl rfl (by decide) rfl rfl wd_237 dX2_choose_11 ?_
    refine r_iln X dX2_choose_14 rfl (lv_at hl 1 rfl) ?_
    obtain ⟨hiq5, h⟩ := ixA_ex h
    refine r_aal X Y V 1 (by decide) kd_37 rfl ln_37 hiq5 (rf_37 _) dX2_choose_15 ?_
    exact r_rr X V (kd_ch hiq5) (so2 h).1 (so2 h).2 dX2_choose_16
  exact go _ _ _ X V

