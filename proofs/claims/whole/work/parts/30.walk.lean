set_option maxRecDepth 100000 in
set_option maxHeartbeats 4000000 in
theorem c_X10_dearest (l : Launch) (G : UG) (σ : St)  (r : Int) (σ' : St)  (h : f_X10_dearest σ = some (r, σ')) : Met l yX10_dearest (.code yX10_dearest cX10_dearest 1 (Option.some Jvm.ClassFile.FieldType.int) :: TB) { frames := 6, cells := 0, slots := 0, locals := 149 } (uvPc G σ [.ref (G.2.2.1 118)]) (uvQi G r σ') 0 0 (uvA G) := by
  unfold f_X10_dearest at h
  refine r_met (own := RX10) (lv := [(0, .ref (G.2.2.1 118))]) (by decide) rfl (Nat.le_of_ble_eq_true rfl) rfl ?_
  intro p e s m below meth c ls X Y V hl
  have go : ∀ (args : Array Value) (H : Heap) (locs : List Loc), uvCx p m c cX10_dearest 1 RX10 s args meth (Option.some Jvm.ClassFile.FieldType.int) → uvWo G σ s H locs → W p l e { frames := 6, cells := 0, slots := 0, locals := 149 } s m args below meth c H locs 0 0 (MQ below (uvQi G r σ') args s 0 0 (uvA G)) (F0 m 0 ls []) := by
    intro args H locs X V
    refine r_aln X dX10_dearest_0 rfl (lv_at hl 0 rfl) ?_
    obtain ⟨v1, σ2, hv1, h⟩ := bd2_ex h
    refine r_kz V (r_runV (As := []) (rest := []) X Y V (c_X10_chainsNow l G σ  _ _  hv1) mv_X10_chainsNow wd_1181 ci_10 kd_118 ⟨rfl, rfl, Nat.le_of_ble_eq_true rfl, Nat.le_of_ble_eq_true rfl⟩ rfl rfl hl.1 (Nat.le_of_ble_eq_true rfl) ⟨Nat.le_refl 0, Nat.le_refl 0⟩ dX10_dearest_1) (fun H locs V z3 => ?_)
    refine r_eq (cx := v1) (tgt := 14) X (wI_01 z3) dX10_dearest_4 (by decide) (fun c4 => ?_) (fun c4 => ?_)
    · replace h := ite_t c4 h
      refine r_aln X dX10_dearest_14 rfl (lv_at hl 0 rfl) ?_
      obtain ⟨v5, σ6, hv5, h⟩ := bd2_ex h
      refine r_ki V (r_runV (As := []) (rest := []) X Y V (c_X10_no l G σ2  _ _  hv5) mv_X10_no wd_1146 ci_10 kd_118 ⟨rfl, rfl, Nat.le_of_ble_eq_true rfl, Nat.le_of_ble_eq_true rfl⟩ rfl rfl hl.1 (Nat.le_of_ble_eq_true rfl) ⟨Nat.le_refl 0, Nat.le_refl 0⟩ dX10_dearest_15) (fun H locs V => ?_)
      exact r_ri X V (so2 h).1 (so2 h).2 dX10_dearest_18
    · replace h := ite_f c4 h
      refine r_aln X dX10_dearest_7 rfl (lv_at hl 0 rfl) ?_
      refine r_gi (kI := 36) X Y V ci_10 kd_118 36 rfl (by decide) rfl rfl wd_889 dX10_dearest_8 ?_
      refine r_goto (tgt := 18) X dX10_dearest_11 (by decide) ?_
      exact r_ri X V (so2 h).1 (so2 h).2 dX10_dearest_18
  exact go _ _ _ X V

set_option maxRecDepth 100000 in
set_option maxHeartbeats 4000000 in
theorem c_X10_without (l : Launch) (G : UG) (σ : St) (a1 : Int) (r : Int) (σ' : St)  (h : f_X10_without σ a1 = some (r, σ')) : Met l yX10_without (.code yX10_without cX10_without 3 (Option.some Jvm.ClassFile.FieldType.int) :: TB) { frames := 6, cells := 0, slots := 0, locals := 149 } (uvPc G σ [.ref (G.2.2.1 118), .int (iV a1)]) (uvQi G r σ') 0 0 (uvA G) := by
  unfold f_X10_without at h
  refine r_met (own := RX10) (lv := [(0, .ref (G.2.2.1 118)), (1, .int (iV a1))]) (by decide) rfl (Nat.le_of_ble_eq_true rfl) rfl ?_
  intro p e s m below meth c ls X Y V hl
  have go : ∀ (args : Array Value) (H : Heap) (locs : List Loc), uvCx p m c cX10_without 3 RX10 s args meth (Option.some Jvm.ClassFile.FieldType.int) → uvWo G σ s H locs → W p l e { frames := 6, cells := 0, slots := 0, locals := 149 } s m args below meth c H locs 0 0 (MQ below (uvQi G r σ') args s 0 0 (uvA G)) (F0 m 0 ls []) := by
    intro args H locs X V
    refine r_aln X dX10_without_0 rfl (lv_at hl 0 rfl) ?_
    refine r_iln X dX10_without_1 rfl (lv_at hl 1 rfl) ?_
    refine r_kz V (r_runV (As := [.int (iV a1)]) (rest := []) X Y V (c_X10_isUnit l G σ a1 _  rfl) mv_X10_isUnit wd_1020 ci_10 kd_118 ⟨rfl, rfl, Nat.le_of_ble_eq_true rfl, Nat.le_of_ble_eq_true rfl⟩ rfl rfl hl.1 (Nat.le_of_ble_eq_true rfl) ⟨Nat.le_refl 0, Nat.le_refl 0⟩ dX10_without_2) (fun H locs V z1 => ?_)
    refine r_ne (cx := (f_X10_isUnit σ a1)) (tgt := 15) X (wI_01 z1) dX10_without_5 (by decide) (fun c2 => ?_) (fun c2 => ?_)
    · replace h := ite_t c2 h
      refine r_aln X dX10_without_8 rfl (lv_at hl 0 rfl) ?_
      refine r_bp X dX10_without_9 (by decide) ?_
      obtain ⟨v3, σ4, hv3, h⟩ := bd2_ex h
      refine r_ki V (r_runV (As := [.int (iV (-2))]) (rest := []) X Y V (c_X10_bad l G σ (-2) _ _  hv3) mv_X10_bad wd_988 ci_10 kd_118 ⟨rfl, rfl, Nat.le_of_ble_eq_true rfl, Nat.le_of_ble_eq_true rfl⟩ rfl rfl hl.1 (Nat.le_of_ble_eq_true rfl) ⟨Nat.le_refl 0, Nat.le_refl 0⟩ dX10_without_11) (fun H locs V => ?_)
      exact r_ri X V (so2 h).1 (so2 h).2 dX10_without_14
    · replace h := ite_f c2 h
      refine r_aln X dX10_without_15 rfl (lv_at hl 0 rfl) ?_
      obtain ⟨v5, σ6, hv5, h⟩ := bd2_ex h
      refine r_kz V (r_runV (As := []) (rest := []) X Y V (c_X10_chainsNow l G σ  _ _  hv5) mv_X10_chainsNow wd_1181 ci_10 kd_118 ⟨rfl, rfl, Nat.le_of_ble_eq_true rfl, Nat.le_of_ble_eq_true rfl⟩ rfl rfl hl.1 (Nat.le_of_ble_eq_true rfl) ⟨Nat.le_refl 0, Nat.le_refl 0⟩ dX10_without_16) (fun H locs V z7 => ?_)
      refine r_ne (cx := v5) (tgt := 27) X (wI_01 z7) dX10_without_19 (by decide) (fun c8 => ?_) (fun c8 => ?_)
      · replace h := ite_t c8 h
        refine r_aln X dX10_without_22 rfl (lv_at hl 0 rfl) ?_
        obtain ⟨v9, σ10, hv9, h⟩ := bd2_ex h
        refine r_ki V (r_runV (As := []) (rest := []) X Y V (c_X10_no l G σ6  _ _  hv9) mv_X10_no wd_1146 ci_10 kd_118 ⟨rfl, rfl, Nat.le_of_ble_eq_true rfl, Nat.le_of_ble_eq_true rfl⟩ rfl rfl hl.1 (Nat.le_of_ble_eq_true rfl) ⟨Nat.le_refl 0, Nat.le_refl 0⟩ dX10_without_23) (fun H locs V => ?_)
        exact r_ri X V (so2 h).1 (so2 h).2 dX10_without_26
      · replace h := ite_f c8 h
        refine r_aln X dX10_without_27 rfl (lv_at hl 0 rfl) ?_
        refine r_iln X dX10_without_28 rfl (lv_at hl 1 rfl) ?_
        obtain ⟨σ11, hσ11, h⟩ := wrF_ex h
        refine r_pi X Y V ci_10 kd_118 27 rfl (by decide) rfl rfl rfl (tyX10_ok 27 (by decide)) wd_880 hσ11 dX10_without_29 (fun H locs V => ?_)
        refine r_aln X dX10_without_32 rfl (lv_at hl 0 rfl) ?_
        refine r_aln X dX10_without_33 rfl (lv_at hl 0 rfl) ?_
        refine r_gi (kI := 5) X Y V ci_10 kd_118 5 rfl (by decide) rfl rfl wd_858 dX10_without_34 ?_
        obtain ⟨v12, σ13, hv12, h⟩ := bd2_ex h
        refine r_kz V (r_runV (As := [.int (iV (σ11 118 5))]) (rest := []) X Y V (c_X10_chains l G σ11 (σ11 118 5) _ _  hv12) mv_X10_chains wd_1185 ci_10 kd_118 ⟨rfl, rfl, Nat.le_of_ble_eq_true rfl, Nat.le_of_ble_eq_true rfl⟩ rfl rfl hl.1 (Nat.le_of_ble_eq_true rfl) ⟨Nat.le_refl 0, Nat.le_refl 0⟩ dX10_without_37) (fun H locs V z14 => ?_)
        refine r_isn (lv' := [(2, .int (iV v12)), (0, .ref (G.2.2.1 118)), (1, .int (iV a1))]) X dX10_without_40 rfl hl (by decide) rfl (fun ls hl => ?_)
        refine r_aln X dX10_without_41 rfl (lv_at hl 1 rfl) ?_
        refine r_ic X dX10_without_42 ?_
        obtain ⟨σ15, hσ15, h⟩ := wrF_ex h
        refine r_pi X Y V ci_10 kd_118 27 rfl (by decide) rfl rfl rfl (tyX10_ok 27 (by decide)) wd_880 hσ15 dX10_without_43 (fun H locs V => ?_)
        refine r_iln X dX10_without_46 rfl (lv_at hl 0 rfl) ?_
        refine r_eq (cx := v12) (tgt := 57) X (wI_01 z14) dX10_without_47 (by decide) (fun c16 => ?_) (fun c16 => ?_)
        · replace h := ite_t c16 h
          refine r_aln X dX10_without_57 rfl (lv_at hl 1 rfl) ?_
          obtain ⟨v17, σ18, hv17, h⟩ := bd2_ex h
          refine r_ki V (r_runV (As := []) (rest := []) X Y V (c_X10_no l G σ15  _ _  hv17) mv_X10_no wd_1146 ci_10 kd_118 ⟨rfl, rfl, Nat.le_of_ble_eq_true rfl, Nat.le_of_ble_eq_true rfl⟩ rfl rfl hl.1 (Nat.le_of_ble_eq_true rfl) ⟨Nat.le_refl 0, Nat.le_refl 0⟩ dX10_without_58) (fun H locs V => ?_)
          exact r_ri X V (so2 h).1 (so2 h).2 dX10_without_61
        · replace h := ite_f c16 h
          refine r_aln X dX10_without_50 rfl (lv_at hl 1 rfl) ?_
          refine r_gi (kI := 34) X Y V ci_10 kd_118 34 rfl (by decide) rfl rfl wd_887 dX10_without_51 ?_
          refine r_goto (tgt := 61) X dX10_without_54 (by decide) ?_
          exact r_ri X V (so2 h).1 (so2 h).2 dX10_without_61
  exact go _ _ _ X V

set_option maxRecDepth 100000 in
set_option maxHeartbeats 4000000 in
theorem wj_X10_about_142 {p : Program} {l : Launch} {e : Env} {s : State} {m : MethodId} {args : Array Value} {below : List Frame} {meth : Method} {c : Code} {G : UG} (X : uvCx p m c cX10_about 8 RX10 s args meth (Option.some Jvm.ClassFile.FieldType.int)) (Y : uvGd G s s.heap) (kb : St → Int → Int → Int → Int → Int → Option (Int × St)) (r : Int) (σ' : St) (σ : St) (x1 : Int) (x3 : Int) (x4 : Int) (x5 : Int) (x6 : Int) (x7 : Int) (t0 : Int) (t1 : Int)  (hkb : ∀ (σ : St) (m2 : Int) (m3 : Int) (m4 : Int) (m5 : Int) (m6 : Int) (H : Heap) (locs : List Loc) (ls : Array Slot), uvWo G σ s H locs → lv_has ls 8 [(0, .ref (G.2.2.1 118)), (1, .int (iV x1)), (2, .int (iV m2)), (3, .int (iV m3)), (4, .int (iV m4)), (5, .int (iV m5)), (6, .int (iV m6))] → kb σ m2 m3 m4 m5 m6 = some (r, σ') → W p l e { frames := 6, cells := 0, slots := 0, locals := 149 } s m args below meth c H locs 0 0 (MQ below (uvQi G r σ') args s 0 0 (uvA G)) (F0 m 48 ls [])) (H : Heap) (locs : List Loc) (ls : Array Slot) (V : uvWo G σ s H locs) (hl : lv_has ls 8 [(0, .ref (G.2.2.1 118)), (1, .int (iV x1)), (3, .int (iV x3)), (4, .int (iV x4)), (5, .int (iV x5)), (6, .int (iV x6)), (7, .int (iV x7))]) (h : jn_X10_about_142 kb σ x1 x3 x4 x5 x6 x7 t0 t1 = some (r, σ')) : W p l e { frames := 6, cells := 0, slots := 0, locals := 149 } s m args below meth c H locs 0 0 (MQ below (uvQi G r σ') args s 0 0 (uvA G)) (F0 m 142 ls [.int (iV t0), .int (iV t1)]) := by
  unfold jn_X10_about_142 at h
  refine r_iadd X dX10_about_142 ?_
  obtain ⟨v23, hv23, h⟩ := bnd_ex h
  refine r_eqI hv23 ?_
  refine r_isn (lv' := [(2, .int (iV v23)), (0, .ref (G.2.2.1 118)), (1, .int (iV x1)), (3, .int (iV x3)), (4, .int (iV x4)), (5, .int (iV x5)), (6, .int (iV x6)), (7, .int (iV x7))]) X dX10_about_143 rfl hl (by decide) rfl (fun ls hl => ?_)
  refine r_il X dX10_about_144 (lv_at hl 4 rfl) ?_
  refine r_il X dX10_about_146 (lv_at hl 7 rfl) ?_
  refine r_iadd X dX10_about_148 ?_
  obtain ⟨v24, hv24, h⟩ := bnd_ex h
  refine r_eqI hv24 ?_
  refine r_is (lv' := [(4, .int (iV v24)), (2, .int (iV v23)), (0, .ref (G.2.2.1 118)), (1, .int (iV x1)), (3, .int (iV x3)), (5, .int (iV x5)), (6, .int (iV x6)), (7, .int (iV x7))]) X dX10_about_149 hl (by decide) rfl (fun ls hl => ?_)
  refine r_il X dX10_about_151 (lv_at hl 7 rfl) ?_
  refine r_il X dX10_about_153 (lv_at hl 5 rfl) ?_
  have J25 : W p l e { frames := 6, cells := 0, slots := 0, locals := 149 } s m args below meth c H locs 0 0 (MQ below (uvQi G r σ') args s 0 0 (uvA G)) (F0 m 165 ls [.int (iV (if wI x5 < wI x7 then x7 else x5))]) := by
    obtain ⟨v26, hv26, h⟩ := bnd_ex h
    refine r_eqI hv26 ?_
    refine r_is (lv' := [(5, .int (iV v26)), (4, .int (iV v24)), (2, .int (iV v23)), (0, .ref (G.2.2.1 118)), (1, .int (iV x1)), (3, .int (iV x3)), (6, .int (iV x6)), (7, .int (iV x7))]) X dX10_about_165 hl (by decide) rfl (fun ls hl => ?_)
    refine r_inc (kk := 6) (lv' := [(6, .int (iV (x6 + 1))), (5, .int (iV v26)), (4, .int (iV v24)), (2, .int (iV v23)), (0, .ref (G.2.2.1 118)), (1, .int (iV x1)), (3, .int (iV x3)), (7, .int (iV x7))]) X dX10_about_167 hl rfl (by decide) rfl (fun ls hl => ?_)
    refine r_goto (tgt := 48) X dX10_about_170 (by decide) ?_
    exact hkb σ v23 x3 v24 v26 (x6 + 1) _ _ _ V (lv_sub hl [4, 5, 3, 6, 2, 1, 0] rfl) h
  refine r_cle (cx := wI x7) (cy := wI x5) (tgt := 163) X rfl rfl dX10_about_155 (by decide) (fun c27 => ?_) (fun c27 => ?_)
  · skip
    refine r_il X dX10_about_158 (lv_at hl 7 rfl) ?_
    refine r_goto (tgt := 165) X dX10_about_160 (by decide) ?_
    rw [if_pos c27] at J25
    exact J25
  · skip
    refine r_il X dX10_about_163 (lv_at hl 5 rfl) ?_
    rw [if_neg c27] at J25
    exact J25

set_option maxRecDepth 100000 in
set_option maxHeartbeats 4000000 in
theorem wj_X10_about_106 {p : Program} {l : Launch} {e : Env} {s : State} {m : MethodId} {args : Array Value} {below : List Frame} {meth : Method} {c : Code} {G : UG} (X : uvCx p m c cX10_about 8 RX10 s args meth (Option.some Jvm.ClassFile.FieldType.int)) (Y : uvGd G s s.heap) (kb : St → Int → Int → Int → Int → Int → Option (Int × St)) (r : Int) (σ' : St) (σ : St) (x1 : Int) (x2 : Int) (x3 : Int) (x4 : Int) (x5 : Int) (x6 : Int) (t0 : Int)  (hkb : ∀ (σ : St) (m2 : Int) (m3 : Int) (m4 : Int) (m5 : Int) (m6 : Int) (H : Heap) (locs : List Loc) (ls : Array Slot), uvWo G σ s H locs → lv_has ls 8 [(0, .ref (G.2.2.1 118)), (1, .int (iV x1)), (2, .int (iV m2)), (3, .int (iV m3)), (4, .int (iV m4)), (5, .int (iV m5)), (6, .int (iV m6))] → kb σ m2 m3 m4 m5 m6 = some (r, σ') → W p l e { frames := 6, cells := 0, slots := 0, locals := 149 } s m args below meth c H locs 0 0 (MQ below (uvQi G r σ') args s 0 0 (uvA G)) (F0 m 48 ls [])) (H : Heap) (locs : List Loc) (ls : Array Slot) (V : uvWo G σ s H locs) (hl : lv_has ls 8 [(0, .ref (G.2.2.1 118)), (1, .int (iV x1)), (2, .int (iV x2)), (3, .int (iV x3)), (4, .int (iV x4)), (5, .int (iV x5)), (6, .int (iV x6))]) (h : jn_X10_about_106 kb σ x1 x2 x3 x4 x5 x6 t0 = some (r, σ')) : W p l e { frames := 6, cells := 0, slots := 0, locals := 149 } s m args below meth c H locs 0 0 (MQ below (uvQi G r σ') args s 0 0 (uvA G)) (F0 m 106 ls [.int (iV t0)]) := by
  unfold jn_X10_about_106 at h
  refine r_is (lv' := [(7, .int (iV t0)), (0, .ref (G.2.2.1 118)), (1, .int (iV x1)), (2, .int (iV x2)), (3, .int (iV x3)), (4, .int (iV x4)), (5, .int (iV x5)), (6, .int (iV x6))]) X dX10_about_106 hl (by decide) rfl (fun ls hl => ?_)
  refine r_iln X dX10_about_108 rfl (lv_at hl 3 rfl) ?_
  refine r_il X dX10_about_109 (lv_at hl 7 rfl) ?_
  refine r_le (cx := wI x6) (tgt := 141) X rfl dX10_about_111 (by decide) (fun c18 => ?_) (fun c18 => ?_)
  · replace h := ite_t c18 h
    refine r_aln X dX10_about_114 rfl (lv_at hl 1 rfl) ?_
    refine r_aln X dX10_about_115 rfl (lv_at hl 1 rfl) ?_
    refine r_gr X Y V ci_10 kd_118 38 rfl rfl (by decide) rfl rfl wd_891 dX10_about_116 ?_
    refine r_il X dX10_about_119 (lv_at hl 7 rfl) ?_
    refine r_ic X dX10_about_121 ?_
    refine r_isub X dX10_about_122 ?_
    obtain ⟨v19, hv19, hiv19, h⟩ := rdA_ex h
    refine r_ial X Y V kd_141 ln_141 hiv19 hv19 dX10_about_123 ?_
    obtain ⟨v20, hv20, h⟩ := bd1_ex h
    refine r_ki V (r_runV (As := [.int (iV v19)]) (rest := [.int (iV x2)]) X Y V (c_X10_nextOf l G σ v19 _  hv20) mv_X10_nextOf wd_1024 ci_10 kd_118 ⟨rfl, rfl, Nat.le_of_ble_eq_true rfl, Nat.le_of_ble_eq_true rfl⟩ rfl rfl hl.1 (Nat.le_of_ble_eq_true rfl) ⟨Nat.le_refl 0, Nat.le_refl 0⟩ dX10_about_124) (fun H locs V => ?_)
    refine r_aln X dX10_about_127 rfl (lv_at hl 1 rfl) ?_
    refine r_gr X Y V ci_10 kd_118 38 rfl rfl (by decide) rfl rfl wd_891 dX10_about_128 ?_
    refine r_il X dX10_about_131 (lv_at hl 7 rfl) ?_
    obtain ⟨v21, hv21, hiv21, h⟩ := rdA_ex h
    refine r_ial X Y V kd_141 ln_141 hiv21 hv21 dX10_about_133 ?_
    have J22 : W p l e { frames := 6, cells := 0, slots := 0, locals := 149 } s m args below meth c H locs 0 0 (MQ below (uvQi G r σ') args s 0 0 (uvA G)) (F0 m 142 ls [.int (iV (if wI v20 = wI v21 then 1 else 0)), .int (iV x2)]) := by
      exact wj_X10_about_142 X Y _ r σ' σ x1 x3 x4 x5 x6 t0 (if wI v20 = wI v21 then 1 else 0) x2  (fun σ m2 m3 m4 m5 m6 H locs ls V hl h => hkb σ m2 m3 m4 m5 m6 H locs ls V hl h) _ _ _ V (lv_sub hl [1, 2, 4, 5, 6, 7, 0] rfl) h
    refine r_cne (cx := wI v20) (cy := wI v21) (tgt := 141) X rfl rfl dX10_about_134 (by decide) (fun c28 => ?_) (fun c28 => ?_)
    · skip
      refine r_ic X dX10_about_137 ?_
      refine r_goto (tgt := 142) X dX10_about_138 (by decide) ?_
      rw [if_pos c28] at J22
      exact J22
    · skip
      refine r_ic X dX10_about_141 ?_
      rw [if_neg c28] at J22
      exact J22
  · replace h := ite_f c18 h
    refine r_ic X dX10_about_141 ?_
    exact wj_X10_about_142 X Y _ r σ' σ x1 x3 x4 x5 x6 t0 0 x2  (fun σ m2 m3 m4 m5 m6 H locs ls V hl h => hkb σ m2 m3 m4 m5 m6 H locs ls V hl h) _ _ _ V (lv_sub hl [1, 2, 4, 5, 6, 7, 0] rfl) h

set_option maxRecDepth 100000 in
set_option maxHeartbeats 4000000 in
theorem wl_X10_about_48 {p : Program} {l : Launch} {e : Env} {s : State} {m : MethodId} {args : Array Value} {below : List Frame} {meth : Method} {c : Code} {G : UG} (X : uvCx p m c cX10_about 8 RX10 s args meth (Option.some Jvm.ClassFile.FieldType.int)) (Y : uvGd G s s.heap) (x1 : Int)  (r : Int) (σ' : St) (kx : St → Int → Int → Int → Int → Option (Int × St)) (hkx : ∀ (σ : St) (x2 : Int) (x3 : Int) (x4 : Int) (x5 : Int) (H : Heap) (locs : List Loc) (ls : Array Slot), uvWo G σ s H locs → lv_has ls 8 [(1, .int (iV x1)), (2, .int (iV x2)), (3, .int (iV x3)), (4, .int (iV x4)), (5, .int (iV x5))] → kx σ x2 x3 x4 x5 = some (r, σ') → W p l e { frames := 6, cells := 0, slots := 0, locals := 149 } s m args below meth c H locs 0 0 (MQ below (uvQi G r σ') args s 0 0 (uvA G)) (F0 m 173 ls [])) : ∀ (n : Nat) (σ : St) (x2 : Int) (x3 : Int) (x4 : Int) (x5 : Int) (x6 : Int) (H : Heap) (locs : List Loc) (ls : Array Slot), uvWo G σ s H locs → lv_has ls 8 [(0, .ref (G.2.2.1 118)), (1, .int (iV x1)), (2, .int (iV x2)), (3, .int (iV x3)), (4, .int (iV x4)), (5, .int (iV x5)), (6, .int (iV x6))] → lp_X10_about_48 x1 kx n σ x2 x3 x4 x5 x6 = some (r, σ') → W p l e { frames := 6, cells := 0, slots := 0, locals := 149 } s m args below meth c H locs 0 0 (MQ below (uvQi G r σ') args s 0 0 (uvA G)) (F0 m 48 ls []) := by
  intro n
  induction n with
  | zero => intro σ x2 x3 x4 x5 x6 H locs ls V hl h; cases h
  | succ n ih =>
    intro σ x2 x3 x4 x5 x6 H locs ls V hl h
    rw [lp_X10_about_48] at h
    refine r_il X dX10_about_48 (lv_at hl 6 rfl) ?_
    refine r_aln X dX10_about_50 rfl (lv_at hl 0 rfl) ?_
    refine r_gi (kI := 3) X Y V ci_10 kd_118 3 rfl (by decide) rfl rfl wd_856 dX10_about_51 ?_
    refine r_cge (cx := wI x6) (cy := wI (σ 118 3)) (tgt := 173) X rfl rfl dX10_about_54 (by decide) (fun c13 => ?_) (fun c13 => ?_)
    · replace h := ite_t c13 h
      refine r_iln X dX10_about_57 rfl (lv_at hl 3 rfl) ?_
      refine r_aln X dX10_about_58 rfl (lv_at hl 0 rfl) ?_
      refine r_aln X dX10_about_59 rfl (lv_at hl 0 rfl) ?_
      refine r_gi (kI := 5) X Y V ci_10 kd_118 5 rfl (by decide) rfl rfl wd_858 dX10_about_60 ?_
      refine r_aln X dX10_about_63 rfl (lv_at hl 0 rfl) ?_
      refine r_gr X Y V ci_10 kd_118 38 rfl rfl (by decide) rfl rfl wd_891 dX10_about_64 ?_
      refine r_il X dX10_about_67 (lv_at hl 6 rfl) ?_
      obtain ⟨v14, hv14, hiv14, h⟩ := rdA_ex h
      refine r_ial X Y V kd_141 ln_141 hiv14 hv14 dX10_about_69 ?_
      refine r_il X dX10_about_70 (lv_at hl 6 rfl) ?_
      obtain ⟨v15, hv15, h⟩ := bd1_ex h
      refine r_ki V (r_runV (As := [.int (iV (σ 118 5)), .int (iV v14), .int (iV x6)]) (rest := [.int (iV x3)]) X Y V (c_X10_fitAs l G σ (σ 118 5) v14 x6 _  hv15) mv_X10_fitAs wd_1162 ci_10 kd_118 ⟨rfl, rfl, Nat.le_of_ble_eq_true rfl, Nat.le_of_ble_eq_true rfl⟩ rfl rfl hl.1 (Nat.le_of_ble_eq_true rfl) ⟨Nat.le_refl 0, Nat.le_refl 0⟩ dX10_about_72) (fun H locs V => ?_)
      refine r_iadd X dX10_about_75 ?_
      obtain ⟨v16, hv16, h⟩ := bnd_ex h
      refine r_eqI hv16 ?_
      refine r_isn (lv' := [(3, .int (iV v16)), (0, .ref (G.2.2.1 118)), (1, .int (iV x1)), (2, .int (iV x2)), (4, .int (iV x4)), (5, .int (iV x5)), (6, .int (iV x6))]) X dX10_about_76 rfl hl (by decide) rfl (fun ls hl => ?_)
      refine r_il X dX10_about_77 (lv_at hl 6 rfl) ?_
      refine r_ne (cx := wI x6) (tgt := 86) X rfl dX10_about_79 (by decide) (fun c17 => ?_) (fun c17 => ?_)
      · replace h := ite_t c17 h
        refine r_ic X dX10_about_82 ?_
        refine r_goto (tgt := 106) X dX10_about_83 (by decide) ?_
        exact wj_X10_about_106 X Y _ r σ' σ x1 x2 v16 x4 x5 x6 0  (fun σ m2 m3 m4 m5 m6 H locs ls V hl h => ih σ m2 m3 m4 m5 m6 H locs ls V hl h) _ _ _ V (lv_sub hl [1, 2, 3, 0, 4, 5, 6] rfl) h
      · replace h := ite_f c17 h
        refine r_aln X dX10_about_86 rfl (lv_at hl 1 rfl) ?_
        refine r_aln X dX10_about_87 rfl (lv_at hl 1 rfl) ?_
        refine r_gr X Y V ci_10 kd_118 38 rfl rfl (by decide) rfl rfl wd_891 dX10_about_88 ?_
        refine r_il X dX10_about_91 (lv_at hl 6 rfl) ?_
        refine r_ic X dX10_about_93 ?_
        refine r_isub X dX10_about_94 ?_
        obtain ⟨v29, hv29, hiv29, h⟩ := rdA_ex h
        refine r_ial X Y V kd_141 ln_141 hiv29 hv29 dX10_about_95 ?_
        refine r_aln X dX10_about_96 rfl (lv_at hl 1 rfl) ?_
        refine r_gr X Y V ci_10 kd_118 38 rfl rfl (by decide) rfl rfl wd_891 dX10_about_97 ?_
        refine r_il X dX10_about_100 (lv_at hl 6 rfl) ?_
        obtain ⟨v30, hv30, hiv30, h⟩ := rdA_ex h
        refine r_ial X Y V kd_141 ln_141 hiv30 hv30 dX10_about_102 ?_
        obtain ⟨v31, hv31, h⟩ := bd1_ex h
        refine r_ki V (r_runV (As := [.int (iV v29), .int (iV v30)]) (rest := []) X Y V (c_X10_jointOf l G σ v29 v30 _  hv31) mv_X10_jointOf wd_1173 ci_10 kd_118 ⟨rfl, rfl, Nat.le_of_ble_eq_true rfl, Nat.le_of_ble_eq_true rfl⟩ rfl rfl hl.1 (Nat.le_of_ble_eq_true rfl) ⟨Nat.le_refl 0, Nat.le_refl 0⟩ dX10_about_103) (fun H locs V => ?_)
        exact wj_X10_about_106 X Y _ r σ' σ x1 x2 v16 x4 x5 x6 v31  (fun σ m2 m3 m4 m5 m6 H locs ls V hl h => ih σ m2 m3 m4 m5 m6 H locs ls V hl h) _ _ _ V (lv_sub hl [1, 2, 3, 0, 4, 5, 6] rfl) h
    · replace h := ite_f c13 h
      exact hkx σ x2 x3 x4 x5 _ _ _ V (lv_sub hl [1, 2, 3, 4, 5] rfl) h

set_option maxRecDepth 100000 in
set_option maxHeartbeats 4000000 in
theorem c_X10_about (l : Launch) (G : UG) (σ : St) (a1 : Int) (r : Int) (σ' : St)  (h : f_X10_about σ a1 = some (r, σ')) : Met l yX10_about (.code yX10_about cX10_about 8 (Option.some Jvm.ClassFile.FieldType.int) :: TB) { frames := 6, cells := 0, slots := 0, locals := 149 } (uvPc G σ [.ref (G.2.2.1 118), .int (iV a1)]) (uvQi G r σ') 0 0 (uvA G) := by
  unfold f_X10_about at h
  refine r_met (own := RX10) (lv := [(0, .ref (G.2.2.1 118)), (1, .int (iV a1))]) (by decide) rfl (Nat.le_of_ble_eq_true rfl) rfl ?_
  intro p e s m below meth c ls X Y V hl
  have go : ∀ (args : Array Value) (H : Heap) (locs : List Loc), uvCx p m c cX10_about 8 RX10 s args meth (Option.some Jvm.ClassFile.FieldType.int) → uvWo G σ s H locs → W p l e { frames := 6, cells := 0, slots := 0, locals := 149 } s m args below meth c H locs 0 0 (MQ below (uvQi G r σ') args s 0 0 (uvA G)) (F0 m 0 ls []) := by
    intro args H locs X V
    refine r_iln X dX10_about_0 rfl (lv_at hl 1 rfl) ?_
    refine r_i2l X dX10_about_1 ?_
    refine r_lc (v := 0) X dX10_about_2 rfl ?_
    refine r_ldc2 X (n := 3) wd_987 (by decide) dX10_about_3 ?_
    refine r_kz V (r_runS (As := [.long (lV (i2lI a1)), .long (lV 0), .long (lV 3)]) (rest := []) X Y V (c_X10_in l G σ (i2lI a1) 0 3 _  rfl) ms_X10_in wd_982 ⟨rfl, rfl, Nat.le_of_ble_eq_true rfl, Nat.le_of_ble_eq_true rfl⟩ rfl rfl hl.1 (Nat.le_of_ble_eq_true rfl) ⟨Nat.le_refl 0, Nat.le_refl 0⟩ dX10_about_6) (fun H locs V z1 => ?_)
    refine r_ne (cx := (f_X10_in (i2lI a1) 0 3)) (tgt := 19) X (wI_01 z1) dX10_about_9 (by decide) (fun c2 => ?_) (fun c2 => ?_)
    · replace h := ite_t c2 h
      refine r_aln X dX10_about_12 rfl (lv_at hl 0 rfl) ?_
      refine r_bp X dX10_about_13 (by decide) ?_
      obtain ⟨v3, σ4, hv3, h⟩ := bd2_ex h
      refine r_ki V (r_runV (As := [.int (iV (-2))]) (rest := []) X Y V (c_X10_bad l G σ (-2) _ _  hv3) mv_X10_bad wd_988 ci_10 kd_118 ⟨rfl, rfl, Nat.le_of_ble_eq_true rfl, Nat.le_of_ble_eq_true rfl⟩ rfl rfl hl.1 (Nat.le_of_ble_eq_true rfl) ⟨Nat.le_refl 0, Nat.le_refl 0⟩ dX10_about_15) (fun H locs V => ?_)
      exact r_ri X V (so2 h).1 (so2 h).2 dX10_about_18
    · replace h := ite_f c2 h
      refine r_aln X dX10_about_19 rfl (lv_at hl 0 rfl) ?_
      obtain ⟨v5, σ6, hv5, h⟩ := bd2_ex h
      refine r_kz V (r_runV (As := []) (rest := []) X Y V (c_X10_chainsNow l G σ  _ _  hv5) mv_X10_chainsNow wd_1181 ci_10 kd_118 ⟨rfl, rfl, Nat.le_of_ble_eq_true rfl, Nat.le_of_ble_eq_true rfl⟩ rfl rfl hl.1 (Nat.le_of_ble_eq_true rfl) ⟨Nat.le_refl 0, Nat.le_refl 0⟩ dX10_about_20) (fun H locs V z7 => ?_)
      refine r_ne (cx := v5) (tgt := 31) X (wI_01 z7) dX10_about_23 (by decide) (fun c8 => ?_) (fun c8 => ?_)
      · replace h := ite_t c8 h
        refine r_aln X dX10_about_26 rfl (lv_at hl 0 rfl) ?_
        obtain ⟨v9, σ10, hv9, h⟩ := bd2_ex h
        refine r_ki V (r_runV (As := []) (rest := []) X Y V (c_X10_no l G σ6  _ _  hv9) mv_X10_no wd_1146 ci_10 kd_118 ⟨rfl, rfl, Nat.le_of_ble_eq_true rfl, Nat.le_of_ble_eq_true rfl⟩ rfl rfl hl.1 (Nat.le_of_ble_eq_true rfl) ⟨Nat.le_refl 0, Nat.le_refl 0⟩ dX10_about_27) (fun H locs V => ?_)
        exact r_ri X V (so2 h).1 (so2 h).2 dX10_about_30
      · replace h := ite_f c8 h
        refine r_aln X dX10_about_31 rfl (lv_at hl 0 rfl) ?_
        obtain ⟨v11, σ12, hv11, h⟩ := bd2_ex h
        refine r_kv V (r_runV (As := []) (rest := []) X Y V (c_X10_layChain l G σ6  _ _  hv11) mv_X10_layChain wd_1207 ci_10 kd_118 ⟨rfl, rfl, Nat.le_of_ble_eq_true rfl, Nat.le_of_ble_eq_true rfl⟩ rfl rfl hl.1 (Nat.le_of_ble_eq_true rfl) ⟨Nat.le_refl 0, Nat.le_refl 0⟩ dX10_about_32) (fun H locs V => ?_)
        refine r_ic X dX10_about_35 ?_
        refine r_isn (lv' := [(2, .int (iV 0)), (0, .ref (G.2.2.1 118)), (1, .int (iV a1))]) X dX10_about_36 rfl hl (by decide) rfl (fun ls hl => ?_)
        refine r_ic X dX10_about_37 ?_
        refine r_isn (lv' := [(3, .int (iV 0)), (2, .int (iV 0)), (0, .ref (G.2.2.1 118)), (1, .int (iV a1))]) X dX10_about_38 rfl hl (by decide) rfl (fun ls hl => ?_)
        refine r_ic X dX10_about_39 ?_
        refine r_is (lv' := [(4, .int (iV 0)), (3, .int (iV 0)), (2, .int (iV 0)), (0, .ref (G.2.2.1 118)), (1, .int (iV a1))]) X dX10_about_40 hl (by decide) rfl (fun ls hl => ?_)
        refine r_ic X dX10_about_42 ?_
        refine r_is (lv' := [(5, .int (iV 0)), (4, .int (iV 0)), (3, .int (iV 0)), (2, .int (iV 0)), (0, .ref (G.2.2.1 118)), (1, .int (iV a1))]) X dX10_about_43 hl (by decide) rfl (fun ls hl => ?_)
        refine r_ic X dX10_about_45 ?_
        refine r_is (lv' := [(6, .int (iV 0)), (5, .int (iV 0)), (4, .int (iV 0)), (3, .int (iV 0)), (2, .int (iV 0)), (0, .ref (G.2.2.1 118)), (1, .int (iV a1))]) X dX10_about_46 hl (by decide) rfl (fun ls hl => ?_)
        refine wl_X10_about_48 X Y a1  r σ' _ (fun σ32 y33 y34 y35 y36 H locs ls V hl h => ?_) 1000 σ12 0 0 0 0 0 _ _ _ V (lv_sub hl [5, 6, 4, 3, 2, 1, 0] rfl) h
        refine r_iln X dX10_about_173 rfl (lv_at hl 0 rfl) ?_
        have J37 : W p l e { frames := 6, cells := 0, slots := 0, locals := 149 } s m args below meth c H locs 0 0 (MQ below (uvQi G r σ') args s 0 0 (uvA G)) (F0 m 202 ls [.int (iV (if wI a1 = 0 then y33 else (if wI a1 = 1 then y34 else (if wI a1 = 2 then y35 else y36))))]) := by
          exact r_ri X V (so2 h).1 (so2 h).2 dX10_about_202
        refine r_ne (cx := wI a1) (tgt := 181) X rfl dX10_about_174 (by decide) (fun c38 => ?_) (fun c38 => ?_)
        · skip
          refine r_iln X dX10_about_177 rfl (lv_at hl 1 rfl) ?_
          refine r_goto (tgt := 202) X dX10_about_178 (by decide) ?_
          rw [if_pos c38] at J37
          exact J37
        · skip
          refine r_iln X dX10_about_181 rfl (lv_at hl 0 rfl) ?_
          refine r_ic X dX10_about_182 ?_
          refine r_cne (cx := wI a1) (cy := 1) (tgt := 190) X rfl rfl dX10_about_183 (by decide) (fun c39 => ?_) (fun c39 => ?_)
          · skip
            refine r_iln X dX10_about_186 rfl (lv_at hl 2 rfl) ?_
            refine r_goto (tgt := 202) X dX10_about_187 (by decide) ?_
            rw [if_neg c38] at J37
            rw [if_pos c39] at J37
            exact J37
          · skip
            refine r_iln X dX10_about_190 rfl (lv_at hl 0 rfl) ?_
            refine r_ic X dX10_about_191 ?_
            refine r_cne (cx := wI a1) (cy := 2) (tgt := 200) X rfl rfl dX10_about_192 (by decide) (fun c40 => ?_) (fun c40 => ?_)
            · skip
              refine r_il X dX10_about_195 (lv_at hl 3 rfl) ?_
              refine r_goto (tgt := 202) X dX10_about_197 (by decide) ?_
              rw [if_neg c38] at J37
              rw [if_neg c39] at J37
              rw [if_pos c40] at J37
              exact J37
            · skip
              refine r_il X dX10_about_200 (lv_at hl 4 rfl) ?_
              rw [if_neg c38] at J37
              rw [if_neg c39] at J37
              rw [if_neg c40] at J37
              exact J37
  exact go _ _ _ X V

set_option maxRecDepth 100000 in
set_option maxHeartbeats 4000000 in
theorem wl_X10_cheapest_36 {p : Program} {l : Launch} {e : Env} {s : State} {m : MethodId} {args : Array Value} {below : List Frame} {meth : Method} {c : Code} {G : UG} (X : uvCx p m c cX10_cheapest 7 RX10 s args meth (Option.some Jvm.ClassFile.FieldType.int)) (Y : uvGd G s s.heap) (x1 : Int)  (r : Int) (σ' : St) (kx : St → Int → Int → Option (Int × St)) (hkx : ∀ (σ : St) (x2 : Int) (x3 : Int) (H : Heap) (locs : List Loc) (ls : Array Slot), uvWo G σ s H locs → lv_has ls 7 [(1, .int (iV x1)), (2, .int (iV x2)), (3, .int (iV x3))] → kx σ x2 x3 = some (r, σ') → W p l e { frames := 6, cells := 0, slots := 0, locals := 149 } s m args below meth c H locs 0 0 (MQ below (uvQi G r σ') args s 0 0 (uvA G)) (F0 m 102 ls [])) : ∀ (n : Nat) (σ : St) (x2 : Int) (x3 : Int) (x4 : Int) (H : Heap) (locs : List Loc) (ls : Array Slot), uvWo G σ s H locs → lv_has ls 7 [(0, .ref (G.2.2.1 118)), (1, .int (iV x1)), (2, .int (iV x2)), (3, .int (iV x3)), (4, .int (iV x4))] → lp_X10_cheapest_36 x1 kx n σ x2 x3 x4 = some (r, σ') → W p l e { frames := 6, cells := 0, slots := 0, locals := 149 } s m args below meth c H locs 0 0 (MQ below (uvQi G r σ') args s 0 0 (uvA G)) (F0 m 36 ls []) := by
  intro n
  induction n with
  | zero => intro σ x2 x3 x4 H locs ls V hl h; cases h
  | succ n ih =>
    intro σ x2 x3 x4 H locs ls V hl h
    rw [lp_X10_cheapest_36] at h
    refine r_il X dX10_cheapest_36 (lv_at hl 4 rfl) ?_
    refine r_ic X dX10_cheapest_38 ?_
    refine r_cge (cx := wI x4) (cy := 5) (tgt := 102) X rfl rfl dX10_cheapest_39 (by decide) (fun c11 => ?_) (fun c11 => ?_)
    · replace h := ite_t c11 h
      refine r_aln X dX10_cheapest_42 rfl (lv_at hl 0 rfl) ?_
      refine r_il X dX10_cheapest_43 (lv_at hl 4 rfl) ?_
      obtain ⟨v12, σ13, hv12, h⟩ := bd2_ex h
      refine r_kz V (r_runV (As := [.int (iV x4)]) (rest := []) X Y V (c_X10_chains l G σ x4 _ _  hv12) mv_X10_chains wd_1185 ci_10 kd_118 ⟨rfl, rfl, Nat.le_of_ble_eq_true rfl, Nat.le_of_ble_eq_true rfl⟩ rfl rfl hl.1 (Nat.le_of_ble_eq_true rfl) ⟨Nat.le_refl 0, Nat.le_refl 0⟩ dX10_cheapest_45) (fun H locs V z14 => ?_)
      refine r_is (lv' := [(5, .int (iV v12)), (0, .ref (G.2.2.1 118)), (1, .int (iV x1)), (2, .int (iV x2)), (3, .int (iV x3)), (4, .int (iV x4))]) X dX10_cheapest_48 hl (by decide) rfl (fun ls hl => ?_)
      refine r_iln X dX10_cheapest_50 rfl (lv_at hl 4 rfl) ?_
      refine r_ic X dX10_cheapest_51 ?_
      have J15 : W p l e { frames := 6, cells := 0, slots := 0, locals := 149 } s m args below meth c H locs 0 0 (MQ below (uvQi G r σ') args s 0 0 (uvA G)) (F0 m 68 ls [.int (iV (if wI x3 = (-1) then 1 else (if wI (σ13 118 34) < wI x3 then 1 else 0)))]) := by
        obtain ⟨v16, hv16, h⟩ := bnd_ex h
        refine r_eqI hv16 ?_
        refine r_is (lv' := [(6, .int (iV v16)), (5, .int (iV v12)), (0, .ref (G.2.2.1 118)), (1, .int (iV x1)), (2, .int (iV x2)), (3, .int (iV x3)), (4, .int (iV x4))]) X dX10_cheapest_68 hl (by decide) rfl (fun ls hl => ?_)
        refine r_il X dX10_cheapest_70 (lv_at hl 0 rfl) ?_
        have J17 : W p l e { frames := 6, cells := 0, slots := 0, locals := 149 } s m args below meth c H locs 0 0 (MQ below (uvQi G r σ') args s 0 0 (uvA G)) (F0 m 81 ls [.int (iV (if v16 = 0 then x2 else x4))]) := by
          obtain ⟨v18, hv18, h⟩ := bnd_ex h
          refine r_eqI hv18 ?_
          refine r_isn (lv' := [(2, .int (iV v18)), (6, .int (iV v16)), (5, .int (iV v12)), (0, .ref (G.2.2.1 118)), (1, .int (iV x1)), (3, .int (iV x3)), (4, .int (iV x4))]) X dX10_cheapest_81 rfl hl (by decide) rfl (fun ls hl => ?_)
          refine r_il X dX10_cheapest_82 (lv_at hl 1 rfl) ?_
          have J19 : W p l e { frames := 6, cells := 0, slots := 0, locals := 149 } s m args below meth c H locs 0 0 (MQ below (uvQi G r σ') args s 0 0 (uvA G)) (F0 m 95 ls [.int (iV (if v16 = 0 then x3 else σ13 118 34))]) := by
            obtain ⟨v20, hv20, h⟩ := bnd_ex h
            refine r_eqI hv20 ?_
            refine r_isn (lv' := [(3, .int (iV v20)), (2, .int (iV v18)), (6, .int (iV v16)), (5, .int (iV v12)), (0, .ref (G.2.2.1 118)), (1, .int (iV x1)), (4, .int (iV x4))]) X dX10_cheapest_95 rfl hl (by decide) rfl (fun ls hl => ?_)
            refine r_inc (kk := 6) (lv' := [(4, .int (iV (x4 + 1))), (3, .int (iV v20)), (2, .int (iV v18)), (6, .int (iV v16)), (5, .int (iV v12)), (0, .ref (G.2.2.1 118)), (1, .int (iV x1))]) X dX10_cheapest_96 hl rfl (by decide) rfl (fun ls hl => ?_)
            refine r_goto (tgt := 36) X dX10_cheapest_99 (by decide) ?_
            exact ih σ13 v18 v20 (x4 + 1) _ _ _ V (lv_sub hl [5, 6, 2, 1, 0] rfl) h
          refine r_eq (cx := v16) (tgt := 94) X (by rw [hv16]; exact (wI_ite rfl (wI_ite rfl rfl))) dX10_cheapest_84 (by decide) (fun c21 => ?_) (fun c21 => ?_)
          · skip
            refine r_iln X dX10_cheapest_94 rfl (lv_at hl 5 rfl) ?_
            rw [if_pos c21] at J19
            exact J19
          · skip
            refine r_aln X dX10_cheapest_87 rfl (lv_at hl 3 rfl) ?_
            refine r_gi (kI := 34) X Y V ci_10 kd_118 34 rfl (by decide) rfl rfl wd_887 dX10_cheapest_88 ?_
            refine r_goto (tgt := 95) X dX10_cheapest_91 (by decide) ?_
            rw [if_neg c21] at J19
            exact J19
        refine r_eq (cx := v16) (tgt := 80) X (by rw [hv16]; exact (wI_ite rfl (wI_ite rfl rfl))) dX10_cheapest_72 (by decide) (fun c22 => ?_) (fun c22 => ?_)
        · skip
          refine r_iln X dX10_cheapest_80 rfl (lv_at hl 4 rfl) ?_
          rw [if_pos c22] at J17
          exact J17
        · skip
          refine r_il X dX10_cheapest_75 (lv_at hl 6 rfl) ?_
          refine r_goto (tgt := 81) X dX10_cheapest_77 (by decide) ?_
          rw [if_neg c22] at J17
          exact J17
      refine r_ceq (cx := wI x3) (cy := (-1)) (tgt := 63) X rfl rfl dX10_cheapest_52 (by decide) (fun c23 => ?_) (fun c23 => ?_)
      · skip
        refine r_ic X dX10_cheapest_63 ?_
        refine r_goto (tgt := 68) X dX10_cheapest_64 (by decide) ?_
        rw [if_pos c23] at J15
        exact J15
      · skip
        refine r_aln X dX10_cheapest_55 rfl (lv_at hl 1 rfl) ?_
        refine r_gi (kI := 34) X Y V ci_10 kd_118 34 rfl (by decide) rfl rfl wd_887 dX10_cheapest_56 ?_
        refine r_iln X dX10_cheapest_59 rfl (lv_at hl 4 rfl) ?_
        refine r_cge (cx := wI (σ13 118 34)) (cy := wI x3) (tgt := 67) X rfl rfl dX10_cheapest_60 (by decide) (fun c24 => ?_) (fun c24 => ?_)
        · skip
          refine r_ic X dX10_cheapest_63 ?_
          refine r_goto (tgt := 68) X dX10_cheapest_64 (by decide) ?_
          rw [if_neg c23] at J15
          rw [if_pos c24] at J15
          exact J15
        · skip
          refine r_ic X dX10_cheapest_67 ?_
          rw [if_neg c23] at J15
          rw [if_neg c24] at J15
          exact J15
    · replace h := ite_f c11 h
      exact hkx σ x2 x3 _ _ _ V (lv_sub hl [1, 2, 3] rfl) h

set_option maxRecDepth 100000 in
set_option maxHeartbeats 4000000 in
theorem c_X10_cheapest (l : Launch) (G : UG) (σ : St) (a1 : Int) (r : Int) (σ' : St)  (h : f_X10_cheapest σ a1 = some (r, σ')) : Met l yX10_cheapest (.code yX10_cheapest cX10_cheapest 7 (Option.some Jvm.ClassFile.FieldType.int) :: TB) { frames := 6, cells := 0, slots := 0, locals := 149 } (uvPc G σ [.ref (G.2.2.1 118), .int (iV a1)]) (uvQi G r σ') 0 0 (uvA G) := by
  unfold f_X10_cheapest at h
  refine r_met (own := RX10) (lv := [(0, .ref (G.2.2.1 118)), (1, .int (iV a1))]) (by decide) rfl (Nat.le_of_ble_eq_true rfl) rfl ?_
  intro p e s m below meth c ls X Y V hl
  have go : ∀ (args : Array Value) (H : Heap) (locs : List Loc), uvCx p m c cX10_cheapest 7 RX10 s args meth (Option.some Jvm.ClassFile.FieldType.int) → uvWo G σ s H locs → W p l e { frames := 6, cells := 0, slots := 0, locals := 149 } s m args below meth c H locs 0 0 (MQ below (uvQi G r σ') args s 0 0 (uvA G)) (F0 m 0 ls []) := by
    intro args H locs X V
    refine r_iln X dX10_cheapest_0 rfl (lv_at hl 1 rfl) ?_
    refine r_i2l X dX10_cheapest_1 ?_
    refine r_lc (v := 0) X dX10_cheapest_2 rfl ?_
    refine r_lc (v := 1) X dX10_cheapest_3 rfl ?_
    refine r_kz V (r_runS (As := [.long (lV (i2lI a1)), .long (lV 0), .long (lV 1)]) (rest := []) X Y V (c_X10_in l G σ (i2lI a1) 0 1 _  rfl) ms_X10_in wd_982 ⟨rfl, rfl, Nat.le_of_ble_eq_true rfl, Nat.le_of_ble_eq_true rfl⟩ rfl rfl hl.1 (Nat.le_of_ble_eq_true rfl) ⟨Nat.le_refl 0, Nat.le_refl 0⟩ dX10_cheapest_4) (fun H locs V z1 => ?_)
    refine r_ne (cx := (f_X10_in (i2lI a1) 0 1)) (tgt := 17) X (wI_01 z1) dX10_cheapest_7 (by decide) (fun c2 => ?_) (fun c2 => ?_)
    · replace h := ite_t c2 h
      refine r_aln X dX10_cheapest_10 rfl (lv_at hl 0 rfl) ?_
      refine r_bp X dX10_cheapest_11 (by decide) ?_
      obtain ⟨v3, σ4, hv3, h⟩ := bd2_ex h
      refine r_ki V (r_runV (As := [.int (iV (-2))]) (rest := []) X Y V (c_X10_bad l G σ (-2) _ _  hv3) mv_X10_bad wd_988 ci_10 kd_118 ⟨rfl, rfl, Nat.le_of_ble_eq_true rfl, Nat.le_of_ble_eq_true rfl⟩ rfl rfl hl.1 (Nat.le_of_ble_eq_true rfl) ⟨Nat.le_refl 0, Nat.le_refl 0⟩ dX10_cheapest_13) (fun H locs V => ?_)
      exact r_ri X V (so2 h).1 (so2 h).2 dX10_cheapest_16
    · replace h := ite_f c2 h
      refine r_aln X dX10_cheapest_17 rfl (lv_at hl 0 rfl) ?_
      obtain ⟨v5, σ6, hv5, h⟩ := bd2_ex h
      refine r_kz V (r_runV (As := []) (rest := []) X Y V (c_X10_chainsNow l G σ  _ _  hv5) mv_X10_chainsNow wd_1181 ci_10 kd_118 ⟨rfl, rfl, Nat.le_of_ble_eq_true rfl, Nat.le_of_ble_eq_true rfl⟩ rfl rfl hl.1 (Nat.le_of_ble_eq_true rfl) ⟨Nat.le_refl 0, Nat.le_refl 0⟩ dX10_cheapest_18) (fun H locs V z7 => ?_)
      refine r_ne (cx := v5) (tgt := 29) X (wI_01 z7) dX10_cheapest_21 (by decide) (fun c8 => ?_) (fun c8 => ?_)
      · replace h := ite_t c8 h
        refine r_aln X dX10_cheapest_24 rfl (lv_at hl 0 rfl) ?_
        obtain ⟨v9, σ10, hv9, h⟩ := bd2_ex h
        refine r_ki V (r_runV (As := []) (rest := []) X Y V (c_X10_no l G σ6  _ _  hv9) mv_X10_no wd_1146 ci_10 kd_118 ⟨rfl, rfl, Nat.le_of_ble_eq_true rfl, Nat.le_of_ble_eq_true rfl⟩ rfl rfl hl.1 (Nat.le_of_ble_eq_true rfl) ⟨Nat.le_refl 0, Nat.le_refl 0⟩ dX10_cheapest_25) (fun H locs V => ?_)
        exact r_ri X V (so2 h).1 (so2 h).2 dX10_cheapest_28
      · replace h := ite_f c8 h
        refine r_ic X dX10_cheapest_29 ?_
        refine r_isn (lv' := [(2, .int (iV 0)), (0, .ref (G.2.2.1 118)), (1, .int (iV a1))]) X dX10_cheapest_30 rfl hl (by decide) rfl (fun ls hl => ?_)
        refine r_ic X dX10_cheapest_31 ?_
        refine r_isn (lv' := [(3, .int (iV (-1))), (2, .int (iV 0)), (0, .ref (G.2.2.1 118)), (1, .int (iV a1))]) X dX10_cheapest_32 rfl hl (by decide) rfl (fun ls hl => ?_)
        refine r_ic X dX10_cheapest_33 ?_
        refine r_is (lv' := [(4, .int (iV 0)), (3, .int (iV (-1))), (2, .int (iV 0)), (0, .ref (G.2.2.1 118)), (1, .int (iV a1))]) X dX10_cheapest_34 hl (by decide) rfl (fun ls hl => ?_)
        refine wl_X10_cheapest_36 X Y a1  r σ' _ (fun σ25 y26 y27 H locs ls V hl h => ?_) 1000 σ6 0 (-1) 0 _ _ _ V (lv_sub hl [3, 4, 2, 1, 0] rfl) h
        refine r_iln X dX10_cheapest_102 rfl (lv_at hl 0 rfl) ?_
        have J28 : W p l e { frames := 6, cells := 0, slots := 0, locals := 149 } s m args below meth c H locs 0 0 (MQ below (uvQi G r σ') args s 0 0 (uvA G)) (F0 m 111 ls [.int (iV (if wI a1 = 0 then y26 else y27))]) := by
          exact r_ri X V (so2 h).1 (so2 h).2 dX10_cheapest_111
        refine r_ne (cx := wI a1) (tgt := 110) X rfl dX10_cheapest_103 (by decide) (fun c29 => ?_) (fun c29 => ?_)
        · skip
          refine r_iln X dX10_cheapest_106 rfl (lv_at hl 1 rfl) ?_
          refine r_goto (tgt := 111) X dX10_cheapest_107 (by decide) ?_
          rw [if_pos c29] at J28
          exact J28
        · skip
          refine r_iln X dX10_cheapest_110 rfl (lv_at hl 2 rfl) ?_
          rw [if_neg c29] at J28
          exact J28
  exact go _ _ _ X V

set_option maxRecDepth 100000 in
set_option maxHeartbeats 4000000 in
theorem c_X10_toldOf (l : Launch) (G : UG) (σ0 : St) (a1 : Int) (r : Int)  (h : f_X10_toldOf σ0 a1 = some r) : Met l yX10_toldOf (.code yX10_toldOf cX10_toldOf 2 (Option.some Jvm.ClassFile.FieldType.int) :: TB) { frames := 0, cells := 0, slots := 0, locals := 0 } (uvPc G σ0 [.ref (G.2.2.1 118), .int (iV a1)]) (uvQi G r σ0) 0 0 (uvA G) := by
  unfold f_X10_toldOf at h
  refine r_met (own := RX10) (lv := [(0, .ref (G.2.2.1 118)), (1, .int (iV a1))]) (by decide) rfl (Nat.le_of_ble_eq_true rfl) rfl ?_
  intro p e s m below meth c ls X Y V hl
  have go : ∀ (args : Array Value) (H : Heap) (locs : List Loc), uvCx p m c cX10_toldOf 2 RX10 s args meth (Option.some Jvm.ClassFile.FieldType.int) → uvWo G σ0 s H locs → W p l e { frames := 0, cells := 0, slots := 0, locals := 0 } s m args below meth c H locs 0 0 (MQ below (uvQi G r σ0) args s 0 0 (uvA G)) (F0 m 0 ls []) := by
    intro args H locs X V
    refine r_iln X dX10_toldOf_0 rfl (lv_at hl 1 rfl) ?_
    by_cases c1 : wI a1 = 3
    · replace h := ite_t c1 h
      refine r_tbi (tgt := 32) X rfl dX10_toldOf_1 c1 (by decide) (by decide) rfl (by decide) ?_
      refine r_aln X dX10_toldOf_32 rfl (lv_at hl 0 rfl) ?_
      refine r_gi (kI := 14) X Y V ci_10 kd_118 14 rfl (by decide) rfl rfl wd_867 dX10_toldOf_33 ?_
      exact r_ri X V (so1 h) rfl dX10_toldOf_36
    · replace h := ite_f c1 h
      by_cases c2 : wI a1 = 4
      · replace h := ite_t c2 h
        refine r_tbi (tgt := 37) X rfl dX10_toldOf_1 c2 (by decide) (by decide) rfl (by decide) ?_
        refine r_aln X dX10_toldOf_37 rfl (lv_at hl 0 rfl) ?_
        refine r_gi (kI := 1) X Y V ci_10 kd_118 1 rfl (by decide) rfl rfl wd_854 dX10_toldOf_38 ?_
        exact r_ri X V (so1 h) rfl dX10_toldOf_41
      · replace h := ite_f c2 h
        by_cases c3 : wI a1 = 5
        · replace h := ite_t c3 h
          refine r_tbi (tgt := 42) X rfl dX10_toldOf_1 c3 (by decide) (by decide) rfl (by decide) ?_
          refine r_aln X dX10_toldOf_42 rfl (lv_at hl 0 rfl) ?_
          refine r_gi (kI := 3) X Y V ci_10 kd_118 3 rfl (by decide) rfl rfl wd_856 dX10_toldOf_43 ?_
          exact r_ri X V (so1 h) rfl dX10_toldOf_46
        · replace h := ite_f c3 h
          by_cases c4 : wI a1 = 6
          · replace h := ite_t c4 h
            refine r_tbi (tgt := 47) X rfl dX10_toldOf_1 c4 (by decide) (by decide) rfl (by decide) ?_
            refine r_aln X dX10_toldOf_47 rfl (lv_at hl 0 rfl) ?_
            refine r_gi (kI := 5) X Y V ci_10 kd_118 5 rfl (by decide) rfl rfl wd_858 dX10_toldOf_48 ?_
            exact r_ri X V (so1 h) rfl dX10_toldOf_51
          · replace h := ite_f c4 h
            refine r_tbo (tgt := 52) X rfl dX10_toldOf_1 (by omega) (by decide) ?_
            refine r_aln X dX10_toldOf_52 rfl (lv_at hl 0 rfl) ?_
            refine r_gr X Y V ci_10 kd_118 12 rfl rfl (by decide) rfl rfl wd_865 dX10_toldOf_53 ?_
            refine r_iln X dX10_toldOf_56 rfl (lv_at hl 1 rfl) ?_
            obtain ⟨v5, hv5, hiv5, h⟩ := rdA_ex h
            refine r_ial X Y V kd_126 ln_126 hiv5 hv5 dX10_toldOf_57 ?_
            exact r_ri X V (so1 h) rfl dX10_toldOf_58
  exact go _ _ _ X V

set_option maxRecDepth 100000 in
set_option maxHeartbeats 4000000 in
theorem c_X10_told (l : Launch) (G : UG) (σ : St) (a1 : Int) (r : Int) (σ' : St)  (h : f_X10_told σ a1 = some (r, σ')) : Met l yX10_told (.code yX10_told cX10_told 2 (Option.some Jvm.ClassFile.FieldType.int) :: TB) { frames := 1, cells := 0, slots := 0, locals := 25 } (uvPc G σ [.ref (G.2.2.1 118), .int (iV a1)]) (uvQi G r σ') 0 0 (uvA G) := by
  unfold f_X10_told at h
  refine r_met (own := RX10) (lv := [(0, .ref (G.2.2.1 118)), (1, .int (iV a1))]) (by decide) rfl (Nat.le_of_ble_eq_true rfl) rfl ?_
  intro p e s m below meth c ls X Y V hl
  have go : ∀ (args : Array Value) (H : Heap) (locs : List Loc), uvCx p m c cX10_told 2 RX10 s args meth (Option.some Jvm.ClassFile.FieldType.int) → uvWo G σ s H locs → W p l e { frames := 1, cells := 0, slots := 0, locals := 25 } s m args below meth c H locs 0 0 (MQ below (uvQi G r σ') args s 0 0 (uvA G)) (F0 m 0 ls []) := by
    intro args H locs X V
    refine r_iln X dX10_told_0 rfl (lv_at hl 1 rfl) ?_
    refine r_i2l X dX10_told_1 ?_
    refine r_lc (v := 0) X dX10_told_2 rfl ?_
    refine r_ldc2 X (n := 6) wd_985 (by decide) dX10_told_3 ?_
    refine r_kz V (r_runS (As := [.long (lV (i2lI a1)), .long (lV 0), .long (lV 6)]) (rest := []) X Y V (c_X10_in l G σ (i2lI a1) 0 6 _  rfl) ms_X10_in wd_982 ⟨rfl, rfl, Nat.le_of_ble_eq_true rfl, Nat.le_of_ble_eq_true rfl⟩ rfl rfl hl.1 (Nat.le_of_ble_eq_true rfl) ⟨Nat.le_refl 0, Nat.le_refl 0⟩ dX10_told_6) (fun H locs V z1 => ?_)
    refine r_eq (cx := (f_X10_in (i2lI a1) 0 6)) (tgt := 20) X (wI_01 z1) dX10_told_9 (by decide) (fun c2 => ?_) (fun c2 => ?_)
    · replace h := ite_t c2 h
      refine r_aln X dX10_told_20 rfl (lv_at hl 0 rfl) ?_
      refine r_bp X dX10_told_21 (by decide) ?_
      obtain ⟨v3, σ4, hv3, h⟩ := bd2_ex h
      refine r_ki V (r_runV (As := [.int (iV (-2))]) (rest := []) X Y V (c_X10_bad l G σ (-2) _ _  hv3) mv_X10_bad wd_988 ci_10 kd_118 ⟨rfl, rfl, Nat.le_of_ble_eq_true rfl, Nat.le_of_ble_eq_true rfl⟩ rfl rfl hl.1 (Nat.le_of_ble_eq_true rfl) ⟨Nat.le_refl 0, Nat.le_refl 0⟩ dX10_told_23) (fun H locs V => ?_)
      exact r_ri X V (so2 h).1 (so2 h).2 dX10_told_26
    · replace h := ite_f c2 h
      refine r_aln X dX10_told_12 rfl (lv_at hl 0 rfl) ?_
      refine r_iln X dX10_told_13 rfl (lv_at hl 1 rfl) ?_
      obtain ⟨v5, hv5, h⟩ := bd1_ex h
      refine r_ki V (r_runV (As := [.int (iV a1)]) (rest := []) X Y V (c_X10_toldOf l G σ a1 _  hv5) mv_X10_toldOf wd_1243 ci_10 kd_118 ⟨rfl, rfl, Nat.le_of_ble_eq_true rfl, Nat.le_of_ble_eq_true rfl⟩ rfl rfl hl.1 (Nat.le_of_ble_eq_true rfl) ⟨Nat.le_refl 0, Nat.le_refl 0⟩ dX10_told_14) (fun H locs V => ?_)
      refine r_goto (tgt := 26) X dX10_told_17 (by decide) ?_
      exact r_ri X V (so2 h).1 (so2 h).2 dX10_told_26
  exact go _ _ _ X V

set_option maxRecDepth 100000 in
set_option maxHeartbeats 4000000 in
theorem wl_X10_sums_6 {p : Program} {l : Launch} {e : Env} {s : State} {m : MethodId} {args : Array Value} {below : List Frame} {meth : Method} {c : Code} {G : UG} (X : uvCx p m c cX10_sums 7 RX10 s args meth (Option.some Jvm.ClassFile.FieldType.long)) (Y : uvGd G s s.heap) (σ0 : St) (x2 : Int) (x3 : Int) (hx2 : uvKd x2 = 11) (r : Int) (kx : Int → Option Int) (hkx : ∀ (x4 : Int) (H : Heap) (locs : List Loc) (ls : Array Slot), uvWo G σ0 s H locs → lv_has ls 7 [(4, .long (lV x4))] → kx x4 = some r → W p l e { frames := 0, cells := 0, slots := 0, locals := 0 } s m args below meth c H locs 0 0 (MQ below (uvQl G r σ0) args s 0 0 (uvA G)) (F0 m 32 ls [])) : ∀ (n : Nat) (x4 : Int) (x6 : Int) (H : Heap) (locs : List Loc) (ls : Array Slot), uvWo G σ0 s H locs → lv_has ls 7 [(2, .ref (G.2.2.1 x2)), (3, .int (iV x3)), (4, .long (lV x4)), (6, .int (iV x6))] → lp_X10_sums_6 σ0 x2 x3 kx n x4 x6 = some r → W p l e { frames := 0, cells := 0, slots := 0, locals := 0 } s m args below meth c H locs 0 0 (MQ below (uvQl G r σ0) args s 0 0 (uvA G)) (F0 m 6 ls []) := by
  intro n
  induction n with
  | zero => intro x4 x6 H locs ls V hl h; cases h
  | succ n ih =>
    intro x4 x6 H locs ls V hl h
    rw [lp_X10_sums_6] at h
    refine r_il X dX10_sums_6 (lv_at hl 3 rfl) ?_
    refine r_iln X dX10_sums_8 rfl (lv_at hl 1 rfl) ?_
    refine r_cge (cx := wI x6) (cy := wI x3) (tgt := 32) X rfl rfl dX10_sums_9 (by decide) (fun c1 => ?_) (fun c1 => ?_)
    · replace h := ite_t c1 h
      refine r_ldc2 X (n := 31) wd_1252 (by decide) dX10_sums_12 ?_
      refine r_ll X dX10_sums_15 (lv_at hl 2 rfl) ?_
      refine r_lmul X dX10_sums_17 ?_
      refine r_aln X dX10_sums_18 rfl (lv_at hl 0 rfl) ?_
      refine r_il X dX10_sums_19 (lv_at hl 3 rfl) ?_
      obtain ⟨v2, hv2, hiv2, h⟩ := rdA_ex h
      refine r_ial X Y V hx2 rfl hiv2 hv2 dX10_sums_21 ?_
      refine r_i2l X dX10_sums_22 ?_
      refine r_ladd X dX10_sums_23 ?_
      obtain ⟨v3, hv3, h⟩ := bnd_ex h
      refine r_eqL hv3 ?_
      refine r_ls (lv' := [(4, .long (lV v3)), (2, .ref (G.2.2.1 x2)), (3, .int (iV x3)), (6, .int (iV x6))]) X dX10_sums_24 hl (by decide) rfl (fun ls hl => ?_)
      refine r_inc (kk := 3) (lv' := [(6, .int (iV (x6 + 1))), (4, .long (lV v3)), (2, .ref (G.2.2.1 x2)), (3, .int (iV x3))]) X dX10_sums_26 hl rfl (by decide) rfl (fun ls hl => ?_)
      refine r_goto (tgt := 6) X dX10_sums_29 (by decide) ?_
      exact ih v3 (x6 + 1) _ _ _ V (lv_sub hl [2, 3, 1, 0] rfl) h
    · replace h := ite_f c1 h
      exact hkx x4 _ _ _ V (lv_sub hl [2] rfl) h

set_option maxRecDepth 100000 in
set_option maxHeartbeats 4000000 in
theorem c_X10_sums (l : Launch) (G : UG) (σ0 : St) (a0 : Int) (a2 : Int) (a3 : Int) (r : Int) (ha2 : uvKd a2 = 11) (h : f_X10_sums σ0 a0 a2 a3 = some r) : Met l yX10_sums (.code yX10_sums cX10_sums 7 (Option.some Jvm.ClassFile.FieldType.long) :: TB) { frames := 0, cells := 0, slots := 0, locals := 0 } (uvPc G σ0 [.long (lV a0), .ref (G.2.2.1 a2), .int (iV a3)]) (uvQl G r σ0) 0 0 (uvA G) := by
  unfold f_X10_sums at h
  refine r_met (own := RX10) (lv := [(0, .long (lV a0)), (2, .ref (G.2.2.1 a2)), (3, .int (iV a3))]) (by decide) rfl (Nat.le_of_ble_eq_true rfl) rfl ?_
  intro p e s m below meth c ls X Y V hl
  have go : ∀ (args : Array Value) (H : Heap) (locs : List Loc), uvCx p m c cX10_sums 7 RX10 s args meth (Option.some Jvm.ClassFile.FieldType.long) → uvWo G σ0 s H locs → W p l e { frames := 0, cells := 0, slots := 0, locals := 0 } s m args below meth c H locs 0 0 (MQ below (uvQl G r σ0) args s 0 0 (uvA G)) (F0 m 0 ls []) := by
    intro args H locs X V
    refine r_lln X dX10_sums_0 rfl (lv_at hl 0 rfl) ?_
    refine r_ls (lv' := [(4, .long (lV a0)), (0, .long (lV a0)), (2, .ref (G.2.2.1 a2)), (3, .int (iV a3))]) X dX10_sums_1 hl (by decide) rfl (fun ls hl => ?_)
    refine r_ic X dX10_sums_3 ?_
    refine r_is (lv' := [(6, .int (iV 0)), (4, .long (lV a0)), (0, .long (lV a0)), (2, .ref (G.2.2.1 a2)), (3, .int (iV a3))]) X dX10_sums_4 hl (by decide) rfl (fun ls hl => ?_)
    refine wl_X10_sums_6 X Y σ0 a2 a3 ha2 r _ (fun y4 H locs ls V hl h => ?_) 1000 a0 0 _ _ _ V (lv_sub hl [3, 4, 1, 0] rfl) h
    refine r_ll X dX10_sums_32 (lv_at hl 0 rfl) ?_
    exact r_rl X V (so1 h) rfl dX10_sums_34
  exact go _ _ _ X V

set_option maxRecDepth 100000 in
set_option maxHeartbeats 4000000 in
theorem wl_X10_digest_6 {p : Program} {l : Launch} {e : Env} {s : State} {m : MethodId} {args : Array Value} {below : List Frame} {meth : Method} {c : Code} {G : UG} (X : uvCx p m c cX10_digest 4 RX10 s args meth (Option.some Jvm.ClassFile.FieldType.long)) (Y : uvGd G s s.heap)   (r : Int) (σ' : St) (kx : St → Int → Option (Int × St)) (hkx : ∀ (σ : St) (x1 : Int) (H : Heap) (locs : List Loc) (ls : Array Slot), uvWo G σ s H locs → lv_has ls 4 [(0, .ref (G.2.2.1 118)), (1, .long (lV x1))] → kx σ x1 = some (r, σ') → W p l e { frames := 6, cells := 0, slots := 0, locals := 149 } s m args below meth c H locs 0 0 (MQ below (uvQl G r σ') args s 0 0 (uvA G)) (F0 m 31 ls [])) : ∀ (n : Nat) (σ : St) (x1 : Int) (x3 : Int) (H : Heap) (locs : List Loc) (ls : Array Slot), uvWo G σ s H locs → lv_has ls 4 [(0, .ref (G.2.2.1 118)), (1, .long (lV x1)), (3, .int (iV x3))] → lp_X10_digest_6 kx n σ x1 x3 = some (r, σ') → W p l e { frames := 6, cells := 0, slots := 0, locals := 149 } s m args below meth c H locs 0 0 (MQ below (uvQl G r σ') args s 0 0 (uvA G)) (F0 m 6 ls []) := by
  intro n
  induction n with
  | zero => intro σ x1 x3 H locs ls V hl h; cases h
  | succ n ih =>
    intro σ x1 x3 H locs ls V hl h
    rw [lp_X10_digest_6] at h
    refine r_iln X dX10_digest_6 rfl (lv_at hl 2 rfl) ?_
    refine r_bp X dX10_digest_7 (by decide) ?_
    refine r_cge (cx := wI x3) (cy := 7) (tgt := 31) X rfl rfl dX10_digest_9 (by decide) (fun c1 => ?_) (fun c1 => ?_)
    · replace h := ite_t c1 h
      refine r_ldc2 X (n := 31) wd_1252 (by decide) dX10_digest_12 ?_
      refine r_lln X dX10_digest_15 rfl (lv_at hl 1 rfl) ?_
      refine r_lmul X dX10_digest_16 ?_
      refine r_aln X dX10_digest_17 rfl (lv_at hl 0 rfl) ?_
      refine r_iln X dX10_digest_18 rfl (lv_at hl 2 rfl) ?_
      obtain ⟨v2, hv2, h⟩ := bd1_ex h
      refine r_ki V (r_runV (As := [.int (iV x3)]) (rest := [.long (lV (31 * x1))]) X Y V (c_X10_toldOf l G σ x3 _  hv2) mv_X10_toldOf wd_1243 ci_10 kd_118 ⟨rfl, rfl, Nat.le_of_ble_eq_true rfl, Nat.le_of_ble_eq_true rfl⟩ rfl rfl hl.1 (Nat.le_of_ble_eq_true rfl) ⟨Nat.le_refl 0, Nat.le_refl 0⟩ dX10_digest_19) (fun H locs V => ?_)
      refine r_i2l X dX10_digest_22 ?_
      refine r_ladd X dX10_digest_23 ?_
      obtain ⟨v3, hv3, h⟩ := bnd_ex h
      refine r_eqL hv3 ?_
      refine r_lsn (lv' := [(1, .long (lV v3)), (0, .ref (G.2.2.1 118)), (3, .int (iV x3))]) X dX10_digest_24 rfl hl (by decide) rfl (fun ls hl => ?_)
      refine r_inc (kk := 2) (lv' := [(3, .int (iV (x3 + 1))), (1, .long (lV v3)), (0, .ref (G.2.2.1 118))]) X dX10_digest_25 hl rfl (by decide) rfl (fun ls hl => ?_)
      refine r_goto (tgt := 6) X dX10_digest_28 (by decide) ?_
      exact ih σ v3 (x3 + 1) _ _ _ V (lv_sub hl [2, 1, 0] rfl) h
    · replace h := ite_f c1 h
      exact hkx σ x1 _ _ _ V (lv_sub hl [0, 1] rfl) h

set_option maxRecDepth 100000 in
set_option maxHeartbeats 4000000 in
theorem c_X10_digest (l : Launch) (G : UG) (σ : St)  (r : Int) (σ' : St)  (h : f_X10_digest σ = some (r, σ')) : Met l yX10_digest (.code yX10_digest cX10_digest 4 (Option.some Jvm.ClassFile.FieldType.long) :: TB) { frames := 6, cells := 0, slots := 0, locals := 149 } (uvPc G σ [.ref (G.2.2.1 118)]) (uvQl G r σ') 0 0 (uvA G) := by
  unfold f_X10_digest at h
  refine r_met (own := RX10) (lv := [(0, .ref (G.2.2.1 118))]) (by decide) rfl (Nat.le_of_ble_eq_true rfl) rfl ?_
  intro p e s m below meth c ls X Y V hl
  have go : ∀ (args : Array Value) (H : Heap) (locs : List Loc), uvCx p m c cX10_digest 4 RX10 s args meth (Option.some Jvm.ClassFile.FieldType.long) → uvWo G σ s H locs → W p l e { frames := 6, cells := 0, slots := 0, locals := 149 } s m args below meth c H locs 0 0 (MQ below (uvQl G r σ') args s 0 0 (uvA G)) (F0 m 0 ls []) := by
    intro args H locs X V
    refine r_ldc2 X (n := 1987) wd_1251 (by decide) dX10_digest_0 ?_
    refine r_lsn (lv' := [(1, .long (lV 1987)), (0, .ref (G.2.2.1 118))]) X dX10_digest_3 rfl hl (by decide) rfl (fun ls hl => ?_)
    refine r_ic X dX10_digest_4 ?_
    refine r_isn (lv' := [(3, .int (iV 0)), (1, .long (lV 1987)), (0, .ref (G.2.2.1 118))]) X dX10_digest_5 rfl hl (by decide) rfl (fun ls hl => ?_)
    refine wl_X10_digest_6 X Y   r σ' _ (fun σ4 y5 H locs ls V hl h => ?_) 1000 σ 1987 0 _ _ _ V (lv_sub hl [2, 1, 0] rfl) h
    refine r_lln X dX10_digest_31 rfl (lv_at hl 1 rfl) ?_
    refine r_aln X dX10_digest_32 rfl (lv_at hl 0 rfl) ?_
    refine r_gr X Y V ci_10 kd_118 0 rfl rfl (by decide) rfl rfl wd_853 dX10_digest_33 ?_
    refine r_bp X dX10_digest_36 (by decide) ?_
    refine r_aln X dX10_digest_38 rfl (lv_at hl 0 rfl) ?_
    refine r_gi (kI := 1) X Y V ci_10 kd_118 1 rfl (by decide) rfl rfl wd_854 dX10_digest_39 ?_
    refine r_imul X dX10_digest_42 ?_
    obtain ⟨v6, hv6, h⟩ := bd1_ex h
    refine r_kl V (r_runS (As := [.long (lV y5), .ref (G.2.2.1 119), .int (iV (6 * (σ4 118 1)))]) (rest := []) X Y V (c_X10_sums l G σ4 y5 119 (6 * (σ4 118 1)) _ kd_119 hv6) ms_X10_sums wd_1253 ⟨rfl, rfl, Nat.le_of_ble_eq_true rfl, Nat.le_of_ble_eq_true rfl⟩ rfl rfl hl.1 (Nat.le_of_ble_eq_true rfl) ⟨Nat.le_refl 0, Nat.le_refl 0⟩ dX10_digest_43) (fun H locs V => ?_)
    refine r_lsn (lv' := [(1, .long (lV v6)), (0, .ref (G.2.2.1 118))]) X dX10_digest_46 rfl hl (by decide) rfl (fun ls hl => ?_)
    refine r_lln X dX10_digest_47 rfl (lv_at hl 0 rfl) ?_
    refine r_aln X dX10_digest_48 rfl (lv_at hl 1 rfl) ?_
    refine r_gr X Y V ci_10 kd_118 4 rfl rfl (by decide) rfl rfl wd_857 dX10_digest_49 ?_
    refine r_bp X dX10_digest_52 (by decide) ?_
    obtain ⟨v7, hv7, h⟩ := bd1_ex h
    refine r_kl V (r_runS (As := [.long (lV v6), .ref (G.2.2.1 121), .int (iV 6)]) (rest := []) X Y V (c_X10_sums l G σ4 v6 121 6 _ kd_121 hv7) ms_X10_sums wd_1253 ⟨rfl, rfl, Nat.le_of_ble_eq_true rfl, Nat.le_of_ble_eq_true rfl⟩ rfl rfl hl.1 (Nat.le_of_ble_eq_true rfl) ⟨Nat.le_refl 0, Nat.le_refl 0⟩ dX10_digest_54) (fun H locs V => ?_)
    refine r_lsn (lv' := [(1, .long (lV v7)), (0, .ref (G.2.2.1 118))]) X dX10_digest_57 rfl hl (by decide) rfl (fun ls hl => ?_)
    refine r_lln X dX10_digest_58 rfl (lv_at hl 0 rfl) ?_
    refine r_aln X dX10_digest_59 rfl (lv_at hl 1 rfl) ?_
    refine r_gr X Y V ci_10 kd_118 2 rfl rfl (by decide) rfl rfl wd_855 dX10_digest_60 ?_
    refine r_ic X dX10_digest_63 ?_
    refine r_aln X dX10_digest_64 rfl (lv_at hl 1 rfl) ?_
    refine r_gi (kI := 3) X Y V ci_10 kd_118 3 rfl (by decide) rfl rfl wd_856 dX10_digest_65 ?_
    refine r_imul X dX10_digest_68 ?_
    obtain ⟨v8, hv8, h⟩ := bd1_ex h
    refine r_kl V (r_runS (As := [.long (lV v7), .ref (G.2.2.1 120), .int (iV (3 * (σ4 118 3)))]) (rest := []) X Y V (c_X10_sums l G σ4 v7 120 (3 * (σ4 118 3)) _ kd_120 hv8) ms_X10_sums wd_1253 ⟨rfl, rfl, Nat.le_of_ble_eq_true rfl, Nat.le_of_ble_eq_true rfl⟩ rfl rfl hl.1 (Nat.le_of_ble_eq_true rfl) ⟨Nat.le_refl 0, Nat.le_refl 0⟩ dX10_digest_69) (fun H locs V => ?_)
    refine r_lsn (lv' := [(1, .long (lV v8)), (0, .ref (G.2.2.1 118))]) X dX10_digest_72 rfl hl (by decide) rfl (fun ls hl => ?_)
    refine r_ldc2 X (n := 31) wd_1252 (by decide) dX10_digest_73 ?_
    refine r_ldc2 X (n := 31) wd_1252 (by decide) dX10_digest_76 ?_
    refine r_lln X dX10_digest_79 rfl (lv_at hl 0 rfl) ?_
    refine r_lmul X dX10_digest_80 ?_
    refine r_aln X dX10_digest_81 rfl (lv_at hl 1 rfl) ?_
    refine r_gi (kI := 10) X Y V ci_10 kd_118 10 rfl (by decide) rfl rfl wd_863 dX10_digest_82 ?_
    refine r_i2l X dX10_digest_85 ?_
    refine r_ladd X dX10_digest_86 ?_
    refine r_lmul X dX10_digest_87 ?_
    refine r_aln X dX10_digest_88 rfl (lv_at hl 1 rfl) ?_
    refine r_gi (kI := 11) X Y V ci_10 kd_118 11 rfl (by decide) rfl rfl wd_864 dX10_digest_89 ?_
    refine r_i2l X dX10_digest_92 ?_
    refine r_ladd X dX10_digest_93 ?_
    obtain ⟨v9, hv9, h⟩ := bnd_ex h
    refine r_eqL hv9 ?_
    refine r_lsn (lv' := [(1, .long (lV v9)), (0, .ref (G.2.2.1 118))]) X dX10_digest_94 rfl hl (by decide) rfl (fun ls hl => ?_)
    refine r_aln X dX10_digest_95 rfl (lv_at hl 1 rfl) ?_
    obtain ⟨v10, σ11, hv10, h⟩ := bd2_ex h
    refine r_kz V (r_runV (As := []) (rest := []) X Y V (c_X10_chainsNow l G σ4  _ _  hv10) mv_X10_chainsNow wd_1181 ci_10 kd_118 ⟨rfl, rfl, Nat.le_of_ble_eq_true rfl, Nat.le_of_ble_eq_true rfl⟩ rfl rfl hl.1 (Nat.le_of_ble_eq_true rfl) ⟨Nat.le_refl 0, Nat.le_refl 0⟩ dX10_digest_96) (fun H locs V z12 => ?_)
    refine r_ne (cx := v10) (tgt := 110) X (wI_01 z12) dX10_digest_99 (by decide) (fun c13 => ?_) (fun c13 => ?_)
    · replace h := ite_t c13 h
      refine r_ldc2 X (n := 31) wd_1252 (by decide) dX10_digest_102 ?_
      refine r_lln X dX10_digest_105 rfl (lv_at hl 0 rfl) ?_
      refine r_lmul X dX10_digest_106 ?_
      refine r_lc (v := 1) X dX10_digest_107 rfl ?_
      refine r_lsub X dX10_digest_108 ?_
      exact r_rl X V (so2 h).1 (so2 h).2 dX10_digest_109
    · replace h := ite_f c13 h
      refine r_aln X dX10_digest_110 rfl (lv_at hl 1 rfl) ?_
      refine r_gi (kI := 34) X Y V ci_10 kd_118 34 rfl (by decide) rfl rfl wd_887 dX10_digest_111 ?_
      refine r_isn (lv' := [(3, .int (iV (σ11 118 34))), (1, .long (lV v9)), (0, .ref (G.2.2.1 118))]) X dX10_digest_114 rfl hl (by decide) rfl (fun ls hl => ?_)
      refine r_aln X dX10_digest_115 rfl (lv_at hl 2 rfl) ?_
      obtain ⟨v14, σ15, hv14, h⟩ := bd2_ex h
      refine r_kv V (r_runV (As := []) (rest := []) X Y V (c_X10_layChain l G σ11  _ _  hv14) mv_X10_layChain wd_1207 ci_10 kd_118 ⟨rfl, rfl, Nat.le_of_ble_eq_true rfl, Nat.le_of_ble_eq_true rfl⟩ rfl rfl hl.1 (Nat.le_of_ble_eq_true rfl) ⟨Nat.le_refl 0, Nat.le_refl 0⟩ dX10_digest_116) (fun H locs V => ?_)
      refine r_ldc2 X (n := 31) wd_1252 (by decide) dX10_digest_119 ?_
      refine r_lln X dX10_digest_122 rfl (lv_at hl 1 rfl) ?_
      refine r_lmul X dX10_digest_123 ?_
      refine r_iln X dX10_digest_124 rfl (lv_at hl 0 rfl) ?_
      refine r_i2l X dX10_digest_125 ?_
      refine r_ladd X dX10_digest_126 ?_
      refine r_aln X dX10_digest_127 rfl (lv_at hl 2 rfl) ?_
      refine r_gr X Y V ci_10 kd_118 38 rfl rfl (by decide) rfl rfl wd_891 dX10_digest_128 ?_
      refine r_aln X dX10_digest_131 rfl (lv_at hl 2 rfl) ?_
      refine r_gi (kI := 3) X Y V ci_10 kd_118 3 rfl (by decide) rfl rfl wd_856 dX10_digest_132 ?_
      obtain ⟨v16, hv16, h⟩ := bd1_ex h
      refine r_kl V (r_runS (As := [.long (lV ((31 * v9) + (i2lI (σ11 118 34)))), .ref (G.2.2.1 141), .int (iV (σ15 118 3))]) (rest := []) X Y V (c_X10_sums l G σ15 ((31 * v9) + (i2lI (σ11 118 34))) 141 (σ15 118 3) _ kd_141 hv16) ms_X10_sums wd_1253 ⟨rfl, rfl, Nat.le_of_ble_eq_true rfl, Nat.le_of_ble_eq_true rfl⟩ rfl rfl hl.1 (Nat.le_of_ble_eq_true rfl) ⟨Nat.le_refl 0, Nat.le_refl 0⟩ dX10_digest_135) (fun H locs V => ?_)
      exact r_rl X V (so2 h).1 (so2 h).2 dX10_digest_138
  exact go _ _ _ X V

