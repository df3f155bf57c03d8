set_option maxRecDepth 100000 in
set_option maxHeartbeats 4000000 in
theorem wj_X10_records_115 {p : Program} {l : Launch} {e : Env} {s : State} {m : MethodId} {args : Array Value} {below : List Frame} {meth : Method} {c : Code} {G : UG} (X : uvCx p m c cX10_records 9 RX10 s args meth (Option.some Jvm.ClassFile.FieldType.int)) (Y : uvGd G s s.heap) (kb : St → Int → Int → Option (Int × St)) (r : Int) (σ' : St) (σ : St) (x2 : Int) (x3 : Int) (x4 : Int) (x6 : Int) (x7 : Int) (t0 : Int)  (hkb : ∀ (σ : St) (m4 : Int) (m7 : Int) (H : Heap) (locs : List Loc) (ls : Array Slot), uvWo G σ s H locs → lv_has ls 9 [(0, .ref (G.2.2.1 118)), (2, .int (iV x2)), (3, .int (iV x3)), (4, .long (lV m4)), (6, .int (iV x6)), (7, .int (iV m7))] → kb σ m4 m7 = some (r, σ') → W p l e { frames := 1, cells := 0, slots := 0, locals := 27 } s m args below meth c H locs 0 0 (MQ below (uvQi G r σ') args s 0 0 (uvA G)) (F0 m 72 ls [])) (H : Heap) (locs : List Loc) (ls : Array Slot) (V : uvWo G σ s H locs) (hl : lv_has ls 9 [(0, .ref (G.2.2.1 118)), (2, .int (iV x2)), (3, .int (iV x3)), (4, .long (lV x4)), (6, .int (iV x6)), (7, .int (iV x7))]) (h : jn_X10_records_115 kb σ x2 x3 x4 x6 x7 t0 = some (r, σ')) : W p l e { frames := 1, cells := 0, slots := 0, locals := 27 } s m args below meth c H locs 0 0 (MQ below (uvQi G r σ') args s 0 0 (uvA G)) (F0 m 115 ls [.int (iV t0)]) := by
  unfold jn_X10_records_115 at h
  refine r_is (lv' := [(8, .int (iV t0)), (0, .ref (G.2.2.1 118)), (2, .int (iV x2)), (3, .int (iV x3)), (4, .long (lV x4)), (6, .int (iV x6)), (7, .int (iV x7))]) X dX10_records_115 hl (by decide) rfl (fun ls hl => ?_)
  refine r_aln X dX10_records_117 rfl (lv_at hl 1 rfl) ?_
  refine r_ll X dX10_records_118 (lv_at hl 4 rfl) ?_
  refine r_ldc2 X (n := 65536) wd_1012 (by decide) dX10_records_120 ?_
  refine r_ldiv X (by decide) dX10_records_123 ?_
  refine r_ldc2 X (n := 6) wd_985 (by decide) dX10_records_124 ?_
  refine r_lrem X (by decide) dX10_records_127 ?_
  refine r_l2i X dX10_records_128 ?_
  refine r_il X dX10_records_129 (lv_at hl 0 rfl) ?_
  refine r_bp X dX10_records_131 (by decide) ?_
  refine r_ll X dX10_records_133 (lv_at hl 4 rfl) ?_
  refine r_ldc2 X (n := 4096) wd_1013 (by decide) dX10_records_135 ?_
  refine r_ldiv X (by decide) dX10_records_138 ?_
  refine r_ldc2 X (n := 10) wd_1014 (by decide) dX10_records_139 ?_
  refine r_lrem X (by decide) dX10_records_142 ?_
  refine r_l2i X dX10_records_143 ?_
  refine r_ll X dX10_records_144 (lv_at hl 4 rfl) ?_
  refine r_ldc2 X (n := 1024) wd_1015 (by decide) dX10_records_146 ?_
  refine r_ldiv X (by decide) dX10_records_149 ?_
  refine r_ldc2 X (n := 9) wd_986 (by decide) dX10_records_150 ?_
  refine r_lrem X (by decide) dX10_records_153 ?_
  refine r_l2i X dX10_records_154 ?_
  refine r_ic X dX10_records_155 ?_
  refine r_iadd X dX10_records_156 ?_
  refine r_iln X dX10_records_157 rfl (lv_at hl 3 rfl) ?_
  obtain ⟨v20, σ21, hv20, h⟩ := bd2_ex h
  refine r_kv V (r_runV (As := [.int (iV (remL (divL x4 65536) 6)), .int (iV t0), .int (iV 6), .int (iV (remL (divL x4 4096) 10)), .int (iV ((remL (divL x4 1024) 9) + 1)), .int (iV x3)]) (rest := []) X Y V (c_X10_lays l G σ (remL (divL x4 65536) 6) t0 6 (remL (divL x4 4096) 10) ((remL (divL x4 1024) 9) + 1) x3 _ _  hv20) mv_X10_lays wd_996 ci_10 kd_118 ⟨rfl, rfl, Nat.le_of_ble_eq_true rfl, Nat.le_of_ble_eq_true rfl⟩ rfl rfl hl.1 (Nat.le_of_ble_eq_true rfl) ⟨Nat.le_refl 0, Nat.le_refl 0⟩ dX10_records_158) (fun H locs V => ?_)
  refine r_inc (kk := 6) (lv' := [(7, .int (iV (x7 + 1))), (8, .int (iV t0)), (0, .ref (G.2.2.1 118)), (2, .int (iV x2)), (3, .int (iV x3)), (4, .long (lV x4)), (6, .int (iV x6))]) X dX10_records_161 hl rfl (by decide) rfl (fun ls hl => ?_)
  refine r_goto (tgt := 72) X dX10_records_164 (by decide) ?_
  exact hkb σ21 x4 (x7 + 1) _ _ _ V (lv_sub hl [2, 3, 4, 5, 6, 0] rfl) h

set_option maxRecDepth 100000 in
set_option maxHeartbeats 4000000 in
theorem wl_X10_records_72 {p : Program} {l : Launch} {e : Env} {s : State} {m : MethodId} {args : Array Value} {below : List Frame} {meth : Method} {c : Code} {G : UG} (X : uvCx p m c cX10_records 9 RX10 s args meth (Option.some Jvm.ClassFile.FieldType.int)) (Y : uvGd G s s.heap) (x2 : Int) (x3 : Int) (x6 : Int)  (r : Int) (σ' : St) (kx : St → Option (Int × St)) (hkx : ∀ (σ : St)  (H : Heap) (locs : List Loc) (ls : Array Slot), uvWo G σ s H locs → lv_has ls 9 [(0, .ref (G.2.2.1 118)), (6, .int (iV x6))] → kx σ  = some (r, σ') → W p l e { frames := 1, cells := 0, slots := 0, locals := 27 } s m args below meth c H locs 0 0 (MQ below (uvQi G r σ') args s 0 0 (uvA G)) (F0 m 167 ls [])) : ∀ (n : Nat) (σ : St) (x4 : Int) (x7 : Int) (H : Heap) (locs : List Loc) (ls : Array Slot), uvWo G σ s H locs → lv_has ls 9 [(0, .ref (G.2.2.1 118)), (2, .int (iV x2)), (3, .int (iV x3)), (4, .long (lV x4)), (6, .int (iV x6)), (7, .int (iV x7))] → lp_X10_records_72 x2 x3 x6 kx n σ x4 x7 = some (r, σ') → W p l e { frames := 1, cells := 0, slots := 0, locals := 27 } s m args below meth c H locs 0 0 (MQ below (uvQi G r σ') args s 0 0 (uvA G)) (F0 m 72 ls []) := by
  intro n
  induction n with
  | zero => intro σ x4 x7 H locs ls V hl h; cases h
  | succ n ih =>
    intro σ x4 x7 H locs ls V hl h
    rw [lp_X10_records_72] at h
    refine r_il X dX10_records_72 (lv_at hl 5 rfl) ?_
    refine r_iln X dX10_records_74 rfl (lv_at hl 1 rfl) ?_
    refine r_cge (cx := wI x7) (cy := wI x2) (tgt := 167) X rfl rfl dX10_records_75 (by decide) (fun c17 => ?_) (fun c17 => ?_)
    · replace h := ite_t c17 h
      refine r_ll X dX10_records_78 (lv_at hl 3 rfl) ?_
      refine r_ldc2 X (n := 1103515245) wd_1005 (by decide) dX10_records_80 ?_
      refine r_lmul X dX10_records_83 ?_
      refine r_ldc2 X (n := 12345) wd_1006 (by decide) dX10_records_84 ?_
      refine r_ladd X dX10_records_87 ?_
      refine r_ldc2 X (n := 2147483648) wd_1007 (by decide) dX10_records_88 ?_
      refine r_lrem X (by decide) dX10_records_91 ?_
      obtain ⟨v18, hv18, h⟩ := bnd_ex h
      refine r_eqL hv18 ?_
      refine r_ls (lv' := [(4, .long (lV v18)), (0, .ref (G.2.2.1 118)), (2, .int (iV x2)), (3, .int (iV x3)), (6, .int (iV x6)), (7, .int (iV x7))]) X dX10_records_92 hl (by decide) rfl (fun ls hl => ?_)
      refine r_il X dX10_records_94 (lv_at hl 5 rfl) ?_
      refine r_ne (cx := wI x7) (tgt := 104) X rfl dX10_records_96 (by decide) (fun c19 => ?_) (fun c19 => ?_)
      · replace h := ite_t c19 h
        refine r_bp X dX10_records_99 (by decide) ?_
        refine r_goto (tgt := 115) X dX10_records_101 (by decide) ?_
        exact wj_X10_records_115 X Y _ r σ' σ x2 x3 v18 x6 x7 6  (fun σ m4 m7 H locs ls V hl h => ih σ m4 m7 H locs ls V hl h) _ _ _ V (lv_sub hl [1, 2, 3, 0, 4, 5] rfl) h
      · replace h := ite_f c19 h
        refine r_aln X dX10_records_104 rfl (lv_at hl 1 rfl) ?_
        refine r_aln X dX10_records_105 rfl (lv_at hl 1 rfl) ?_
        refine r_gi (kI := 1) X Y V ci_10 kd_118 1 rfl (by decide) rfl rfl wd_854 dX10_records_106 ?_
        refine r_ic X dX10_records_109 ?_
        refine r_isub X dX10_records_110 ?_
        refine r_ic X dX10_records_111 ?_
        obtain ⟨v22, hv22, h⟩ := bd1_ex h
        refine r_ki V (r_runV (As := [.int (iV ((σ 118 1) - 1)), .int (iV 0)]) (rest := []) X Y V (c_X10_at l G σ ((σ 118 1) - 1) 0 _  hv22) mv_X10_at wd_1008 ci_10 kd_118 ⟨rfl, rfl, Nat.le_of_ble_eq_true rfl, Nat.le_of_ble_eq_true rfl⟩ rfl rfl hl.1 (Nat.le_of_ble_eq_true rfl) ⟨Nat.le_refl 0, Nat.le_refl 0⟩ dX10_records_112) (fun H locs V => ?_)
        exact wj_X10_records_115 X Y _ r σ' σ x2 x3 v18 x6 x7 v22  (fun σ m4 m7 H locs ls V hl h => ih σ m4 m7 H locs ls V hl h) _ _ _ V (lv_sub hl [1, 2, 3, 0, 4, 5] rfl) h
    · replace h := ite_f c17 h
      exact hkx σ  _ _ _ V (lv_sub hl [0, 4] rfl) h

set_option maxRecDepth 100000 in
set_option maxHeartbeats 4000000 in
theorem wl_X10_records_171 {p : Program} {l : Launch} {e : Env} {s : State} {m : MethodId} {args : Array Value} {below : List Frame} {meth : Method} {c : Code} {G : UG} (X : uvCx p m c cX10_records 9 RX10 s args meth (Option.some Jvm.ClassFile.FieldType.int)) (Y : uvGd G s s.heap)   (r : Int) (σ' : St) (kx : St → Option (Int × St)) (hkx : ∀ (σ : St)  (H : Heap) (locs : List Loc) (ls : Array Slot), uvWo G σ s H locs → lv_has ls 9 [(0, .ref (G.2.2.1 118))] → kx σ  = some (r, σ') → W p l e { frames := 1, cells := 0, slots := 0, locals := 27 } s m args below meth c H locs 0 0 (MQ below (uvQi G r σ') args s 0 0 (uvA G)) (F0 m 209 ls [])) : ∀ (n : Nat) (σ : St) (x7 : Int) (H : Heap) (locs : List Loc) (ls : Array Slot), uvWo G σ s H locs → lv_has ls 9 [(0, .ref (G.2.2.1 118)), (7, .int (iV x7))] → lp_X10_records_171 kx n σ x7 = some (r, σ') → W p l e { frames := 1, cells := 0, slots := 0, locals := 27 } s m args below meth c H locs 0 0 (MQ below (uvQi G r σ') args s 0 0 (uvA G)) (F0 m 171 ls []) := by
  intro n
  induction n with
  | zero => intro σ x7 H locs ls V hl h; cases h
  | succ n ih =>
    intro σ x7 H locs ls V hl h
    rw [lp_X10_records_171] at h
    refine r_il X dX10_records_171 (lv_at hl 1 rfl) ?_
    refine r_ic X dX10_records_173 ?_
    refine r_iadd X dX10_records_174 ?_
    refine r_aln X dX10_records_175 rfl (lv_at hl 0 rfl) ?_
    refine r_gi (kI := 1) X Y V ci_10 kd_118 1 rfl (by decide) rfl rfl wd_854 dX10_records_176 ?_
    refine r_cge (cx := wI (x7 + 1)) (cy := wI (σ 118 1)) (tgt := 209) X rfl rfl dX10_records_179 (by decide) (fun c24 => ?_) (fun c24 => ?_)
    · replace h := ite_t c24 h
      refine r_aln X dX10_records_182 rfl (lv_at hl 0 rfl) ?_
      refine r_gr X Y V ci_10 kd_118 0 rfl rfl (by decide) rfl rfl wd_853 dX10_records_183 ?_
      refine r_bp X dX10_records_186 (by decide) ?_
      refine r_il X dX10_records_188 (lv_at hl 1 rfl) ?_
      refine r_imul X dX10_records_190 ?_
      refine r_ic X dX10_records_191 ?_
      refine r_iadd X dX10_records_192 ?_
      refine r_aln X dX10_records_193 rfl (lv_at hl 0 rfl) ?_
      refine r_il X dX10_records_194 (lv_at hl 1 rfl) ?_
      refine r_ic X dX10_records_196 ?_
      refine r_iadd X dX10_records_197 ?_
      refine r_ic X dX10_records_198 ?_
      obtain ⟨v25, hv25, h⟩ := bd1_ex h
      refine r_ki V (r_runV (As := [.int (iV (x7 + 1)), .int (iV 0)]) (rest := [.int (iV ((6 * x7) + 2)), .ref (G.2.2.1 119)]) X Y V (c_X10_at l G σ (x7 + 1) 0 _  hv25) mv_X10_at wd_1008 ci_10 kd_118 ⟨rfl, rfl, Nat.le_of_ble_eq_true rfl, Nat.le_of_ble_eq_true rfl⟩ rfl rfl hl.1 (Nat.le_of_ble_eq_true rfl) ⟨Nat.le_refl 0, Nat.le_refl 0⟩ dX10_records_199) (fun H locs V => ?_)
      obtain ⟨σ26, hσ26, hiσ26, h⟩ := wrA_ex h
      refine r_ias X Y V kd_119 ln_119 hiσ26 hσ26 dX10_records_202 (fun H locs V => ?_)
      refine r_inc (kk := 1) (lv' := [(7, .int (iV (x7 + 1))), (0, .ref (G.2.2.1 118))]) X dX10_records_203 hl rfl (by decide) rfl (fun ls hl => ?_)
      refine r_goto (tgt := 171) X dX10_records_206 (by decide) ?_
      exact ih σ26 (x7 + 1) _ _ _ V (lv_sub hl [1, 0] rfl) h
    · replace h := ite_f c24 h
      exact hkx σ  _ _ _ V (lv_sub hl [0] rfl) h

set_option maxRecDepth 100000 in
set_option maxHeartbeats 4000000 in
theorem c_X10_records (l : Launch) (G : UG) (σ : St) (a1 : Int) (a2 : Int) (a3 : Int) (r : Int) (σ' : St)  (h : f_X10_records σ a1 a2 a3 = some (r, σ')) : Met l yX10_records (.code yX10_records cX10_records 9 (Option.some Jvm.ClassFile.FieldType.int) :: TB) { frames := 1, cells := 0, slots := 0, locals := 27 } (uvPc G σ [.ref (G.2.2.1 118), .int (iV a1), .int (iV a2), .int (iV a3)]) (uvQi G r σ') 0 0 (uvA G) := by
  unfold f_X10_records at h
  refine r_met (own := RX10) (lv := [(0, .ref (G.2.2.1 118)), (1, .int (iV a1)), (2, .int (iV a2)), (3, .int (iV a3))]) (by decide) rfl (Nat.le_of_ble_eq_true rfl) rfl ?_
  intro p e s m below meth c ls X Y V hl
  have go : ∀ (args : Array Value) (H : Heap) (locs : List Loc), uvCx p m c cX10_records 9 RX10 s args meth (Option.some Jvm.ClassFile.FieldType.int) → uvWo G σ s H locs → W p l e { frames := 1, cells := 0, slots := 0, locals := 27 } s m args below meth c H locs 0 0 (MQ below (uvQi G r σ') args s 0 0 (uvA G)) (F0 m 0 ls []) := by
    intro args H locs X V
    refine r_iln X dX10_records_0 rfl (lv_at hl 1 rfl) ?_
    refine r_i2l X dX10_records_1 ?_
    refine r_lc (v := 0) X dX10_records_2 rfl ?_
    refine r_ldc2 X (n := 999999) wd_1004 (by decide) dX10_records_3 ?_
    refine r_kz V (r_runS (As := [.long (lV (i2lI a1)), .long (lV 0), .long (lV 999999)]) (rest := []) X Y V (c_X10_in l G σ (i2lI a1) 0 999999 _  rfl) ms_X10_in wd_982 ⟨rfl, rfl, Nat.le_of_ble_eq_true rfl, Nat.le_of_ble_eq_true rfl⟩ rfl rfl hl.1 (Nat.le_of_ble_eq_true rfl) ⟨Nat.le_refl 0, Nat.le_refl 0⟩ dX10_records_6) (fun H locs V z1 => ?_)
    refine r_eq (cx := (f_X10_in (i2lI a1) 0 999999)) (tgt := 36) X (wI_01 z1) dX10_records_9 (by decide) (fun c2 => ?_) (fun c2 => ?_)
    · replace h := ite_t c2 h
      refine r_aln X dX10_records_36 rfl (lv_at hl 0 rfl) ?_
      refine r_bp X dX10_records_37 (by decide) ?_
      obtain ⟨v3, σ4, hv3, h⟩ := bd2_ex h
      refine r_ki V (r_runV (As := [.int (iV (-2))]) (rest := []) X Y V (c_X10_bad l G σ (-2) _ _  hv3) mv_X10_bad wd_988 ci_10 kd_118 ⟨rfl, rfl, Nat.le_of_ble_eq_true rfl, Nat.le_of_ble_eq_true rfl⟩ rfl rfl hl.1 (Nat.le_of_ble_eq_true rfl) ⟨Nat.le_refl 0, Nat.le_refl 0⟩ dX10_records_39) (fun H locs V => ?_)
      exact r_ri X V (so2 h).1 (so2 h).2 dX10_records_42
    · replace h := ite_f c2 h
      refine r_iln X dX10_records_12 rfl (lv_at hl 2 rfl) ?_
      refine r_i2l X dX10_records_13 ?_
      refine r_lc (v := 1) X dX10_records_14 rfl ?_
      refine r_ldc2 X (n := 9) wd_986 (by decide) dX10_records_15 ?_
      refine r_kz V (r_runS (As := [.long (lV (i2lI a2)), .long (lV 1), .long (lV 9)]) (rest := []) X Y V (c_X10_in l G σ (i2lI a2) 1 9 _  rfl) ms_X10_in wd_982 ⟨rfl, rfl, Nat.le_of_ble_eq_true rfl, Nat.le_of_ble_eq_true rfl⟩ rfl rfl hl.1 (Nat.le_of_ble_eq_true rfl) ⟨Nat.le_refl 0, Nat.le_refl 0⟩ dX10_records_18) (fun H locs V z5 => ?_)
      refine r_eq (cx := (f_X10_in (i2lI a2) 1 9)) (tgt := 36) X (wI_01 z5) dX10_records_21 (by decide) (fun c6 => ?_) (fun c6 => ?_)
      · replace h := ite_t c6 h
        refine r_aln X dX10_records_36 rfl (lv_at hl 0 rfl) ?_
        refine r_bp X dX10_records_37 (by decide) ?_
        obtain ⟨v7, σ8, hv7, h⟩ := bd2_ex h
        refine r_ki V (r_runV (As := [.int (iV (-2))]) (rest := []) X Y V (c_X10_bad l G σ (-2) _ _  hv7) mv_X10_bad wd_988 ci_10 kd_118 ⟨rfl, rfl, Nat.le_of_ble_eq_true rfl, Nat.le_of_ble_eq_true rfl⟩ rfl rfl hl.1 (Nat.le_of_ble_eq_true rfl) ⟨Nat.le_refl 0, Nat.le_refl 0⟩ dX10_records_39) (fun H locs V => ?_)
        exact r_ri X V (so2 h).1 (so2 h).2 dX10_records_42
      · replace h := ite_f c6 h
        refine r_iln X dX10_records_24 rfl (lv_at hl 3 rfl) ?_
        refine r_i2l X dX10_records_25 ?_
        refine r_lc (v := 0) X dX10_records_26 rfl ?_
        refine r_ldc2 X (n := 3) wd_987 (by decide) dX10_records_27 ?_
        refine r_kz V (r_runS (As := [.long (lV (i2lI a3)), .long (lV 0), .long (lV 3)]) (rest := []) X Y V (c_X10_in l G σ (i2lI a3) 0 3 _  rfl) ms_X10_in wd_982 ⟨rfl, rfl, Nat.le_of_ble_eq_true rfl, Nat.le_of_ble_eq_true rfl⟩ rfl rfl hl.1 (Nat.le_of_ble_eq_true rfl) ⟨Nat.le_refl 0, Nat.le_refl 0⟩ dX10_records_30) (fun H locs V z9 => ?_)
        refine r_ne (cx := (f_X10_in (i2lI a3) 0 3)) (tgt := 43) X (wI_01 z9) dX10_records_33 (by decide) (fun c10 => ?_) (fun c10 => ?_)
        · replace h := ite_t c10 h
          refine r_aln X dX10_records_36 rfl (lv_at hl 0 rfl) ?_
          refine r_bp X dX10_records_37 (by decide) ?_
          obtain ⟨v11, σ12, hv11, h⟩ := bd2_ex h
          refine r_ki V (r_runV (As := [.int (iV (-2))]) (rest := []) X Y V (c_X10_bad l G σ (-2) _ _  hv11) mv_X10_bad wd_988 ci_10 kd_118 ⟨rfl, rfl, Nat.le_of_ble_eq_true rfl, Nat.le_of_ble_eq_true rfl⟩ rfl rfl hl.1 (Nat.le_of_ble_eq_true rfl) ⟨Nat.le_refl 0, Nat.le_refl 0⟩ dX10_records_39) (fun H locs V => ?_)
          exact r_ri X V (so2 h).1 (so2 h).2 dX10_records_42
        · replace h := ite_f c10 h
          refine r_aln X dX10_records_43 rfl (lv_at hl 0 rfl) ?_
          refine r_gi (kI := 1) X Y V ci_10 kd_118 1 rfl (by decide) rfl rfl wd_854 dX10_records_44 ?_
          refine r_iln X dX10_records_47 rfl (lv_at hl 2 rfl) ?_
          refine r_iadd X dX10_records_48 ?_
          refine r_bp X dX10_records_49 (by decide) ?_
          refine r_cle (cx := wI ((σ 118 1) + a2)) (cy := 40) (tgt := 59) X rfl rfl dX10_records_51 (by decide) (fun c13 => ?_) (fun c13 => ?_)
          · replace h := ite_t c13 h
            refine r_aln X dX10_records_54 rfl (lv_at hl 0 rfl) ?_
            obtain ⟨v14, σ15, hv14, h⟩ := bd2_ex h
            refine r_ki V (r_runV (As := []) (rest := []) X Y V (c_X10_full l G σ  _ _  hv14) mv_X10_full wd_992 ci_10 kd_118 ⟨rfl, rfl, Nat.le_of_ble_eq_true rfl, Nat.le_of_ble_eq_true rfl⟩ rfl rfl hl.1 (Nat.le_of_ble_eq_true rfl) ⟨Nat.le_refl 0, Nat.le_refl 0⟩ dX10_records_55) (fun H locs V => ?_)
            exact r_ri X V (so2 h).1 (so2 h).2 dX10_records_58
          · replace h := ite_f c13 h
            refine r_iln X dX10_records_59 rfl (lv_at hl 1 rfl) ?_
            refine r_i2l X dX10_records_60 ?_
            obtain ⟨v16, hv16, h⟩ := bnd_ex h
            refine r_eqL hv16 ?_
            refine r_ls (lv' := [(4, .long (lV v16)), (0, .ref (G.2.2.1 118)), (1, .int (iV a1)), (2, .int (iV a2)), (3, .int (iV a3))]) X dX10_records_61 hl (by decide) rfl (fun ls hl => ?_)
            refine r_aln X dX10_records_63 rfl (lv_at hl 1 rfl) ?_
            refine r_gi (kI := 1) X Y V ci_10 kd_118 1 rfl (by decide) rfl rfl wd_854 dX10_records_64 ?_
            refine r_is (lv' := [(6, .int (iV (σ 118 1))), (4, .long (lV v16)), (0, .ref (G.2.2.1 118)), (1, .int (iV a1)), (2, .int (iV a2)), (3, .int (iV a3))]) X dX10_records_67 hl (by decide) rfl (fun ls hl => ?_)
            refine r_ic X dX10_records_69 ?_
            refine r_is (lv' := [(7, .int (iV 0)), (6, .int (iV (σ 118 1))), (4, .long (lV v16)), (0, .ref (G.2.2.1 118)), (1, .int (iV a1)), (2, .int (iV a2)), (3, .int (iV a3))]) X dX10_records_70 hl (by decide) rfl (fun ls hl => ?_)
            refine wl_X10_records_72 X Y a2 a3 (σ 118 1)  r σ' _ (fun σ23  H locs ls V hl h => ?_) 1000 σ v16 0 _ _ _ V (lv_sub hl [3, 5, 6, 2, 1, 0] rfl) h
            refine r_il X dX10_records_167 (lv_at hl 1 rfl) ?_
            refine r_is (lv' := [(7, .int (iV (σ 118 1))), (0, .ref (G.2.2.1 118)), (6, .int (iV (σ 118 1)))]) X dX10_records_169 hl (by decide) rfl (fun ls hl => ?_)
            refine wl_X10_records_171 X Y   r σ' _ (fun σ27  H locs ls V hl h => ?_) 1000 σ23 (σ 118 1) _ _ _ V (lv_sub hl [1, 0] rfl) h
            refine r_aln X dX10_records_209 rfl (lv_at hl 0 rfl) ?_
            refine r_gi (kI := 1) X Y V ci_10 kd_118 1 rfl (by decide) rfl rfl wd_854 dX10_records_210 ?_
            exact r_ri X V (so2 h).1 (so2 h).2 dX10_records_213
  exact go _ _ _ X V

set_option maxRecDepth 100000 in
set_option maxHeartbeats 4000000 in
theorem wl_X10_nextOf_4 {p : Program} {l : Launch} {e : Env} {s : State} {m : MethodId} {args : Array Value} {below : List Frame} {meth : Method} {c : Code} {G : UG} (X : uvCx p m c cX10_nextOf 3 RX10 s args meth (Option.some Jvm.ClassFile.FieldType.int)) (Y : uvGd G s s.heap) (σ0 : St) (x1 : Int)  (r : Int) (kx : Option Int) (hkx : ∀  (H : Heap) (locs : List Loc) (ls : Array Slot), uvWo G σ0 s H locs → lv_has ls 3 [] → kx  = some r → W p l e { frames := 1, cells := 0, slots := 0, locals := 22 } s m args below meth c H locs 0 0 (MQ below (uvQi G r σ0) args s 0 0 (uvA G)) (F0 m 35 ls [])) : ∀ (n : Nat) (x2 : Int) (H : Heap) (locs : List Loc) (ls : Array Slot), uvWo G σ0 s H locs → lv_has ls 3 [(0, .ref (G.2.2.1 118)), (1, .int (iV x1)), (2, .int (iV x2))] → lp_X10_nextOf_4 σ0 x1 kx n x2 = some r → W p l e { frames := 1, cells := 0, slots := 0, locals := 22 } s m args below meth c H locs 0 0 (MQ below (uvQi G r σ0) args s 0 0 (uvA G)) (F0 m 4 ls []) := by
  intro n
  induction n with
  | zero => intro x2 H locs ls V hl h; cases h
  | succ n ih =>
    intro x2 H locs ls V hl h
    rw [lp_X10_nextOf_4] at h
    refine r_iln X dX10_nextOf_4 rfl (lv_at hl 2 rfl) ?_
    refine r_aln X dX10_nextOf_5 rfl (lv_at hl 0 rfl) ?_
    refine r_gi (kI := 1) X Y V ci_10 kd_118 1 rfl (by decide) rfl rfl wd_854 dX10_nextOf_6 ?_
    refine r_cge (cx := wI x2) (cy := wI (σ0 118 1)) (tgt := 35) X rfl rfl dX10_nextOf_9 (by decide) (fun c2 => ?_) (fun c2 => ?_)
    · replace h := ite_t c2 h
      refine r_aln X dX10_nextOf_12 rfl (lv_at hl 0 rfl) ?_
      refine r_iln X dX10_nextOf_13 rfl (lv_at hl 2 rfl) ?_
      refine r_ic X dX10_nextOf_14 ?_
      obtain ⟨v3, hv3, h⟩ := bd1_ex h
      refine r_ki V (r_runV (As := [.int (iV x2), .int (iV 5)]) (rest := []) X Y V (c_X10_at l G σ0 x2 5 _  hv3) mv_X10_at wd_1008 ci_10 kd_118 ⟨rfl, rfl, Nat.le_of_ble_eq_true rfl, Nat.le_of_ble_eq_true rfl⟩ rfl rfl hl.1 (Nat.le_of_ble_eq_true rfl) ⟨Nat.le_refl 0, Nat.le_refl 0⟩ dX10_nextOf_15) (fun H locs V => ?_)
      refine r_aln X dX10_nextOf_18 rfl (lv_at hl 0 rfl) ?_
      refine r_iln X dX10_nextOf_19 rfl (lv_at hl 1 rfl) ?_
      refine r_ic X dX10_nextOf_20 ?_
      obtain ⟨v4, hv4, h⟩ := bd1_ex h
      refine r_ki V (r_runV (As := [.int (iV x1), .int (iV 5)]) (rest := [.int (iV v3)]) X Y V (c_X10_at l G σ0 x1 5 _  hv4) mv_X10_at wd_1008 ci_10 kd_118 ⟨rfl, rfl, Nat.le_of_ble_eq_true rfl, Nat.le_of_ble_eq_true rfl⟩ rfl rfl hl.1 (Nat.le_of_ble_eq_true rfl) ⟨Nat.le_refl 0, Nat.le_refl 0⟩ dX10_nextOf_21) (fun H locs V => ?_)
      refine r_cne (cx := wI v3) (cy := wI v4) (tgt := 29) X rfl rfl dX10_nextOf_24 (by decide) (fun c5 => ?_) (fun c5 => ?_)
      · replace h := ite_t c5 h
        refine r_iln X dX10_nextOf_27 rfl (lv_at hl 2 rfl) ?_
        exact r_ri X V (so1 h) rfl dX10_nextOf_28
      · replace h := ite_f c5 h
        refine r_inc (kk := 2) (lv' := [(2, .int (iV (x2 + 1))), (0, .ref (G.2.2.1 118)), (1, .int (iV x1))]) X dX10_nextOf_29 hl rfl (by decide) rfl (fun ls hl => ?_)
        refine r_goto (tgt := 4) X dX10_nextOf_32 (by decide) ?_
        exact ih (x2 + 1) _ _ _ V (lv_sub hl [1, 2, 0] rfl) h
    · replace h := ite_f c2 h
      exact hkx  _ _ _ V (lv_sub hl [] rfl) h

set_option maxRecDepth 100000 in
set_option maxHeartbeats 4000000 in
theorem c_X10_nextOf (l : Launch) (G : UG) (σ0 : St) (a1 : Int) (r : Int)  (h : f_X10_nextOf σ0 a1 = some r) : Met l yX10_nextOf (.code yX10_nextOf cX10_nextOf 3 (Option.some Jvm.ClassFile.FieldType.int) :: TB) { frames := 1, cells := 0, slots := 0, locals := 22 } (uvPc G σ0 [.ref (G.2.2.1 118), .int (iV a1)]) (uvQi G r σ0) 0 0 (uvA G) := by
  unfold f_X10_nextOf at h
  refine r_met (own := RX10) (lv := [(0, .ref (G.2.2.1 118)), (1, .int (iV a1))]) (by decide) rfl (Nat.le_of_ble_eq_true rfl) rfl ?_
  intro p e s m below meth c ls X Y V hl
  have go : ∀ (args : Array Value) (H : Heap) (locs : List Loc), uvCx p m c cX10_nextOf 3 RX10 s args meth (Option.some Jvm.ClassFile.FieldType.int) → uvWo G σ0 s H locs → W p l e { frames := 1, cells := 0, slots := 0, locals := 22 } s m args below meth c H locs 0 0 (MQ below (uvQi G r σ0) args s 0 0 (uvA G)) (F0 m 0 ls []) := by
    intro args H locs X V
    refine r_iln X dX10_nextOf_0 rfl (lv_at hl 1 rfl) ?_
    refine r_ic X dX10_nextOf_1 ?_
    refine r_iadd X dX10_nextOf_2 ?_
    obtain ⟨v1, hv1, h⟩ := bnd_ex h
    refine r_eqI hv1 ?_
    refine r_isn (lv' := [(2, .int (iV v1)), (0, .ref (G.2.2.1 118)), (1, .int (iV a1))]) X dX10_nextOf_3 rfl hl (by decide) rfl (fun ls hl => ?_)
    refine wl_X10_nextOf_4 X Y σ0 a1  r _ (fun  H locs ls V hl h => ?_) 1000 v1 _ _ _ V (lv_sub hl [1, 2, 0] rfl) h
    refine r_ic X dX10_nextOf_35 ?_
    exact r_ri X V (so1 h) rfl dX10_nextOf_36
  exact go _ _ _ X V

set_option maxRecDepth 100000 in
set_option maxHeartbeats 4000000 in
theorem c_X10_of (l : Launch) (G : UG) (σ : St) (a1 : Int) (a2 : Int) (r : Int) (σ' : St)  (h : f_X10_of σ a1 a2 = some (r, σ')) : Met l yX10_of (.code yX10_of cX10_of 3 (Option.some Jvm.ClassFile.FieldType.int) :: TB) { frames := 2, cells := 0, slots := 0, locals := 46 } (uvPc G σ [.ref (G.2.2.1 118), .int (iV a1), .int (iV a2)]) (uvQi G r σ') 0 0 (uvA G) := by
  unfold f_X10_of at h
  refine r_met (own := RX10) (lv := [(0, .ref (G.2.2.1 118)), (1, .int (iV a1)), (2, .int (iV a2))]) (by decide) rfl (Nat.le_of_ble_eq_true rfl) rfl ?_
  intro p e s m below meth c ls X Y V hl
  have go : ∀ (args : Array Value) (H : Heap) (locs : List Loc), uvCx p m c cX10_of 3 RX10 s args meth (Option.some Jvm.ClassFile.FieldType.int) → uvWo G σ s H locs → W p l e { frames := 2, cells := 0, slots := 0, locals := 46 } s m args below meth c H locs 0 0 (MQ below (uvQi G r σ') args s 0 0 (uvA G)) (F0 m 0 ls []) := by
    intro args H locs X V
    refine r_aln X dX10_of_0 rfl (lv_at hl 0 rfl) ?_
    refine r_iln X dX10_of_1 rfl (lv_at hl 1 rfl) ?_
    refine r_kz V (r_runV (As := [.int (iV a1)]) (rest := []) X Y V (c_X10_isUnit l G σ a1 _  rfl) mv_X10_isUnit wd_1020 ci_10 kd_118 ⟨rfl, rfl, Nat.le_of_ble_eq_true rfl, Nat.le_of_ble_eq_true rfl⟩ rfl rfl hl.1 (Nat.le_of_ble_eq_true rfl) ⟨Nat.le_refl 0, Nat.le_refl 0⟩ dX10_of_2) (fun H locs V z1 => ?_)
    refine r_eq (cx := (f_X10_isUnit σ a1)) (tgt := 20) X (wI_01 z1) dX10_of_5 (by decide) (fun c2 => ?_) (fun c2 => ?_)
    · replace h := ite_t c2 h
      refine r_aln X dX10_of_20 rfl (lv_at hl 0 rfl) ?_
      refine r_bp X dX10_of_21 (by decide) ?_
      obtain ⟨v3, σ4, hv3, h⟩ := bd2_ex h
      refine r_ki V (r_runV (As := [.int (iV (-2))]) (rest := []) X Y V (c_X10_bad l G σ (-2) _ _  hv3) mv_X10_bad wd_988 ci_10 kd_118 ⟨rfl, rfl, Nat.le_of_ble_eq_true rfl, Nat.le_of_ble_eq_true rfl⟩ rfl rfl hl.1 (Nat.le_of_ble_eq_true rfl) ⟨Nat.le_refl 0, Nat.le_refl 0⟩ dX10_of_23) (fun H locs V => ?_)
      exact r_ri X V (so2 h).1 (so2 h).2 dX10_of_26
    · replace h := ite_f c2 h
      refine r_iln X dX10_of_8 rfl (lv_at hl 2 rfl) ?_
      refine r_i2l X dX10_of_9 ?_
      refine r_lc (v := 0) X dX10_of_10 rfl ?_
      refine r_ldc2 X (n := 6) wd_985 (by decide) dX10_of_11 ?_
      refine r_kz V (r_runS (As := [.long (lV (i2lI a2)), .long (lV 0), .long (lV 6)]) (rest := []) X Y V (c_X10_in l G σ (i2lI a2) 0 6 _  rfl) ms_X10_in wd_982 ⟨rfl, rfl, Nat.le_of_ble_eq_true rfl, Nat.le_of_ble_eq_true rfl⟩ rfl rfl hl.1 (Nat.le_of_ble_eq_true rfl) ⟨Nat.le_refl 0, Nat.le_refl 0⟩ dX10_of_14) (fun H locs V z5 => ?_)
      refine r_ne (cx := (f_X10_in (i2lI a2) 0 6)) (tgt := 27) X (wI_01 z5) dX10_of_17 (by decide) (fun c6 => ?_) (fun c6 => ?_)
      · replace h := ite_t c6 h
        refine r_aln X dX10_of_20 rfl (lv_at hl 0 rfl) ?_
        refine r_bp X dX10_of_21 (by decide) ?_
        obtain ⟨v7, σ8, hv7, h⟩ := bd2_ex h
        refine r_ki V (r_runV (As := [.int (iV (-2))]) (rest := []) X Y V (c_X10_bad l G σ (-2) _ _  hv7) mv_X10_bad wd_988 ci_10 kd_118 ⟨rfl, rfl, Nat.le_of_ble_eq_true rfl, Nat.le_of_ble_eq_true rfl⟩ rfl rfl hl.1 (Nat.le_of_ble_eq_true rfl) ⟨Nat.le_refl 0, Nat.le_refl 0⟩ dX10_of_23) (fun H locs V => ?_)
        exact r_ri X V (so2 h).1 (so2 h).2 dX10_of_26
      · replace h := ite_f c6 h
        refine r_iln X dX10_of_27 rfl (lv_at hl 2 rfl) ?_
        refine r_bp X dX10_of_28 (by decide) ?_
        refine r_cne (cx := wI a2) (cy := 6) (tgt := 41) X rfl rfl dX10_of_30 (by decide) (fun c9 => ?_) (fun c9 => ?_)
        · replace h := ite_t c9 h
          refine r_aln X dX10_of_33 rfl (lv_at hl 0 rfl) ?_
          refine r_iln X dX10_of_34 rfl (lv_at hl 1 rfl) ?_
          obtain ⟨v10, hv10, h⟩ := bd1_ex h
          refine r_ki V (r_runV (As := [.int (iV a1)]) (rest := []) X Y V (c_X10_nextOf l G σ a1 _  hv10) mv_X10_nextOf wd_1024 ci_10 kd_118 ⟨rfl, rfl, Nat.le_of_ble_eq_true rfl, Nat.le_of_ble_eq_true rfl⟩ rfl rfl hl.1 (Nat.le_of_ble_eq_true rfl) ⟨Nat.le_refl 0, Nat.le_refl 0⟩ dX10_of_35) (fun H locs V => ?_)
          refine r_goto (tgt := 47) X dX10_of_38 (by decide) ?_
          exact r_ri X V (so2 h).1 (so2 h).2 dX10_of_47
        · replace h := ite_f c9 h
          refine r_aln X dX10_of_41 rfl (lv_at hl 0 rfl) ?_
          refine r_iln X dX10_of_42 rfl (lv_at hl 1 rfl) ?_
          refine r_iln X dX10_of_43 rfl (lv_at hl 2 rfl) ?_
          obtain ⟨v11, hv11, h⟩ := bd1_ex h
          refine r_ki V (r_runV (As := [.int (iV a1), .int (iV a2)]) (rest := []) X Y V (c_X10_at l G σ a1 a2 _  hv11) mv_X10_at wd_1008 ci_10 kd_118 ⟨rfl, rfl, Nat.le_of_ble_eq_true rfl, Nat.le_of_ble_eq_true rfl⟩ rfl rfl hl.1 (Nat.le_of_ble_eq_true rfl) ⟨Nat.le_refl 0, Nat.le_refl 0⟩ dX10_of_44) (fun H locs V => ?_)
          exact r_ri X V (so2 h).1 (so2 h).2 dX10_of_47
  exact go _ _ _ X V

set_option maxRecDepth 100000 in
set_option maxHeartbeats 4000000 in
theorem c_X10_empties (l : Launch) (G : UG) (σ : St)  (r : Int) (σ' : St)  (h : f_X10_empties σ = some (r, σ')) : Met l yX10_empties (.code yX10_empties cX10_empties 2 (Option.some Jvm.ClassFile.FieldType.int) :: TB) { frames := 0, cells := 0, slots := 0, locals := 0 } (uvPc G σ [.ref (G.2.2.1 118)]) (uvQi G r σ') 0 0 (uvA G) := by
  unfold f_X10_empties at h
  refine r_met (own := RX10) (lv := [(0, .ref (G.2.2.1 118))]) (by decide) rfl (Nat.le_of_ble_eq_true rfl) rfl ?_
  intro p e s m below meth c ls X Y V hl
  have go : ∀ (args : Array Value) (H : Heap) (locs : List Loc), uvCx p m c cX10_empties 2 RX10 s args meth (Option.some Jvm.ClassFile.FieldType.int) → uvWo G σ s H locs → W p l e { frames := 0, cells := 0, slots := 0, locals := 0 } s m args below meth c H locs 0 0 (MQ below (uvQi G r σ') args s 0 0 (uvA G)) (F0 m 0 ls []) := by
    intro args H locs X V
    refine r_aln X dX10_empties_0 rfl (lv_at hl 0 rfl) ?_
    refine r_gi (kI := 1) X Y V ci_10 kd_118 1 rfl (by decide) rfl rfl wd_854 dX10_empties_1 ?_
    refine r_isn (lv' := [(1, .int (iV (σ 118 1))), (0, .ref (G.2.2.1 118))]) X dX10_empties_4 rfl hl (by decide) rfl (fun ls hl => ?_)
    refine r_aln X dX10_empties_5 rfl (lv_at hl 1 rfl) ?_
    refine r_ic X dX10_empties_6 ?_
    obtain ⟨σ1, hσ1, h⟩ := wrF_ex h
    refine r_pi X Y V ci_10 kd_118 1 rfl (by decide) rfl rfl rfl (tyX10_ok 1 (by decide)) wd_854 hσ1 dX10_empties_7 (fun H locs V => ?_)
    refine r_iln X dX10_empties_10 rfl (lv_at hl 0 rfl) ?_
    exact r_ri X V (so2 h).1 (so2 h).2 dX10_empties_11
  exact go _ _ _ X V

set_option maxRecDepth 100000 in
set_option maxHeartbeats 4000000 in
theorem c_X10_other (l : Launch) (G : UG) (σ : St) (a1 : Int) (a2 : Int) (r : Int) (σ' : St)  (h : f_X10_other σ a1 a2 = some (r, σ')) : Met l yX10_other (.code yX10_other cX10_other 4 (Option.some Jvm.ClassFile.FieldType.int) :: TB) { frames := 2, cells := 0, slots := 0, locals := 45 } (uvPc G σ [.ref (G.2.2.1 118), .int (iV a1), .int (iV a2)]) (uvQi G r σ') 0 0 (uvA G) := by
  unfold f_X10_other at h
  refine r_met (own := RX10) (lv := [(0, .ref (G.2.2.1 118)), (1, .int (iV a1)), (2, .int (iV a2))]) (by decide) rfl (Nat.le_of_ble_eq_true rfl) rfl ?_
  intro p e s m below meth c ls X Y V hl
  have go : ∀ (args : Array Value) (H : Heap) (locs : List Loc), uvCx p m c cX10_other 4 RX10 s args meth (Option.some Jvm.ClassFile.FieldType.int) → uvWo G σ s H locs → W p l e { frames := 2, cells := 0, slots := 0, locals := 45 } s m args below meth c H locs 0 0 (MQ below (uvQi G r σ') args s 0 0 (uvA G)) (F0 m 0 ls []) := by
    intro args H locs X V
    refine r_iln X dX10_other_0 rfl (lv_at hl 1 rfl) ?_
    refine r_kz V (r_runS (As := [.int (iV a1)]) (rest := []) X Y V (c_X10_isSound l G σ a1 _  rfl) ms_X10_isSound wd_978 ⟨rfl, rfl, Nat.le_of_ble_eq_true rfl, Nat.le_of_ble_eq_true rfl⟩ rfl rfl hl.1 (Nat.le_of_ble_eq_true rfl) ⟨Nat.le_refl 0, Nat.le_refl 0⟩ dX10_other_1) (fun H locs V z1 => ?_)
    refine r_eq (cx := (f_X10_isSound a1)) (tgt := 14) X (wI_01 z1) dX10_other_4 (by decide) (fun c2 => ?_) (fun c2 => ?_)
    · replace h := ite_t c2 h
      refine r_aln X dX10_other_14 rfl (lv_at hl 0 rfl) ?_
      refine r_bp X dX10_other_15 (by decide) ?_
      obtain ⟨v3, σ4, hv3, h⟩ := bd2_ex h
      refine r_ki V (r_runV (As := [.int (iV (-2))]) (rest := []) X Y V (c_X10_bad l G σ (-2) _ _  hv3) mv_X10_bad wd_988 ci_10 kd_118 ⟨rfl, rfl, Nat.le_of_ble_eq_true rfl, Nat.le_of_ble_eq_true rfl⟩ rfl rfl hl.1 (Nat.le_of_ble_eq_true rfl) ⟨Nat.le_refl 0, Nat.le_refl 0⟩ dX10_other_17) (fun H locs V => ?_)
      exact r_ri X V (so2 h).1 (so2 h).2 dX10_other_20
    · replace h := ite_f c2 h
      refine r_iln X dX10_other_7 rfl (lv_at hl 2 rfl) ?_
      refine r_kz V (r_runS (As := [.int (iV a2)]) (rest := []) X Y V (c_X10_isSound l G σ a2 _  rfl) ms_X10_isSound wd_978 ⟨rfl, rfl, Nat.le_of_ble_eq_true rfl, Nat.le_of_ble_eq_true rfl⟩ rfl rfl hl.1 (Nat.le_of_ble_eq_true rfl) ⟨Nat.le_refl 0, Nat.le_refl 0⟩ dX10_other_8) (fun H locs V z5 => ?_)
      refine r_ne (cx := (f_X10_isSound a2)) (tgt := 21) X (wI_01 z5) dX10_other_11 (by decide) (fun c6 => ?_) (fun c6 => ?_)
      · replace h := ite_t c6 h
        refine r_aln X dX10_other_14 rfl (lv_at hl 0 rfl) ?_
        refine r_bp X dX10_other_15 (by decide) ?_
        obtain ⟨v7, σ8, hv7, h⟩ := bd2_ex h
        refine r_ki V (r_runV (As := [.int (iV (-2))]) (rest := []) X Y V (c_X10_bad l G σ (-2) _ _  hv7) mv_X10_bad wd_988 ci_10 kd_118 ⟨rfl, rfl, Nat.le_of_ble_eq_true rfl, Nat.le_of_ble_eq_true rfl⟩ rfl rfl hl.1 (Nat.le_of_ble_eq_true rfl) ⟨Nat.le_refl 0, Nat.le_refl 0⟩ dX10_other_17) (fun H locs V => ?_)
        exact r_ri X V (so2 h).1 (so2 h).2 dX10_other_20
      · replace h := ite_f c6 h
        refine r_aln X dX10_other_21 rfl (lv_at hl 0 rfl) ?_
        refine r_gr X Y V ci_10 kd_118 4 rfl rfl (by decide) rfl rfl wd_857 dX10_other_22 ?_
        refine r_iln X dX10_other_25 rfl (lv_at hl 1 rfl) ?_
        obtain ⟨v9, hv9, hiv9, h⟩ := rdA_ex h
        refine r_ial X Y V kd_121 ln_121 hiv9 hv9 dX10_other_26 ?_
        refine r_isn (lv' := [(3, .int (iV v9)), (0, .ref (G.2.2.1 118)), (1, .int (iV a1)), (2, .int (iV a2))]) X dX10_other_27 rfl hl (by decide) rfl (fun ls hl => ?_)
        refine r_aln X dX10_other_28 rfl (lv_at hl 1 rfl) ?_
        refine r_gr X Y V ci_10 kd_118 4 rfl rfl (by decide) rfl rfl wd_857 dX10_other_29 ?_
        refine r_iln X dX10_other_32 rfl (lv_at hl 2 rfl) ?_
        refine r_iln X dX10_other_33 rfl (lv_at hl 3 rfl) ?_
        obtain ⟨σ10, hσ10, hiσ10, h⟩ := wrA_ex h
        refine r_ias X Y V kd_121 ln_121 hiσ10 hσ10 dX10_other_34 (fun H locs V => ?_)
        refine r_iln X dX10_other_35 rfl (lv_at hl 0 rfl) ?_
        exact r_ri X V (so2 h).1 (so2 h).2 dX10_other_36
  exact go _ _ _ X V

set_option maxRecDepth 100000 in
set_option maxHeartbeats 4000000 in
theorem c_X10_fitter (l : Launch) (G : UG) (σ : St) (a1 : Int) (r : Int) (σ' : St)  (h : f_X10_fitter σ a1 = some (r, σ')) : Met l yX10_fitter (.code yX10_fitter cX10_fitter 3 (Option.some Jvm.ClassFile.FieldType.int) :: TB) { frames := 1, cells := 0, slots := 0, locals := 25 } (uvPc G σ [.ref (G.2.2.1 118), .int (iV a1)]) (uvQi G r σ') 0 0 (uvA G) := by
  unfold f_X10_fitter at h
  refine r_met (own := RX10) (lv := [(0, .ref (G.2.2.1 118)), (1, .int (iV a1))]) (by decide) rfl (Nat.le_of_ble_eq_true rfl) rfl ?_
  intro p e s m below meth c ls X Y V hl
  have go : ∀ (args : Array Value) (H : Heap) (locs : List Loc), uvCx p m c cX10_fitter 3 RX10 s args meth (Option.some Jvm.ClassFile.FieldType.int) → uvWo G σ s H locs → W p l e { frames := 1, cells := 0, slots := 0, locals := 25 } s m args below meth c H locs 0 0 (MQ below (uvQi G r σ') args s 0 0 (uvA G)) (F0 m 0 ls []) := by
    intro args H locs X V
    refine r_iln X dX10_fitter_0 rfl (lv_at hl 1 rfl) ?_
    refine r_i2l X dX10_fitter_1 ?_
    refine r_lc (v := 0) X dX10_fitter_2 rfl ?_
    refine r_ldc2 X (n := 4) wd_1040 (by decide) dX10_fitter_3 ?_
    refine r_kz V (r_runS (As := [.long (lV (i2lI a1)), .long (lV 0), .long (lV 4)]) (rest := []) X Y V (c_X10_in l G σ (i2lI a1) 0 4 _  rfl) ms_X10_in wd_982 ⟨rfl, rfl, Nat.le_of_ble_eq_true rfl, Nat.le_of_ble_eq_true rfl⟩ rfl rfl hl.1 (Nat.le_of_ble_eq_true rfl) ⟨Nat.le_refl 0, Nat.le_refl 0⟩ dX10_fitter_6) (fun H locs V z1 => ?_)
    refine r_ne (cx := (f_X10_in (i2lI a1) 0 4)) (tgt := 19) X (wI_01 z1) dX10_fitter_9 (by decide) (fun c2 => ?_) (fun c2 => ?_)
    · replace h := ite_t c2 h
      refine r_aln X dX10_fitter_12 rfl (lv_at hl 0 rfl) ?_
      refine r_bp X dX10_fitter_13 (by decide) ?_
      obtain ⟨v3, σ4, hv3, h⟩ := bd2_ex h
      refine r_ki V (r_runV (As := [.int (iV (-2))]) (rest := []) X Y V (c_X10_bad l G σ (-2) _ _  hv3) mv_X10_bad wd_988 ci_10 kd_118 ⟨rfl, rfl, Nat.le_of_ble_eq_true rfl, Nat.le_of_ble_eq_true rfl⟩ rfl rfl hl.1 (Nat.le_of_ble_eq_true rfl) ⟨Nat.le_refl 0, Nat.le_refl 0⟩ dX10_fitter_15) (fun H locs V => ?_)
      exact r_ri X V (so2 h).1 (so2 h).2 dX10_fitter_18
    · replace h := ite_f c2 h
      refine r_aln X dX10_fitter_19 rfl (lv_at hl 0 rfl) ?_
      refine r_gi (kI := 5) X Y V ci_10 kd_118 5 rfl (by decide) rfl rfl wd_858 dX10_fitter_20 ?_
      refine r_isn (lv' := [(2, .int (iV (σ 118 5))), (0, .ref (G.2.2.1 118)), (1, .int (iV a1))]) X dX10_fitter_23 rfl hl (by decide) rfl (fun ls hl => ?_)
      refine r_aln X dX10_fitter_24 rfl (lv_at hl 1 rfl) ?_
      refine r_iln X dX10_fitter_25 rfl (lv_at hl 2 rfl) ?_
      obtain ⟨σ5, hσ5, h⟩ := wrF_ex h
      refine r_pi X Y V ci_10 kd_118 5 rfl (by decide) rfl rfl rfl (tyX10_ok 5 (by decide)) wd_858 hσ5 dX10_fitter_26 (fun H locs V => ?_)
      refine r_iln X dX10_fitter_29 rfl (lv_at hl 0 rfl) ?_
      exact r_ri X V (so2 h).1 (so2 h).2 dX10_fitter_30
  exact go _ _ _ X V

set_option maxRecDepth 100000 in
set_option maxHeartbeats 4000000 in
theorem c_X10_type (l : Launch) (G : UG) (σ : St) (a1 : Int) (r : Int) (σ' : St)  (h : f_X10_type σ a1 = some (r, σ')) : Met l yX10_type (.code yX10_type cX10_type 2 (Option.some Jvm.ClassFile.FieldType.int) :: TB) { frames := 1, cells := 0, slots := 0, locals := 25 } (uvPc G σ [.ref (G.2.2.1 118), .int (iV a1)]) (uvQi G r σ') 0 0 (uvA G) := by
  unfold f_X10_type at h
  refine r_met (own := RX10) (lv := [(0, .ref (G.2.2.1 118)), (1, .int (iV a1))]) (by decide) rfl (Nat.le_of_ble_eq_true rfl) rfl ?_
  intro p e s m below meth c ls X Y V hl
  have go : ∀ (args : Array Value) (H : Heap) (locs : List Loc), uvCx p m c cX10_type 2 RX10 s args meth (Option.some Jvm.ClassFile.FieldType.int) → uvWo G σ s H locs → W p l e { frames := 1, cells := 0, slots := 0, locals := 25 } s m args below meth c H locs 0 0 (MQ below (uvQi G r σ') args s 0 0 (uvA G)) (F0 m 0 ls []) := by
    intro args H locs X V
    refine r_iln X dX10_type_0 rfl (lv_at hl 1 rfl) ?_
    refine r_i2l X dX10_type_1 ?_
    refine r_lc (v := 0) X dX10_type_2 rfl ?_
    refine r_ldc2 X (n := 127) wd_1045 (by decide) dX10_type_3 ?_
    refine r_kz V (r_runS (As := [.long (lV (i2lI a1)), .long (lV 0), .long (lV 127)]) (rest := []) X Y V (c_X10_in l G σ (i2lI a1) 0 127 _  rfl) ms_X10_in wd_982 ⟨rfl, rfl, Nat.le_of_ble_eq_true rfl, Nat.le_of_ble_eq_true rfl⟩ rfl rfl hl.1 (Nat.le_of_ble_eq_true rfl) ⟨Nat.le_refl 0, Nat.le_refl 0⟩ dX10_type_6) (fun H locs V z1 => ?_)
    refine r_ne (cx := (f_X10_in (i2lI a1) 0 127)) (tgt := 19) X (wI_01 z1) dX10_type_9 (by decide) (fun c2 => ?_) (fun c2 => ?_)
    · replace h := ite_t c2 h
      refine r_aln X dX10_type_12 rfl (lv_at hl 0 rfl) ?_
      refine r_bp X dX10_type_13 (by decide) ?_
      obtain ⟨v3, σ4, hv3, h⟩ := bd2_ex h
      refine r_ki V (r_runV (As := [.int (iV (-2))]) (rest := []) X Y V (c_X10_bad l G σ (-2) _ _  hv3) mv_X10_bad wd_988 ci_10 kd_118 ⟨rfl, rfl, Nat.le_of_ble_eq_true rfl, Nat.le_of_ble_eq_true rfl⟩ rfl rfl hl.1 (Nat.le_of_ble_eq_true rfl) ⟨Nat.le_refl 0, Nat.le_refl 0⟩ dX10_type_15) (fun H locs V => ?_)
      exact r_ri X V (so2 h).1 (so2 h).2 dX10_type_18
    · replace h := ite_f c2 h
      refine r_aln X dX10_type_19 rfl (lv_at hl 0 rfl) ?_
      refine r_gi (kI := 14) X Y V ci_10 kd_118 14 rfl (by decide) rfl rfl wd_867 dX10_type_20 ?_
      refine r_bp X dX10_type_23 (by decide) ?_
      refine r_cne (cx := wI (σ 118 14)) (cy := 120) (tgt := 33) X rfl rfl dX10_type_25 (by decide) (fun c5 => ?_) (fun c5 => ?_)
      · replace h := ite_t c5 h
        refine r_aln X dX10_type_28 rfl (lv_at hl 0 rfl) ?_
        obtain ⟨v6, σ7, hv6, h⟩ := bd2_ex h
        refine r_ki V (r_runV (As := []) (rest := []) X Y V (c_X10_full l G σ  _ _  hv6) mv_X10_full wd_992 ci_10 kd_118 ⟨rfl, rfl, Nat.le_of_ble_eq_true rfl, Nat.le_of_ble_eq_true rfl⟩ rfl rfl hl.1 (Nat.le_of_ble_eq_true rfl) ⟨Nat.le_refl 0, Nat.le_refl 0⟩ dX10_type_29) (fun H locs V => ?_)
        exact r_ri X V (so2 h).1 (so2 h).2 dX10_type_32
      · replace h := ite_f c5 h
        refine r_aln X dX10_type_33 rfl (lv_at hl 0 rfl) ?_
        refine r_gr X Y V ci_10 kd_118 13 rfl rfl (by decide) rfl rfl wd_866 dX10_type_34 ?_
        refine r_aln X dX10_type_37 rfl (lv_at hl 0 rfl) ?_
        refine r_gi (kI := 14) X Y V ci_10 kd_118 14 rfl (by decide) rfl rfl wd_867 dX10_type_38 ?_
        refine r_iln X dX10_type_41 rfl (lv_at hl 1 rfl) ?_
        obtain ⟨σ8, hσ8, hiσ8, h⟩ := wrA_ex h
        refine r_ias X Y V kd_127 ln_127 hiσ8 hσ8 dX10_type_42 (fun H locs V => ?_)
        refine r_aln X dX10_type_43 rfl (lv_at hl 0 rfl) ?_
        refine r_dup X dX10_type_44 rfl ?_
        refine r_gi (kI := 14) X Y V ci_10 kd_118 14 rfl (by decide) rfl rfl wd_867 dX10_type_45 ?_
        refine r_ic X dX10_type_48 ?_
        refine r_iadd X dX10_type_49 ?_
        obtain ⟨σ9, hσ9, h⟩ := wrF_ex h
        refine r_pi X Y V ci_10 kd_118 14 rfl (by decide) rfl rfl rfl (tyX10_ok 14 (by decide)) wd_867 hσ9 dX10_type_50 (fun H locs V => ?_)
        refine r_aln X dX10_type_53 rfl (lv_at hl 0 rfl) ?_
        refine r_gi (kI := 14) X Y V ci_10 kd_118 14 rfl (by decide) rfl rfl wd_867 dX10_type_54 ?_
        exact r_ri X V (so2 h).1 (so2 h).2 dX10_type_57
  exact go _ _ _ X V

set_option maxRecDepth 100000 in
set_option maxHeartbeats 4000000 in
theorem c_X10_clear (l : Launch) (G : UG) (σ : St)  (r : Int) (σ' : St)  (h : f_X10_clear σ = some (r, σ')) : Met l yX10_clear (.code yX10_clear cX10_clear 2 (Option.some Jvm.ClassFile.FieldType.int) :: TB) { frames := 0, cells := 0, slots := 0, locals := 0 } (uvPc G σ [.ref (G.2.2.1 118)]) (uvQi G r σ') 0 0 (uvA G) := by
  unfold f_X10_clear at h
  refine r_met (own := RX10) (lv := [(0, .ref (G.2.2.1 118))]) (by decide) rfl (Nat.le_of_ble_eq_true rfl) rfl ?_
  intro p e s m below meth c ls X Y V hl
  have go : ∀ (args : Array Value) (H : Heap) (locs : List Loc), uvCx p m c cX10_clear 2 RX10 s args meth (Option.some Jvm.ClassFile.FieldType.int) → uvWo G σ s H locs → W p l e { frames := 0, cells := 0, slots := 0, locals := 0 } s m args below meth c H locs 0 0 (MQ below (uvQi G r σ') args s 0 0 (uvA G)) (F0 m 0 ls []) := by
    intro args H locs X V
    refine r_aln X dX10_clear_0 rfl (lv_at hl 0 rfl) ?_
    refine r_gi (kI := 14) X Y V ci_10 kd_118 14 rfl (by decide) rfl rfl wd_867 dX10_clear_1 ?_
    refine r_isn (lv' := [(1, .int (iV (σ 118 14))), (0, .ref (G.2.2.1 118))]) X dX10_clear_4 rfl hl (by decide) rfl (fun ls hl => ?_)
    refine r_aln X dX10_clear_5 rfl (lv_at hl 1 rfl) ?_
    refine r_ic X dX10_clear_6 ?_
    obtain ⟨σ1, hσ1, h⟩ := wrF_ex h
    refine r_pi X Y V ci_10 kd_118 14 rfl (by decide) rfl rfl rfl (tyX10_ok 14 (by decide)) wd_867 hσ1 dX10_clear_7 (fun H locs V => ?_)
    refine r_iln X dX10_clear_10 rfl (lv_at hl 0 rfl) ?_
    exact r_ri X V (so2 h).1 (so2 h).2 dX10_clear_11
  exact go _ _ _ X V

set_option maxRecDepth 100000 in
set_option maxHeartbeats 4000000 in
theorem wl_X10_here_0 {p : Program} {l : Launch} {e : Env} {s : State} {m : MethodId} {args : Array Value} {below : List Frame} {meth : Method} {c : Code} {G : UG} (X : uvCx p m c cX10_here 1 RX10 s args meth (Option.some Jvm.ClassFile.FieldType.int)) (Y : uvGd G s s.heap)   (r : Int) (σ' : St) (kx : St → Option (Int × St)) (hkx : ∀ (σ : St)  (H : Heap) (locs : List Loc) (ls : Array Slot), uvWo G σ s H locs → lv_has ls 1 [(0, .ref (G.2.2.1 118))] → kx σ  = some (r, σ') → W p l e { frames := 0, cells := 0, slots := 0, locals := 0 } s m args below meth c H locs 0 0 (MQ below (uvQi G r σ') args s 0 0 (uvA G)) (F0 m 38 ls [])) : ∀ (n : Nat) (σ : St)  (H : Heap) (locs : List Loc) (ls : Array Slot), uvWo G σ s H locs → lv_has ls 1 [(0, .ref (G.2.2.1 118))] → lp_X10_here_0 kx n σ  = some (r, σ') → W p l e { frames := 0, cells := 0, slots := 0, locals := 0 } s m args below meth c H locs 0 0 (MQ below (uvQi G r σ') args s 0 0 (uvA G)) (F0 m 0 ls []) := by
  intro n
  induction n with
  | zero => intro σ  H locs ls V hl h; cases h
  | succ n ih =>
    intro σ  H locs ls V hl h
    rw [lp_X10_here_0] at h
    refine r_aln X dX10_here_0 rfl (lv_at hl 0 rfl) ?_
    refine r_gi (kI := 15) X Y V ci_10 kd_118 15 rfl (by decide) rfl rfl wd_868 dX10_here_1 ?_
    refine r_aln X dX10_here_4 rfl (lv_at hl 0 rfl) ?_
    refine r_gi (kI := 14) X Y V ci_10 kd_118 14 rfl (by decide) rfl rfl wd_867 dX10_here_5 ?_
    refine r_cge (cx := wI (σ 118 15)) (cy := wI (σ 118 14)) (tgt := 38) X rfl rfl dX10_here_8 (by decide) (fun c1 => ?_) (fun c1 => ?_)
    · replace h := ite_t c1 h
      refine r_aln X dX10_here_11 rfl (lv_at hl 0 rfl) ?_
      refine r_gr X Y V ci_10 kd_118 13 rfl rfl (by decide) rfl rfl wd_866 dX10_here_12 ?_
      refine r_aln X dX10_here_15 rfl (lv_at hl 0 rfl) ?_
      refine r_gi (kI := 15) X Y V ci_10 kd_118 15 rfl (by decide) rfl rfl wd_868 dX10_here_16 ?_
      obtain ⟨v2, hv2, hiv2, h⟩ := rdA_ex h
      refine r_ial X Y V kd_127 ln_127 hiv2 hv2 dX10_here_19 ?_
      refine r_bp X dX10_here_20 (by decide) ?_
      refine r_cne (cx := wI v2) (cy := 32) (tgt := 38) X rfl rfl dX10_here_22 (by decide) (fun c3 => ?_) (fun c3 => ?_)
      · replace h := ite_t c3 h
        refine r_aln X dX10_here_25 rfl (lv_at hl 0 rfl) ?_
        refine r_dup X dX10_here_26 rfl ?_
        refine r_gi (kI := 15) X Y V ci_10 kd_118 15 rfl (by decide) rfl rfl wd_868 dX10_here_27 ?_
        refine r_ic X dX10_here_30 ?_
        refine r_iadd X dX10_here_31 ?_
        obtain ⟨σ4, hσ4, h⟩ := wrF_ex h
        refine r_pi X Y V ci_10 kd_118 15 rfl (by decide) rfl rfl rfl (tyX10_ok 15 (by decide)) wd_868 hσ4 dX10_here_32 (fun H locs V => ?_)
        refine r_goto (tgt := 0) X dX10_here_35 (by decide) ?_
        exact ih σ4  _ _ _ V (lv_sub hl [0] rfl) h
      · replace h := ite_f c3 h
        exact hkx σ  _ _ _ V (lv_sub hl [0] rfl) h
    · replace h := ite_f c1 h
      exact hkx σ  _ _ _ V (lv_sub hl [0] rfl) h

set_option maxRecDepth 100000 in
set_option maxHeartbeats 4000000 in
theorem wj_X10_here_38 {p : Program} {l : Launch} {e : Env} {s : State} {m : MethodId} {args : Array Value} {below : List Frame} {meth : Method} {c : Code} {G : UG} (X : uvCx p m c cX10_here 1 RX10 s args meth (Option.some Jvm.ClassFile.FieldType.int)) (Y : uvGd G s s.heap) (r : Int) (σ' : St) (σ : St)   (H : Heap) (locs : List Loc) (ls : Array Slot) (V : uvWo G σ s H locs) (hl : lv_has ls 1 [(0, .ref (G.2.2.1 118))]) (h : jn_X10_here_38 σ = some (r, σ')) : W p l e { frames := 0, cells := 0, slots := 0, locals := 0 } s m args below meth c H locs 0 0 (MQ below (uvQi G r σ') args s 0 0 (uvA G)) (F0 m 38 ls []) := by
  unfold jn_X10_here_38 at h
  refine r_aln X dX10_here_38 rfl (lv_at hl 0 rfl) ?_
  refine r_gi (kI := 15) X Y V ci_10 kd_118 15 rfl (by decide) rfl rfl wd_868 dX10_here_39 ?_
  refine r_aln X dX10_here_42 rfl (lv_at hl 0 rfl) ?_
  refine r_gi (kI := 14) X Y V ci_10 kd_118 14 rfl (by decide) rfl rfl wd_867 dX10_here_43 ?_
  refine r_cge (cx := wI (σ 118 15)) (cy := wI (σ 118 14)) (tgt := 61) X rfl rfl dX10_here_46 (by decide) (fun c6 => ?_) (fun c6 => ?_)
  · replace h := ite_t c6 h
    refine r_aln X dX10_here_49 rfl (lv_at hl 0 rfl) ?_
    refine r_gr X Y V ci_10 kd_118 13 rfl rfl (by decide) rfl rfl wd_866 dX10_here_50 ?_
    refine r_aln X dX10_here_53 rfl (lv_at hl 0 rfl) ?_
    refine r_gi (kI := 15) X Y V ci_10 kd_118 15 rfl (by decide) rfl rfl wd_868 dX10_here_54 ?_
    obtain ⟨v7, hv7, hiv7, h⟩ := rdA_ex h
    refine r_ial X Y V kd_127 ln_127 hiv7 hv7 dX10_here_57 ?_
    refine r_goto (tgt := 62) X dX10_here_58 (by decide) ?_
    exact r_ri X V (so2 h).1 (so2 h).2 dX10_here_62
  · replace h := ite_f c6 h
    refine r_ic X dX10_here_61 ?_
    exact r_ri X V (so2 h).1 (so2 h).2 dX10_here_62

set_option maxRecDepth 100000 in
set_option maxHeartbeats 4000000 in
theorem c_X10_here (l : Launch) (G : UG) (σ : St)  (r : Int) (σ' : St)  (h : f_X10_here σ = some (r, σ')) : Met l yX10_here (.code yX10_here cX10_here 1 (Option.some Jvm.ClassFile.FieldType.int) :: TB) { frames := 0, cells := 0, slots := 0, locals := 0 } (uvPc G σ [.ref (G.2.2.1 118)]) (uvQi G r σ') 0 0 (uvA G) := by
  unfold f_X10_here at h
  refine r_met (own := RX10) (lv := [(0, .ref (G.2.2.1 118))]) (by decide) rfl (Nat.le_of_ble_eq_true rfl) rfl ?_
  intro p e s m below meth c ls X Y V hl
  have go : ∀ (args : Array Value) (H : Heap) (locs : List Loc), uvCx p m c cX10_here 1 RX10 s args meth (Option.some Jvm.ClassFile.FieldType.int) → uvWo G σ s H locs → W p l e { frames := 0, cells := 0, slots := 0, locals := 0 } s m args below meth c H locs 0 0 (MQ below (uvQi G r σ') args s 0 0 (uvA G)) (F0 m 0 ls []) := by
    intro args H locs X V
    refine wl_X10_here_0 X Y   r σ' _ (fun σ5  H locs ls V hl h => ?_) 1000 σ  _ _ _ V (lv_sub hl [0] rfl) h
    exact wj_X10_here_38 X Y r σ' σ5   _ _ _ V (lv_sub hl [0] rfl) h
  exact go _ _ _ X V

set_option maxRecDepth 100000 in
set_option maxHeartbeats 4000000 in
theorem c_X10_takes (l : Launch) (G : UG) (σ : St) (a1 : Int) (a2 : Int) (r : Int) (σ' : St)  (h : f_X10_takes σ a1 a2 = some (r, σ')) : Met l yX10_takes (.code yX10_takes cX10_takes 4 (Option.some Jvm.ClassFile.FieldType.int) :: TB) { frames := 1, cells := 0, slots := 0, locals := 25 } (uvPc G σ [.ref (G.2.2.1 118), .int (iV a1), .int (iV a2)]) (uvQi G r σ') 0 0 (uvA G) := by
  unfold f_X10_takes at h
  refine r_met (own := RX10) (lv := [(0, .ref (G.2.2.1 118)), (1, .int (iV a1)), (2, .int (iV a2))]) (by decide) rfl (Nat.le_of_ble_eq_true rfl) rfl ?_
  intro p e s m below meth c ls X Y V hl
  have go : ∀ (args : Array Value) (H : Heap) (locs : List Loc), uvCx p m c cX10_takes 4 RX10 s args meth (Option.some Jvm.ClassFile.FieldType.int) → uvWo G σ s H locs → W p l e { frames := 1, cells := 0, slots := 0, locals := 25 } s m args below meth c H locs 0 0 (MQ below (uvQi G r σ') args s 0 0 (uvA G)) (F0 m 0 ls []) := by
    intro args H locs X V
    refine r_aln X dX10_takes_0 rfl (lv_at hl 0 rfl) ?_
    obtain ⟨v1, σ2, hv1, h⟩ := bd2_ex h
    refine r_ki V (r_runV (As := []) (rest := []) X Y V (c_X10_here l G σ  _ _  hv1) mv_X10_here wd_1058 ci_10 kd_118 ⟨rfl, rfl, Nat.le_of_ble_eq_true rfl, Nat.le_of_ble_eq_true rfl⟩ rfl rfl hl.1 (Nat.le_of_ble_eq_true rfl) ⟨Nat.le_refl 0, Nat.le_refl 0⟩ dX10_takes_1) (fun H locs V => ?_)
    refine r_isn (lv' := [(3, .int (iV v1)), (0, .ref (G.2.2.1 118)), (1, .int (iV a1)), (2, .int (iV a2))]) X dX10_takes_4 rfl hl (by decide) rfl (fun ls hl => ?_)
    refine r_iln X dX10_takes_5 rfl (lv_at hl 0 rfl) ?_
    refine r_i2l X dX10_takes_6 ?_
    refine r_iln X dX10_takes_7 rfl (lv_at hl 2 rfl) ?_
    refine r_i2l X dX10_takes_8 ?_
    refine r_iln X dX10_takes_9 rfl (lv_at hl 3 rfl) ?_
    refine r_i2l X dX10_takes_10 ?_
    refine r_kz V (r_runS (As := [.long (lV (i2lI v1)), .long (lV (i2lI a1)), .long (lV (i2lI a2))]) (rest := []) X Y V (c_X10_in l G σ2 (i2lI v1) (i2lI a1) (i2lI a2) _  rfl) ms_X10_in wd_982 ⟨rfl, rfl, Nat.le_of_ble_eq_true rfl, Nat.le_of_ble_eq_true rfl⟩ rfl rfl hl.1 (Nat.le_of_ble_eq_true rfl) ⟨Nat.le_refl 0, Nat.le_refl 0⟩ dX10_takes_11) (fun H locs V z3 => ?_)
    refine r_ne (cx := (f_X10_in (i2lI v1) (i2lI a1) (i2lI a2))) (tgt := 19) X (wI_01 z3) dX10_takes_14 (by decide) (fun c4 => ?_) (fun c4 => ?_)
    · replace h := ite_t c4 h
      refine r_ic X dX10_takes_17 ?_
      exact r_ri X V (so2 h).1 (so2 h).2 dX10_takes_18
    · replace h := ite_f c4 h
      refine r_aln X dX10_takes_19 rfl (lv_at hl 1 rfl) ?_
      refine r_dup X dX10_takes_20 rfl ?_
      refine r_gi (kI := 15) X Y V ci_10 kd_118 15 rfl (by decide) rfl rfl wd_868 dX10_takes_21 ?_
      refine r_ic X dX10_takes_24 ?_
      refine r_iadd X dX10_takes_25 ?_
      obtain ⟨σ5, hσ5, h⟩ := wrF_ex h
      refine r_pi X Y V ci_10 kd_118 15 rfl (by decide) rfl rfl rfl (tyX10_ok 15 (by decide)) wd_868 hσ5 dX10_takes_26 (fun H locs V => ?_)
      refine r_iln X dX10_takes_29 rfl (lv_at hl 0 rfl) ?_
      refine r_iln X dX10_takes_30 rfl (lv_at hl 2 rfl) ?_
      refine r_isub X dX10_takes_31 ?_
      exact r_ri X V (so2 h).1 (so2 h).2 dX10_takes_32
  exact go _ _ _ X V

set_option maxRecDepth 100000 in
set_option maxHeartbeats 4000000 in
theorem c_X10_letterOf (l : Launch) (G : UG) (σ0 : St) (a0 : Int) (a1 : Int) (r : Int)  (h : f_X10_letterOf a0 a1 = r) : Met l yX10_letterOf (.code yX10_letterOf cX10_letterOf 2 (Option.some Jvm.ClassFile.FieldType.int) :: TB) { frames := 0, cells := 0, slots := 0, locals := 0 } (uvPc G σ0 [.int (iV a0), .int (iV a1)]) (uvQi G r σ0) 0 0 (uvA G) := by
  unfold f_X10_letterOf at h
  refine r_met (own := RX10) (lv := [(0, .int (iV a0)), (1, .int (iV a1))]) (by decide) rfl (Nat.le_of_ble_eq_true rfl) rfl ?_
  intro p e s m below meth c ls X Y V hl
  have go : ∀ (args : Array Value) (H : Heap) (locs : List Loc), uvCx p m c cX10_letterOf 2 RX10 s args meth (Option.some Jvm.ClassFile.FieldType.int) → uvWo G σ0 s H locs → W p l e { frames := 0, cells := 0, slots := 0, locals := 0 } s m args below meth c H locs 0 0 (MQ below (uvQi G r σ0) args s 0 0 (uvA G)) (F0 m 0 ls []) := by
    intro args H locs X V
    refine r_iln X dX10_letterOf_0 rfl (lv_at hl 0 rfl) ?_
    have J1 : W p l e { frames := 0, cells := 0, slots := 0, locals := 0 } s m args below meth c H locs 0 0 (MQ below (uvQi G r σ0) args s 0 0 (uvA G)) (F0 m 49 ls [.int (iV (if wI a0 = 0 then (if wI a1 = 0 then 114 else (if wI a1 = 1 then 111 else 119)) else (if wI a1 = 0 then 116 else (if wI a1 = 1 then 114 else 101))))]) := by
      exact r_ri X V h rfl dX10_letterOf_49
    refine r_ne (cx := wI a0) (tgt := 28) X rfl dX10_letterOf_1 (by decide) (fun c2 => ?_) (fun c2 => ?_)
    · skip
      refine r_iln X dX10_letterOf_4 rfl (lv_at hl 1 rfl) ?_
      refine r_ne (cx := wI a1) (tgt := 13) X rfl dX10_letterOf_5 (by decide) (fun c3 => ?_) (fun c3 => ?_)
      · skip
        refine r_bp X dX10_letterOf_8 (by decide) ?_
        refine r_goto (tgt := 49) X dX10_letterOf_10 (by decide) ?_
        rw [if_pos c2] at J1
        rw [if_pos c3] at J1
        exact J1
      · skip
        refine r_iln X dX10_letterOf_13 rfl (lv_at hl 1 rfl) ?_
        refine r_ic X dX10_letterOf_14 ?_
        refine r_cne (cx := wI a1) (cy := 1) (tgt := 23) X rfl rfl dX10_letterOf_15 (by decide) (fun c4 => ?_) (fun c4 => ?_)
        · skip
          refine r_bp X dX10_letterOf_18 (by decide) ?_
          refine r_goto (tgt := 49) X dX10_letterOf_20 (by decide) ?_
          rw [if_pos c2] at J1
          rw [if_neg c3] at J1
          rw [if_pos c4] at J1
          exact J1
        · skip
          refine r_bp X dX10_letterOf_23 (by decide) ?_
          refine r_goto (tgt := 49) X dX10_letterOf_25 (by decide) ?_
          rw [if_pos c2] at J1
          rw [if_neg c3] at J1
          rw [if_neg c4] at J1
          exact J1
    · skip
      refine r_iln X dX10_letterOf_28 rfl (lv_at hl 1 rfl) ?_
      refine r_ne (cx := wI a1) (tgt := 37) X rfl dX10_letterOf_29 (by decide) (fun c5 => ?_) (fun c5 => ?_)
      · skip
        refine r_bp X dX10_letterOf_32 (by decide) ?_
        refine r_goto (tgt := 49) X dX10_letterOf_34 (by decide) ?_
        rw [if_neg c2] at J1
        rw [if_pos c5] at J1
        exact J1
      · skip
        refine r_iln X dX10_letterOf_37 rfl (lv_at hl 1 rfl) ?_
        refine r_ic X dX10_letterOf_38 ?_
        refine r_cne (cx := wI a1) (cy := 1) (tgt := 47) X rfl rfl dX10_letterOf_39 (by decide) (fun c6 => ?_) (fun c6 => ?_)
        · skip
          refine r_bp X dX10_letterOf_42 (by decide) ?_
          refine r_goto (tgt := 49) X dX10_letterOf_44 (by decide) ?_
          rw [if_neg c2] at J1
          rw [if_neg c5] at J1
          rw [if_pos c6] at J1
          exact J1
        · skip
          refine r_bp X dX10_letterOf_47 (by decide) ?_
          rw [if_neg c2] at J1
          rw [if_neg c5] at J1
          rw [if_neg c6] at J1
          exact J1
  exact go _ _ _ X V

set_option maxRecDepth 100000 in
set_option maxHeartbeats 4000000 in
theorem wl_X10_takesWord_25 {p : Program} {l : Launch} {e : Env} {s : State} {m : MethodId} {args : Array Value} {below : List Frame} {meth : Method} {c : Code} {G : UG} (X : uvCx p m c cX10_takesWord 5 RX10 s args meth (Option.some Jvm.ClassFile.FieldType.int)) (Y : uvGd G s s.heap) (x2 : Int) (x3 : Int)  (r : Int) (σ' : St) (kx : St → Option (Int × St)) (hkx : ∀ (σ : St)  (H : Heap) (locs : List Loc) (ls : Array Slot), uvWo G σ s H locs → lv_has ls 5 [(0, .ref (G.2.2.1 118)), (2, .int (iV x2)), (3, .int (iV x3))] → kx σ  = some (r, σ') → W p l e { frames := 1, cells := 0, slots := 0, locals := 21 } s m args below meth c H locs 0 0 (MQ below (uvQi G r σ') args s 0 0 (uvA G)) (F0 m 85 ls [])) : ∀ (n : Nat) (σ : St) (x4 : Int) (H : Heap) (locs : List Loc) (ls : Array Slot), uvWo G σ s H locs → lv_has ls 5 [(0, .ref (G.2.2.1 118)), (2, .int (iV x2)), (3, .int (iV x3)), (4, .int (iV x4))] → lp_X10_takesWord_25 x2 x3 kx n σ x4 = some (r, σ') → W p l e { frames := 1, cells := 0, slots := 0, locals := 21 } s m args below meth c H locs 0 0 (MQ below (uvQi G r σ') args s 0 0 (uvA G)) (F0 m 25 ls []) := by
  intro n
  induction n with
  | zero => intro σ x4 H locs ls V hl h; cases h
  | succ n ih =>
    intro σ x4 H locs ls V hl h
    rw [lp_X10_takesWord_25] at h
    refine r_il X dX10_takesWord_25 (lv_at hl 3 rfl) ?_
    refine r_ic X dX10_takesWord_27 ?_
    refine r_iln X dX10_takesWord_28 rfl (lv_at hl 2 rfl) ?_
    refine r_iadd X dX10_takesWord_29 ?_
    refine r_cge (cx := wI x4) (cy := wI (3 + x3)) (tgt := 85) X rfl rfl dX10_takesWord_30 (by decide) (fun c5 => ?_) (fun c5 => ?_)
    · replace h := ite_t c5 h
      refine r_iln X dX10_takesWord_33 rfl (lv_at hl 1 rfl) ?_
      refine r_il X dX10_takesWord_34 (lv_at hl 3 rfl) ?_
      refine r_iadd X dX10_takesWord_36 ?_
      refine r_aln X dX10_takesWord_37 rfl (lv_at hl 0 rfl) ?_
      refine r_gi (kI := 14) X Y V ci_10 kd_118 14 rfl (by decide) rfl rfl wd_867 dX10_takesWord_38 ?_
      refine r_clt (cx := wI (x2 + x4)) (cy := wI (σ 118 14)) (tgt := 54) X rfl rfl dX10_takesWord_41 (by decide) (fun c6 => ?_) (fun c6 => ?_)
      · replace h := ite_t c6 h
        refine r_aln X dX10_takesWord_54 rfl (lv_at hl 0 rfl) ?_
        refine r_gr X Y V ci_10 kd_118 13 rfl rfl (by decide) rfl rfl wd_866 dX10_takesWord_55 ?_
        refine r_iln X dX10_takesWord_58 rfl (lv_at hl 1 rfl) ?_
        refine r_il X dX10_takesWord_59 (lv_at hl 3 rfl) ?_
        refine r_iadd X dX10_takesWord_61 ?_
        obtain ⟨v7, hv7, hiv7, h⟩ := rdA_ex h
        refine r_ial X Y V kd_127 ln_127 hiv7 hv7 dX10_takesWord_62 ?_
        refine r_iln X dX10_takesWord_63 rfl (lv_at hl 2 rfl) ?_
        refine r_il X dX10_takesWord_64 (lv_at hl 3 rfl) ?_
        refine r_ki V (r_runS (As := [.int (iV x3), .int (iV x4)]) (rest := [.int (iV v7)]) X Y V (c_X10_letterOf l G σ x3 x4 _  rfl) ms_X10_letterOf wd_1062 ⟨rfl, rfl, Nat.le_of_ble_eq_true rfl, Nat.le_of_ble_eq_true rfl⟩ rfl rfl hl.1 (Nat.le_of_ble_eq_true rfl) ⟨Nat.le_refl 0, Nat.le_refl 0⟩ dX10_takesWord_66) (fun H locs V => ?_)
        refine r_ceq (cx := wI v7) (cy := wI (f_X10_letterOf x3 x4)) (tgt := 79) X rfl rfl dX10_takesWord_69 (by decide) (fun c8 => ?_) (fun c8 => ?_)
        · replace h := ite_t c8 h
          refine r_inc (kk := 3) (lv' := [(4, .int (iV (x4 + 1))), (0, .ref (G.2.2.1 118)), (2, .int (iV x2)), (3, .int (iV x3))]) X dX10_takesWord_79 hl rfl (by decide) rfl (fun ls hl => ?_)
          refine r_goto (tgt := 25) X dX10_takesWord_82 (by decide) ?_
          exact ih σ (x4 + 1) _ _ _ V (lv_sub hl [1, 2, 3, 0] rfl) h
        · replace h := ite_f c8 h
          refine r_aln X dX10_takesWord_72 rfl (lv_at hl 0 rfl) ?_
          refine r_iln X dX10_takesWord_73 rfl (lv_at hl 1 rfl) ?_
          obtain ⟨σ9, hσ9, h⟩ := wrF_ex h
          refine r_pi X Y V ci_10 kd_118 15 rfl (by decide) rfl rfl rfl (tyX10_ok 15 (by decide)) wd_868 hσ9 dX10_takesWord_74 (fun H locs V => ?_)
          refine r_ic X dX10_takesWord_77 ?_
          exact r_ri X V (so2 h).1 (so2 h).2 dX10_takesWord_78
      · replace h := ite_f c6 h
        refine r_aln X dX10_takesWord_44 rfl (lv_at hl 0 rfl) ?_
        refine r_aln X dX10_takesWord_45 rfl (lv_at hl 0 rfl) ?_
        refine r_gi (kI := 14) X Y V ci_10 kd_118 14 rfl (by decide) rfl rfl wd_867 dX10_takesWord_46 ?_
        obtain ⟨σ10, hσ10, h⟩ := wrF_ex h
        refine r_pi X Y V ci_10 kd_118 15 rfl (by decide) rfl rfl rfl (tyX10_ok 15 (by decide)) wd_868 hσ10 dX10_takesWord_49 (fun H locs V => ?_)
        refine r_ic X dX10_takesWord_52 ?_
        exact r_ri X V (so2 h).1 (so2 h).2 dX10_takesWord_53
    · replace h := ite_f c5 h
      exact hkx σ  _ _ _ V (lv_sub hl [0, 1, 2] rfl) h

set_option maxRecDepth 100000 in
set_option maxHeartbeats 4000000 in
theorem c_X10_takesWord (l : Launch) (G : UG) (σ : St)  (r : Int) (σ' : St)  (h : f_X10_takesWord σ = some (r, σ')) : Met l yX10_takesWord (.code yX10_takesWord cX10_takesWord 5 (Option.some Jvm.ClassFile.FieldType.int) :: TB) { frames := 1, cells := 0, slots := 0, locals := 21 } (uvPc G σ [.ref (G.2.2.1 118)]) (uvQi G r σ') 0 0 (uvA G) := by
  unfold f_X10_takesWord at h
  refine r_met (own := RX10) (lv := [(0, .ref (G.2.2.1 118))]) (by decide) rfl (Nat.le_of_ble_eq_true rfl) rfl ?_
  intro p e s m below meth c ls X Y V hl
  have go : ∀ (args : Array Value) (H : Heap) (locs : List Loc), uvCx p m c cX10_takesWord 5 RX10 s args meth (Option.some Jvm.ClassFile.FieldType.int) → uvWo G σ s H locs → W p l e { frames := 1, cells := 0, slots := 0, locals := 21 } s m args below meth c H locs 0 0 (MQ below (uvQi G r σ') args s 0 0 (uvA G)) (F0 m 0 ls []) := by
    intro args H locs X V
    refine r_aln X dX10_takesWord_0 rfl (lv_at hl 0 rfl) ?_
    obtain ⟨v1, σ2, hv1, h⟩ := bd2_ex h
    refine r_ki V (r_runV (As := []) (rest := []) X Y V (c_X10_here l G σ  _ _  hv1) mv_X10_here wd_1058 ci_10 kd_118 ⟨rfl, rfl, Nat.le_of_ble_eq_true rfl, Nat.le_of_ble_eq_true rfl⟩ rfl rfl hl.1 (Nat.le_of_ble_eq_true rfl) ⟨Nat.le_refl 0, Nat.le_refl 0⟩ dX10_takesWord_1) (fun H locs V => ?_)
    refine r_isn (lv' := [(1, .int (iV v1)), (0, .ref (G.2.2.1 118))]) X dX10_takesWord_4 rfl hl (by decide) rfl (fun ls hl => ?_)
    refine r_aln X dX10_takesWord_5 rfl (lv_at hl 1 rfl) ?_
    refine r_gi (kI := 15) X Y V ci_10 kd_118 15 rfl (by decide) rfl rfl wd_868 dX10_takesWord_6 ?_
    refine r_isn (lv' := [(2, .int (iV (σ2 118 15))), (1, .int (iV v1)), (0, .ref (G.2.2.1 118))]) X dX10_takesWord_9 rfl hl (by decide) rfl (fun ls hl => ?_)
    refine r_iln X dX10_takesWord_10 rfl (lv_at hl 1 rfl) ?_
    refine r_bp X dX10_takesWord_11 (by decide) ?_
    have J3 : W p l e { frames := 1, cells := 0, slots := 0, locals := 21 } s m args below meth c H locs 0 0 (MQ below (uvQi G r σ') args s 0 0 (uvA G)) (F0 m 21 ls [.int (iV (if wI v1 = 116 then 1 else 0))]) := by
      obtain ⟨v4, hv4, h⟩ := bnd_ex h
      refine r_eqI hv4 ?_
      refine r_isn (lv' := [(3, .int (iV v4)), (2, .int (iV (σ2 118 15))), (1, .int (iV v1)), (0, .ref (G.2.2.1 118))]) X dX10_takesWord_21 rfl hl (by decide) rfl (fun ls hl => ?_)
      refine r_ic X dX10_takesWord_22 ?_
      refine r_is (lv' := [(4, .int (iV 0)), (3, .int (iV v4)), (2, .int (iV (σ2 118 15))), (1, .int (iV v1)), (0, .ref (G.2.2.1 118))]) X dX10_takesWord_23 hl (by decide) rfl (fun ls hl => ?_)
      refine wl_X10_takesWord_25 X Y (σ2 118 15) v4  r σ' _ (fun σ11  H locs ls V hl h => ?_) 1000 σ2 0 _ _ _ V (lv_sub hl [4, 2, 1, 0] rfl) h
      refine r_aln X dX10_takesWord_85 rfl (lv_at hl 0 rfl) ?_
      refine r_iln X dX10_takesWord_86 rfl (lv_at hl 1 rfl) ?_
      refine r_ic X dX10_takesWord_87 ?_
      refine r_iadd X dX10_takesWord_88 ?_
      refine r_iln X dX10_takesWord_89 rfl (lv_at hl 2 rfl) ?_
      refine r_iadd X dX10_takesWord_90 ?_
      obtain ⟨σ12, hσ12, h⟩ := wrF_ex h
      refine r_pi X Y V ci_10 kd_118 15 rfl (by decide) rfl rfl rfl (tyX10_ok 15 (by decide)) wd_868 hσ12 dX10_takesWord_91 (fun H locs V => ?_)
      refine r_iln X dX10_takesWord_94 rfl (lv_at hl 2 rfl) ?_
      exact r_ri X V (so2 h).1 (so2 h).2 dX10_takesWord_95
    refine r_cne (cx := wI v1) (cy := 116) (tgt := 20) X rfl rfl dX10_takesWord_13 (by decide) (fun c13 => ?_) (fun c13 => ?_)
    · skip
      refine r_ic X dX10_takesWord_16 ?_
      refine r_goto (tgt := 21) X dX10_takesWord_17 (by decide) ?_
      rw [if_pos c13] at J3
      exact J3
    · skip
      refine r_ic X dX10_takesWord_20 ?_
      rw [if_neg c13] at J3
      exact J3
  exact go _ _ _ X V

set_option maxRecDepth 100000 in
set_option maxHeartbeats 4000000 in
theorem wj_X10_readsRow_65 {p : Program} {l : Launch} {e : Env} {s : State} {m : MethodId} {args : Array Value} {below : List Frame} {meth : Method} {c : Code} {G : UG} (X : uvCx p m c cX10_readsRow 5 RX10 s args meth (Option.some Jvm.ClassFile.FieldType.int)) (Y : uvGd G s s.heap) (kb : St → Int → Option (Int × St)) (r : Int) (σ' : St) (σ : St) (x1 : Int) (x2 : Int) (x3 : Int) (t0 : Int)  (hkb : ∀ (σ : St) (m1 : Int) (H : Heap) (locs : List Loc) (ls : Array Slot), uvWo G σ s H locs → lv_has ls 5 [(0, .ref (G.2.2.1 118)), (1, .int (iV m1))] → kb σ m1 = some (r, σ') → W p l e { frames := 2, cells := 0, slots := 0, locals := 48 } s m args below meth c H locs 0 0 (MQ below (uvQi G r σ') args s 0 0 (uvA G)) (F0 m 2 ls [])) (H : Heap) (locs : List Loc) (ls : Array Slot) (V : uvWo G σ s H locs) (hl : lv_has ls 5 [(0, .ref (G.2.2.1 118)), (1, .int (iV x1)), (2, .int (iV x2)), (3, .int (iV x3))]) (h : jn_X10_readsRow_65 kb σ x1 x2 x3 t0 = some (r, σ')) : W p l e { frames := 2, cells := 0, slots := 0, locals := 48 } s m args below meth c H locs 0 0 (MQ below (uvQi G r σ') args s 0 0 (uvA G)) (F0 m 65 ls [.int (iV t0)]) := by
  unfold jn_X10_readsRow_65 at h
  refine r_is (lv' := [(4, .int (iV t0)), (0, .ref (G.2.2.1 118)), (1, .int (iV x1)), (2, .int (iV x2)), (3, .int (iV x3))]) X dX10_readsRow_65 hl (by decide) rfl (fun ls hl => ?_)
  refine r_il X dX10_readsRow_67 (lv_at hl 0 rfl) ?_
  refine r_ge (cx := wI t0) (tgt := 74) X rfl dX10_readsRow_69 (by decide) (fun c7 => ?_) (fun c7 => ?_)
  · replace h := ite_t c7 h
    refine r_ic X dX10_readsRow_72 ?_
    exact r_ri X V (so2 h).1 (so2 h).2 dX10_readsRow_73
  · replace h := ite_f c7 h
    refine r_aln X dX10_readsRow_74 rfl (lv_at hl 1 rfl) ?_
    refine r_gr X Y V ci_10 kd_118 16 rfl rfl (by decide) rfl rfl wd_869 dX10_readsRow_75 ?_
    refine r_ic X dX10_readsRow_78 ?_
    refine r_iln X dX10_readsRow_79 rfl (lv_at hl 2 rfl) ?_
    refine r_imul X dX10_readsRow_80 ?_
    refine r_iln X dX10_readsRow_81 rfl (lv_at hl 3 rfl) ?_
    obtain ⟨σ8, hσ8, hiσ8, h⟩ := wrA_ex h
    refine r_ias X Y V kd_128 ln_128 hiσ8 hσ8 dX10_readsRow_82 (fun H locs V => ?_)
    refine r_aln X dX10_readsRow_83 rfl (lv_at hl 1 rfl) ?_
    refine r_gr X Y V ci_10 kd_118 16 rfl rfl (by decide) rfl rfl wd_869 dX10_readsRow_84 ?_
    refine r_ic X dX10_readsRow_87 ?_
    refine r_iln X dX10_readsRow_88 rfl (lv_at hl 2 rfl) ?_
    refine r_imul X dX10_readsRow_89 ?_
    refine r_ic X dX10_readsRow_90 ?_
    refine r_iadd X dX10_readsRow_91 ?_
    refine r_iln X dX10_readsRow_92 rfl (lv_at hl 4 rfl) ?_
    obtain ⟨σ9, hσ9, hiσ9, h⟩ := wrA_ex h
    refine r_ias X Y V kd_128 ln_128 hiσ9 hσ9 dX10_readsRow_93 (fun H locs V => ?_)
    refine r_aln X dX10_readsRow_94 rfl (lv_at hl 1 rfl) ?_
    refine r_gr X Y V ci_10 kd_118 16 rfl rfl (by decide) rfl rfl wd_869 dX10_readsRow_95 ?_
    refine r_ic X dX10_readsRow_98 ?_
    refine r_iln X dX10_readsRow_99 rfl (lv_at hl 2 rfl) ?_
    refine r_imul X dX10_readsRow_100 ?_
    refine r_ic X dX10_readsRow_101 ?_
    refine r_iadd X dX10_readsRow_102 ?_
    refine r_il X dX10_readsRow_103 (lv_at hl 0 rfl) ?_
    refine r_ic X dX10_readsRow_105 ?_
    refine r_iadd X dX10_readsRow_106 ?_
    obtain ⟨σ10, hσ10, hiσ10, h⟩ := wrA_ex h
    refine r_ias X Y V kd_128 ln_128 hiσ10 hσ10 dX10_readsRow_107 (fun H locs V => ?_)
    refine r_inc (kk := 2) (lv' := [(1, .int (iV (x1 + 1))), (4, .int (iV t0)), (0, .ref (G.2.2.1 118)), (2, .int (iV x2)), (3, .int (iV x3))]) X dX10_readsRow_108 hl rfl (by decide) rfl (fun ls hl => ?_)
    refine r_goto (tgt := 2) X dX10_readsRow_111 (by decide) ?_
    exact hkb σ10 (x1 + 1) _ _ _ V (lv_sub hl [2, 0] rfl) h

set_option maxRecDepth 100000 in
set_option maxHeartbeats 4000000 in
theorem wj_X10_readsRow_48 {p : Program} {l : Launch} {e : Env} {s : State} {m : MethodId} {args : Array Value} {below : List Frame} {meth : Method} {c : Code} {G : UG} (X : uvCx p m c cX10_readsRow 5 RX10 s args meth (Option.some Jvm.ClassFile.FieldType.int)) (Y : uvGd G s s.heap) (kb : St → Int → Option (Int × St)) (r : Int) (σ' : St) (σ : St) (x1 : Int) (x2 : Int) (t0 : Int)  (hkb : ∀ (σ : St) (m1 : Int) (H : Heap) (locs : List Loc) (ls : Array Slot), uvWo G σ s H locs → lv_has ls 5 [(0, .ref (G.2.2.1 118)), (1, .int (iV m1))] → kb σ m1 = some (r, σ') → W p l e { frames := 2, cells := 0, slots := 0, locals := 48 } s m args below meth c H locs 0 0 (MQ below (uvQi G r σ') args s 0 0 (uvA G)) (F0 m 2 ls [])) (H : Heap) (locs : List Loc) (ls : Array Slot) (V : uvWo G σ s H locs) (hl : lv_has ls 5 [(0, .ref (G.2.2.1 118)), (1, .int (iV x1)), (2, .int (iV x2))]) (h : jn_X10_readsRow_48 kb σ x1 x2 t0 = some (r, σ')) : W p l e { frames := 2, cells := 0, slots := 0, locals := 48 } s m args below meth c H locs 0 0 (MQ below (uvQi G r σ') args s 0 0 (uvA G)) (F0 m 48 ls [.int (iV t0)]) := by
  unfold jn_X10_readsRow_48 at h
  refine r_isn (lv' := [(3, .int (iV t0)), (0, .ref (G.2.2.1 118)), (1, .int (iV x1)), (2, .int (iV x2))]) X dX10_readsRow_48 rfl hl (by decide) rfl (fun ls hl => ?_)
  refine r_iln X dX10_readsRow_49 rfl (lv_at hl 0 rfl) ?_
  refine r_ge (cx := wI t0) (tgt := 57) X rfl dX10_readsRow_50 (by decide) (fun c6 => ?_) (fun c6 => ?_)
  · replace h := ite_t c6 h
    refine r_ic X dX10_readsRow_53 ?_
    refine r_goto (tgt := 65) X dX10_readsRow_54 (by decide) ?_
    exact wj_X10_readsRow_65 X Y _ r σ' σ x1 x2 t0 (-1)  (fun σ m1 H locs ls V hl h => hkb σ m1 H locs ls V hl h) _ _ _ V (lv_sub hl [1, 2, 3, 0] rfl) h
  · replace h := ite_f c6 h
    refine r_aln X dX10_readsRow_57 rfl (lv_at hl 1 rfl) ?_
    refine r_bp X dX10_readsRow_58 (by decide) ?_
    refine r_bp X dX10_readsRow_60 (by decide) ?_
    obtain ⟨v11, σ12, hv11, h⟩ := bd2_ex h
    refine r_ki V (r_runV (As := [.int (iV 49), .int (iV 57)]) (rest := []) X Y V (c_X10_takes l G σ 49 57 _ _  hv11) mv_X10_takes wd_1069 ci_10 kd_118 ⟨rfl, rfl, Nat.le_of_ble_eq_true rfl, Nat.le_of_ble_eq_true rfl⟩ rfl rfl hl.1 (Nat.le_of_ble_eq_true rfl) ⟨Nat.le_refl 0, Nat.le_refl 0⟩ dX10_readsRow_62) (fun H locs V => ?_)
    exact wj_X10_readsRow_65 X Y _ r σ' σ12 x1 x2 t0 v11  (fun σ m1 H locs ls V hl h => hkb σ m1 H locs ls V hl h) _ _ _ V (lv_sub hl [1, 2, 3, 0] rfl) h

set_option maxRecDepth 100000 in
set_option maxHeartbeats 4000000 in
theorem wj_X10_readsRow_15 {p : Program} {l : Launch} {e : Env} {s : State} {m : MethodId} {args : Array Value} {below : List Frame} {meth : Method} {c : Code} {G : UG} (X : uvCx p m c cX10_readsRow 5 RX10 s args meth (Option.some Jvm.ClassFile.FieldType.int)) (Y : uvGd G s s.heap) (kb : St → Int → Option (Int × St)) (r : Int) (σ' : St) (σ : St) (x1 : Int)  (hkb : ∀ (σ : St) (m1 : Int) (H : Heap) (locs : List Loc) (ls : Array Slot), uvWo G σ s H locs → lv_has ls 5 [(0, .ref (G.2.2.1 118)), (1, .int (iV m1))] → kb σ m1 = some (r, σ') → W p l e { frames := 2, cells := 0, slots := 0, locals := 48 } s m args below meth c H locs 0 0 (MQ below (uvQi G r σ') args s 0 0 (uvA G)) (F0 m 2 ls [])) (H : Heap) (locs : List Loc) (ls : Array Slot) (V : uvWo G σ s H locs) (hl : lv_has ls 5 [(0, .ref (G.2.2.1 118)), (1, .int (iV x1))]) (h : jn_X10_readsRow_15 kb σ x1 = some (r, σ')) : W p l e { frames := 2, cells := 0, slots := 0, locals := 48 } s m args below meth c H locs 0 0 (MQ below (uvQi G r σ') args s 0 0 (uvA G)) (F0 m 15 ls []) := by
  unfold jn_X10_readsRow_15 at h
  refine r_iln X dX10_readsRow_15 rfl (lv_at hl 1 rfl) ?_
  refine r_bp X dX10_readsRow_16 (by decide) ?_
  refine r_cne (cx := wI x1) (cy := 8) (tgt := 23) X rfl rfl dX10_readsRow_18 (by decide) (fun c2 => ?_) (fun c2 => ?_)
  · replace h := ite_t c2 h
    refine r_ic X dX10_readsRow_21 ?_
    exact r_ri X V (so2 h).1 (so2 h).2 dX10_readsRow_22
  · replace h := ite_f c2 h
    refine r_aln X dX10_readsRow_23 rfl (lv_at hl 0 rfl) ?_
    refine r_bp X dX10_readsRow_24 (by decide) ?_
    refine r_bp X dX10_readsRow_26 (by decide) ?_
    obtain ⟨v3, σ4, hv3, h⟩ := bd2_ex h
    refine r_ki V (r_runV (As := [.int (iV 97), .int (iV 102)]) (rest := []) X Y V (c_X10_takes l G σ 97 102 _ _  hv3) mv_X10_takes wd_1069 ci_10 kd_118 ⟨rfl, rfl, Nat.le_of_ble_eq_true rfl, Nat.le_of_ble_eq_true rfl⟩ rfl rfl hl.1 (Nat.le_of_ble_eq_true rfl) ⟨Nat.le_refl 0, Nat.le_refl 0⟩ dX10_readsRow_28) (fun H locs V => ?_)
    refine r_isn (lv' := [(2, .int (iV v3)), (0, .ref (G.2.2.1 118)), (1, .int (iV x1))]) X dX10_readsRow_31 rfl hl (by decide) rfl (fun ls hl => ?_)
    refine r_iln X dX10_readsRow_32 rfl (lv_at hl 0 rfl) ?_
    refine r_ge (cx := wI v3) (tgt := 40) X rfl dX10_readsRow_33 (by decide) (fun c5 => ?_) (fun c5 => ?_)
    · replace h := ite_t c5 h
      refine r_ic X dX10_readsRow_36 ?_
      refine r_goto (tgt := 48) X dX10_readsRow_37 (by decide) ?_
      exact wj_X10_readsRow_48 X Y _ r σ' σ4 x1 v3 (-1)  (fun σ m1 H locs ls V hl h => hkb σ m1 H locs ls V hl h) _ _ _ V (lv_sub hl [1, 2, 0] rfl) h
    · replace h := ite_f c5 h
      refine r_aln X dX10_readsRow_40 rfl (lv_at hl 1 rfl) ?_
      refine r_bp X dX10_readsRow_41 (by decide) ?_
      refine r_bp X dX10_readsRow_43 (by decide) ?_
      obtain ⟨v13, σ14, hv13, h⟩ := bd2_ex h
      refine r_ki V (r_runV (As := [.int (iV 48), .int (iV 57)]) (rest := []) X Y V (c_X10_takes l G σ4 48 57 _ _  hv13) mv_X10_takes wd_1069 ci_10 kd_118 ⟨rfl, rfl, Nat.le_of_ble_eq_true rfl, Nat.le_of_ble_eq_true rfl⟩ rfl rfl hl.1 (Nat.le_of_ble_eq_true rfl) ⟨Nat.le_refl 0, Nat.le_refl 0⟩ dX10_readsRow_45) (fun H locs V => ?_)
      exact wj_X10_readsRow_48 X Y _ r σ' σ14 x1 v3 v13  (fun σ m1 H locs ls V hl h => hkb σ m1 H locs ls V hl h) _ _ _ V (lv_sub hl [1, 2, 0] rfl) h

set_option maxRecDepth 100000 in
set_option maxHeartbeats 4000000 in
theorem wl_X10_readsRow_2 {p : Program} {l : Launch} {e : Env} {s : State} {m : MethodId} {args : Array Value} {below : List Frame} {meth : Method} {c : Code} {G : UG} (X : uvCx p m c cX10_readsRow 5 RX10 s args meth (Option.some Jvm.ClassFile.FieldType.int)) (Y : uvGd G s s.heap)   (r : Int) (σ' : St) (kx : St → Int → Option (Int × St)) (hkx : ∀ (σ : St) (x1 : Int) (H : Heap) (locs : List Loc) (ls : Array Slot), uvWo G σ s H locs → lv_has ls 5 [(1, .int (iV x1))] → kx σ x1 = some (r, σ') → W p l e { frames := 2, cells := 0, slots := 0, locals := 48 } s m args below meth c H locs 0 0 (MQ below (uvQi G r σ') args s 0 0 (uvA G)) (F0 m 114 ls [])) : ∀ (n : Nat) (σ : St) (x1 : Int) (H : Heap) (locs : List Loc) (ls : Array Slot), uvWo G σ s H locs → lv_has ls 5 [(0, .ref (G.2.2.1 118)), (1, .int (iV x1))] → lp_X10_readsRow_2 kx n σ x1 = some (r, σ') → W p l e { frames := 2, cells := 0, slots := 0, locals := 48 } s m args below meth c H locs 0 0 (MQ below (uvQi G r σ') args s 0 0 (uvA G)) (F0 m 2 ls []) := by
  intro n
  induction n with
  | zero => intro σ x1 H locs ls V hl h; cases h
  | succ n ih =>
    intro σ x1 H locs ls V hl h
    rw [lp_X10_readsRow_2] at h
    refine r_iln X dX10_readsRow_2 rfl (lv_at hl 1 rfl) ?_
    refine r_eq (cx := wI x1) (tgt := 15) X rfl dX10_readsRow_3 (by decide) (fun c1 => ?_) (fun c1 => ?_)
    · replace h := ite_t c1 h
      exact wj_X10_readsRow_15 X Y _ r σ' σ x1  (fun σ m1 H locs ls V hl h => ih σ m1 H locs ls V hl h) _ _ _ V (lv_sub hl [0, 1] rfl) h
    · replace h := ite_f c1 h
      refine r_aln X dX10_readsRow_6 rfl (lv_at hl 0 rfl) ?_
      obtain ⟨v15, σ16, hv15, h⟩ := bd2_ex h
      refine r_ki V (r_runV (As := []) (rest := []) X Y V (c_X10_here l G σ  _ _  hv15) mv_X10_here wd_1058 ci_10 kd_118 ⟨rfl, rfl, Nat.le_of_ble_eq_true rfl, Nat.le_of_ble_eq_true rfl⟩ rfl rfl hl.1 (Nat.le_of_ble_eq_true rfl) ⟨Nat.le_refl 0, Nat.le_refl 0⟩ dX10_readsRow_7) (fun H locs V => ?_)
      refine r_bp X dX10_readsRow_10 (by decide) ?_
      refine r_ceq (cx := wI v15) (cy := 59) (tgt := 114) X rfl rfl dX10_readsRow_12 (by decide) (fun c17 => ?_) (fun c17 => ?_)
      · replace h := ite_t c17 h
        exact hkx σ16 x1 _ _ _ V (lv_sub hl [1] rfl) h
      · replace h := ite_f c17 h
        exact wj_X10_readsRow_15 X Y _ r σ' σ16 x1  (fun σ m1 H locs ls V hl h => ih σ m1 H locs ls V hl h) _ _ _ V (lv_sub hl [0, 1] rfl) h

set_option maxRecDepth 100000 in
set_option maxHeartbeats 4000000 in
theorem c_X10_readsRow (l : Launch) (G : UG) (σ : St)  (r : Int) (σ' : St)  (h : f_X10_readsRow σ = some (r, σ')) : Met l yX10_readsRow (.code yX10_readsRow cX10_readsRow 5 (Option.some Jvm.ClassFile.FieldType.int) :: TB) { frames := 2, cells := 0, slots := 0, locals := 48 } (uvPc G σ [.ref (G.2.2.1 118)]) (uvQi G r σ') 0 0 (uvA G) := by
  unfold f_X10_readsRow at h
  refine r_met (own := RX10) (lv := [(0, .ref (G.2.2.1 118))]) (by decide) rfl (Nat.le_of_ble_eq_true rfl) rfl ?_
  intro p e s m below meth c ls X Y V hl
  have go : ∀ (args : Array Value) (H : Heap) (locs : List Loc), uvCx p m c cX10_readsRow 5 RX10 s args meth (Option.some Jvm.ClassFile.FieldType.int) → uvWo G σ s H locs → W p l e { frames := 2, cells := 0, slots := 0, locals := 48 } s m args below meth c H locs 0 0 (MQ below (uvQi G r σ') args s 0 0 (uvA G)) (F0 m 0 ls []) := by
    intro args H locs X V
    refine r_ic X dX10_readsRow_0 ?_
    refine r_isn (lv' := [(1, .int (iV 0)), (0, .ref (G.2.2.1 118))]) X dX10_readsRow_1 rfl hl (by decide) rfl (fun ls hl => ?_)
    refine wl_X10_readsRow_2 X Y   r σ' _ (fun σ18 y19 H locs ls V hl h => ?_) 1000 σ 0 _ _ _ V (lv_sub hl [1, 0] rfl) h
    refine r_iln X dX10_readsRow_114 rfl (lv_at hl 0 rfl) ?_
    exact r_ri X V (so2 h).1 (so2 h).2 dX10_readsRow_115
  exact go _ _ _ X V

set_option maxRecDepth 100000 in
set_option maxHeartbeats 4000000 in
theorem c_X10_questionOf (l : Launch) (G : UG) (σ0 : St) (a0 : Int) (r : Int)  (h : f_X10_questionOf a0 = r) : Met l yX10_questionOf (.code yX10_questionOf cX10_questionOf 1 (Option.some Jvm.ClassFile.FieldType.int) :: TB) { frames := 0, cells := 0, slots := 0, locals := 0 } (uvPc G σ0 [.int (iV a0)]) (uvQi G r σ0) 0 0 (uvA G) := by
  unfold f_X10_questionOf at h
  refine r_met (own := RX10) (lv := [(0, .int (iV a0))]) (by decide) rfl (Nat.le_of_ble_eq_true rfl) rfl ?_
  intro p e s m below meth c ls X Y V hl
  have go : ∀ (args : Array Value) (H : Heap) (locs : List Loc), uvCx p m c cX10_questionOf 1 RX10 s args meth (Option.some Jvm.ClassFile.FieldType.int) → uvWo G σ0 s H locs → W p l e { frames := 0, cells := 0, slots := 0, locals := 0 } s m args below meth c H locs 0 0 (MQ below (uvQi G r σ0) args s 0 0 (uvA G)) (F0 m 0 ls []) := by
    intro args H locs X V
    refine r_iln X dX10_questionOf_0 rfl (lv_at hl 0 rfl) ?_
    refine r_bp X dX10_questionOf_1 (by decide) ?_
    have J1 : W p l e { frames := 0, cells := 0, slots := 0, locals := 0 } s m args below meth c H locs 0 0 (MQ below (uvQi G r σ0) args s 0 0 (uvA G)) (F0 m 41 ls [.int (iV (if wI a0 = 76 then 1 else (if wI a0 = 82 then 2 else (if wI a0 = 80 then 3 else (if wI a0 = 68 then 4 else 0)))))]) := by
      exact r_ri X V h rfl dX10_questionOf_41
    refine r_cne (cx := wI a0) (cy := 76) (tgt := 10) X rfl rfl dX10_questionOf_3 (by decide) (fun c2 => ?_) (fun c2 => ?_)
    · skip
      refine r_ic X dX10_questionOf_6 ?_
      refine r_goto (tgt := 41) X dX10_questionOf_7 (by decide) ?_
      rw [if_pos c2] at J1
      exact J1
    · skip
      refine r_iln X dX10_questionOf_10 rfl (lv_at hl 0 rfl) ?_
      refine r_bp X dX10_questionOf_11 (by decide) ?_
      refine r_cne (cx := wI a0) (cy := 82) (tgt := 20) X rfl rfl dX10_questionOf_13 (by decide) (fun c3 => ?_) (fun c3 => ?_)
      · skip
        refine r_ic X dX10_questionOf_16 ?_
        refine r_goto (tgt := 41) X dX10_questionOf_17 (by decide) ?_
        rw [if_neg c2] at J1
        rw [if_pos c3] at J1
        exact J1
      · skip
        refine r_iln X dX10_questionOf_20 rfl (lv_at hl 0 rfl) ?_
        refine r_bp X dX10_questionOf_21 (by decide) ?_
        refine r_cne (cx := wI a0) (cy := 80) (tgt := 30) X rfl rfl dX10_questionOf_23 (by decide) (fun c4 => ?_) (fun c4 => ?_)
        · skip
          refine r_ic X dX10_questionOf_26 ?_
          refine r_goto (tgt := 41) X dX10_questionOf_27 (by decide) ?_
          rw [if_neg c2] at J1
          rw [if_neg c3] at J1
          rw [if_pos c4] at J1
          exact J1
        · skip
          refine r_iln X dX10_questionOf_30 rfl (lv_at hl 0 rfl) ?_
          refine r_bp X dX10_questionOf_31 (by decide) ?_
          refine r_cne (cx := wI a0) (cy := 68) (tgt := 40) X rfl rfl dX10_questionOf_33 (by decide) (fun c5 => ?_) (fun c5 => ?_)
          · skip
            refine r_ic X dX10_questionOf_36 ?_
            refine r_goto (tgt := 41) X dX10_questionOf_37 (by decide) ?_
            rw [if_neg c2] at J1
            rw [if_neg c3] at J1
            rw [if_neg c4] at J1
            rw [if_pos c5] at J1
            exact J1
          · skip
            refine r_ic X dX10_questionOf_40 ?_
            rw [if_neg c2] at J1
            rw [if_neg c3] at J1
            rw [if_neg c4] at J1
            rw [if_neg c5] at J1
            exact J1
  exact go _ _ _ X V

set_option maxRecDepth 100000 in
set_option maxHeartbeats 4000000 in
theorem wj_X10_hangs_46 {p : Program} {l : Launch} {e : Env} {s : State} {m : MethodId} {args : Array Value} {below : List Frame} {meth : Method} {c : Code} {G : UG} (X : uvCx p m c cX10_hangs 3 RX10 s args meth (Option.none : Option Jvm.ClassFile.FieldType)) (Y : uvGd G s s.heap) (r : Int) (σ' : St) (σ : St) (x2 : Int)  (H : Heap) (locs : List Loc) (ls : Array Slot) (V : uvWo G σ s H locs) (hl : lv_has ls 3 [(0, .ref (G.2.2.1 118)), (2, .int (iV x2))]) (h : jn_X10_hangs_46 σ x2 = some (r, σ')) : W p l e { frames := 0, cells := 0, slots := 0, locals := 0 } s m args below meth c H locs 0 0 (MQ below (uvQv G σ') args s 0 0 (uvA G)) (F0 m 46 ls []) := by
  unfold jn_X10_hangs_46 at h
  refine r_aln X dX10_hangs_46 rfl (lv_at hl 0 rfl) ?_
  refine r_gr X Y V ci_10 kd_118 24 rfl rfl (by decide) rfl rfl wd_877 dX10_hangs_47 ?_
  refine r_iln X dX10_hangs_50 rfl (lv_at hl 1 rfl) ?_
  refine r_ic X dX10_hangs_51 ?_
  refine r_isub X dX10_hangs_52 ?_
  refine r_dup2 X dX10_hangs_53 rfl rfl ?_
  obtain ⟨v6, hv6, hiv6, h⟩ := rdA_ex h
  refine r_ial X Y V kd_134 ln_134 hiv6 hv6 dX10_hangs_54 ?_
  refine r_ic X dX10_hangs_55 ?_
  refine r_iadd X dX10_hangs_56 ?_
  obtain ⟨σ7, hσ7, hiσ7, h⟩ := wrA_ex h
  refine r_ias X Y V kd_134 ln_134 hiσ7 hσ7 dX10_hangs_57 (fun H locs V => ?_)
  exact r_rv X V (so2 h).2 dX10_hangs_58

set_option maxRecDepth 100000 in
set_option maxHeartbeats 4000000 in
theorem c_X10_hangs (l : Launch) (G : UG) (σ : St) (a1 : Int) (a2 : Int) (r : Int) (σ' : St)  (h : f_X10_hangs σ a1 a2 = some (r, σ')) : Met l yX10_hangs (.code yX10_hangs cX10_hangs 3 (Option.none : Option Jvm.ClassFile.FieldType) :: TB) { frames := 0, cells := 0, slots := 0, locals := 0 } (uvPc G σ [.ref (G.2.2.1 118), .int (iV a1), .int (iV a2)]) (uvQv G σ') 0 0 (uvA G) := by
  unfold f_X10_hangs at h
  refine r_met (own := RX10) (lv := [(0, .ref (G.2.2.1 118)), (1, .int (iV a1)), (2, .int (iV a2))]) (by decide) rfl (Nat.le_of_ble_eq_true rfl) rfl ?_
  intro p e s m below meth c ls X Y V hl
  have go : ∀ (args : Array Value) (H : Heap) (locs : List Loc), uvCx p m c cX10_hangs 3 RX10 s args meth (Option.none : Option Jvm.ClassFile.FieldType) → uvWo G σ s H locs → W p l e { frames := 0, cells := 0, slots := 0, locals := 0 } s m args below meth c H locs 0 0 (MQ below (uvQv G σ') args s 0 0 (uvA G)) (F0 m 0 ls []) := by
    intro args H locs X V
    refine r_iln X dX10_hangs_0 rfl (lv_at hl 2 rfl) ?_
    refine r_le (cx := wI a2) (tgt := 58) X rfl dX10_hangs_1 (by decide) (fun c1 => ?_) (fun c1 => ?_)
    · replace h := ite_t c1 h
      refine r_aln X dX10_hangs_4 rfl (lv_at hl 0 rfl) ?_
      refine r_gr X Y V ci_10 kd_118 24 rfl rfl (by decide) rfl rfl wd_877 dX10_hangs_5 ?_
      refine r_iln X dX10_hangs_8 rfl (lv_at hl 2 rfl) ?_
      refine r_ic X dX10_hangs_9 ?_
      refine r_isub X dX10_hangs_10 ?_
      obtain ⟨v2, hv2, hiv2, h⟩ := rdA_ex h
      refine r_ial X Y V kd_134 ln_134 hiv2 hv2 dX10_hangs_11 ?_
      refine r_ne (cx := wI v2) (tgt := 32) X rfl dX10_hangs_12 (by decide) (fun c3 => ?_) (fun c3 => ?_)
      · replace h := ite_t c3 h
        refine r_aln X dX10_hangs_15 rfl (lv_at hl 0 rfl) ?_
        refine r_gr X Y V ci_10 kd_118 19 rfl rfl (by decide) rfl rfl wd_872 dX10_hangs_16 ?_
        refine r_aln X dX10_hangs_19 rfl (lv_at hl 0 rfl) ?_
        refine r_gr X Y V ci_10 kd_118 23 rfl rfl (by decide) rfl rfl wd_876 dX10_hangs_20 ?_
        refine r_iln X dX10_hangs_23 rfl (lv_at hl 2 rfl) ?_
        refine r_ic X dX10_hangs_24 ?_
        refine r_isub X dX10_hangs_25 ?_
        obtain ⟨v4, hv4, hiv4, h⟩ := rdA_ex h
        refine r_ial X Y V kd_133 ln_133 hiv4 hv4 dX10_hangs_26 ?_
        refine r_iln X dX10_hangs_27 rfl (lv_at hl 1 rfl) ?_
        obtain ⟨σ5, hσ5, hiσ5, h⟩ := wrA_ex h
        refine r_ias X Y V kd_131 ln_131 hiσ5 hσ5 dX10_hangs_28 (fun H locs V => ?_)
        refine r_goto (tgt := 46) X dX10_hangs_29 (by decide) ?_
        exact wj_X10_hangs_46 X Y r σ' σ5 a2  _ _ _ V (lv_sub hl [0, 2] rfl) h
      · replace h := ite_f c3 h
        refine r_aln X dX10_hangs_32 rfl (lv_at hl 0 rfl) ?_
        refine r_gr X Y V ci_10 kd_118 20 rfl rfl (by decide) rfl rfl wd_873 dX10_hangs_33 ?_
        refine r_aln X dX10_hangs_36 rfl (lv_at hl 0 rfl) ?_
        refine r_gr X Y V ci_10 kd_118 23 rfl rfl (by decide) rfl rfl wd_876 dX10_hangs_37 ?_
        refine r_iln X dX10_hangs_40 rfl (lv_at hl 2 rfl) ?_
        refine r_ic X dX10_hangs_41 ?_
        refine r_isub X dX10_hangs_42 ?_
        obtain ⟨v8, hv8, hiv8, h⟩ := rdA_ex h
        refine r_ial X Y V kd_133 ln_133 hiv8 hv8 dX10_hangs_43 ?_
        refine r_iln X dX10_hangs_44 rfl (lv_at hl 1 rfl) ?_
        obtain ⟨σ9, hσ9, hiσ9, h⟩ := wrA_ex h
        refine r_ias X Y V kd_132 ln_132 hiσ9 hσ9 dX10_hangs_45 (fun H locs V => ?_)
        exact wj_X10_hangs_46 X Y r σ' σ9 a2  _ _ _ V (lv_sub hl [0, 2] rfl) h
    · replace h := ite_f c1 h
      exact r_rv X V (so2 h).2 dX10_hangs_58
  exact go _ _ _ X V

