set_option maxRecDepth 100000 in
set_option maxHeartbeats 4000000 in
theorem wj_X10_chooses_110 {p : Program} {l : Launch} {e : Env} {s : State} {m : MethodId} {args : Array Value} {below : List Frame} {meth : Method} {c : Code} {G : UG} (X : uvCx p m c cX10_chooses 9 RX10 s args meth (Option.some Jvm.ClassFile.FieldType.boolean)) (Y : uvGd G s s.heap) (kb : St → Int → Int → Option (Int × St)) (r : Int) (σ' : St) (σ : St) (x1 : Int) (x2 : Int) (x3 : Int) (x4 : Int) (x5 : Int) (x6 : Int) (t0 : Int)  (hkb : ∀ (σ : St) (m5 : Int) (m6 : Int) (H : Heap) (locs : List Loc) (ls : Array Slot), uvWo G σ s H locs → lv_has ls 9 [(0, .ref (G.2.2.1 118)), (1, .int (iV x1)), (2, .int (iV x2)), (3, .int (iV x3)), (4, .int (iV x4)), (5, .int (iV m5)), (6, .int (iV m6))] → kb σ m5 m6 = some (r, σ') → W p l e { frames := 3, cells := 0, slots := 0, locals := 72 } s m args below meth c H locs 0 0 (MQ below (uvQz G r σ') args s 0 0 (uvA G)) (F0 m 58 ls [])) (H : Heap) (locs : List Loc) (ls : Array Slot) (V : uvWo G σ s H locs) (hl : lv_has ls 9 [(0, .ref (G.2.2.1 118)), (1, .int (iV x1)), (2, .int (iV x2)), (3, .int (iV x3)), (4, .int (iV x4)), (5, .int (iV x5)), (6, .int (iV x6))]) (h : jn_X10_chooses_110 kb σ x1 x2 x3 x4 x5 x6 t0 = some (r, σ')) : W p l e { frames := 3, cells := 0, slots := 0, locals := 72 } s m args below meth c H locs 0 0 (MQ below (uvQz G r σ') args s 0 0 (uvA G)) (F0 m 110 ls [.int (iV t0)]) := by
  unfold jn_X10_chooses_110 at h
  refine r_is (lv' := [(8, .int (iV t0)), (0, .ref (G.2.2.1 118)), (1, .int (iV x1)), (2, .int (iV x2)), (3, .int (iV x3)), (4, .int (iV x4)), (5, .int (iV x5)), (6, .int (iV x6))]) X dX10_chooses_110 hl (by decide) rfl (fun ls hl => ?_)
  refine r_il X dX10_chooses_112 (lv_at hl 0 rfl) ?_
  refine r_il X dX10_chooses_114 (lv_at hl 6 rfl) ?_
  have J11 : W p l e { frames := 3, cells := 0, slots := 0, locals := 72 } s m args below meth c H locs 0 0 (MQ below (uvQz G r σ') args s 0 0 (uvA G)) (F0 m 126 ls [.int (iV (if wI x5 < wI t0 then t0 else x5))]) := by
    obtain ⟨v12, hv12, h⟩ := bnd_ex h
    refine r_eqI hv12 ?_
    refine r_is (lv' := [(5, .int (iV v12)), (8, .int (iV t0)), (0, .ref (G.2.2.1 118)), (1, .int (iV x1)), (2, .int (iV x2)), (3, .int (iV x3)), (4, .int (iV x4)), (6, .int (iV x6))]) X dX10_chooses_126 hl (by decide) rfl (fun ls hl => ?_)
    refine r_inc (kk := 7) (lv' := [(6, .int (iV (x6 + 1))), (5, .int (iV v12)), (8, .int (iV t0)), (0, .ref (G.2.2.1 118)), (1, .int (iV x1)), (2, .int (iV x2)), (3, .int (iV x3)), (4, .int (iV x4))]) X dX10_chooses_128 hl rfl (by decide) rfl (fun ls hl => ?_)
    refine r_goto (tgt := 58) X dX10_chooses_131 (by decide) ?_
    exact hkb σ v12 (x6 + 1) _ _ _ V (lv_sub hl [3, 4, 5, 6, 7, 1, 0] rfl) h
  refine r_cle (tgt := 124) X rfl rfl dX10_chooses_116 (by decide) (fun c13 => ?_) (fun c13 => ?_)
  · skip
    refine r_il X dX10_chooses_119 (lv_at hl 0 rfl) ?_
    refine r_goto (tgt := 126) X dX10_chooses_121 (by decide) ?_
    rw [if_pos c13] at J11
    exact J11
  · skip
    refine r_il X dX10_chooses_124 (lv_at hl 6 rfl) ?_
    rw [if_neg c13] at J11
    exact J11

set_option maxRecDepth 100000 in
set_option maxHeartbeats 4000000 in
theorem wj_X10_chooses_92 {p : Program} {l : Launch} {e : Env} {s : State} {m : MethodId} {args : Array Value} {below : List Frame} {meth : Method} {c : Code} {G : UG} (X : uvCx p m c cX10_chooses 9 RX10 s args meth (Option.some Jvm.ClassFile.FieldType.boolean)) (Y : uvGd G s s.heap) (kb : St → Int → Int → Option (Int × St)) (r : Int) (σ' : St) (σ : St) (x1 : Int) (x2 : Int) (x3 : Int) (x4 : Int) (x5 : Int) (x6 : Int) (t0 : Int)  (hkb : ∀ (σ : St) (m5 : Int) (m6 : Int) (H : Heap) (locs : List Loc) (ls : Array Slot), uvWo G σ s H locs → lv_has ls 9 [(0, .ref (G.2.2.1 118)), (1, .int (iV x1)), (2, .int (iV x2)), (3, .int (iV x3)), (4, .int (iV x4)), (5, .int (iV m5)), (6, .int (iV m6))] → kb σ m5 m6 = some (r, σ') → W p l e { frames := 3, cells := 0, slots := 0, locals := 72 } s m args below meth c H locs 0 0 (MQ below (uvQz G r σ') args s 0 0 (uvA G)) (F0 m 58 ls [])) (H : Heap) (locs : List Loc) (ls : Array Slot) (V : uvWo G σ s H locs) (hl : lv_has ls 9 [(0, .ref (G.2.2.1 118)), (1, .int (iV x1)), (2, .int (iV x2)), (3, .int (iV x3)), (4, .int (iV x4)), (5, .int (iV x5)), (6, .int (iV x6))]) (h : jn_X10_chooses_92 kb σ x1 x2 x3 x4 x5 x6 t0 = some (r, σ')) : W p l e { frames := 3, cells := 0, slots := 0, locals := 72 } s m args below meth c H locs 0 0 (MQ below (uvQz G r σ') args s 0 0 (uvA G)) (F0 m 92 ls [.int (iV t0)]) := by
  unfold jn_X10_chooses_92 at h
  refine r_is (lv' := [(7, .int (iV t0)), (0, .ref (G.2.2.1 118)), (1, .int (iV x1)), (2, .int (iV x2)), (3, .int (iV x3)), (4, .int (iV x4)), (5, .int (iV x5)), (6, .int (iV x6))]) X dX10_chooses_92 hl (by decide) rfl (fun ls hl => ?_)
  refine r_il X dX10_chooses_94 (lv_at hl 0 rfl) ?_
  refine r_eq (tgt := 109) X rfl dX10_chooses_96 (by decide) (fun c10 => ?_) (fun c10 => ?_)
  · replace h := ite_t c10 h
    refine r_ic X dX10_chooses_109 ?_
    exact wj_X10_chooses_110 X Y _ r σ' σ x1 x2 x3 x4 x5 x6 (-1)  (fun σ m5 m6 H locs ls V hl h => hkb σ m5 m6 H locs ls V hl h) _ _ _ V (lv_sub hl [1, 2, 3, 4, 5, 6, 7] rfl) h
  · replace h := ite_f c10 h
    refine r_aln X dX10_chooses_99 rfl (lv_at hl 1 rfl) ?_
    refine r_il X dX10_chooses_100 (lv_at hl 7 rfl) ?_
    refine r_iln X dX10_chooses_102 rfl (lv_at hl 2 rfl) ?_
    obtain ⟨v14, hv14, h⟩ := bd1_ex h
    refine r_ki V (r_runV (As := [.int (iV x6), .int (iV x1)]) (rest := []) X Y V (c_X10_goesAlong l G σ x6 x1 _  hv14) mv_X10_goesAlong wd_1142 ci_10 kd_118 ⟨rfl, rfl, Nat.le_of_ble_eq_true rfl, Nat.le_of_ble_eq_true rfl⟩ rfl rfl hl.1 (Nat.le_of_ble_eq_true rfl) ⟨Nat.le_refl 0, Nat.le_refl 0⟩ dX10_chooses_103) (fun H locs V => ?_)
    refine r_goto (tgt := 110) X dX10_chooses_106 (by decide) ?_
    exact wj_X10_chooses_110 X Y _ r σ' σ x1 x2 x3 x4 x5 x6 v14  (fun σ m5 m6 H locs ls V hl h => hkb σ m5 m6 H locs ls V hl h) _ _ _ V (lv_sub hl [1, 2, 3, 4, 5, 6, 7] rfl) h

set_option maxRecDepth 100000 in
set_option maxHeartbeats 4000000 in
theorem wl_X10_chooses_58 {p : Program} {l : Launch} {e : Env} {s : State} {m : MethodId} {args : Array Value} {below : List Frame} {meth : Method} {c : Code} {G : UG} (X : uvCx p m c cX10_chooses 9 RX10 s args meth (Option.some Jvm.ClassFile.FieldType.boolean)) (Y : uvGd G s s.heap) (x1 : Int) (x2 : Int) (x3 : Int) (x4 : Int)  (r : Int) (σ' : St) (kx : St → Int → Option (Int × St)) (hkx : ∀ (σ : St) (x5 : Int) (H : Heap) (locs : List Loc) (ls : Array Slot), uvWo G σ s H locs → lv_has ls 9 [(0, .ref (G.2.2.1 118)), (1, .int (iV x1)), (2, .int (iV x2)), (3, .int (iV x3)), (4, .int (iV x4)), (5, .int (iV x5))] → kx σ x5 = some (r, σ') → W p l e { frames := 3, cells := 0, slots := 0, locals := 72 } s m args below meth c H locs 0 0 (MQ below (uvQz G r σ') args s 0 0 (uvA G)) (F0 m 134 ls [])) : ∀ (n : Nat) (σ : St) (x5 : Int) (x6 : Int) (H : Heap) (locs : List Loc) (ls : Array Slot), uvWo G σ s H locs → lv_has ls 9 [(0, .ref (G.2.2.1 118)), (1, .int (iV x1)), (2, .int (iV x2)), (3, .int (iV x3)), (4, .int (iV x4)), (5, .int (iV x5)), (6, .int (iV x6))] → lp_X10_chooses_58 x1 x2 x3 x4 kx n σ x5 x6 = some (r, σ') → W p l e { frames := 3, cells := 0, slots := 0, locals := 72 } s m args below meth c H locs 0 0 (MQ below (uvQz G r σ') args s 0 0 (uvA G)) (F0 m 58 ls []) := by
  intro n
  induction n with
  | zero => intro σ x5 x6 H locs ls V hl h; cases h
  | succ n ih =>
    intro σ x5 x6 H locs ls V hl h
    rw [lp_X10_chooses_58] at h
    refine r_il X dX10_chooses_58 (lv_at hl 6 rfl) ?_
    refine r_aln X dX10_chooses_60 rfl (lv_at hl 0 rfl) ?_
    refine r_gi X Y V ci_10 kd_118 1 rfl (by decide) rfl rfl wd_854 dX10_chooses_61 ?_
    refine r_cge (tgt := 134) X rfl rfl dX10_chooses_64 (by decide) (fun c8 => ?_) (fun c8 => ?_)
    · replace h := ite_t c8 h
      refine r_il X dX10_chooses_67 (lv_at hl 6 rfl) ?_
      refine r_aln X dX10_chooses_69 rfl (lv_at hl 0 rfl) ?_
      refine r_gi X Y V ci_10 kd_118 27 rfl (by decide) rfl rfl wd_880 dX10_chooses_70 ?_
      refine r_ceq (tgt := 91) X rfl rfl dX10_chooses_73 (by decide) (fun c9 => ?_) (fun c9 => ?_)
      · replace h := ite_t c9 h
        refine r_ic X dX10_chooses_91 ?_
        exact wj_X10_chooses_92 X Y _ r σ' σ x1 x2 x3 x4 x5 x6 0  (fun σ m5 m6 H locs ls V hl h => ih σ m5 m6 H locs ls V hl h) _ _ _ V (lv_sub hl [0, 1, 2, 3, 4, 5, 6] rfl) h
      · replace h := ite_f c9 h
        refine r_aln X dX10_chooses_76 rfl (lv_at hl 0 rfl) ?_
        refine r_il X dX10_chooses_77 (lv_at hl 6 rfl) ?_
        refine r_ic X dX10_chooses_79 ?_
        obtain ⟨v15, hv15, h⟩ := bd1_ex h
        refine r_ki V (r_runV (As := [.int (iV x6), .int (iV 0)]) (rest := []) X Y V (c_X10_at l G σ x6 0 _  hv15) mv_X10_at wd_1008 ci_10 kd_118 ⟨rfl, rfl, Nat.le_of_ble_eq_true rfl, Nat.le_of_ble_eq_true rfl⟩ rfl rfl hl.1 (Nat.le_of_ble_eq_true rfl) ⟨Nat.le_refl 0, Nat.le_refl 0⟩ dX10_chooses_80) (fun H locs V => ?_)
        refine r_iln X dX10_chooses_83 rfl (lv_at hl 2 rfl) ?_
        have J16 : W p l e { frames := 3, cells := 0, slots := 0, locals := 72 } s m args below meth c H locs 0 0 (MQ below (uvQz G r σ') args s 0 0 (uvA G)) (F0 m 92 ls [.int (iV (if wI v15 = wI x2 then 1 else 0))]) := by
          exact wj_X10_chooses_92 X Y _ r σ' σ x1 x2 x3 x4 x5 x6 (if wI v15 = wI x2 then 1 else 0)  (fun σ m5 m6 H locs ls V hl h => ih σ m5 m6 H locs ls V hl h) _ _ _ V (lv_sub hl [0, 1, 2, 3, 4, 5, 6] rfl) h
        refine r_cne (tgt := 91) X rfl rfl dX10_chooses_84 (by decide) (fun c17 => ?_) (fun c17 => ?_)
        · skip
          refine r_ic X dX10_chooses_87 ?_
          refine r_goto (tgt := 92) X dX10_chooses_88 (by decide) ?_
          rw [if_pos c17] at J16
          exact J16
        · skip
          refine r_ic X dX10_chooses_91 ?_
          rw [if_neg c17] at J16
          exact J16
    · replace h := ite_f c8 h
      exact hkx σ x5 _ _ _ V (lv_sub hl [0, 1, 2, 3, 4, 5] rfl) h

set_option maxRecDepth 100000 in
set_option maxHeartbeats 4000000 in
theorem wl_X10_chooses_146 {p : Program} {l : Launch} {e : Env} {s : State} {m : MethodId} {args : Array Value} {below : List Frame} {meth : Method} {c : Code} {G : UG} (X : uvCx p m c cX10_chooses 9 RX10 s args meth (Option.some Jvm.ClassFile.FieldType.boolean)) (Y : uvGd G s s.heap) (x1 : Int) (x2 : Int) (x4 : Int) (x5 : Int)  (r : Int) (σ' : St) (kx : St → Int → Option (Int × St)) (hkx : ∀ (σ : St) (x6 : Int) (H : Heap) (locs : List Loc) (ls : Array Slot), uvWo G σ s H locs → lv_has ls 9 [(0, .ref (G.2.2.1 118)), (1, .int (iV x1)), (4, .int (iV x4)), (5, .int (iV x5)), (6, .int (iV x6))] → kx σ x6 = some (r, σ') → W p l e { frames := 3, cells := 0, slots := 0, locals := 72 } s m args below meth c H locs 0 0 (MQ below (uvQz G r σ') args s 0 0 (uvA G)) (F0 m 210 ls [])) : ∀ (n : Nat) (σ : St) (x6 : Int) (x7 : Int) (H : Heap) (locs : List Loc) (ls : Array Slot), uvWo G σ s H locs → lv_has ls 9 [(0, .ref (G.2.2.1 118)), (1, .int (iV x1)), (2, .int (iV x2)), (4, .int (iV x4)), (5, .int (iV x5)), (6, .int (iV x6)), (7, .int (iV x7))] → lp_X10_chooses_146 x1 x2 x4 x5 kx n σ x6 x7 = some (r, σ') → W p l e { frames := 3, cells := 0, slots := 0, locals := 72 } s m args below meth c H locs 0 0 (MQ below (uvQz G r σ') args s 0 0 (uvA G)) (F0 m 146 ls []) := by
  intro n
  induction n with
  | zero => intro σ x6 x7 H locs ls V hl h; cases h
  | succ n ih =>
    intro σ x6 x7 H locs ls V hl h
    rw [lp_X10_chooses_146] at h
    refine r_il X dX10_chooses_146 (lv_at hl 6 rfl) ?_
    refine r_aln X dX10_chooses_148 rfl (lv_at hl 0 rfl) ?_
    refine r_gi X Y V ci_10 kd_118 1 rfl (by decide) rfl rfl wd_854 dX10_chooses_149 ?_
    refine r_cge (tgt := 210) X rfl rfl dX10_chooses_152 (by decide) (fun c23 => ?_) (fun c23 => ?_)
    · replace h := ite_t c23 h
      refine r_il X dX10_chooses_155 (lv_at hl 6 rfl) ?_
      refine r_aln X dX10_chooses_157 rfl (lv_at hl 0 rfl) ?_
      refine r_gi X Y V ci_10 kd_118 27 rfl (by decide) rfl rfl wd_880 dX10_chooses_158 ?_
      refine r_ceq (tgt := 204) X rfl rfl dX10_chooses_161 (by decide) (fun c24 => ?_) (fun c24 => ?_)
      · replace h := ite_t c24 h
        refine r_inc (kk := 6) (lv' := [(7, .int (iV (x7 + 1))), (0, .ref (G.2.2.1 118)), (1, .int (iV x1)), (2, .int (iV x2)), (4, .int (iV x4)), (5, .int (iV x5)), (6, .int (iV x6))]) X dX10_chooses_204 hl rfl (by decide) rfl (fun ls hl => ?_)
        refine r_goto (tgt := 146) X dX10_chooses_207 (by decide) ?_
        exact ih σ x6 (x7 + 1) _ _ _ V (lv_sub hl [1, 2, 3, 4, 5, 6, 0] rfl) h
      · replace h := ite_f c24 h
        refine r_aln X dX10_chooses_164 rfl (lv_at hl 0 rfl) ?_
        refine r_il X dX10_chooses_165 (lv_at hl 6 rfl) ?_
        refine r_ic X dX10_chooses_167 ?_
        obtain ⟨v25, hv25, h⟩ := bd1_ex h
        refine r_ki V (r_runV (As := [.int (iV x7), .int (iV 0)]) (rest := []) X Y V (c_X10_at l G σ x7 0 _  hv25) mv_X10_at wd_1008 ci_10 kd_118 ⟨rfl, rfl, Nat.le_of_ble_eq_true rfl, Nat.le_of_ble_eq_true rfl⟩ rfl rfl hl.1 (Nat.le_of_ble_eq_true rfl) ⟨Nat.le_refl 0, Nat.le_refl 0⟩ dX10_chooses_168) (fun H locs V => ?_)
        refine r_iln X dX10_chooses_171 rfl (lv_at hl 2 rfl) ?_
        refine r_cne (tgt := 204) X rfl rfl dX10_chooses_172 (by decide) (fun c26 => ?_) (fun c26 => ?_)
        · replace h := ite_t c26 h
          refine r_aln X dX10_chooses_175 rfl (lv_at hl 0 rfl) ?_
          refine r_il X dX10_chooses_176 (lv_at hl 6 rfl) ?_
          refine r_iln X dX10_chooses_178 rfl (lv_at hl 1 rfl) ?_
          obtain ⟨v27, hv27, h⟩ := bd1_ex h
          refine r_ki V (r_runV (As := [.int (iV x7), .int (iV x1)]) (rest := []) X Y V (c_X10_goesAlong l G σ x7 x1 _  hv27) mv_X10_goesAlong wd_1142 ci_10 kd_118 ⟨rfl, rfl, Nat.le_of_ble_eq_true rfl, Nat.le_of_ble_eq_true rfl⟩ rfl rfl hl.1 (Nat.le_of_ble_eq_true rfl) ⟨Nat.le_refl 0, Nat.le_refl 0⟩ dX10_chooses_179) (fun H locs V => ?_)
          refine r_il X dX10_chooses_182 (lv_at hl 4 rfl) ?_
          refine r_cne (tgt := 204) X rfl rfl dX10_chooses_184 (by decide) (fun c28 => ?_) (fun c28 => ?_)
          · replace h := ite_t c28 h
            refine r_aln X dX10_chooses_187 rfl (lv_at hl 0 rfl) ?_
            refine r_gr X Y V ci_10 kd_118 25 rfl rfl (by decide) rfl rfl wd_878 dX10_chooses_188 ?_
            refine r_bp X dX10_chooses_191 (by decide) ?_
            refine r_iln X dX10_chooses_193 rfl (lv_at hl 1 rfl) ?_
            refine r_imul X dX10_chooses_194 ?_
            refine r_il X dX10_chooses_195 (lv_at hl 5 rfl) ?_
            refine r_iadd X dX10_chooses_197 ?_
            refine r_il X dX10_chooses_198 (lv_at hl 6 rfl) ?_
            obtain ⟨σ29, hσ29, hiσ29, h⟩ := wrA_ex h
            refine r_ias X Y V kd_135 ln_135 hiσ29 hσ29 dX10_chooses_200 (fun H locs V => ?_)
            refine r_inc (kk := 5) (lv' := [(6, .int (iV (x6 + 1))), (0, .ref (G.2.2.1 118)), (1, .int (iV x1)), (2, .int (iV x2)), (4, .int (iV x4)), (5, .int (iV x5)), (7, .int (iV x7))]) X dX10_chooses_201 hl rfl (by decide) rfl (fun ls hl => ?_)
            refine r_inc (kk := 6) (lv' := [(7, .int (iV (x7 + 1))), (6, .int (iV (x6 + 1))), (0, .ref (G.2.2.1 118)), (1, .int (iV x1)), (2, .int (iV x2)), (4, .int (iV x4)), (5, .int (iV x5))]) X dX10_chooses_204 hl rfl (by decide) rfl (fun ls hl => ?_)
            refine r_goto (tgt := 146) X dX10_chooses_207 (by decide) ?_
            exact ih σ29 (x6 + 1) (x7 + 1) _ _ _ V (lv_sub hl [2, 3, 4, 5, 6, 1, 0] rfl) h
          · replace h := ite_f c28 h
            refine r_inc (kk := 6) (lv' := [(7, .int (iV (x7 + 1))), (0, .ref (G.2.2.1 118)), (1, .int (iV x1)), (2, .int (iV x2)), (4, .int (iV x4)), (5, .int (iV x5)), (6, .int (iV x6))]) X dX10_chooses_204 hl rfl (by decide) rfl (fun ls hl => ?_)
            refine r_goto (tgt := 146) X dX10_chooses_207 (by decide) ?_
            exact ih σ x6 (x7 + 1) _ _ _ V (lv_sub hl [1, 2, 3, 4, 5, 6, 0] rfl) h
        · replace h := ite_f c26 h
          refine r_inc (kk := 6) (lv' := [(7, .int (iV (x7 + 1))), (0, .ref (G.2.2.1 118)), (1, .int (iV x1)), (2, .int (iV x2)), (4, .int (iV x4)), (5, .int (iV x5)), (6, .int (iV x6))]) X dX10_chooses_204 hl rfl (by decide) rfl (fun ls hl => ?_)
          refine r_goto (tgt := 146) X dX10_chooses_207 (by decide) ?_
          exact ih σ x6 (x7 + 1) _ _ _ V (lv_sub hl [1, 2, 3, 4, 5, 6, 0] rfl) h
    · replace h := ite_f c23 h
      exact hkx σ x6 _ _ _ V (lv_sub hl [0, 1, 3, 4, 5] rfl) h

set_option maxRecDepth 100000 in
set_option maxHeartbeats 4000000 in
theorem wl_X10_chooses_28 {p : Program} {l : Launch} {e : Env} {s : State} {m : MethodId} {args : Array Value} {below : List Frame} {meth : Method} {c : Code} {G : UG} (X : uvCx p m c cX10_chooses 9 RX10 s args meth (Option.some Jvm.ClassFile.FieldType.boolean)) (Y : uvGd G s s.heap) (x1 : Int) (x4 : Int)  (r : Int) (σ' : St) (kx : St → Option (Int × St)) (hkx : ∀ (σ : St)  (H : Heap) (locs : List Loc) (ls : Array Slot), uvWo G σ s H locs → lv_has ls 9 [] → kx σ  = some (r, σ') → W p l e { frames := 3, cells := 0, slots := 0, locals := 72 } s m args below meth c H locs 0 0 (MQ below (uvQz G r σ') args s 0 0 (uvA G)) (F0 m 257 ls [])) : ∀ (n : Nat) (σ : St) (x2 : Int) (x3 : Int) (H : Heap) (locs : List Loc) (ls : Array Slot), uvWo G σ s H locs → lv_has ls 9 [(0, .ref (G.2.2.1 118)), (1, .int (iV x1)), (2, .int (iV x2)), (3, .int (iV x3)), (4, .int (iV x4))] → lp_X10_chooses_28 x1 x4 kx n σ x2 x3 = some (r, σ') → W p l e { frames := 3, cells := 0, slots := 0, locals := 72 } s m args below meth c H locs 0 0 (MQ below (uvQz G r σ') args s 0 0 (uvA G)) (F0 m 28 ls []) := by
  intro n
  induction n with
  | zero => intro σ x2 x3 H locs ls V hl h; cases h
  | succ n ih =>
    intro σ x2 x3 H locs ls V hl h
    rw [lp_X10_chooses_28] at h
    refine r_iln X dX10_chooses_28 rfl (lv_at hl 3 rfl) ?_
    refine r_iln X dX10_chooses_29 rfl (lv_at hl 2 rfl) ?_
    refine r_ishr X dX10_chooses_30 ?_
    refine r_ic X dX10_chooses_31 ?_
    refine r_iand X dX10_chooses_32 ?_
    refine r_ne (tgt := 257) X rfl dX10_chooses_33 (by decide) (fun c5 => ?_) (fun c5 => ?_)
    · replace h := ite_t c5 h
      refine r_ic X dX10_chooses_36 ?_
      refine r_is (lv' := [(5, .int (iV (-1))), (0, .ref (G.2.2.1 118)), (1, .int (iV x1)), (2, .int (iV x2)), (3, .int (iV x3)), (4, .int (iV x4))]) X dX10_chooses_37 hl (by decide) rfl (fun ls hl => ?_)
      refine r_iln X dX10_chooses_39 rfl (lv_at hl 4 rfl) ?_
      refine r_ic X dX10_chooses_40 ?_
      refine r_iln X dX10_chooses_41 rfl (lv_at hl 3 rfl) ?_
      refine r_ishl X dX10_chooses_42 ?_
      refine r_ior X dX10_chooses_43 ?_
      obtain ⟨v6, hv6, h⟩ := bnd_ex h
      refine r_eqI hv6 ?_
      refine r_isn (lv' := [(3, .int (iV v6)), (5, .int (iV (-1))), (0, .ref (G.2.2.1 118)), (1, .int (iV x1)), (2, .int (iV x2)), (4, .int (iV x4))]) X dX10_chooses_44 rfl hl (by decide) rfl (fun ls hl => ?_)
      refine r_aln X dX10_chooses_45 rfl (lv_at hl 2 rfl) ?_
      refine r_dup X dX10_chooses_46 rfl ?_
      refine r_gi X Y V ci_10 kd_118 29 rfl (by decide) rfl rfl wd_882 dX10_chooses_47 ?_
      refine r_ic X dX10_chooses_50 ?_
      refine r_iadd X dX10_chooses_51 ?_
      obtain ⟨σ7, hσ7, h⟩ := wrF_ex h
      refine r_pi X Y V ci_10 kd_118 29 rfl (by decide) rfl rfl rfl (tyX10_ok 29 (by decide)) wd_882 hσ7 dX10_chooses_52 (fun H locs V => ?_)
      refine r_ic X dX10_chooses_55 ?_
      refine r_is (lv' := [(6, .int (iV 0)), (3, .int (iV v6)), (5, .int (iV (-1))), (0, .ref (G.2.2.1 118)), (1, .int (iV x1)), (2, .int (iV x2)), (4, .int (iV x4))]) X dX10_chooses_56 hl (by decide) rfl (fun ls hl => ?_)
      refine wl_X10_chooses_58 X Y x1 x2 v6 x4  r σ' _ (fun σ18 y19 H locs ls V hl h => ?_) 200 σ7 (-1) 0 _ _ _ V (lv_sub hl [3, 4, 5, 1, 6, 2, 0] rfl) h
      refine r_il X dX10_chooses_134 (lv_at hl 5 rfl) ?_
      refine r_ic X dX10_chooses_136 ?_
      refine r_ceq (tgt := 234) X rfl rfl dX10_chooses_137 (by decide) (fun c20 => ?_) (fun c20 => ?_)
      · replace h := ite_t c20 h
        refine r_aln X dX10_chooses_234 rfl (lv_at hl 0 rfl) ?_
        refine r_dup X dX10_chooses_235 rfl ?_
        refine r_gi X Y V ci_10 kd_118 28 rfl (by decide) rfl rfl wd_881 dX10_chooses_236 ?_
        refine r_il X dX10_chooses_239 (lv_at hl 4 rfl) ?_
        refine r_ic X dX10_chooses_241 ?_
        refine r_iadd X dX10_chooses_242 ?_
        refine r_iadd X dX10_chooses_243 ?_
        obtain ⟨σ21, hσ21, h⟩ := wrF_ex h
        refine r_pi X Y V ci_10 kd_118 28 rfl (by decide) rfl rfl rfl (tyX10_ok 28 (by decide)) wd_881 hσ21 dX10_chooses_244 (fun H locs V => ?_)
        refine r_aln X dX10_chooses_247 rfl (lv_at hl 0 rfl) ?_
        refine r_gr X Y V ci_10 kd_118 4 rfl rfl (by decide) rfl rfl wd_857 dX10_chooses_248 ?_
        refine r_iln X dX10_chooses_251 rfl (lv_at hl 2 rfl) ?_
        obtain ⟨v22, hv22, hiv22, h⟩ := rdA_ex h
        refine r_ial X Y V kd_121 ln_121 hiv22 hv22 dX10_chooses_252 ?_
        refine r_isn (lv' := [(2, .int (iV v22)), (0, .ref (G.2.2.1 118)), (1, .int (iV x1)), (3, .int (iV v6)), (4, .int (iV x4)), (5, .int (iV y19))]) X dX10_chooses_253 rfl hl (by decide) rfl (fun ls hl => ?_)
        refine r_goto (tgt := 28) X dX10_chooses_254 (by decide) ?_
        exact ih σ21 v22 v6 _ _ _ V (lv_sub hl [1, 2, 0, 3, 4] rfl) h
      · replace h := ite_f c20 h
        refine r_ic X dX10_chooses_140 ?_
        refine r_is (lv' := [(6, .int (iV 0)), (0, .ref (G.2.2.1 118)), (1, .int (iV x1)), (2, .int (iV x2)), (3, .int (iV v6)), (4, .int (iV x4)), (5, .int (iV y19))]) X dX10_chooses_141 hl (by decide) rfl (fun ls hl => ?_)
        refine r_ic X dX10_chooses_143 ?_
        refine r_is (lv' := [(7, .int (iV 0)), (6, .int (iV 0)), (0, .ref (G.2.2.1 118)), (1, .int (iV x1)), (2, .int (iV x2)), (3, .int (iV v6)), (4, .int (iV x4)), (5, .int (iV y19))]) X dX10_chooses_144 hl (by decide) rfl (fun ls hl => ?_)
        refine wl_X10_chooses_146 X Y x1 x2 x4 y19  r σ' _ (fun σ30 y31 H locs ls V hl h => ?_) 200 σ18 0 0 _ _ _ V (lv_sub hl [2, 3, 4, 6, 7, 1, 0] rfl) h
        refine r_aln X dX10_chooses_210 rfl (lv_at hl 0 rfl) ?_
        refine r_gr X Y V ci_10 kd_118 26 rfl rfl (by decide) rfl rfl wd_879 dX10_chooses_211 ?_
        refine r_iln X dX10_chooses_214 rfl (lv_at hl 1 rfl) ?_
        refine r_il X dX10_chooses_215 (lv_at hl 4 rfl) ?_
        obtain ⟨σ32, hσ32, hiσ32, h⟩ := wrA_ex h
        refine r_ias X Y V kd_136 ln_136 hiσ32 hσ32 dX10_chooses_217 (fun H locs V => ?_)
        refine r_aln X dX10_chooses_218 rfl (lv_at hl 0 rfl) ?_
        refine r_dup X dX10_chooses_219 rfl ?_
        refine r_gi X Y V ci_10 kd_118 28 rfl (by decide) rfl rfl wd_881 dX10_chooses_220 ?_
        refine r_il X dX10_chooses_223 (lv_at hl 2 rfl) ?_
        refine r_il X dX10_chooses_225 (lv_at hl 3 rfl) ?_
        refine r_isub X dX10_chooses_227 ?_
        refine r_iadd X dX10_chooses_228 ?_
        obtain ⟨σ33, hσ33, h⟩ := wrF_ex h
        refine r_pi X Y V ci_10 kd_118 28 rfl (by decide) rfl rfl rfl (tyX10_ok 28 (by decide)) wd_881 hσ33 dX10_chooses_229 (fun H locs V => ?_)
        refine r_ic X dX10_chooses_232 ?_
        exact r_rz X V (Or.inr rfl) (so2 h).1 (so2 h).2 dX10_chooses_233
    · replace h := ite_f c5 h
      exact hkx σ  _ _ _ V (lv_sub hl [] rfl) h

set_option maxRecDepth 100000 in
set_option maxHeartbeats 4000000 in
theorem c_X10_chooses (l : Launch) (G : UG) (σ : St) (a1 : Int) (r : Int) (σ' : St)  (h : f_X10_chooses σ a1 = some (r, σ')) : Met l yX10_chooses (.code yX10_chooses cX10_chooses 9 (Option.some Jvm.ClassFile.FieldType.boolean) :: TB) { frames := 3, cells := 0, slots := 0, locals := 72 } (uvPc G σ [.ref (G.2.2.1 118), .int (iV a1)]) (uvQz G r σ') 0 0 (uvA G) := by
  unfold f_X10_chooses at h
  refine r_met (own := RX10) (lv := [(0, .ref (G.2.2.1 118)), (1, .int (iV a1))]) (by decide) rfl (Nat.le_of_ble_eq_true rfl) rfl ?_
  intro p e s m below meth c ls X Y V hl
  have go : ∀ (args : Array Value) (H : Heap) (locs : List Loc), uvCx p m c cX10_chooses 9 RX10 s args meth (Option.some Jvm.ClassFile.FieldType.boolean) → uvWo G σ s H locs → W p l e { frames := 3, cells := 0, slots := 0, locals := 72 } s m args below meth c H locs 0 0 (MQ below (uvQz G r σ') args s 0 0 (uvA G)) (F0 m 0 ls []) := by
    intro args H locs X V
    refine r_aln X dX10_chooses_0 rfl (lv_at hl 0 rfl) ?_
    refine r_gr X Y V ci_10 kd_118 2 rfl rfl (by decide) rfl rfl wd_855 dX10_chooses_1 ?_
    refine r_ic X dX10_chooses_4 ?_
    refine r_iln X dX10_chooses_5 rfl (lv_at hl 1 rfl) ?_
    refine r_imul X dX10_chooses_6 ?_
    obtain ⟨v1, hv1, hiv1, h⟩ := rdA_ex h
    refine r_ial X Y V kd_120 ln_120 hiv1 hv1 dX10_chooses_7 ?_
    refine r_isn (lv' := [(2, .int (iV v1)), (0, .ref (G.2.2.1 118)), (1, .int (iV a1))]) X dX10_chooses_8 rfl hl (by decide) rfl (fun ls hl => ?_)
    refine r_ic X dX10_chooses_9 ?_
    refine r_isn (lv' := [(3, .int (iV 0)), (2, .int (iV v1)), (0, .ref (G.2.2.1 118)), (1, .int (iV a1))]) X dX10_chooses_10 rfl hl (by decide) rfl (fun ls hl => ?_)
    refine r_aln X dX10_chooses_11 rfl (lv_at hl 2 rfl) ?_
    refine r_iln X dX10_chooses_12 rfl (lv_at hl 3 rfl) ?_
    obtain ⟨v2, hv2, h⟩ := bd1_ex h
    refine r_ki V (r_runV (As := [.int (iV a1)]) (rest := []) X Y V (c_X10_wayLong l G σ a1 _  hv2) mv_X10_wayLong wd_1138 ci_10 kd_118 ⟨rfl, rfl, Nat.le_of_ble_eq_true rfl, Nat.le_of_ble_eq_true rfl⟩ rfl rfl hl.1 (Nat.le_of_ble_eq_true rfl) ⟨Nat.le_refl 0, Nat.le_refl 0⟩ dX10_chooses_13) (fun H locs V => ?_)
    refine r_is (lv' := [(4, .int (iV v2)), (3, .int (iV 0)), (2, .int (iV v1)), (0, .ref (G.2.2.1 118)), (1, .int (iV a1))]) X dX10_chooses_16 hl (by decide) rfl (fun ls hl => ?_)
    refine r_aln X dX10_chooses_18 rfl (lv_at hl 3 rfl) ?_
    refine r_ic X dX10_chooses_19 ?_
    obtain ⟨σ3, hσ3, h⟩ := wrF_ex h
    refine r_pi X Y V ci_10 kd_118 28 rfl (by decide) rfl rfl rfl (tyX10_ok 28 (by decide)) wd_881 hσ3 dX10_chooses_20 (fun H locs V => ?_)
    refine r_aln X dX10_chooses_23 rfl (lv_at hl 3 rfl) ?_
    refine r_ic X dX10_chooses_24 ?_
    obtain ⟨σ4, hσ4, h⟩ := wrF_ex h
    refine r_pi X Y V ci_10 kd_118 29 rfl (by decide) rfl rfl rfl (tyX10_ok 29 (by decide)) wd_882 hσ4 dX10_chooses_25 (fun H locs V => ?_)
    refine wl_X10_chooses_28 X Y a1 v2  r σ' _ (fun σ34  H locs ls V hl h => ?_) 200 σ4 v1 0 _ _ _ V (lv_sub hl [3, 4, 2, 1, 0] rfl) h
    refine r_ic X dX10_chooses_257 ?_
    exact r_rz X V (Or.inl rfl) (so2 h).1 (so2 h).2 dX10_chooses_258
  exact go _ _ _ X V

set_option maxRecDepth 100000 in
set_option maxHeartbeats 4000000 in
theorem wj_X10_choice_27 {p : Program} {l : Launch} {e : Env} {s : State} {m : MethodId} {args : Array Value} {below : List Frame} {meth : Method} {c : Code} {G : UG} (X : uvCx p m c cX10_choice 3 RX10 s args meth (Option.some Jvm.ClassFile.FieldType.int)) (Y : uvGd G s s.heap) (r : Int) (σ' : St) (σ : St) (x1 : Int) (x2 : Int)  (H : Heap) (locs : List Loc) (ls : Array Slot) (V : uvWo G σ s H locs) (hl : lv_has ls 3 [(0, .ref (G.2.2.1 118)), (1, .int (iV x1)), (2, .int (iV x2))]) (h : jn_X10_choice_27 σ x1 x2 = some (r, σ')) : W p l e { frames := 4, cells := 0, slots := 0, locals := 100 } s m args below meth c H locs 0 0 (MQ below (uvQi G r σ') args s 0 0 (uvA G)) (F0 m 27 ls []) := by
  unfold jn_X10_choice_27 at h
  refine r_iln X dX10_choice_27 rfl (lv_at hl 2 rfl) ?_
  refine r_ic X dX10_choice_28 ?_
  refine r_cge (tgt := 39) X rfl rfl dX10_choice_29 (by decide) (fun c7 => ?_) (fun c7 => ?_)
  · replace h := ite_t c7 h
    refine r_aln X dX10_choice_32 rfl (lv_at hl 0 rfl) ?_
    refine r_bp X dX10_choice_33 (by decide) ?_
    obtain ⟨v8, σ9, hv8, h⟩ := bd2_ex h
    refine r_ki V (r_runV (As := [.int (iV (-10))]) (rest := []) X Y V (c_X10_bad l G σ (-10) _ _  hv8) mv_X10_bad wd_988 ci_10 kd_118 ⟨rfl, rfl, Nat.le_of_ble_eq_true rfl, Nat.le_of_ble_eq_true rfl⟩ rfl rfl hl.1 (Nat.le_of_ble_eq_true rfl) ⟨Nat.le_refl 0, Nat.le_refl 0⟩ dX10_choice_35) (fun H locs V => ?_)
    exact r_ri X V (so2 h).1 (so2 h).2 dX10_choice_38
  · replace h := ite_f c7 h
    refine r_aln X dX10_choice_39 rfl (lv_at hl 0 rfl) ?_
    refine r_gi X Y V ci_10 kd_118 3 rfl (by decide) rfl rfl wd_856 dX10_choice_40 ?_
    refine r_eq (tgt := 54) X rfl dX10_choice_43 (by decide) (fun c10 => ?_) (fun c10 => ?_)
    · replace h := ite_t c10 h
      refine r_aln X dX10_choice_54 rfl (lv_at hl 0 rfl) ?_
      obtain ⟨v11, σ12, hv11, h⟩ := bd2_ex h
      refine r_ki V (r_runV (As := []) (rest := []) X Y V (c_X10_no l G σ  _ _  hv11) mv_X10_no wd_1146 ci_10 kd_118 ⟨rfl, rfl, Nat.le_of_ble_eq_true rfl, Nat.le_of_ble_eq_true rfl⟩ rfl rfl hl.1 (Nat.le_of_ble_eq_true rfl) ⟨Nat.le_refl 0, Nat.le_refl 0⟩ dX10_choice_55) (fun H locs V => ?_)
      exact r_ri X V (so2 h).1 (so2 h).2 dX10_choice_58
    · replace h := ite_f c10 h
      refine r_aln X dX10_choice_46 rfl (lv_at hl 0 rfl) ?_
      refine r_iln X dX10_choice_47 rfl (lv_at hl 1 rfl) ?_
      obtain ⟨v13, σ14, hv13, h⟩ := bd2_ex h
      refine r_kz V (r_runV (As := [.int (iV x1)]) (rest := []) X Y V (c_X10_chooses l G σ x1 _ _  hv13) mv_X10_chooses wd_1134 ci_10 kd_118 ⟨rfl, rfl, Nat.le_of_ble_eq_true rfl, Nat.le_of_ble_eq_true rfl⟩ rfl rfl hl.1 (Nat.le_of_ble_eq_true rfl) ⟨Nat.le_refl 0, Nat.le_refl 0⟩ dX10_choice_48) (fun H locs V z15 => ?_)
      refine r_ne (tgt := 59) X (wI_01 z15) dX10_choice_51 (by decide) (fun c16 => ?_) (fun c16 => ?_)
      · replace h := ite_t c16 h
        refine r_aln X dX10_choice_54 rfl (lv_at hl 0 rfl) ?_
        obtain ⟨v17, σ18, hv17, h⟩ := bd2_ex h
        refine r_ki V (r_runV (As := []) (rest := []) X Y V (c_X10_no l G σ14  _ _  hv17) mv_X10_no wd_1146 ci_10 kd_118 ⟨rfl, rfl, Nat.le_of_ble_eq_true rfl, Nat.le_of_ble_eq_true rfl⟩ rfl rfl hl.1 (Nat.le_of_ble_eq_true rfl) ⟨Nat.le_refl 0, Nat.le_refl 0⟩ dX10_choice_55) (fun H locs V => ?_)
        exact r_ri X V (so2 h).1 (so2 h).2 dX10_choice_58
      · replace h := ite_f c16 h
        refine r_iln X dX10_choice_59 rfl (lv_at hl 2 rfl) ?_
        refine r_ic X dX10_choice_60 ?_
        refine r_cne (tgt := 73) X rfl rfl dX10_choice_61 (by decide) (fun c19 => ?_) (fun c19 => ?_)
        · replace h := ite_t c19 h
          refine r_aln X dX10_choice_64 rfl (lv_at hl 0 rfl) ?_
          refine r_gr X Y V ci_10 kd_118 26 rfl rfl (by decide) rfl rfl wd_879 dX10_choice_65 ?_
          refine r_iln X dX10_choice_68 rfl (lv_at hl 1 rfl) ?_
          obtain ⟨v20, hv20, hiv20, h⟩ := rdA_ex h
          refine r_ial X Y V kd_136 ln_136 hiv20 hv20 dX10_choice_69 ?_
          refine r_goto (tgt := 99) X dX10_choice_70 (by decide) ?_
          exact r_ri X V (so2 h).1 (so2 h).2 dX10_choice_99
        · replace h := ite_f c19 h
          refine r_iln X dX10_choice_73 rfl (lv_at hl 2 rfl) ?_
          refine r_aln X dX10_choice_74 rfl (lv_at hl 0 rfl) ?_
          refine r_gr X Y V ci_10 kd_118 26 rfl rfl (by decide) rfl rfl wd_879 dX10_choice_75 ?_
          refine r_iln X dX10_choice_78 rfl (lv_at hl 1 rfl) ?_
          obtain ⟨v21, hv21, hiv21, h⟩ := rdA_ex h
          refine r_ial X Y V kd_136 ln_136 hiv21 hv21 dX10_choice_79 ?_
          refine r_cge (tgt := 97) X rfl rfl dX10_choice_80 (by decide) (fun c22 => ?_) (fun c22 => ?_)
          · replace h := ite_t c22 h
            refine r_aln X dX10_choice_83 rfl (lv_at hl 0 rfl) ?_
            refine r_gr X Y V ci_10 kd_118 25 rfl rfl (by decide) rfl rfl wd_878 dX10_choice_84 ?_
            refine r_bp X dX10_choice_87 (by decide) ?_
            refine r_iln X dX10_choice_89 rfl (lv_at hl 1 rfl) ?_
            refine r_imul X dX10_choice_90 ?_
            refine r_iln X dX10_choice_91 rfl (lv_at hl 2 rfl) ?_
            refine r_iadd X dX10_choice_92 ?_
            obtain ⟨v23, hv23, hiv23, h⟩ := rdA_ex h
            refine r_ial X Y V kd_135 ln_135 hiv23 hv23 dX10_choice_93 ?_
            refine r_goto (tgt := 99) X dX10_choice_94 (by decide) ?_
            exact r_ri X V (so2 h).1 (so2 h).2 dX10_choice_99
          · replace h := ite_f c22 h
            refine r_bp X dX10_choice_97 (by decide) ?_
            exact r_ri X V (so2 h).1 (so2 h).2 dX10_choice_99

set_option maxRecDepth 100000 in
set_option maxHeartbeats 4000000 in
theorem c_X10_choice (l : Launch) (G : UG) (σ : St) (a1 : Int) (a2 : Int) (r : Int) (σ' : St)  (h : f_X10_choice σ a1 a2 = some (r, σ')) : Met l yX10_choice (.code yX10_choice cX10_choice 3 (Option.some Jvm.ClassFile.FieldType.int) :: TB) { frames := 4, cells := 0, slots := 0, locals := 100 } (uvPc G σ [.ref (G.2.2.1 118), .int (iV a1), .int (iV a2)]) (uvQi G r σ') 0 0 (uvA G) := by
  unfold f_X10_choice at h
  refine r_met (own := RX10) (lv := [(0, .ref (G.2.2.1 118)), (1, .int (iV a1)), (2, .int (iV a2))]) (by decide) rfl (Nat.le_of_ble_eq_true rfl) rfl ?_
  intro p e s m below meth c ls X Y V hl
  have go : ∀ (args : Array Value) (H : Heap) (locs : List Loc), uvCx p m c cX10_choice 3 RX10 s args meth (Option.some Jvm.ClassFile.FieldType.int) → uvWo G σ s H locs → W p l e { frames := 4, cells := 0, slots := 0, locals := 100 } s m args below meth c H locs 0 0 (MQ below (uvQi G r σ') args s 0 0 (uvA G)) (F0 m 0 ls []) := by
    intro args H locs X V
    refine r_iln X dX10_choice_0 rfl (lv_at hl 1 rfl) ?_
    refine r_i2l X dX10_choice_1 ?_
    refine r_lc (v := 0) X dX10_choice_2 rfl ?_
    refine r_ldc2 X (n := 7) wd_1133 (by decide) dX10_choice_3 ?_
    refine r_kz V (r_runS (As := [.long (lV (i2lI a1)), .long (lV 0), .long (lV 7)]) (rest := []) X Y V (c_X10_in l G σ (i2lI a1) 0 7 _  rfl) ms_X10_in wd_982 ⟨rfl, rfl, Nat.le_of_ble_eq_true rfl, Nat.le_of_ble_eq_true rfl⟩ rfl rfl hl.1 (Nat.le_of_ble_eq_true rfl) ⟨Nat.le_refl 0, Nat.le_refl 0⟩ dX10_choice_6) (fun H locs V z1 => ?_)
    refine r_eq (tgt := 32) X (wI_01 z1) dX10_choice_9 (by decide) (fun c2 => ?_) (fun c2 => ?_)
    · replace h := ite_t c2 h
      refine r_aln X dX10_choice_32 rfl (lv_at hl 0 rfl) ?_
      refine r_bp X dX10_choice_33 (by decide) ?_
      obtain ⟨v3, σ4, hv3, h⟩ := bd2_ex h
      refine r_ki V (r_runV (As := [.int (iV (-10))]) (rest := []) X Y V (c_X10_bad l G σ (-10) _ _  hv3) mv_X10_bad wd_988 ci_10 kd_118 ⟨rfl, rfl, Nat.le_of_ble_eq_true rfl, Nat.le_of_ble_eq_true rfl⟩ rfl rfl hl.1 (Nat.le_of_ble_eq_true rfl) ⟨Nat.le_refl 0, Nat.le_refl 0⟩ dX10_choice_35) (fun H locs V => ?_)
      exact r_ri X V (so2 h).1 (so2 h).2 dX10_choice_38
    · replace h := ite_f c2 h
      refine r_aln X dX10_choice_12 rfl (lv_at hl 0 rfl) ?_
      refine r_gi X Y V ci_10 kd_118 3 rfl (by decide) rfl rfl wd_856 dX10_choice_13 ?_
      refine r_le (tgt := 27) X rfl dX10_choice_16 (by decide) (fun c5 => ?_) (fun c5 => ?_)
      · replace h := ite_t c5 h
        refine r_iln X dX10_choice_19 rfl (lv_at hl 1 rfl) ?_
        refine r_aln X dX10_choice_20 rfl (lv_at hl 0 rfl) ?_
        refine r_gi X Y V ci_10 kd_118 3 rfl (by decide) rfl rfl wd_856 dX10_choice_21 ?_
        refine r_cge (tgt := 32) X rfl rfl dX10_choice_24 (by decide) (fun c6 => ?_) (fun c6 => ?_)
        · replace h := ite_t c6 h
          exact wj_X10_choice_27 X Y r σ' σ a1 a2  _ _ _ V (lv_sub hl [0, 1, 2] rfl) h
        · replace h := ite_f c6 h
          refine r_aln X dX10_choice_32 rfl (lv_at hl 0 rfl) ?_
          refine r_bp X dX10_choice_33 (by decide) ?_
          obtain ⟨v24, σ25, hv24, h⟩ := bd2_ex h
          refine r_ki V (r_runV (As := [.int (iV (-10))]) (rest := []) X Y V (c_X10_bad l G σ (-10) _ _  hv24) mv_X10_bad wd_988 ci_10 kd_118 ⟨rfl, rfl, Nat.le_of_ble_eq_true rfl, Nat.le_of_ble_eq_true rfl⟩ rfl rfl hl.1 (Nat.le_of_ble_eq_true rfl) ⟨Nat.le_refl 0, Nat.le_refl 0⟩ dX10_choice_35) (fun H locs V => ?_)
          exact r_ri X V (so2 h).1 (so2 h).2 dX10_choice_38
      · replace h := ite_f c5 h
        exact wj_X10_choice_27 X Y r σ' σ a1 a2  _ _ _ V (lv_sub hl [0, 1, 2] rfl) h
  exact go _ _ _ X V

set_option maxRecDepth 100000 in
set_option maxHeartbeats 4000000 in
theorem c_X10_steps (l : Launch) (G : UG) (σ : St) (a1 : Int) (r : Int) (σ' : St)  (h : f_X10_steps σ a1 = some (r, σ')) : Met l yX10_steps (.code yX10_steps cX10_steps 2 (Option.some Jvm.ClassFile.FieldType.int) :: TB) { frames := 4, cells := 0, slots := 0, locals := 100 } (uvPc G σ [.ref (G.2.2.1 118), .int (iV a1)]) (uvQi G r σ') 0 0 (uvA G) := by
  unfold f_X10_steps at h
  refine r_met (own := RX10) (lv := [(0, .ref (G.2.2.1 118)), (1, .int (iV a1))]) (by decide) rfl (Nat.le_of_ble_eq_true rfl) rfl ?_
  intro p e s m below meth c ls X Y V hl
  have go : ∀ (args : Array Value) (H : Heap) (locs : List Loc), uvCx p m c cX10_steps 2 RX10 s args meth (Option.some Jvm.ClassFile.FieldType.int) → uvWo G σ s H locs → W p l e { frames := 4, cells := 0, slots := 0, locals := 100 } s m args below meth c H locs 0 0 (MQ below (uvQi G r σ') args s 0 0 (uvA G)) (F0 m 0 ls []) := by
    intro args H locs X V
    refine r_aln X dX10_steps_0 rfl (lv_at hl 0 rfl) ?_
    refine r_iln X dX10_steps_1 rfl (lv_at hl 1 rfl) ?_
    refine r_kz V (r_runV (As := [.int (iV a1)]) (rest := []) X Y V (c_X10_isTarget l G σ a1 _  rfl) mv_X10_isTarget wd_1088 ci_10 kd_118 ⟨rfl, rfl, Nat.le_of_ble_eq_true rfl, Nat.le_of_ble_eq_true rfl⟩ rfl rfl hl.1 (Nat.le_of_ble_eq_true rfl) ⟨Nat.le_refl 0, Nat.le_refl 0⟩ dX10_steps_2) (fun H locs V z1 => ?_)
    refine r_ne (tgt := 15) X (wI_01 z1) dX10_steps_5 (by decide) (fun c2 => ?_) (fun c2 => ?_)
    · replace h := ite_t c2 h
      refine r_aln X dX10_steps_8 rfl (lv_at hl 0 rfl) ?_
      refine r_bp X dX10_steps_9 (by decide) ?_
      obtain ⟨v3, σ4, hv3, h⟩ := bd2_ex h
      refine r_ki V (r_runV (As := [.int (iV (-2))]) (rest := []) X Y V (c_X10_bad l G σ (-2) _ _  hv3) mv_X10_bad wd_988 ci_10 kd_118 ⟨rfl, rfl, Nat.le_of_ble_eq_true rfl, Nat.le_of_ble_eq_true rfl⟩ rfl rfl hl.1 (Nat.le_of_ble_eq_true rfl) ⟨Nat.le_refl 0, Nat.le_refl 0⟩ dX10_steps_11) (fun H locs V => ?_)
      exact r_ri X V (so2 h).1 (so2 h).2 dX10_steps_14
    · replace h := ite_f c2 h
      refine r_aln X dX10_steps_15 rfl (lv_at hl 0 rfl) ?_
      refine r_iln X dX10_steps_16 rfl (lv_at hl 1 rfl) ?_
      obtain ⟨v5, σ6, hv5, h⟩ := bd2_ex h
      refine r_kz V (r_runV (As := [.int (iV a1)]) (rest := []) X Y V (c_X10_chooses l G σ a1 _ _  hv5) mv_X10_chooses wd_1134 ci_10 kd_118 ⟨rfl, rfl, Nat.le_of_ble_eq_true rfl, Nat.le_of_ble_eq_true rfl⟩ rfl rfl hl.1 (Nat.le_of_ble_eq_true rfl) ⟨Nat.le_refl 0, Nat.le_refl 0⟩ dX10_steps_17) (fun H locs V z7 => ?_)
      have J8 : W p l e { frames := 4, cells := 0, slots := 0, locals := 100 } s m args below meth c H locs 0 0 (MQ below (uvQi G r σ') args s 0 0 (uvA G)) (F0 m 31 ls [.int (iV (if v5 = 0 then (-1) else σ6 118 28))]) := by
        exact r_ri X V (so2 h).1 (so2 h).2 dX10_steps_31
      refine r_eq (tgt := 30) X (wI_01 z7) dX10_steps_20 (by decide) (fun c9 => ?_) (fun c9 => ?_)
      · skip
        refine r_ic X dX10_steps_30 ?_
        rw [if_pos c9] at J8
        exact J8
      · skip
        refine r_aln X dX10_steps_23 rfl (lv_at hl 0 rfl) ?_
        refine r_gi X Y V ci_10 kd_118 28 rfl (by decide) rfl rfl wd_881 dX10_steps_24 ?_
        refine r_goto (tgt := 31) X dX10_steps_27 (by decide) ?_
        rw [if_neg c9] at J8
        exact J8
  exact go _ _ _ X V

set_option maxRecDepth 100000 in
set_option maxHeartbeats 4000000 in
theorem c_X10_tried (l : Launch) (G : UG) (σ : St) (a1 : Int) (r : Int) (σ' : St)  (h : f_X10_tried σ a1 = some (r, σ')) : Met l yX10_tried (.code yX10_tried cX10_tried 3 (Option.some Jvm.ClassFile.FieldType.int) :: TB) { frames := 4, cells := 0, slots := 0, locals := 100 } (uvPc G σ [.ref (G.2.2.1 118), .int (iV a1)]) (uvQi G r σ') 0 0 (uvA G) := by
  unfold f_X10_tried at h
  refine r_met (own := RX10) (lv := [(0, .ref (G.2.2.1 118)), (1, .int (iV a1))]) (by decide) rfl (Nat.le_of_ble_eq_true rfl) rfl ?_
  intro p e s m below meth c ls X Y V hl
  have go : ∀ (args : Array Value) (H : Heap) (locs : List Loc), uvCx p m c cX10_tried 3 RX10 s args meth (Option.some Jvm.ClassFile.FieldType.int) → uvWo G σ s H locs → W p l e { frames := 4, cells := 0, slots := 0, locals := 100 } s m args below meth c H locs 0 0 (MQ below (uvQi G r σ') args s 0 0 (uvA G)) (F0 m 0 ls []) := by
    intro args H locs X V
    refine r_aln X dX10_tried_0 rfl (lv_at hl 0 rfl) ?_
    refine r_iln X dX10_tried_1 rfl (lv_at hl 1 rfl) ?_
    refine r_kz V (r_runV (As := [.int (iV a1)]) (rest := []) X Y V (c_X10_isTarget l G σ a1 _  rfl) mv_X10_isTarget wd_1088 ci_10 kd_118 ⟨rfl, rfl, Nat.le_of_ble_eq_true rfl, Nat.le_of_ble_eq_true rfl⟩ rfl rfl hl.1 (Nat.le_of_ble_eq_true rfl) ⟨Nat.le_refl 0, Nat.le_refl 0⟩ dX10_tried_2) (fun H locs V z1 => ?_)
    refine r_ne (tgt := 15) X (wI_01 z1) dX10_tried_5 (by decide) (fun c2 => ?_) (fun c2 => ?_)
    · replace h := ite_t c2 h
      refine r_aln X dX10_tried_8 rfl (lv_at hl 0 rfl) ?_
      refine r_bp X dX10_tried_9 (by decide) ?_
      obtain ⟨v3, σ4, hv3, h⟩ := bd2_ex h
      refine r_ki V (r_runV (As := [.int (iV (-2))]) (rest := []) X Y V (c_X10_bad l G σ (-2) _ _  hv3) mv_X10_bad wd_988 ci_10 kd_118 ⟨rfl, rfl, Nat.le_of_ble_eq_true rfl, Nat.le_of_ble_eq_true rfl⟩ rfl rfl hl.1 (Nat.le_of_ble_eq_true rfl) ⟨Nat.le_refl 0, Nat.le_refl 0⟩ dX10_tried_11) (fun H locs V => ?_)
      exact r_ri X V (so2 h).1 (so2 h).2 dX10_tried_14
    · replace h := ite_f c2 h
      refine r_aln X dX10_tried_15 rfl (lv_at hl 0 rfl) ?_
      refine r_iln X dX10_tried_16 rfl (lv_at hl 1 rfl) ?_
      obtain ⟨v5, σ6, hv5, h⟩ := bd2_ex h
      refine r_kz V (r_runV (As := [.int (iV a1)]) (rest := []) X Y V (c_X10_chooses l G σ a1 _ _  hv5) mv_X10_chooses wd_1134 ci_10 kd_118 ⟨rfl, rfl, Nat.le_of_ble_eq_true rfl, Nat.le_of_ble_eq_true rfl⟩ rfl rfl hl.1 (Nat.le_of_ble_eq_true rfl) ⟨Nat.le_refl 0, Nat.le_refl 0⟩ dX10_tried_17) (fun H locs V z7 => ?_)
      refine r_isn (lv' := [(2, .int (iV v5)), (0, .ref (G.2.2.1 118)), (1, .int (iV a1))]) X dX10_tried_20 rfl hl (by decide) rfl (fun ls hl => ?_)
      refine r_aln X dX10_tried_21 rfl (lv_at hl 1 rfl) ?_
      refine r_gi X Y V ci_10 kd_118 29 rfl (by decide) rfl rfl wd_882 dX10_tried_22 ?_
      exact r_ri X V (so2 h).1 (so2 h).2 dX10_tried_25
  exact go _ _ _ X V

set_option maxRecDepth 100000 in
set_option maxHeartbeats 4000000 in
theorem c_X10_fitAs (l : Launch) (G : UG) (σ0 : St) (a1 : Int) (a2 : Int) (a3 : Int) (r : Int)  (h : f_X10_fitAs σ0 a1 a2 a3 = some r) : Met l yX10_fitAs (.code yX10_fitAs cX10_fitAs 7 (Option.some Jvm.ClassFile.FieldType.int) :: TB) { frames := 1, cells := 0, slots := 0, locals := 22 } (uvPc G σ0 [.ref (G.2.2.1 118), .int (iV a1), .int (iV a2), .int (iV a3)]) (uvQi G r σ0) 0 0 (uvA G) := by
  unfold f_X10_fitAs at h
  refine r_met (own := RX10) (lv := [(0, .ref (G.2.2.1 118)), (1, .int (iV a1)), (2, .int (iV a2)), (3, .int (iV a3))]) (by decide) rfl (Nat.le_of_ble_eq_true rfl) rfl ?_
  intro p e s m below meth c ls X Y V hl
  have go : ∀ (args : Array Value) (H : Heap) (locs : List Loc), uvCx p m c cX10_fitAs 7 RX10 s args meth (Option.some Jvm.ClassFile.FieldType.int) → uvWo G σ0 s H locs → W p l e { frames := 1, cells := 0, slots := 0, locals := 22 } s m args below meth c H locs 0 0 (MQ below (uvQi G r σ0) args s 0 0 (uvA G)) (F0 m 0 ls []) := by
    intro args H locs X V
    refine r_aln X dX10_fitAs_0 rfl (lv_at hl 0 rfl) ?_
    refine r_iln X dX10_fitAs_1 rfl (lv_at hl 2 rfl) ?_
    refine r_ic X dX10_fitAs_2 ?_
    obtain ⟨v1, hv1, h⟩ := bd1_ex h
    refine r_ki V (r_runV (As := [.int (iV a2), .int (iV 3)]) (rest := []) X Y V (c_X10_at l G σ0 a2 3 _  hv1) mv_X10_at wd_1008 ci_10 kd_118 ⟨rfl, rfl, Nat.le_of_ble_eq_true rfl, Nat.le_of_ble_eq_true rfl⟩ rfl rfl hl.1 (Nat.le_of_ble_eq_true rfl) ⟨Nat.le_refl 0, Nat.le_refl 0⟩ dX10_fitAs_3) (fun H locs V => ?_)
    refine r_aln X dX10_fitAs_6 rfl (lv_at hl 0 rfl) ?_
    refine r_gr X Y V ci_10 kd_118 2 rfl rfl (by decide) rfl rfl wd_855 dX10_fitAs_7 ?_
    refine r_ic X dX10_fitAs_10 ?_
    refine r_iln X dX10_fitAs_11 rfl (lv_at hl 3 rfl) ?_
    refine r_imul X dX10_fitAs_12 ?_
    refine r_ic X dX10_fitAs_13 ?_
    refine r_iadd X dX10_fitAs_14 ?_
    obtain ⟨v2, hv2, hiv2, h⟩ := rdA_ex h
    refine r_ial X Y V kd_120 ln_120 hiv2 hv2 dX10_fitAs_15 ?_
    refine r_ki V (r_runS (As := [.int (iV v1), .int (iV v2)]) (rest := []) X Y V (c_X10_far l G σ0 v1 v2 _  rfl) ms_X10_far wd_1166 ⟨rfl, rfl, Nat.le_of_ble_eq_true rfl, Nat.le_of_ble_eq_true rfl⟩ rfl rfl hl.1 (Nat.le_of_ble_eq_true rfl) ⟨Nat.le_refl 0, Nat.le_refl 0⟩ dX10_fitAs_16) (fun H locs V => ?_)
    obtain ⟨v3, hv3, h⟩ := bnd_ex h
    refine r_eqI hv3 ?_
    refine r_is (lv' := [(4, .int (iV v3)), (0, .ref (G.2.2.1 118)), (1, .int (iV a1)), (2, .int (iV a2)), (3, .int (iV a3))]) X dX10_fitAs_19 hl (by decide) rfl (fun ls hl => ?_)
    refine r_il X dX10_fitAs_21 (lv_at hl 0 rfl) ?_
    refine r_aln X dX10_fitAs_23 rfl (lv_at hl 1 rfl) ?_
    refine r_iln X dX10_fitAs_24 rfl (lv_at hl 3 rfl) ?_
    refine r_ic X dX10_fitAs_25 ?_
    obtain ⟨v4, hv4, h⟩ := bd1_ex h
    refine r_ki V (r_runV (As := [.int (iV a2), .int (iV 4)]) (rest := [.int (iV v3)]) X Y V (c_X10_at l G σ0 a2 4 _  hv4) mv_X10_at wd_1008 ci_10 kd_118 ⟨rfl, rfl, Nat.le_of_ble_eq_true rfl, Nat.le_of_ble_eq_true rfl⟩ rfl rfl hl.1 (Nat.le_of_ble_eq_true rfl) ⟨Nat.le_refl 0, Nat.le_refl 0⟩ dX10_fitAs_26) (fun H locs V => ?_)
    refine r_aln X dX10_fitAs_29 rfl (lv_at hl 1 rfl) ?_
    refine r_gr X Y V ci_10 kd_118 2 rfl rfl (by decide) rfl rfl wd_855 dX10_fitAs_30 ?_
    refine r_ic X dX10_fitAs_33 ?_
    refine r_iln X dX10_fitAs_34 rfl (lv_at hl 4 rfl) ?_
    refine r_imul X dX10_fitAs_35 ?_
    refine r_ic X dX10_fitAs_36 ?_
    refine r_iadd X dX10_fitAs_37 ?_
    obtain ⟨v5, hv5, hiv5, h⟩ := rdA_ex h
    refine r_ial X Y V kd_120 ln_120 hiv5 hv5 dX10_fitAs_38 ?_
    refine r_ki V (r_runS (As := [.int (iV v4), .int (iV v5)]) (rest := [.int (iV v3)]) X Y V (c_X10_far l G σ0 v4 v5 _  rfl) ms_X10_far wd_1166 ⟨rfl, rfl, Nat.le_of_ble_eq_true rfl, Nat.le_of_ble_eq_true rfl⟩ rfl rfl hl.1 (Nat.le_of_ble_eq_true rfl) ⟨Nat.le_refl 0, Nat.le_refl 0⟩ dX10_fitAs_39) (fun H locs V => ?_)
    refine r_iadd X dX10_fitAs_42 ?_
    obtain ⟨v6, hv6, h⟩ := bnd_ex h
    refine r_eqI hv6 ?_
    refine r_is (lv' := [(5, .int (iV v6)), (4, .int (iV v3)), (0, .ref (G.2.2.1 118)), (1, .int (iV a1)), (2, .int (iV a2)), (3, .int (iV a3))]) X dX10_fitAs_43 hl (by decide) rfl (fun ls hl => ?_)
    refine r_il X dX10_fitAs_45 (lv_at hl 0 rfl) ?_
    refine r_aln X dX10_fitAs_47 rfl (lv_at hl 2 rfl) ?_
    refine r_iln X dX10_fitAs_48 rfl (lv_at hl 4 rfl) ?_
    refine r_ic X dX10_fitAs_49 ?_
    obtain ⟨v7, hv7, h⟩ := bd1_ex h
    refine r_ki V (r_runV (As := [.int (iV a2), .int (iV 1)]) (rest := [.int (iV v6)]) X Y V (c_X10_at l G σ0 a2 1 _  hv7) mv_X10_at wd_1008 ci_10 kd_118 ⟨rfl, rfl, Nat.le_of_ble_eq_true rfl, Nat.le_of_ble_eq_true rfl⟩ rfl rfl hl.1 (Nat.le_of_ble_eq_true rfl) ⟨Nat.le_refl 0, Nat.le_refl 0⟩ dX10_fitAs_50) (fun H locs V => ?_)
    refine r_aln X dX10_fitAs_53 rfl (lv_at hl 2 rfl) ?_
    refine r_iln X dX10_fitAs_54 rfl (lv_at hl 5 rfl) ?_
    obtain ⟨v8, hv8, h⟩ := bd1_ex h
    refine r_ki V (r_runV (As := [.int (iV a3)]) (rest := [.int (iV v7), .int (iV v6)]) X Y V (c_X10_targetLeft l G σ0 a3 _  hv8) mv_X10_targetLeft wd_1092 ci_10 kd_118 ⟨rfl, rfl, Nat.le_of_ble_eq_true rfl, Nat.le_of_ble_eq_true rfl⟩ rfl rfl hl.1 (Nat.le_of_ble_eq_true rfl) ⟨Nat.le_refl 0, Nat.le_refl 0⟩ dX10_fitAs_55) (fun H locs V => ?_)
    have J9 : W p l e { frames := 1, cells := 0, slots := 0, locals := 22 } s m args below meth c H locs 0 0 (MQ below (uvQi G r σ0) args s 0 0 (uvA G)) (F0 m 66 ls [.int (iV (if wI v7 = wI v8 then 0 else 2)), .int (iV v6)]) := by
      refine r_iadd X dX10_fitAs_66 ?_
      refine r_aln X dX10_fitAs_67 rfl (lv_at hl 2 rfl) ?_
      refine r_iln X dX10_fitAs_68 rfl (lv_at hl 4 rfl) ?_
      refine r_ic X dX10_fitAs_69 ?_
      obtain ⟨v10, hv10, h⟩ := bd1_ex h
      refine r_ki V (r_runV (As := [.int (iV a2), .int (iV 2)]) (rest := [.int (iV (v6 + (if wI v7 = wI v8 then 0 else 2)))]) X Y V (c_X10_at l G σ0 a2 2 _  hv10) mv_X10_at wd_1008 ci_10 kd_118 ⟨rfl, rfl, Nat.le_of_ble_eq_true rfl, Nat.le_of_ble_eq_true rfl⟩ rfl rfl hl.1 (Nat.le_of_ble_eq_true rfl) ⟨Nat.le_refl 0, Nat.le_refl 0⟩ dX10_fitAs_70) (fun H locs V => ?_)
      refine r_aln X dX10_fitAs_73 rfl (lv_at hl 2 rfl) ?_
      refine r_iln X dX10_fitAs_74 rfl (lv_at hl 5 rfl) ?_
      obtain ⟨v11, hv11, h⟩ := bd1_ex h
      refine r_ki V (r_runV (As := [.int (iV a3)]) (rest := [.int (iV v10), .int (iV (v6 + (if wI v7 = wI v8 then 0 else 2)))]) X Y V (c_X10_targetRight l G σ0 a3 _  hv11) mv_X10_targetRight wd_1096 ci_10 kd_118 ⟨rfl, rfl, Nat.le_of_ble_eq_true rfl, Nat.le_of_ble_eq_true rfl⟩ rfl rfl hl.1 (Nat.le_of_ble_eq_true rfl) ⟨Nat.le_refl 0, Nat.le_refl 0⟩ dX10_fitAs_75) (fun H locs V => ?_)
      have J12 : W p l e { frames := 1, cells := 0, slots := 0, locals := 22 } s m args below meth c H locs 0 0 (MQ below (uvQi G r σ0) args s 0 0 (uvA G)) (F0 m 86 ls [.int (iV (if wI v10 = wI v11 then 0 else 2)), .int (iV (v6 + (if wI v7 = wI v8 then 0 else 2)))]) := by
        refine r_iadd X dX10_fitAs_86 ?_
        obtain ⟨v13, hv13, h⟩ := bnd_ex h
        refine r_eqI hv13 ?_
        refine r_is (lv' := [(6, .int (iV v13)), (5, .int (iV v6)), (4, .int (iV v3)), (0, .ref (G.2.2.1 118)), (1, .int (iV a1)), (2, .int (iV a2)), (3, .int (iV a3))]) X dX10_fitAs_87 hl (by decide) rfl (fun ls hl => ?_)
        refine r_iln X dX10_fitAs_89 rfl (lv_at hl 4 rfl) ?_
        refine r_ne (tgt := 98) X rfl dX10_fitAs_90 (by decide) (fun c14 => ?_) (fun c14 => ?_)
        · replace h := ite_t c14 h
          refine r_il X dX10_fitAs_93 (lv_at hl 1 rfl) ?_
          refine r_goto (tgt := 140) X dX10_fitAs_95 (by decide) ?_
          exact r_ri X V (so1 h) rfl dX10_fitAs_140
        · replace h := ite_f c14 h
          refine r_iln X dX10_fitAs_98 rfl (lv_at hl 4 rfl) ?_
          refine r_ic X dX10_fitAs_99 ?_
          refine r_cne (tgt := 108) X rfl rfl dX10_fitAs_100 (by decide) (fun c15 => ?_) (fun c15 => ?_)
          · replace h := ite_t c15 h
            refine r_il X dX10_fitAs_103 (lv_at hl 0 rfl) ?_
            refine r_goto (tgt := 140) X dX10_fitAs_105 (by decide) ?_
            exact r_ri X V (so1 h) rfl dX10_fitAs_140
          · replace h := ite_f c15 h
            refine r_iln X dX10_fitAs_108 rfl (lv_at hl 4 rfl) ?_
            refine r_ic X dX10_fitAs_109 ?_
            refine r_cne (tgt := 121) X rfl rfl dX10_fitAs_110 (by decide) (fun c16 => ?_) (fun c16 => ?_)
            · replace h := ite_t c16 h
              refine r_il X dX10_fitAs_113 (lv_at hl 1 rfl) ?_
              refine r_il X dX10_fitAs_115 (lv_at hl 2 rfl) ?_
              refine r_iadd X dX10_fitAs_117 ?_
              refine r_goto (tgt := 140) X dX10_fitAs_118 (by decide) ?_
              exact r_ri X V (so1 h) rfl dX10_fitAs_140
            · replace h := ite_f c16 h
              refine r_iln X dX10_fitAs_121 rfl (lv_at hl 4 rfl) ?_
              refine r_ic X dX10_fitAs_122 ?_
              refine r_cne (tgt := 133) X rfl rfl dX10_fitAs_123 (by decide) (fun c17 => ?_) (fun c17 => ?_)
              · replace h := ite_t c17 h
                refine r_ic X dX10_fitAs_126 ?_
                refine r_il X dX10_fitAs_127 (lv_at hl 0 rfl) ?_
                refine r_imul X dX10_fitAs_129 ?_
                refine r_goto (tgt := 140) X dX10_fitAs_130 (by decide) ?_
                exact r_ri X V (so1 h) rfl dX10_fitAs_140
              · replace h := ite_f c17 h
                refine r_il X dX10_fitAs_133 (lv_at hl 1 rfl) ?_
                refine r_il X dX10_fitAs_135 (lv_at hl 2 rfl) ?_
                refine r_iadd X dX10_fitAs_137 ?_
                refine r_ic X dX10_fitAs_138 ?_
                refine r_idiv X (by decide) dX10_fitAs_139 ?_
                exact r_ri X V (so1 h) rfl dX10_fitAs_140
      refine r_cne (tgt := 85) X rfl rfl dX10_fitAs_78 (by decide) (fun c18 => ?_) (fun c18 => ?_)
      · skip
        refine r_ic X dX10_fitAs_81 ?_
        refine r_goto (tgt := 86) X dX10_fitAs_82 (by decide) ?_
        rw [if_pos c18] at J12
        exact J12
      · skip
        refine r_ic X dX10_fitAs_85 ?_
        rw [if_neg c18] at J12
        exact J12
    refine r_cne (tgt := 65) X rfl rfl dX10_fitAs_58 (by decide) (fun c19 => ?_) (fun c19 => ?_)
    · skip
      refine r_ic X dX10_fitAs_61 ?_
      refine r_goto (tgt := 66) X dX10_fitAs_62 (by decide) ?_
      rw [if_pos c19] at J9
      exact J9
    · skip
      refine r_ic X dX10_fitAs_65 ?_
      rw [if_neg c19] at J9
      exact J9
  exact go _ _ _ X V

set_option maxRecDepth 100000 in
set_option maxHeartbeats 4000000 in
theorem c_X10_fit (l : Launch) (G : UG) (σ : St) (a1 : Int) (a2 : Int) (r : Int) (σ' : St)  (h : f_X10_fit σ a1 a2 = some (r, σ')) : Met l yX10_fit (.code yX10_fit cX10_fit 3 (Option.some Jvm.ClassFile.FieldType.int) :: TB) { frames := 2, cells := 0, slots := 0, locals := 48 } (uvPc G σ [.ref (G.2.2.1 118), .int (iV a1), .int (iV a2)]) (uvQi G r σ') 0 0 (uvA G) := by
  unfold f_X10_fit at h
  refine r_met (own := RX10) (lv := [(0, .ref (G.2.2.1 118)), (1, .int (iV a1)), (2, .int (iV a2))]) (by decide) rfl (Nat.le_of_ble_eq_true rfl) rfl ?_
  intro p e s m below meth c ls X Y V hl
  have go : ∀ (args : Array Value) (H : Heap) (locs : List Loc), uvCx p m c cX10_fit 3 RX10 s args meth (Option.some Jvm.ClassFile.FieldType.int) → uvWo G σ s H locs → W p l e { frames := 2, cells := 0, slots := 0, locals := 48 } s m args below meth c H locs 0 0 (MQ below (uvQi G r σ') args s 0 0 (uvA G)) (F0 m 0 ls []) := by
    intro args H locs X V
    refine r_aln X dX10_fit_0 rfl (lv_at hl 0 rfl) ?_
    refine r_iln X dX10_fit_1 rfl (lv_at hl 1 rfl) ?_
    refine r_kz V (r_runV (As := [.int (iV a1)]) (rest := []) X Y V (c_X10_isUnit l G σ a1 _  rfl) mv_X10_isUnit wd_1020 ci_10 kd_118 ⟨rfl, rfl, Nat.le_of_ble_eq_true rfl, Nat.le_of_ble_eq_true rfl⟩ rfl rfl hl.1 (Nat.le_of_ble_eq_true rfl) ⟨Nat.le_refl 0, Nat.le_refl 0⟩ dX10_fit_2) (fun H locs V z1 => ?_)
    refine r_eq (tgt := 29) X (wI_01 z1) dX10_fit_5 (by decide) (fun c2 => ?_) (fun c2 => ?_)
    · replace h := ite_t c2 h
      refine r_aln X dX10_fit_29 rfl (lv_at hl 0 rfl) ?_
      refine r_bp X dX10_fit_30 (by decide) ?_
      obtain ⟨v3, σ4, hv3, h⟩ := bd2_ex h
      refine r_ki V (r_runV (As := [.int (iV (-2))]) (rest := []) X Y V (c_X10_bad l G σ (-2) _ _  hv3) mv_X10_bad wd_988 ci_10 kd_118 ⟨rfl, rfl, Nat.le_of_ble_eq_true rfl, Nat.le_of_ble_eq_true rfl⟩ rfl rfl hl.1 (Nat.le_of_ble_eq_true rfl) ⟨Nat.le_refl 0, Nat.le_refl 0⟩ dX10_fit_32) (fun H locs V => ?_)
      exact r_ri X V (so2 h).1 (so2 h).2 dX10_fit_35
    · replace h := ite_f c2 h
      refine r_aln X dX10_fit_8 rfl (lv_at hl 0 rfl) ?_
      refine r_iln X dX10_fit_9 rfl (lv_at hl 2 rfl) ?_
      refine r_kz V (r_runV (As := [.int (iV a2)]) (rest := []) X Y V (c_X10_isTarget l G σ a2 _  rfl) mv_X10_isTarget wd_1088 ci_10 kd_118 ⟨rfl, rfl, Nat.le_of_ble_eq_true rfl, Nat.le_of_ble_eq_true rfl⟩ rfl rfl hl.1 (Nat.le_of_ble_eq_true rfl) ⟨Nat.le_refl 0, Nat.le_refl 0⟩ dX10_fit_10) (fun H locs V z5 => ?_)
      refine r_eq (tgt := 29) X (wI_01 z5) dX10_fit_13 (by decide) (fun c6 => ?_) (fun c6 => ?_)
      · replace h := ite_t c6 h
        refine r_aln X dX10_fit_29 rfl (lv_at hl 0 rfl) ?_
        refine r_bp X dX10_fit_30 (by decide) ?_
        obtain ⟨v7, σ8, hv7, h⟩ := bd2_ex h
        refine r_ki V (r_runV (As := [.int (iV (-2))]) (rest := []) X Y V (c_X10_bad l G σ (-2) _ _  hv7) mv_X10_bad wd_988 ci_10 kd_118 ⟨rfl, rfl, Nat.le_of_ble_eq_true rfl, Nat.le_of_ble_eq_true rfl⟩ rfl rfl hl.1 (Nat.le_of_ble_eq_true rfl) ⟨Nat.le_refl 0, Nat.le_refl 0⟩ dX10_fit_32) (fun H locs V => ?_)
        exact r_ri X V (so2 h).1 (so2 h).2 dX10_fit_35
      · replace h := ite_f c6 h
        refine r_aln X dX10_fit_16 rfl (lv_at hl 0 rfl) ?_
        refine r_aln X dX10_fit_17 rfl (lv_at hl 0 rfl) ?_
        refine r_gi X Y V ci_10 kd_118 5 rfl (by decide) rfl rfl wd_858 dX10_fit_18 ?_
        refine r_iln X dX10_fit_21 rfl (lv_at hl 1 rfl) ?_
        refine r_iln X dX10_fit_22 rfl (lv_at hl 2 rfl) ?_
        obtain ⟨v9, hv9, h⟩ := bd1_ex h
        refine r_ki V (r_runV (As := [.int (iV (σ 118 5)), .int (iV a1), .int (iV a2)]) (rest := []) X Y V (c_X10_fitAs l G σ (σ 118 5) a1 a2 _  hv9) mv_X10_fitAs wd_1162 ci_10 kd_118 ⟨rfl, rfl, Nat.le_of_ble_eq_true rfl, Nat.le_of_ble_eq_true rfl⟩ rfl rfl hl.1 (Nat.le_of_ble_eq_true rfl) ⟨Nat.le_refl 0, Nat.le_refl 0⟩ dX10_fit_23) (fun H locs V => ?_)
        refine r_goto (tgt := 35) X dX10_fit_26 (by decide) ?_
        exact r_ri X V (so2 h).1 (so2 h).2 dX10_fit_35
  exact go _ _ _ X V

set_option maxRecDepth 100000 in
set_option maxHeartbeats 4000000 in
theorem c_X10_jointOf (l : Launch) (G : UG) (σ0 : St) (a1 : Int) (a2 : Int) (r : Int)  (h : f_X10_jointOf σ0 a1 a2 = some r) : Met l yX10_jointOf (.code yX10_jointOf cX10_jointOf 3 (Option.some Jvm.ClassFile.FieldType.int) :: TB) { frames := 2, cells := 0, slots := 0, locals := 44 } (uvPc G σ0 [.ref (G.2.2.1 118), .int (iV a1), .int (iV a2)]) (uvQi G r σ0) 0 0 (uvA G) := by
  unfold f_X10_jointOf at h
  refine r_met (own := RX10) (lv := [(0, .ref (G.2.2.1 118)), (1, .int (iV a1)), (2, .int (iV a2))]) (by decide) rfl (Nat.le_of_ble_eq_true rfl) rfl ?_
  intro p e s m below meth c ls X Y V hl
  have go : ∀ (args : Array Value) (H : Heap) (locs : List Loc), uvCx p m c cX10_jointOf 3 RX10 s args meth (Option.some Jvm.ClassFile.FieldType.int) → uvWo G σ0 s H locs → W p l e { frames := 2, cells := 0, slots := 0, locals := 44 } s m args below meth c H locs 0 0 (MQ below (uvQi G r σ0) args s 0 0 (uvA G)) (F0 m 0 ls []) := by
    intro args H locs X V
    refine r_aln X dX10_jointOf_0 rfl (lv_at hl 0 rfl) ?_
    refine r_iln X dX10_jointOf_1 rfl (lv_at hl 1 rfl) ?_
    obtain ⟨v1, hv1, h⟩ := bd1_ex h
    refine r_ki V (r_runV (As := [.int (iV a1)]) (rest := []) X Y V (c_X10_nextOf l G σ0 a1 _  hv1) mv_X10_nextOf wd_1024 ci_10 kd_118 ⟨rfl, rfl, Nat.le_of_ble_eq_true rfl, Nat.le_of_ble_eq_true rfl⟩ rfl rfl hl.1 (Nat.le_of_ble_eq_true rfl) ⟨Nat.le_refl 0, Nat.le_refl 0⟩ dX10_jointOf_2) (fun H locs V => ?_)
    refine r_iln X dX10_jointOf_5 rfl (lv_at hl 2 rfl) ?_
    refine r_cne (tgt := 11) X rfl rfl dX10_jointOf_6 (by decide) (fun c2 => ?_) (fun c2 => ?_)
    · replace h := ite_t c2 h
      refine r_ic X dX10_jointOf_9 ?_
      exact r_ri X V (so1 h) rfl dX10_jointOf_10
    · replace h := ite_f c2 h
      refine r_ic X dX10_jointOf_11 ?_
      refine r_aln X dX10_jointOf_12 rfl (lv_at hl 0 rfl) ?_
      refine r_iln X dX10_jointOf_13 rfl (lv_at hl 1 rfl) ?_
      refine r_ic X dX10_jointOf_14 ?_
      obtain ⟨v3, hv3, h⟩ := bd1_ex h
      refine r_ki V (r_runV (As := [.int (iV a1), .int (iV 3)]) (rest := [.int (iV 3)]) X Y V (c_X10_at l G σ0 a1 3 _  hv3) mv_X10_at wd_1008 ci_10 kd_118 ⟨rfl, rfl, Nat.le_of_ble_eq_true rfl, Nat.le_of_ble_eq_true rfl⟩ rfl rfl hl.1 (Nat.le_of_ble_eq_true rfl) ⟨Nat.le_refl 0, Nat.le_refl 0⟩ dX10_jointOf_15) (fun H locs V => ?_)
      refine r_aln X dX10_jointOf_18 rfl (lv_at hl 0 rfl) ?_
      refine r_iln X dX10_jointOf_19 rfl (lv_at hl 2 rfl) ?_
      refine r_ic X dX10_jointOf_20 ?_
      obtain ⟨v4, hv4, h⟩ := bd1_ex h
      refine r_ki V (r_runV (As := [.int (iV a2), .int (iV 3)]) (rest := [.int (iV v3), .int (iV 3)]) X Y V (c_X10_at l G σ0 a2 3 _  hv4) mv_X10_at wd_1008 ci_10 kd_118 ⟨rfl, rfl, Nat.le_of_ble_eq_true rfl, Nat.le_of_ble_eq_true rfl⟩ rfl rfl hl.1 (Nat.le_of_ble_eq_true rfl) ⟨Nat.le_refl 0, Nat.le_refl 0⟩ dX10_jointOf_21) (fun H locs V => ?_)
      refine r_ki V (r_runS (As := [.int (iV v3), .int (iV v4)]) (rest := [.int (iV 3)]) X Y V (c_X10_far l G σ0 v3 v4 _  rfl) ms_X10_far wd_1166 ⟨rfl, rfl, Nat.le_of_ble_eq_true rfl, Nat.le_of_ble_eq_true rfl⟩ rfl rfl hl.1 (Nat.le_of_ble_eq_true rfl) ⟨Nat.le_refl 0, Nat.le_refl 0⟩ dX10_jointOf_24) (fun H locs V => ?_)
      refine r_iadd X dX10_jointOf_27 ?_
      refine r_aln X dX10_jointOf_28 rfl (lv_at hl 0 rfl) ?_
      refine r_iln X dX10_jointOf_29 rfl (lv_at hl 1 rfl) ?_
      refine r_ic X dX10_jointOf_30 ?_
      obtain ⟨v5, hv5, h⟩ := bd1_ex h
      refine r_ki V (r_runV (As := [.int (iV a1), .int (iV 2)]) (rest := [.int (iV (3 + (f_X10_far v3 v4)))]) X Y V (c_X10_at l G σ0 a1 2 _  hv5) mv_X10_at wd_1008 ci_10 kd_118 ⟨rfl, rfl, Nat.le_of_ble_eq_true rfl, Nat.le_of_ble_eq_true rfl⟩ rfl rfl hl.1 (Nat.le_of_ble_eq_true rfl) ⟨Nat.le_refl 0, Nat.le_refl 0⟩ dX10_jointOf_31) (fun H locs V => ?_)
      refine r_aln X dX10_jointOf_34 rfl (lv_at hl 0 rfl) ?_
      refine r_iln X dX10_jointOf_35 rfl (lv_at hl 2 rfl) ?_
      refine r_ic X dX10_jointOf_36 ?_
      obtain ⟨v6, hv6, h⟩ := bd1_ex h
      refine r_ki V (r_runV (As := [.int (iV a2), .int (iV 0)]) (rest := [.int (iV v5), .int (iV (3 + (f_X10_far v3 v4)))]) X Y V (c_X10_at l G σ0 a2 0 _  hv6) mv_X10_at wd_1008 ci_10 kd_118 ⟨rfl, rfl, Nat.le_of_ble_eq_true rfl, Nat.le_of_ble_eq_true rfl⟩ rfl rfl hl.1 (Nat.le_of_ble_eq_true rfl) ⟨Nat.le_refl 0, Nat.le_refl 0⟩ dX10_jointOf_37) (fun H locs V => ?_)
      have J7 : W p l e { frames := 2, cells := 0, slots := 0, locals := 44 } s m args below meth c H locs 0 0 (MQ below (uvQi G r σ0) args s 0 0 (uvA G)) (F0 m 48 ls [.int (iV (if wI v5 = wI v6 then 0 else 2)), .int (iV (3 + (f_X10_far v3 v4)))]) := by
        refine r_iadd X dX10_jointOf_48 ?_
        refine r_aln X dX10_jointOf_49 rfl (lv_at hl 0 rfl) ?_
        refine r_iln X dX10_jointOf_50 rfl (lv_at hl 2 rfl) ?_
        refine r_ic X dX10_jointOf_51 ?_
        obtain ⟨v8, hv8, h⟩ := bd1_ex h
        refine r_ki V (r_runV (As := [.int (iV a2), .int (iV 1)]) (rest := [.int (iV ((3 + (f_X10_far v3 v4)) + (if wI v5 = wI v6 then 0 else 2)))]) X Y V (c_X10_at l G σ0 a2 1 _  hv8) mv_X10_at wd_1008 ci_10 kd_118 ⟨rfl, rfl, Nat.le_of_ble_eq_true rfl, Nat.le_of_ble_eq_true rfl⟩ rfl rfl hl.1 (Nat.le_of_ble_eq_true rfl) ⟨Nat.le_refl 0, Nat.le_refl 0⟩ dX10_jointOf_52) (fun H locs V => ?_)
        refine r_aln X dX10_jointOf_55 rfl (lv_at hl 0 rfl) ?_
        refine r_iln X dX10_jointOf_56 rfl (lv_at hl 1 rfl) ?_
        refine r_ic X dX10_jointOf_57 ?_
        obtain ⟨v9, hv9, h⟩ := bd1_ex h
        refine r_ki V (r_runV (As := [.int (iV a1), .int (iV 0)]) (rest := [.int (iV v8), .int (iV ((3 + (f_X10_far v3 v4)) + (if wI v5 = wI v6 then 0 else 2)))]) X Y V (c_X10_at l G σ0 a1 0 _  hv9) mv_X10_at wd_1008 ci_10 kd_118 ⟨rfl, rfl, Nat.le_of_ble_eq_true rfl, Nat.le_of_ble_eq_true rfl⟩ rfl rfl hl.1 (Nat.le_of_ble_eq_true rfl) ⟨Nat.le_refl 0, Nat.le_refl 0⟩ dX10_jointOf_58) (fun H locs V => ?_)
        have J10 : W p l e { frames := 2, cells := 0, slots := 0, locals := 44 } s m args below meth c H locs 0 0 (MQ below (uvQi G r σ0) args s 0 0 (uvA G)) (F0 m 69 ls [.int (iV (if wI v8 = wI v9 then 0 else 2)), .int (iV ((3 + (f_X10_far v3 v4)) + (if wI v5 = wI v6 then 0 else 2)))]) := by
          refine r_iadd X dX10_jointOf_69 ?_
          exact r_ri X V (so1 h) rfl dX10_jointOf_70
        refine r_cne (tgt := 68) X rfl rfl dX10_jointOf_61 (by decide) (fun c11 => ?_) (fun c11 => ?_)
        · skip
          refine r_ic X dX10_jointOf_64 ?_
          refine r_goto (tgt := 69) X dX10_jointOf_65 (by decide) ?_
          rw [if_pos c11] at J10
          exact J10
        · skip
          refine r_ic X dX10_jointOf_68 ?_
          rw [if_neg c11] at J10
          exact J10
      refine r_cne (tgt := 47) X rfl rfl dX10_jointOf_40 (by decide) (fun c12 => ?_) (fun c12 => ?_)
      · skip
        refine r_ic X dX10_jointOf_43 ?_
        refine r_goto (tgt := 48) X dX10_jointOf_44 (by decide) ?_
        rw [if_pos c12] at J7
        exact J7
      · skip
        refine r_ic X dX10_jointOf_47 ?_
        rw [if_neg c12] at J7
        exact J7
  exact go _ _ _ X V

set_option maxRecDepth 100000 in
set_option maxHeartbeats 4000000 in
theorem c_X10_joint (l : Launch) (G : UG) (σ : St) (a1 : Int) (a2 : Int) (r : Int) (σ' : St)  (h : f_X10_joint σ a1 a2 = some (r, σ')) : Met l yX10_joint (.code yX10_joint cX10_joint 3 (Option.some Jvm.ClassFile.FieldType.int) :: TB) { frames := 3, cells := 0, slots := 0, locals := 66 } (uvPc G σ [.ref (G.2.2.1 118), .int (iV a1), .int (iV a2)]) (uvQi G r σ') 0 0 (uvA G) := by
  unfold f_X10_joint at h
  refine r_met (own := RX10) (lv := [(0, .ref (G.2.2.1 118)), (1, .int (iV a1)), (2, .int (iV a2))]) (by decide) rfl (Nat.le_of_ble_eq_true rfl) rfl ?_
  intro p e s m below meth c ls X Y V hl
  have go : ∀ (args : Array Value) (H : Heap) (locs : List Loc), uvCx p m c cX10_joint 3 RX10 s args meth (Option.some Jvm.ClassFile.FieldType.int) → uvWo G σ s H locs → W p l e { frames := 3, cells := 0, slots := 0, locals := 66 } s m args below meth c H locs 0 0 (MQ below (uvQi G r σ') args s 0 0 (uvA G)) (F0 m 0 ls []) := by
    intro args H locs X V
    refine r_aln X dX10_joint_0 rfl (lv_at hl 0 rfl) ?_
    refine r_iln X dX10_joint_1 rfl (lv_at hl 1 rfl) ?_
    refine r_kz V (r_runV (As := [.int (iV a1)]) (rest := []) X Y V (c_X10_isUnit l G σ a1 _  rfl) mv_X10_isUnit wd_1020 ci_10 kd_118 ⟨rfl, rfl, Nat.le_of_ble_eq_true rfl, Nat.le_of_ble_eq_true rfl⟩ rfl rfl hl.1 (Nat.le_of_ble_eq_true rfl) ⟨Nat.le_refl 0, Nat.le_refl 0⟩ dX10_joint_2) (fun H locs V z1 => ?_)
    refine r_eq (tgt := 25) X (wI_01 z1) dX10_joint_5 (by decide) (fun c2 => ?_) (fun c2 => ?_)
    · replace h := ite_t c2 h
      refine r_aln X dX10_joint_25 rfl (lv_at hl 0 rfl) ?_
      refine r_bp X dX10_joint_26 (by decide) ?_
      obtain ⟨v3, σ4, hv3, h⟩ := bd2_ex h
      refine r_ki V (r_runV (As := [.int (iV (-2))]) (rest := []) X Y V (c_X10_bad l G σ (-2) _ _  hv3) mv_X10_bad wd_988 ci_10 kd_118 ⟨rfl, rfl, Nat.le_of_ble_eq_true rfl, Nat.le_of_ble_eq_true rfl⟩ rfl rfl hl.1 (Nat.le_of_ble_eq_true rfl) ⟨Nat.le_refl 0, Nat.le_refl 0⟩ dX10_joint_28) (fun H locs V => ?_)
      exact r_ri X V (so2 h).1 (so2 h).2 dX10_joint_31
    · replace h := ite_f c2 h
      refine r_aln X dX10_joint_8 rfl (lv_at hl 0 rfl) ?_
      refine r_iln X dX10_joint_9 rfl (lv_at hl 2 rfl) ?_
      refine r_kz V (r_runV (As := [.int (iV a2)]) (rest := []) X Y V (c_X10_isUnit l G σ a2 _  rfl) mv_X10_isUnit wd_1020 ci_10 kd_118 ⟨rfl, rfl, Nat.le_of_ble_eq_true rfl, Nat.le_of_ble_eq_true rfl⟩ rfl rfl hl.1 (Nat.le_of_ble_eq_true rfl) ⟨Nat.le_refl 0, Nat.le_refl 0⟩ dX10_joint_10) (fun H locs V z5 => ?_)
      refine r_eq (tgt := 25) X (wI_01 z5) dX10_joint_13 (by decide) (fun c6 => ?_) (fun c6 => ?_)
      · replace h := ite_t c6 h
        refine r_aln X dX10_joint_25 rfl (lv_at hl 0 rfl) ?_
        refine r_bp X dX10_joint_26 (by decide) ?_
        obtain ⟨v7, σ8, hv7, h⟩ := bd2_ex h
        refine r_ki V (r_runV (As := [.int (iV (-2))]) (rest := []) X Y V (c_X10_bad l G σ (-2) _ _  hv7) mv_X10_bad wd_988 ci_10 kd_118 ⟨rfl, rfl, Nat.le_of_ble_eq_true rfl, Nat.le_of_ble_eq_true rfl⟩ rfl rfl hl.1 (Nat.le_of_ble_eq_true rfl) ⟨Nat.le_refl 0, Nat.le_refl 0⟩ dX10_joint_28) (fun H locs V => ?_)
        exact r_ri X V (so2 h).1 (so2 h).2 dX10_joint_31
      · replace h := ite_f c6 h
        refine r_aln X dX10_joint_16 rfl (lv_at hl 0 rfl) ?_
        refine r_iln X dX10_joint_17 rfl (lv_at hl 1 rfl) ?_
        refine r_iln X dX10_joint_18 rfl (lv_at hl 2 rfl) ?_
        obtain ⟨v9, hv9, h⟩ := bd1_ex h
        refine r_ki V (r_runV (As := [.int (iV a1), .int (iV a2)]) (rest := []) X Y V (c_X10_jointOf l G σ a1 a2 _  hv9) mv_X10_jointOf wd_1173 ci_10 kd_118 ⟨rfl, rfl, Nat.le_of_ble_eq_true rfl, Nat.le_of_ble_eq_true rfl⟩ rfl rfl hl.1 (Nat.le_of_ble_eq_true rfl) ⟨Nat.le_refl 0, Nat.le_refl 0⟩ dX10_joint_19) (fun H locs V => ?_)
        refine r_goto (tgt := 31) X dX10_joint_22 (by decide) ?_
        exact r_ri X V (so2 h).1 (so2 h).2 dX10_joint_31
  exact go _ _ _ X V

set_option maxRecDepth 100000 in
set_option maxHeartbeats 4000000 in
theorem c_X10_begins (l : Launch) (G : UG) (σ : St)  (r : Int) (σ' : St)  (h : f_X10_begins σ = some (r, σ')) : Met l yX10_begins (.code yX10_begins cX10_begins 1 (Option.none : Option Jvm.ClassFile.FieldType) :: TB) { frames := 0, cells := 0, slots := 0, locals := 0 } (uvPc G σ [.ref (G.2.2.1 118)]) (uvQv G σ') 0 0 (uvA G) := by
  unfold f_X10_begins at h
  refine r_met (own := RX10) (lv := [(0, .ref (G.2.2.1 118))]) (by decide) rfl (Nat.le_of_ble_eq_true rfl) rfl ?_
  intro p e s m below meth c ls X Y V hl
  have go : ∀ (args : Array Value) (H : Heap) (locs : List Loc), uvCx p m c cX10_begins 1 RX10 s args meth (Option.none : Option Jvm.ClassFile.FieldType) → uvWo G σ s H locs → W p l e { frames := 0, cells := 0, slots := 0, locals := 0 } s m args below meth c H locs 0 0 (MQ below (uvQv G σ') args s 0 0 (uvA G)) (F0 m 0 ls []) := by
    intro args H locs X V
    refine r_aln X dX10_begins_0 rfl (lv_at hl 0 rfl) ?_
    refine r_ic X dX10_begins_1 ?_
    obtain ⟨σ1, hσ1, h⟩ := wrF_ex h
    refine r_pi X Y V ci_10 kd_118 34 rfl (by decide) rfl rfl rfl (tyX10_ok 34 (by decide)) wd_887 hσ1 dX10_begins_2 (fun H locs V => ?_)
    refine r_aln X dX10_begins_5 rfl (lv_at hl 0 rfl) ?_
    refine r_ic X dX10_begins_6 ?_
    obtain ⟨σ2, hσ2, h⟩ := wrF_ex h
    refine r_pi X Y V ci_10 kd_118 35 rfl (by decide) rfl rfl rfl (tyX10_ok 35 (by decide)) wd_888 hσ2 dX10_begins_7 (fun H locs V => ?_)
    refine r_aln X dX10_begins_10 rfl (lv_at hl 0 rfl) ?_
    refine r_ic X dX10_begins_11 ?_
    obtain ⟨σ3, hσ3, h⟩ := wrF_ex h
    refine r_pi X Y V ci_10 kd_118 36 rfl (by decide) rfl rfl rfl (tyX10_ok 36 (by decide)) wd_889 hσ3 dX10_begins_12 (fun H locs V => ?_)
    refine r_aln X dX10_begins_15 rfl (lv_at hl 0 rfl) ?_
    refine r_ic X dX10_begins_16 ?_
    obtain ⟨σ4, hσ4, h⟩ := wrF_ex h
    refine r_pi X Y V ci_10 kd_118 37 rfl (by decide) rfl rfl rfl (tyX10_ok 37 (by decide)) wd_890 hσ4 dX10_begins_17 (fun H locs V => ?_)
    exact r_rv X V (so2 h).2 dX10_begins_20
  exact go _ _ _ X V

set_option maxRecDepth 100000 in
set_option maxHeartbeats 4000000 in
theorem c_X10_offers (l : Launch) (G : UG) (σ : St) (a1 : Int) (r : Int) (σ' : St)  (h : f_X10_offers σ a1 = some (r, σ')) : Met l yX10_offers (.code yX10_offers cX10_offers 2 (Option.none : Option Jvm.ClassFile.FieldType) :: TB) { frames := 0, cells := 0, slots := 0, locals := 0 } (uvPc G σ [.ref (G.2.2.1 118), .int (iV a1)]) (uvQv G σ') 0 0 (uvA G) := by
  unfold f_X10_offers at h
  refine r_met (own := RX10) (lv := [(0, .ref (G.2.2.1 118)), (1, .int (iV a1))]) (by decide) rfl (Nat.le_of_ble_eq_true rfl) rfl ?_
  intro p e s m below meth c ls X Y V hl
  have go : ∀ (args : Array Value) (H : Heap) (locs : List Loc), uvCx p m c cX10_offers 2 RX10 s args meth (Option.none : Option Jvm.ClassFile.FieldType) → uvWo G σ s H locs → W p l e { frames := 0, cells := 0, slots := 0, locals := 0 } s m args below meth c H locs 0 0 (MQ below (uvQv G σ') args s 0 0 (uvA G)) (F0 m 0 ls []) := by
    intro args H locs X V
    refine r_aln X dX10_offers_0 rfl (lv_at hl 0 rfl) ?_
    refine r_gi X Y V ci_10 kd_118 34 rfl (by decide) rfl rfl wd_887 dX10_offers_1 ?_
    refine r_ic X dX10_offers_4 ?_
    refine r_ceq (tgt := 16) X rfl rfl dX10_offers_5 (by decide) (fun c1 => ?_) (fun c1 => ?_)
    · replace h := ite_t c1 h
      refine r_aln X dX10_offers_16 rfl (lv_at hl 0 rfl) ?_
      refine r_aln X dX10_offers_17 rfl (lv_at hl 0 rfl) ?_
      refine r_gi X Y V ci_10 kd_118 34 rfl (by decide) rfl rfl wd_887 dX10_offers_18 ?_
      obtain ⟨σ2, hσ2, h⟩ := wrF_ex h
      refine r_pi X Y V ci_10 kd_118 35 rfl (by decide) rfl rfl rfl (tyX10_ok 35 (by decide)) wd_888 hσ2 dX10_offers_21 (fun H locs V => ?_)
      refine r_aln X dX10_offers_24 rfl (lv_at hl 0 rfl) ?_
      refine r_iln X dX10_offers_25 rfl (lv_at hl 1 rfl) ?_
      obtain ⟨σ3, hσ3, h⟩ := wrF_ex h
      refine r_pi X Y V ci_10 kd_118 34 rfl (by decide) rfl rfl rfl (tyX10_ok 34 (by decide)) wd_887 hσ3 dX10_offers_26 (fun H locs V => ?_)
      refine r_goto (tgt := 53) X dX10_offers_29 (by decide) ?_
      exact r_rv X V (so2 h).2 dX10_offers_53
    · replace h := ite_f c1 h
      refine r_iln X dX10_offers_8 rfl (lv_at hl 1 rfl) ?_
      refine r_aln X dX10_offers_9 rfl (lv_at hl 0 rfl) ?_
      refine r_gi X Y V ci_10 kd_118 34 rfl (by decide) rfl rfl wd_887 dX10_offers_10 ?_
      refine r_cge (tgt := 32) X rfl rfl dX10_offers_13 (by decide) (fun c4 => ?_) (fun c4 => ?_)
      · replace h := ite_t c4 h
        refine r_aln X dX10_offers_16 rfl (lv_at hl 0 rfl) ?_
        refine r_aln X dX10_offers_17 rfl (lv_at hl 0 rfl) ?_
        refine r_gi X Y V ci_10 kd_118 34 rfl (by decide) rfl rfl wd_887 dX10_offers_18 ?_
        obtain ⟨σ5, hσ5, h⟩ := wrF_ex h
        refine r_pi X Y V ci_10 kd_118 35 rfl (by decide) rfl rfl rfl (tyX10_ok 35 (by decide)) wd_888 hσ5 dX10_offers_21 (fun H locs V => ?_)
        refine r_aln X dX10_offers_24 rfl (lv_at hl 0 rfl) ?_
        refine r_iln X dX10_offers_25 rfl (lv_at hl 1 rfl) ?_
        obtain ⟨σ6, hσ6, h⟩ := wrF_ex h
        refine r_pi X Y V ci_10 kd_118 34 rfl (by decide) rfl rfl rfl (tyX10_ok 34 (by decide)) wd_887 hσ6 dX10_offers_26 (fun H locs V => ?_)
        refine r_goto (tgt := 53) X dX10_offers_29 (by decide) ?_
        exact r_rv X V (so2 h).2 dX10_offers_53
      · replace h := ite_f c4 h
        refine r_aln X dX10_offers_32 rfl (lv_at hl 0 rfl) ?_
        refine r_gi X Y V ci_10 kd_118 35 rfl (by decide) rfl rfl wd_888 dX10_offers_33 ?_
        refine r_ic X dX10_offers_36 ?_
        refine r_ceq (tgt := 48) X rfl rfl dX10_offers_37 (by decide) (fun c7 => ?_) (fun c7 => ?_)
        · replace h := ite_t c7 h
          refine r_aln X dX10_offers_48 rfl (lv_at hl 0 rfl) ?_
          refine r_iln X dX10_offers_49 rfl (lv_at hl 1 rfl) ?_
          obtain ⟨σ8, hσ8, h⟩ := wrF_ex h
          refine r_pi X Y V ci_10 kd_118 35 rfl (by decide) rfl rfl rfl (tyX10_ok 35 (by decide)) wd_888 hσ8 dX10_offers_50 (fun H locs V => ?_)
          exact r_rv X V (so2 h).2 dX10_offers_53
        · replace h := ite_f c7 h
          refine r_iln X dX10_offers_40 rfl (lv_at hl 1 rfl) ?_
          refine r_aln X dX10_offers_41 rfl (lv_at hl 0 rfl) ?_
          refine r_gi X Y V ci_10 kd_118 35 rfl (by decide) rfl rfl wd_888 dX10_offers_42 ?_
          refine r_cge (tgt := 53) X rfl rfl dX10_offers_45 (by decide) (fun c9 => ?_) (fun c9 => ?_)
          · replace h := ite_t c9 h
            refine r_aln X dX10_offers_48 rfl (lv_at hl 0 rfl) ?_
            refine r_iln X dX10_offers_49 rfl (lv_at hl 1 rfl) ?_
            obtain ⟨σ10, hσ10, h⟩ := wrF_ex h
            refine r_pi X Y V ci_10 kd_118 35 rfl (by decide) rfl rfl rfl (tyX10_ok 35 (by decide)) wd_888 hσ10 dX10_offers_50 (fun H locs V => ?_)
            exact r_rv X V (so2 h).2 dX10_offers_53
          · replace h := ite_f c9 h
            exact r_rv X V (so2 h).2 dX10_offers_53
  exact go _ _ _ X V

set_option maxRecDepth 100000 in
set_option maxHeartbeats 4000000 in
theorem wj_X10_takesIn_118 {p : Program} {l : Launch} {e : Env} {s : State} {m : MethodId} {args : Array Value} {below : List Frame} {meth : Method} {c : Code} {G : UG} (X : uvCx p m c cX10_takesIn 7 RX10 s args meth (Option.none : Option Jvm.ClassFile.FieldType)) (Y : uvGd G s s.heap) (r : Int) (σ' : St) (σ : St) (x1 : Int) (x2 : Int) (t0 : Int)  (H : Heap) (locs : List Loc) (ls : Array Slot) (V : uvWo G σ s H locs) (hl : lv_has ls 7 [(0, .ref (G.2.2.1 118)), (1, .int (iV x1)), (2, .int (iV x2))]) (h : jn_X10_takesIn_118 σ x1 x2 t0 = some (r, σ')) : W p l e { frames := 1, cells := 0, slots := 0, locals := 21 } s m args below meth c H locs 0 0 (MQ below (uvQv G σ') args s 0 0 (uvA G)) (F0 m 118 ls [.int (iV t0), .ref (G.2.2.1 118)]) := by
  unfold jn_X10_takesIn_118 at h
  obtain ⟨σ12, hσ12, h⟩ := wrF_ex h
  refine r_pi X Y V ci_10 kd_118 37 rfl (by decide) rfl rfl rfl (tyX10_ok 37 (by decide)) wd_890 hσ12 dX10_takesIn_118 (fun H locs V => ?_)
  refine r_aln X dX10_takesIn_121 rfl (lv_at hl 0 rfl) ?_
  refine r_aln X dX10_takesIn_122 rfl (lv_at hl 0 rfl) ?_
  refine r_gr X Y V ci_10 kd_118 32 rfl rfl (by decide) rfl rfl wd_885 dX10_takesIn_123 ?_
  refine r_iln X dX10_takesIn_126 rfl (lv_at hl 1 rfl) ?_
  obtain ⟨v13, hv13, hiv13, h⟩ := rdA_ex h
  refine r_ial X Y V kd_139 ln_139 hiv13 hv13 dX10_takesIn_127 ?_
  refine r_iln X dX10_takesIn_128 rfl (lv_at hl 2 rfl) ?_
  refine r_iadd X dX10_takesIn_129 ?_
  refine r_aln X dX10_takesIn_130 rfl (lv_at hl 0 rfl) ?_
  refine r_gi X Y V ci_10 kd_118 36 rfl (by decide) rfl rfl wd_889 dX10_takesIn_131 ?_
  refine r_cle (tgt := 148) X rfl rfl dX10_takesIn_134 (by decide) (fun c14 => ?_) (fun c14 => ?_)
  · replace h := ite_t c14 h
    refine r_aln X dX10_takesIn_137 rfl (lv_at hl 0 rfl) ?_
    refine r_gr X Y V ci_10 kd_118 32 rfl rfl (by decide) rfl rfl wd_885 dX10_takesIn_138 ?_
    refine r_iln X dX10_takesIn_141 rfl (lv_at hl 1 rfl) ?_
    obtain ⟨v15, hv15, hiv15, h⟩ := rdA_ex h
    refine r_ial X Y V kd_139 ln_139 hiv15 hv15 dX10_takesIn_142 ?_
    refine r_iln X dX10_takesIn_143 rfl (lv_at hl 2 rfl) ?_
    refine r_iadd X dX10_takesIn_144 ?_
    refine r_goto (tgt := 152) X dX10_takesIn_145 (by decide) ?_
    obtain ⟨σ16, hσ16, h⟩ := wrF_ex h
    refine r_pi X Y V ci_10 kd_118 36 rfl (by decide) rfl rfl rfl (tyX10_ok 36 (by decide)) wd_889 hσ16 dX10_takesIn_152 (fun H locs V => ?_)
    exact r_rv X V (so2 h).2 dX10_takesIn_155
  · replace h := ite_f c14 h
    refine r_aln X dX10_takesIn_148 rfl (lv_at hl 0 rfl) ?_
    refine r_gi X Y V ci_10 kd_118 36 rfl (by decide) rfl rfl wd_889 dX10_takesIn_149 ?_
    obtain ⟨σ17, hσ17, h⟩ := wrF_ex h
    refine r_pi X Y V ci_10 kd_118 36 rfl (by decide) rfl rfl rfl (tyX10_ok 36 (by decide)) wd_889 hσ17 dX10_takesIn_152 (fun H locs V => ?_)
    exact r_rv X V (so2 h).2 dX10_takesIn_155

set_option maxRecDepth 100000 in
set_option maxHeartbeats 4000000 in
theorem wj_X10_takesIn_84 {p : Program} {l : Launch} {e : Env} {s : State} {m : MethodId} {args : Array Value} {below : List Frame} {meth : Method} {c : Code} {G : UG} (X : uvCx p m c cX10_takesIn 7 RX10 s args meth (Option.none : Option Jvm.ClassFile.FieldType)) (Y : uvGd G s s.heap) (r : Int) (σ' : St) (σ : St) (x1 : Int) (x2 : Int) (x5 : Int)  (H : Heap) (locs : List Loc) (ls : Array Slot) (V : uvWo G σ s H locs) (hl : lv_has ls 7 [(0, .ref (G.2.2.1 118)), (1, .int (iV x1)), (2, .int (iV x2)), (5, .long (lV x5))]) (h : jn_X10_takesIn_84 σ x1 x2 x5 = some (r, σ')) : W p l e { frames := 1, cells := 0, slots := 0, locals := 21 } s m args below meth c H locs 0 0 (MQ below (uvQv G σ') args s 0 0 (uvA G)) (F0 m 84 ls [.ref (G.2.2.1 118)]) := by
  unfold jn_X10_takesIn_84 at h
  refine r_ll X dX10_takesIn_84 (lv_at hl 3 rfl) ?_
  refine r_aln X dX10_takesIn_86 rfl (lv_at hl 0 rfl) ?_
  refine r_gr X Y V ci_10 kd_118 33 rfl rfl (by decide) rfl rfl wd_886 dX10_takesIn_87 ?_
  refine r_iln X dX10_takesIn_90 rfl (lv_at hl 1 rfl) ?_
  obtain ⟨v10, hv10, hiv10, h⟩ := rdA_ex h
  refine r_ial X Y V kd_140 ln_140 hiv10 hv10 dX10_takesIn_91 ?_
  refine r_i2l X dX10_takesIn_92 ?_
  refine r_ladd X dX10_takesIn_93 ?_
  refine r_ldc2 X (n := 1000000000) wd_1201 (by decide) dX10_takesIn_94 ?_
  refine r_lcmp X dX10_takesIn_97 ?_
  refine r_le (tgt := 107) X (wI_cmp _ _) dX10_takesIn_98 (by decide) (fun c11 => ?_) (fun c11 => ?_)
  · replace h := ite_t c11 h
    refine r_ldcw X (n := 1000000000) wd_1202 (by decide) dX10_takesIn_101 ?_
    refine r_goto (tgt := 118) X dX10_takesIn_104 (by decide) ?_
    exact wj_X10_takesIn_118 X Y r σ' σ x1 x2 1000000000  _ _ _ V (lv_sub hl [0, 1, 2] rfl) h
  · replace h := ite_f c11 h
    refine r_ll X dX10_takesIn_107 (lv_at hl 3 rfl) ?_
    refine r_aln X dX10_takesIn_109 rfl (lv_at hl 0 rfl) ?_
    refine r_gr X Y V ci_10 kd_118 33 rfl rfl (by decide) rfl rfl wd_886 dX10_takesIn_110 ?_
    refine r_iln X dX10_takesIn_113 rfl (lv_at hl 1 rfl) ?_
    obtain ⟨v18, hv18, hiv18, h⟩ := rdA_ex h
    refine r_ial X Y V kd_140 ln_140 hiv18 hv18 dX10_takesIn_114 ?_
    refine r_i2l X dX10_takesIn_115 ?_
    refine r_ladd X dX10_takesIn_116 ?_
    refine r_l2i X dX10_takesIn_117 ?_
    exact wj_X10_takesIn_118 X Y r σ' σ x1 x2 (x5 + (i2lI v18))  _ _ _ V (lv_sub hl [0, 1, 2] rfl) h

set_option maxRecDepth 100000 in
set_option maxHeartbeats 4000000 in
theorem wj_X10_takesIn_43 {p : Program} {l : Launch} {e : Env} {s : State} {m : MethodId} {args : Array Value} {below : List Frame} {meth : Method} {c : Code} {G : UG} (X : uvCx p m c cX10_takesIn 7 RX10 s args meth (Option.none : Option Jvm.ClassFile.FieldType)) (Y : uvGd G s s.heap) (r : Int) (σ' : St) (σ : St) (x1 : Int) (x2 : Int) (x3 : Int) (x4 : Int)  (H : Heap) (locs : List Loc) (ls : Array Slot) (V : uvWo G σ s H locs) (hl : lv_has ls 7 [(0, .ref (G.2.2.1 118)), (1, .int (iV x1)), (2, .int (iV x2)), (3, .int (iV x3)), (4, .int (iV x4))]) (h : jn_X10_takesIn_43 σ x1 x2 x3 x4 = some (r, σ')) : W p l e { frames := 1, cells := 0, slots := 0, locals := 21 } s m args below meth c H locs 0 0 (MQ below (uvQv G σ') args s 0 0 (uvA G)) (F0 m 43 ls []) := by
  unfold jn_X10_takesIn_43 at h
  refine r_iln X dX10_takesIn_43 rfl (lv_at hl 3 rfl) ?_
  refine r_ic X dX10_takesIn_44 ?_
  have J7 : W p l e { frames := 1, cells := 0, slots := 0, locals := 21 } s m args below meth c H locs 0 0 (MQ below (uvQv G σ') args s 0 0 (uvA G)) (F0 m 63 ls [.long (lV (if wI x3 = (-1) then 0 else (if wI x4 < wI x3 then 0 else i2lI (σ 118 37))))]) := by
    obtain ⟨v8, hv8, h⟩ := bnd_ex h
    refine r_eqL hv8 ?_
    refine r_ls (lv' := [(5, .long (lV v8)), (0, .ref (G.2.2.1 118)), (1, .int (iV x1)), (2, .int (iV x2)), (3, .int (iV x3)), (4, .int (iV x4))]) X dX10_takesIn_63 hl (by decide) rfl (fun ls hl => ?_)
    refine r_aln X dX10_takesIn_65 rfl (lv_at hl 1 rfl) ?_
    refine r_iln X dX10_takesIn_66 rfl (lv_at hl 4 rfl) ?_
    refine r_ic X dX10_takesIn_67 ?_
    refine r_ceq (tgt := 84) X rfl rfl dX10_takesIn_68 (by decide) (fun c9 => ?_) (fun c9 => ?_)
    · replace h := ite_t c9 h
      exact wj_X10_takesIn_84 X Y r σ' σ x1 x2 v8  _ _ _ V (lv_sub hl [1, 2, 3, 0] rfl) h
    · replace h := ite_f c9 h
      refine r_il X dX10_takesIn_71 (lv_at hl 5 rfl) ?_
      refine r_iln X dX10_takesIn_73 rfl (lv_at hl 4 rfl) ?_
      refine r_cle (tgt := 84) X rfl rfl dX10_takesIn_74 (by decide) (fun c19 => ?_) (fun c19 => ?_)
      · replace h := ite_t c19 h
        refine r_aln X dX10_takesIn_77 rfl (lv_at hl 1 rfl) ?_
        refine r_gi X Y V ci_10 kd_118 37 rfl (by decide) rfl rfl wd_890 dX10_takesIn_78 ?_
        refine r_goto (tgt := 118) X dX10_takesIn_81 (by decide) ?_
        exact wj_X10_takesIn_118 X Y r σ' σ x1 x2 (σ 118 37)  _ _ _ V (lv_sub hl [1, 2, 3] rfl) h
      · replace h := ite_f c19 h
        exact wj_X10_takesIn_84 X Y r σ' σ x1 x2 v8  _ _ _ V (lv_sub hl [1, 2, 3, 0] rfl) h
  refine r_ceq (tgt := 54) X rfl rfl dX10_takesIn_45 (by decide) (fun c20 => ?_) (fun c20 => ?_)
  · skip
    refine r_lc (v := 0) X dX10_takesIn_54 rfl ?_
    refine r_goto (tgt := 63) X dX10_takesIn_55 (by decide) ?_
    rw [if_pos c20] at J7
    exact J7
  · skip
    refine r_il X dX10_takesIn_48 (lv_at hl 4 rfl) ?_
    refine r_iln X dX10_takesIn_50 rfl (lv_at hl 3 rfl) ?_
    refine r_cge (tgt := 58) X rfl rfl dX10_takesIn_51 (by decide) (fun c21 => ?_) (fun c21 => ?_)
    · skip
      refine r_lc (v := 0) X dX10_takesIn_54 rfl ?_
      refine r_goto (tgt := 63) X dX10_takesIn_55 (by decide) ?_
      rw [if_neg c20] at J7
      rw [if_pos c21] at J7
      exact J7
    · skip
      refine r_aln X dX10_takesIn_58 rfl (lv_at hl 0 rfl) ?_
      refine r_gi X Y V ci_10 kd_118 37 rfl (by decide) rfl rfl wd_890 dX10_takesIn_59 ?_
      refine r_i2l X dX10_takesIn_62 ?_
      rw [if_neg c20] at J7
      rw [if_neg c21] at J7
      exact J7

set_option maxRecDepth 100000 in
set_option maxHeartbeats 4000000 in
theorem c_X10_takesIn (l : Launch) (G : UG) (σ : St) (a1 : Int) (a2 : Int) (r : Int) (σ' : St)  (h : f_X10_takesIn σ a1 a2 = some (r, σ')) : Met l yX10_takesIn (.code yX10_takesIn cX10_takesIn 7 (Option.none : Option Jvm.ClassFile.FieldType) :: TB) { frames := 1, cells := 0, slots := 0, locals := 21 } (uvPc G σ [.ref (G.2.2.1 118), .int (iV a1), .int (iV a2)]) (uvQv G σ') 0 0 (uvA G) := by
  unfold f_X10_takesIn at h
  refine r_met (own := RX10) (lv := [(0, .ref (G.2.2.1 118)), (1, .int (iV a1)), (2, .int (iV a2))]) (by decide) rfl (Nat.le_of_ble_eq_true rfl) rfl ?_
  intro p e s m below meth c ls X Y V hl
  have go : ∀ (args : Array Value) (H : Heap) (locs : List Loc), uvCx p m c cX10_takesIn 7 RX10 s args meth (Option.none : Option Jvm.ClassFile.FieldType) → uvWo G σ s H locs → W p l e { frames := 1, cells := 0, slots := 0, locals := 21 } s m args below meth c H locs 0 0 (MQ below (uvQv G σ') args s 0 0 (uvA G)) (F0 m 0 ls []) := by
    intro args H locs X V
    refine r_aln X dX10_takesIn_0 rfl (lv_at hl 0 rfl) ?_
    refine r_gi X Y V ci_10 kd_118 34 rfl (by decide) rfl rfl wd_887 dX10_takesIn_1 ?_
    refine r_isn (lv' := [(3, .int (iV (σ 118 34))), (0, .ref (G.2.2.1 118)), (1, .int (iV a1)), (2, .int (iV a2))]) X dX10_takesIn_4 rfl hl (by decide) rfl (fun ls hl => ?_)
    refine r_aln X dX10_takesIn_5 rfl (lv_at hl 1 rfl) ?_
    refine r_gr X Y V ci_10 kd_118 30 rfl rfl (by decide) rfl rfl wd_883 dX10_takesIn_6 ?_
    refine r_iln X dX10_takesIn_9 rfl (lv_at hl 2 rfl) ?_
    obtain ⟨v1, hv1, hiv1, h⟩ := rdA_ex h
    refine r_ial X Y V kd_137 ln_137 hiv1 hv1 dX10_takesIn_10 ?_
    refine r_iln X dX10_takesIn_11 rfl (lv_at hl 3 rfl) ?_
    refine r_iadd X dX10_takesIn_12 ?_
    obtain ⟨v2, hv2, h⟩ := bnd_ex h
    refine r_eqI hv2 ?_
    refine r_is (lv' := [(4, .int (iV v2)), (3, .int (iV (σ 118 34))), (0, .ref (G.2.2.1 118)), (1, .int (iV a1)), (2, .int (iV a2))]) X dX10_takesIn_13 hl (by decide) rfl (fun ls hl => ?_)
    refine r_aln X dX10_takesIn_15 rfl (lv_at hl 2 rfl) ?_
    refine r_il X dX10_takesIn_16 (lv_at hl 0 rfl) ?_
    obtain ⟨v3, σ4, hv3, h⟩ := bd2_ex h
    refine r_kv V (r_runV (As := [.int (iV v2)]) (rest := []) X Y V (c_X10_offers l G σ v2 _ _  hv3) mv_X10_offers wd_1197 ci_10 kd_118 ⟨rfl, rfl, Nat.le_of_ble_eq_true rfl, Nat.le_of_ble_eq_true rfl⟩ rfl rfl hl.1 (Nat.le_of_ble_eq_true rfl) ⟨Nat.le_refl 0, Nat.le_refl 0⟩ dX10_takesIn_18) (fun H locs V => ?_)
    refine r_aln X dX10_takesIn_21 rfl (lv_at hl 2 rfl) ?_
    refine r_gr X Y V ci_10 kd_118 31 rfl rfl (by decide) rfl rfl wd_884 dX10_takesIn_22 ?_
    refine r_iln X dX10_takesIn_25 rfl (lv_at hl 3 rfl) ?_
    obtain ⟨v5, hv5, hiv5, h⟩ := rdA_ex h
    refine r_ial X Y V kd_138 ln_138 hiv5 hv5 dX10_takesIn_26 ?_
    refine r_ic X dX10_takesIn_27 ?_
    refine r_ceq (tgt := 43) X rfl rfl dX10_takesIn_28 (by decide) (fun c6 => ?_) (fun c6 => ?_)
    · replace h := ite_t c6 h
      exact wj_X10_takesIn_43 X Y r σ' σ4 a1 a2 (σ 118 34) v2  _ _ _ V (lv_sub hl [2, 3, 4, 1, 0] rfl) h
    · replace h := ite_f c6 h
      refine r_aln X dX10_takesIn_31 rfl (lv_at hl 2 rfl) ?_
      refine r_aln X dX10_takesIn_32 rfl (lv_at hl 2 rfl) ?_
      refine r_gr X Y V ci_10 kd_118 31 rfl rfl (by decide) rfl rfl wd_884 dX10_takesIn_33 ?_
      refine r_iln X dX10_takesIn_36 rfl (lv_at hl 3 rfl) ?_
      obtain ⟨v22, hv22, hiv22, h⟩ := rdA_ex h
      refine r_ial X Y V kd_138 ln_138 hiv22 hv22 dX10_takesIn_37 ?_
      refine r_iln X dX10_takesIn_38 rfl (lv_at hl 4 rfl) ?_
      refine r_iadd X dX10_takesIn_39 ?_
      obtain ⟨v23, σ24, hv23, h⟩ := bd2_ex h
      refine r_kv V (r_runV (As := [.int (iV (v22 + a2))]) (rest := []) X Y V (c_X10_offers l G σ4 (v22 + a2) _ _  hv23) mv_X10_offers wd_1197 ci_10 kd_118 ⟨rfl, rfl, Nat.le_of_ble_eq_true rfl, Nat.le_of_ble_eq_true rfl⟩ rfl rfl hl.1 (Nat.le_of_ble_eq_true rfl) ⟨Nat.le_refl 0, Nat.le_refl 0⟩ dX10_takesIn_40) (fun H locs V => ?_)
      exact wj_X10_takesIn_43 X Y r σ' σ24 a1 a2 (σ 118 34) v2  _ _ _ V (lv_sub hl [2, 3, 4, 1, 0] rfl) h
  exact go _ _ _ X V

