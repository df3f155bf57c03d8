set_option maxRecDepth 100000 in
set_option maxHeartbeats 4000000 in
theorem wj_X10_readsTree_251 {p : Program} {l : Launch} {e : Env} {s : State} {m : MethodId} {args : Array Value} {below : List Frame} {meth : Method} {c : Code} {G : UG} (X : uvCx p m c cX10_readsTree 7 RX10 s args meth (Option.some Jvm.ClassFile.FieldType.int)) (Y : uvGd G s s.heap) (kb : St → Int → Int → Int → Option (Int × St)) (r : Int) (σ' : St) (σ : St) (x1 : Int) (x2 : Int)  (hkb : ∀ (σ : St) (m1 : Int) (m2 : Int) (m3 : Int) (H : Heap) (locs : List Loc) (ls : Array Slot), uvWo G σ s H locs → lv_has ls 7 [(0, .ref (G.2.2.1 118)), (1, .int (iV m1)), (2, .int (iV m2)), (3, .int (iV m3))] → kb σ m1 m2 m3 = some (r, σ') → W p l e { frames := 2, cells := 0, slots := 0, locals := 48 } s m args below meth c H locs 0 0 (MQ below (uvQi G r σ') args s 0 0 (uvA G)) (F0 m 16 ls [])) (H : Heap) (locs : List Loc) (ls : Array Slot) (V : uvWo G σ s H locs) (hl : lv_has ls 7 [(0, .ref (G.2.2.1 118)), (1, .int (iV x1)), (2, .int (iV x2))]) (h : jn_X10_readsTree_251 kb σ x1 x2 = some (r, σ')) : W p l e { frames := 2, cells := 0, slots := 0, locals := 48 } s m args below meth c H locs 0 0 (MQ below (uvQi G r σ') args s 0 0 (uvA G)) (F0 m 251 ls []) := by
  unfold jn_X10_readsTree_251 at h
  refine r_iln X dX10_readsTree_251 rfl (lv_at hl 2 rfl) ?_
  have J13 : W p l e { frames := 2, cells := 0, slots := 0, locals := 48 } s m args below meth c H locs 0 0 (MQ below (uvQi G r σ') args s 0 0 (uvA G)) (F0 m 260 ls [.int (iV (if wI x2 = 0 then 1 else 0))]) := by
    obtain ⟨v14, hv14, h⟩ := bnd_ex h
    refine r_eqI hv14 ?_
    refine r_isn (lv' := [(3, .int (iV v14)), (0, .ref (G.2.2.1 118)), (1, .int (iV x1)), (2, .int (iV x2))]) X dX10_readsTree_260 rfl hl (by decide) rfl (fun ls hl => ?_)
    refine r_goto (tgt := 16) X dX10_readsTree_261 (by decide) ?_
    exact hkb σ x1 x2 v14 _ _ _ V (lv_sub hl [1, 2, 3, 0] rfl) h
  refine r_ne (cx := wI x2) (tgt := 259) X rfl dX10_readsTree_252 (by decide) (fun c15 => ?_) (fun c15 => ?_)
  · skip
    refine r_ic X dX10_readsTree_255 ?_
    refine r_goto (tgt := 260) X dX10_readsTree_256 (by decide) ?_
    rw [if_pos c15] at J13
    exact J13
  · skip
    refine r_ic X dX10_readsTree_259 ?_
    rw [if_neg c15] at J13
    exact J13

set_option maxRecDepth 100000 in
set_option maxHeartbeats 4000000 in
theorem wj_X10_readsTree_68 {p : Program} {l : Launch} {e : Env} {s : State} {m : MethodId} {args : Array Value} {below : List Frame} {meth : Method} {c : Code} {G : UG} (X : uvCx p m c cX10_readsTree 7 RX10 s args meth (Option.some Jvm.ClassFile.FieldType.int)) (Y : uvGd G s s.heap) (kb : St → Int → Int → Int → Option (Int × St)) (r : Int) (σ' : St) (σ : St) (x1 : Int) (x2 : Int) (x4 : Int) (x5 : Int)  (hkb : ∀ (σ : St) (m1 : Int) (m2 : Int) (m3 : Int) (H : Heap) (locs : List Loc) (ls : Array Slot), uvWo G σ s H locs → lv_has ls 7 [(0, .ref (G.2.2.1 118)), (1, .int (iV m1)), (2, .int (iV m2)), (3, .int (iV m3))] → kb σ m1 m2 m3 = some (r, σ') → W p l e { frames := 2, cells := 0, slots := 0, locals := 48 } s m args below meth c H locs 0 0 (MQ below (uvQi G r σ') args s 0 0 (uvA G)) (F0 m 16 ls [])) (H : Heap) (locs : List Loc) (ls : Array Slot) (V : uvWo G σ s H locs) (hl : lv_has ls 7 [(0, .ref (G.2.2.1 118)), (1, .int (iV x1)), (2, .int (iV x2)), (4, .int (iV x4)), (5, .int (iV x5))]) (h : jn_X10_readsTree_68 kb σ x1 x2 x4 x5 = some (r, σ')) : W p l e { frames := 2, cells := 0, slots := 0, locals := 48 } s m args below meth c H locs 0 0 (MQ below (uvQi G r σ') args s 0 0 (uvA G)) (F0 m 68 ls []) := by
  unfold jn_X10_readsTree_68 at h
  refine r_il X dX10_readsTree_68 (lv_at hl 3 rfl) ?_
  refine r_bp X dX10_readsTree_70 (by decide) ?_
  refine r_cne (cx := wI x4) (cy := 42) (tgt := 124) X rfl rfl dX10_readsTree_72 (by decide) (fun c16 => ?_) (fun c16 => ?_)
  · replace h := ite_t c16 h
    refine r_aln X dX10_readsTree_75 rfl (lv_at hl 0 rfl) ?_
    refine r_dup X dX10_readsTree_76 rfl ?_
    refine r_gi (kI := 15) X Y V ci_10 kd_118 15 rfl (by decide) rfl rfl wd_868 dX10_readsTree_77 ?_
    refine r_ic X dX10_readsTree_80 ?_
    refine r_iadd X dX10_readsTree_81 ?_
    obtain ⟨σ17, hσ17, h⟩ := wrF_ex h
    refine r_pi X Y V ci_10 kd_118 15 rfl (by decide) rfl rfl rfl (tyX10_ok 15 (by decide)) wd_868 hσ17 dX10_readsTree_82 (fun H locs V => ?_)
    refine r_aln X dX10_readsTree_85 rfl (lv_at hl 0 rfl) ?_
    refine r_gr X Y V ci_10 kd_118 17 rfl rfl (by decide) rfl rfl wd_870 dX10_readsTree_86 ?_
    refine r_iln X dX10_readsTree_89 rfl (lv_at hl 1 rfl) ?_
    refine r_ic X dX10_readsTree_90 ?_
    obtain ⟨σ18, hσ18, hiσ18, h⟩ := wrA_ex h
    refine r_ias X Y V kd_129 ln_129 hiσ18 hσ18 dX10_readsTree_91 (fun H locs V => ?_)
    refine r_aln X dX10_readsTree_92 rfl (lv_at hl 0 rfl) ?_
    refine r_gr X Y V ci_10 kd_118 18 rfl rfl (by decide) rfl rfl wd_871 dX10_readsTree_93 ?_
    refine r_iln X dX10_readsTree_96 rfl (lv_at hl 1 rfl) ?_
    refine r_aln X dX10_readsTree_97 rfl (lv_at hl 0 rfl) ?_
    refine r_gi (kI := 21) X Y V ci_10 kd_118 21 rfl (by decide) rfl rfl wd_874 dX10_readsTree_98 ?_
    obtain ⟨σ19, hσ19, hiσ19, h⟩ := wrA_ex h
    refine r_ias X Y V kd_130 ln_130 hiσ19 hσ19 dX10_readsTree_101 (fun H locs V => ?_)
    refine r_aln X dX10_readsTree_102 rfl (lv_at hl 0 rfl) ?_
    refine r_dup X dX10_readsTree_103 rfl ?_
    refine r_gi (kI := 21) X Y V ci_10 kd_118 21 rfl (by decide) rfl rfl wd_874 dX10_readsTree_104 ?_
    refine r_ic X dX10_readsTree_107 ?_
    refine r_iadd X dX10_readsTree_108 ?_
    obtain ⟨σ20, hσ20, h⟩ := wrF_ex h
    refine r_pi X Y V ci_10 kd_118 21 rfl (by decide) rfl rfl rfl (tyX10_ok 21 (by decide)) wd_874 hσ20 dX10_readsTree_109 (fun H locs V => ?_)
    refine r_aln X dX10_readsTree_112 rfl (lv_at hl 0 rfl) ?_
    refine r_iln X dX10_readsTree_113 rfl (lv_at hl 1 rfl) ?_
    refine r_iln X dX10_readsTree_114 rfl (lv_at hl 2 rfl) ?_
    obtain ⟨v21, σ22, hv21, h⟩ := bd2_ex h
    refine r_kv V (r_runV (As := [.int (iV x1), .int (iV x2)]) (rest := []) X Y V (c_X10_hangs l G σ20 x1 x2 _ _  hv21) mv_X10_hangs wd_1080 ci_10 kd_118 ⟨rfl, rfl, Nat.le_of_ble_eq_true rfl, Nat.le_of_ble_eq_true rfl⟩ rfl rfl hl.1 (Nat.le_of_ble_eq_true rfl) ⟨Nat.le_refl 0, Nat.le_refl 0⟩ dX10_readsTree_115) (fun H locs V => ?_)
    refine r_inc (kk := 1) (lv' := [(1, .int (iV (x1 + 1))), (0, .ref (G.2.2.1 118)), (2, .int (iV x2)), (4, .int (iV x4)), (5, .int (iV x5))]) X dX10_readsTree_118 hl rfl (by decide) rfl (fun ls hl => ?_)
    refine r_goto (tgt := 251) X dX10_readsTree_121 (by decide) ?_
    exact wj_X10_readsTree_251 X Y _ r σ' σ22 (x1 + 1) x2  (fun σ m1 m2 m3 H locs ls V hl h => hkb σ m1 m2 m3 H locs ls V hl h) _ _ _ V (lv_sub hl [1, 0, 2] rfl) h
  · replace h := ite_f c16 h
    refine r_il X dX10_readsTree_124 (lv_at hl 4 rfl) ?_
    refine r_le (cx := wI x5) (tgt := 249) X rfl dX10_readsTree_126 (by decide) (fun c23 => ?_) (fun c23 => ?_)
    · replace h := ite_t c23 h
      refine r_iln X dX10_readsTree_129 rfl (lv_at hl 2 rfl) ?_
      refine r_bp X dX10_readsTree_130 (by decide) ?_
      refine r_cge (cx := wI x2) (cy := 7) (tgt := 249) X rfl rfl dX10_readsTree_132 (by decide) (fun c24 => ?_) (fun c24 => ?_)
      · replace h := ite_t c24 h
        refine r_aln X dX10_readsTree_135 rfl (lv_at hl 0 rfl) ?_
        refine r_dup X dX10_readsTree_136 rfl ?_
        refine r_gi (kI := 15) X Y V ci_10 kd_118 15 rfl (by decide) rfl rfl wd_868 dX10_readsTree_137 ?_
        refine r_ic X dX10_readsTree_140 ?_
        refine r_iadd X dX10_readsTree_141 ?_
        obtain ⟨σ25, hσ25, h⟩ := wrF_ex h
        refine r_pi X Y V ci_10 kd_118 15 rfl (by decide) rfl rfl rfl (tyX10_ok 15 (by decide)) wd_868 hσ25 dX10_readsTree_142 (fun H locs V => ?_)
        refine r_aln X dX10_readsTree_145 rfl (lv_at hl 0 rfl) ?_
        refine r_bp X dX10_readsTree_146 (by decide) ?_
        refine r_il X dX10_readsTree_148 (lv_at hl 4 rfl) ?_
        refine r_ic X dX10_readsTree_150 ?_
        have J26 : W p l e { frames := 2, cells := 0, slots := 0, locals := 48 } s m args below meth c H locs 0 0 (MQ below (uvQi G r σ') args s 0 0 (uvA G)) (F0 m 161 ls [.int (iV (if wI x5 < 3 then 54 else 57)), .int (iV 48), .ref (G.2.2.1 118)]) := by
          obtain ⟨v27, σ28, hv27, h⟩ := bd2_ex h
          refine r_ki V (r_runV (As := [.int (iV 48), .int (iV (if wI x5 < 3 then 54 else 57))]) (rest := []) X Y V (c_X10_takes l G σ25 48 (if wI x5 < 3 then 54 else 57) _ _  hv27) mv_X10_takes wd_1069 ci_10 kd_118 ⟨rfl, rfl, Nat.le_of_ble_eq_true rfl, Nat.le_of_ble_eq_true rfl⟩ rfl rfl hl.1 (Nat.le_of_ble_eq_true rfl) ⟨Nat.le_refl 0, Nat.le_refl 0⟩ dX10_readsTree_161) (fun H locs V => ?_)
          refine r_is (lv' := [(6, .int (iV v27)), (0, .ref (G.2.2.1 118)), (1, .int (iV x1)), (2, .int (iV x2)), (4, .int (iV x4)), (5, .int (iV x5))]) X dX10_readsTree_164 hl (by decide) rfl (fun ls hl => ?_)
          refine r_il X dX10_readsTree_166 (lv_at hl 0 rfl) ?_
          refine r_lt (cx := wI v27) (tgt := 182) X rfl dX10_readsTree_168 (by decide) (fun c29 => ?_) (fun c29 => ?_)
          · replace h := ite_t c29 h
            refine r_ic X dX10_readsTree_182 ?_
            exact r_ri X V (so2 h).1 (so2 h).2 dX10_readsTree_183
          · replace h := ite_f c29 h
            refine r_aln X dX10_readsTree_171 rfl (lv_at hl 1 rfl) ?_
            refine r_bp X dX10_readsTree_172 (by decide) ?_
            refine r_bp X dX10_readsTree_174 (by decide) ?_
            obtain ⟨v30, σ31, hv30, h⟩ := bd2_ex h
            refine r_ki V (r_runV (As := [.int (iV 40), .int (iV 40)]) (rest := []) X Y V (c_X10_takes l G σ28 40 40 _ _  hv30) mv_X10_takes wd_1069 ci_10 kd_118 ⟨rfl, rfl, Nat.le_of_ble_eq_true rfl, Nat.le_of_ble_eq_true rfl⟩ rfl rfl hl.1 (Nat.le_of_ble_eq_true rfl) ⟨Nat.le_refl 0, Nat.le_refl 0⟩ dX10_readsTree_176) (fun H locs V => ?_)
            refine r_ge (cx := wI v30) (tgt := 184) X rfl dX10_readsTree_179 (by decide) (fun c32 => ?_) (fun c32 => ?_)
            · replace h := ite_t c32 h
              refine r_ic X dX10_readsTree_182 ?_
              exact r_ri X V (so2 h).1 (so2 h).2 dX10_readsTree_183
            · replace h := ite_f c32 h
              refine r_aln X dX10_readsTree_184 rfl (lv_at hl 1 rfl) ?_
              refine r_gr X Y V ci_10 kd_118 17 rfl rfl (by decide) rfl rfl wd_870 dX10_readsTree_185 ?_
              refine r_iln X dX10_readsTree_188 rfl (lv_at hl 2 rfl) ?_
              refine r_il X dX10_readsTree_189 (lv_at hl 5 rfl) ?_
              obtain ⟨σ33, hσ33, hiσ33, h⟩ := wrA_ex h
              refine r_ias X Y V kd_129 ln_129 hiσ33 hσ33 dX10_readsTree_191 (fun H locs V => ?_)
              refine r_aln X dX10_readsTree_192 rfl (lv_at hl 1 rfl) ?_
              refine r_gr X Y V ci_10 kd_118 18 rfl rfl (by decide) rfl rfl wd_871 dX10_readsTree_193 ?_
              refine r_iln X dX10_readsTree_196 rfl (lv_at hl 2 rfl) ?_
              refine r_il X dX10_readsTree_197 (lv_at hl 0 rfl) ?_
              obtain ⟨σ34, hσ34, hiσ34, h⟩ := wrA_ex h
              refine r_ias X Y V kd_130 ln_130 hiσ34 hσ34 dX10_readsTree_199 (fun H locs V => ?_)
              refine r_aln X dX10_readsTree_200 rfl (lv_at hl 1 rfl) ?_
              refine r_iln X dX10_readsTree_201 rfl (lv_at hl 2 rfl) ?_
              refine r_iln X dX10_readsTree_202 rfl (lv_at hl 3 rfl) ?_
              obtain ⟨v35, σ36, hv35, h⟩ := bd2_ex h
              refine r_kv V (r_runV (As := [.int (iV x1), .int (iV x2)]) (rest := []) X Y V (c_X10_hangs l G σ34 x1 x2 _ _  hv35) mv_X10_hangs wd_1080 ci_10 kd_118 ⟨rfl, rfl, Nat.le_of_ble_eq_true rfl, Nat.le_of_ble_eq_true rfl⟩ rfl rfl hl.1 (Nat.le_of_ble_eq_true rfl) ⟨Nat.le_refl 0, Nat.le_refl 0⟩ dX10_readsTree_203) (fun H locs V => ?_)
              refine r_aln X dX10_readsTree_206 rfl (lv_at hl 1 rfl) ?_
              refine r_gr X Y V ci_10 kd_118 23 rfl rfl (by decide) rfl rfl wd_876 dX10_readsTree_207 ?_
              refine r_iln X dX10_readsTree_210 rfl (lv_at hl 3 rfl) ?_
              refine r_iln X dX10_readsTree_211 rfl (lv_at hl 2 rfl) ?_
              obtain ⟨σ37, hσ37, hiσ37, h⟩ := wrA_ex h
              refine r_ias X Y V kd_133 ln_133 hiσ37 hσ37 dX10_readsTree_212 (fun H locs V => ?_)
              refine r_aln X dX10_readsTree_213 rfl (lv_at hl 1 rfl) ?_
              refine r_gr X Y V ci_10 kd_118 24 rfl rfl (by decide) rfl rfl wd_877 dX10_readsTree_214 ?_
              refine r_iln X dX10_readsTree_217 rfl (lv_at hl 3 rfl) ?_
              refine r_ic X dX10_readsTree_218 ?_
              obtain ⟨σ38, hσ38, hiσ38, h⟩ := wrA_ex h
              refine r_ias X Y V kd_134 ln_134 hiσ38 hσ38 dX10_readsTree_219 (fun H locs V => ?_)
              refine r_inc (kk := 3) (lv' := [(2, .int (iV (x2 + 1))), (6, .int (iV v27)), (0, .ref (G.2.2.1 118)), (1, .int (iV x1)), (4, .int (iV x4)), (5, .int (iV x5))]) X dX10_readsTree_220 hl rfl (by decide) rfl (fun ls hl => ?_)
              refine r_aln X dX10_readsTree_223 rfl (lv_at hl 2 rfl) ?_
              refine r_iln X dX10_readsTree_224 rfl (lv_at hl 0 rfl) ?_
              refine r_aln X dX10_readsTree_225 rfl (lv_at hl 2 rfl) ?_
              refine r_gi (kI := 22) X Y V ci_10 kd_118 22 rfl (by decide) rfl rfl wd_875 dX10_readsTree_226 ?_
              have J39 : W p l e { frames := 2, cells := 0, slots := 0, locals := 48 } s m args below meth c H locs 0 0 (MQ below (uvQi G r σ') args s 0 0 (uvA G)) (F0 m 240 ls [.int (iV (if wI (σ38 118 22) < wI (x2 + 1) then x2 + 1 else σ38 118 22)), .ref (G.2.2.1 118)]) := by
                obtain ⟨σ40, hσ40, h⟩ := wrF_ex h
                refine r_pi X Y V ci_10 kd_118 22 rfl (by decide) rfl rfl rfl (tyX10_ok 22 (by decide)) wd_875 hσ40 dX10_readsTree_240 (fun H locs V => ?_)
                refine r_inc (kk := 3) (lv' := [(1, .int (iV (x1 + 1))), (2, .int (iV (x2 + 1))), (6, .int (iV v27)), (0, .ref (G.2.2.1 118)), (4, .int (iV x4)), (5, .int (iV x5))]) X dX10_readsTree_243 hl rfl (by decide) rfl (fun ls hl => ?_)
                refine r_goto (tgt := 251) X dX10_readsTree_246 (by decide) ?_
                exact wj_X10_readsTree_251 X Y _ r σ' σ40 (x1 + 1) (x2 + 1)  (fun σ m1 m2 m3 H locs ls V hl h => hkb σ m1 m2 m3 H locs ls V hl h) _ _ _ V (lv_sub hl [3, 0, 1] rfl) h
              refine r_cle (cx := wI (x2 + 1)) (cy := wI (σ38 118 22)) (tgt := 236) X rfl rfl dX10_readsTree_229 (by decide) (fun c41 => ?_) (fun c41 => ?_)
              · skip
                refine r_iln X dX10_readsTree_232 rfl (lv_at hl 0 rfl) ?_
                refine r_goto (tgt := 240) X dX10_readsTree_233 (by decide) ?_
                rw [if_pos c41] at J39
                exact J39
              · skip
                refine r_aln X dX10_readsTree_236 rfl (lv_at hl 2 rfl) ?_
                refine r_gi (kI := 22) X Y V ci_10 kd_118 22 rfl (by decide) rfl rfl wd_875 dX10_readsTree_237 ?_
                rw [if_neg c41] at J39
                exact J39
        refine r_cge (cx := wI x5) (cy := 3) (tgt := 159) X rfl rfl dX10_readsTree_151 (by decide) (fun c42 => ?_) (fun c42 => ?_)
        · skip
          refine r_bp X dX10_readsTree_154 (by decide) ?_
          refine r_goto (tgt := 161) X dX10_readsTree_156 (by decide) ?_
          rw [if_pos c42] at J26
          exact J26
        · skip
          refine r_bp X dX10_readsTree_159 (by decide) ?_
          rw [if_neg c42] at J26
          exact J26
      · replace h := ite_f c24 h
        refine r_ic X dX10_readsTree_249 ?_
        exact r_ri X V (so2 h).1 (so2 h).2 dX10_readsTree_250
    · replace h := ite_f c23 h
      refine r_ic X dX10_readsTree_249 ?_
      exact r_ri X V (so2 h).1 (so2 h).2 dX10_readsTree_250

set_option maxRecDepth 100000 in
set_option maxHeartbeats 4000000 in
theorem wl_X10_readsTree_16 {p : Program} {l : Launch} {e : Env} {s : State} {m : MethodId} {args : Array Value} {below : List Frame} {meth : Method} {c : Code} {G : UG} (X : uvCx p m c cX10_readsTree 7 RX10 s args meth (Option.some Jvm.ClassFile.FieldType.int)) (Y : uvGd G s s.heap)   (r : Int) (σ' : St) (kx : St → Option (Int × St)) (hkx : ∀ (σ : St)  (H : Heap) (locs : List Loc) (ls : Array Slot), uvWo G σ s H locs → lv_has ls 7 [(0, .ref (G.2.2.1 118))] → kx σ  = some (r, σ') → W p l e { frames := 2, cells := 0, slots := 0, locals := 48 } s m args below meth c H locs 0 0 (MQ below (uvQi G r σ') args s 0 0 (uvA G)) (F0 m 264 ls [])) : ∀ (n : Nat) (σ : St) (x1 : Int) (x2 : Int) (x3 : Int) (H : Heap) (locs : List Loc) (ls : Array Slot), uvWo G σ s H locs → lv_has ls 7 [(0, .ref (G.2.2.1 118)), (1, .int (iV x1)), (2, .int (iV x2)), (3, .int (iV x3))] → lp_X10_readsTree_16 kx n σ x1 x2 x3 = some (r, σ') → W p l e { frames := 2, cells := 0, slots := 0, locals := 48 } s m args below meth c H locs 0 0 (MQ below (uvQi G r σ') args s 0 0 (uvA G)) (F0 m 16 ls []) := by
  intro n
  induction n with
  | zero => intro σ x1 x2 x3 H locs ls V hl h; cases h
  | succ n ih =>
    intro σ x1 x2 x3 H locs ls V hl h
    rw [lp_X10_readsTree_16] at h
    refine r_iln X dX10_readsTree_16 rfl (lv_at hl 3 rfl) ?_
    refine r_ne (cx := wI x3) (tgt := 264) X rfl dX10_readsTree_17 (by decide) (fun c3 => ?_) (fun c3 => ?_)
    · replace h := ite_t c3 h
      refine r_aln X dX10_readsTree_20 rfl (lv_at hl 0 rfl) ?_
      obtain ⟨v4, σ5, hv4, h⟩ := bd2_ex h
      refine r_ki V (r_runV (As := []) (rest := []) X Y V (c_X10_here l G σ  _ _  hv4) mv_X10_here wd_1058 ci_10 kd_118 ⟨rfl, rfl, Nat.le_of_ble_eq_true rfl, Nat.le_of_ble_eq_true rfl⟩ rfl rfl hl.1 (Nat.le_of_ble_eq_true rfl) ⟨Nat.le_refl 0, Nat.le_refl 0⟩ dX10_readsTree_21) (fun H locs V => ?_)
      refine r_is (lv' := [(4, .int (iV v4)), (0, .ref (G.2.2.1 118)), (1, .int (iV x1)), (2, .int (iV x2)), (3, .int (iV x3))]) X dX10_readsTree_24 hl (by decide) rfl (fun ls hl => ?_)
      refine r_il X dX10_readsTree_26 (lv_at hl 0 rfl) ?_
      refine r_ki V (r_runS (As := [.int (iV v4)]) (rest := []) X Y V (c_X10_questionOf l G σ5 v4 _  rfl) ms_X10_questionOf wd_1077 ⟨rfl, rfl, Nat.le_of_ble_eq_true rfl, Nat.le_of_ble_eq_true rfl⟩ rfl rfl hl.1 (Nat.le_of_ble_eq_true rfl) ⟨Nat.le_refl 0, Nat.le_refl 0⟩ dX10_readsTree_28) (fun H locs V => ?_)
      obtain ⟨v6, hv6, h⟩ := bnd_ex h
      refine r_eqI hv6 ?_
      refine r_is (lv' := [(5, .int (iV v6)), (4, .int (iV v4)), (0, .ref (G.2.2.1 118)), (1, .int (iV x1)), (2, .int (iV x2)), (3, .int (iV x3))]) X dX10_readsTree_31 hl (by decide) rfl (fun ls hl => ?_)
      refine r_iln X dX10_readsTree_33 rfl (lv_at hl 4 rfl) ?_
      refine r_le (cx := wI x2) (tgt := 68) X rfl dX10_readsTree_34 (by decide) (fun c7 => ?_) (fun c7 => ?_)
      · replace h := ite_t c7 h
        refine r_aln X dX10_readsTree_37 rfl (lv_at hl 2 rfl) ?_
        refine r_gr X Y V ci_10 kd_118 24 rfl rfl (by decide) rfl rfl wd_877 dX10_readsTree_38 ?_
        refine r_iln X dX10_readsTree_41 rfl (lv_at hl 4 rfl) ?_
        refine r_ic X dX10_readsTree_42 ?_
        refine r_isub X dX10_readsTree_43 ?_
        obtain ⟨v8, hv8, hiv8, h⟩ := rdA_ex h
        refine r_ial X Y V kd_134 ln_134 hiv8 hv8 dX10_readsTree_44 ?_
        refine r_ic X dX10_readsTree_45 ?_
        refine r_cne (cx := wI v8) (cy := 2) (tgt := 68) X rfl rfl dX10_readsTree_46 (by decide) (fun c9 => ?_) (fun c9 => ?_)
        · replace h := ite_t c9 h
          refine r_aln X dX10_readsTree_49 rfl (lv_at hl 2 rfl) ?_
          refine r_bp X dX10_readsTree_50 (by decide) ?_
          refine r_bp X dX10_readsTree_52 (by decide) ?_
          obtain ⟨v10, σ11, hv10, h⟩ := bd2_ex h
          refine r_ki V (r_runV (As := [.int (iV 41), .int (iV 41)]) (rest := []) X Y V (c_X10_takes l G σ5 41 41 _ _  hv10) mv_X10_takes wd_1069 ci_10 kd_118 ⟨rfl, rfl, Nat.le_of_ble_eq_true rfl, Nat.le_of_ble_eq_true rfl⟩ rfl rfl hl.1 (Nat.le_of_ble_eq_true rfl) ⟨Nat.le_refl 0, Nat.le_refl 0⟩ dX10_readsTree_54) (fun H locs V => ?_)
          refine r_ge (cx := wI v10) (tgt := 62) X rfl dX10_readsTree_57 (by decide) (fun c12 => ?_) (fun c12 => ?_)
          · replace h := ite_t c12 h
            refine r_ic X dX10_readsTree_60 ?_
            exact r_ri X V (so2 h).1 (so2 h).2 dX10_readsTree_61
          · replace h := ite_f c12 h
            refine r_inc (kk := 4) (lv' := [(2, .int (iV (x2 + (-1)))), (5, .int (iV v6)), (4, .int (iV v4)), (0, .ref (G.2.2.1 118)), (1, .int (iV x1)), (3, .int (iV x3))]) X dX10_readsTree_62 hl rfl (by decide) rfl (fun ls hl => ?_)
            refine r_goto (tgt := 251) X dX10_readsTree_65 (by decide) ?_
            exact wj_X10_readsTree_251 X Y _ r σ' σ11 x1 (x2 + (-1))  (fun σ m1 m2 m3 H locs ls V hl h => ih σ m1 m2 m3 H locs ls V hl h) _ _ _ V (lv_sub hl [3, 4, 0] rfl) h
        · replace h := ite_f c9 h
          exact wj_X10_readsTree_68 X Y _ r σ' σ5 x1 x2 v4 v6  (fun σ m1 m2 m3 H locs ls V hl h => ih σ m1 m2 m3 H locs ls V hl h) _ _ _ V (lv_sub hl [2, 3, 4, 1, 0] rfl) h
      · replace h := ite_f c7 h
        exact wj_X10_readsTree_68 X Y _ r σ' σ5 x1 x2 v4 v6  (fun σ m1 m2 m3 H locs ls V hl h => ih σ m1 m2 m3 H locs ls V hl h) _ _ _ V (lv_sub hl [2, 3, 4, 1, 0] rfl) h
    · replace h := ite_f c3 h
      exact hkx σ  _ _ _ V (lv_sub hl [0] rfl) h

set_option maxRecDepth 100000 in
set_option maxHeartbeats 4000000 in
theorem c_X10_readsTree (l : Launch) (G : UG) (σ : St)  (r : Int) (σ' : St)  (h : f_X10_readsTree σ = some (r, σ')) : Met l yX10_readsTree (.code yX10_readsTree cX10_readsTree 7 (Option.some Jvm.ClassFile.FieldType.int) :: TB) { frames := 2, cells := 0, slots := 0, locals := 48 } (uvPc G σ [.ref (G.2.2.1 118)]) (uvQi G r σ') 0 0 (uvA G) := by
  unfold f_X10_readsTree at h
  refine r_met (own := RX10) (lv := [(0, .ref (G.2.2.1 118))]) (by decide) rfl (Nat.le_of_ble_eq_true rfl) rfl ?_
  intro p e s m below meth c ls X Y V hl
  have go : ∀ (args : Array Value) (H : Heap) (locs : List Loc), uvCx p m c cX10_readsTree 7 RX10 s args meth (Option.some Jvm.ClassFile.FieldType.int) → uvWo G σ s H locs → W p l e { frames := 2, cells := 0, slots := 0, locals := 48 } s m args below meth c H locs 0 0 (MQ below (uvQi G r σ') args s 0 0 (uvA G)) (F0 m 0 ls []) := by
    intro args H locs X V
    refine r_ic X dX10_readsTree_0 ?_
    refine r_isn (lv' := [(1, .int (iV 0)), (0, .ref (G.2.2.1 118))]) X dX10_readsTree_1 rfl hl (by decide) rfl (fun ls hl => ?_)
    refine r_ic X dX10_readsTree_2 ?_
    refine r_isn (lv' := [(2, .int (iV 0)), (1, .int (iV 0)), (0, .ref (G.2.2.1 118))]) X dX10_readsTree_3 rfl hl (by decide) rfl (fun ls hl => ?_)
    refine r_ic X dX10_readsTree_4 ?_
    refine r_isn (lv' := [(3, .int (iV 0)), (2, .int (iV 0)), (1, .int (iV 0)), (0, .ref (G.2.2.1 118))]) X dX10_readsTree_5 rfl hl (by decide) rfl (fun ls hl => ?_)
    refine r_aln X dX10_readsTree_6 rfl (lv_at hl 3 rfl) ?_
    refine r_ic X dX10_readsTree_7 ?_
    obtain ⟨σ1, hσ1, h⟩ := wrF_ex h
    refine r_pi X Y V ci_10 kd_118 21 rfl (by decide) rfl rfl rfl (tyX10_ok 21 (by decide)) wd_874 hσ1 dX10_readsTree_8 (fun H locs V => ?_)
    refine r_aln X dX10_readsTree_11 rfl (lv_at hl 3 rfl) ?_
    refine r_ic X dX10_readsTree_12 ?_
    obtain ⟨σ2, hσ2, h⟩ := wrF_ex h
    refine r_pi X Y V ci_10 kd_118 22 rfl (by decide) rfl rfl rfl (tyX10_ok 22 (by decide)) wd_875 hσ2 dX10_readsTree_13 (fun H locs V => ?_)
    refine wl_X10_readsTree_16 X Y   r σ' _ (fun σ43  H locs ls V hl h => ?_) 1000 σ2 0 0 0 _ _ _ V (lv_sub hl [3, 2, 1, 0] rfl) h
    refine r_aln X dX10_readsTree_264 rfl (lv_at hl 0 rfl) ?_
    refine r_gi (kI := 21) X Y V ci_10 kd_118 21 rfl (by decide) rfl rfl wd_874 dX10_readsTree_265 ?_
    exact r_ri X V (so2 h).1 (so2 h).2 dX10_readsTree_268
  exact go _ _ _ X V

set_option maxRecDepth 100000 in
set_option maxHeartbeats 4000000 in
theorem wl_X10_reads_115 {p : Program} {l : Launch} {e : Env} {s : State} {m : MethodId} {args : Array Value} {below : List Frame} {meth : Method} {c : Code} {G : UG} (X : uvCx p m c cX10_reads 5 RX10 s args meth (Option.some Jvm.ClassFile.FieldType.int)) (Y : uvGd G s s.heap) (x2 : Int)  (r : Int) (σ' : St) (kx : St → Option (Int × St)) (hkx : ∀ (σ : St)  (H : Heap) (locs : List Loc) (ls : Array Slot), uvWo G σ s H locs → lv_has ls 5 [(2, .int (iV x2))] → kx σ  = some (r, σ') → W p l e { frames := 3, cells := 0, slots := 0, locals := 74 } s m args below meth c H locs 0 0 (MQ below (uvQi G r σ') args s 0 0 (uvA G)) (F0 m 143 ls [])) : ∀ (n : Nat) (σ : St) (x4 : Int) (H : Heap) (locs : List Loc) (ls : Array Slot), uvWo G σ s H locs → lv_has ls 5 [(0, .ref (G.2.2.1 118)), (2, .int (iV x2)), (4, .int (iV x4))] → lp_X10_reads_115 x2 kx n σ x4 = some (r, σ') → W p l e { frames := 3, cells := 0, slots := 0, locals := 74 } s m args below meth c H locs 0 0 (MQ below (uvQi G r σ') args s 0 0 (uvA G)) (F0 m 115 ls []) := by
  intro n
  induction n with
  | zero => intro σ x4 H locs ls V hl h; cases h
  | succ n ih =>
    intro σ x4 H locs ls V hl h
    rw [lp_X10_reads_115] at h
    refine r_il X dX10_reads_115 (lv_at hl 2 rfl) ?_
    refine r_ic X dX10_reads_117 ?_
    refine r_iln X dX10_reads_118 rfl (lv_at hl 1 rfl) ?_
    refine r_imul X dX10_reads_119 ?_
    refine r_cge (cx := wI x4) (cy := wI (3 * x2)) (tgt := 143) X rfl rfl dX10_reads_120 (by decide) (fun c15 => ?_) (fun c15 => ?_)
    · replace h := ite_t c15 h
      refine r_aln X dX10_reads_123 rfl (lv_at hl 0 rfl) ?_
      refine r_gr X Y V ci_10 kd_118 2 rfl rfl (by decide) rfl rfl wd_855 dX10_reads_124 ?_
      refine r_il X dX10_reads_127 (lv_at hl 2 rfl) ?_
      refine r_aln X dX10_reads_129 rfl (lv_at hl 0 rfl) ?_
      refine r_gr X Y V ci_10 kd_118 16 rfl rfl (by decide) rfl rfl wd_869 dX10_reads_130 ?_
      refine r_il X dX10_reads_133 (lv_at hl 2 rfl) ?_
      obtain ⟨v16, hv16, hiv16, h⟩ := rdA_ex h
      refine r_ial X Y V kd_128 ln_128 hiv16 hv16 dX10_reads_135 ?_
      obtain ⟨σ17, hσ17, hiσ17, h⟩ := wrA_ex h
      refine r_ias X Y V kd_120 ln_120 hiσ17 hσ17 dX10_reads_136 (fun H locs V => ?_)
      refine r_inc (kk := 2) (lv' := [(4, .int (iV (x4 + 1))), (0, .ref (G.2.2.1 118)), (2, .int (iV x2))]) X dX10_reads_137 hl rfl (by decide) rfl (fun ls hl => ?_)
      refine r_goto (tgt := 115) X dX10_reads_140 (by decide) ?_
      exact ih σ17 (x4 + 1) _ _ _ V (lv_sub hl [1, 2, 0] rfl) h
    · replace h := ite_f c15 h
      exact hkx σ  _ _ _ V (lv_sub hl [1] rfl) h

set_option maxRecDepth 100000 in
set_option maxHeartbeats 4000000 in
theorem wl_X10_reads_162 {p : Program} {l : Launch} {e : Env} {s : State} {m : MethodId} {args : Array Value} {below : List Frame} {meth : Method} {c : Code} {G : UG} (X : uvCx p m c cX10_reads 5 RX10 s args meth (Option.some Jvm.ClassFile.FieldType.int)) (Y : uvGd G s s.heap) (x2 : Int)  (r : Int) (σ' : St) (kx : St → Option (Int × St)) (hkx : ∀ (σ : St)  (H : Heap) (locs : List Loc) (ls : Array Slot), uvWo G σ s H locs → lv_has ls 5 [(2, .int (iV x2))] → kx σ  = some (r, σ') → W p l e { frames := 3, cells := 0, slots := 0, locals := 74 } s m args below meth c H locs 0 0 (MQ below (uvQi G r σ') args s 0 0 (uvA G)) (F0 m 232 ls [])) : ∀ (n : Nat) (σ : St) (x4 : Int) (H : Heap) (locs : List Loc) (ls : Array Slot), uvWo G σ s H locs → lv_has ls 5 [(0, .ref (G.2.2.1 118)), (2, .int (iV x2)), (4, .int (iV x4))] → lp_X10_reads_162 x2 kx n σ x4 = some (r, σ') → W p l e { frames := 3, cells := 0, slots := 0, locals := 74 } s m args below meth c H locs 0 0 (MQ below (uvQi G r σ') args s 0 0 (uvA G)) (F0 m 162 ls []) := by
  intro n
  induction n with
  | zero => intro σ x4 H locs ls V hl h; cases h
  | succ n ih =>
    intro σ x4 H locs ls V hl h
    rw [lp_X10_reads_162] at h
    refine r_il X dX10_reads_162 (lv_at hl 2 rfl) ?_
    refine r_sp X dX10_reads_164 (by decide) ?_
    refine r_cge (cx := wI x4) (cy := 128) (tgt := 232) X rfl rfl dX10_reads_167 (by decide) (fun c21 => ?_) (fun c21 => ?_)
    · replace h := ite_t c21 h
      refine r_aln X dX10_reads_170 rfl (lv_at hl 0 rfl) ?_
      refine r_gr X Y V ci_10 kd_118 6 rfl rfl (by decide) rfl rfl wd_859 dX10_reads_171 ?_
      refine r_il X dX10_reads_174 (lv_at hl 2 rfl) ?_
      refine r_aln X dX10_reads_176 rfl (lv_at hl 0 rfl) ?_
      refine r_gr X Y V ci_10 kd_118 17 rfl rfl (by decide) rfl rfl wd_870 dX10_reads_177 ?_
      refine r_il X dX10_reads_180 (lv_at hl 2 rfl) ?_
      obtain ⟨v22, hv22, hiv22, h⟩ := rdA_ex h
      refine r_ial X Y V kd_129 ln_129 hiv22 hv22 dX10_reads_182 ?_
      obtain ⟨σ23, hσ23, hiσ23, h⟩ := wrA_ex h
      refine r_ias X Y V kd_122 ln_122 hiσ23 hσ23 dX10_reads_183 (fun H locs V => ?_)
      refine r_aln X dX10_reads_184 rfl (lv_at hl 0 rfl) ?_
      refine r_gr X Y V ci_10 kd_118 7 rfl rfl (by decide) rfl rfl wd_860 dX10_reads_185 ?_
      refine r_il X dX10_reads_188 (lv_at hl 2 rfl) ?_
      refine r_aln X dX10_reads_190 rfl (lv_at hl 0 rfl) ?_
      refine r_gr X Y V ci_10 kd_118 18 rfl rfl (by decide) rfl rfl wd_871 dX10_reads_191 ?_
      refine r_il X dX10_reads_194 (lv_at hl 2 rfl) ?_
      obtain ⟨v24, hv24, hiv24, h⟩ := rdA_ex h
      refine r_ial X Y V kd_130 ln_130 hiv24 hv24 dX10_reads_196 ?_
      obtain ⟨σ25, hσ25, hiσ25, h⟩ := wrA_ex h
      refine r_ias X Y V kd_123 ln_123 hiσ25 hσ25 dX10_reads_197 (fun H locs V => ?_)
      refine r_aln X dX10_reads_198 rfl (lv_at hl 0 rfl) ?_
      refine r_gr X Y V ci_10 kd_118 8 rfl rfl (by decide) rfl rfl wd_861 dX10_reads_199 ?_
      refine r_il X dX10_reads_202 (lv_at hl 2 rfl) ?_
      refine r_aln X dX10_reads_204 rfl (lv_at hl 0 rfl) ?_
      refine r_gr X Y V ci_10 kd_118 19 rfl rfl (by decide) rfl rfl wd_872 dX10_reads_205 ?_
      refine r_il X dX10_reads_208 (lv_at hl 2 rfl) ?_
      obtain ⟨v26, hv26, hiv26, h⟩ := rdA_ex h
      refine r_ial X Y V kd_131 ln_131 hiv26 hv26 dX10_reads_210 ?_
      obtain ⟨σ27, hσ27, hiσ27, h⟩ := wrA_ex h
      refine r_ias X Y V kd_124 ln_124 hiσ27 hσ27 dX10_reads_211 (fun H locs V => ?_)
      refine r_aln X dX10_reads_212 rfl (lv_at hl 0 rfl) ?_
      refine r_gr X Y V ci_10 kd_118 9 rfl rfl (by decide) rfl rfl wd_862 dX10_reads_213 ?_
      refine r_il X dX10_reads_216 (lv_at hl 2 rfl) ?_
      refine r_aln X dX10_reads_218 rfl (lv_at hl 0 rfl) ?_
      refine r_gr X Y V ci_10 kd_118 20 rfl rfl (by decide) rfl rfl wd_873 dX10_reads_219 ?_
      refine r_il X dX10_reads_222 (lv_at hl 2 rfl) ?_
      obtain ⟨v28, hv28, hiv28, h⟩ := rdA_ex h
      refine r_ial X Y V kd_132 ln_132 hiv28 hv28 dX10_reads_224 ?_
      obtain ⟨σ29, hσ29, hiσ29, h⟩ := wrA_ex h
      refine r_ias X Y V kd_125 ln_125 hiσ29 hσ29 dX10_reads_225 (fun H locs V => ?_)
      refine r_inc (kk := 2) (lv' := [(4, .int (iV (x4 + 1))), (0, .ref (G.2.2.1 118)), (2, .int (iV x2))]) X dX10_reads_226 hl rfl (by decide) rfl (fun ls hl => ?_)
      refine r_goto (tgt := 162) X dX10_reads_229 (by decide) ?_
      exact ih σ29 (x4 + 1) _ _ _ V (lv_sub hl [1, 2, 0] rfl) h
    · replace h := ite_f c21 h
      exact hkx σ  _ _ _ V (lv_sub hl [1] rfl) h

set_option maxRecDepth 100000 in
set_option maxHeartbeats 4000000 in
theorem wj_X10_reads_72 {p : Program} {l : Launch} {e : Env} {s : State} {m : MethodId} {args : Array Value} {below : List Frame} {meth : Method} {c : Code} {G : UG} (X : uvCx p m c cX10_reads 5 RX10 s args meth (Option.some Jvm.ClassFile.FieldType.int)) (Y : uvGd G s s.heap) (r : Int) (σ' : St) (σ : St) (x1 : Int) (x2 : Int) (t0 : Int)  (H : Heap) (locs : List Loc) (ls : Array Slot) (V : uvWo G σ s H locs) (hl : lv_has ls 5 [(0, .ref (G.2.2.1 118)), (1, .int (iV x1)), (2, .int (iV x2))]) (h : jn_X10_reads_72 σ x1 x2 t0 = some (r, σ')) : W p l e { frames := 3, cells := 0, slots := 0, locals := 74 } s m args below meth c H locs 0 0 (MQ below (uvQi G r σ') args s 0 0 (uvA G)) (F0 m 72 ls [.int (iV t0)]) := by
  unfold jn_X10_reads_72 at h
  refine r_isn (lv' := [(3, .int (iV t0)), (0, .ref (G.2.2.1 118)), (1, .int (iV x1)), (2, .int (iV x2))]) X dX10_reads_72 rfl hl (by decide) rfl (fun ls hl => ?_)
  refine r_iln X dX10_reads_73 rfl (lv_at hl 0 rfl) ?_
  refine r_ne (cx := wI t0) (tgt := 103) X rfl dX10_reads_74 (by decide) (fun c6 => ?_) (fun c6 => ?_)
  · replace h := ite_t c6 h
    refine r_iln X dX10_reads_77 rfl (lv_at hl 3 rfl) ?_
    refine r_ge (cx := wI x2) (tgt := 89) X rfl dX10_reads_78 (by decide) (fun c7 => ?_) (fun c7 => ?_)
    · replace h := ite_t c7 h
      refine r_iln X dX10_reads_81 rfl (lv_at hl 2 rfl) ?_
      refine r_ge (cx := wI x1) (tgt := 89) X rfl dX10_reads_82 (by decide) (fun c8 => ?_) (fun c8 => ?_)
      · replace h := ite_t c8 h
        refine r_ic X dX10_reads_85 ?_
        refine r_goto (tgt := 93) X dX10_reads_86 (by decide) ?_
        refine r_is (lv' := [(4, .int (iV 0)), (3, .int (iV t0)), (0, .ref (G.2.2.1 118)), (1, .int (iV x1)), (2, .int (iV x2))]) X dX10_reads_93 hl (by decide) rfl (fun ls hl => ?_)
        refine r_bp X dX10_reads_95 (by decide) ?_
        refine r_aln X dX10_reads_97 rfl (lv_at hl 2 rfl) ?_
        refine r_gi (kI := 15) X Y V ci_10 kd_118 15 rfl (by decide) rfl rfl wd_868 dX10_reads_98 ?_
        refine r_isub X dX10_reads_101 ?_
        exact r_ri X V (so2 h).1 (so2 h).2 dX10_reads_102
      · replace h := ite_f c8 h
        refine r_aln X dX10_reads_89 rfl (lv_at hl 1 rfl) ?_
        obtain ⟨v9, σ10, hv9, h⟩ := bd2_ex h
        refine r_ki V (r_runV (As := []) (rest := []) X Y V (c_X10_here l G σ  _ _  hv9) mv_X10_here wd_1058 ci_10 kd_118 ⟨rfl, rfl, Nat.le_of_ble_eq_true rfl, Nat.le_of_ble_eq_true rfl⟩ rfl rfl hl.1 (Nat.le_of_ble_eq_true rfl) ⟨Nat.le_refl 0, Nat.le_refl 0⟩ dX10_reads_90) (fun H locs V => ?_)
        refine r_is (lv' := [(4, .int (iV v9)), (3, .int (iV t0)), (0, .ref (G.2.2.1 118)), (1, .int (iV x1)), (2, .int (iV x2))]) X dX10_reads_93 hl (by decide) rfl (fun ls hl => ?_)
        refine r_bp X dX10_reads_95 (by decide) ?_
        refine r_aln X dX10_reads_97 rfl (lv_at hl 2 rfl) ?_
        refine r_gi (kI := 15) X Y V ci_10 kd_118 15 rfl (by decide) rfl rfl wd_868 dX10_reads_98 ?_
        refine r_isub X dX10_reads_101 ?_
        exact r_ri X V (so2 h).1 (so2 h).2 dX10_reads_102
    · replace h := ite_f c7 h
      refine r_aln X dX10_reads_89 rfl (lv_at hl 1 rfl) ?_
      obtain ⟨v11, σ12, hv11, h⟩ := bd2_ex h
      refine r_ki V (r_runV (As := []) (rest := []) X Y V (c_X10_here l G σ  _ _  hv11) mv_X10_here wd_1058 ci_10 kd_118 ⟨rfl, rfl, Nat.le_of_ble_eq_true rfl, Nat.le_of_ble_eq_true rfl⟩ rfl rfl hl.1 (Nat.le_of_ble_eq_true rfl) ⟨Nat.le_refl 0, Nat.le_refl 0⟩ dX10_reads_90) (fun H locs V => ?_)
      refine r_is (lv' := [(4, .int (iV v11)), (3, .int (iV t0)), (0, .ref (G.2.2.1 118)), (1, .int (iV x1)), (2, .int (iV x2))]) X dX10_reads_93 hl (by decide) rfl (fun ls hl => ?_)
      refine r_bp X dX10_reads_95 (by decide) ?_
      refine r_aln X dX10_reads_97 rfl (lv_at hl 2 rfl) ?_
      refine r_gi (kI := 15) X Y V ci_10 kd_118 15 rfl (by decide) rfl rfl wd_868 dX10_reads_98 ?_
      refine r_isub X dX10_reads_101 ?_
      exact r_ri X V (so2 h).1 (so2 h).2 dX10_reads_102
  · replace h := ite_f c6 h
    refine r_iln X dX10_reads_103 rfl (lv_at hl 2 rfl) ?_
    refine r_ne (cx := wI x1) (tgt := 146) X rfl dX10_reads_104 (by decide) (fun c13 => ?_) (fun c13 => ?_)
    · replace h := ite_t c13 h
      refine r_aln X dX10_reads_107 rfl (lv_at hl 1 rfl) ?_
      refine r_iln X dX10_reads_108 rfl (lv_at hl 3 rfl) ?_
      obtain ⟨σ14, hσ14, h⟩ := wrF_ex h
      refine r_pi X Y V ci_10 kd_118 3 rfl (by decide) rfl rfl rfl (tyX10_ok 3 (by decide)) wd_856 hσ14 dX10_reads_109 (fun H locs V => ?_)
      refine r_ic X dX10_reads_112 ?_
      refine r_is (lv' := [(4, .int (iV 0)), (3, .int (iV t0)), (0, .ref (G.2.2.1 118)), (1, .int (iV x1)), (2, .int (iV x2))]) X dX10_reads_113 hl (by decide) rfl (fun ls hl => ?_)
      refine wl_X10_reads_115 X Y x2  r σ' _ (fun σ18  H locs ls V hl h => ?_) 1000 σ14 0 _ _ _ V (lv_sub hl [2, 4, 0] rfl) h
      refine r_goto (tgt := 232) X dX10_reads_143 (by decide) ?_
      refine r_iln X dX10_reads_232 rfl (lv_at hl 0 rfl) ?_
      exact r_ri X V (so2 h).1 (so2 h).2 dX10_reads_233
    · replace h := ite_f c13 h
      refine r_aln X dX10_reads_146 rfl (lv_at hl 1 rfl) ?_
      refine r_iln X dX10_reads_147 rfl (lv_at hl 3 rfl) ?_
      obtain ⟨σ19, hσ19, h⟩ := wrF_ex h
      refine r_pi X Y V ci_10 kd_118 10 rfl (by decide) rfl rfl rfl (tyX10_ok 10 (by decide)) wd_863 hσ19 dX10_reads_148 (fun H locs V => ?_)
      refine r_aln X dX10_reads_151 rfl (lv_at hl 1 rfl) ?_
      refine r_aln X dX10_reads_152 rfl (lv_at hl 1 rfl) ?_
      refine r_gi (kI := 22) X Y V ci_10 kd_118 22 rfl (by decide) rfl rfl wd_875 dX10_reads_153 ?_
      obtain ⟨σ20, hσ20, h⟩ := wrF_ex h
      refine r_pi X Y V ci_10 kd_118 11 rfl (by decide) rfl rfl rfl (tyX10_ok 11 (by decide)) wd_864 hσ20 dX10_reads_156 (fun H locs V => ?_)
      refine r_ic X dX10_reads_159 ?_
      refine r_is (lv' := [(4, .int (iV 0)), (3, .int (iV t0)), (0, .ref (G.2.2.1 118)), (1, .int (iV x1)), (2, .int (iV x2))]) X dX10_reads_160 hl (by decide) rfl (fun ls hl => ?_)
      refine wl_X10_reads_162 X Y x2  r σ' _ (fun σ30  H locs ls V hl h => ?_) 1000 σ20 0 _ _ _ V (lv_sub hl [2, 4, 0] rfl) h
      refine r_iln X dX10_reads_232 rfl (lv_at hl 0 rfl) ?_
      exact r_ri X V (so2 h).1 (so2 h).2 dX10_reads_233

set_option maxRecDepth 100000 in
set_option maxHeartbeats 4000000 in
theorem wj_X10_reads_33 {p : Program} {l : Launch} {e : Env} {s : State} {m : MethodId} {args : Array Value} {below : List Frame} {meth : Method} {c : Code} {G : UG} (X : uvCx p m c cX10_reads 5 RX10 s args meth (Option.some Jvm.ClassFile.FieldType.int)) (Y : uvGd G s s.heap) (r : Int) (σ' : St) (σ : St) (x1 : Int) (t0 : Int)  (H : Heap) (locs : List Loc) (ls : Array Slot) (V : uvWo G σ s H locs) (hl : lv_has ls 5 [(0, .ref (G.2.2.1 118)), (1, .int (iV x1))]) (h : jn_X10_reads_33 σ x1 t0 = some (r, σ')) : W p l e { frames := 3, cells := 0, slots := 0, locals := 74 } s m args below meth c H locs 0 0 (MQ below (uvQi G r σ') args s 0 0 (uvA G)) (F0 m 33 ls [.int (iV t0)]) := by
  unfold jn_X10_reads_33 at h
  refine r_isn (lv' := [(2, .int (iV t0)), (0, .ref (G.2.2.1 118)), (1, .int (iV x1))]) X dX10_reads_33 rfl hl (by decide) rfl (fun ls hl => ?_)
  refine r_iln X dX10_reads_34 rfl (lv_at hl 0 rfl) ?_
  refine r_lt (cx := wI t0) (tgt := 71) X rfl dX10_reads_35 (by decide) (fun c5 => ?_) (fun c5 => ?_)
  · replace h := ite_t c5 h
    refine r_ic X dX10_reads_71 ?_
    exact wj_X10_reads_72 X Y r σ' σ x1 t0 0  _ _ _ V (lv_sub hl [1, 2, 0] rfl) h
  · replace h := ite_f c5 h
    refine r_aln X dX10_reads_38 rfl (lv_at hl 1 rfl) ?_
    refine r_bp X dX10_reads_39 (by decide) ?_
    refine r_bp X dX10_reads_41 (by decide) ?_
    obtain ⟨v31, σ32, hv31, h⟩ := bd2_ex h
    refine r_ki V (r_runV (As := [.int (iV 59), .int (iV 59)]) (rest := []) X Y V (c_X10_takes l G σ 59 59 _ _  hv31) mv_X10_takes wd_1069 ci_10 kd_118 ⟨rfl, rfl, Nat.le_of_ble_eq_true rfl, Nat.le_of_ble_eq_true rfl⟩ rfl rfl hl.1 (Nat.le_of_ble_eq_true rfl) ⟨Nat.le_refl 0, Nat.le_refl 0⟩ dX10_reads_43) (fun H locs V => ?_)
    refine r_ne (cx := wI v31) (tgt := 71) X rfl dX10_reads_46 (by decide) (fun c33 => ?_) (fun c33 => ?_)
    · replace h := ite_t c33 h
      refine r_aln X dX10_reads_49 rfl (lv_at hl 1 rfl) ?_
      obtain ⟨v34, σ35, hv34, h⟩ := bd2_ex h
      refine r_ki V (r_runV (As := []) (rest := []) X Y V (c_X10_here l G σ32  _ _  hv34) mv_X10_here wd_1058 ci_10 kd_118 ⟨rfl, rfl, Nat.le_of_ble_eq_true rfl, Nat.le_of_ble_eq_true rfl⟩ rfl rfl hl.1 (Nat.le_of_ble_eq_true rfl) ⟨Nat.le_refl 0, Nat.le_refl 0⟩ dX10_reads_50) (fun H locs V => ?_)
      have J36 : W p l e { frames := 3, cells := 0, slots := 0, locals := 74 } s m args below meth c H locs 0 0 (MQ below (uvQi G r σ') args s 0 0 (uvA G)) (F0 m 72 ls [.int (iV (if wI v34 = 0 then (if wI (σ35 118 15) = wI (σ35 118 14) then 1 else 0) else 0))]) := by
        exact wj_X10_reads_72 X Y r σ' σ35 x1 t0 (if wI v34 = 0 then (if wI (σ35 118 15) = wI (σ35 118 14) then 1 else 0) else 0)  _ _ _ V (lv_sub hl [1, 2, 0] rfl) h
      refine r_ne (cx := wI v34) (tgt := 71) X rfl dX10_reads_53 (by decide) (fun c37 => ?_) (fun c37 => ?_)
      · skip
        refine r_aln X dX10_reads_56 rfl (lv_at hl 1 rfl) ?_
        refine r_gi (kI := 15) X Y V ci_10 kd_118 15 rfl (by decide) rfl rfl wd_868 dX10_reads_57 ?_
        refine r_aln X dX10_reads_60 rfl (lv_at hl 1 rfl) ?_
        refine r_gi (kI := 14) X Y V ci_10 kd_118 14 rfl (by decide) rfl rfl wd_867 dX10_reads_61 ?_
        refine r_cne (cx := wI (σ35 118 15)) (cy := wI (σ35 118 14)) (tgt := 71) X rfl rfl dX10_reads_64 (by decide) (fun c38 => ?_) (fun c38 => ?_)
        · skip
          refine r_ic X dX10_reads_67 ?_
          refine r_goto (tgt := 72) X dX10_reads_68 (by decide) ?_
          rw [if_pos c37] at J36
          rw [if_pos c38] at J36
          exact J36
        · skip
          refine r_ic X dX10_reads_71 ?_
          rw [if_pos c37] at J36
          rw [if_neg c38] at J36
          exact J36
      · skip
        refine r_ic X dX10_reads_71 ?_
        rw [if_neg c37] at J36
        exact J36
    · replace h := ite_f c33 h
      refine r_ic X dX10_reads_71 ?_
      exact wj_X10_reads_72 X Y r σ' σ32 x1 t0 0  _ _ _ V (lv_sub hl [1, 2, 0] rfl) h

set_option maxRecDepth 100000 in
set_option maxHeartbeats 4000000 in
theorem c_X10_reads (l : Launch) (G : UG) (σ : St)  (r : Int) (σ' : St)  (h : f_X10_reads σ = some (r, σ')) : Met l yX10_reads (.code yX10_reads cX10_reads 5 (Option.some Jvm.ClassFile.FieldType.int) :: TB) { frames := 3, cells := 0, slots := 0, locals := 74 } (uvPc G σ [.ref (G.2.2.1 118)]) (uvQi G r σ') 0 0 (uvA G) := by
  unfold f_X10_reads at h
  refine r_met (own := RX10) (lv := [(0, .ref (G.2.2.1 118))]) (by decide) rfl (Nat.le_of_ble_eq_true rfl) rfl ?_
  intro p e s m below meth c ls X Y V hl
  have go : ∀ (args : Array Value) (H : Heap) (locs : List Loc), uvCx p m c cX10_reads 5 RX10 s args meth (Option.some Jvm.ClassFile.FieldType.int) → uvWo G σ s H locs → W p l e { frames := 3, cells := 0, slots := 0, locals := 74 } s m args below meth c H locs 0 0 (MQ below (uvQi G r σ') args s 0 0 (uvA G)) (F0 m 0 ls []) := by
    intro args H locs X V
    refine r_aln X dX10_reads_0 rfl (lv_at hl 0 rfl) ?_
    refine r_ic X dX10_reads_1 ?_
    obtain ⟨σ1, hσ1, h⟩ := wrF_ex h
    refine r_pi X Y V ci_10 kd_118 15 rfl (by decide) rfl rfl rfl (tyX10_ok 15 (by decide)) wd_868 hσ1 dX10_reads_2 (fun H locs V => ?_)
    refine r_aln X dX10_reads_5 rfl (lv_at hl 0 rfl) ?_
    obtain ⟨v2, σ3, hv2, h⟩ := bd2_ex h
    refine r_ki V (r_runV (As := []) (rest := []) X Y V (c_X10_takesWord l G σ1  _ _  hv2) mv_X10_takesWord wd_1054 ci_10 kd_118 ⟨rfl, rfl, Nat.le_of_ble_eq_true rfl, Nat.le_of_ble_eq_true rfl⟩ rfl rfl hl.1 (Nat.le_of_ble_eq_true rfl) ⟨Nat.le_refl 0, Nat.le_refl 0⟩ dX10_reads_6) (fun H locs V => ?_)
    refine r_isn (lv' := [(1, .int (iV v2)), (0, .ref (G.2.2.1 118))]) X dX10_reads_9 rfl hl (by decide) rfl (fun ls hl => ?_)
    refine r_iln X dX10_reads_10 rfl (lv_at hl 0 rfl) ?_
    refine r_ge (cx := wI v2) (tgt := 18) X rfl dX10_reads_11 (by decide) (fun c4 => ?_) (fun c4 => ?_)
    · replace h := ite_t c4 h
      refine r_ic X dX10_reads_14 ?_
      refine r_goto (tgt := 33) X dX10_reads_15 (by decide) ?_
      exact wj_X10_reads_33 X Y r σ' σ3 v2 (-1)  _ _ _ V (lv_sub hl [1, 0] rfl) h
    · replace h := ite_f c4 h
      refine r_iln X dX10_reads_18 rfl (lv_at hl 0 rfl) ?_
      refine r_ne (cx := wI v2) (tgt := 29) X rfl dX10_reads_19 (by decide) (fun c39 => ?_) (fun c39 => ?_)
      · replace h := ite_t c39 h
        refine r_aln X dX10_reads_22 rfl (lv_at hl 1 rfl) ?_
        obtain ⟨v40, σ41, hv40, h⟩ := bd2_ex h
        refine r_ki V (r_runV (As := []) (rest := []) X Y V (c_X10_readsRow l G σ3  _ _  hv40) mv_X10_readsRow wd_1065 ci_10 kd_118 ⟨rfl, rfl, Nat.le_of_ble_eq_true rfl, Nat.le_of_ble_eq_true rfl⟩ rfl rfl hl.1 (Nat.le_of_ble_eq_true rfl) ⟨Nat.le_refl 0, Nat.le_refl 0⟩ dX10_reads_23) (fun H locs V => ?_)
        refine r_goto (tgt := 33) X dX10_reads_26 (by decide) ?_
        exact wj_X10_reads_33 X Y r σ' σ41 v2 v40  _ _ _ V (lv_sub hl [1, 0] rfl) h
      · replace h := ite_f c39 h
        refine r_aln X dX10_reads_29 rfl (lv_at hl 1 rfl) ?_
        obtain ⟨v42, σ43, hv42, h⟩ := bd2_ex h
        refine r_ki V (r_runV (As := []) (rest := []) X Y V (c_X10_readsTree l G σ3  _ _  hv42) mv_X10_readsTree wd_1073 ci_10 kd_118 ⟨rfl, rfl, Nat.le_of_ble_eq_true rfl, Nat.le_of_ble_eq_true rfl⟩ rfl rfl hl.1 (Nat.le_of_ble_eq_true rfl) ⟨Nat.le_refl 0, Nat.le_refl 0⟩ dX10_reads_30) (fun H locs V => ?_)
        exact wj_X10_reads_33 X Y r σ' σ43 v2 v42  _ _ _ V (lv_sub hl [1, 0] rfl) h
  exact go _ _ _ X V

set_option maxRecDepth 100000 in
set_option maxHeartbeats 4000000 in
theorem c_X10_isTarget (l : Launch) (G : UG) (σ0 : St) (a1 : Int) (r : Int)  (h : f_X10_isTarget σ0 a1 = r) : Met l yX10_isTarget (.code yX10_isTarget cX10_isTarget 2 (Option.some Jvm.ClassFile.FieldType.boolean) :: TB) { frames := 1, cells := 0, slots := 0, locals := 25 } (uvPc G σ0 [.ref (G.2.2.1 118), .int (iV a1)]) (uvQz G r σ0) 0 0 (uvA G) := by
  unfold f_X10_isTarget at h
  refine r_met (own := RX10) (lv := [(0, .ref (G.2.2.1 118)), (1, .int (iV a1))]) (by decide) rfl (Nat.le_of_ble_eq_true rfl) rfl ?_
  intro p e s m below meth c ls X Y V hl
  have go : ∀ (args : Array Value) (H : Heap) (locs : List Loc), uvCx p m c cX10_isTarget 2 RX10 s args meth (Option.some Jvm.ClassFile.FieldType.boolean) → uvWo G σ0 s H locs → W p l e { frames := 1, cells := 0, slots := 0, locals := 25 } s m args below meth c H locs 0 0 (MQ below (uvQz G r σ0) args s 0 0 (uvA G)) (F0 m 0 ls []) := by
    intro args H locs X V
    refine r_iln X dX10_isTarget_0 rfl (lv_at hl 1 rfl) ?_
    refine r_i2l X dX10_isTarget_1 ?_
    refine r_lc (v := 0) X dX10_isTarget_2 rfl ?_
    refine r_aln X dX10_isTarget_3 rfl (lv_at hl 0 rfl) ?_
    refine r_gi (kI := 3) X Y V ci_10 kd_118 3 rfl (by decide) rfl rfl wd_856 dX10_isTarget_4 ?_
    refine r_ic X dX10_isTarget_7 ?_
    refine r_isub X dX10_isTarget_8 ?_
    refine r_i2l X dX10_isTarget_9 ?_
    refine r_kz V (r_runS (As := [.long (lV (i2lI a1)), .long (lV 0), .long (lV (i2lI ((σ0 118 3) - 1)))]) (rest := []) X Y V (c_X10_in l G σ0 (i2lI a1) 0 (i2lI ((σ0 118 3) - 1)) _  rfl) ms_X10_in wd_982 ⟨rfl, rfl, Nat.le_of_ble_eq_true rfl, Nat.le_of_ble_eq_true rfl⟩ rfl rfl hl.1 (Nat.le_of_ble_eq_true rfl) ⟨Nat.le_refl 0, Nat.le_refl 0⟩ dX10_isTarget_10) (fun H locs V z1 => ?_)
    exact r_rz X V z1 h rfl dX10_isTarget_13
  exact go _ _ _ X V

set_option maxRecDepth 100000 in
set_option maxHeartbeats 4000000 in
theorem c_X10_targetLeft (l : Launch) (G : UG) (σ0 : St) (a1 : Int) (r : Int)  (h : f_X10_targetLeft σ0 a1 = some r) : Met l yX10_targetLeft (.code yX10_targetLeft cX10_targetLeft 2 (Option.some Jvm.ClassFile.FieldType.int) :: TB) { frames := 0, cells := 0, slots := 0, locals := 0 } (uvPc G σ0 [.ref (G.2.2.1 118), .int (iV a1)]) (uvQi G r σ0) 0 0 (uvA G) := by
  unfold f_X10_targetLeft at h
  refine r_met (own := RX10) (lv := [(0, .ref (G.2.2.1 118)), (1, .int (iV a1))]) (by decide) rfl (Nat.le_of_ble_eq_true rfl) rfl ?_
  intro p e s m below meth c ls X Y V hl
  have go : ∀ (args : Array Value) (H : Heap) (locs : List Loc), uvCx p m c cX10_targetLeft 2 RX10 s args meth (Option.some Jvm.ClassFile.FieldType.int) → uvWo G σ0 s H locs → W p l e { frames := 0, cells := 0, slots := 0, locals := 0 } s m args below meth c H locs 0 0 (MQ below (uvQi G r σ0) args s 0 0 (uvA G)) (F0 m 0 ls []) := by
    intro args H locs X V
    refine r_iln X dX10_targetLeft_0 rfl (lv_at hl 1 rfl) ?_
    refine r_ne (cx := wI a1) (tgt := 9) X rfl dX10_targetLeft_1 (by decide) (fun c1 => ?_) (fun c1 => ?_)
    · replace h := ite_t c1 h
      refine r_bp X dX10_targetLeft_4 (by decide) ?_
      refine r_goto (tgt := 19) X dX10_targetLeft_6 (by decide) ?_
      exact r_ri X V (so1 h) rfl dX10_targetLeft_19
    · replace h := ite_f c1 h
      refine r_aln X dX10_targetLeft_9 rfl (lv_at hl 0 rfl) ?_
      refine r_gr X Y V ci_10 kd_118 2 rfl rfl (by decide) rfl rfl wd_855 dX10_targetLeft_10 ?_
      refine r_ic X dX10_targetLeft_13 ?_
      refine r_iln X dX10_targetLeft_14 rfl (lv_at hl 1 rfl) ?_
      refine r_ic X dX10_targetLeft_15 ?_
      refine r_isub X dX10_targetLeft_16 ?_
      refine r_imul X dX10_targetLeft_17 ?_
      obtain ⟨v2, hv2, hiv2, h⟩ := rdA_ex h
      refine r_ial X Y V kd_120 ln_120 hiv2 hv2 dX10_targetLeft_18 ?_
      exact r_ri X V (so1 h) rfl dX10_targetLeft_19
  exact go _ _ _ X V

set_option maxRecDepth 100000 in
set_option maxHeartbeats 4000000 in
theorem c_X10_targetRight (l : Launch) (G : UG) (σ0 : St) (a1 : Int) (r : Int)  (h : f_X10_targetRight σ0 a1 = some r) : Met l yX10_targetRight (.code yX10_targetRight cX10_targetRight 2 (Option.some Jvm.ClassFile.FieldType.int) :: TB) { frames := 0, cells := 0, slots := 0, locals := 0 } (uvPc G σ0 [.ref (G.2.2.1 118), .int (iV a1)]) (uvQi G r σ0) 0 0 (uvA G) := by
  unfold f_X10_targetRight at h
  refine r_met (own := RX10) (lv := [(0, .ref (G.2.2.1 118)), (1, .int (iV a1))]) (by decide) rfl (Nat.le_of_ble_eq_true rfl) rfl ?_
  intro p e s m below meth c ls X Y V hl
  have go : ∀ (args : Array Value) (H : Heap) (locs : List Loc), uvCx p m c cX10_targetRight 2 RX10 s args meth (Option.some Jvm.ClassFile.FieldType.int) → uvWo G σ0 s H locs → W p l e { frames := 0, cells := 0, slots := 0, locals := 0 } s m args below meth c H locs 0 0 (MQ below (uvQi G r σ0) args s 0 0 (uvA G)) (F0 m 0 ls []) := by
    intro args H locs X V
    refine r_iln X dX10_targetRight_0 rfl (lv_at hl 1 rfl) ?_
    refine r_aln X dX10_targetRight_1 rfl (lv_at hl 0 rfl) ?_
    refine r_gi (kI := 3) X Y V ci_10 kd_118 3 rfl (by decide) rfl rfl wd_856 dX10_targetRight_2 ?_
    refine r_ic X dX10_targetRight_5 ?_
    refine r_isub X dX10_targetRight_6 ?_
    refine r_cne (cx := wI a1) (cy := wI ((σ0 118 3) - 1)) (tgt := 15) X rfl rfl dX10_targetRight_7 (by decide) (fun c1 => ?_) (fun c1 => ?_)
    · replace h := ite_t c1 h
      refine r_bp X dX10_targetRight_10 (by decide) ?_
      refine r_goto (tgt := 25) X dX10_targetRight_12 (by decide) ?_
      exact r_ri X V (so1 h) rfl dX10_targetRight_25
    · replace h := ite_f c1 h
      refine r_aln X dX10_targetRight_15 rfl (lv_at hl 0 rfl) ?_
      refine r_gr X Y V ci_10 kd_118 2 rfl rfl (by decide) rfl rfl wd_855 dX10_targetRight_16 ?_
      refine r_ic X dX10_targetRight_19 ?_
      refine r_iln X dX10_targetRight_20 rfl (lv_at hl 1 rfl) ?_
      refine r_ic X dX10_targetRight_21 ?_
      refine r_iadd X dX10_targetRight_22 ?_
      refine r_imul X dX10_targetRight_23 ?_
      obtain ⟨v2, hv2, hiv2, h⟩ := rdA_ex h
      refine r_ial X Y V kd_120 ln_120 hiv2 hv2 dX10_targetRight_24 ?_
      exact r_ri X V (so1 h) rfl dX10_targetRight_25
  exact go _ _ _ X V

set_option maxRecDepth 100000 in
set_option maxHeartbeats 4000000 in
theorem c_X10_target (l : Launch) (G : UG) (σ : St) (a1 : Int) (a2 : Int) (r : Int) (σ' : St)  (h : f_X10_target σ a1 a2 = some (r, σ')) : Met l yX10_target (.code yX10_target cX10_target 3 (Option.some Jvm.ClassFile.FieldType.int) :: TB) { frames := 2, cells := 0, slots := 0, locals := 46 } (uvPc G σ [.ref (G.2.2.1 118), .int (iV a1), .int (iV a2)]) (uvQi G r σ') 0 0 (uvA G) := by
  unfold f_X10_target at h
  refine r_met (own := RX10) (lv := [(0, .ref (G.2.2.1 118)), (1, .int (iV a1)), (2, .int (iV a2))]) (by decide) rfl (Nat.le_of_ble_eq_true rfl) rfl ?_
  intro p e s m below meth c ls X Y V hl
  have go : ∀ (args : Array Value) (H : Heap) (locs : List Loc), uvCx p m c cX10_target 3 RX10 s args meth (Option.some Jvm.ClassFile.FieldType.int) → uvWo G σ s H locs → W p l e { frames := 2, cells := 0, slots := 0, locals := 46 } s m args below meth c H locs 0 0 (MQ below (uvQi G r σ') args s 0 0 (uvA G)) (F0 m 0 ls []) := by
    intro args H locs X V
    refine r_aln X dX10_target_0 rfl (lv_at hl 0 rfl) ?_
    refine r_iln X dX10_target_1 rfl (lv_at hl 1 rfl) ?_
    refine r_kz V (r_runV (As := [.int (iV a1)]) (rest := []) X Y V (c_X10_isTarget l G σ a1 _  rfl) mv_X10_isTarget wd_1088 ci_10 kd_118 ⟨rfl, rfl, Nat.le_of_ble_eq_true rfl, Nat.le_of_ble_eq_true rfl⟩ rfl rfl hl.1 (Nat.le_of_ble_eq_true rfl) ⟨Nat.le_refl 0, Nat.le_refl 0⟩ dX10_target_2) (fun H locs V z1 => ?_)
    refine r_eq (cx := (f_X10_isTarget σ a1)) (tgt := 20) X (wI_01 z1) dX10_target_5 (by decide) (fun c2 => ?_) (fun c2 => ?_)
    · replace h := ite_t c2 h
      refine r_aln X dX10_target_20 rfl (lv_at hl 0 rfl) ?_
      refine r_bp X dX10_target_21 (by decide) ?_
      obtain ⟨v3, σ4, hv3, h⟩ := bd2_ex h
      refine r_ki V (r_runV (As := [.int (iV (-2))]) (rest := []) X Y V (c_X10_bad l G σ (-2) _ _  hv3) mv_X10_bad wd_988 ci_10 kd_118 ⟨rfl, rfl, Nat.le_of_ble_eq_true rfl, Nat.le_of_ble_eq_true rfl⟩ rfl rfl hl.1 (Nat.le_of_ble_eq_true rfl) ⟨Nat.le_refl 0, Nat.le_refl 0⟩ dX10_target_23) (fun H locs V => ?_)
      exact r_ri X V (so2 h).1 (so2 h).2 dX10_target_26
    · replace h := ite_f c2 h
      refine r_iln X dX10_target_8 rfl (lv_at hl 2 rfl) ?_
      refine r_i2l X dX10_target_9 ?_
      refine r_lc (v := 0) X dX10_target_10 rfl ?_
      refine r_ldc2 X (n := 4) wd_1040 (by decide) dX10_target_11 ?_
      refine r_kz V (r_runS (As := [.long (lV (i2lI a2)), .long (lV 0), .long (lV 4)]) (rest := []) X Y V (c_X10_in l G σ (i2lI a2) 0 4 _  rfl) ms_X10_in wd_982 ⟨rfl, rfl, Nat.le_of_ble_eq_true rfl, Nat.le_of_ble_eq_true rfl⟩ rfl rfl hl.1 (Nat.le_of_ble_eq_true rfl) ⟨Nat.le_refl 0, Nat.le_refl 0⟩ dX10_target_14) (fun H locs V z5 => ?_)
      refine r_ne (cx := (f_X10_in (i2lI a2) 0 4)) (tgt := 27) X (wI_01 z5) dX10_target_17 (by decide) (fun c6 => ?_) (fun c6 => ?_)
      · replace h := ite_t c6 h
        refine r_aln X dX10_target_20 rfl (lv_at hl 0 rfl) ?_
        refine r_bp X dX10_target_21 (by decide) ?_
        obtain ⟨v7, σ8, hv7, h⟩ := bd2_ex h
        refine r_ki V (r_runV (As := [.int (iV (-2))]) (rest := []) X Y V (c_X10_bad l G σ (-2) _ _  hv7) mv_X10_bad wd_988 ci_10 kd_118 ⟨rfl, rfl, Nat.le_of_ble_eq_true rfl, Nat.le_of_ble_eq_true rfl⟩ rfl rfl hl.1 (Nat.le_of_ble_eq_true rfl) ⟨Nat.le_refl 0, Nat.le_refl 0⟩ dX10_target_23) (fun H locs V => ?_)
        exact r_ri X V (so2 h).1 (so2 h).2 dX10_target_26
      · replace h := ite_f c6 h
        refine r_iln X dX10_target_27 rfl (lv_at hl 2 rfl) ?_
        refine r_ic X dX10_target_28 ?_
        refine r_cge (cx := wI a2) (cy := 3) (tgt := 45) X rfl rfl dX10_target_29 (by decide) (fun c9 => ?_) (fun c9 => ?_)
        · replace h := ite_t c9 h
          refine r_aln X dX10_target_32 rfl (lv_at hl 0 rfl) ?_
          refine r_gr X Y V ci_10 kd_118 2 rfl rfl (by decide) rfl rfl wd_855 dX10_target_33 ?_
          refine r_ic X dX10_target_36 ?_
          refine r_iln X dX10_target_37 rfl (lv_at hl 1 rfl) ?_
          refine r_imul X dX10_target_38 ?_
          refine r_iln X dX10_target_39 rfl (lv_at hl 2 rfl) ?_
          refine r_iadd X dX10_target_40 ?_
          obtain ⟨v10, hv10, hiv10, h⟩ := rdA_ex h
          refine r_ial X Y V kd_120 ln_120 hiv10 hv10 dX10_target_41 ?_
          refine r_goto (tgt := 63) X dX10_target_42 (by decide) ?_
          exact r_ri X V (so2 h).1 (so2 h).2 dX10_target_63
        · replace h := ite_f c9 h
          refine r_iln X dX10_target_45 rfl (lv_at hl 2 rfl) ?_
          refine r_ic X dX10_target_46 ?_
          refine r_cne (cx := wI a2) (cy := 3) (tgt := 58) X rfl rfl dX10_target_47 (by decide) (fun c11 => ?_) (fun c11 => ?_)
          · replace h := ite_t c11 h
            refine r_aln X dX10_target_50 rfl (lv_at hl 0 rfl) ?_
            refine r_iln X dX10_target_51 rfl (lv_at hl 1 rfl) ?_
            obtain ⟨v12, hv12, h⟩ := bd1_ex h
            refine r_ki V (r_runV (As := [.int (iV a1)]) (rest := []) X Y V (c_X10_targetLeft l G σ a1 _  hv12) mv_X10_targetLeft wd_1092 ci_10 kd_118 ⟨rfl, rfl, Nat.le_of_ble_eq_true rfl, Nat.le_of_ble_eq_true rfl⟩ rfl rfl hl.1 (Nat.le_of_ble_eq_true rfl) ⟨Nat.le_refl 0, Nat.le_refl 0⟩ dX10_target_52) (fun H locs V => ?_)
            refine r_goto (tgt := 63) X dX10_target_55 (by decide) ?_
            exact r_ri X V (so2 h).1 (so2 h).2 dX10_target_63
          · replace h := ite_f c11 h
            refine r_aln X dX10_target_58 rfl (lv_at hl 0 rfl) ?_
            refine r_iln X dX10_target_59 rfl (lv_at hl 1 rfl) ?_
            obtain ⟨v13, hv13, h⟩ := bd1_ex h
            refine r_ki V (r_runV (As := [.int (iV a1)]) (rest := []) X Y V (c_X10_targetRight l G σ a1 _  hv13) mv_X10_targetRight wd_1096 ci_10 kd_118 ⟨rfl, rfl, Nat.le_of_ble_eq_true rfl, Nat.le_of_ble_eq_true rfl⟩ rfl rfl hl.1 (Nat.le_of_ble_eq_true rfl) ⟨Nat.le_refl 0, Nat.le_refl 0⟩ dX10_target_60) (fun H locs V => ?_)
            exact r_ri X V (so2 h).1 (so2 h).2 dX10_target_63
  exact go _ _ _ X V

set_option maxRecDepth 100000 in
set_option maxHeartbeats 4000000 in
theorem c_X10_answers (l : Launch) (G : UG) (σ0 : St) (a1 : Int) (a2 : Int) (a3 : Int) (a4 : Int) (a5 : Int) (r : Int)  (h : f_X10_answers σ0 a1 a2 a3 a4 a5 = some r) : Met l yX10_answers (.code yX10_answers cX10_answers 7 (Option.some Jvm.ClassFile.FieldType.boolean) :: TB) { frames := 0, cells := 0, slots := 0, locals := 0 } (uvPc G σ0 [.ref (G.2.2.1 118), .int (iV a1), .int (iV a2), .int (iV a3), .int (iV a4), .int (iV a5)]) (uvQz G r σ0) 0 0 (uvA G) := by
  unfold f_X10_answers at h
  refine r_met (own := RX10) (lv := [(0, .ref (G.2.2.1 118)), (1, .int (iV a1)), (2, .int (iV a2)), (3, .int (iV a3)), (4, .int (iV a4)), (5, .int (iV a5))]) (by decide) rfl (Nat.le_of_ble_eq_true rfl) rfl ?_
  intro p e s m below meth c ls X Y V hl
  have go : ∀ (args : Array Value) (H : Heap) (locs : List Loc), uvCx p m c cX10_answers 7 RX10 s args meth (Option.some Jvm.ClassFile.FieldType.boolean) → uvWo G σ0 s H locs → W p l e { frames := 0, cells := 0, slots := 0, locals := 0 } s m args below meth c H locs 0 0 (MQ below (uvQz G r σ0) args s 0 0 (uvA G)) (F0 m 0 ls []) := by
    intro args H locs X V
    refine r_aln X dX10_answers_0 rfl (lv_at hl 0 rfl) ?_
    refine r_gr X Y V ci_10 kd_118 7 rfl rfl (by decide) rfl rfl wd_860 dX10_answers_1 ?_
    refine r_iln X dX10_answers_4 rfl (lv_at hl 1 rfl) ?_
    obtain ⟨v1, hv1, hiv1, h⟩ := rdA_ex h
    refine r_ial X Y V kd_123 ln_123 hiv1 hv1 dX10_answers_5 ?_
    refine r_is (lv' := [(6, .int (iV v1)), (0, .ref (G.2.2.1 118)), (1, .int (iV a1)), (2, .int (iV a2)), (3, .int (iV a3)), (4, .int (iV a4)), (5, .int (iV a5))]) X dX10_answers_6 hl (by decide) rfl (fun ls hl => ?_)
    refine r_aln X dX10_answers_8 rfl (lv_at hl 1 rfl) ?_
    refine r_gr X Y V ci_10 kd_118 6 rfl rfl (by decide) rfl rfl wd_859 dX10_answers_9 ?_
    refine r_iln X dX10_answers_12 rfl (lv_at hl 2 rfl) ?_
    obtain ⟨v2, hv2, hiv2, h⟩ := rdA_ex h
    refine r_ial X Y V kd_122 ln_122 hiv2 hv2 dX10_answers_13 ?_
    by_cases c3 : wI v2 = 1
    · replace h := ite_t c3 h
      refine r_tbi (tgt := 40) X rfl dX10_answers_14 c3 (by decide) (by decide) rfl (by decide) ?_
      refine r_iln X dX10_answers_40 rfl (lv_at hl 3 rfl) ?_
      refine r_il X dX10_answers_41 (lv_at hl 0 rfl) ?_
      have J4 : W p l e { frames := 0, cells := 0, slots := 0, locals := 0 } s m args below meth c H locs 0 0 (MQ below (uvQz G r σ0) args s 0 0 (uvA G)) (F0 m 51 ls [.int (iV (if wI a2 = wI v1 then 1 else 0))]) := by
        exact r_rz X V (b01_ite (Or.inr rfl) (Or.inl rfl)) (so1 h) rfl dX10_answers_51
      refine r_cne (cx := wI a2) (cy := wI v1) (tgt := 50) X rfl rfl dX10_answers_43 (by decide) (fun c5 => ?_) (fun c5 => ?_)
      · skip
        refine r_ic X dX10_answers_46 ?_
        refine r_goto (tgt := 51) X dX10_answers_47 (by decide) ?_
        rw [if_pos c5] at J4
        exact J4
      · skip
        refine r_ic X dX10_answers_50 ?_
        rw [if_neg c5] at J4
        exact J4
    · replace h := ite_f c3 h
      by_cases c6 : wI v2 = 2
      · replace h := ite_t c6 h
        refine r_tbi (tgt := 52) X rfl dX10_answers_14 c6 (by decide) (by decide) rfl (by decide) ?_
        refine r_iln X dX10_answers_52 rfl (lv_at hl 4 rfl) ?_
        refine r_il X dX10_answers_53 (lv_at hl 0 rfl) ?_
        have J7 : W p l e { frames := 0, cells := 0, slots := 0, locals := 0 } s m args below meth c H locs 0 0 (MQ below (uvQz G r σ0) args s 0 0 (uvA G)) (F0 m 63 ls [.int (iV (if wI a3 = wI v1 then 1 else 0))]) := by
          exact r_rz X V (b01_ite (Or.inr rfl) (Or.inl rfl)) (so1 h) rfl dX10_answers_63
        refine r_cne (cx := wI a3) (cy := wI v1) (tgt := 62) X rfl rfl dX10_answers_55 (by decide) (fun c8 => ?_) (fun c8 => ?_)
        · skip
          refine r_ic X dX10_answers_58 ?_
          refine r_goto (tgt := 63) X dX10_answers_59 (by decide) ?_
          rw [if_pos c8] at J7
          exact J7
        · skip
          refine r_ic X dX10_answers_62 ?_
          rw [if_neg c8] at J7
          exact J7
      · replace h := ite_f c6 h
        by_cases c9 : wI v2 = 3
        · replace h := ite_t c9 h
          refine r_tbi (tgt := 64) X rfl dX10_answers_14 c9 (by decide) (by decide) rfl (by decide) ?_
          refine r_il X dX10_answers_64 (lv_at hl 5 rfl) ?_
          refine r_il X dX10_answers_66 (lv_at hl 0 rfl) ?_
          have J10 : W p l e { frames := 0, cells := 0, slots := 0, locals := 0 } s m args below meth c H locs 0 0 (MQ below (uvQz G r σ0) args s 0 0 (uvA G)) (F0 m 76 ls [.int (iV (if wI v1 < wI a4 then 1 else 0))]) := by
            exact r_rz X V (b01_ite (Or.inr rfl) (Or.inl rfl)) (so1 h) rfl dX10_answers_76
          refine r_cle (cx := wI a4) (cy := wI v1) (tgt := 75) X rfl rfl dX10_answers_68 (by decide) (fun c11 => ?_) (fun c11 => ?_)
          · skip
            refine r_ic X dX10_answers_71 ?_
            refine r_goto (tgt := 76) X dX10_answers_72 (by decide) ?_
            rw [if_pos c11] at J10
            exact J10
          · skip
            refine r_ic X dX10_answers_75 ?_
            rw [if_neg c11] at J10
            exact J10
        · replace h := ite_f c9 h
          refine r_tbo (tgt := 77) X rfl dX10_answers_14 (by omega) (by decide) ?_
          refine r_il X dX10_answers_77 (lv_at hl 6 rfl) ?_
          refine r_il X dX10_answers_79 (lv_at hl 0 rfl) ?_
          have J12 : W p l e { frames := 0, cells := 0, slots := 0, locals := 0 } s m args below meth c H locs 0 0 (MQ below (uvQz G r σ0) args s 0 0 (uvA G)) (F0 m 89 ls [.int (iV (if wI v1 < wI a5 then 1 else 0))]) := by
            exact r_rz X V (b01_ite (Or.inr rfl) (Or.inl rfl)) (so1 h) rfl dX10_answers_89
          refine r_cle (cx := wI a5) (cy := wI v1) (tgt := 88) X rfl rfl dX10_answers_81 (by decide) (fun c13 => ?_) (fun c13 => ?_)
          · skip
            refine r_ic X dX10_answers_84 ?_
            refine r_goto (tgt := 89) X dX10_answers_85 (by decide) ?_
            rw [if_pos c13] at J12
            exact J12
          · skip
            refine r_ic X dX10_answers_88 ?_
            rw [if_neg c13] at J12
            exact J12
  exact go _ _ _ X V

set_option maxRecDepth 100000 in
set_option maxHeartbeats 4000000 in
theorem c_X10_unitAnswers (l : Launch) (G : UG) (σ0 : St) (a1 : Int) (a2 : Int) (r : Int)  (h : f_X10_unitAnswers σ0 a1 a2 = some r) : Met l yX10_unitAnswers (.code yX10_unitAnswers cX10_unitAnswers 3 (Option.some Jvm.ClassFile.FieldType.boolean) :: TB) { frames := 1, cells := 0, slots := 0, locals := 26 } (uvPc G σ0 [.ref (G.2.2.1 118), .int (iV a1), .int (iV a2)]) (uvQz G r σ0) 0 0 (uvA G) := by
  unfold f_X10_unitAnswers at h
  refine r_met (own := RX10) (lv := [(0, .ref (G.2.2.1 118)), (1, .int (iV a1)), (2, .int (iV a2))]) (by decide) rfl (Nat.le_of_ble_eq_true rfl) rfl ?_
  intro p e s m below meth c ls X Y V hl
  have go : ∀ (args : Array Value) (H : Heap) (locs : List Loc), uvCx p m c cX10_unitAnswers 3 RX10 s args meth (Option.some Jvm.ClassFile.FieldType.boolean) → uvWo G σ0 s H locs → W p l e { frames := 1, cells := 0, slots := 0, locals := 26 } s m args below meth c H locs 0 0 (MQ below (uvQz G r σ0) args s 0 0 (uvA G)) (F0 m 0 ls []) := by
    intro args H locs X V
    refine r_aln X dX10_unitAnswers_0 rfl (lv_at hl 0 rfl) ?_
    refine r_iln X dX10_unitAnswers_1 rfl (lv_at hl 1 rfl) ?_
    refine r_aln X dX10_unitAnswers_2 rfl (lv_at hl 0 rfl) ?_
    refine r_iln X dX10_unitAnswers_3 rfl (lv_at hl 2 rfl) ?_
    refine r_ic X dX10_unitAnswers_4 ?_
    obtain ⟨v1, hv1, h⟩ := bd1_ex h
    refine r_ki V (r_runV (As := [.int (iV a2), .int (iV 1)]) (rest := [.int (iV a1), .ref (G.2.2.1 118)]) X Y V (c_X10_at l G σ0 a2 1 _  hv1) mv_X10_at wd_1008 ci_10 kd_118 ⟨rfl, rfl, Nat.le_of_ble_eq_true rfl, Nat.le_of_ble_eq_true rfl⟩ rfl rfl hl.1 (Nat.le_of_ble_eq_true rfl) ⟨Nat.le_refl 0, Nat.le_refl 0⟩ dX10_unitAnswers_5) (fun H locs V => ?_)
    refine r_aln X dX10_unitAnswers_8 rfl (lv_at hl 0 rfl) ?_
    refine r_iln X dX10_unitAnswers_9 rfl (lv_at hl 2 rfl) ?_
    refine r_ic X dX10_unitAnswers_10 ?_
    obtain ⟨v2, hv2, h⟩ := bd1_ex h
    refine r_ki V (r_runV (As := [.int (iV a2), .int (iV 2)]) (rest := [.int (iV v1), .int (iV a1), .ref (G.2.2.1 118)]) X Y V (c_X10_at l G σ0 a2 2 _  hv2) mv_X10_at wd_1008 ci_10 kd_118 ⟨rfl, rfl, Nat.le_of_ble_eq_true rfl, Nat.le_of_ble_eq_true rfl⟩ rfl rfl hl.1 (Nat.le_of_ble_eq_true rfl) ⟨Nat.le_refl 0, Nat.le_refl 0⟩ dX10_unitAnswers_11) (fun H locs V => ?_)
    refine r_aln X dX10_unitAnswers_14 rfl (lv_at hl 0 rfl) ?_
    refine r_iln X dX10_unitAnswers_15 rfl (lv_at hl 2 rfl) ?_
    refine r_ic X dX10_unitAnswers_16 ?_
    obtain ⟨v3, hv3, h⟩ := bd1_ex h
    refine r_ki V (r_runV (As := [.int (iV a2), .int (iV 3)]) (rest := [.int (iV v2), .int (iV v1), .int (iV a1), .ref (G.2.2.1 118)]) X Y V (c_X10_at l G σ0 a2 3 _  hv3) mv_X10_at wd_1008 ci_10 kd_118 ⟨rfl, rfl, Nat.le_of_ble_eq_true rfl, Nat.le_of_ble_eq_true rfl⟩ rfl rfl hl.1 (Nat.le_of_ble_eq_true rfl) ⟨Nat.le_refl 0, Nat.le_refl 0⟩ dX10_unitAnswers_17) (fun H locs V => ?_)
    refine r_aln X dX10_unitAnswers_20 rfl (lv_at hl 0 rfl) ?_
    refine r_iln X dX10_unitAnswers_21 rfl (lv_at hl 2 rfl) ?_
    refine r_ic X dX10_unitAnswers_22 ?_
    obtain ⟨v4, hv4, h⟩ := bd1_ex h
    refine r_ki V (r_runV (As := [.int (iV a2), .int (iV 4)]) (rest := [.int (iV v3), .int (iV v2), .int (iV v1), .int (iV a1), .ref (G.2.2.1 118)]) X Y V (c_X10_at l G σ0 a2 4 _  hv4) mv_X10_at wd_1008 ci_10 kd_118 ⟨rfl, rfl, Nat.le_of_ble_eq_true rfl, Nat.le_of_ble_eq_true rfl⟩ rfl rfl hl.1 (Nat.le_of_ble_eq_true rfl) ⟨Nat.le_refl 0, Nat.le_refl 0⟩ dX10_unitAnswers_23) (fun H locs V => ?_)
    obtain ⟨v5, hv5, h⟩ := bd1_ex h
    refine r_kz V (r_runV (As := [.int (iV a1), .int (iV v1), .int (iV v2), .int (iV v3), .int (iV v4)]) (rest := []) X Y V (c_X10_answers l G σ0 a1 v1 v2 v3 v4 _  hv5) mv_X10_answers wd_1117 ci_10 kd_118 ⟨rfl, rfl, Nat.le_of_ble_eq_true rfl, Nat.le_of_ble_eq_true rfl⟩ rfl rfl hl.1 (Nat.le_of_ble_eq_true rfl) ⟨Nat.le_refl 0, Nat.le_refl 0⟩ dX10_unitAnswers_26) (fun H locs V z6 => ?_)
    exact r_rz X V z6 (so1 h) rfl dX10_unitAnswers_29
  exact go _ _ _ X V

set_option maxRecDepth 100000 in
set_option maxHeartbeats 4000000 in
theorem c_X10_targetAnswers (l : Launch) (G : UG) (σ0 : St) (a1 : Int) (a2 : Int) (r : Int)  (h : f_X10_targetAnswers σ0 a1 a2 = some r) : Met l yX10_targetAnswers (.code yX10_targetAnswers cX10_targetAnswers 3 (Option.some Jvm.ClassFile.FieldType.boolean) :: TB) { frames := 1, cells := 0, slots := 0, locals := 26 } (uvPc G σ0 [.ref (G.2.2.1 118), .int (iV a1), .int (iV a2)]) (uvQz G r σ0) 0 0 (uvA G) := by
  unfold f_X10_targetAnswers at h
  refine r_met (own := RX10) (lv := [(0, .ref (G.2.2.1 118)), (1, .int (iV a1)), (2, .int (iV a2))]) (by decide) rfl (Nat.le_of_ble_eq_true rfl) rfl ?_
  intro p e s m below meth c ls X Y V hl
  have go : ∀ (args : Array Value) (H : Heap) (locs : List Loc), uvCx p m c cX10_targetAnswers 3 RX10 s args meth (Option.some Jvm.ClassFile.FieldType.boolean) → uvWo G σ0 s H locs → W p l e { frames := 1, cells := 0, slots := 0, locals := 26 } s m args below meth c H locs 0 0 (MQ below (uvQz G r σ0) args s 0 0 (uvA G)) (F0 m 0 ls []) := by
    intro args H locs X V
    refine r_aln X dX10_targetAnswers_0 rfl (lv_at hl 0 rfl) ?_
    refine r_iln X dX10_targetAnswers_1 rfl (lv_at hl 1 rfl) ?_
    refine r_aln X dX10_targetAnswers_2 rfl (lv_at hl 0 rfl) ?_
    refine r_iln X dX10_targetAnswers_3 rfl (lv_at hl 2 rfl) ?_
    obtain ⟨v1, hv1, h⟩ := bd1_ex h
    refine r_ki V (r_runV (As := [.int (iV a2)]) (rest := [.int (iV a1), .ref (G.2.2.1 118)]) X Y V (c_X10_targetLeft l G σ0 a2 _  hv1) mv_X10_targetLeft wd_1092 ci_10 kd_118 ⟨rfl, rfl, Nat.le_of_ble_eq_true rfl, Nat.le_of_ble_eq_true rfl⟩ rfl rfl hl.1 (Nat.le_of_ble_eq_true rfl) ⟨Nat.le_refl 0, Nat.le_refl 0⟩ dX10_targetAnswers_4) (fun H locs V => ?_)
    refine r_aln X dX10_targetAnswers_7 rfl (lv_at hl 0 rfl) ?_
    refine r_iln X dX10_targetAnswers_8 rfl (lv_at hl 2 rfl) ?_
    obtain ⟨v2, hv2, h⟩ := bd1_ex h
    refine r_ki V (r_runV (As := [.int (iV a2)]) (rest := [.int (iV v1), .int (iV a1), .ref (G.2.2.1 118)]) X Y V (c_X10_targetRight l G σ0 a2 _  hv2) mv_X10_targetRight wd_1096 ci_10 kd_118 ⟨rfl, rfl, Nat.le_of_ble_eq_true rfl, Nat.le_of_ble_eq_true rfl⟩ rfl rfl hl.1 (Nat.le_of_ble_eq_true rfl) ⟨Nat.le_refl 0, Nat.le_refl 0⟩ dX10_targetAnswers_9) (fun H locs V => ?_)
    refine r_aln X dX10_targetAnswers_12 rfl (lv_at hl 0 rfl) ?_
    refine r_gr X Y V ci_10 kd_118 2 rfl rfl (by decide) rfl rfl wd_855 dX10_targetAnswers_13 ?_
    refine r_ic X dX10_targetAnswers_16 ?_
    refine r_iln X dX10_targetAnswers_17 rfl (lv_at hl 2 rfl) ?_
    refine r_imul X dX10_targetAnswers_18 ?_
    refine r_ic X dX10_targetAnswers_19 ?_
    refine r_iadd X dX10_targetAnswers_20 ?_
    obtain ⟨v3, hv3, hiv3, h⟩ := rdA_ex h
    refine r_ial X Y V kd_120 ln_120 hiv3 hv3 dX10_targetAnswers_21 ?_
    refine r_aln X dX10_targetAnswers_22 rfl (lv_at hl 0 rfl) ?_
    refine r_gr X Y V ci_10 kd_118 2 rfl rfl (by decide) rfl rfl wd_855 dX10_targetAnswers_23 ?_
    refine r_ic X dX10_targetAnswers_26 ?_
    refine r_iln X dX10_targetAnswers_27 rfl (lv_at hl 2 rfl) ?_
    refine r_imul X dX10_targetAnswers_28 ?_
    refine r_ic X dX10_targetAnswers_29 ?_
    refine r_iadd X dX10_targetAnswers_30 ?_
    obtain ⟨v4, hv4, hiv4, h⟩ := rdA_ex h
    refine r_ial X Y V kd_120 ln_120 hiv4 hv4 dX10_targetAnswers_31 ?_
    obtain ⟨v5, hv5, h⟩ := bd1_ex h
    refine r_kz V (r_runV (As := [.int (iV a1), .int (iV v1), .int (iV v2), .int (iV v3), .int (iV v4)]) (rest := []) X Y V (c_X10_answers l G σ0 a1 v1 v2 v3 v4 _  hv5) mv_X10_answers wd_1117 ci_10 kd_118 ⟨rfl, rfl, Nat.le_of_ble_eq_true rfl, Nat.le_of_ble_eq_true rfl⟩ rfl rfl hl.1 (Nat.le_of_ble_eq_true rfl) ⟨Nat.le_refl 0, Nat.le_refl 0⟩ dX10_targetAnswers_32) (fun H locs V z6 => ?_)
    exact r_rz X V z6 (so1 h) rfl dX10_targetAnswers_35
  exact go _ _ _ X V

set_option maxRecDepth 100000 in
set_option maxHeartbeats 4000000 in
theorem wj_X10_leafOf_30 {p : Program} {l : Launch} {e : Env} {s : State} {m : MethodId} {args : Array Value} {below : List Frame} {meth : Method} {c : Code} {G : UG} (X : uvCx p m c cX10_leafOf 5 RX10 s args meth (Option.some Jvm.ClassFile.FieldType.int)) (Y : uvGd G s s.heap) (σ0 : St) (kb : Int → Option Int) (r : Int) (x1 : Int) (x2 : Int) (x3 : Int) (t0 : Int)  (hkb : ∀ (m3 : Int) (H : Heap) (locs : List Loc) (ls : Array Slot), uvWo G σ0 s H locs → lv_has ls 5 [(0, .ref (G.2.2.1 118)), (1, .int (iV x1)), (2, .int (iV x2)), (3, .int (iV m3))] → kb m3 = some r → W p l e { frames := 2, cells := 0, slots := 0, locals := 48 } s m args below meth c H locs 0 0 (MQ below (uvQi G r σ0) args s 0 0 (uvA G)) (F0 m 2 ls [])) (H : Heap) (locs : List Loc) (ls : Array Slot) (V : uvWo G σ0 s H locs) (hl : lv_has ls 5 [(0, .ref (G.2.2.1 118)), (1, .int (iV x1)), (2, .int (iV x2)), (3, .int (iV x3))]) (h : jn_X10_leafOf_30 σ0 kb x1 x2 x3 t0 = some r) : W p l e { frames := 2, cells := 0, slots := 0, locals := 48 } s m args below meth c H locs 0 0 (MQ below (uvQi G r σ0) args s 0 0 (uvA G)) (F0 m 30 ls [.int (iV t0)]) := by
  unfold jn_X10_leafOf_30 at h
  refine r_is (lv' := [(4, .int (iV t0)), (0, .ref (G.2.2.1 118)), (1, .int (iV x1)), (2, .int (iV x2)), (3, .int (iV x3))]) X dX10_leafOf_30 hl (by decide) rfl (fun ls hl => ?_)
  refine r_il X dX10_leafOf_32 (lv_at hl 0 rfl) ?_
  refine r_eq (cx := wI t0) (tgt := 46) X rfl dX10_leafOf_34 (by decide) (fun c6 => ?_) (fun c6 => ?_)
  · replace h := ite_t c6 h
    refine r_aln X dX10_leafOf_46 rfl (lv_at hl 1 rfl) ?_
    refine r_gr X Y V ci_10 kd_118 9 rfl rfl (by decide) rfl rfl wd_862 dX10_leafOf_47 ?_
    refine r_iln X dX10_leafOf_50 rfl (lv_at hl 4 rfl) ?_
    obtain ⟨v7, hv7, hiv7, h⟩ := rdA_ex h
    refine r_ial X Y V kd_125 ln_125 hiv7 hv7 dX10_leafOf_51 ?_
    refine r_isn (lv' := [(3, .int (iV v7)), (4, .int (iV t0)), (0, .ref (G.2.2.1 118)), (1, .int (iV x1)), (2, .int (iV x2))]) X dX10_leafOf_52 rfl hl (by decide) rfl (fun ls hl => ?_)
    refine r_goto (tgt := 2) X dX10_leafOf_53 (by decide) ?_
    exact hkb v7 _ _ _ V (lv_sub hl [2, 3, 4, 0] rfl) h
  · replace h := ite_f c6 h
    refine r_aln X dX10_leafOf_37 rfl (lv_at hl 1 rfl) ?_
    refine r_gr X Y V ci_10 kd_118 8 rfl rfl (by decide) rfl rfl wd_861 dX10_leafOf_38 ?_
    refine r_iln X dX10_leafOf_41 rfl (lv_at hl 4 rfl) ?_
    obtain ⟨v8, hv8, hiv8, h⟩ := rdA_ex h
    refine r_ial X Y V kd_124 ln_124 hiv8 hv8 dX10_leafOf_42 ?_
    refine r_goto (tgt := 52) X dX10_leafOf_43 (by decide) ?_
    refine r_isn (lv' := [(3, .int (iV v8)), (4, .int (iV t0)), (0, .ref (G.2.2.1 118)), (1, .int (iV x1)), (2, .int (iV x2))]) X dX10_leafOf_52 rfl hl (by decide) rfl (fun ls hl => ?_)
    refine r_goto (tgt := 2) X dX10_leafOf_53 (by decide) ?_
    exact hkb v8 _ _ _ V (lv_sub hl [2, 3, 4, 0] rfl) h

set_option maxRecDepth 100000 in
set_option maxHeartbeats 4000000 in
theorem wl_X10_leafOf_2 {p : Program} {l : Launch} {e : Env} {s : State} {m : MethodId} {args : Array Value} {below : List Frame} {meth : Method} {c : Code} {G : UG} (X : uvCx p m c cX10_leafOf 5 RX10 s args meth (Option.some Jvm.ClassFile.FieldType.int)) (Y : uvGd G s s.heap) (σ0 : St) (x1 : Int) (x2 : Int)  (r : Int) (kx : Int → Option Int) (hkx : ∀ (x3 : Int) (H : Heap) (locs : List Loc) (ls : Array Slot), uvWo G σ0 s H locs → lv_has ls 5 [(0, .ref (G.2.2.1 118)), (3, .int (iV x3))] → kx x3 = some r → W p l e { frames := 2, cells := 0, slots := 0, locals := 48 } s m args below meth c H locs 0 0 (MQ below (uvQi G r σ0) args s 0 0 (uvA G)) (F0 m 56 ls [])) : ∀ (n : Nat) (x3 : Int) (H : Heap) (locs : List Loc) (ls : Array Slot), uvWo G σ0 s H locs → lv_has ls 5 [(0, .ref (G.2.2.1 118)), (1, .int (iV x1)), (2, .int (iV x2)), (3, .int (iV x3))] → lp_X10_leafOf_2 σ0 x1 x2 kx n x3 = some r → W p l e { frames := 2, cells := 0, slots := 0, locals := 48 } s m args below meth c H locs 0 0 (MQ below (uvQi G r σ0) args s 0 0 (uvA G)) (F0 m 2 ls []) := by
  intro n
  induction n with
  | zero => intro x3 H locs ls V hl h; cases h
  | succ n ih =>
    intro x3 H locs ls V hl h
    rw [lp_X10_leafOf_2] at h
    refine r_aln X dX10_leafOf_2 rfl (lv_at hl 0 rfl) ?_
    refine r_gr X Y V ci_10 kd_118 6 rfl rfl (by decide) rfl rfl wd_859 dX10_leafOf_3 ?_
    refine r_iln X dX10_leafOf_6 rfl (lv_at hl 3 rfl) ?_
    obtain ⟨v1, hv1, hiv1, h⟩ := rdA_ex h
    refine r_ial X Y V kd_122 ln_122 hiv1 hv1 dX10_leafOf_7 ?_
    refine r_eq (cx := wI v1) (tgt := 56) X rfl dX10_leafOf_8 (by decide) (fun c2 => ?_) (fun c2 => ?_)
    · replace h := ite_t c2 h
      exact hkx x3 _ _ _ V (lv_sub hl [0, 3] rfl) h
    · replace h := ite_f c2 h
      refine r_iln X dX10_leafOf_11 rfl (lv_at hl 1 rfl) ?_
      refine r_eq (cx := wI x1) (tgt := 24) X rfl dX10_leafOf_12 (by decide) (fun c3 => ?_) (fun c3 => ?_)
      · replace h := ite_t c3 h
        refine r_aln X dX10_leafOf_24 rfl (lv_at hl 0 rfl) ?_
        refine r_iln X dX10_leafOf_25 rfl (lv_at hl 3 rfl) ?_
        refine r_iln X dX10_leafOf_26 rfl (lv_at hl 2 rfl) ?_
        obtain ⟨v4, hv4, h⟩ := bd1_ex h
        refine r_kz V (r_runV (As := [.int (iV x3), .int (iV x2)]) (rest := []) X Y V (c_X10_targetAnswers l G σ0 x3 x2 _  hv4) mv_X10_targetAnswers wd_1121 ci_10 kd_118 ⟨rfl, rfl, Nat.le_of_ble_eq_true rfl, Nat.le_of_ble_eq_true rfl⟩ rfl rfl hl.1 (Nat.le_of_ble_eq_true rfl) ⟨Nat.le_refl 0, Nat.le_refl 0⟩ dX10_leafOf_27) (fun H locs V z5 => ?_)
        exact wj_X10_leafOf_30 X Y σ0 _ r x1 x2 x3 v4  (fun m3 H locs ls V hl h => ih m3 H locs ls V hl h) _ _ _ V (lv_sub hl [0, 1, 2, 3] rfl) h
      · replace h := ite_f c3 h
        refine r_aln X dX10_leafOf_15 rfl (lv_at hl 0 rfl) ?_
        refine r_iln X dX10_leafOf_16 rfl (lv_at hl 3 rfl) ?_
        refine r_iln X dX10_leafOf_17 rfl (lv_at hl 2 rfl) ?_
        obtain ⟨v9, hv9, h⟩ := bd1_ex h
        refine r_kz V (r_runV (As := [.int (iV x3), .int (iV x2)]) (rest := []) X Y V (c_X10_unitAnswers l G σ0 x3 x2 _  hv9) mv_X10_unitAnswers wd_1113 ci_10 kd_118 ⟨rfl, rfl, Nat.le_of_ble_eq_true rfl, Nat.le_of_ble_eq_true rfl⟩ rfl rfl hl.1 (Nat.le_of_ble_eq_true rfl) ⟨Nat.le_refl 0, Nat.le_refl 0⟩ dX10_leafOf_18) (fun H locs V z10 => ?_)
        refine r_goto (tgt := 30) X dX10_leafOf_21 (by decide) ?_
        exact wj_X10_leafOf_30 X Y σ0 _ r x1 x2 x3 v9  (fun m3 H locs ls V hl h => ih m3 H locs ls V hl h) _ _ _ V (lv_sub hl [0, 1, 2, 3] rfl) h

set_option maxRecDepth 100000 in
set_option maxHeartbeats 4000000 in
theorem c_X10_leafOf (l : Launch) (G : UG) (σ0 : St) (a1 : Int) (a2 : Int) (r : Int)  (h : f_X10_leafOf σ0 a1 a2 = some r) : Met l yX10_leafOf (.code yX10_leafOf cX10_leafOf 5 (Option.some Jvm.ClassFile.FieldType.int) :: TB) { frames := 2, cells := 0, slots := 0, locals := 48 } (uvPc G σ0 [.ref (G.2.2.1 118), .int (iV a1), .int (iV a2)]) (uvQi G r σ0) 0 0 (uvA G) := by
  unfold f_X10_leafOf at h
  refine r_met (own := RX10) (lv := [(0, .ref (G.2.2.1 118)), (1, .int (iV a1)), (2, .int (iV a2))]) (by decide) rfl (Nat.le_of_ble_eq_true rfl) rfl ?_
  intro p e s m below meth c ls X Y V hl
  have go : ∀ (args : Array Value) (H : Heap) (locs : List Loc), uvCx p m c cX10_leafOf 5 RX10 s args meth (Option.some Jvm.ClassFile.FieldType.int) → uvWo G σ0 s H locs → W p l e { frames := 2, cells := 0, slots := 0, locals := 48 } s m args below meth c H locs 0 0 (MQ below (uvQi G r σ0) args s 0 0 (uvA G)) (F0 m 0 ls []) := by
    intro args H locs X V
    refine r_ic X dX10_leafOf_0 ?_
    refine r_isn (lv' := [(3, .int (iV 0)), (0, .ref (G.2.2.1 118)), (1, .int (iV a1)), (2, .int (iV a2))]) X dX10_leafOf_1 rfl hl (by decide) rfl (fun ls hl => ?_)
    refine wl_X10_leafOf_2 X Y σ0 a1 a2  r _ (fun y11 H locs ls V hl h => ?_) 1000 0 _ _ _ V (lv_sub hl [1, 2, 3, 0] rfl) h
    refine r_aln X dX10_leafOf_56 rfl (lv_at hl 0 rfl) ?_
    refine r_gr X Y V ci_10 kd_118 7 rfl rfl (by decide) rfl rfl wd_860 dX10_leafOf_57 ?_
    refine r_iln X dX10_leafOf_60 rfl (lv_at hl 1 rfl) ?_
    obtain ⟨v12, hv12, hiv12, h⟩ := rdA_ex h
    refine r_ial X Y V kd_123 ln_123 hiv12 hv12 dX10_leafOf_61 ?_
    exact r_ri X V (so1 h) rfl dX10_leafOf_62
  exact go _ _ _ X V

set_option maxRecDepth 100000 in
set_option maxHeartbeats 4000000 in
theorem wl_X10_emptyLeaves_17 {p : Program} {l : Launch} {e : Env} {s : State} {m : MethodId} {args : Array Value} {below : List Frame} {meth : Method} {c : Code} {G : UG} (X : uvCx p m c cX10_emptyLeaves 5 RX10 s args meth (Option.some Jvm.ClassFile.FieldType.int)) (Y : uvGd G s s.heap) (σ0 : St) (x1 : Int) (x2 : Int)  (r : Int) (kx : Int → Option Int) (hkx : ∀ (x3 : Int) (H : Heap) (locs : List Loc) (ls : Array Slot), uvWo G σ0 s H locs → lv_has ls 5 [(0, .ref (G.2.2.1 118)), (1, .int (iV x1)), (2, .int (iV x2)), (3, .int (iV x3))] → kx x3 = some r → W p l e { frames := 3, cells := 0, slots := 0, locals := 72 } s m args below meth c H locs 0 0 (MQ below (uvQi G r σ0) args s 0 0 (uvA G)) (F0 m 53 ls [])) : ∀ (n : Nat) (x3 : Int) (x4 : Int) (H : Heap) (locs : List Loc) (ls : Array Slot), uvWo G σ0 s H locs → lv_has ls 5 [(0, .ref (G.2.2.1 118)), (1, .int (iV x1)), (2, .int (iV x2)), (3, .int (iV x3)), (4, .int (iV x4))] → lp_X10_emptyLeaves_17 σ0 x1 x2 kx n x3 x4 = some r → W p l e { frames := 3, cells := 0, slots := 0, locals := 72 } s m args below meth c H locs 0 0 (MQ below (uvQi G r σ0) args s 0 0 (uvA G)) (F0 m 17 ls []) := by
  intro n
  induction n with
  | zero => intro x3 x4 H locs ls V hl h; cases h
  | succ n ih =>
    intro x3 x4 H locs ls V hl h
    rw [lp_X10_emptyLeaves_17] at h
    refine r_il X dX10_emptyLeaves_17 (lv_at hl 4 rfl) ?_
    refine r_aln X dX10_emptyLeaves_19 rfl (lv_at hl 0 rfl) ?_
    refine r_gi (kI := 1) X Y V ci_10 kd_118 1 rfl (by decide) rfl rfl wd_854 dX10_emptyLeaves_20 ?_
    refine r_cge (cx := wI x4) (cy := wI (σ0 118 1)) (tgt := 53) X rfl rfl dX10_emptyLeaves_23 (by decide) (fun c2 => ?_) (fun c2 => ?_)
    · replace h := ite_t c2 h
      refine r_iln X dX10_emptyLeaves_26 rfl (lv_at hl 3 rfl) ?_
      refine r_ne (cx := wI x3) (tgt := 41) X rfl dX10_emptyLeaves_27 (by decide) (fun c3 => ?_) (fun c3 => ?_)
      · replace h := ite_t c3 h
        refine r_aln X dX10_emptyLeaves_30 rfl (lv_at hl 0 rfl) ?_
        refine r_ic X dX10_emptyLeaves_31 ?_
        refine r_il X dX10_emptyLeaves_32 (lv_at hl 4 rfl) ?_
        obtain ⟨v4, hv4, h⟩ := bd1_ex h
        refine r_ki V (r_runV (As := [.int (iV 1), .int (iV x4)]) (rest := []) X Y V (c_X10_leafOf l G σ0 1 x4 _  hv4) mv_X10_leafOf wd_1109 ci_10 kd_118 ⟨rfl, rfl, Nat.le_of_ble_eq_true rfl, Nat.le_of_ble_eq_true rfl⟩ rfl rfl hl.1 (Nat.le_of_ble_eq_true rfl) ⟨Nat.le_refl 0, Nat.le_refl 0⟩ dX10_emptyLeaves_34) (fun H locs V => ?_)
        refine r_iln X dX10_emptyLeaves_37 rfl (lv_at hl 2 rfl) ?_
        have J5 : W p l e { frames := 3, cells := 0, slots := 0, locals := 72 } s m args below meth c H locs 0 0 (MQ below (uvQi G r σ0) args s 0 0 (uvA G)) (F0 m 46 ls [.int (iV (if wI v4 = wI x2 then 1 else 0))]) := by
          obtain ⟨v6, hv6, h⟩ := bnd_ex h
          refine r_eqI hv6 ?_
          refine r_isn (lv' := [(3, .int (iV v6)), (0, .ref (G.2.2.1 118)), (1, .int (iV x1)), (2, .int (iV x2)), (4, .int (iV x4))]) X dX10_emptyLeaves_46 rfl hl (by decide) rfl (fun ls hl => ?_)
          refine r_inc (kk := 4) (lv' := [(4, .int (iV (x4 + 1))), (3, .int (iV v6)), (0, .ref (G.2.2.1 118)), (1, .int (iV x1)), (2, .int (iV x2))]) X dX10_emptyLeaves_47 hl rfl (by decide) rfl (fun ls hl => ?_)
          refine r_goto (tgt := 17) X dX10_emptyLeaves_50 (by decide) ?_
          exact ih v6 (x4 + 1) _ _ _ V (lv_sub hl [2, 3, 4, 1, 0] rfl) h
        refine r_cne (cx := wI v4) (cy := wI x2) (tgt := 45) X rfl rfl dX10_emptyLeaves_38 (by decide) (fun c7 => ?_) (fun c7 => ?_)
        · skip
          refine r_ic X dX10_emptyLeaves_41 ?_
          refine r_goto (tgt := 46) X dX10_emptyLeaves_42 (by decide) ?_
          rw [if_pos c7] at J5
          exact J5
        · skip
          refine r_ic X dX10_emptyLeaves_45 ?_
          rw [if_neg c7] at J5
          exact J5
      · replace h := ite_f c3 h
        refine r_ic X dX10_emptyLeaves_41 ?_
        refine r_goto (tgt := 46) X dX10_emptyLeaves_42 (by decide) ?_
        refine r_isn (lv' := [(3, .int (iV 1)), (0, .ref (G.2.2.1 118)), (1, .int (iV x1)), (2, .int (iV x2)), (4, .int (iV x4))]) X dX10_emptyLeaves_46 rfl hl (by decide) rfl (fun ls hl => ?_)
        refine r_inc (kk := 4) (lv' := [(4, .int (iV (x4 + 1))), (3, .int (iV 1)), (0, .ref (G.2.2.1 118)), (1, .int (iV x1)), (2, .int (iV x2))]) X dX10_emptyLeaves_47 hl rfl (by decide) rfl (fun ls hl => ?_)
        refine r_goto (tgt := 17) X dX10_emptyLeaves_50 (by decide) ?_
        exact ih 1 (x4 + 1) _ _ _ V (lv_sub hl [2, 3, 4, 1, 0] rfl) h
    · replace h := ite_f c2 h
      exact hkx x3 _ _ _ V (lv_sub hl [0, 1, 2, 3] rfl) h

set_option maxRecDepth 100000 in
set_option maxHeartbeats 4000000 in
theorem wl_X10_emptyLeaves_4 {p : Program} {l : Launch} {e : Env} {s : State} {m : MethodId} {args : Array Value} {below : List Frame} {meth : Method} {c : Code} {G : UG} (X : uvCx p m c cX10_emptyLeaves 5 RX10 s args meth (Option.some Jvm.ClassFile.FieldType.int)) (Y : uvGd G s s.heap) (σ0 : St)   (r : Int) (kx : Int → Option Int) (hkx : ∀ (x1 : Int) (H : Heap) (locs : List Loc) (ls : Array Slot), uvWo G σ0 s H locs → lv_has ls 5 [(1, .int (iV x1))] → kx x1 = some r → W p l e { frames := 3, cells := 0, slots := 0, locals := 72 } s m args below meth c H locs 0 0 (MQ below (uvQi G r σ0) args s 0 0 (uvA G)) (F0 m 71 ls [])) : ∀ (n : Nat) (x1 : Int) (x2 : Int) (H : Heap) (locs : List Loc) (ls : Array Slot), uvWo G σ0 s H locs → lv_has ls 5 [(0, .ref (G.2.2.1 118)), (1, .int (iV x1)), (2, .int (iV x2))] → lp_X10_emptyLeaves_4 σ0 kx n x1 x2 = some r → W p l e { frames := 3, cells := 0, slots := 0, locals := 72 } s m args below meth c H locs 0 0 (MQ below (uvQi G r σ0) args s 0 0 (uvA G)) (F0 m 4 ls []) := by
  intro n
  induction n with
  | zero => intro x1 x2 H locs ls V hl h; cases h
  | succ n ih =>
    intro x1 x2 H locs ls V hl h
    rw [lp_X10_emptyLeaves_4] at h
    refine r_iln X dX10_emptyLeaves_4 rfl (lv_at hl 2 rfl) ?_
    refine r_aln X dX10_emptyLeaves_5 rfl (lv_at hl 0 rfl) ?_
    refine r_gi (kI := 10) X Y V ci_10 kd_118 10 rfl (by decide) rfl rfl wd_863 dX10_emptyLeaves_6 ?_
    refine r_cge (cx := wI x2) (cy := wI (σ0 118 10)) (tgt := 71) X rfl rfl dX10_emptyLeaves_9 (by decide) (fun c1 => ?_) (fun c1 => ?_)
    · replace h := ite_t c1 h
      refine r_ic X dX10_emptyLeaves_12 ?_
      refine r_isn (lv' := [(3, .int (iV 0)), (0, .ref (G.2.2.1 118)), (1, .int (iV x1)), (2, .int (iV x2))]) X dX10_emptyLeaves_13 rfl hl (by decide) rfl (fun ls hl => ?_)
      refine r_ic X dX10_emptyLeaves_14 ?_
      refine r_is (lv' := [(4, .int (iV 0)), (3, .int (iV 0)), (0, .ref (G.2.2.1 118)), (1, .int (iV x1)), (2, .int (iV x2))]) X dX10_emptyLeaves_15 hl (by decide) rfl (fun ls hl => ?_)
      refine wl_X10_emptyLeaves_17 X Y σ0 x1 x2  r _ (fun y8 H locs ls V hl h => ?_) 1000 0 0 _ _ _ V (lv_sub hl [2, 3, 4, 1, 0] rfl) h
      refine r_iln X dX10_emptyLeaves_53 rfl (lv_at hl 1 rfl) ?_
      refine r_iln X dX10_emptyLeaves_54 rfl (lv_at hl 3 rfl) ?_
      have J9 : W p l e { frames := 3, cells := 0, slots := 0, locals := 72 } s m args below meth c H locs 0 0 (MQ below (uvQi G r σ0) args s 0 0 (uvA G)) (F0 m 63 ls [.int (iV (if wI y8 = 0 then 1 else 0)), .int (iV x1)]) := by
        refine r_iadd X dX10_emptyLeaves_63 ?_
        obtain ⟨v10, hv10, h⟩ := bnd_ex h
        refine r_eqI hv10 ?_
        refine r_isn (lv' := [(1, .int (iV v10)), (0, .ref (G.2.2.1 118)), (2, .int (iV x2)), (3, .int (iV y8))]) X dX10_emptyLeaves_64 rfl hl (by decide) rfl (fun ls hl => ?_)
        refine r_inc (kk := 2) (lv' := [(2, .int (iV (x2 + 1))), (1, .int (iV v10)), (0, .ref (G.2.2.1 118)), (3, .int (iV y8))]) X dX10_emptyLeaves_65 hl rfl (by decide) rfl (fun ls hl => ?_)
        refine r_goto (tgt := 4) X dX10_emptyLeaves_68 (by decide) ?_
        exact ih v10 (x2 + 1) _ _ _ V (lv_sub hl [2, 1, 0] rfl) h
      refine r_eq (cx := wI y8) (tgt := 62) X rfl dX10_emptyLeaves_55 (by decide) (fun c11 => ?_) (fun c11 => ?_)
      · skip
        refine r_ic X dX10_emptyLeaves_62 ?_
        rw [if_pos c11] at J9
        exact J9
      · skip
        refine r_ic X dX10_emptyLeaves_58 ?_
        refine r_goto (tgt := 63) X dX10_emptyLeaves_59 (by decide) ?_
        rw [if_neg c11] at J9
        exact J9
    · replace h := ite_f c1 h
      exact hkx x1 _ _ _ V (lv_sub hl [1] rfl) h

set_option maxRecDepth 100000 in
set_option maxHeartbeats 4000000 in
theorem c_X10_emptyLeaves (l : Launch) (G : UG) (σ0 : St)  (r : Int)  (h : f_X10_emptyLeaves σ0 = some r) : Met l yX10_emptyLeaves (.code yX10_emptyLeaves cX10_emptyLeaves 5 (Option.some Jvm.ClassFile.FieldType.int) :: TB) { frames := 3, cells := 0, slots := 0, locals := 72 } (uvPc G σ0 [.ref (G.2.2.1 118)]) (uvQi G r σ0) 0 0 (uvA G) := by
  unfold f_X10_emptyLeaves at h
  refine r_met (own := RX10) (lv := [(0, .ref (G.2.2.1 118))]) (by decide) rfl (Nat.le_of_ble_eq_true rfl) rfl ?_
  intro p e s m below meth c ls X Y V hl
  have go : ∀ (args : Array Value) (H : Heap) (locs : List Loc), uvCx p m c cX10_emptyLeaves 5 RX10 s args meth (Option.some Jvm.ClassFile.FieldType.int) → uvWo G σ0 s H locs → W p l e { frames := 3, cells := 0, slots := 0, locals := 72 } s m args below meth c H locs 0 0 (MQ below (uvQi G r σ0) args s 0 0 (uvA G)) (F0 m 0 ls []) := by
    intro args H locs X V
    refine r_ic X dX10_emptyLeaves_0 ?_
    refine r_isn (lv' := [(1, .int (iV 0)), (0, .ref (G.2.2.1 118))]) X dX10_emptyLeaves_1 rfl hl (by decide) rfl (fun ls hl => ?_)
    refine r_ic X dX10_emptyLeaves_2 ?_
    refine r_isn (lv' := [(2, .int (iV 0)), (1, .int (iV 0)), (0, .ref (G.2.2.1 118))]) X dX10_emptyLeaves_3 rfl hl (by decide) rfl (fun ls hl => ?_)
    refine wl_X10_emptyLeaves_4 X Y σ0   r _ (fun y12 H locs ls V hl h => ?_) 1000 0 0 _ _ _ V (lv_sub hl [2, 1, 0] rfl) h
    refine r_iln X dX10_emptyLeaves_71 rfl (lv_at hl 0 rfl) ?_
    exact r_ri X V (so1 h) rfl dX10_emptyLeaves_72
  exact go _ _ _ X V

