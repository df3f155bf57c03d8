set_option maxRecDepth 100000 in
set_option maxHeartbeats 4000000 in
theorem c_X9_about (l : Launch) (G : UG) (σ : St) (a1 : Int) (r : Int) (σ' : St)  (h : f_X9_about σ a1 = some (r, σ')) : Met l yX9_about (.code yX9_about cX9_about 2 (Option.some Jvm.ClassFile.FieldType.int) :: TB) { frames := 7, cells := 0, slots := 0, locals := 166 } (uvPc G σ [.ref (G.2.2.1 0), .int (iV a1)]) (uvQi G r σ') 0 0 (uvA G) := by
  unfold f_X9_about at h
  refine r_met (own := RX9) (lv := [(0, .ref (G.2.2.1 0)), (1, .int (iV a1))]) (by decide) rfl (Nat.le_of_ble_eq_true rfl) rfl ?_
  intro p e s m below meth c ls X Y V hl
  have go : ∀ (args : Array Value) (H : Heap) (locs : List Loc), uvCx p m c cX9_about 2 RX9 s args meth (Option.some Jvm.ClassFile.FieldType.int) → uvWo G σ s H locs → W p l e { frames := 7, cells := 0, slots := 0, locals := 166 } s m args below meth c H locs 0 0 (MQ below (uvQi G r σ') args s 0 0 (uvA G)) (F0 m 0 ls []) := by
    intro args H locs X V
    refine r_iln X dX9_about_0 rfl (lv_at hl 1 rfl) ?_
    refine r_ic X dX9_about_1 ?_
    refine r_ic X dX9_about_2 ?_
    refine r_kz V (r_runS (As := [.int (iV a1), .int (iV 0), .int (iV 3)]) (rest := []) X Y V (c_X9_within l G σ a1 0 3 _  rfl) ms_X9_within wd_378 ⟨rfl, rfl, Nat.le_of_ble_eq_true rfl, Nat.le_of_ble_eq_true rfl⟩ rfl rfl hl.1 (Nat.le_of_ble_eq_true rfl) ⟨Nat.le_refl 0, Nat.le_refl 0⟩ dX9_about_3) (fun H locs V z1 => ?_)
    refine r_ne (cx := (f_X9_within a1 0 3)) (tgt := 14) X (wI_01 z1) dX9_about_6 (by decide) (fun c2 => ?_) (fun c2 => ?_)
    · replace h := ite_t c2 h
      refine r_aln X dX9_about_9 rfl (lv_at hl 0 rfl) ?_
      obtain ⟨v3, σ4, hv3, h⟩ := bd2_ex h
      refine r_ki V (r_runV (As := []) (rest := []) X Y V (c_X9_bad l G σ  _ _  hv3) mv_X9_bad wd_384 ci_9 kd_0 ⟨rfl, rfl, Nat.le_of_ble_eq_true rfl, Nat.le_of_ble_eq_true rfl⟩ rfl rfl hl.1 (Nat.le_of_ble_eq_true rfl) ⟨Nat.le_refl 0, Nat.le_refl 0⟩ dX9_about_10) (fun H locs V => ?_)
      exact r_ri X V (so2 h).1 (so2 h).2 dX9_about_13
    · replace h := ite_f c2 h
      refine r_aln X dX9_about_14 rfl (lv_at hl 0 rfl) ?_
      refine r_ic X dX9_about_15 ?_
      obtain ⟨v5, σ6, hv5, h⟩ := bd2_ex h
      refine r_kz V (r_runV (As := [.int (iV (-1))]) (rest := []) X Y V (c_X9_findChain l G σ (-1) _ _  hv5) mv_X9_findChain wd_738 ci_9 kd_0 ⟨rfl, rfl, Nat.le_of_ble_eq_true rfl, Nat.le_of_ble_eq_true rfl⟩ rfl rfl hl.1 (Nat.le_of_ble_eq_true rfl) ⟨Nat.le_refl 0, Nat.le_refl 0⟩ dX9_about_16) (fun H locs V z7 => ?_)
      refine r_ne (cx := v5) (tgt := 27) X (wI_01 z7) dX9_about_19 (by decide) (fun c8 => ?_) (fun c8 => ?_)
      · replace h := ite_t c8 h
        refine r_aln X dX9_about_22 rfl (lv_at hl 0 rfl) ?_
        obtain ⟨v9, σ10, hv9, h⟩ := bd2_ex h
        refine r_ki V (r_runV (As := []) (rest := []) X Y V (c_X9_no l G σ6  _ _  hv9) mv_X9_no wd_650 ci_9 kd_0 ⟨rfl, rfl, Nat.le_of_ble_eq_true rfl, Nat.le_of_ble_eq_true rfl⟩ rfl rfl hl.1 (Nat.le_of_ble_eq_true rfl) ⟨Nat.le_refl 0, Nat.le_refl 0⟩ dX9_about_23) (fun H locs V => ?_)
        exact r_ri X V (so2 h).1 (so2 h).2 dX9_about_26
      · replace h := ite_f c8 h
        refine r_iln X dX9_about_27 rfl (lv_at hl 1 rfl) ?_
        by_cases c11 : wI a1 = 0
        · replace h := ite_t c11 h
          refine r_tbi (tgt := 56) X rfl dX9_about_28 c11 (by decide) (by decide) rfl (by decide) ?_
          refine r_aln X dX9_about_56 rfl (lv_at hl 0 rfl) ?_
          refine r_gr X Y V ci_9 kd_0 7 rfl rfl (by decide) rfl rfl wd_341 dX9_about_57 ?_
          refine r_aln X dX9_about_60 rfl (lv_at hl 0 rfl) ?_
          refine r_gr X Y V ci_9 kd_0 0 rfl rfl (by decide) rfl rfl wd_334 dX9_about_61 ?_
          obtain ⟨v12, hv12, h⟩ := bd1_ex h
          refine r_ki V (r_runV (As := [.ref (G.2.2.1 1)]) (rest := []) X Y V (c_X0_pathFollowers l G σ6  _  hv12) mv_X0_pathFollowers wd_811 ci_0 kd_55 ⟨rfl, rfl, Nat.le_of_ble_eq_true rfl, Nat.le_of_ble_eq_true rfl⟩ rfl rfl hl.1 (Nat.le_of_ble_eq_true rfl) ⟨Nat.le_refl 0, Nat.le_refl 0⟩ dX9_about_64) (fun H locs V => ?_)
          exact r_ri X V (so2 h).1 (so2 h).2 dX9_about_67
        · replace h := ite_f c11 h
          by_cases c13 : wI a1 = 1
          · replace h := ite_t c13 h
            refine r_tbi (tgt := 68) X rfl dX9_about_28 c13 (by decide) (by decide) rfl (by decide) ?_
            refine r_aln X dX9_about_68 rfl (lv_at hl 0 rfl) ?_
            refine r_gr X Y V ci_9 kd_0 7 rfl rfl (by decide) rfl rfl wd_341 dX9_about_69 ?_
            refine r_aln X dX9_about_72 rfl (lv_at hl 0 rfl) ?_
            refine r_gi (kI := 8) X Y V ci_9 kd_0 8 rfl (by decide) rfl rfl wd_342 dX9_about_73 ?_
            obtain ⟨v14, hv14, h⟩ := bd1_ex h
            refine r_ki V (r_runV (As := [.int (iV (σ6 0 8))]) (rest := []) X Y V (c_X0_pathFits l G σ6 (σ6 0 8) _  hv14) mv_X0_pathFits wd_815 ci_0 kd_55 ⟨rfl, rfl, Nat.le_of_ble_eq_true rfl, Nat.le_of_ble_eq_true rfl⟩ rfl rfl hl.1 (Nat.le_of_ble_eq_true rfl) ⟨Nat.le_refl 0, Nat.le_refl 0⟩ dX9_about_76) (fun H locs V => ?_)
            exact r_ri X V (so2 h).1 (so2 h).2 dX9_about_79
          · replace h := ite_f c13 h
            by_cases c15 : wI a1 = 2
            · replace h := ite_t c15 h
              refine r_tbi (tgt := 80) X rfl dX9_about_28 c15 (by decide) (by decide) rfl (by decide) ?_
              refine r_aln X dX9_about_80 rfl (lv_at hl 0 rfl) ?_
              refine r_gr X Y V ci_9 kd_0 7 rfl rfl (by decide) rfl rfl wd_341 dX9_about_81 ?_
              obtain ⟨v16, hv16, h⟩ := bd1_ex h
              refine r_ki V (r_runV (As := []) (rest := []) X Y V (c_X0_pathJoints l G σ6  _  hv16) mv_X0_pathJoints wd_819 ci_0 kd_55 ⟨rfl, rfl, Nat.le_of_ble_eq_true rfl, Nat.le_of_ble_eq_true rfl⟩ rfl rfl hl.1 (Nat.le_of_ble_eq_true rfl) ⟨Nat.le_refl 0, Nat.le_refl 0⟩ dX9_about_84) (fun H locs V => ?_)
              exact r_ri X V (so2 h).1 (so2 h).2 dX9_about_87
            · replace h := ite_f c15 h
              refine r_tbo (tgt := 88) X rfl dX9_about_28 (by omega) (by decide) ?_
              refine r_aln X dX9_about_88 rfl (lv_at hl 0 rfl) ?_
              refine r_gr X Y V ci_9 kd_0 7 rfl rfl (by decide) rfl rfl wd_341 dX9_about_89 ?_
              obtain ⟨v17, hv17, h⟩ := bd1_ex h
              refine r_ki V (r_runV (As := []) (rest := []) X Y V (c_X0_dearestPathJoint l G σ6  _  hv17) mv_X0_dearestPathJoint wd_823 ci_0 kd_55 ⟨rfl, rfl, Nat.le_of_ble_eq_true rfl, Nat.le_of_ble_eq_true rfl⟩ rfl rfl hl.1 (Nat.le_of_ble_eq_true rfl) ⟨Nat.le_refl 0, Nat.le_refl 0⟩ dX9_about_92) (fun H locs V => ?_)
              exact r_ri X V (so2 h).1 (so2 h).2 dX9_about_95
  exact go _ _ _ X V

set_option maxRecDepth 100000 in
set_option maxHeartbeats 4000000 in
theorem wl_X9_cheapest_39 {p : Program} {l : Launch} {e : Env} {s : State} {m : MethodId} {args : Array Value} {below : List Frame} {meth : Method} {c : Code} {G : UG} (X : uvCx p m c cX9_cheapest 5 RX9 s args meth (Option.some Jvm.ClassFile.FieldType.int)) (Y : uvGd G s s.heap) (x1 : Int)  (r : Int) (σ' : St) (kx : St → Int → Int → Option (Int × St)) (hkx : ∀ (σ : St) (x2 : Int) (x3 : Int) (H : Heap) (locs : List Loc) (ls : Array Slot), uvWo G σ s H locs → lv_has ls 5 [(1, .int (iV x1)), (2, .int (iV x2)), (3, .int (iV x3))] → kx σ x2 x3 = some (r, σ') → W p l e { frames := 6, cells := 0, slots := 0, locals := 145 } s m args below meth c H locs 0 0 (MQ below (uvQi G r σ') args s 0 0 (uvA G)) (F0 m 82 ls [])) : ∀ (n : Nat) (σ : St) (x2 : Int) (x3 : Int) (x4 : Int) (H : Heap) (locs : List Loc) (ls : Array Slot), uvWo G σ s H locs → lv_has ls 5 [(0, .ref (G.2.2.1 0)), (1, .int (iV x1)), (2, .int (iV x2)), (3, .int (iV x3)), (4, .int (iV x4))] → lp_X9_cheapest_39 x1 kx n σ x2 x3 x4 = some (r, σ') → W p l e { frames := 6, cells := 0, slots := 0, locals := 145 } s m args below meth c H locs 0 0 (MQ below (uvQi G r σ') args s 0 0 (uvA G)) (F0 m 39 ls []) := by
  intro n
  induction n with
  | zero => intro σ x2 x3 x4 H locs ls V hl h; cases h
  | succ n ih =>
    intro σ x2 x3 x4 H locs ls V hl h
    rw [lp_X9_cheapest_39] at h
    refine r_il X dX9_cheapest_39 (lv_at hl 4 rfl) ?_
    refine r_ic X dX9_cheapest_41 ?_
    refine r_cge (cx := wI x4) (cy := 5) (tgt := 82) X rfl rfl dX9_cheapest_42 (by decide) (fun c11 => ?_) (fun c11 => ?_)
    · replace h := ite_t c11 h
      refine r_aln X dX9_cheapest_45 rfl (lv_at hl 0 rfl) ?_
      refine r_gr X Y V ci_9 kd_0 7 rfl rfl (by decide) rfl rfl wd_341 dX9_cheapest_46 ?_
      refine r_il X dX9_cheapest_49 (lv_at hl 4 rfl) ?_
      obtain ⟨v12, σ13, hv12, h⟩ := bd2_ex h
      refine r_kv V (r_runV (As := [.int (iV x4)]) (rest := []) X Y V (c_X0_weigh l G σ x4 _ _  hv12) mv_X0_weigh wd_747 ci_0 kd_55 ⟨rfl, rfl, Nat.le_of_ble_eq_true rfl, Nat.le_of_ble_eq_true rfl⟩ rfl rfl hl.1 (Nat.le_of_ble_eq_true rfl) ⟨Nat.le_refl 0, Nat.le_refl 0⟩ dX9_cheapest_51) (fun H locs V => ?_)
      refine r_aln X dX9_cheapest_54 rfl (lv_at hl 0 rfl) ?_
      refine r_gr X Y V ci_9 kd_0 7 rfl rfl (by decide) rfl rfl wd_341 dX9_cheapest_55 ?_
      obtain ⟨v14, hv14, h⟩ := bd1_ex h
      refine r_ki V (r_runV (As := []) (rest := []) X Y V (c_X0_leastPrice l G σ13  _  hv14) mv_X0_leastPrice wd_770 ci_0 kd_55 ⟨rfl, rfl, Nat.le_of_ble_eq_true rfl, Nat.le_of_ble_eq_true rfl⟩ rfl rfl hl.1 (Nat.le_of_ble_eq_true rfl) ⟨Nat.le_refl 0, Nat.le_refl 0⟩ dX9_cheapest_58) (fun H locs V => ?_)
      refine r_iln X dX9_cheapest_61 rfl (lv_at hl 3 rfl) ?_
      refine r_cge (cx := wI v14) (cy := wI x3) (tgt := 76) X rfl rfl dX9_cheapest_62 (by decide) (fun c15 => ?_) (fun c15 => ?_)
      · replace h := ite_t c15 h
        refine r_il X dX9_cheapest_65 (lv_at hl 4 rfl) ?_
        refine r_isn (lv' := [(2, .int (iV x4)), (0, .ref (G.2.2.1 0)), (1, .int (iV x1)), (3, .int (iV x3)), (4, .int (iV x4))]) X dX9_cheapest_67 rfl hl (by decide) rfl (fun ls hl => ?_)
        refine r_aln X dX9_cheapest_68 rfl (lv_at hl 1 rfl) ?_
        refine r_gr X Y V ci_9 kd_0 7 rfl rfl (by decide) rfl rfl wd_341 dX9_cheapest_69 ?_
        obtain ⟨v16, hv16, h⟩ := bd1_ex h
        refine r_ki V (r_runV (As := []) (rest := []) X Y V (c_X0_leastPrice l G σ13  _  hv16) mv_X0_leastPrice wd_770 ci_0 kd_55 ⟨rfl, rfl, Nat.le_of_ble_eq_true rfl, Nat.le_of_ble_eq_true rfl⟩ rfl rfl hl.1 (Nat.le_of_ble_eq_true rfl) ⟨Nat.le_refl 0, Nat.le_refl 0⟩ dX9_cheapest_72) (fun H locs V => ?_)
        refine r_isn (lv' := [(3, .int (iV v16)), (2, .int (iV x4)), (0, .ref (G.2.2.1 0)), (1, .int (iV x1)), (4, .int (iV x4))]) X dX9_cheapest_75 rfl hl (by decide) rfl (fun ls hl => ?_)
        refine r_inc (kk := 4) (lv' := [(4, .int (iV (x4 + 1))), (3, .int (iV v16)), (2, .int (iV x4)), (0, .ref (G.2.2.1 0)), (1, .int (iV x1))]) X dX9_cheapest_76 hl rfl (by decide) rfl (fun ls hl => ?_)
        refine r_goto (tgt := 39) X dX9_cheapest_79 (by decide) ?_
        exact ih σ13 x4 v16 (x4 + 1) _ _ _ V (lv_sub hl [3, 4, 2, 1, 0] rfl) h
      · replace h := ite_f c15 h
        refine r_inc (kk := 4) (lv' := [(4, .int (iV (x4 + 1))), (0, .ref (G.2.2.1 0)), (1, .int (iV x1)), (2, .int (iV x2)), (3, .int (iV x3))]) X dX9_cheapest_76 hl rfl (by decide) rfl (fun ls hl => ?_)
        refine r_goto (tgt := 39) X dX9_cheapest_79 (by decide) ?_
        exact ih σ13 x2 x3 (x4 + 1) _ _ _ V (lv_sub hl [1, 2, 3, 4, 0] rfl) h
    · replace h := ite_f c11 h
      exact hkx σ x2 x3 _ _ _ V (lv_sub hl [1, 2, 3] rfl) h

set_option maxRecDepth 100000 in
set_option maxHeartbeats 4000000 in
theorem c_X9_cheapest (l : Launch) (G : UG) (σ : St) (a1 : Int) (r : Int) (σ' : St)  (h : f_X9_cheapest σ a1 = some (r, σ')) : Met l yX9_cheapest (.code yX9_cheapest cX9_cheapest 5 (Option.some Jvm.ClassFile.FieldType.int) :: TB) { frames := 6, cells := 0, slots := 0, locals := 145 } (uvPc G σ [.ref (G.2.2.1 0), .int (iV a1)]) (uvQi G r σ') 0 0 (uvA G) := by
  unfold f_X9_cheapest at h
  refine r_met (own := RX9) (lv := [(0, .ref (G.2.2.1 0)), (1, .int (iV a1))]) (by decide) rfl (Nat.le_of_ble_eq_true rfl) rfl ?_
  intro p e s m below meth c ls X Y V hl
  have go : ∀ (args : Array Value) (H : Heap) (locs : List Loc), uvCx p m c cX9_cheapest 5 RX9 s args meth (Option.some Jvm.ClassFile.FieldType.int) → uvWo G σ s H locs → W p l e { frames := 6, cells := 0, slots := 0, locals := 145 } s m args below meth c H locs 0 0 (MQ below (uvQi G r σ') args s 0 0 (uvA G)) (F0 m 0 ls []) := by
    intro args H locs X V
    refine r_iln X dX9_cheapest_0 rfl (lv_at hl 1 rfl) ?_
    refine r_ic X dX9_cheapest_1 ?_
    refine r_ic X dX9_cheapest_2 ?_
    refine r_kz V (r_runS (As := [.int (iV a1), .int (iV 0), .int (iV 1)]) (rest := []) X Y V (c_X9_within l G σ a1 0 1 _  rfl) ms_X9_within wd_378 ⟨rfl, rfl, Nat.le_of_ble_eq_true rfl, Nat.le_of_ble_eq_true rfl⟩ rfl rfl hl.1 (Nat.le_of_ble_eq_true rfl) ⟨Nat.le_refl 0, Nat.le_refl 0⟩ dX9_cheapest_3) (fun H locs V z1 => ?_)
    refine r_ne (cx := (f_X9_within a1 0 1)) (tgt := 14) X (wI_01 z1) dX9_cheapest_6 (by decide) (fun c2 => ?_) (fun c2 => ?_)
    · replace h := ite_t c2 h
      refine r_aln X dX9_cheapest_9 rfl (lv_at hl 0 rfl) ?_
      obtain ⟨v3, σ4, hv3, h⟩ := bd2_ex h
      refine r_ki V (r_runV (As := []) (rest := []) X Y V (c_X9_bad l G σ  _ _  hv3) mv_X9_bad wd_384 ci_9 kd_0 ⟨rfl, rfl, Nat.le_of_ble_eq_true rfl, Nat.le_of_ble_eq_true rfl⟩ rfl rfl hl.1 (Nat.le_of_ble_eq_true rfl) ⟨Nat.le_refl 0, Nat.le_refl 0⟩ dX9_cheapest_10) (fun H locs V => ?_)
      exact r_ri X V (so2 h).1 (so2 h).2 dX9_cheapest_13
    · replace h := ite_f c2 h
      refine r_aln X dX9_cheapest_14 rfl (lv_at hl 0 rfl) ?_
      refine r_gr X Y V ci_9 kd_0 5 rfl rfl (by decide) rfl rfl wd_339 dX9_cheapest_15 ?_
      refine r_ic X dX9_cheapest_18 ?_
      obtain ⟨v5, σ6, hv5, h⟩ := bd2_ex h
      refine r_kz V (r_runV (As := [.int (iV (-1))]) (rest := []) X Y V (c_X2_chooseAll l G σ (-1) _ _  hv5) mv_X2_chooseAll wd_742 ci_2 kd_35 ⟨rfl, rfl, Nat.le_of_ble_eq_true rfl, Nat.le_of_ble_eq_true rfl⟩ rfl rfl hl.1 (Nat.le_of_ble_eq_true rfl) ⟨Nat.le_refl 0, Nat.le_refl 0⟩ dX9_cheapest_19) (fun H locs V z7 => ?_)
      refine r_ne (cx := v5) (tgt := 30) X (wI_01 z7) dX9_cheapest_22 (by decide) (fun c8 => ?_) (fun c8 => ?_)
      · replace h := ite_t c8 h
        refine r_aln X dX9_cheapest_25 rfl (lv_at hl 0 rfl) ?_
        obtain ⟨v9, σ10, hv9, h⟩ := bd2_ex h
        refine r_ki V (r_runV (As := []) (rest := []) X Y V (c_X9_no l G σ6  _ _  hv9) mv_X9_no wd_650 ci_9 kd_0 ⟨rfl, rfl, Nat.le_of_ble_eq_true rfl, Nat.le_of_ble_eq_true rfl⟩ rfl rfl hl.1 (Nat.le_of_ble_eq_true rfl) ⟨Nat.le_refl 0, Nat.le_refl 0⟩ dX9_cheapest_26) (fun H locs V => ?_)
        exact r_ri X V (so2 h).1 (so2 h).2 dX9_cheapest_29
      · replace h := ite_f c8 h
        refine r_ic X dX9_cheapest_30 ?_
        refine r_isn (lv' := [(2, .int (iV 0)), (0, .ref (G.2.2.1 0)), (1, .int (iV a1))]) X dX9_cheapest_31 rfl hl (by decide) rfl (fun ls hl => ?_)
        refine r_ldcw X (n := 1000000) wd_832 (by decide) dX9_cheapest_32 ?_
        refine r_isn (lv' := [(3, .int (iV 1000000)), (2, .int (iV 0)), (0, .ref (G.2.2.1 0)), (1, .int (iV a1))]) X dX9_cheapest_35 rfl hl (by decide) rfl (fun ls hl => ?_)
        refine r_ic X dX9_cheapest_36 ?_
        refine r_is (lv' := [(4, .int (iV 0)), (3, .int (iV 1000000)), (2, .int (iV 0)), (0, .ref (G.2.2.1 0)), (1, .int (iV a1))]) X dX9_cheapest_37 hl (by decide) rfl (fun ls hl => ?_)
        refine wl_X9_cheapest_39 X Y a1  r σ' _ (fun σ17 y18 y19 H locs ls V hl h => ?_) 1000 σ6 0 1000000 0 _ _ _ V (lv_sub hl [3, 4, 2, 1, 0] rfl) h
        refine r_iln X dX9_cheapest_82 rfl (lv_at hl 0 rfl) ?_
        have J20 : W p l e { frames := 6, cells := 0, slots := 0, locals := 145 } s m args below meth c H locs 0 0 (MQ below (uvQi G r σ') args s 0 0 (uvA G)) (F0 m 91 ls [.int (iV (if wI a1 = 0 then y18 else y19))]) := by
          exact r_ri X V (so2 h).1 (so2 h).2 dX9_cheapest_91
        refine r_ne (cx := wI a1) (tgt := 90) X rfl dX9_cheapest_83 (by decide) (fun c21 => ?_) (fun c21 => ?_)
        · skip
          refine r_iln X dX9_cheapest_86 rfl (lv_at hl 1 rfl) ?_
          refine r_goto (tgt := 91) X dX9_cheapest_87 (by decide) ?_
          rw [if_pos c21] at J20
          exact J20
        · skip
          refine r_iln X dX9_cheapest_90 rfl (lv_at hl 2 rfl) ?_
          rw [if_neg c21] at J20
          exact J20
  exact go _ _ _ X V

set_option maxRecDepth 100000 in
set_option maxHeartbeats 4000000 in
theorem c_X9_told (l : Launch) (G : UG) (σ : St) (a1 : Int) (r : Int) (σ' : St)  (h : f_X9_told σ a1 = some (r, σ')) : Met l yX9_told (.code yX9_told cX9_told 2 (Option.some Jvm.ClassFile.FieldType.int) :: TB) { frames := 1, cells := 0, slots := 0, locals := 20 } (uvPc G σ [.ref (G.2.2.1 0), .int (iV a1)]) (uvQi G r σ') 0 0 (uvA G) := by
  unfold f_X9_told at h
  refine r_met (own := RX9) (lv := [(0, .ref (G.2.2.1 0)), (1, .int (iV a1))]) (by decide) rfl (Nat.le_of_ble_eq_true rfl) rfl ?_
  intro p e s m below meth c ls X Y V hl
  have go : ∀ (args : Array Value) (H : Heap) (locs : List Loc), uvCx p m c cX9_told 2 RX9 s args meth (Option.some Jvm.ClassFile.FieldType.int) → uvWo G σ s H locs → W p l e { frames := 1, cells := 0, slots := 0, locals := 20 } s m args below meth c H locs 0 0 (MQ below (uvQi G r σ') args s 0 0 (uvA G)) (F0 m 0 ls []) := by
    intro args H locs X V
    refine r_iln X dX9_told_0 rfl (lv_at hl 1 rfl) ?_
    by_cases c1 : wI a1 = 0
    · replace h := ite_t c1 h
      refine r_tbi (tgt := 44) X rfl dX9_told_1 c1 (by decide) (by decide) rfl (by decide) ?_
      refine r_aln X dX9_told_44 rfl (lv_at hl 0 rfl) ?_
      refine r_gi (kI := 9) X Y V ci_9 kd_0 9 rfl (by decide) rfl rfl wd_343 dX9_told_45 ?_
      exact r_ri X V (so2 h).1 (so2 h).2 dX9_told_48
    · replace h := ite_f c1 h
      by_cases c2 : wI a1 = 1
      · replace h := ite_t c2 h
        refine r_tbi (tgt := 49) X rfl dX9_told_1 c2 (by decide) (by decide) rfl (by decide) ?_
        refine r_aln X dX9_told_49 rfl (lv_at hl 0 rfl) ?_
        refine r_gi (kI := 10) X Y V ci_9 kd_0 10 rfl (by decide) rfl rfl wd_344 dX9_told_50 ?_
        exact r_ri X V (so2 h).1 (so2 h).2 dX9_told_53
      · replace h := ite_f c2 h
        by_cases c3 : wI a1 = 2
        · replace h := ite_t c3 h
          refine r_tbi (tgt := 54) X rfl dX9_told_1 c3 (by decide) (by decide) rfl (by decide) ?_
          refine r_aln X dX9_told_54 rfl (lv_at hl 0 rfl) ?_
          refine r_gi (kI := 11) X Y V ci_9 kd_0 11 rfl (by decide) rfl rfl wd_345 dX9_told_55 ?_
          exact r_ri X V (so2 h).1 (so2 h).2 dX9_told_58
        · replace h := ite_f c3 h
          by_cases c4 : wI a1 = 3
          · replace h := ite_t c4 h
            refine r_tbi (tgt := 59) X rfl dX9_told_1 c4 (by decide) (by decide) rfl (by decide) ?_
            refine r_aln X dX9_told_59 rfl (lv_at hl 0 rfl) ?_
            refine r_gr X Y V ci_9 kd_0 3 rfl rfl (by decide) rfl rfl wd_337 dX9_told_60 ?_
            refine r_gi (kI := 3) X Y V ci_6 kd_21 3 rfl (by decide) rfl rfl wd_177 dX9_told_63 ?_
            exact r_ri X V (so2 h).1 (so2 h).2 dX9_told_66
          · replace h := ite_f c4 h
            by_cases c5 : wI a1 = 4
            · replace h := ite_t c5 h
              refine r_tbi (tgt := 67) X rfl dX9_told_1 c5 (by decide) (by decide) rfl (by decide) ?_
              refine r_aln X dX9_told_67 rfl (lv_at hl 0 rfl) ?_
              refine r_gr X Y V ci_9 kd_0 0 rfl rfl (by decide) rfl rfl wd_334 dX9_told_68 ?_
              refine r_gi (kI := 8) X Y V ci_8 kd_1 8 rfl (by decide) rfl rfl wd_64 dX9_told_71 ?_
              exact r_ri X V (so2 h).1 (so2 h).2 dX9_told_74
            · replace h := ite_f c5 h
              by_cases c6 : wI a1 = 5
              · replace h := ite_t c6 h
                refine r_tbi (tgt := 75) X rfl dX9_told_1 c6 (by decide) (by decide) rfl (by decide) ?_
                refine r_aln X dX9_told_75 rfl (lv_at hl 0 rfl) ?_
                refine r_gr X Y V ci_9 kd_0 1 rfl rfl (by decide) rfl rfl wd_335 dX9_told_76 ?_
                refine r_gi (kI := 3) X Y V ci_4 kd_10 3 rfl (by decide) rfl rfl wd_107 dX9_told_79 ?_
                exact r_ri X V (so2 h).1 (so2 h).2 dX9_told_82
              · replace h := ite_f c6 h
                by_cases c7 : wI a1 = 6
                · replace h := ite_t c7 h
                  refine r_tbi (tgt := 83) X rfl dX9_told_1 c7 (by decide) (by decide) rfl (by decide) ?_
                  refine r_aln X dX9_told_83 rfl (lv_at hl 0 rfl) ?_
                  refine r_gi (kI := 8) X Y V ci_9 kd_0 8 rfl (by decide) rfl rfl wd_342 dX9_told_84 ?_
                  exact r_ri X V (so2 h).1 (so2 h).2 dX9_told_87
                · replace h := ite_f c7 h
                  refine r_tbo (tgt := 88) X rfl dX9_told_1 (by omega) (by decide) ?_
                  refine r_aln X dX9_told_88 rfl (lv_at hl 0 rfl) ?_
                  obtain ⟨v8, σ9, hv8, h⟩ := bd2_ex h
                  refine r_ki V (r_runV (As := []) (rest := []) X Y V (c_X9_bad l G σ  _ _  hv8) mv_X9_bad wd_384 ci_9 kd_0 ⟨rfl, rfl, Nat.le_of_ble_eq_true rfl, Nat.le_of_ble_eq_true rfl⟩ rfl rfl hl.1 (Nat.le_of_ble_eq_true rfl) ⟨Nat.le_refl 0, Nat.le_refl 0⟩ dX9_told_89) (fun H locs V => ?_)
                  exact r_ri X V (so2 h).1 (so2 h).2 dX9_told_92
  exact go _ _ _ X V

set_option maxRecDepth 100000 in
set_option maxHeartbeats 4000000 in
theorem wl_X9_digest_6 {p : Program} {l : Launch} {e : Env} {s : State} {m : MethodId} {args : Array Value} {below : List Frame} {meth : Method} {c : Code} {G : UG} (X : uvCx p m c cX9_digest 5 RX9 s args meth (Option.some Jvm.ClassFile.FieldType.long)) (Y : uvGd G s s.heap)   (r : Int) (σ' : St) (kx : St → Int → Option (Int × St)) (hkx : ∀ (σ : St) (x1 : Int) (H : Heap) (locs : List Loc) (ls : Array Slot), uvWo G σ s H locs → lv_has ls 5 [(0, .ref (G.2.2.1 0)), (1, .long (lV x1))] → kx σ x1 = some (r, σ') → W p l e { frames := 7, cells := 0, slots := 0, locals := 166 } s m args below meth c H locs 0 0 (MQ below (uvQl G r σ') args s 0 0 (uvA G)) (F0 m 31 ls [])) : ∀ (n : Nat) (σ : St) (x1 : Int) (x3 : Int) (H : Heap) (locs : List Loc) (ls : Array Slot), uvWo G σ s H locs → lv_has ls 5 [(0, .ref (G.2.2.1 0)), (1, .long (lV x1)), (3, .int (iV x3))] → lp_X9_digest_6 kx n σ x1 x3 = some (r, σ') → W p l e { frames := 7, cells := 0, slots := 0, locals := 166 } s m args below meth c H locs 0 0 (MQ below (uvQl G r σ') args s 0 0 (uvA G)) (F0 m 6 ls []) := by
  intro n
  induction n with
  | zero => intro σ x1 x3 H locs ls V hl h; cases h
  | succ n ih =>
    intro σ x1 x3 H locs ls V hl h
    rw [lp_X9_digest_6] at h
    refine r_iln X dX9_digest_6 rfl (lv_at hl 2 rfl) ?_
    refine r_bp X dX9_digest_7 (by decide) ?_
    refine r_cgt (cx := wI x3) (cy := 6) (tgt := 31) X rfl rfl dX9_digest_9 (by decide) (fun c1 => ?_) (fun c1 => ?_)
    · replace h := ite_t c1 h
      exact hkx σ x1 _ _ _ V (lv_sub hl [0, 1] rfl) h
    · replace h := ite_f c1 h
      refine r_ldc2 X (n := 31) wd_842 (by decide) dX9_digest_12 ?_
      refine r_lln X dX9_digest_15 rfl (lv_at hl 1 rfl) ?_
      refine r_lmul X dX9_digest_16 ?_
      refine r_aln X dX9_digest_17 rfl (lv_at hl 0 rfl) ?_
      refine r_iln X dX9_digest_18 rfl (lv_at hl 2 rfl) ?_
      obtain ⟨v2, σ3, hv2, h⟩ := bd2_ex h
      refine r_ki V (r_runV (As := [.int (iV x3)]) (rest := [.long (lV (31 * x1))]) X Y V (c_X9_told l G σ x3 _ _  hv2) mv_X9_told wd_843 ci_9 kd_0 ⟨rfl, rfl, Nat.le_of_ble_eq_true rfl, Nat.le_of_ble_eq_true rfl⟩ rfl rfl hl.1 (Nat.le_of_ble_eq_true rfl) ⟨Nat.le_refl 0, Nat.le_refl 0⟩ dX9_digest_19) (fun H locs V => ?_)
      refine r_i2l X dX9_digest_22 ?_
      refine r_ladd X dX9_digest_23 ?_
      obtain ⟨v4, hv4, h⟩ := bnd_ex h
      refine r_eqL hv4 ?_
      refine r_lsn (lv' := [(1, .long (lV v4)), (0, .ref (G.2.2.1 0)), (3, .int (iV x3))]) X dX9_digest_24 rfl hl (by decide) rfl (fun ls hl => ?_)
      refine r_inc (kk := 2) (lv' := [(3, .int (iV (x3 + 1))), (1, .long (lV v4)), (0, .ref (G.2.2.1 0))]) X dX9_digest_25 hl rfl (by decide) rfl (fun ls hl => ?_)
      refine r_goto (tgt := 6) X dX9_digest_28 (by decide) ?_
      exact ih σ3 v4 (x3 + 1) _ _ _ V (lv_sub hl [2, 1, 0] rfl) h

set_option maxRecDepth 100000 in
set_option maxHeartbeats 4000000 in
theorem wl_X9_digest_47 {p : Program} {l : Launch} {e : Env} {s : State} {m : MethodId} {args : Array Value} {below : List Frame} {meth : Method} {c : Code} {G : UG} (X : uvCx p m c cX9_digest 5 RX9 s args meth (Option.some Jvm.ClassFile.FieldType.long)) (Y : uvGd G s s.heap) (x3 : Int)  (r : Int) (σ' : St) (kx : St → Int → Option (Int × St)) (hkx : ∀ (σ : St) (x1 : Int) (H : Heap) (locs : List Loc) (ls : Array Slot), uvWo G σ s H locs → lv_has ls 5 [(0, .ref (G.2.2.1 0)), (1, .long (lV x1)), (3, .int (iV x3))] → kx σ x1 = some (r, σ') → W p l e { frames := 7, cells := 0, slots := 0, locals := 166 } s m args below meth c H locs 0 0 (MQ below (uvQl G r σ') args s 0 0 (uvA G)) (F0 m 74 ls [])) : ∀ (n : Nat) (σ : St) (x1 : Int) (x4 : Int) (H : Heap) (locs : List Loc) (ls : Array Slot), uvWo G σ s H locs → lv_has ls 5 [(0, .ref (G.2.2.1 0)), (1, .long (lV x1)), (3, .int (iV x3)), (4, .int (iV x4))] → lp_X9_digest_47 x3 kx n σ x1 x4 = some (r, σ') → W p l e { frames := 7, cells := 0, slots := 0, locals := 166 } s m args below meth c H locs 0 0 (MQ below (uvQl G r σ') args s 0 0 (uvA G)) (F0 m 47 ls []) := by
  intro n
  induction n with
  | zero => intro σ x1 x4 H locs ls V hl h; cases h
  | succ n ih =>
    intro σ x1 x4 H locs ls V hl h
    rw [lp_X9_digest_47] at h
    refine r_il X dX9_digest_47 (lv_at hl 3 rfl) ?_
    refine r_ic X dX9_digest_49 ?_
    refine r_cgt (cx := wI x4) (cy := 5) (tgt := 74) X rfl rfl dX9_digest_50 (by decide) (fun c8 => ?_) (fun c8 => ?_)
    · replace h := ite_t c8 h
      exact hkx σ x1 _ _ _ V (lv_sub hl [0, 1, 2] rfl) h
    · replace h := ite_f c8 h
      refine r_ldc2 X (n := 31) wd_842 (by decide) dX9_digest_53 ?_
      refine r_lln X dX9_digest_56 rfl (lv_at hl 1 rfl) ?_
      refine r_lmul X dX9_digest_57 ?_
      refine r_aln X dX9_digest_58 rfl (lv_at hl 0 rfl) ?_
      refine r_iln X dX9_digest_59 rfl (lv_at hl 2 rfl) ?_
      refine r_il X dX9_digest_60 (lv_at hl 3 rfl) ?_
      obtain ⟨v9, σ10, hv9, h⟩ := bd2_ex h
      refine r_ki V (r_runV (As := [.int (iV x3), .int (iV x4)]) (rest := [.long (lV (31 * x1))]) X Y V (c_X9_of l G σ x3 x4 _ _  hv9) mv_X9_of wd_844 ci_9 kd_0 ⟨rfl, rfl, Nat.le_of_ble_eq_true rfl, Nat.le_of_ble_eq_true rfl⟩ rfl rfl hl.1 (Nat.le_of_ble_eq_true rfl) ⟨Nat.le_refl 0, Nat.le_refl 0⟩ dX9_digest_62) (fun H locs V => ?_)
      refine r_i2l X dX9_digest_65 ?_
      refine r_ladd X dX9_digest_66 ?_
      obtain ⟨v11, hv11, h⟩ := bnd_ex h
      refine r_eqL hv11 ?_
      refine r_lsn (lv' := [(1, .long (lV v11)), (0, .ref (G.2.2.1 0)), (3, .int (iV x3)), (4, .int (iV x4))]) X dX9_digest_67 rfl hl (by decide) rfl (fun ls hl => ?_)
      refine r_inc (kk := 3) (lv' := [(4, .int (iV (x4 + 1))), (1, .long (lV v11)), (0, .ref (G.2.2.1 0)), (3, .int (iV x3))]) X dX9_digest_68 hl rfl (by decide) rfl (fun ls hl => ?_)
      refine r_goto (tgt := 47) X dX9_digest_71 (by decide) ?_
      exact ih σ10 v11 (x4 + 1) _ _ _ V (lv_sub hl [2, 1, 3, 0] rfl) h

set_option maxRecDepth 100000 in
set_option maxHeartbeats 4000000 in
theorem wl_X9_digest_33 {p : Program} {l : Launch} {e : Env} {s : State} {m : MethodId} {args : Array Value} {below : List Frame} {meth : Method} {c : Code} {G : UG} (X : uvCx p m c cX9_digest 5 RX9 s args meth (Option.some Jvm.ClassFile.FieldType.long)) (Y : uvGd G s s.heap)   (r : Int) (σ' : St) (kx : St → Int → Option (Int × St)) (hkx : ∀ (σ : St) (x1 : Int) (H : Heap) (locs : List Loc) (ls : Array Slot), uvWo G σ s H locs → lv_has ls 5 [(0, .ref (G.2.2.1 0)), (1, .long (lV x1))] → kx σ x1 = some (r, σ') → W p l e { frames := 7, cells := 0, slots := 0, locals := 166 } s m args below meth c H locs 0 0 (MQ below (uvQl G r σ') args s 0 0 (uvA G)) (F0 m 80 ls [])) : ∀ (n : Nat) (σ : St) (x1 : Int) (x3 : Int) (H : Heap) (locs : List Loc) (ls : Array Slot), uvWo G σ s H locs → lv_has ls 5 [(0, .ref (G.2.2.1 0)), (1, .long (lV x1)), (3, .int (iV x3))] → lp_X9_digest_33 kx n σ x1 x3 = some (r, σ') → W p l e { frames := 7, cells := 0, slots := 0, locals := 166 } s m args below meth c H locs 0 0 (MQ below (uvQl G r σ') args s 0 0 (uvA G)) (F0 m 33 ls []) := by
  intro n
  induction n with
  | zero => intro σ x1 x3 H locs ls V hl h; cases h
  | succ n ih =>
    intro σ x1 x3 H locs ls V hl h
    rw [lp_X9_digest_33] at h
    refine r_iln X dX9_digest_33 rfl (lv_at hl 2 rfl) ?_
    refine r_aln X dX9_digest_34 rfl (lv_at hl 0 rfl) ?_
    refine r_gr X Y V ci_9 kd_0 0 rfl rfl (by decide) rfl rfl wd_334 dX9_digest_35 ?_
    refine r_gi (kI := 8) X Y V ci_8 kd_1 8 rfl (by decide) rfl rfl wd_64 dX9_digest_38 ?_
    refine r_cge (cx := wI x3) (cy := wI (σ 1 8)) (tgt := 80) X rfl rfl dX9_digest_41 (by decide) (fun c7 => ?_) (fun c7 => ?_)
    · replace h := ite_t c7 h
      refine r_ic X dX9_digest_44 ?_
      refine r_is (lv' := [(4, .int (iV 0)), (0, .ref (G.2.2.1 0)), (1, .long (lV x1)), (3, .int (iV x3))]) X dX9_digest_45 hl (by decide) rfl (fun ls hl => ?_)
      refine wl_X9_digest_47 X Y x3  r σ' _ (fun σ12 y13 H locs ls V hl h => ?_) 1000 σ x1 0 _ _ _ V (lv_sub hl [1, 2, 3, 0] rfl) h
      refine r_inc (kk := 2) (lv' := [(3, .int (iV (x3 + 1))), (0, .ref (G.2.2.1 0)), (1, .long (lV y13))]) X dX9_digest_74 hl rfl (by decide) rfl (fun ls hl => ?_)
      refine r_goto (tgt := 33) X dX9_digest_77 (by decide) ?_
      exact ih σ12 y13 (x3 + 1) _ _ _ V (lv_sub hl [1, 2, 0] rfl) h
    · replace h := ite_f c7 h
      exact hkx σ x1 _ _ _ V (lv_sub hl [0, 1] rfl) h

set_option maxRecDepth 100000 in
set_option maxHeartbeats 4000000 in
theorem wl_X9_digest_82 {p : Program} {l : Launch} {e : Env} {s : State} {m : MethodId} {args : Array Value} {below : List Frame} {meth : Method} {c : Code} {G : UG} (X : uvCx p m c cX9_digest 5 RX9 s args meth (Option.some Jvm.ClassFile.FieldType.long)) (Y : uvGd G s s.heap)   (r : Int) (σ' : St) (kx : St → Int → Option (Int × St)) (hkx : ∀ (σ : St) (x1 : Int) (H : Heap) (locs : List Loc) (ls : Array Slot), uvWo G σ s H locs → lv_has ls 5 [(0, .ref (G.2.2.1 0)), (1, .long (lV x1))] → kx σ x1 = some (r, σ') → W p l e { frames := 7, cells := 0, slots := 0, locals := 166 } s m args below meth c H locs 0 0 (MQ below (uvQl G r σ') args s 0 0 (uvA G)) (F0 m 108 ls [])) : ∀ (n : Nat) (σ : St) (x1 : Int) (x3 : Int) (H : Heap) (locs : List Loc) (ls : Array Slot), uvWo G σ s H locs → lv_has ls 5 [(0, .ref (G.2.2.1 0)), (1, .long (lV x1)), (3, .int (iV x3))] → lp_X9_digest_82 kx n σ x1 x3 = some (r, σ') → W p l e { frames := 7, cells := 0, slots := 0, locals := 166 } s m args below meth c H locs 0 0 (MQ below (uvQl G r σ') args s 0 0 (uvA G)) (F0 m 82 ls []) := by
  intro n
  induction n with
  | zero => intro σ x1 x3 H locs ls V hl h; cases h
  | succ n ih =>
    intro σ x1 x3 H locs ls V hl h
    rw [lp_X9_digest_82] at h
    refine r_iln X dX9_digest_82 rfl (lv_at hl 2 rfl) ?_
    refine r_bp X dX9_digest_83 (by decide) ?_
    refine r_cge (cx := wI x3) (cy := 6) (tgt := 108) X rfl rfl dX9_digest_85 (by decide) (fun c16 => ?_) (fun c16 => ?_)
    · replace h := ite_t c16 h
      refine r_ldc2 X (n := 31) wd_842 (by decide) dX9_digest_88 ?_
      refine r_lln X dX9_digest_91 rfl (lv_at hl 1 rfl) ?_
      refine r_lmul X dX9_digest_92 ?_
      refine r_aln X dX9_digest_93 rfl (lv_at hl 0 rfl) ?_
      refine r_gr X Y V ci_9 kd_0 4 rfl rfl (by decide) rfl rfl wd_338 dX9_digest_94 ?_
      refine r_iln X dX9_digest_97 rfl (lv_at hl 2 rfl) ?_
      obtain ⟨v17, hv17, hiv17, h⟩ := rdA_ex h
      refine r_ial X Y V kd_34 ln_34 hiv17 hv17 dX9_digest_98 ?_
      refine r_i2l X dX9_digest_99 ?_
      refine r_ladd X dX9_digest_100 ?_
      obtain ⟨v18, hv18, h⟩ := bnd_ex h
      refine r_eqL hv18 ?_
      refine r_lsn (lv' := [(1, .long (lV v18)), (0, .ref (G.2.2.1 0)), (3, .int (iV x3))]) X dX9_digest_101 rfl hl (by decide) rfl (fun ls hl => ?_)
      refine r_inc (kk := 2) (lv' := [(3, .int (iV (x3 + 1))), (1, .long (lV v18)), (0, .ref (G.2.2.1 0))]) X dX9_digest_102 hl rfl (by decide) rfl (fun ls hl => ?_)
      refine r_goto (tgt := 82) X dX9_digest_105 (by decide) ?_
      exact ih σ v18 (x3 + 1) _ _ _ V (lv_sub hl [2, 1, 0] rfl) h
    · replace h := ite_f c16 h
      exact hkx σ x1 _ _ _ V (lv_sub hl [0, 1] rfl) h

set_option maxRecDepth 100000 in
set_option maxHeartbeats 4000000 in
theorem wl_X9_digest_124 {p : Program} {l : Launch} {e : Env} {s : State} {m : MethodId} {args : Array Value} {below : List Frame} {meth : Method} {c : Code} {G : UG} (X : uvCx p m c cX9_digest 5 RX9 s args meth (Option.some Jvm.ClassFile.FieldType.long)) (Y : uvGd G s s.heap) (x3 : Int)  (r : Int) (σ' : St) (kx : St → Int → Option (Int × St)) (hkx : ∀ (σ : St) (x1 : Int) (H : Heap) (locs : List Loc) (ls : Array Slot), uvWo G σ s H locs → lv_has ls 5 [(0, .ref (G.2.2.1 0)), (1, .long (lV x1)), (3, .int (iV x3))] → kx σ x1 = some (r, σ') → W p l e { frames := 7, cells := 0, slots := 0, locals := 166 } s m args below meth c H locs 0 0 (MQ below (uvQl G r σ') args s 0 0 (uvA G)) (F0 m 151 ls [])) : ∀ (n : Nat) (σ : St) (x1 : Int) (x4 : Int) (H : Heap) (locs : List Loc) (ls : Array Slot), uvWo G σ s H locs → lv_has ls 5 [(0, .ref (G.2.2.1 0)), (1, .long (lV x1)), (3, .int (iV x3)), (4, .int (iV x4))] → lp_X9_digest_124 x3 kx n σ x1 x4 = some (r, σ') → W p l e { frames := 7, cells := 0, slots := 0, locals := 166 } s m args below meth c H locs 0 0 (MQ below (uvQl G r σ') args s 0 0 (uvA G)) (F0 m 124 ls []) := by
  intro n
  induction n with
  | zero => intro σ x1 x4 H locs ls V hl h; cases h
  | succ n ih =>
    intro σ x1 x4 H locs ls V hl h
    rw [lp_X9_digest_124] at h
    refine r_il X dX9_digest_124 (lv_at hl 3 rfl) ?_
    refine r_ic X dX9_digest_126 ?_
    refine r_cgt (cx := wI x4) (cy := 2) (tgt := 151) X rfl rfl dX9_digest_127 (by decide) (fun c22 => ?_) (fun c22 => ?_)
    · replace h := ite_t c22 h
      exact hkx σ x1 _ _ _ V (lv_sub hl [0, 1, 2] rfl) h
    · replace h := ite_f c22 h
      refine r_ldc2 X (n := 31) wd_842 (by decide) dX9_digest_130 ?_
      refine r_lln X dX9_digest_133 rfl (lv_at hl 1 rfl) ?_
      refine r_lmul X dX9_digest_134 ?_
      refine r_aln X dX9_digest_135 rfl (lv_at hl 0 rfl) ?_
      refine r_iln X dX9_digest_136 rfl (lv_at hl 2 rfl) ?_
      refine r_il X dX9_digest_137 (lv_at hl 3 rfl) ?_
      obtain ⟨v23, σ24, hv23, h⟩ := bd2_ex h
      refine r_ki V (r_runV (As := [.int (iV x3), .int (iV x4)]) (rest := [.long (lV (31 * x1))]) X Y V (c_X9_target l G σ x3 x4 _ _  hv23) mv_X9_target wd_845 ci_9 kd_0 ⟨rfl, rfl, Nat.le_of_ble_eq_true rfl, Nat.le_of_ble_eq_true rfl⟩ rfl rfl hl.1 (Nat.le_of_ble_eq_true rfl) ⟨Nat.le_refl 0, Nat.le_refl 0⟩ dX9_digest_139) (fun H locs V => ?_)
      refine r_i2l X dX9_digest_142 ?_
      refine r_ladd X dX9_digest_143 ?_
      obtain ⟨v25, hv25, h⟩ := bnd_ex h
      refine r_eqL hv25 ?_
      refine r_lsn (lv' := [(1, .long (lV v25)), (0, .ref (G.2.2.1 0)), (3, .int (iV x3)), (4, .int (iV x4))]) X dX9_digest_144 rfl hl (by decide) rfl (fun ls hl => ?_)
      refine r_inc (kk := 3) (lv' := [(4, .int (iV (x4 + 1))), (1, .long (lV v25)), (0, .ref (G.2.2.1 0)), (3, .int (iV x3))]) X dX9_digest_145 hl rfl (by decide) rfl (fun ls hl => ?_)
      refine r_goto (tgt := 124) X dX9_digest_148 (by decide) ?_
      exact ih σ24 v25 (x4 + 1) _ _ _ V (lv_sub hl [2, 1, 3, 0] rfl) h

set_option maxRecDepth 100000 in
set_option maxHeartbeats 4000000 in
theorem wl_X9_digest_110 {p : Program} {l : Launch} {e : Env} {s : State} {m : MethodId} {args : Array Value} {below : List Frame} {meth : Method} {c : Code} {G : UG} (X : uvCx p m c cX9_digest 5 RX9 s args meth (Option.some Jvm.ClassFile.FieldType.long)) (Y : uvGd G s s.heap)   (r : Int) (σ' : St) (kx : St → Int → Option (Int × St)) (hkx : ∀ (σ : St) (x1 : Int) (H : Heap) (locs : List Loc) (ls : Array Slot), uvWo G σ s H locs → lv_has ls 5 [(0, .ref (G.2.2.1 0)), (1, .long (lV x1))] → kx σ x1 = some (r, σ') → W p l e { frames := 7, cells := 0, slots := 0, locals := 166 } s m args below meth c H locs 0 0 (MQ below (uvQl G r σ') args s 0 0 (uvA G)) (F0 m 157 ls [])) : ∀ (n : Nat) (σ : St) (x1 : Int) (x3 : Int) (H : Heap) (locs : List Loc) (ls : Array Slot), uvWo G σ s H locs → lv_has ls 5 [(0, .ref (G.2.2.1 0)), (1, .long (lV x1)), (3, .int (iV x3))] → lp_X9_digest_110 kx n σ x1 x3 = some (r, σ') → W p l e { frames := 7, cells := 0, slots := 0, locals := 166 } s m args below meth c H locs 0 0 (MQ below (uvQl G r σ') args s 0 0 (uvA G)) (F0 m 110 ls []) := by
  intro n
  induction n with
  | zero => intro σ x1 x3 H locs ls V hl h; cases h
  | succ n ih =>
    intro σ x1 x3 H locs ls V hl h
    rw [lp_X9_digest_110] at h
    refine r_iln X dX9_digest_110 rfl (lv_at hl 2 rfl) ?_
    refine r_aln X dX9_digest_111 rfl (lv_at hl 0 rfl) ?_
    refine r_gr X Y V ci_9 kd_0 1 rfl rfl (by decide) rfl rfl wd_335 dX9_digest_112 ?_
    refine r_gi (kI := 3) X Y V ci_4 kd_10 3 rfl (by decide) rfl rfl wd_107 dX9_digest_115 ?_
    refine r_cge (cx := wI x3) (cy := wI (σ 10 3)) (tgt := 157) X rfl rfl dX9_digest_118 (by decide) (fun c21 => ?_) (fun c21 => ?_)
    · replace h := ite_t c21 h
      refine r_ic X dX9_digest_121 ?_
      refine r_is (lv' := [(4, .int (iV 0)), (0, .ref (G.2.2.1 0)), (1, .long (lV x1)), (3, .int (iV x3))]) X dX9_digest_122 hl (by decide) rfl (fun ls hl => ?_)
      refine wl_X9_digest_124 X Y x3  r σ' _ (fun σ26 y27 H locs ls V hl h => ?_) 1000 σ x1 0 _ _ _ V (lv_sub hl [1, 2, 3, 0] rfl) h
      refine r_inc (kk := 2) (lv' := [(3, .int (iV (x3 + 1))), (0, .ref (G.2.2.1 0)), (1, .long (lV y27))]) X dX9_digest_151 hl rfl (by decide) rfl (fun ls hl => ?_)
      refine r_goto (tgt := 110) X dX9_digest_154 (by decide) ?_
      exact ih σ26 y27 (x3 + 1) _ _ _ V (lv_sub hl [1, 2, 0] rfl) h
    · replace h := ite_f c21 h
      exact hkx σ x1 _ _ _ V (lv_sub hl [0, 1] rfl) h

set_option maxRecDepth 100000 in
set_option maxHeartbeats 4000000 in
theorem wl_X9_digest_222 {p : Program} {l : Launch} {e : Env} {s : State} {m : MethodId} {args : Array Value} {below : List Frame} {meth : Method} {c : Code} {G : UG} (X : uvCx p m c cX9_digest 5 RX9 s args meth (Option.some Jvm.ClassFile.FieldType.long)) (Y : uvGd G s s.heap)   (r : Int) (σ' : St) (kx : St → Int → Option (Int × St)) (hkx : ∀ (σ : St) (x1 : Int) (H : Heap) (locs : List Loc) (ls : Array Slot), uvWo G σ s H locs → lv_has ls 5 [(1, .long (lV x1))] → kx σ x1 = some (r, σ') → W p l e { frames := 7, cells := 0, slots := 0, locals := 166 } s m args below meth c H locs 0 0 (MQ below (uvQl G r σ') args s 0 0 (uvA G)) (F0 m 256 ls [])) : ∀ (n : Nat) (σ : St) (x1 : Int) (x3 : Int) (H : Heap) (locs : List Loc) (ls : Array Slot), uvWo G σ s H locs → lv_has ls 5 [(0, .ref (G.2.2.1 0)), (1, .long (lV x1)), (3, .int (iV x3))] → lp_X9_digest_222 kx n σ x1 x3 = some (r, σ') → W p l e { frames := 7, cells := 0, slots := 0, locals := 166 } s m args below meth c H locs 0 0 (MQ below (uvQl G r σ') args s 0 0 (uvA G)) (F0 m 222 ls []) := by
  intro n
  induction n with
  | zero => intro σ x1 x3 H locs ls V hl h; cases h
  | succ n ih =>
    intro σ x1 x3 H locs ls V hl h
    rw [lp_X9_digest_222] at h
    refine r_iln X dX9_digest_222 rfl (lv_at hl 2 rfl) ?_
    refine r_aln X dX9_digest_223 rfl (lv_at hl 0 rfl) ?_
    refine r_gr X Y V ci_9 kd_0 1 rfl rfl (by decide) rfl rfl wd_335 dX9_digest_224 ?_
    refine r_gi (kI := 3) X Y V ci_4 kd_10 3 rfl (by decide) rfl rfl wd_107 dX9_digest_227 ?_
    refine r_cge (cx := wI x3) (cy := wI (σ 10 3)) (tgt := 256) X rfl rfl dX9_digest_230 (by decide) (fun c38 => ?_) (fun c38 => ?_)
    · replace h := ite_t c38 h
      refine r_ldc2 X (n := 31) wd_842 (by decide) dX9_digest_233 ?_
      refine r_lln X dX9_digest_236 rfl (lv_at hl 1 rfl) ?_
      refine r_lmul X dX9_digest_237 ?_
      refine r_aln X dX9_digest_238 rfl (lv_at hl 0 rfl) ?_
      refine r_gr X Y V ci_9 kd_0 7 rfl rfl (by decide) rfl rfl wd_341 dX9_digest_239 ?_
      refine r_gr X Y V ci_0 kd_55 6 rfl rfl (by decide) rfl rfl wd_318 dX9_digest_242 ?_
      refine r_iln X dX9_digest_245 rfl (lv_at hl 2 rfl) ?_
      obtain ⟨v39, hv39, hiv39, h⟩ := rdA_ex h
      refine r_ial X Y V kd_69 ln_69 hiv39 hv39 dX9_digest_246 ?_
      refine r_i2l X dX9_digest_247 ?_
      refine r_ladd X dX9_digest_248 ?_
      obtain ⟨v40, hv40, h⟩ := bnd_ex h
      refine r_eqL hv40 ?_
      refine r_lsn (lv' := [(1, .long (lV v40)), (0, .ref (G.2.2.1 0)), (3, .int (iV x3))]) X dX9_digest_249 rfl hl (by decide) rfl (fun ls hl => ?_)
      refine r_inc (kk := 2) (lv' := [(3, .int (iV (x3 + 1))), (1, .long (lV v40)), (0, .ref (G.2.2.1 0))]) X dX9_digest_250 hl rfl (by decide) rfl (fun ls hl => ?_)
      refine r_goto (tgt := 222) X dX9_digest_253 (by decide) ?_
      exact ih σ v40 (x3 + 1) _ _ _ V (lv_sub hl [2, 1, 0] rfl) h
    · replace h := ite_f c38 h
      exact hkx σ x1 _ _ _ V (lv_sub hl [1] rfl) h

set_option maxRecDepth 100000 in
set_option maxHeartbeats 4000000 in
theorem c_X9_digest (l : Launch) (G : UG) (σ : St)  (r : Int) (σ' : St)  (h : f_X9_digest σ = some (r, σ')) : Met l yX9_digest (.code yX9_digest cX9_digest 5 (Option.some Jvm.ClassFile.FieldType.long) :: TB) { frames := 7, cells := 0, slots := 0, locals := 166 } (uvPc G σ [.ref (G.2.2.1 0)]) (uvQl G r σ') 0 0 (uvA G) := by
  unfold f_X9_digest at h
  refine r_met (own := RX9) (lv := [(0, .ref (G.2.2.1 0))]) (by decide) rfl (Nat.le_of_ble_eq_true rfl) rfl ?_
  intro p e s m below meth c ls X Y V hl
  have go : ∀ (args : Array Value) (H : Heap) (locs : List Loc), uvCx p m c cX9_digest 5 RX9 s args meth (Option.some Jvm.ClassFile.FieldType.long) → uvWo G σ s H locs → W p l e { frames := 7, cells := 0, slots := 0, locals := 166 } s m args below meth c H locs 0 0 (MQ below (uvQl G r σ') args s 0 0 (uvA G)) (F0 m 0 ls []) := by
    intro args H locs X V
    refine r_ldc2 X (n := 1987) wd_841 (by decide) dX9_digest_0 ?_
    refine r_lsn (lv' := [(1, .long (lV 1987)), (0, .ref (G.2.2.1 0))]) X dX9_digest_3 rfl hl (by decide) rfl (fun ls hl => ?_)
    refine r_ic X dX9_digest_4 ?_
    refine r_isn (lv' := [(3, .int (iV 0)), (1, .long (lV 1987)), (0, .ref (G.2.2.1 0))]) X dX9_digest_5 rfl hl (by decide) rfl (fun ls hl => ?_)
    refine wl_X9_digest_6 X Y   r σ' _ (fun σ5 y6 H locs ls V hl h => ?_) 1000 σ 1987 0 _ _ _ V (lv_sub hl [2, 1, 0] rfl) h
    refine r_ic X dX9_digest_31 ?_
    refine r_isn (lv' := [(3, .int (iV 0)), (0, .ref (G.2.2.1 0)), (1, .long (lV y6))]) X dX9_digest_32 rfl hl (by decide) rfl (fun ls hl => ?_)
    refine wl_X9_digest_33 X Y   r σ' _ (fun σ14 y15 H locs ls V hl h => ?_) 1000 σ5 y6 0 _ _ _ V (lv_sub hl [1, 2, 0] rfl) h
    refine r_ic X dX9_digest_80 ?_
    refine r_isn (lv' := [(3, .int (iV 0)), (0, .ref (G.2.2.1 0)), (1, .long (lV y15))]) X dX9_digest_81 rfl hl (by decide) rfl (fun ls hl => ?_)
    refine wl_X9_digest_82 X Y   r σ' _ (fun σ19 y20 H locs ls V hl h => ?_) 1000 σ14 y15 0 _ _ _ V (lv_sub hl [1, 2, 0] rfl) h
    refine r_ic X dX9_digest_108 ?_
    refine r_isn (lv' := [(3, .int (iV 0)), (0, .ref (G.2.2.1 0)), (1, .long (lV y20))]) X dX9_digest_109 rfl hl (by decide) rfl (fun ls hl => ?_)
    refine wl_X9_digest_110 X Y   r σ' _ (fun σ28 y29 H locs ls V hl h => ?_) 1000 σ19 y20 0 _ _ _ V (lv_sub hl [1, 2, 0] rfl) h
    refine r_ldc2 X (n := 31) wd_842 (by decide) dX9_digest_157 ?_
    refine r_lln X dX9_digest_160 rfl (lv_at hl 1 rfl) ?_
    refine r_lmul X dX9_digest_161 ?_
    refine r_aln X dX9_digest_162 rfl (lv_at hl 0 rfl) ?_
    refine r_gr X Y V ci_9 kd_0 2 rfl rfl (by decide) rfl rfl wd_336 dX9_digest_163 ?_
    refine r_gi (kI := 7) X Y V ci_7 kd_14 7 rfl (by decide) rfl rfl wd_139 dX9_digest_166 ?_
    refine r_i2l X dX9_digest_169 ?_
    refine r_ladd X dX9_digest_170 ?_
    obtain ⟨v30, hv30, h⟩ := bnd_ex h
    refine r_eqL hv30 ?_
    refine r_lsn (lv' := [(1, .long (lV v30)), (0, .ref (G.2.2.1 0))]) X dX9_digest_171 rfl hl (by decide) rfl (fun ls hl => ?_)
    refine r_ldc2 X (n := 31) wd_842 (by decide) dX9_digest_172 ?_
    refine r_lln X dX9_digest_175 rfl (lv_at hl 0 rfl) ?_
    refine r_lmul X dX9_digest_176 ?_
    refine r_aln X dX9_digest_177 rfl (lv_at hl 1 rfl) ?_
    refine r_gr X Y V ci_9 kd_0 2 rfl rfl (by decide) rfl rfl wd_336 dX9_digest_178 ?_
    refine r_gi (kI := 8) X Y V ci_7 kd_14 8 rfl (by decide) rfl rfl wd_141 dX9_digest_181 ?_
    refine r_i2l X dX9_digest_184 ?_
    refine r_ladd X dX9_digest_185 ?_
    obtain ⟨v31, hv31, h⟩ := bnd_ex h
    refine r_eqL hv31 ?_
    refine r_lsn (lv' := [(1, .long (lV v31)), (0, .ref (G.2.2.1 0))]) X dX9_digest_186 rfl hl (by decide) rfl (fun ls hl => ?_)
    refine r_aln X dX9_digest_187 rfl (lv_at hl 1 rfl) ?_
    refine r_ic X dX9_digest_188 ?_
    obtain ⟨v32, σ33, hv32, h⟩ := bd2_ex h
    refine r_kz V (r_runV (As := [.int (iV (-1))]) (rest := []) X Y V (c_X9_findChain l G σ28 (-1) _ _  hv32) mv_X9_findChain wd_738 ci_9 kd_0 ⟨rfl, rfl, Nat.le_of_ble_eq_true rfl, Nat.le_of_ble_eq_true rfl⟩ rfl rfl hl.1 (Nat.le_of_ble_eq_true rfl) ⟨Nat.le_refl 0, Nat.le_refl 0⟩ dX9_digest_189) (fun H locs V z34 => ?_)
    refine r_ne (cx := v32) (tgt := 205) X (wI_01 z34) dX9_digest_192 (by decide) (fun c35 => ?_) (fun c35 => ?_)
    · replace h := ite_t c35 h
      refine r_ldc2 X (n := 31) wd_842 (by decide) dX9_digest_195 ?_
      refine r_lln X dX9_digest_198 rfl (lv_at hl 0 rfl) ?_
      refine r_lmul X dX9_digest_199 ?_
      refine r_ldc2 X (n := -1) wd_846 (by decide) dX9_digest_200 ?_
      refine r_ladd X dX9_digest_203 ?_
      exact r_rl X V (so2 h).1 (so2 h).2 dX9_digest_204
    · replace h := ite_f c35 h
      refine r_ldc2 X (n := 31) wd_842 (by decide) dX9_digest_205 ?_
      refine r_lln X dX9_digest_208 rfl (lv_at hl 0 rfl) ?_
      refine r_lmul X dX9_digest_209 ?_
      refine r_aln X dX9_digest_210 rfl (lv_at hl 1 rfl) ?_
      refine r_gr X Y V ci_9 kd_0 7 rfl rfl (by decide) rfl rfl wd_341 dX9_digest_211 ?_
      obtain ⟨v36, hv36, h⟩ := bd1_ex h
      refine r_ki V (r_runV (As := []) (rest := [.long (lV (31 * v31))]) X Y V (c_X0_leastPrice l G σ33  _  hv36) mv_X0_leastPrice wd_770 ci_0 kd_55 ⟨rfl, rfl, Nat.le_of_ble_eq_true rfl, Nat.le_of_ble_eq_true rfl⟩ rfl rfl hl.1 (Nat.le_of_ble_eq_true rfl) ⟨Nat.le_refl 0, Nat.le_refl 0⟩ dX9_digest_214) (fun H locs V => ?_)
      refine r_i2l X dX9_digest_217 ?_
      refine r_ladd X dX9_digest_218 ?_
      obtain ⟨v37, hv37, h⟩ := bnd_ex h
      refine r_eqL hv37 ?_
      refine r_lsn (lv' := [(1, .long (lV v37)), (0, .ref (G.2.2.1 0))]) X dX9_digest_219 rfl hl (by decide) rfl (fun ls hl => ?_)
      refine r_ic X dX9_digest_220 ?_
      refine r_isn (lv' := [(3, .int (iV 0)), (1, .long (lV v37)), (0, .ref (G.2.2.1 0))]) X dX9_digest_221 rfl hl (by decide) rfl (fun ls hl => ?_)
      refine wl_X9_digest_222 X Y   r σ' _ (fun σ41 y42 H locs ls V hl h => ?_) 1000 σ33 v37 0 _ _ _ V (lv_sub hl [2, 1, 0] rfl) h
      refine r_lln X dX9_digest_256 rfl (lv_at hl 0 rfl) ?_
      exact r_rl X V (so2 h).1 (so2 h).2 dX9_digest_257
  exact go _ _ _ X V

set_option maxRecDepth 100000 in
set_option maxHeartbeats 4000000 in
theorem c_X10_in (l : Launch) (G : UG) (σ0 : St) (a0 : Int) (a2 : Int) (a4 : Int) (r : Int)  (h : f_X10_in a0 a2 a4 = r) : Met l yX10_in (.code yX10_in cX10_in 6 (Option.some Jvm.ClassFile.FieldType.boolean) :: TB) { frames := 0, cells := 0, slots := 0, locals := 0 } (uvPc G σ0 [.long (lV a0), .long (lV a2), .long (lV a4)]) (uvQz G r σ0) 0 0 (uvA G) := by
  unfold f_X10_in at h
  refine r_met (own := RX10) (lv := [(0, .long (lV a0)), (2, .long (lV a2)), (4, .long (lV a4))]) (by decide) rfl (Nat.le_of_ble_eq_true rfl) rfl ?_
  intro p e s m below meth c ls X Y V hl
  have go : ∀ (args : Array Value) (H : Heap) (locs : List Loc), uvCx p m c cX10_in 6 RX10 s args meth (Option.some Jvm.ClassFile.FieldType.boolean) → uvWo G σ0 s H locs → W p l e { frames := 0, cells := 0, slots := 0, locals := 0 } s m args below meth c H locs 0 0 (MQ below (uvQz G r σ0) args s 0 0 (uvA G)) (F0 m 0 ls []) := by
    intro args H locs X V
    refine r_lln X dX10_in_0 rfl (lv_at hl 0 rfl) ?_
    refine r_lln X dX10_in_1 rfl (lv_at hl 1 rfl) ?_
    refine r_lcmp X dX10_in_2 ?_
    have J1 : W p l e { frames := 0, cells := 0, slots := 0, locals := 0 } s m args below meth c H locs 0 0 (MQ below (uvQz G r σ0) args s 0 0 (uvA G)) (F0 m 18 ls [.int (iV (if cmpL a0 a2 < 0 then 0 else (if 0 < cmpL a0 a4 then 0 else 1)))]) := by
      exact r_rz X V (b01_ite (Or.inl rfl) (b01_ite (Or.inl rfl) (Or.inr rfl))) h rfl dX10_in_18
    refine r_lt (cx := cmpL a0 a2) (tgt := 17) X (wI_cmp _ _) dX10_in_3 (by decide) (fun c2 => ?_) (fun c2 => ?_)
    · skip
      refine r_ic X dX10_in_17 ?_
      rw [if_pos c2] at J1
      exact J1
    · skip
      refine r_lln X dX10_in_6 rfl (lv_at hl 0 rfl) ?_
      refine r_ll X dX10_in_7 (lv_at hl 2 rfl) ?_
      refine r_lcmp X dX10_in_9 ?_
      refine r_gt (cx := cmpL a0 a4) (tgt := 17) X (wI_cmp _ _) dX10_in_10 (by decide) (fun c3 => ?_) (fun c3 => ?_)
      · skip
        refine r_ic X dX10_in_17 ?_
        rw [if_neg c2] at J1
        rw [if_pos c3] at J1
        exact J1
      · skip
        refine r_ic X dX10_in_13 ?_
        refine r_goto (tgt := 18) X dX10_in_14 (by decide) ?_
        rw [if_neg c2] at J1
        rw [if_neg c3] at J1
        exact J1
  exact go _ _ _ X V

set_option maxRecDepth 100000 in
set_option maxHeartbeats 4000000 in
theorem c_X10_bad (l : Launch) (G : UG) (σ : St) (a1 : Int) (r : Int) (σ' : St)  (h : f_X10_bad σ a1 = some (r, σ')) : Met l yX10_bad (.code yX10_bad cX10_bad 2 (Option.some Jvm.ClassFile.FieldType.int) :: TB) { frames := 0, cells := 0, slots := 0, locals := 0 } (uvPc G σ [.ref (G.2.2.1 118), .int (iV a1)]) (uvQi G r σ') 0 0 (uvA G) := by
  unfold f_X10_bad at h
  refine r_met (own := RX10) (lv := [(0, .ref (G.2.2.1 118)), (1, .int (iV a1))]) (by decide) rfl (Nat.le_of_ble_eq_true rfl) rfl ?_
  intro p e s m below meth c ls X Y V hl
  have go : ∀ (args : Array Value) (H : Heap) (locs : List Loc), uvCx p m c cX10_bad 2 RX10 s args meth (Option.some Jvm.ClassFile.FieldType.int) → uvWo G σ s H locs → W p l e { frames := 0, cells := 0, slots := 0, locals := 0 } s m args below meth c H locs 0 0 (MQ below (uvQi G r σ') args s 0 0 (uvA G)) (F0 m 0 ls []) := by
    intro args H locs X V
    refine r_aln X dX10_bad_0 rfl (lv_at hl 0 rfl) ?_
    refine r_gr X Y V ci_10 kd_118 12 rfl rfl (by decide) rfl rfl wd_865 dX10_bad_1 ?_
    refine r_ic X dX10_bad_4 ?_
    refine r_dup2 X dX10_bad_5 rfl rfl ?_
    obtain ⟨v1, hv1, hiv1, h⟩ := rdA_ex h
    refine r_ial X Y V kd_126 ln_126 hiv1 hv1 dX10_bad_6 ?_
    refine r_ic X dX10_bad_7 ?_
    refine r_iadd X dX10_bad_8 ?_
    obtain ⟨σ2, hσ2, hiσ2, h⟩ := wrA_ex h
    refine r_ias X Y V kd_126 ln_126 hiσ2 hσ2 dX10_bad_9 (fun H locs V => ?_)
    refine r_iln X dX10_bad_10 rfl (lv_at hl 1 rfl) ?_
    exact r_ri X V (so2 h).1 (so2 h).2 dX10_bad_11
  exact go _ _ _ X V

set_option maxRecDepth 100000 in
set_option maxHeartbeats 4000000 in
theorem c_X10_no (l : Launch) (G : UG) (σ : St)  (r : Int) (σ' : St)  (h : f_X10_no σ = some (r, σ')) : Met l yX10_no (.code yX10_no cX10_no 1 (Option.some Jvm.ClassFile.FieldType.int) :: TB) { frames := 0, cells := 0, slots := 0, locals := 0 } (uvPc G σ [.ref (G.2.2.1 118)]) (uvQi G r σ') 0 0 (uvA G) := by
  unfold f_X10_no at h
  refine r_met (own := RX10) (lv := [(0, .ref (G.2.2.1 118))]) (by decide) rfl (Nat.le_of_ble_eq_true rfl) rfl ?_
  intro p e s m below meth c ls X Y V hl
  have go : ∀ (args : Array Value) (H : Heap) (locs : List Loc), uvCx p m c cX10_no 1 RX10 s args meth (Option.some Jvm.ClassFile.FieldType.int) → uvWo G σ s H locs → W p l e { frames := 0, cells := 0, slots := 0, locals := 0 } s m args below meth c H locs 0 0 (MQ below (uvQi G r σ') args s 0 0 (uvA G)) (F0 m 0 ls []) := by
    intro args H locs X V
    refine r_aln X dX10_no_0 rfl (lv_at hl 0 rfl) ?_
    refine r_gr X Y V ci_10 kd_118 12 rfl rfl (by decide) rfl rfl wd_865 dX10_no_1 ?_
    refine r_ic X dX10_no_4 ?_
    refine r_dup2 X dX10_no_5 rfl rfl ?_
    obtain ⟨v1, hv1, hiv1, h⟩ := rdA_ex h
    refine r_ial X Y V kd_126 ln_126 hiv1 hv1 dX10_no_6 ?_
    refine r_ic X dX10_no_7 ?_
    refine r_iadd X dX10_no_8 ?_
    obtain ⟨σ2, hσ2, hiσ2, h⟩ := wrA_ex h
    refine r_ias X Y V kd_126 ln_126 hiσ2 hσ2 dX10_no_9 (fun H locs V => ?_)
    refine r_bp X dX10_no_10 (by decide) ?_
    exact r_ri X V (so2 h).1 (so2 h).2 dX10_no_12
  exact go _ _ _ X V

set_option maxRecDepth 100000 in
set_option maxHeartbeats 4000000 in
theorem c_X10_full (l : Launch) (G : UG) (σ : St)  (r : Int) (σ' : St)  (h : f_X10_full σ = some (r, σ')) : Met l yX10_full (.code yX10_full cX10_full 1 (Option.some Jvm.ClassFile.FieldType.int) :: TB) { frames := 0, cells := 0, slots := 0, locals := 0 } (uvPc G σ [.ref (G.2.2.1 118)]) (uvQi G r σ') 0 0 (uvA G) := by
  unfold f_X10_full at h
  refine r_met (own := RX10) (lv := [(0, .ref (G.2.2.1 118))]) (by decide) rfl (Nat.le_of_ble_eq_true rfl) rfl ?_
  intro p e s m below meth c ls X Y V hl
  have go : ∀ (args : Array Value) (H : Heap) (locs : List Loc), uvCx p m c cX10_full 1 RX10 s args meth (Option.some Jvm.ClassFile.FieldType.int) → uvWo G σ s H locs → W p l e { frames := 0, cells := 0, slots := 0, locals := 0 } s m args below meth c H locs 0 0 (MQ below (uvQi G r σ') args s 0 0 (uvA G)) (F0 m 0 ls []) := by
    intro args H locs X V
    refine r_aln X dX10_full_0 rfl (lv_at hl 0 rfl) ?_
    refine r_gr X Y V ci_10 kd_118 12 rfl rfl (by decide) rfl rfl wd_865 dX10_full_1 ?_
    refine r_ic X dX10_full_4 ?_
    refine r_dup2 X dX10_full_5 rfl rfl ?_
    obtain ⟨v1, hv1, hiv1, h⟩ := rdA_ex h
    refine r_ial X Y V kd_126 ln_126 hiv1 hv1 dX10_full_6 ?_
    refine r_ic X dX10_full_7 ?_
    refine r_iadd X dX10_full_8 ?_
    obtain ⟨σ2, hσ2, hiσ2, h⟩ := wrA_ex h
    refine r_ias X Y V kd_126 ln_126 hiσ2 hσ2 dX10_full_9 (fun H locs V => ?_)
    refine r_bp X dX10_full_10 (by decide) ?_
    exact r_ri X V (so2 h).1 (so2 h).2 dX10_full_12
  exact go _ _ _ X V

set_option maxRecDepth 100000 in
set_option maxHeartbeats 4000000 in
theorem c_X10_far (l : Launch) (G : UG) (σ0 : St) (a0 : Int) (a1 : Int) (r : Int)  (h : f_X10_far a0 a1 = r) : Met l yX10_far (.code yX10_far cX10_far 2 (Option.some Jvm.ClassFile.FieldType.int) :: TB) { frames := 0, cells := 0, slots := 0, locals := 0 } (uvPc G σ0 [.int (iV a0), .int (iV a1)]) (uvQi G r σ0) 0 0 (uvA G) := by
  unfold f_X10_far at h
  refine r_met (own := RX10) (lv := [(0, .int (iV a0)), (1, .int (iV a1))]) (by decide) rfl (Nat.le_of_ble_eq_true rfl) rfl ?_
  intro p e s m below meth c ls X Y V hl
  have go : ∀ (args : Array Value) (H : Heap) (locs : List Loc), uvCx p m c cX10_far 2 RX10 s args meth (Option.some Jvm.ClassFile.FieldType.int) → uvWo G σ0 s H locs → W p l e { frames := 0, cells := 0, slots := 0, locals := 0 } s m args below meth c H locs 0 0 (MQ below (uvQi G r σ0) args s 0 0 (uvA G)) (F0 m 0 ls []) := by
    intro args H locs X V
    refine r_iln X dX10_far_0 rfl (lv_at hl 0 rfl) ?_
    refine r_iln X dX10_far_1 rfl (lv_at hl 1 rfl) ?_
    have J1 : W p l e { frames := 0, cells := 0, slots := 0, locals := 0 } s m args below meth c H locs 0 0 (MQ below (uvQi G r σ0) args s 0 0 (uvA G)) (F0 m 14 ls [.int (iV (if wI a1 < wI a0 then a0 - a1 else a1 - a0))]) := by
      exact r_ri X V h rfl dX10_far_14
    refine r_cle (cx := wI a0) (cy := wI a1) (tgt := 11) X rfl rfl dX10_far_2 (by decide) (fun c2 => ?_) (fun c2 => ?_)
    · skip
      refine r_iln X dX10_far_5 rfl (lv_at hl 0 rfl) ?_
      refine r_iln X dX10_far_6 rfl (lv_at hl 1 rfl) ?_
      refine r_isub X dX10_far_7 ?_
      refine r_goto (tgt := 14) X dX10_far_8 (by decide) ?_
      rw [if_pos c2] at J1
      exact J1
    · skip
      refine r_iln X dX10_far_11 rfl (lv_at hl 1 rfl) ?_
      refine r_iln X dX10_far_12 rfl (lv_at hl 0 rfl) ?_
      refine r_isub X dX10_far_13 ?_
      rw [if_neg c2] at J1
      exact J1
  exact go _ _ _ X V

set_option maxRecDepth 100000 in
set_option maxHeartbeats 4000000 in
theorem c_X10_at (l : Launch) (G : UG) (σ0 : St) (a1 : Int) (a2 : Int) (r : Int)  (h : f_X10_at σ0 a1 a2 = some r) : Met l yX10_at (.code yX10_at cX10_at 3 (Option.some Jvm.ClassFile.FieldType.int) :: TB) { frames := 0, cells := 0, slots := 0, locals := 0 } (uvPc G σ0 [.ref (G.2.2.1 118), .int (iV a1), .int (iV a2)]) (uvQi G r σ0) 0 0 (uvA G) := by
  unfold f_X10_at at h
  refine r_met (own := RX10) (lv := [(0, .ref (G.2.2.1 118)), (1, .int (iV a1)), (2, .int (iV a2))]) (by decide) rfl (Nat.le_of_ble_eq_true rfl) rfl ?_
  intro p e s m below meth c ls X Y V hl
  have go : ∀ (args : Array Value) (H : Heap) (locs : List Loc), uvCx p m c cX10_at 3 RX10 s args meth (Option.some Jvm.ClassFile.FieldType.int) → uvWo G σ0 s H locs → W p l e { frames := 0, cells := 0, slots := 0, locals := 0 } s m args below meth c H locs 0 0 (MQ below (uvQi G r σ0) args s 0 0 (uvA G)) (F0 m 0 ls []) := by
    intro args H locs X V
    refine r_aln X dX10_at_0 rfl (lv_at hl 0 rfl) ?_
    refine r_gr X Y V ci_10 kd_118 0 rfl rfl (by decide) rfl rfl wd_853 dX10_at_1 ?_
    refine r_bp X dX10_at_4 (by decide) ?_
    refine r_iln X dX10_at_6 rfl (lv_at hl 1 rfl) ?_
    refine r_imul X dX10_at_7 ?_
    refine r_iln X dX10_at_8 rfl (lv_at hl 2 rfl) ?_
    refine r_iadd X dX10_at_9 ?_
    obtain ⟨v1, hv1, hiv1, h⟩ := rdA_ex h
    refine r_ial X Y V kd_119 ln_119 hiv1 hv1 dX10_at_10 ?_
    exact r_ri X V (so1 h) rfl dX10_at_11
  exact go _ _ _ X V

set_option maxRecDepth 100000 in
set_option maxHeartbeats 4000000 in
theorem c_X10_isUnit (l : Launch) (G : UG) (σ0 : St) (a1 : Int) (r : Int)  (h : f_X10_isUnit σ0 a1 = r) : Met l yX10_isUnit (.code yX10_isUnit cX10_isUnit 2 (Option.some Jvm.ClassFile.FieldType.boolean) :: TB) { frames := 1, cells := 0, slots := 0, locals := 25 } (uvPc G σ0 [.ref (G.2.2.1 118), .int (iV a1)]) (uvQz G r σ0) 0 0 (uvA G) := by
  unfold f_X10_isUnit at h
  refine r_met (own := RX10) (lv := [(0, .ref (G.2.2.1 118)), (1, .int (iV a1))]) (by decide) rfl (Nat.le_of_ble_eq_true rfl) rfl ?_
  intro p e s m below meth c ls X Y V hl
  have go : ∀ (args : Array Value) (H : Heap) (locs : List Loc), uvCx p m c cX10_isUnit 2 RX10 s args meth (Option.some Jvm.ClassFile.FieldType.boolean) → uvWo G σ0 s H locs → W p l e { frames := 1, cells := 0, slots := 0, locals := 25 } s m args below meth c H locs 0 0 (MQ below (uvQz G r σ0) args s 0 0 (uvA G)) (F0 m 0 ls []) := by
    intro args H locs X V
    refine r_iln X dX10_isUnit_0 rfl (lv_at hl 1 rfl) ?_
    refine r_i2l X dX10_isUnit_1 ?_
    refine r_lc (v := 0) X dX10_isUnit_2 rfl ?_
    refine r_aln X dX10_isUnit_3 rfl (lv_at hl 0 rfl) ?_
    refine r_gi (kI := 1) X Y V ci_10 kd_118 1 rfl (by decide) rfl rfl wd_854 dX10_isUnit_4 ?_
    refine r_ic X dX10_isUnit_7 ?_
    refine r_isub X dX10_isUnit_8 ?_
    refine r_i2l X dX10_isUnit_9 ?_
    refine r_kz V (r_runS (As := [.long (lV (i2lI a1)), .long (lV 0), .long (lV (i2lI ((σ0 118 1) - 1)))]) (rest := []) X Y V (c_X10_in l G σ0 (i2lI a1) 0 (i2lI ((σ0 118 1) - 1)) _  rfl) ms_X10_in wd_982 ⟨rfl, rfl, Nat.le_of_ble_eq_true rfl, Nat.le_of_ble_eq_true rfl⟩ rfl rfl hl.1 (Nat.le_of_ble_eq_true rfl) ⟨Nat.le_refl 0, Nat.le_refl 0⟩ dX10_isUnit_10) (fun H locs V z1 => ?_)
    exact r_rz X V z1 h rfl dX10_isUnit_13
  exact go _ _ _ X V

set_option maxRecDepth 100000 in
set_option maxHeartbeats 4000000 in
theorem c_X10_isSound (l : Launch) (G : UG) (σ0 : St) (a0 : Int) (r : Int)  (h : f_X10_isSound a0 = r) : Met l yX10_isSound (.code yX10_isSound cX10_isSound 1 (Option.some Jvm.ClassFile.FieldType.boolean) :: TB) { frames := 1, cells := 0, slots := 0, locals := 25 } (uvPc G σ0 [.int (iV a0)]) (uvQz G r σ0) 0 0 (uvA G) := by
  unfold f_X10_isSound at h
  refine r_met (own := RX10) (lv := [(0, .int (iV a0))]) (by decide) rfl (Nat.le_of_ble_eq_true rfl) rfl ?_
  intro p e s m below meth c ls X Y V hl
  have go : ∀ (args : Array Value) (H : Heap) (locs : List Loc), uvCx p m c cX10_isSound 1 RX10 s args meth (Option.some Jvm.ClassFile.FieldType.boolean) → uvWo G σ0 s H locs → W p l e { frames := 1, cells := 0, slots := 0, locals := 25 } s m args below meth c H locs 0 0 (MQ below (uvQz G r σ0) args s 0 0 (uvA G)) (F0 m 0 ls []) := by
    intro args H locs X V
    refine r_iln X dX10_isSound_0 rfl (lv_at hl 0 rfl) ?_
    refine r_i2l X dX10_isSound_1 ?_
    refine r_lc (v := 0) X dX10_isSound_2 rfl ?_
    refine r_ldc2 X (n := 5) wd_981 (by decide) dX10_isSound_3 ?_
    refine r_kz V (r_runS (As := [.long (lV (i2lI a0)), .long (lV 0), .long (lV 5)]) (rest := []) X Y V (c_X10_in l G σ0 (i2lI a0) 0 5 _  rfl) ms_X10_in wd_982 ⟨rfl, rfl, Nat.le_of_ble_eq_true rfl, Nat.le_of_ble_eq_true rfl⟩ rfl rfl hl.1 (Nat.le_of_ble_eq_true rfl) ⟨Nat.le_refl 0, Nat.le_refl 0⟩ dX10_isSound_6) (fun H locs V z1 => ?_)
    exact r_rz X V z1 h rfl dX10_isSound_9
  exact go _ _ _ X V

set_option maxRecDepth 100000 in
set_option maxHeartbeats 4000000 in
theorem c_X10_lays (l : Launch) (G : UG) (σ : St) (a1 : Int) (a2 : Int) (a3 : Int) (a4 : Int) (a5 : Int) (a6 : Int) (r : Int) (σ' : St)  (h : f_X10_lays σ a1 a2 a3 a4 a5 a6 = some (r, σ')) : Met l yX10_lays (.code yX10_lays cX10_lays 8 (Option.none : Option Jvm.ClassFile.FieldType) :: TB) { frames := 0, cells := 0, slots := 0, locals := 0 } (uvPc G σ [.ref (G.2.2.1 118), .int (iV a1), .int (iV a2), .int (iV a3), .int (iV a4), .int (iV a5), .int (iV a6)]) (uvQv G σ') 0 0 (uvA G) := by
  unfold f_X10_lays at h
  refine r_met (own := RX10) (lv := [(0, .ref (G.2.2.1 118)), (1, .int (iV a1)), (2, .int (iV a2)), (3, .int (iV a3)), (4, .int (iV a4)), (5, .int (iV a5)), (6, .int (iV a6))]) (by decide) rfl (Nat.le_of_ble_eq_true rfl) rfl ?_
  intro p e s m below meth c ls X Y V hl
  have go : ∀ (args : Array Value) (H : Heap) (locs : List Loc), uvCx p m c cX10_lays 8 RX10 s args meth (Option.none : Option Jvm.ClassFile.FieldType) → uvWo G σ s H locs → W p l e { frames := 0, cells := 0, slots := 0, locals := 0 } s m args below meth c H locs 0 0 (MQ below (uvQv G σ') args s 0 0 (uvA G)) (F0 m 0 ls []) := by
    intro args H locs X V
    refine r_bp X dX10_lays_0 (by decide) ?_
    refine r_aln X dX10_lays_2 rfl (lv_at hl 0 rfl) ?_
    refine r_gi (kI := 1) X Y V ci_10 kd_118 1 rfl (by decide) rfl rfl wd_854 dX10_lays_3 ?_
    refine r_imul X dX10_lays_6 ?_
    obtain ⟨v1, hv1, h⟩ := bnd_ex h
    refine r_eqI hv1 ?_
    refine r_is (lv' := [(7, .int (iV v1)), (0, .ref (G.2.2.1 118)), (1, .int (iV a1)), (2, .int (iV a2)), (3, .int (iV a3)), (4, .int (iV a4)), (5, .int (iV a5)), (6, .int (iV a6))]) X dX10_lays_7 hl (by decide) rfl (fun ls hl => ?_)
    refine r_aln X dX10_lays_9 rfl (lv_at hl 1 rfl) ?_
    refine r_gr X Y V ci_10 kd_118 0 rfl rfl (by decide) rfl rfl wd_853 dX10_lays_10 ?_
    refine r_il X dX10_lays_13 (lv_at hl 0 rfl) ?_
    refine r_iln X dX10_lays_15 rfl (lv_at hl 2 rfl) ?_
    obtain ⟨σ2, hσ2, hiσ2, h⟩ := wrA_ex h
    refine r_ias X Y V kd_119 ln_119 hiσ2 hσ2 dX10_lays_16 (fun H locs V => ?_)
    refine r_aln X dX10_lays_17 rfl (lv_at hl 1 rfl) ?_
    refine r_gr X Y V ci_10 kd_118 0 rfl rfl (by decide) rfl rfl wd_853 dX10_lays_18 ?_
    refine r_il X dX10_lays_21 (lv_at hl 0 rfl) ?_
    refine r_ic X dX10_lays_23 ?_
    refine r_iadd X dX10_lays_24 ?_
    refine r_iln X dX10_lays_25 rfl (lv_at hl 3 rfl) ?_
    obtain ⟨σ3, hσ3, hiσ3, h⟩ := wrA_ex h
    refine r_ias X Y V kd_119 ln_119 hiσ3 hσ3 dX10_lays_26 (fun H locs V => ?_)
    refine r_aln X dX10_lays_27 rfl (lv_at hl 1 rfl) ?_
    refine r_gr X Y V ci_10 kd_118 0 rfl rfl (by decide) rfl rfl wd_853 dX10_lays_28 ?_
    refine r_il X dX10_lays_31 (lv_at hl 0 rfl) ?_
    refine r_ic X dX10_lays_33 ?_
    refine r_iadd X dX10_lays_34 ?_
    refine r_iln X dX10_lays_35 rfl (lv_at hl 4 rfl) ?_
    obtain ⟨σ4, hσ4, hiσ4, h⟩ := wrA_ex h
    refine r_ias X Y V kd_119 ln_119 hiσ4 hσ4 dX10_lays_36 (fun H locs V => ?_)
    refine r_aln X dX10_lays_37 rfl (lv_at hl 1 rfl) ?_
    refine r_gr X Y V ci_10 kd_118 0 rfl rfl (by decide) rfl rfl wd_853 dX10_lays_38 ?_
    refine r_il X dX10_lays_41 (lv_at hl 0 rfl) ?_
    refine r_ic X dX10_lays_43 ?_
    refine r_iadd X dX10_lays_44 ?_
    refine r_il X dX10_lays_45 (lv_at hl 5 rfl) ?_
    obtain ⟨σ5, hσ5, hiσ5, h⟩ := wrA_ex h
    refine r_ias X Y V kd_119 ln_119 hiσ5 hσ5 dX10_lays_47 (fun H locs V => ?_)
    refine r_aln X dX10_lays_48 rfl (lv_at hl 1 rfl) ?_
    refine r_gr X Y V ci_10 kd_118 0 rfl rfl (by decide) rfl rfl wd_853 dX10_lays_49 ?_
    refine r_il X dX10_lays_52 (lv_at hl 0 rfl) ?_
    refine r_ic X dX10_lays_54 ?_
    refine r_iadd X dX10_lays_55 ?_
    refine r_il X dX10_lays_56 (lv_at hl 6 rfl) ?_
    obtain ⟨σ6, hσ6, hiσ6, h⟩ := wrA_ex h
    refine r_ias X Y V kd_119 ln_119 hiσ6 hσ6 dX10_lays_58 (fun H locs V => ?_)
    refine r_aln X dX10_lays_59 rfl (lv_at hl 1 rfl) ?_
    refine r_gr X Y V ci_10 kd_118 0 rfl rfl (by decide) rfl rfl wd_853 dX10_lays_60 ?_
    refine r_il X dX10_lays_63 (lv_at hl 0 rfl) ?_
    refine r_ic X dX10_lays_65 ?_
    refine r_iadd X dX10_lays_66 ?_
    refine r_il X dX10_lays_67 (lv_at hl 7 rfl) ?_
    obtain ⟨σ7, hσ7, hiσ7, h⟩ := wrA_ex h
    refine r_ias X Y V kd_119 ln_119 hiσ7 hσ7 dX10_lays_69 (fun H locs V => ?_)
    refine r_aln X dX10_lays_70 rfl (lv_at hl 1 rfl) ?_
    refine r_dup X dX10_lays_71 rfl ?_
    refine r_gi (kI := 1) X Y V ci_10 kd_118 1 rfl (by decide) rfl rfl wd_854 dX10_lays_72 ?_
    refine r_ic X dX10_lays_75 ?_
    refine r_iadd X dX10_lays_76 ?_
    obtain ⟨σ8, hσ8, h⟩ := wrF_ex h
    refine r_pi X Y V ci_10 kd_118 1 rfl (by decide) rfl rfl rfl (tyX10_ok 1 (by decide)) wd_854 hσ8 dX10_lays_77 (fun H locs V => ?_)
    exact r_rv X V (so2 h).2 dX10_lays_80
  exact go _ _ _ X V

set_option maxRecDepth 100000 in
set_option maxHeartbeats 4000000 in
theorem c_X10_unit (l : Launch) (G : UG) (σ : St) (a1 : Int) (a2 : Int) (a3 : Int) (a4 : Int) (a5 : Int) (a6 : Int) (r : Int) (σ' : St)  (h : f_X10_unit σ a1 a2 a3 a4 a5 a6 = some (r, σ')) : Met l yX10_unit (.code yX10_unit cX10_unit 7 (Option.some Jvm.ClassFile.FieldType.int) :: TB) { frames := 2, cells := 0, slots := 0, locals := 45 } (uvPc G σ [.ref (G.2.2.1 118), .int (iV a1), .int (iV a2), .int (iV a3), .int (iV a4), .int (iV a5), .int (iV a6)]) (uvQi G r σ') 0 0 (uvA G) := by
  unfold f_X10_unit at h
  refine r_met (own := RX10) (lv := [(0, .ref (G.2.2.1 118)), (1, .int (iV a1)), (2, .int (iV a2)), (3, .int (iV a3)), (4, .int (iV a4)), (5, .int (iV a5)), (6, .int (iV a6))]) (by decide) rfl (Nat.le_of_ble_eq_true rfl) rfl ?_
  intro p e s m below meth c ls X Y V hl
  have go : ∀ (args : Array Value) (H : Heap) (locs : List Loc), uvCx p m c cX10_unit 7 RX10 s args meth (Option.some Jvm.ClassFile.FieldType.int) → uvWo G σ s H locs → W p l e { frames := 2, cells := 0, slots := 0, locals := 45 } s m args below meth c H locs 0 0 (MQ below (uvQi G r σ') args s 0 0 (uvA G)) (F0 m 0 ls []) := by
    intro args H locs X V
    refine r_iln X dX10_unit_0 rfl (lv_at hl 1 rfl) ?_
    refine r_kz V (r_runS (As := [.int (iV a1)]) (rest := []) X Y V (c_X10_isSound l G σ a1 _  rfl) ms_X10_isSound wd_978 ⟨rfl, rfl, Nat.le_of_ble_eq_true rfl, Nat.le_of_ble_eq_true rfl⟩ rfl rfl hl.1 (Nat.le_of_ble_eq_true rfl) ⟨Nat.le_refl 0, Nat.le_refl 0⟩ dX10_unit_1) (fun H locs V z1 => ?_)
    refine r_eq (cx := (f_X10_isSound a1)) (tgt := 70) X (wI_01 z1) dX10_unit_4 (by decide) (fun c2 => ?_) (fun c2 => ?_)
    · replace h := ite_t c2 h
      refine r_aln X dX10_unit_70 rfl (lv_at hl 0 rfl) ?_
      refine r_bp X dX10_unit_71 (by decide) ?_
      obtain ⟨v3, σ4, hv3, h⟩ := bd2_ex h
      refine r_ki V (r_runV (As := [.int (iV (-2))]) (rest := []) X Y V (c_X10_bad l G σ (-2) _ _  hv3) mv_X10_bad wd_988 ci_10 kd_118 ⟨rfl, rfl, Nat.le_of_ble_eq_true rfl, Nat.le_of_ble_eq_true rfl⟩ rfl rfl hl.1 (Nat.le_of_ble_eq_true rfl) ⟨Nat.le_refl 0, Nat.le_refl 0⟩ dX10_unit_73) (fun H locs V => ?_)
      exact r_ri X V (so2 h).1 (so2 h).2 dX10_unit_76
    · replace h := ite_f c2 h
      refine r_iln X dX10_unit_7 rfl (lv_at hl 2 rfl) ?_
      refine r_i2l X dX10_unit_8 ?_
      refine r_lc (v := 0) X dX10_unit_9 rfl ?_
      refine r_ldc2 X (n := 6) wd_985 (by decide) dX10_unit_10 ?_
      refine r_kz V (r_runS (As := [.long (lV (i2lI a2)), .long (lV 0), .long (lV 6)]) (rest := []) X Y V (c_X10_in l G σ (i2lI a2) 0 6 _  rfl) ms_X10_in wd_982 ⟨rfl, rfl, Nat.le_of_ble_eq_true rfl, Nat.le_of_ble_eq_true rfl⟩ rfl rfl hl.1 (Nat.le_of_ble_eq_true rfl) ⟨Nat.le_refl 0, Nat.le_refl 0⟩ dX10_unit_13) (fun H locs V z5 => ?_)
      refine r_eq (cx := (f_X10_in (i2lI a2) 0 6)) (tgt := 70) X (wI_01 z5) dX10_unit_16 (by decide) (fun c6 => ?_) (fun c6 => ?_)
      · replace h := ite_t c6 h
        refine r_aln X dX10_unit_70 rfl (lv_at hl 0 rfl) ?_
        refine r_bp X dX10_unit_71 (by decide) ?_
        obtain ⟨v7, σ8, hv7, h⟩ := bd2_ex h
        refine r_ki V (r_runV (As := [.int (iV (-2))]) (rest := []) X Y V (c_X10_bad l G σ (-2) _ _  hv7) mv_X10_bad wd_988 ci_10 kd_118 ⟨rfl, rfl, Nat.le_of_ble_eq_true rfl, Nat.le_of_ble_eq_true rfl⟩ rfl rfl hl.1 (Nat.le_of_ble_eq_true rfl) ⟨Nat.le_refl 0, Nat.le_refl 0⟩ dX10_unit_73) (fun H locs V => ?_)
        exact r_ri X V (so2 h).1 (so2 h).2 dX10_unit_76
      · replace h := ite_f c6 h
        refine r_iln X dX10_unit_19 rfl (lv_at hl 3 rfl) ?_
        refine r_i2l X dX10_unit_20 ?_
        refine r_lc (v := 0) X dX10_unit_21 rfl ?_
        refine r_ldc2 X (n := 6) wd_985 (by decide) dX10_unit_22 ?_
        refine r_kz V (r_runS (As := [.long (lV (i2lI a3)), .long (lV 0), .long (lV 6)]) (rest := []) X Y V (c_X10_in l G σ (i2lI a3) 0 6 _  rfl) ms_X10_in wd_982 ⟨rfl, rfl, Nat.le_of_ble_eq_true rfl, Nat.le_of_ble_eq_true rfl⟩ rfl rfl hl.1 (Nat.le_of_ble_eq_true rfl) ⟨Nat.le_refl 0, Nat.le_refl 0⟩ dX10_unit_25) (fun H locs V z9 => ?_)
        refine r_eq (cx := (f_X10_in (i2lI a3) 0 6)) (tgt := 70) X (wI_01 z9) dX10_unit_28 (by decide) (fun c10 => ?_) (fun c10 => ?_)
        · replace h := ite_t c10 h
          refine r_aln X dX10_unit_70 rfl (lv_at hl 0 rfl) ?_
          refine r_bp X dX10_unit_71 (by decide) ?_
          obtain ⟨v11, σ12, hv11, h⟩ := bd2_ex h
          refine r_ki V (r_runV (As := [.int (iV (-2))]) (rest := []) X Y V (c_X10_bad l G σ (-2) _ _  hv11) mv_X10_bad wd_988 ci_10 kd_118 ⟨rfl, rfl, Nat.le_of_ble_eq_true rfl, Nat.le_of_ble_eq_true rfl⟩ rfl rfl hl.1 (Nat.le_of_ble_eq_true rfl) ⟨Nat.le_refl 0, Nat.le_refl 0⟩ dX10_unit_73) (fun H locs V => ?_)
          exact r_ri X V (so2 h).1 (so2 h).2 dX10_unit_76
        · replace h := ite_f c10 h
          refine r_il X dX10_unit_31 (lv_at hl 4 rfl) ?_
          refine r_i2l X dX10_unit_33 ?_
          refine r_lc (v := 0) X dX10_unit_34 rfl ?_
          refine r_ldc2 X (n := 9) wd_986 (by decide) dX10_unit_35 ?_
          refine r_kz V (r_runS (As := [.long (lV (i2lI a4)), .long (lV 0), .long (lV 9)]) (rest := []) X Y V (c_X10_in l G σ (i2lI a4) 0 9 _  rfl) ms_X10_in wd_982 ⟨rfl, rfl, Nat.le_of_ble_eq_true rfl, Nat.le_of_ble_eq_true rfl⟩ rfl rfl hl.1 (Nat.le_of_ble_eq_true rfl) ⟨Nat.le_refl 0, Nat.le_refl 0⟩ dX10_unit_38) (fun H locs V z13 => ?_)
          refine r_eq (cx := (f_X10_in (i2lI a4) 0 9)) (tgt := 70) X (wI_01 z13) dX10_unit_41 (by decide) (fun c14 => ?_) (fun c14 => ?_)
          · replace h := ite_t c14 h
            refine r_aln X dX10_unit_70 rfl (lv_at hl 0 rfl) ?_
            refine r_bp X dX10_unit_71 (by decide) ?_
            obtain ⟨v15, σ16, hv15, h⟩ := bd2_ex h
            refine r_ki V (r_runV (As := [.int (iV (-2))]) (rest := []) X Y V (c_X10_bad l G σ (-2) _ _  hv15) mv_X10_bad wd_988 ci_10 kd_118 ⟨rfl, rfl, Nat.le_of_ble_eq_true rfl, Nat.le_of_ble_eq_true rfl⟩ rfl rfl hl.1 (Nat.le_of_ble_eq_true rfl) ⟨Nat.le_refl 0, Nat.le_refl 0⟩ dX10_unit_73) (fun H locs V => ?_)
            exact r_ri X V (so2 h).1 (so2 h).2 dX10_unit_76
          · replace h := ite_f c14 h
            refine r_il X dX10_unit_44 (lv_at hl 5 rfl) ?_
            refine r_i2l X dX10_unit_46 ?_
            refine r_lc (v := 1) X dX10_unit_47 rfl ?_
            refine r_ldc2 X (n := 9) wd_986 (by decide) dX10_unit_48 ?_
            refine r_kz V (r_runS (As := [.long (lV (i2lI a5)), .long (lV 1), .long (lV 9)]) (rest := []) X Y V (c_X10_in l G σ (i2lI a5) 1 9 _  rfl) ms_X10_in wd_982 ⟨rfl, rfl, Nat.le_of_ble_eq_true rfl, Nat.le_of_ble_eq_true rfl⟩ rfl rfl hl.1 (Nat.le_of_ble_eq_true rfl) ⟨Nat.le_refl 0, Nat.le_refl 0⟩ dX10_unit_51) (fun H locs V z17 => ?_)
            refine r_eq (cx := (f_X10_in (i2lI a5) 1 9)) (tgt := 70) X (wI_01 z17) dX10_unit_54 (by decide) (fun c18 => ?_) (fun c18 => ?_)
            · replace h := ite_t c18 h
              refine r_aln X dX10_unit_70 rfl (lv_at hl 0 rfl) ?_
              refine r_bp X dX10_unit_71 (by decide) ?_
              obtain ⟨v19, σ20, hv19, h⟩ := bd2_ex h
              refine r_ki V (r_runV (As := [.int (iV (-2))]) (rest := []) X Y V (c_X10_bad l G σ (-2) _ _  hv19) mv_X10_bad wd_988 ci_10 kd_118 ⟨rfl, rfl, Nat.le_of_ble_eq_true rfl, Nat.le_of_ble_eq_true rfl⟩ rfl rfl hl.1 (Nat.le_of_ble_eq_true rfl) ⟨Nat.le_refl 0, Nat.le_refl 0⟩ dX10_unit_73) (fun H locs V => ?_)
              exact r_ri X V (so2 h).1 (so2 h).2 dX10_unit_76
            · replace h := ite_f c18 h
              refine r_il X dX10_unit_57 (lv_at hl 6 rfl) ?_
              refine r_i2l X dX10_unit_59 ?_
              refine r_lc (v := 0) X dX10_unit_60 rfl ?_
              refine r_ldc2 X (n := 3) wd_987 (by decide) dX10_unit_61 ?_
              refine r_kz V (r_runS (As := [.long (lV (i2lI a6)), .long (lV 0), .long (lV 3)]) (rest := []) X Y V (c_X10_in l G σ (i2lI a6) 0 3 _  rfl) ms_X10_in wd_982 ⟨rfl, rfl, Nat.le_of_ble_eq_true rfl, Nat.le_of_ble_eq_true rfl⟩ rfl rfl hl.1 (Nat.le_of_ble_eq_true rfl) ⟨Nat.le_refl 0, Nat.le_refl 0⟩ dX10_unit_64) (fun H locs V z21 => ?_)
              refine r_ne (cx := (f_X10_in (i2lI a6) 0 3)) (tgt := 77) X (wI_01 z21) dX10_unit_67 (by decide) (fun c22 => ?_) (fun c22 => ?_)
              · replace h := ite_t c22 h
                refine r_aln X dX10_unit_70 rfl (lv_at hl 0 rfl) ?_
                refine r_bp X dX10_unit_71 (by decide) ?_
                obtain ⟨v23, σ24, hv23, h⟩ := bd2_ex h
                refine r_ki V (r_runV (As := [.int (iV (-2))]) (rest := []) X Y V (c_X10_bad l G σ (-2) _ _  hv23) mv_X10_bad wd_988 ci_10 kd_118 ⟨rfl, rfl, Nat.le_of_ble_eq_true rfl, Nat.le_of_ble_eq_true rfl⟩ rfl rfl hl.1 (Nat.le_of_ble_eq_true rfl) ⟨Nat.le_refl 0, Nat.le_refl 0⟩ dX10_unit_73) (fun H locs V => ?_)
                exact r_ri X V (so2 h).1 (so2 h).2 dX10_unit_76
              · replace h := ite_f c22 h
                refine r_aln X dX10_unit_77 rfl (lv_at hl 0 rfl) ?_
                refine r_gi (kI := 1) X Y V ci_10 kd_118 1 rfl (by decide) rfl rfl wd_854 dX10_unit_78 ?_
                refine r_bp X dX10_unit_81 (by decide) ?_
                refine r_cne (cx := wI (σ 118 1)) (cy := 40) (tgt := 91) X rfl rfl dX10_unit_83 (by decide) (fun c25 => ?_) (fun c25 => ?_)
                · replace h := ite_t c25 h
                  refine r_aln X dX10_unit_86 rfl (lv_at hl 0 rfl) ?_
                  obtain ⟨v26, σ27, hv26, h⟩ := bd2_ex h
                  refine r_ki V (r_runV (As := []) (rest := []) X Y V (c_X10_full l G σ  _ _  hv26) mv_X10_full wd_992 ci_10 kd_118 ⟨rfl, rfl, Nat.le_of_ble_eq_true rfl, Nat.le_of_ble_eq_true rfl⟩ rfl rfl hl.1 (Nat.le_of_ble_eq_true rfl) ⟨Nat.le_refl 0, Nat.le_refl 0⟩ dX10_unit_87) (fun H locs V => ?_)
                  exact r_ri X V (so2 h).1 (so2 h).2 dX10_unit_90
                · replace h := ite_f c25 h
                  refine r_aln X dX10_unit_91 rfl (lv_at hl 0 rfl) ?_
                  refine r_iln X dX10_unit_92 rfl (lv_at hl 1 rfl) ?_
                  refine r_iln X dX10_unit_93 rfl (lv_at hl 2 rfl) ?_
                  refine r_iln X dX10_unit_94 rfl (lv_at hl 3 rfl) ?_
                  refine r_il X dX10_unit_95 (lv_at hl 4 rfl) ?_
                  refine r_il X dX10_unit_97 (lv_at hl 5 rfl) ?_
                  refine r_il X dX10_unit_99 (lv_at hl 6 rfl) ?_
                  obtain ⟨v28, σ29, hv28, h⟩ := bd2_ex h
                  refine r_kv V (r_runV (As := [.int (iV a1), .int (iV a2), .int (iV a3), .int (iV a4), .int (iV a5), .int (iV a6)]) (rest := []) X Y V (c_X10_lays l G σ a1 a2 a3 a4 a5 a6 _ _  hv28) mv_X10_lays wd_996 ci_10 kd_118 ⟨rfl, rfl, Nat.le_of_ble_eq_true rfl, Nat.le_of_ble_eq_true rfl⟩ rfl rfl hl.1 (Nat.le_of_ble_eq_true rfl) ⟨Nat.le_refl 0, Nat.le_refl 0⟩ dX10_unit_101) (fun H locs V => ?_)
                  refine r_aln X dX10_unit_104 rfl (lv_at hl 0 rfl) ?_
                  refine r_gi (kI := 1) X Y V ci_10 kd_118 1 rfl (by decide) rfl rfl wd_854 dX10_unit_105 ?_
                  refine r_ic X dX10_unit_108 ?_
                  refine r_isub X dX10_unit_109 ?_
                  exact r_ri X V (so2 h).1 (so2 h).2 dX10_unit_110
  exact go _ _ _ X V

