set_option maxRecDepth 100000 in
set_option maxHeartbeats 4000000 in
theorem c_X10_tree (l : Launch) (G : UG) (σ : St) (a1 : Int) (r : Int) (σ' : St)  (h : f_X10_tree σ a1 = some (r, σ')) : Met l yX10_tree (.code yX10_tree cX10_tree 2 (Option.some Jvm.ClassFile.FieldType.int) :: TB) { frames := 4, cells := 0, slots := 0, locals := 96 } (uvPc G σ [.ref (G.2.2.1 118), .int (iV a1)]) (uvQi G r σ') 0 0 (uvA G) := by
  unfold f_X10_tree at h
  refine r_met (own := RX10) (lv := [(0, .ref (G.2.2.1 118)), (1, .int (iV a1))]) (by decide) rfl (Nat.le_of_ble_eq_true rfl) rfl ?_
  intro p e s m below meth c ls X Y V hl
  have go : ∀ (args : Array Value) (H : Heap) (locs : List Loc), uvCx p m c cX10_tree 2 RX10 s args meth (Option.some Jvm.ClassFile.FieldType.int) → uvWo G σ s H locs → W p l e { frames := 4, cells := 0, slots := 0, locals := 96 } s m args below meth c H locs 0 0 (MQ below (uvQi G r σ') args s 0 0 (uvA G)) (F0 m 0 ls []) := by
    intro args H locs X V
    refine r_iln X dX10_tree_0 rfl (lv_at hl 1 rfl) ?_
    refine r_i2l X dX10_tree_1 ?_
    refine r_lc (v := 0) X dX10_tree_2 rfl ?_
    refine r_ldc2 X (n := 2) wd_1104 (by decide) dX10_tree_3 ?_
    refine r_kz V (r_runS (As := [.long (lV (i2lI a1)), .long (lV 0), .long (lV 2)]) (rest := []) X Y V (c_X10_in l G σ (i2lI a1) 0 2 _  rfl) ms_X10_in wd_982 ⟨rfl, rfl, Nat.le_of_ble_eq_true rfl, Nat.le_of_ble_eq_true rfl⟩ rfl rfl hl.1 (Nat.le_of_ble_eq_true rfl) ⟨Nat.le_refl 0, Nat.le_refl 0⟩ dX10_tree_6) (fun H locs V z1 => ?_)
    refine r_ne (cx := (f_X10_in (i2lI a1) 0 2)) (tgt := 19) X (wI_01 z1) dX10_tree_9 (by decide) (fun c2 => ?_) (fun c2 => ?_)
    · replace h := ite_t c2 h
      refine r_aln X dX10_tree_12 rfl (lv_at hl 0 rfl) ?_
      refine r_bp X dX10_tree_13 (by decide) ?_
      obtain ⟨v3, σ4, hv3, h⟩ := bd2_ex h
      refine r_ki V (r_runV (As := [.int (iV (-2))]) (rest := []) X Y V (c_X10_bad l G σ (-2) _ _  hv3) mv_X10_bad wd_988 ci_10 kd_118 ⟨rfl, rfl, Nat.le_of_ble_eq_true rfl, Nat.le_of_ble_eq_true rfl⟩ rfl rfl hl.1 (Nat.le_of_ble_eq_true rfl) ⟨Nat.le_refl 0, Nat.le_refl 0⟩ dX10_tree_15) (fun H locs V => ?_)
      exact r_ri X V (so2 h).1 (so2 h).2 dX10_tree_18
    · replace h := ite_f c2 h
      refine r_iln X dX10_tree_19 rfl (lv_at hl 1 rfl) ?_
      refine r_ne (cx := wI a1) (tgt := 30) X rfl dX10_tree_20 (by decide) (fun c5 => ?_) (fun c5 => ?_)
      · replace h := ite_t c5 h
        refine r_aln X dX10_tree_23 rfl (lv_at hl 0 rfl) ?_
        refine r_gi (kI := 10) X Y V ci_10 kd_118 10 rfl (by decide) rfl rfl wd_863 dX10_tree_24 ?_
        refine r_goto (tgt := 46) X dX10_tree_27 (by decide) ?_
        exact r_ri X V (so2 h).1 (so2 h).2 dX10_tree_46
      · replace h := ite_f c5 h
        refine r_iln X dX10_tree_30 rfl (lv_at hl 1 rfl) ?_
        refine r_ic X dX10_tree_31 ?_
        refine r_cne (cx := wI a1) (cy := 1) (tgt := 42) X rfl rfl dX10_tree_32 (by decide) (fun c6 => ?_) (fun c6 => ?_)
        · replace h := ite_t c6 h
          refine r_aln X dX10_tree_35 rfl (lv_at hl 0 rfl) ?_
          refine r_gi (kI := 11) X Y V ci_10 kd_118 11 rfl (by decide) rfl rfl wd_864 dX10_tree_36 ?_
          refine r_goto (tgt := 46) X dX10_tree_39 (by decide) ?_
          exact r_ri X V (so2 h).1 (so2 h).2 dX10_tree_46
        · replace h := ite_f c6 h
          refine r_aln X dX10_tree_42 rfl (lv_at hl 0 rfl) ?_
          obtain ⟨v7, hv7, h⟩ := bd1_ex h
          refine r_ki V (r_runV (As := []) (rest := []) X Y V (c_X10_emptyLeaves l G σ  _  hv7) mv_X10_emptyLeaves wd_1105 ci_10 kd_118 ⟨rfl, rfl, Nat.le_of_ble_eq_true rfl, Nat.le_of_ble_eq_true rfl⟩ rfl rfl hl.1 (Nat.le_of_ble_eq_true rfl) ⟨Nat.le_refl 0, Nat.le_refl 0⟩ dX10_tree_43) (fun H locs V => ?_)
          exact r_ri X V (so2 h).1 (so2 h).2 dX10_tree_46
  exact go _ _ _ X V

set_option maxRecDepth 100000 in
set_option maxHeartbeats 4000000 in
theorem wj_X10_leaf_40 {p : Program} {l : Launch} {e : Env} {s : State} {m : MethodId} {args : Array Value} {below : List Frame} {meth : Method} {c : Code} {G : UG} (X : uvCx p m c cX10_leaf 3 RX10 s args meth (Option.some Jvm.ClassFile.FieldType.int)) (Y : uvGd G s s.heap) (r : Int) (σ' : St) (σ : St) (x1 : Int) (x2 : Int)  (H : Heap) (locs : List Loc) (ls : Array Slot) (V : uvWo G σ s H locs) (hl : lv_has ls 3 [(0, .ref (G.2.2.1 118)), (1, .int (iV x1)), (2, .int (iV x2))]) (h : jn_X10_leaf_40 σ x1 x2 = some (r, σ')) : W p l e { frames := 3, cells := 0, slots := 0, locals := 72 } s m args below meth c H locs 0 0 (MQ below (uvQi G r σ') args s 0 0 (uvA G)) (F0 m 40 ls []) := by
  unfold jn_X10_leaf_40 at h
  refine r_aln X dX10_leaf_40 rfl (lv_at hl 0 rfl) ?_
  refine r_iln X dX10_leaf_41 rfl (lv_at hl 1 rfl) ?_
  have J10 : W p l e { frames := 3, cells := 0, slots := 0, locals := 72 } s m args below meth c H locs 0 0 (MQ below (uvQi G r σ') args s 0 0 (uvA G)) (F0 m 50 ls [.int (iV (if wI x1 = 0 then 1 else 0)), .ref (G.2.2.1 118)]) := by
    refine r_iln X dX10_leaf_50 rfl (lv_at hl 2 rfl) ?_
    obtain ⟨v11, hv11, h⟩ := bd1_ex h
    refine r_ki V (r_runV (As := [.int (iV (if wI x1 = 0 then 1 else 0)), .int (iV x2)]) (rest := []) X Y V (c_X10_leafOf l G σ (if wI x1 = 0 then 1 else 0) x2 _  hv11) mv_X10_leafOf wd_1109 ci_10 kd_118 ⟨rfl, rfl, Nat.le_of_ble_eq_true rfl, Nat.le_of_ble_eq_true rfl⟩ rfl rfl hl.1 (Nat.le_of_ble_eq_true rfl) ⟨Nat.le_refl 0, Nat.le_refl 0⟩ dX10_leaf_51) (fun H locs V => ?_)
    exact r_ri X V (so2 h).1 (so2 h).2 dX10_leaf_54
  refine r_ne (cx := wI x1) (tgt := 49) X rfl dX10_leaf_42 (by decide) (fun c12 => ?_) (fun c12 => ?_)
  · skip
    refine r_ic X dX10_leaf_45 ?_
    refine r_goto (tgt := 50) X dX10_leaf_46 (by decide) ?_
    rw [if_pos c12] at J10
    exact J10
  · skip
    refine r_ic X dX10_leaf_49 ?_
    rw [if_neg c12] at J10
    exact J10

set_option maxRecDepth 100000 in
set_option maxHeartbeats 4000000 in
theorem c_X10_leaf (l : Launch) (G : UG) (σ : St) (a1 : Int) (a2 : Int) (r : Int) (σ' : St)  (h : f_X10_leaf σ a1 a2 = some (r, σ')) : Met l yX10_leaf (.code yX10_leaf cX10_leaf 3 (Option.some Jvm.ClassFile.FieldType.int) :: TB) { frames := 3, cells := 0, slots := 0, locals := 72 } (uvPc G σ [.ref (G.2.2.1 118), .int (iV a1), .int (iV a2)]) (uvQi G r σ') 0 0 (uvA G) := by
  unfold f_X10_leaf at h
  refine r_met (own := RX10) (lv := [(0, .ref (G.2.2.1 118)), (1, .int (iV a1)), (2, .int (iV a2))]) (by decide) rfl (Nat.le_of_ble_eq_true rfl) rfl ?_
  intro p e s m below meth c ls X Y V hl
  have go : ∀ (args : Array Value) (H : Heap) (locs : List Loc), uvCx p m c cX10_leaf 3 RX10 s args meth (Option.some Jvm.ClassFile.FieldType.int) → uvWo G σ s H locs → W p l e { frames := 3, cells := 0, slots := 0, locals := 72 } s m args below meth c H locs 0 0 (MQ below (uvQi G r σ') args s 0 0 (uvA G)) (F0 m 0 ls []) := by
    intro args H locs X V
    refine r_iln X dX10_leaf_0 rfl (lv_at hl 1 rfl) ?_
    refine r_i2l X dX10_leaf_1 ?_
    refine r_lc (v := 0) X dX10_leaf_2 rfl ?_
    refine r_lc (v := 1) X dX10_leaf_3 rfl ?_
    refine r_kz V (r_runS (As := [.long (lV (i2lI a1)), .long (lV 0), .long (lV 1)]) (rest := []) X Y V (c_X10_in l G σ (i2lI a1) 0 1 _  rfl) ms_X10_in wd_982 ⟨rfl, rfl, Nat.le_of_ble_eq_true rfl, Nat.le_of_ble_eq_true rfl⟩ rfl rfl hl.1 (Nat.le_of_ble_eq_true rfl) ⟨Nat.le_refl 0, Nat.le_refl 0⟩ dX10_leaf_4) (fun H locs V z1 => ?_)
    refine r_eq (cx := (f_X10_in (i2lI a1) 0 1)) (tgt := 33) X (wI_01 z1) dX10_leaf_7 (by decide) (fun c2 => ?_) (fun c2 => ?_)
    · replace h := ite_t c2 h
      refine r_aln X dX10_leaf_33 rfl (lv_at hl 0 rfl) ?_
      refine r_bp X dX10_leaf_34 (by decide) ?_
      obtain ⟨v3, σ4, hv3, h⟩ := bd2_ex h
      refine r_ki V (r_runV (As := [.int (iV (-2))]) (rest := []) X Y V (c_X10_bad l G σ (-2) _ _  hv3) mv_X10_bad wd_988 ci_10 kd_118 ⟨rfl, rfl, Nat.le_of_ble_eq_true rfl, Nat.le_of_ble_eq_true rfl⟩ rfl rfl hl.1 (Nat.le_of_ble_eq_true rfl) ⟨Nat.le_refl 0, Nat.le_refl 0⟩ dX10_leaf_36) (fun H locs V => ?_)
      exact r_ri X V (so2 h).1 (so2 h).2 dX10_leaf_39
    · replace h := ite_f c2 h
      refine r_iln X dX10_leaf_10 rfl (lv_at hl 1 rfl) ?_
      refine r_ne (cx := wI a1) (tgt := 25) X rfl dX10_leaf_11 (by decide) (fun c5 => ?_) (fun c5 => ?_)
      · replace h := ite_t c5 h
        refine r_aln X dX10_leaf_14 rfl (lv_at hl 0 rfl) ?_
        refine r_iln X dX10_leaf_15 rfl (lv_at hl 2 rfl) ?_
        refine r_kz V (r_runV (As := [.int (iV a2)]) (rest := []) X Y V (c_X10_isUnit l G σ a2 _  rfl) mv_X10_isUnit wd_1020 ci_10 kd_118 ⟨rfl, rfl, Nat.le_of_ble_eq_true rfl, Nat.le_of_ble_eq_true rfl⟩ rfl rfl hl.1 (Nat.le_of_ble_eq_true rfl) ⟨Nat.le_refl 0, Nat.le_refl 0⟩ dX10_leaf_16) (fun H locs V z6 => ?_)
        refine r_ne (cx := (f_X10_isUnit σ a2)) (tgt := 40) X (wI_01 z6) dX10_leaf_19 (by decide) (fun c7 => ?_) (fun c7 => ?_)
        · replace h := ite_t c7 h
          refine r_goto (tgt := 33) X dX10_leaf_22 (by decide) ?_
          refine r_aln X dX10_leaf_33 rfl (lv_at hl 0 rfl) ?_
          refine r_bp X dX10_leaf_34 (by decide) ?_
          obtain ⟨v8, σ9, hv8, h⟩ := bd2_ex h
          refine r_ki V (r_runV (As := [.int (iV (-2))]) (rest := []) X Y V (c_X10_bad l G σ (-2) _ _  hv8) mv_X10_bad wd_988 ci_10 kd_118 ⟨rfl, rfl, Nat.le_of_ble_eq_true rfl, Nat.le_of_ble_eq_true rfl⟩ rfl rfl hl.1 (Nat.le_of_ble_eq_true rfl) ⟨Nat.le_refl 0, Nat.le_refl 0⟩ dX10_leaf_36) (fun H locs V => ?_)
          exact r_ri X V (so2 h).1 (so2 h).2 dX10_leaf_39
        · replace h := ite_f c7 h
          exact wj_X10_leaf_40 X Y r σ' σ a1 a2  _ _ _ V (lv_sub hl [0, 1, 2] rfl) h
      · replace h := ite_f c5 h
        refine r_aln X dX10_leaf_25 rfl (lv_at hl 0 rfl) ?_
        refine r_iln X dX10_leaf_26 rfl (lv_at hl 2 rfl) ?_
        refine r_kz V (r_runV (As := [.int (iV a2)]) (rest := []) X Y V (c_X10_isTarget l G σ a2 _  rfl) mv_X10_isTarget wd_1088 ci_10 kd_118 ⟨rfl, rfl, Nat.le_of_ble_eq_true rfl, Nat.le_of_ble_eq_true rfl⟩ rfl rfl hl.1 (Nat.le_of_ble_eq_true rfl) ⟨Nat.le_refl 0, Nat.le_refl 0⟩ dX10_leaf_27) (fun H locs V z13 => ?_)
        refine r_ne (cx := (f_X10_isTarget σ a2)) (tgt := 40) X (wI_01 z13) dX10_leaf_30 (by decide) (fun c14 => ?_) (fun c14 => ?_)
        · replace h := ite_t c14 h
          refine r_aln X dX10_leaf_33 rfl (lv_at hl 0 rfl) ?_
          refine r_bp X dX10_leaf_34 (by decide) ?_
          obtain ⟨v15, σ16, hv15, h⟩ := bd2_ex h
          refine r_ki V (r_runV (As := [.int (iV (-2))]) (rest := []) X Y V (c_X10_bad l G σ (-2) _ _  hv15) mv_X10_bad wd_988 ci_10 kd_118 ⟨rfl, rfl, Nat.le_of_ble_eq_true rfl, Nat.le_of_ble_eq_true rfl⟩ rfl rfl hl.1 (Nat.le_of_ble_eq_true rfl) ⟨Nat.le_refl 0, Nat.le_refl 0⟩ dX10_leaf_36) (fun H locs V => ?_)
          exact r_ri X V (so2 h).1 (so2 h).2 dX10_leaf_39
        · replace h := ite_f c14 h
          exact wj_X10_leaf_40 X Y r σ' σ a1 a2  _ _ _ V (lv_sub hl [0, 1, 2] rfl) h
  exact go _ _ _ X V

set_option maxRecDepth 100000 in
set_option maxHeartbeats 4000000 in
theorem wl_X10_wayLong_4 {p : Program} {l : Launch} {e : Env} {s : State} {m : MethodId} {args : Array Value} {below : List Frame} {meth : Method} {c : Code} {G : UG} (X : uvCx p m c cX10_wayLong 4 RX10 s args meth (Option.some Jvm.ClassFile.FieldType.int)) (Y : uvGd G s s.heap) (σ0 : St) (x1 : Int)  (r : Int) (kx : Int → Option Int) (hkx : ∀ (x3 : Int) (H : Heap) (locs : List Loc) (ls : Array Slot), uvWo G σ0 s H locs → lv_has ls 4 [(3, .int (iV x3))] → kx x3 = some r → W p l e { frames := 2, cells := 0, slots := 0, locals := 48 } s m args below meth c H locs 0 0 (MQ below (uvQi G r σ0) args s 0 0 (uvA G)) (F0 m 44 ls [])) : ∀ (n : Nat) (x2 : Int) (x3 : Int) (H : Heap) (locs : List Loc) (ls : Array Slot), uvWo G σ0 s H locs → lv_has ls 4 [(0, .ref (G.2.2.1 118)), (1, .int (iV x1)), (2, .int (iV x2)), (3, .int (iV x3))] → lp_X10_wayLong_4 σ0 x1 kx n x2 x3 = some r → W p l e { frames := 2, cells := 0, slots := 0, locals := 48 } s m args below meth c H locs 0 0 (MQ below (uvQi G r σ0) args s 0 0 (uvA G)) (F0 m 4 ls []) := by
  intro n
  induction n with
  | zero => intro x2 x3 H locs ls V hl h; cases h
  | succ n ih =>
    intro x2 x3 H locs ls V hl h
    rw [lp_X10_wayLong_4] at h
    refine r_aln X dX10_wayLong_4 rfl (lv_at hl 0 rfl) ?_
    refine r_gr X Y V ci_10 kd_118 6 rfl rfl (by decide) rfl rfl wd_859 dX10_wayLong_5 ?_
    refine r_iln X dX10_wayLong_8 rfl (lv_at hl 2 rfl) ?_
    obtain ⟨v1, hv1, hiv1, h⟩ := rdA_ex h
    refine r_ial X Y V kd_122 ln_122 hiv1 hv1 dX10_wayLong_9 ?_
    refine r_eq (cx := wI v1) (tgt := 44) X rfl dX10_wayLong_10 (by decide) (fun c2 => ?_) (fun c2 => ?_)
    · replace h := ite_t c2 h
      exact hkx x3 _ _ _ V (lv_sub hl [3] rfl) h
    · replace h := ite_f c2 h
      refine r_aln X dX10_wayLong_13 rfl (lv_at hl 0 rfl) ?_
      refine r_iln X dX10_wayLong_14 rfl (lv_at hl 2 rfl) ?_
      refine r_iln X dX10_wayLong_15 rfl (lv_at hl 1 rfl) ?_
      obtain ⟨v3, hv3, h⟩ := bd1_ex h
      refine r_kz V (r_runV (As := [.int (iV x2), .int (iV x1)]) (rest := []) X Y V (c_X10_targetAnswers l G σ0 x2 x1 _  hv3) mv_X10_targetAnswers wd_1121 ci_10 kd_118 ⟨rfl, rfl, Nat.le_of_ble_eq_true rfl, Nat.le_of_ble_eq_true rfl⟩ rfl rfl hl.1 (Nat.le_of_ble_eq_true rfl) ⟨Nat.le_refl 0, Nat.le_refl 0⟩ dX10_wayLong_16) (fun H locs V z4 => ?_)
      refine r_eq (cx := v3) (tgt := 31) X (wI_01 z4) dX10_wayLong_19 (by decide) (fun c5 => ?_) (fun c5 => ?_)
      · replace h := ite_t c5 h
        refine r_aln X dX10_wayLong_31 rfl (lv_at hl 0 rfl) ?_
        refine r_gr X Y V ci_10 kd_118 9 rfl rfl (by decide) rfl rfl wd_862 dX10_wayLong_32 ?_
        refine r_iln X dX10_wayLong_35 rfl (lv_at hl 2 rfl) ?_
        obtain ⟨v6, hv6, hiv6, h⟩ := rdA_ex h
        refine r_ial X Y V kd_125 ln_125 hiv6 hv6 dX10_wayLong_36 ?_
        refine r_isn (lv' := [(2, .int (iV v6)), (0, .ref (G.2.2.1 118)), (1, .int (iV x1)), (3, .int (iV x3))]) X dX10_wayLong_37 rfl hl (by decide) rfl (fun ls hl => ?_)
        refine r_inc (kk := 3) (lv' := [(3, .int (iV (x3 + 1))), (2, .int (iV v6)), (0, .ref (G.2.2.1 118)), (1, .int (iV x1))]) X dX10_wayLong_38 hl rfl (by decide) rfl (fun ls hl => ?_)
        refine r_goto (tgt := 4) X dX10_wayLong_41 (by decide) ?_
        exact ih v6 (x3 + 1) _ _ _ V (lv_sub hl [2, 3, 1, 0] rfl) h
      · replace h := ite_f c5 h
        refine r_aln X dX10_wayLong_22 rfl (lv_at hl 0 rfl) ?_
        refine r_gr X Y V ci_10 kd_118 8 rfl rfl (by decide) rfl rfl wd_861 dX10_wayLong_23 ?_
        refine r_iln X dX10_wayLong_26 rfl (lv_at hl 2 rfl) ?_
        obtain ⟨v7, hv7, hiv7, h⟩ := rdA_ex h
        refine r_ial X Y V kd_124 ln_124 hiv7 hv7 dX10_wayLong_27 ?_
        refine r_goto (tgt := 37) X dX10_wayLong_28 (by decide) ?_
        refine r_isn (lv' := [(2, .int (iV v7)), (0, .ref (G.2.2.1 118)), (1, .int (iV x1)), (3, .int (iV x3))]) X dX10_wayLong_37 rfl hl (by decide) rfl (fun ls hl => ?_)
        refine r_inc (kk := 3) (lv' := [(3, .int (iV (x3 + 1))), (2, .int (iV v7)), (0, .ref (G.2.2.1 118)), (1, .int (iV x1))]) X dX10_wayLong_38 hl rfl (by decide) rfl (fun ls hl => ?_)
        refine r_goto (tgt := 4) X dX10_wayLong_41 (by decide) ?_
        exact ih v7 (x3 + 1) _ _ _ V (lv_sub hl [2, 3, 1, 0] rfl) h

set_option maxRecDepth 100000 in
set_option maxHeartbeats 4000000 in
theorem c_X10_wayLong (l : Launch) (G : UG) (σ0 : St) (a1 : Int) (r : Int)  (h : f_X10_wayLong σ0 a1 = some r) : Met l yX10_wayLong (.code yX10_wayLong cX10_wayLong 4 (Option.some Jvm.ClassFile.FieldType.int) :: TB) { frames := 2, cells := 0, slots := 0, locals := 48 } (uvPc G σ0 [.ref (G.2.2.1 118), .int (iV a1)]) (uvQi G r σ0) 0 0 (uvA G) := by
  unfold f_X10_wayLong at h
  refine r_met (own := RX10) (lv := [(0, .ref (G.2.2.1 118)), (1, .int (iV a1))]) (by decide) rfl (Nat.le_of_ble_eq_true rfl) rfl ?_
  intro p e s m below meth c ls X Y V hl
  have go : ∀ (args : Array Value) (H : Heap) (locs : List Loc), uvCx p m c cX10_wayLong 4 RX10 s args meth (Option.some Jvm.ClassFile.FieldType.int) → uvWo G σ0 s H locs → W p l e { frames := 2, cells := 0, slots := 0, locals := 48 } s m args below meth c H locs 0 0 (MQ below (uvQi G r σ0) args s 0 0 (uvA G)) (F0 m 0 ls []) := by
    intro args H locs X V
    refine r_ic X dX10_wayLong_0 ?_
    refine r_isn (lv' := [(2, .int (iV 0)), (0, .ref (G.2.2.1 118)), (1, .int (iV a1))]) X dX10_wayLong_1 rfl hl (by decide) rfl (fun ls hl => ?_)
    refine r_ic X dX10_wayLong_2 ?_
    refine r_isn (lv' := [(3, .int (iV 0)), (2, .int (iV 0)), (0, .ref (G.2.2.1 118)), (1, .int (iV a1))]) X dX10_wayLong_3 rfl hl (by decide) rfl (fun ls hl => ?_)
    refine wl_X10_wayLong_4 X Y σ0 a1  r _ (fun y8 H locs ls V hl h => ?_) 1000 0 0 _ _ _ V (lv_sub hl [2, 3, 1, 0] rfl) h
    refine r_iln X dX10_wayLong_44 rfl (lv_at hl 0 rfl) ?_
    exact r_ri X V (so1 h) rfl dX10_wayLong_45
  exact go _ _ _ X V

set_option maxRecDepth 100000 in
set_option maxHeartbeats 4000000 in
theorem wl_X10_goesAlong_5 {p : Program} {l : Launch} {e : Env} {s : State} {m : MethodId} {args : Array Value} {below : List Frame} {meth : Method} {c : Code} {G : UG} (X : uvCx p m c cX10_goesAlong 5 RX10 s args meth (Option.some Jvm.ClassFile.FieldType.int)) (Y : uvGd G s s.heap) (σ0 : St) (x1 : Int) (x2 : Int)  (r : Int) (kx : Int → Option Int) (hkx : ∀ (x4 : Int) (H : Heap) (locs : List Loc) (ls : Array Slot), uvWo G σ0 s H locs → lv_has ls 5 [(4, .int (iV x4))] → kx x4 = some r → W p l e { frames := 2, cells := 0, slots := 0, locals := 48 } s m args below meth c H locs 0 0 (MQ below (uvQi G r σ0) args s 0 0 (uvA G)) (F0 m 60 ls [])) : ∀ (n : Nat) (x3 : Int) (x4 : Int) (H : Heap) (locs : List Loc) (ls : Array Slot), uvWo G σ0 s H locs → lv_has ls 5 [(0, .ref (G.2.2.1 118)), (1, .int (iV x1)), (2, .int (iV x2)), (3, .int (iV x3)), (4, .int (iV x4))] → lp_X10_goesAlong_5 σ0 x1 x2 kx n x3 x4 = some r → W p l e { frames := 2, cells := 0, slots := 0, locals := 48 } s m args below meth c H locs 0 0 (MQ below (uvQi G r σ0) args s 0 0 (uvA G)) (F0 m 5 ls []) := by
  intro n
  induction n with
  | zero => intro x3 x4 H locs ls V hl h; cases h
  | succ n ih =>
    intro x3 x4 H locs ls V hl h
    rw [lp_X10_goesAlong_5] at h
    refine r_aln X dX10_goesAlong_5 rfl (lv_at hl 0 rfl) ?_
    refine r_gr X Y V ci_10 kd_118 6 rfl rfl (by decide) rfl rfl wd_859 dX10_goesAlong_6 ?_
    refine r_iln X dX10_goesAlong_9 rfl (lv_at hl 3 rfl) ?_
    obtain ⟨v1, hv1, hiv1, h⟩ := rdA_ex h
    refine r_ial X Y V kd_122 ln_122 hiv1 hv1 dX10_goesAlong_10 ?_
    refine r_eq (cx := wI v1) (tgt := 60) X rfl dX10_goesAlong_11 (by decide) (fun c2 => ?_) (fun c2 => ?_)
    · replace h := ite_t c2 h
      exact hkx x4 _ _ _ V (lv_sub hl [4] rfl) h
    · replace h := ite_f c2 h
      refine r_aln X dX10_goesAlong_14 rfl (lv_at hl 0 rfl) ?_
      refine r_iln X dX10_goesAlong_15 rfl (lv_at hl 3 rfl) ?_
      refine r_iln X dX10_goesAlong_16 rfl (lv_at hl 1 rfl) ?_
      obtain ⟨v3, hv3, h⟩ := bd1_ex h
      refine r_kz V (r_runV (As := [.int (iV x3), .int (iV x1)]) (rest := []) X Y V (c_X10_unitAnswers l G σ0 x3 x1 _  hv3) mv_X10_unitAnswers wd_1113 ci_10 kd_118 ⟨rfl, rfl, Nat.le_of_ble_eq_true rfl, Nat.le_of_ble_eq_true rfl⟩ rfl rfl hl.1 (Nat.le_of_ble_eq_true rfl) ⟨Nat.le_refl 0, Nat.le_refl 0⟩ dX10_goesAlong_17) (fun H locs V z4 => ?_)
      refine r_aln X dX10_goesAlong_20 rfl (lv_at hl 0 rfl) ?_
      refine r_iln X dX10_goesAlong_21 rfl (lv_at hl 3 rfl) ?_
      refine r_iln X dX10_goesAlong_22 rfl (lv_at hl 2 rfl) ?_
      obtain ⟨v5, hv5, h⟩ := bd1_ex h
      refine r_kz V (r_runV (As := [.int (iV x3), .int (iV x2)]) (rest := [.int (iV v3)]) X Y V (c_X10_targetAnswers l G σ0 x3 x2 _  hv5) mv_X10_targetAnswers wd_1121 ci_10 kd_118 ⟨rfl, rfl, Nat.le_of_ble_eq_true rfl, Nat.le_of_ble_eq_true rfl⟩ rfl rfl hl.1 (Nat.le_of_ble_eq_true rfl) ⟨Nat.le_refl 0, Nat.le_refl 0⟩ dX10_goesAlong_23) (fun H locs V z6 => ?_)
      refine r_cne (cx := v3) (cy := v5) (tgt := 60) X (wI_01 z4) (wI_01 z6) dX10_goesAlong_26 (by decide) (fun c7 => ?_) (fun c7 => ?_)
      · replace h := ite_t c7 h
        refine r_aln X dX10_goesAlong_29 rfl (lv_at hl 0 rfl) ?_
        refine r_iln X dX10_goesAlong_30 rfl (lv_at hl 3 rfl) ?_
        refine r_iln X dX10_goesAlong_31 rfl (lv_at hl 2 rfl) ?_
        obtain ⟨v8, hv8, h⟩ := bd1_ex h
        refine r_kz V (r_runV (As := [.int (iV x3), .int (iV x2)]) (rest := []) X Y V (c_X10_targetAnswers l G σ0 x3 x2 _  hv8) mv_X10_targetAnswers wd_1121 ci_10 kd_118 ⟨rfl, rfl, Nat.le_of_ble_eq_true rfl, Nat.le_of_ble_eq_true rfl⟩ rfl rfl hl.1 (Nat.le_of_ble_eq_true rfl) ⟨Nat.le_refl 0, Nat.le_refl 0⟩ dX10_goesAlong_32) (fun H locs V z9 => ?_)
        refine r_eq (cx := v8) (tgt := 47) X (wI_01 z9) dX10_goesAlong_35 (by decide) (fun c10 => ?_) (fun c10 => ?_)
        · replace h := ite_t c10 h
          refine r_aln X dX10_goesAlong_47 rfl (lv_at hl 0 rfl) ?_
          refine r_gr X Y V ci_10 kd_118 9 rfl rfl (by decide) rfl rfl wd_862 dX10_goesAlong_48 ?_
          refine r_iln X dX10_goesAlong_51 rfl (lv_at hl 3 rfl) ?_
          obtain ⟨v11, hv11, hiv11, h⟩ := rdA_ex h
          refine r_ial X Y V kd_125 ln_125 hiv11 hv11 dX10_goesAlong_52 ?_
          refine r_isn (lv' := [(3, .int (iV v11)), (0, .ref (G.2.2.1 118)), (1, .int (iV x1)), (2, .int (iV x2)), (4, .int (iV x4))]) X dX10_goesAlong_53 rfl hl (by decide) rfl (fun ls hl => ?_)
          refine r_inc (kk := 4) (lv' := [(4, .int (iV (x4 + 1))), (3, .int (iV v11)), (0, .ref (G.2.2.1 118)), (1, .int (iV x1)), (2, .int (iV x2))]) X dX10_goesAlong_54 hl rfl (by decide) rfl (fun ls hl => ?_)
          refine r_goto (tgt := 5) X dX10_goesAlong_57 (by decide) ?_
          exact ih v11 (x4 + 1) _ _ _ V (lv_sub hl [2, 3, 4, 1, 0] rfl) h
        · replace h := ite_f c10 h
          refine r_aln X dX10_goesAlong_38 rfl (lv_at hl 0 rfl) ?_
          refine r_gr X Y V ci_10 kd_118 8 rfl rfl (by decide) rfl rfl wd_861 dX10_goesAlong_39 ?_
          refine r_iln X dX10_goesAlong_42 rfl (lv_at hl 3 rfl) ?_
          obtain ⟨v12, hv12, hiv12, h⟩ := rdA_ex h
          refine r_ial X Y V kd_124 ln_124 hiv12 hv12 dX10_goesAlong_43 ?_
          refine r_goto (tgt := 53) X dX10_goesAlong_44 (by decide) ?_
          refine r_isn (lv' := [(3, .int (iV v12)), (0, .ref (G.2.2.1 118)), (1, .int (iV x1)), (2, .int (iV x2)), (4, .int (iV x4))]) X dX10_goesAlong_53 rfl hl (by decide) rfl (fun ls hl => ?_)
          refine r_inc (kk := 4) (lv' := [(4, .int (iV (x4 + 1))), (3, .int (iV v12)), (0, .ref (G.2.2.1 118)), (1, .int (iV x1)), (2, .int (iV x2))]) X dX10_goesAlong_54 hl rfl (by decide) rfl (fun ls hl => ?_)
          refine r_goto (tgt := 5) X dX10_goesAlong_57 (by decide) ?_
          exact ih v12 (x4 + 1) _ _ _ V (lv_sub hl [2, 3, 4, 1, 0] rfl) h
      · replace h := ite_f c7 h
        exact hkx x4 _ _ _ V (lv_sub hl [4] rfl) h

set_option maxRecDepth 100000 in
set_option maxHeartbeats 4000000 in
theorem c_X10_goesAlong (l : Launch) (G : UG) (σ0 : St) (a1 : Int) (a2 : Int) (r : Int)  (h : f_X10_goesAlong σ0 a1 a2 = some r) : Met l yX10_goesAlong (.code yX10_goesAlong cX10_goesAlong 5 (Option.some Jvm.ClassFile.FieldType.int) :: TB) { frames := 2, cells := 0, slots := 0, locals := 48 } (uvPc G σ0 [.ref (G.2.2.1 118), .int (iV a1), .int (iV a2)]) (uvQi G r σ0) 0 0 (uvA G) := by
  unfold f_X10_goesAlong at h
  refine r_met (own := RX10) (lv := [(0, .ref (G.2.2.1 118)), (1, .int (iV a1)), (2, .int (iV a2))]) (by decide) rfl (Nat.le_of_ble_eq_true rfl) rfl ?_
  intro p e s m below meth c ls X Y V hl
  have go : ∀ (args : Array Value) (H : Heap) (locs : List Loc), uvCx p m c cX10_goesAlong 5 RX10 s args meth (Option.some Jvm.ClassFile.FieldType.int) → uvWo G σ0 s H locs → W p l e { frames := 2, cells := 0, slots := 0, locals := 48 } s m args below meth c H locs 0 0 (MQ below (uvQi G r σ0) args s 0 0 (uvA G)) (F0 m 0 ls []) := by
    intro args H locs X V
    refine r_ic X dX10_goesAlong_0 ?_
    refine r_isn (lv' := [(3, .int (iV 0)), (0, .ref (G.2.2.1 118)), (1, .int (iV a1)), (2, .int (iV a2))]) X dX10_goesAlong_1 rfl hl (by decide) rfl (fun ls hl => ?_)
    refine r_ic X dX10_goesAlong_2 ?_
    refine r_is (lv' := [(4, .int (iV 0)), (3, .int (iV 0)), (0, .ref (G.2.2.1 118)), (1, .int (iV a1)), (2, .int (iV a2))]) X dX10_goesAlong_3 hl (by decide) rfl (fun ls hl => ?_)
    refine wl_X10_goesAlong_5 X Y σ0 a1 a2  r _ (fun y13 H locs ls V hl h => ?_) 1000 0 0 _ _ _ V (lv_sub hl [2, 3, 4, 1, 0] rfl) h
    refine r_il X dX10_goesAlong_60 (lv_at hl 0 rfl) ?_
    exact r_ri X V (so1 h) rfl dX10_goesAlong_62
  exact go _ _ _ X V

set_option maxRecDepth 100000 in
set_option maxHeartbeats 4000000 in
theorem wj_X10_chooses_110 {p : Program} {l : Launch} {e : Env} {s : State} {m : MethodId} {args : Array Value} {below : List Frame} {meth : Method} {c : Code} {G : UG} (X : uvCx p m c cX10_chooses 9 RX10 s args meth (Option.some Jvm.ClassFile.FieldType.boolean)) (Y : uvGd G s s.heap) (kb : St → Int → Int → Option (Int × St)) (r : Int) (σ' : St) (σ : St) (x1 : Int) (x2 : Int) (x3 : Int) (x4 : Int) (x5 : Int) (x6 : Int) (t0 : Int)  (hkb : ∀ (σ : St) (m5 : Int) (m6 : Int) (H : Heap) (locs : List Loc) (ls : Array Slot), uvWo G σ s H locs → lv_has ls 9 [(0, .ref (G.2.2.1 118)), (1, .int (iV x1)), (2, .int (iV x2)), (3, .int (iV x3)), (4, .int (iV x4)), (5, .int (iV m5)), (6, .int (iV m6))] → kb σ m5 m6 = some (r, σ') → W p l e { frames := 3, cells := 0, slots := 0, locals := 72 } s m args below meth c H locs 0 0 (MQ below (uvQz G r σ') args s 0 0 (uvA G)) (F0 m 58 ls [])) (H : Heap) (locs : List Loc) (ls : Array Slot) (V : uvWo G σ s H locs) (hl : lv_has ls 9 [(0, .ref (G.2.2.1 118)), (1, .int (iV x1)), (2, .int (iV x2)), (3, .int (iV x3)), (4, .int (iV x4)), (5, .int (iV x5)), (6, .int (iV x6))]) (h : jn_X10_chooses_110 kb σ x1 x2 x3 x4 x5 x6 t0 = some (r, σ')) : W p l e { frames := 3, cells := 0, slots := 0, locals := 72 } s m args below meth c H locs 0 0 (MQ below (uvQz G r σ') args s 0 0 (uvA G)) (F0 m 110 ls [.int (iV t0)]) := by
  unfold jn_X10_chooses_110 at h
  refine r_is (lv' := [(8, .int (iV t0)), (0, .ref (G.2.2.1 118)), (1, .int (iV x1)), (2, .int (iV x2)), (3, .int (iV x3)), (4, .int (iV x4)), (5, .int (iV x5)), (6, .int (iV x6))]) X dX10_chooses_110 hl (by decide) rfl (fun ls hl => ?_)
  refine r_il X dX10_chooses_112 (lv_at hl 0 rfl) ?_
  refine r_il X dX10_chooses_114 (lv_at hl 6 rfl) ?_
  have J11 : W p l e { frames := 3, cells := 0, slots := 0, locals := 72 } s m args below meth c H locs 0 0 (MQ below (uvQz G r σ') args s 0 0 (uvA G)) (F0 m 126 ls [.int (iV (if wI x5 < wI t0 then t0 else x5))]) := by
    obtain ⟨v12, hv12, h⟩ := bnd_ex h
    refine r_eqI hv12 ?_
    refine r_is (lv' := [(5, .int (iV v12)), (8, .int (iV t0)), (0, .ref (G.2.2.1 118)), (1, .int (iV x1)), (2, .int (iV x2)), (3, .int (iV x3)), (4, .int (iV x4)), (6, .int (iV x6))]) X dX10_chooses_126 hl (by decide) rfl (fun ls hl => ?_)
    refine r_inc (kk := 7) (lv' := [(6, .int (iV (x6 + 1))), (5, .int (iV v12)), (8, .int (iV t0)), (0, .ref (G.2.2.1 118)), (1, .int (iV x1)), (2, .int (iV x2)), (3, .int (iV x3)), (4, .int (iV x4))]) X dX10_chooses_128 hl rfl (by decide) rfl (fun ls hl => ?_)
    refine r_goto (tgt := 58) X dX10_chooses_131 (by decide) ?_
    exact hkb σ v12 (x6 + 1) _ _ _ V (lv_sub hl [3, 4, 5, 6, 7, 1, 0] rfl) h
  refine r_cle (cx := wI t0) (cy := wI x5) (tgt := 124) X rfl rfl dX10_chooses_116 (by decide) (fun c13 => ?_) (fun c13 => ?_)
  · skip
    refine r_il X dX10_chooses_119 (lv_at hl 0 rfl) ?_
    refine r_goto (tgt := 126) X dX10_chooses_121 (by decide) ?_
    rw [if_pos c13] at J11
    exact J11
  · skip
    refine r_il X dX10_chooses_124 (lv_at hl 6 rfl) ?_
    rw [if_neg c13] at J11
    exact J11

set_option maxRecDepth 100000 in
set_option maxHeartbeats 4000000 in
theorem wj_X10_chooses_92 {p : Program} {l : Launch} {e : Env} {s : State} {m : MethodId} {args : Array Value} {below : List Frame} {meth : Method} {c : Code} {G : UG} (X : uvCx p m c cX10_chooses 9 RX10 s args meth (Option.some Jvm.ClassFile.FieldType.boolean)) (Y : uvGd G s s.heap) (kb : St → Int → Int → Option (Int × St)) (r : Int) (σ' : St) (σ : St) (x1 : Int) (x2 : Int) (x3 : Int) (x4 : Int) (x5 : Int) (x6 : Int) (t0 : Int)  (hkb : ∀ (σ : St) (m5 : Int) (m6 : Int) (H : Heap) (locs : List Loc) (ls : Array Slot), uvWo G σ s H locs → lv_has ls 9 [(0, .ref (G.2.2.1 118)), (1, .int (iV x1)), (2, .int (iV x2)), (3, .int (iV x3)), (4, .int (iV x4)), (5, .int (iV m5)), (6, .int (iV m6))] → kb σ m5 m6 = some (r, σ') → W p l e { frames := 3, cells := 0, slots := 0, locals := 72 } s m args below meth c H locs 0 0 (MQ below (uvQz G r σ') args s 0 0 (uvA G)) (F0 m 58 ls [])) (H : Heap) (locs : List Loc) (ls : Array Slot) (V : uvWo G σ s H locs) (hl : lv_has ls 9 [(0, .ref (G.2.2.1 118)), (1, .int (iV x1)), (2, .int (iV x2)), (3, .int (iV x3)), (4, .int (iV x4)), (5, .int (iV x5)), (6, .int (iV x6))]) (h : jn_X10_chooses_92 kb σ x1 x2 x3 x4 x5 x6 t0 = some (r, σ')) : W p l e { frames := 3, cells := 0, slots := 0, locals := 72 } s m args below meth c H locs 0 0 (MQ below (uvQz G r σ') args s 0 0 (uvA G)) (F0 m 92 ls [.int (iV t0)]) := by
  unfold jn_X10_chooses_92 at h
  refine r_is (lv' := [(7, .int (iV t0)), (0, .ref (G.2.2.1 118)), (1, .int (iV x1)), (2, .int (iV x2)), (3, .int (iV x3)), (4, .int (iV x4)), (5, .int (iV x5)), (6, .int (iV x6))]) X dX10_chooses_92 hl (by decide) rfl (fun ls hl => ?_)
  refine r_il X dX10_chooses_94 (lv_at hl 0 rfl) ?_
  refine r_eq (cx := wI t0) (tgt := 109) X rfl dX10_chooses_96 (by decide) (fun c10 => ?_) (fun c10 => ?_)
  · replace h := ite_t c10 h
    refine r_ic X dX10_chooses_109 ?_
    exact wj_X10_chooses_110 X Y _ r σ' σ x1 x2 x3 x4 x5 x6 (-1)  (fun σ m5 m6 H locs ls V hl h => hkb σ m5 m6 H locs ls V hl h) _ _ _ V (lv_sub hl [1, 2, 3, 4, 5, 6, 7] rfl) h
  · replace h := ite_f c10 h
    refine r_aln X dX10_chooses_99 rfl (lv_at hl 1 rfl) ?_
    refine r_il X dX10_chooses_100 (lv_at hl 7 rfl) ?_
    refine r_iln X dX10_chooses_102 rfl (lv_at hl 2 rfl) ?_
    obtain ⟨v14, hv14, h⟩ := bd1_ex h
    refine r_ki V (r_runV (As := [.int (iV x6), .int (iV x1)]) (rest := []) X Y V (c_X10_goesAlong l G σ x6 x1 _  hv14) mv_X10_goesAlong wd_1142 ci_10 kd_118 ⟨rfl, rfl, Nat.le_of_ble_eq_true rfl, Nat.le_of_ble_eq_true rfl⟩ rfl rfl hl.1 (Nat.le_of_ble_eq_true rfl) ⟨Nat.le_refl 0, Nat.le_refl 0⟩ dX10_chooses_103) (fun H locs V => ?_)
    refine r_goto (tgt := 110) X dX10_chooses_106 (by decide) ?_
    exact wj_X10_chooses_110 X Y _ r σ' σ x1 x2 x3 x4 x5 x6 v14  (fun σ m5 m6 H locs ls V hl h => hkb σ m5 m6 H locs ls V hl h) _ _ _ V (lv_sub hl [1, 2, 3, 4, 5, 6, 7] rfl) h

set_option maxRecDepth 100000 in
set_option maxHeartbeats 4000000 in
theorem wl_X10_chooses_58 {p : Program} {l : Launch} {e : Env} {s : State} {m : MethodId} {args : Array Value} {below : List Frame} {meth : Method} {c : Code} {G : UG} (X : uvCx p m c cX10_chooses 9 RX10 s args meth (Option.some Jvm.ClassFile.FieldType.boolean)) (Y : uvGd G s s.heap) (x1 : Int) (x2 : Int) (x3 : Int) (x4 : Int)  (r : Int) (σ' : St) (kx : St → Int → Option (Int × St)) (hkx : ∀ (σ : St) (x5 : Int) (H : Heap) (locs : List Loc) (ls : Array Slot), uvWo G σ s H locs → lv_has ls 9 [(0, .ref (G.2.2.1 118)), (1, .int (iV x1)), (2, .int (iV x2)), (3, .int (iV x3)), (4, .int (iV x4)), (5, .int (iV x5))] → kx σ x5 = some (r, σ') → W p l e { frames := 3, cells := 0, slots := 0, locals := 72 } s m args below meth c H locs 0 0 (MQ below (uvQz G r σ') args s 0 0 (uvA G)) (F0 m 134 ls [])) : ∀ (n : Nat) (σ : St) (x5 : Int) (x6 : Int) (H : Heap) (locs : List Loc) (ls : Array Slot), uvWo G σ s H locs → lv_has ls 9 [(0, .ref (G.2.2.1 118)), (1, .int (iV x1)), (2, .int (iV x2)), (3, .int (iV x3)), (4, .int (iV x4)), (5, .int (iV x5)), (6, .int (iV x6))] → lp_X10_chooses_58 x1 x2 x3 x4 kx n σ x5 x6 = some (r, σ') → W p l e { frames := 3, cells := 0, slots := 0, locals := 72 } s m args below meth c H locs 0 0 (MQ below (uvQz G r σ') args s 0 0 (uvA G)) (F0 m 58 ls []) := by
  intro n
  induction n with
  | zero => intro σ x5 x6 H locs ls V hl h; cases h
  | succ n ih =>
    intro σ x5 x6 H locs ls V hl h
    rw [lp_X10_chooses_58] at h
    refine r_il X dX10_chooses_58 (lv_at hl 6 rfl) ?_
    refine r_aln X dX10_chooses_60 rfl (lv_at hl 0 rfl) ?_
    refine r_gi (kI := 1) X Y V ci_10 kd_118 1 rfl (by decide) rfl rfl wd_854 dX10_chooses_61 ?_
    refine r_cge (cx := wI x6) (cy := wI (σ 118 1)) (tgt := 134) X rfl rfl dX10_chooses_64 (by decide) (fun c8 => ?_) (fun c8 => ?_)
    · replace h := ite_t c8 h
      refine r_il X dX10_chooses_67 (lv_at hl 6 rfl) ?_
      refine r_aln X dX10_chooses_69 rfl (lv_at hl 0 rfl) ?_
      refine r_gi (kI := 27) X Y V ci_10 kd_118 27 rfl (by decide) rfl rfl wd_880 dX10_chooses_70 ?_
      refine r_ceq (cx := wI x6) (cy := wI (σ 118 27)) (tgt := 91) X rfl rfl dX10_chooses_73 (by decide) (fun c9 => ?_) (fun c9 => ?_)
      · replace h := ite_t c9 h
        refine r_ic X dX10_chooses_91 ?_
        exact wj_X10_chooses_92 X Y _ r σ' σ x1 x2 x3 x4 x5 x6 0  (fun σ m5 m6 H locs ls V hl h => ih σ m5 m6 H locs ls V hl h) _ _ _ V (lv_sub hl [0, 1, 2, 3, 4, 5, 6] rfl) h
      · replace h := ite_f c9 h
        refine r_aln X dX10_chooses_76 rfl (lv_at hl 0 rfl) ?_
        refine r_il X dX10_chooses_77 (lv_at hl 6 rfl) ?_
        refine r_ic X dX10_chooses_79 ?_
        obtain ⟨v15, hv15, h⟩ := bd1_ex h
        refine r_ki V (r_runV (As := [.int (iV x6), .int (iV 0)]) (rest := []) X Y V (c_X10_at l G σ x6 0 _  hv15) mv_X10_at wd_1008 ci_10 kd_118 ⟨rfl, rfl, Nat.le_of_ble_eq_true rfl, Nat.le_of_ble_eq_true rfl⟩ rfl rfl hl.1 (Nat.le_of_ble_eq_true rfl) ⟨Nat.le_refl 0, Nat.le_refl 0⟩ dX10_chooses_80) (fun H locs V => ?_)
        refine r_iln X dX10_chooses_83 rfl (lv_at hl 2 rfl) ?_
        have J16 : W p l e { frames := 3, cells := 0, slots := 0, locals := 72 } s m args below meth c H locs 0 0 (MQ below (uvQz G r σ') args s 0 0 (uvA G)) (F0 m 92 ls [.int (iV (if wI v15 = wI x2 then 1 else 0))]) := by
          exact wj_X10_chooses_92 X Y _ r σ' σ x1 x2 x3 x4 x5 x6 (if wI v15 = wI x2 then 1 else 0)  (fun σ m5 m6 H locs ls V hl h => ih σ m5 m6 H locs ls V hl h) _ _ _ V (lv_sub hl [0, 1, 2, 3, 4, 5, 6] rfl) h
        refine r_cne (cx := wI v15) (cy := wI x2) (tgt := 91) X rfl rfl dX10_chooses_84 (by decide) (fun c17 => ?_) (fun c17 => ?_)
        · skip
          refine r_ic X dX10_chooses_87 ?_
          refine r_goto (tgt := 92) X dX10_chooses_88 (by decide) ?_
          rw [if_pos c17] at J16
          exact J16
        · skip
          refine r_ic X dX10_chooses_91 ?_
          rw [if_neg c17] at J16
          exact J16
    · replace h := ite_f c8 h
      exact hkx σ x5 _ _ _ V (lv_sub hl [0, 1, 2, 3, 4, 5] rfl) h

set_option maxRecDepth 100000 in
set_option maxHeartbeats 4000000 in
theorem wl_X10_chooses_146 {p : Program} {l : Launch} {e : Env} {s : State} {m : MethodId} {args : Array Value} {below : List Frame} {meth : Method} {c : Code} {G : UG} (X : uvCx p m c cX10_chooses 9 RX10 s args meth (Option.some Jvm.ClassFile.FieldType.boolean)) (Y : uvGd G s s.heap) (x1 : Int) (x2 : Int) (x4 : Int) (x5 : Int)  (r : Int) (σ' : St) (kx : St → Int → Option (Int × St)) (hkx : ∀ (σ : St) (x6 : Int) (H : Heap) (locs : List Loc) (ls : Array Slot), uvWo G σ s H locs → lv_has ls 9 [(0, .ref (G.2.2.1 118)), (1, .int (iV x1)), (4, .int (iV x4)), (5, .int (iV x5)), (6, .int (iV x6))] → kx σ x6 = some (r, σ') → W p l e { frames := 3, cells := 0, slots := 0, locals := 72 } s m args below meth c H locs 0 0 (MQ below (uvQz G r σ') args s 0 0 (uvA G)) (F0 m 210 ls [])) : ∀ (n : Nat) (σ : St) (x6 : Int) (x7 : Int) (H : Heap) (locs : List Loc) (ls : Array Slot), uvWo G σ s H locs → lv_has ls 9 [(0, .ref (G.2.2.1 118)), (1, .int (iV x1)), (2, .int (iV x2)), (4, .int (iV x4)), (5, .int (iV x5)), (6, .int (iV x6)), (7, .int (iV x7))] → lp_X10_chooses_146 x1 x2 x4 x5 kx n σ x6 x7 = some (r, σ') → W p l e { frames := 3, cells := 0, slots := 0, locals := 72 } s m args below meth c H locs 0 0 (MQ below (uvQz G r σ') args s 0 0 (uvA G)) (F0 m 146 ls []) := by
  intro n
  induction n with
  | zero => intro σ x6 x7 H locs ls V hl h; cases h
  | succ n ih =>
    intro σ x6 x7 H locs ls V hl h
    rw [lp_X10_chooses_146] at h
    refine r_il X dX10_chooses_146 (lv_at hl 6 rfl) ?_
    refine r_aln X dX10_chooses_148 rfl (lv_at hl 0 rfl) ?_
    refine r_gi (kI := 1) X Y V ci_10 kd_118 1 rfl (by decide) rfl rfl wd_854 dX10_chooses_149 ?_
    refine r_cge (cx := wI x7) (cy := wI (σ 118 1)) (tgt := 210) X rfl rfl dX10_chooses_152 (by decide) (fun c23 => ?_) (fun c23 => ?_)
    · replace h := ite_t c23 h
      refine r_il X dX10_chooses_155 (lv_at hl 6 rfl) ?_
      refine r_aln X dX10_chooses_157 rfl (lv_at hl 0 rfl) ?_
      refine r_gi (kI := 27) X Y V ci_10 kd_118 27 rfl (by decide) rfl rfl wd_880 dX10_chooses_158 ?_
      refine r_ceq (cx := wI x7) (cy := wI (σ 118 27)) (tgt := 204) X rfl rfl dX10_chooses_161 (by decide) (fun c24 => ?_) (fun c24 => ?_)
      · replace h := ite_t c24 h
        refine r_inc (kk := 6) (lv' := [(7, .int (iV (x7 + 1))), (0, .ref (G.2.2.1 118)), (1, .int (iV x1)), (2, .int (iV x2)), (4, .int (iV x4)), (5, .int (iV x5)), (6, .int (iV x6))]) X dX10_chooses_204 hl rfl (by decide) rfl (fun ls hl => ?_)
        refine r_goto (tgt := 146) X dX10_chooses_207 (by decide) ?_
        exact ih σ x6 (x7 + 1) _ _ _ V (lv_sub hl [1, 2, 3, 4, 5, 6, 0] rfl) h
      · replace h := ite_f c24 h
        refine r_aln X dX10_chooses_164 rfl (lv_at hl 0 rfl) ?_
        refine r_il X dX10_chooses_165 (lv_at hl 6 rfl) ?_
        refine r_ic X dX10_chooses_167 ?_
        obtain ⟨v25, hv25, h⟩ := bd1_ex h
        refine r_ki V (r_runV (As := [.int (iV x7), .int (iV 0)]) (rest := []) X Y V (c_X10_at l G σ x7 0 _  hv25) mv_X10_at wd_1008 ci_10 kd_118 ⟨rfl, rfl, Nat.le_of_ble_eq_true rfl, Nat.le_of_ble_eq_true rfl⟩ rfl rfl hl.1 (Nat.le_of_ble_eq_true rfl) ⟨Nat.le_refl 0, Nat.le_refl 0⟩ dX10_chooses_168) (fun H locs V => ?_)
        refine r_iln X dX10_chooses_171 rfl (lv_at hl 2 rfl) ?_
        refine r_cne (cx := wI v25) (cy := wI x2) (tgt := 204) X rfl rfl dX10_chooses_172 (by decide) (fun c26 => ?_) (fun c26 => ?_)
        · replace h := ite_t c26 h
          refine r_aln X dX10_chooses_175 rfl (lv_at hl 0 rfl) ?_
          refine r_il X dX10_chooses_176 (lv_at hl 6 rfl) ?_
          refine r_iln X dX10_chooses_178 rfl (lv_at hl 1 rfl) ?_
          obtain ⟨v27, hv27, h⟩ := bd1_ex h
          refine r_ki V (r_runV (As := [.int (iV x7), .int (iV x1)]) (rest := []) X Y V (c_X10_goesAlong l G σ x7 x1 _  hv27) mv_X10_goesAlong wd_1142 ci_10 kd_118 ⟨rfl, rfl, Nat.le_of_ble_eq_true rfl, Nat.le_of_ble_eq_true rfl⟩ rfl rfl hl.1 (Nat.le_of_ble_eq_true rfl) ⟨Nat.le_refl 0, Nat.le_refl 0⟩ dX10_chooses_179) (fun H locs V => ?_)
          refine r_il X dX10_chooses_182 (lv_at hl 4 rfl) ?_
          refine r_cne (cx := wI v27) (cy := wI x5) (tgt := 204) X rfl rfl dX10_chooses_184 (by decide) (fun c28 => ?_) (fun c28 => ?_)
          · replace h := ite_t c28 h
            refine r_aln X dX10_chooses_187 rfl (lv_at hl 0 rfl) ?_
            refine r_gr X Y V ci_10 kd_118 25 rfl rfl (by decide) rfl rfl wd_878 dX10_chooses_188 ?_
            refine r_bp X dX10_chooses_191 (by decide) ?_
            refine r_iln X dX10_chooses_193 rfl (lv_at hl 1 rfl) ?_
            refine r_imul X dX10_chooses_194 ?_
            refine r_il X dX10_chooses_195 (lv_at hl 5 rfl) ?_
            refine r_iadd X dX10_chooses_197 ?_
            refine r_il X dX10_chooses_198 (lv_at hl 6 rfl) ?_
            obtain ⟨σ29, hσ29, hiσ29, h⟩ := wrA_ex h
            refine r_ias X Y V kd_135 ln_135 hiσ29 hσ29 dX10_chooses_200 (fun H locs V => ?_)
            refine r_inc (kk := 5) (lv' := [(6, .int (iV (x6 + 1))), (0, .ref (G.2.2.1 118)), (1, .int (iV x1)), (2, .int (iV x2)), (4, .int (iV x4)), (5, .int (iV x5)), (7, .int (iV x7))]) X dX10_chooses_201 hl rfl (by decide) rfl (fun ls hl => ?_)
            refine r_inc (kk := 6) (lv' := [(7, .int (iV (x7 + 1))), (6, .int (iV (x6 + 1))), (0, .ref (G.2.2.1 118)), (1, .int (iV x1)), (2, .int (iV x2)), (4, .int (iV x4)), (5, .int (iV x5))]) X dX10_chooses_204 hl rfl (by decide) rfl (fun ls hl => ?_)
            refine r_goto (tgt := 146) X dX10_chooses_207 (by decide) ?_
            exact ih σ29 (x6 + 1) (x7 + 1) _ _ _ V (lv_sub hl [2, 3, 4, 5, 6, 1, 0] rfl) h
          · replace h := ite_f c28 h
            refine r_inc (kk := 6) (lv' := [(7, .int (iV (x7 + 1))), (0, .ref (G.2.2.1 118)), (1, .int (iV x1)), (2, .int (iV x2)), (4, .int (iV x4)), (5, .int (iV x5)), (6, .int (iV x6))]) X dX10_chooses_204 hl rfl (by decide) rfl (fun ls hl => ?_)
            refine r_goto (tgt := 146) X dX10_chooses_207 (by decide) ?_
            exact ih σ x6 (x7 + 1) _ _ _ V (lv_sub hl [1, 2, 3, 4, 5, 6, 0] rfl) h
        · replace h := ite_f c26 h
          refine r_inc (kk := 6) (lv' := [(7, .int (iV (x7 + 1))), (0, .ref (G.2.2.1 118)), (1, .int (iV x1)), (2, .int (iV x2)), (4, .int (iV x4)), (5, .int (iV x5)), (6, .int (iV x6))]) X dX10_chooses_204 hl rfl (by decide) rfl (fun ls hl => ?_)
          refine r_goto (tgt := 146) X dX10_chooses_207 (by decide) ?_
          exact ih σ x6 (x7 + 1) _ _ _ V (lv_sub hl [1, 2, 3, 4, 5, 6, 0] rfl) h
    · replace h := ite_f c23 h
      exact hkx σ x6 _ _ _ V (lv_sub hl [0, 1, 3, 4, 5] rfl) h

set_option maxRecDepth 100000 in
set_option maxHeartbeats 4000000 in
theorem wl_X10_chooses_28 {p : Program} {l : Launch} {e : Env} {s : State} {m : MethodId} {args : Array Value} {below : List Frame} {meth : Method} {c : Code} {G : UG} (X : uvCx p m c cX10_chooses 9 RX10 s args meth (Option.some Jvm.ClassFile.FieldType.boolean)) (Y : uvGd G s s.heap) (x1 : Int) (x4 : Int)  (r : Int) (σ' : St) (kx : St → Option (Int × St)) (hkx : ∀ (σ : St)  (H : Heap) (locs : List Loc) (ls : Array Slot), uvWo G σ s H locs → lv_has ls 9 [] → kx σ  = some (r, σ') → W p l e { frames := 3, cells := 0, slots := 0, locals := 72 } s m args below meth c H locs 0 0 (MQ below (uvQz G r σ') args s 0 0 (uvA G)) (F0 m 257 ls [])) : ∀ (n : Nat) (σ : St) (x2 : Int) (x3 : Int) (H : Heap) (locs : List Loc) (ls : Array Slot), uvWo G σ s H locs → lv_has ls 9 [(0, .ref (G.2.2.1 118)), (1, .int (iV x1)), (2, .int (iV x2)), (3, .int (iV x3)), (4, .int (iV x4))] → lp_X10_chooses_28 x1 x4 kx n σ x2 x3 = some (r, σ') → W p l e { frames := 3, cells := 0, slots := 0, locals := 72 } s m args below meth c H locs 0 0 (MQ below (uvQz G r σ') args s 0 0 (uvA G)) (F0 m 28 ls []) := by
  intro n
  induction n with
  | zero => intro σ x2 x3 H locs ls V hl h; cases h
  | succ n ih =>
    intro σ x2 x3 H locs ls V hl h
    rw [lp_X10_chooses_28] at h
    refine r_iln X dX10_chooses_28 rfl (lv_at hl 3 rfl) ?_
    refine r_iln X dX10_chooses_29 rfl (lv_at hl 2 rfl) ?_
    refine r_ishr X dX10_chooses_30 ?_
    refine r_ic X dX10_chooses_31 ?_
    refine r_iand X dX10_chooses_32 ?_
    refine r_ne (cx := wI (andI (shrI x3 x2) 1)) (tgt := 257) X rfl dX10_chooses_33 (by decide) (fun c5 => ?_) (fun c5 => ?_)
    · replace h := ite_t c5 h
      refine r_ic X dX10_chooses_36 ?_
      refine r_is (lv' := [(5, .int (iV (-1))), (0, .ref (G.2.2.1 118)), (1, .int (iV x1)), (2, .int (iV x2)), (3, .int (iV x3)), (4, .int (iV x4))]) X dX10_chooses_37 hl (by decide) rfl (fun ls hl => ?_)
      refine r_iln X dX10_chooses_39 rfl (lv_at hl 4 rfl) ?_
      refine r_ic X dX10_chooses_40 ?_
      refine r_iln X dX10_chooses_41 rfl (lv_at hl 3 rfl) ?_
      refine r_ishl X dX10_chooses_42 ?_
      refine r_ior X dX10_chooses_43 ?_
      obtain ⟨v6, hv6, h⟩ := bnd_ex h
      refine r_eqI hv6 ?_
      refine r_isn (lv' := [(3, .int (iV v6)), (5, .int (iV (-1))), (0, .ref (G.2.2.1 118)), (1, .int (iV x1)), (2, .int (iV x2)), (4, .int (iV x4))]) X dX10_chooses_44 rfl hl (by decide) rfl (fun ls hl => ?_)
      refine r_aln X dX10_chooses_45 rfl (lv_at hl 2 rfl) ?_
      refine r_dup X dX10_chooses_46 rfl ?_
      refine r_gi (kI := 29) X Y V ci_10 kd_118 29 rfl (by decide) rfl rfl wd_882 dX10_chooses_47 ?_
      refine r_ic X dX10_chooses_50 ?_
      refine r_iadd X dX10_chooses_51 ?_
      obtain ⟨σ7, hσ7, h⟩ := wrF_ex h
      refine r_pi X Y V ci_10 kd_118 29 rfl (by decide) rfl rfl rfl (tyX10_ok 29 (by decide)) wd_882 hσ7 dX10_chooses_52 (fun H locs V => ?_)
      refine r_ic X dX10_chooses_55 ?_
      refine r_is (lv' := [(6, .int (iV 0)), (3, .int (iV v6)), (5, .int (iV (-1))), (0, .ref (G.2.2.1 118)), (1, .int (iV x1)), (2, .int (iV x2)), (4, .int (iV x4))]) X dX10_chooses_56 hl (by decide) rfl (fun ls hl => ?_)
      refine wl_X10_chooses_58 X Y x1 x2 v6 x4  r σ' _ (fun σ18 y19 H locs ls V hl h => ?_) 1000 σ7 (-1) 0 _ _ _ V (lv_sub hl [3, 4, 5, 1, 6, 2, 0] rfl) h
      refine r_il X dX10_chooses_134 (lv_at hl 5 rfl) ?_
      refine r_ic X dX10_chooses_136 ?_
      refine r_ceq (cx := wI y19) (cy := (-1)) (tgt := 234) X rfl rfl dX10_chooses_137 (by decide) (fun c20 => ?_) (fun c20 => ?_)
      · replace h := ite_t c20 h
        refine r_aln X dX10_chooses_234 rfl (lv_at hl 0 rfl) ?_
        refine r_dup X dX10_chooses_235 rfl ?_
        refine r_gi (kI := 28) X Y V ci_10 kd_118 28 rfl (by decide) rfl rfl wd_881 dX10_chooses_236 ?_
        refine r_il X dX10_chooses_239 (lv_at hl 4 rfl) ?_
        refine r_ic X dX10_chooses_241 ?_
        refine r_iadd X dX10_chooses_242 ?_
        refine r_iadd X dX10_chooses_243 ?_
        obtain ⟨σ21, hσ21, h⟩ := wrF_ex h
        refine r_pi X Y V ci_10 kd_118 28 rfl (by decide) rfl rfl rfl (tyX10_ok 28 (by decide)) wd_881 hσ21 dX10_chooses_244 (fun H locs V => ?_)
        refine r_aln X dX10_chooses_247 rfl (lv_at hl 0 rfl) ?_
        refine r_gr X Y V ci_10 kd_118 4 rfl rfl (by decide) rfl rfl wd_857 dX10_chooses_248 ?_
        refine r_iln X dX10_chooses_251 rfl (lv_at hl 2 rfl) ?_
        obtain ⟨v22, hv22, hiv22, h⟩ := rdA_ex h
        refine r_ial X Y V kd_121 ln_121 hiv22 hv22 dX10_chooses_252 ?_
        refine r_isn (lv' := [(2, .int (iV v22)), (0, .ref (G.2.2.1 118)), (1, .int (iV x1)), (3, .int (iV v6)), (4, .int (iV x4)), (5, .int (iV y19))]) X dX10_chooses_253 rfl hl (by decide) rfl (fun ls hl => ?_)
        refine r_goto (tgt := 28) X dX10_chooses_254 (by decide) ?_
        exact ih σ21 v22 v6 _ _ _ V (lv_sub hl [1, 2, 0, 3, 4] rfl) h
      · replace h := ite_f c20 h
        refine r_ic X dX10_chooses_140 ?_
        refine r_is (lv' := [(6, .int (iV 0)), (0, .ref (G.2.2.1 118)), (1, .int (iV x1)), (2, .int (iV x2)), (3, .int (iV v6)), (4, .int (iV x4)), (5, .int (iV y19))]) X dX10_chooses_141 hl (by decide) rfl (fun ls hl => ?_)
        refine r_ic X dX10_chooses_143 ?_
        refine r_is (lv' := [(7, .int (iV 0)), (6, .int (iV 0)), (0, .ref (G.2.2.1 118)), (1, .int (iV x1)), (2, .int (iV x2)), (3, .int (iV v6)), (4, .int (iV x4)), (5, .int (iV y19))]) X dX10_chooses_144 hl (by decide) rfl (fun ls hl => ?_)
        refine wl_X10_chooses_146 X Y x1 x2 x4 y19  r σ' _ (fun σ30 y31 H locs ls V hl h => ?_) 1000 σ18 0 0 _ _ _ V (lv_sub hl [2, 3, 4, 6, 7, 1, 0] rfl) h
        refine r_aln X dX10_chooses_210 rfl (lv_at hl 0 rfl) ?_
        refine r_gr X Y V ci_10 kd_118 26 rfl rfl (by decide) rfl rfl wd_879 dX10_chooses_211 ?_
        refine r_iln X dX10_chooses_214 rfl (lv_at hl 1 rfl) ?_
        refine r_il X dX10_chooses_215 (lv_at hl 4 rfl) ?_
        obtain ⟨σ32, hσ32, hiσ32, h⟩ := wrA_ex h
        refine r_ias X Y V kd_136 ln_136 hiσ32 hσ32 dX10_chooses_217 (fun H locs V => ?_)
        refine r_aln X dX10_chooses_218 rfl (lv_at hl 0 rfl) ?_
        refine r_dup X dX10_chooses_219 rfl ?_
        refine r_gi (kI := 28) X Y V ci_10 kd_118 28 rfl (by decide) rfl rfl wd_881 dX10_chooses_220 ?_
        refine r_il X dX10_chooses_223 (lv_at hl 2 rfl) ?_
        refine r_il X dX10_chooses_225 (lv_at hl 3 rfl) ?_
        refine r_isub X dX10_chooses_227 ?_
        refine r_iadd X dX10_chooses_228 ?_
        obtain ⟨σ33, hσ33, h⟩ := wrF_ex h
        refine r_pi X Y V ci_10 kd_118 28 rfl (by decide) rfl rfl rfl (tyX10_ok 28 (by decide)) wd_881 hσ33 dX10_chooses_229 (fun H locs V => ?_)
        refine r_ic X dX10_chooses_232 ?_
        exact r_rz X V (Or.inr rfl) (so2 h).1 (so2 h).2 dX10_chooses_233
    · replace h := ite_f c5 h
      exact hkx σ  _ _ _ V (lv_sub hl [] rfl) h

set_option maxRecDepth 100000 in
set_option maxHeartbeats 4000000 in
theorem c_X10_chooses (l : Launch) (G : UG) (σ : St) (a1 : Int) (r : Int) (σ' : St)  (h : f_X10_chooses σ a1 = some (r, σ')) : Met l yX10_chooses (.code yX10_chooses cX10_chooses 9 (Option.some Jvm.ClassFile.FieldType.boolean) :: TB) { frames := 3, cells := 0, slots := 0, locals := 72 } (uvPc G σ [.ref (G.2.2.1 118), .int (iV a1)]) (uvQz G r σ') 0 0 (uvA G) := by
  unfold f_X10_chooses at h
  refine r_met (own := RX10) (lv := [(0, .ref (G.2.2.1 118)), (1, .int (iV a1))]) (by decide) rfl (Nat.le_of_ble_eq_true rfl) rfl ?_
  intro p e s m below meth c ls X Y V hl
  have go : ∀ (args : Array Value) (H : Heap) (locs : List Loc), uvCx p m c cX10_chooses 9 RX10 s args meth (Option.some Jvm.ClassFile.FieldType.boolean) → uvWo G σ s H locs → W p l e { frames := 3, cells := 0, slots := 0, locals := 72 } s m args below meth c H locs 0 0 (MQ below (uvQz G r σ') args s 0 0 (uvA G)) (F0 m 0 ls []) := by
    intro args H locs X V
    refine r_aln X dX10_chooses_0 rfl (lv_at hl 0 rfl) ?_
    refine r_gr X Y V ci_10 kd_118 2 rfl rfl (by decide) rfl rfl wd_855 dX10_chooses_1 ?_
    refine r_ic X dX10_chooses_4 ?_
    refine r_iln X dX10_chooses_5 rfl (lv_at hl 1 rfl) ?_
    refine r_imul X dX10_chooses_6 ?_
    obtain ⟨v1, hv1, hiv1, h⟩ := rdA_ex h
    refine r_ial X Y V kd_120 ln_120 hiv1 hv1 dX10_chooses_7 ?_
    refine r_isn (lv' := [(2, .int (iV v1)), (0, .ref (G.2.2.1 118)), (1, .int (iV a1))]) X dX10_chooses_8 rfl hl (by decide) rfl (fun ls hl => ?_)
    refine r_ic X dX10_chooses_9 ?_
    refine r_isn (lv' := [(3, .int (iV 0)), (2, .int (iV v1)), (0, .ref (G.2.2.1 118)), (1, .int (iV a1))]) X dX10_chooses_10 rfl hl (by decide) rfl (fun ls hl => ?_)
    refine r_aln X dX10_chooses_11 rfl (lv_at hl 2 rfl) ?_
    refine r_iln X dX10_chooses_12 rfl (lv_at hl 3 rfl) ?_
    obtain ⟨v2, hv2, h⟩ := bd1_ex h
    refine r_ki V (r_runV (As := [.int (iV a1)]) (rest := []) X Y V (c_X10_wayLong l G σ a1 _  hv2) mv_X10_wayLong wd_1138 ci_10 kd_118 ⟨rfl, rfl, Nat.le_of_ble_eq_true rfl, Nat.le_of_ble_eq_true rfl⟩ rfl rfl hl.1 (Nat.le_of_ble_eq_true rfl) ⟨Nat.le_refl 0, Nat.le_refl 0⟩ dX10_chooses_13) (fun H locs V => ?_)
    refine r_is (lv' := [(4, .int (iV v2)), (3, .int (iV 0)), (2, .int (iV v1)), (0, .ref (G.2.2.1 118)), (1, .int (iV a1))]) X dX10_chooses_16 hl (by decide) rfl (fun ls hl => ?_)
    refine r_aln X dX10_chooses_18 rfl (lv_at hl 3 rfl) ?_
    refine r_ic X dX10_chooses_19 ?_
    obtain ⟨σ3, hσ3, h⟩ := wrF_ex h
    refine r_pi X Y V ci_10 kd_118 28 rfl (by decide) rfl rfl rfl (tyX10_ok 28 (by decide)) wd_881 hσ3 dX10_chooses_20 (fun H locs V => ?_)
    refine r_aln X dX10_chooses_23 rfl (lv_at hl 3 rfl) ?_
    refine r_ic X dX10_chooses_24 ?_
    obtain ⟨σ4, hσ4, h⟩ := wrF_ex h
    refine r_pi X Y V ci_10 kd_118 29 rfl (by decide) rfl rfl rfl (tyX10_ok 29 (by decide)) wd_882 hσ4 dX10_chooses_25 (fun H locs V => ?_)
    refine wl_X10_chooses_28 X Y a1 v2  r σ' _ (fun σ34  H locs ls V hl h => ?_) 1000 σ4 v1 0 _ _ _ V (lv_sub hl [3, 4, 2, 1, 0] rfl) h
    refine r_ic X dX10_chooses_257 ?_
    exact r_rz X V (Or.inl rfl) (so2 h).1 (so2 h).2 dX10_chooses_258
  exact go _ _ _ X V

set_option maxRecDepth 100000 in
set_option maxHeartbeats 4000000 in
theorem wj_X10_choice_27 {p : Program} {l : Launch} {e : Env} {s : State} {m : MethodId} {args : Array Value} {below : List Frame} {meth : Method} {c : Code} {G : UG} (X : uvCx p m c cX10_choice 3 RX10 s args meth (Option.some Jvm.ClassFile.FieldType.int)) (Y : uvGd G s s.heap) (r : Int) (σ' : St) (σ : St) (x1 : Int) (x2 : Int)  (H : Heap) (locs : List Loc) (ls : Array Slot) (V : uvWo G σ s H locs) (hl : lv_has ls 3 [(0, .ref (G.2.2.1 118)), (1, .int (iV x1)), (2, .int (iV x2))]) (h : jn_X10_choice_27 σ x1 x2 = some (r, σ')) : W p l e { frames := 4, cells := 0, slots := 0, locals := 100 } s m args below meth c H locs 0 0 (MQ below (uvQi G r σ') args s 0 0 (uvA G)) (F0 m 27 ls []) := by
  unfold jn_X10_choice_27 at h
  refine r_iln X dX10_choice_27 rfl (lv_at hl 2 rfl) ?_
  refine r_ic X dX10_choice_28 ?_
  refine r_cge (cx := wI x2) (cy := (-1)) (tgt := 39) X rfl rfl dX10_choice_29 (by decide) (fun c7 => ?_) (fun c7 => ?_)
  · replace h := ite_t c7 h
    refine r_aln X dX10_choice_32 rfl (lv_at hl 0 rfl) ?_
    refine r_bp X dX10_choice_33 (by decide) ?_
    obtain ⟨v8, σ9, hv8, h⟩ := bd2_ex h
    refine r_ki V (r_runV (As := [.int (iV (-10))]) (rest := []) X Y V (c_X10_bad l G σ (-10) _ _  hv8) mv_X10_bad wd_988 ci_10 kd_118 ⟨rfl, rfl, Nat.le_of_ble_eq_true rfl, Nat.le_of_ble_eq_true rfl⟩ rfl rfl hl.1 (Nat.le_of_ble_eq_true rfl) ⟨Nat.le_refl 0, Nat.le_refl 0⟩ dX10_choice_35) (fun H locs V => ?_)
    exact r_ri X V (so2 h).1 (so2 h).2 dX10_choice_38
  · replace h := ite_f c7 h
    refine r_aln X dX10_choice_39 rfl (lv_at hl 0 rfl) ?_
    refine r_gi (kI := 3) X Y V ci_10 kd_118 3 rfl (by decide) rfl rfl wd_856 dX10_choice_40 ?_
    refine r_eq (cx := wI (σ 118 3)) (tgt := 54) X rfl dX10_choice_43 (by decide) (fun c10 => ?_) (fun c10 => ?_)
    · replace h := ite_t c10 h
      refine r_aln X dX10_choice_54 rfl (lv_at hl 0 rfl) ?_
      obtain ⟨v11, σ12, hv11, h⟩ := bd2_ex h
      refine r_ki V (r_runV (As := []) (rest := []) X Y V (c_X10_no l G σ  _ _  hv11) mv_X10_no wd_1146 ci_10 kd_118 ⟨rfl, rfl, Nat.le_of_ble_eq_true rfl, Nat.le_of_ble_eq_true rfl⟩ rfl rfl hl.1 (Nat.le_of_ble_eq_true rfl) ⟨Nat.le_refl 0, Nat.le_refl 0⟩ dX10_choice_55) (fun H locs V => ?_)
      exact r_ri X V (so2 h).1 (so2 h).2 dX10_choice_58
    · replace h := ite_f c10 h
      refine r_aln X dX10_choice_46 rfl (lv_at hl 0 rfl) ?_
      refine r_iln X dX10_choice_47 rfl (lv_at hl 1 rfl) ?_
      obtain ⟨v13, σ14, hv13, h⟩ := bd2_ex h
      refine r_kz V (r_runV (As := [.int (iV x1)]) (rest := []) X Y V (c_X10_chooses l G σ x1 _ _  hv13) mv_X10_chooses wd_1134 ci_10 kd_118 ⟨rfl, rfl, Nat.le_of_ble_eq_true rfl, Nat.le_of_ble_eq_true rfl⟩ rfl rfl hl.1 (Nat.le_of_ble_eq_true rfl) ⟨Nat.le_refl 0, Nat.le_refl 0⟩ dX10_choice_48) (fun H locs V z15 => ?_)
      refine r_ne (cx := v13) (tgt := 59) X (wI_01 z15) dX10_choice_51 (by decide) (fun c16 => ?_) (fun c16 => ?_)
      · replace h := ite_t c16 h
        refine r_aln X dX10_choice_54 rfl (lv_at hl 0 rfl) ?_
        obtain ⟨v17, σ18, hv17, h⟩ := bd2_ex h
        refine r_ki V (r_runV (As := []) (rest := []) X Y V (c_X10_no l G σ14  _ _  hv17) mv_X10_no wd_1146 ci_10 kd_118 ⟨rfl, rfl, Nat.le_of_ble_eq_true rfl, Nat.le_of_ble_eq_true rfl⟩ rfl rfl hl.1 (Nat.le_of_ble_eq_true rfl) ⟨Nat.le_refl 0, Nat.le_refl 0⟩ dX10_choice_55) (fun H locs V => ?_)
        exact r_ri X V (so2 h).1 (so2 h).2 dX10_choice_58
      · replace h := ite_f c16 h
        refine r_iln X dX10_choice_59 rfl (lv_at hl 2 rfl) ?_
        refine r_ic X dX10_choice_60 ?_
        refine r_cne (cx := wI x2) (cy := (-1)) (tgt := 73) X rfl rfl dX10_choice_61 (by decide) (fun c19 => ?_) (fun c19 => ?_)
        · replace h := ite_t c19 h
          refine r_aln X dX10_choice_64 rfl (lv_at hl 0 rfl) ?_
          refine r_gr X Y V ci_10 kd_118 26 rfl rfl (by decide) rfl rfl wd_879 dX10_choice_65 ?_
          refine r_iln X dX10_choice_68 rfl (lv_at hl 1 rfl) ?_
          obtain ⟨v20, hv20, hiv20, h⟩ := rdA_ex h
          refine r_ial X Y V kd_136 ln_136 hiv20 hv20 dX10_choice_69 ?_
          refine r_goto (tgt := 99) X dX10_choice_70 (by decide) ?_
          exact r_ri X V (so2 h).1 (so2 h).2 dX10_choice_99
        · replace h := ite_f c19 h
          refine r_iln X dX10_choice_73 rfl (lv_at hl 2 rfl) ?_
          refine r_aln X dX10_choice_74 rfl (lv_at hl 0 rfl) ?_
          refine r_gr X Y V ci_10 kd_118 26 rfl rfl (by decide) rfl rfl wd_879 dX10_choice_75 ?_
          refine r_iln X dX10_choice_78 rfl (lv_at hl 1 rfl) ?_
          obtain ⟨v21, hv21, hiv21, h⟩ := rdA_ex h
          refine r_ial X Y V kd_136 ln_136 hiv21 hv21 dX10_choice_79 ?_
          refine r_cge (cx := wI x2) (cy := wI v21) (tgt := 97) X rfl rfl dX10_choice_80 (by decide) (fun c22 => ?_) (fun c22 => ?_)
          · replace h := ite_t c22 h
            refine r_aln X dX10_choice_83 rfl (lv_at hl 0 rfl) ?_
            refine r_gr X Y V ci_10 kd_118 25 rfl rfl (by decide) rfl rfl wd_878 dX10_choice_84 ?_
            refine r_bp X dX10_choice_87 (by decide) ?_
            refine r_iln X dX10_choice_89 rfl (lv_at hl 1 rfl) ?_
            refine r_imul X dX10_choice_90 ?_
            refine r_iln X dX10_choice_91 rfl (lv_at hl 2 rfl) ?_
            refine r_iadd X dX10_choice_92 ?_
            obtain ⟨v23, hv23, hiv23, h⟩ := rdA_ex h
            refine r_ial X Y V kd_135 ln_135 hiv23 hv23 dX10_choice_93 ?_
            refine r_goto (tgt := 99) X dX10_choice_94 (by decide) ?_
            exact r_ri X V (so2 h).1 (so2 h).2 dX10_choice_99
          · replace h := ite_f c22 h
            refine r_bp X dX10_choice_97 (by decide) ?_
            exact r_ri X V (so2 h).1 (so2 h).2 dX10_choice_99

set_option maxRecDepth 100000 in
set_option maxHeartbeats 4000000 in
theorem c_X10_choice (l : Launch) (G : UG) (σ : St) (a1 : Int) (a2 : Int) (r : Int) (σ' : St)  (h : f_X10_choice σ a1 a2 = some (r, σ')) : Met l yX10_choice (.code yX10_choice cX10_choice 3 (Option.some Jvm.ClassFile.FieldType.int) :: TB) { frames := 4, cells := 0, slots := 0, locals := 100 } (uvPc G σ [.ref (G.2.2.1 118), .int (iV a1), .int (iV a2)]) (uvQi G r σ') 0 0 (uvA G) := by
  unfold f_X10_choice at h
  refine r_met (own := RX10) (lv := [(0, .ref (G.2.2.1 118)), (1, .int (iV a1)), (2, .int (iV a2))]) (by decide) rfl (Nat.le_of_ble_eq_true rfl) rfl ?_
  intro p e s m below meth c ls X Y V hl
  have go : ∀ (args : Array Value) (H : Heap) (locs : List Loc), uvCx p m c cX10_choice 3 RX10 s args meth (Option.some Jvm.ClassFile.FieldType.int) → uvWo G σ s H locs → W p l e { frames := 4, cells := 0, slots := 0, locals := 100 } s m args below meth c H locs 0 0 (MQ below (uvQi G r σ') args s 0 0 (uvA G)) (F0 m 0 ls []) := by
    intro args H locs X V
    refine r_iln X dX10_choice_0 rfl (lv_at hl 1 rfl) ?_
    refine r_i2l X dX10_choice_1 ?_
    refine r_lc (v := 0) X dX10_choice_2 rfl ?_
    refine r_ldc2 X (n := 7) wd_1133 (by decide) dX10_choice_3 ?_
    refine r_kz V (r_runS (As := [.long (lV (i2lI a1)), .long (lV 0), .long (lV 7)]) (rest := []) X Y V (c_X10_in l G σ (i2lI a1) 0 7 _  rfl) ms_X10_in wd_982 ⟨rfl, rfl, Nat.le_of_ble_eq_true rfl, Nat.le_of_ble_eq_true rfl⟩ rfl rfl hl.1 (Nat.le_of_ble_eq_true rfl) ⟨Nat.le_refl 0, Nat.le_refl 0⟩ dX10_choice_6) (fun H locs V z1 => ?_)
    refine r_eq (cx := (f_X10_in (i2lI a1) 0 7)) (tgt := 32) X (wI_01 z1) dX10_choice_9 (by decide) (fun c2 => ?_) (fun c2 => ?_)
    · replace h := ite_t c2 h
      refine r_aln X dX10_choice_32 rfl (lv_at hl 0 rfl) ?_
      refine r_bp X dX10_choice_33 (by decide) ?_
      obtain ⟨v3, σ4, hv3, h⟩ := bd2_ex h
      refine r_ki V (r_runV (As := [.int (iV (-10))]) (rest := []) X Y V (c_X10_bad l G σ (-10) _ _  hv3) mv_X10_bad wd_988 ci_10 kd_118 ⟨rfl, rfl, Nat.le_of_ble_eq_true rfl, Nat.le_of_ble_eq_true rfl⟩ rfl rfl hl.1 (Nat.le_of_ble_eq_true rfl) ⟨Nat.le_refl 0, Nat.le_refl 0⟩ dX10_choice_35) (fun H locs V => ?_)
      exact r_ri X V (so2 h).1 (so2 h).2 dX10_choice_38
    · replace h := ite_f c2 h
      refine r_aln X dX10_choice_12 rfl (lv_at hl 0 rfl) ?_
      refine r_gi (kI := 3) X Y V ci_10 kd_118 3 rfl (by decide) rfl rfl wd_856 dX10_choice_13 ?_
      refine r_le (cx := wI (σ 118 3)) (tgt := 27) X rfl dX10_choice_16 (by decide) (fun c5 => ?_) (fun c5 => ?_)
      · replace h := ite_t c5 h
        refine r_iln X dX10_choice_19 rfl (lv_at hl 1 rfl) ?_
        refine r_aln X dX10_choice_20 rfl (lv_at hl 0 rfl) ?_
        refine r_gi (kI := 3) X Y V ci_10 kd_118 3 rfl (by decide) rfl rfl wd_856 dX10_choice_21 ?_
        refine r_cge (cx := wI a1) (cy := wI (σ 118 3)) (tgt := 32) X rfl rfl dX10_choice_24 (by decide) (fun c6 => ?_) (fun c6 => ?_)
        · replace h := ite_t c6 h
          exact wj_X10_choice_27 X Y r σ' σ a1 a2  _ _ _ V (lv_sub hl [0, 1, 2] rfl) h
        · replace h := ite_f c6 h
          refine r_aln X dX10_choice_32 rfl (lv_at hl 0 rfl) ?_
          refine r_bp X dX10_choice_33 (by decide) ?_
          obtain ⟨v24, σ25, hv24, h⟩ := bd2_ex h
          refine r_ki V (r_runV (As := [.int (iV (-10))]) (rest := []) X Y V (c_X10_bad l G σ (-10) _ _  hv24) mv_X10_bad wd_988 ci_10 kd_118 ⟨rfl, rfl, Nat.le_of_ble_eq_true rfl, Nat.le_of_ble_eq_true rfl⟩ rfl rfl hl.1 (Nat.le_of_ble_eq_true rfl) ⟨Nat.le_refl 0, Nat.le_refl 0⟩ dX10_choice_35) (fun H locs V => ?_)
          exact r_ri X V (so2 h).1 (so2 h).2 dX10_choice_38
      · replace h := ite_f c5 h
        exact wj_X10_choice_27 X Y r σ' σ a1 a2  _ _ _ V (lv_sub hl [0, 1, 2] rfl) h
  exact go _ _ _ X V

set_option maxRecDepth 100000 in
set_option maxHeartbeats 4000000 in
theorem c_X10_steps (l : Launch) (G : UG) (σ : St) (a1 : Int) (r : Int) (σ' : St)  (h : f_X10_steps σ a1 = some (r, σ')) : Met l yX10_steps (.code yX10_steps cX10_steps 2 (Option.some Jvm.ClassFile.FieldType.int) :: TB) { frames := 4, cells := 0, slots := 0, locals := 100 } (uvPc G σ [.ref (G.2.2.1 118), .int (iV a1)]) (uvQi G r σ') 0 0 (uvA G) := by
  unfold f_X10_steps at h
  refine r_met (own := RX10) (lv := [(0, .ref (G.2.2.1 118)), (1, .int (iV a1))]) (by decide) rfl (Nat.le_of_ble_eq_true rfl) rfl ?_
  intro p e s m below meth c ls X Y V hl
  have go : ∀ (args : Array Value) (H : Heap) (locs : List Loc), uvCx p m c cX10_steps 2 RX10 s args meth (Option.some Jvm.ClassFile.FieldType.int) → uvWo G σ s H locs → W p l e { frames := 4, cells := 0, slots := 0, locals := 100 } s m args below meth c H locs 0 0 (MQ below (uvQi G r σ') args s 0 0 (uvA G)) (F0 m 0 ls []) := by
    intro args H locs X V
    refine r_aln X dX10_steps_0 rfl (lv_at hl 0 rfl) ?_
    refine r_iln X dX10_steps_1 rfl (lv_at hl 1 rfl) ?_
    refine r_kz V (r_runV (As := [.int (iV a1)]) (rest := []) X Y V (c_X10_isTarget l G σ a1 _  rfl) mv_X10_isTarget wd_1088 ci_10 kd_118 ⟨rfl, rfl, Nat.le_of_ble_eq_true rfl, Nat.le_of_ble_eq_true rfl⟩ rfl rfl hl.1 (Nat.le_of_ble_eq_true rfl) ⟨Nat.le_refl 0, Nat.le_refl 0⟩ dX10_steps_2) (fun H locs V z1 => ?_)
    refine r_ne (cx := (f_X10_isTarget σ a1)) (tgt := 15) X (wI_01 z1) dX10_steps_5 (by decide) (fun c2 => ?_) (fun c2 => ?_)
    · replace h := ite_t c2 h
      refine r_aln X dX10_steps_8 rfl (lv_at hl 0 rfl) ?_
      refine r_bp X dX10_steps_9 (by decide) ?_
      obtain ⟨v3, σ4, hv3, h⟩ := bd2_ex h
      refine r_ki V (r_runV (As := [.int (iV (-2))]) (rest := []) X Y V (c_X10_bad l G σ (-2) _ _  hv3) mv_X10_bad wd_988 ci_10 kd_118 ⟨rfl, rfl, Nat.le_of_ble_eq_true rfl, Nat.le_of_ble_eq_true rfl⟩ rfl rfl hl.1 (Nat.le_of_ble_eq_true rfl) ⟨Nat.le_refl 0, Nat.le_refl 0⟩ dX10_steps_11) (fun H locs V => ?_)
      exact r_ri X V (so2 h).1 (so2 h).2 dX10_steps_14
    · replace h := ite_f c2 h
      refine r_aln X dX10_steps_15 rfl (lv_at hl 0 rfl) ?_
      refine r_iln X dX10_steps_16 rfl (lv_at hl 1 rfl) ?_
      obtain ⟨v5, σ6, hv5, h⟩ := bd2_ex h
      refine r_kz V (r_runV (As := [.int (iV a1)]) (rest := []) X Y V (c_X10_chooses l G σ a1 _ _  hv5) mv_X10_chooses wd_1134 ci_10 kd_118 ⟨rfl, rfl, Nat.le_of_ble_eq_true rfl, Nat.le_of_ble_eq_true rfl⟩ rfl rfl hl.1 (Nat.le_of_ble_eq_true rfl) ⟨Nat.le_refl 0, Nat.le_refl 0⟩ dX10_steps_17) (fun H locs V z7 => ?_)
      have J8 : W p l e { frames := 4, cells := 0, slots := 0, locals := 100 } s m args below meth c H locs 0 0 (MQ below (uvQi G r σ') args s 0 0 (uvA G)) (F0 m 31 ls [.int (iV (if v5 = 0 then (-1) else σ6 118 28))]) := by
        exact r_ri X V (so2 h).1 (so2 h).2 dX10_steps_31
      refine r_eq (cx := v5) (tgt := 30) X (wI_01 z7) dX10_steps_20 (by decide) (fun c9 => ?_) (fun c9 => ?_)
      · skip
        refine r_ic X dX10_steps_30 ?_
        rw [if_pos c9] at J8
        exact J8
      · skip
        refine r_aln X dX10_steps_23 rfl (lv_at hl 0 rfl) ?_
        refine r_gi (kI := 28) X Y V ci_10 kd_118 28 rfl (by decide) rfl rfl wd_881 dX10_steps_24 ?_
        refine r_goto (tgt := 31) X dX10_steps_27 (by decide) ?_
        rw [if_neg c9] at J8
        exact J8
  exact go _ _ _ X V

set_option maxRecDepth 100000 in
set_option maxHeartbeats 4000000 in
theorem c_X10_tried (l : Launch) (G : UG) (σ : St) (a1 : Int) (r : Int) (σ' : St)  (h : f_X10_tried σ a1 = some (r, σ')) : Met l yX10_tried (.code yX10_tried cX10_tried 3 (Option.some Jvm.ClassFile.FieldType.int) :: TB) { frames := 4, cells := 0, slots := 0, locals := 100 } (uvPc G σ [.ref (G.2.2.1 118), .int (iV a1)]) (uvQi G r σ') 0 0 (uvA G) := by
  unfold f_X10_tried at h
  refine r_met (own := RX10) (lv := [(0, .ref (G.2.2.1 118)), (1, .int (iV a1))]) (by decide) rfl (Nat.le_of_ble_eq_true rfl) rfl ?_
  intro p e s m below meth c ls X Y V hl
  have go : ∀ (args : Array Value) (H : Heap) (locs : List Loc), uvCx p m c cX10_tried 3 RX10 s args meth (Option.some Jvm.ClassFile.FieldType.int) → uvWo G σ s H locs → W p l e { frames := 4, cells := 0, slots := 0, locals := 100 } s m args below meth c H locs 0 0 (MQ below (uvQi G r σ') args s 0 0 (uvA G)) (F0 m 0 ls []) := by
    intro args H locs X V
    refine r_aln X dX10_tried_0 rfl (lv_at hl 0 rfl) ?_
    refine r_iln X dX10_tried_1 rfl (lv_at hl 1 rfl) ?_
    refine r_kz V (r_runV (As := [.int (iV a1)]) (rest := []) X Y V (c_X10_isTarget l G σ a1 _  rfl) mv_X10_isTarget wd_1088 ci_10 kd_118 ⟨rfl, rfl, Nat.le_of_ble_eq_true rfl, Nat.le_of_ble_eq_true rfl⟩ rfl rfl hl.1 (Nat.le_of_ble_eq_true rfl) ⟨Nat.le_refl 0, Nat.le_refl 0⟩ dX10_tried_2) (fun H locs V z1 => ?_)
    refine r_ne (cx := (f_X10_isTarget σ a1)) (tgt := 15) X (wI_01 z1) dX10_tried_5 (by decide) (fun c2 => ?_) (fun c2 => ?_)
    · replace h := ite_t c2 h
      refine r_aln X dX10_tried_8 rfl (lv_at hl 0 rfl) ?_
      refine r_bp X dX10_tried_9 (by decide) ?_
      obtain ⟨v3, σ4, hv3, h⟩ := bd2_ex h
      refine r_ki V (r_runV (As := [.int (iV (-2))]) (rest := []) X Y V (c_X10_bad l G σ (-2) _ _  hv3) mv_X10_bad wd_988 ci_10 kd_118 ⟨rfl, rfl, Nat.le_of_ble_eq_true rfl, Nat.le_of_ble_eq_true rfl⟩ rfl rfl hl.1 (Nat.le_of_ble_eq_true rfl) ⟨Nat.le_refl 0, Nat.le_refl 0⟩ dX10_tried_11) (fun H locs V => ?_)
      exact r_ri X V (so2 h).1 (so2 h).2 dX10_tried_14
    · replace h := ite_f c2 h
      refine r_aln X dX10_tried_15 rfl (lv_at hl 0 rfl) ?_
      refine r_iln X dX10_tried_16 rfl (lv_at hl 1 rfl) ?_
      obtain ⟨v5, σ6, hv5, h⟩ := bd2_ex h
      refine r_kz V (r_runV (As := [.int (iV a1)]) (rest := []) X Y V (c_X10_chooses l G σ a1 _ _  hv5) mv_X10_chooses wd_1134 ci_10 kd_118 ⟨rfl, rfl, Nat.le_of_ble_eq_true rfl, Nat.le_of_ble_eq_true rfl⟩ rfl rfl hl.1 (Nat.le_of_ble_eq_true rfl) ⟨Nat.le_refl 0, Nat.le_refl 0⟩ dX10_tried_17) (fun H locs V z7 => ?_)
      refine r_isn (lv' := [(2, .int (iV v5)), (0, .ref (G.2.2.1 118)), (1, .int (iV a1))]) X dX10_tried_20 rfl hl (by decide) rfl (fun ls hl => ?_)
      refine r_aln X dX10_tried_21 rfl (lv_at hl 1 rfl) ?_
      refine r_gi (kI := 29) X Y V ci_10 kd_118 29 rfl (by decide) rfl rfl wd_882 dX10_tried_22 ?_
      exact r_ri X V (so2 h).1 (so2 h).2 dX10_tried_25
  exact go _ _ _ X V

set_option maxRecDepth 100000 in
set_option maxHeartbeats 4000000 in
theorem c_X10_fitAs (l : Launch) (G : UG) (σ0 : St) (a1 : Int) (a2 : Int) (a3 : Int) (r : Int)  (h : f_X10_fitAs σ0 a1 a2 a3 = some r) : Met l yX10_fitAs (.code yX10_fitAs cX10_fitAs 7 (Option.some Jvm.ClassFile.FieldType.int) :: TB) { frames := 1, cells := 0, slots := 0, locals := 22 } (uvPc G σ0 [.ref (G.2.2.1 118), .int (iV a1), .int (iV a2), .int (iV a3)]) (uvQi G r σ0) 0 0 (uvA G) := by
  unfold f_X10_fitAs at h
  refine r_met (own := RX10) (lv := [(0, .ref (G.2.2.1 118)), (1, .int (iV a1)), (2, .int (iV a2)), (3, .int (iV a3))]) (by decide) rfl (Nat.le_of_ble_eq_true rfl) rfl ?_
  intro p e s m below meth c ls X Y V hl
  have go : ∀ (args : Array Value) (H : Heap) (locs : List Loc), uvCx p m c cX10_fitAs 7 RX10 s args meth (Option.some Jvm.ClassFile.FieldType.int) → uvWo G σ0 s H locs → W p l e { frames := 1, cells := 0, slots := 0, locals := 22 } s m args below meth c H locs 0 0 (MQ below (uvQi G r σ0) args s 0 0 (uvA G)) (F0 m 0 ls []) := by
    intro args H locs X V
    refine r_aln X dX10_fitAs_0 rfl (lv_at hl 0 rfl) ?_
    refine r_iln X dX10_fitAs_1 rfl (lv_at hl 2 rfl) ?_
    refine r_ic X dX10_fitAs_2 ?_
    obtain ⟨v1, hv1, h⟩ := bd1_ex h
    refine r_ki V (r_runV (As := [.int (iV a2), .int (iV 3)]) (rest := []) X Y V (c_X10_at l G σ0 a2 3 _  hv1) mv_X10_at wd_1008 ci_10 kd_118 ⟨rfl, rfl, Nat.le_of_ble_eq_true rfl, Nat.le_of_ble_eq_true rfl⟩ rfl rfl hl.1 (Nat.le_of_ble_eq_true rfl) ⟨Nat.le_refl 0, Nat.le_refl 0⟩ dX10_fitAs_3) (fun H locs V => ?_)
    refine r_aln X dX10_fitAs_6 rfl (lv_at hl 0 rfl) ?_
    refine r_gr X Y V ci_10 kd_118 2 rfl rfl (by decide) rfl rfl wd_855 dX10_fitAs_7 ?_
    refine r_ic X dX10_fitAs_10 ?_
    refine r_iln X dX10_fitAs_11 rfl (lv_at hl 3 rfl) ?_
    refine r_imul X dX10_fitAs_12 ?_
    refine r_ic X dX10_fitAs_13 ?_
    refine r_iadd X dX10_fitAs_14 ?_
    obtain ⟨v2, hv2, hiv2, h⟩ := rdA_ex h
    refine r_ial X Y V kd_120 ln_120 hiv2 hv2 dX10_fitAs_15 ?_
    refine r_ki V (r_runS (As := [.int (iV v1), .int (iV v2)]) (rest := []) X Y V (c_X10_far l G σ0 v1 v2 _  rfl) ms_X10_far wd_1166 ⟨rfl, rfl, Nat.le_of_ble_eq_true rfl, Nat.le_of_ble_eq_true rfl⟩ rfl rfl hl.1 (Nat.le_of_ble_eq_true rfl) ⟨Nat.le_refl 0, Nat.le_refl 0⟩ dX10_fitAs_16) (fun H locs V => ?_)
    obtain ⟨v3, hv3, h⟩ := bnd_ex h
    refine r_eqI hv3 ?_
    refine r_is (lv' := [(4, .int (iV v3)), (0, .ref (G.2.2.1 118)), (1, .int (iV a1)), (2, .int (iV a2)), (3, .int (iV a3))]) X dX10_fitAs_19 hl (by decide) rfl (fun ls hl => ?_)
    refine r_il X dX10_fitAs_21 (lv_at hl 0 rfl) ?_
    refine r_aln X dX10_fitAs_23 rfl (lv_at hl 1 rfl) ?_
    refine r_iln X dX10_fitAs_24 rfl (lv_at hl 3 rfl) ?_
    refine r_ic X dX10_fitAs_25 ?_
    obtain ⟨v4, hv4, h⟩ := bd1_ex h
    refine r_ki V (r_runV (As := [.int (iV a2), .int (iV 4)]) (rest := [.int (iV v3)]) X Y V (c_X10_at l G σ0 a2 4 _  hv4) mv_X10_at wd_1008 ci_10 kd_118 ⟨rfl, rfl, Nat.le_of_ble_eq_true rfl, Nat.le_of_ble_eq_true rfl⟩ rfl rfl hl.1 (Nat.le_of_ble_eq_true rfl) ⟨Nat.le_refl 0, Nat.le_refl 0⟩ dX10_fitAs_26) (fun H locs V => ?_)
    refine r_aln X dX10_fitAs_29 rfl (lv_at hl 1 rfl) ?_
    refine r_gr X Y V ci_10 kd_118 2 rfl rfl (by decide) rfl rfl wd_855 dX10_fitAs_30 ?_
    refine r_ic X dX10_fitAs_33 ?_
    refine r_iln X dX10_fitAs_34 rfl (lv_at hl 4 rfl) ?_
    refine r_imul X dX10_fitAs_35 ?_
    refine r_ic X dX10_fitAs_36 ?_
    refine r_iadd X dX10_fitAs_37 ?_
    obtain ⟨v5, hv5, hiv5, h⟩ := rdA_ex h
    refine r_ial X Y V kd_120 ln_120 hiv5 hv5 dX10_fitAs_38 ?_
    refine r_ki V (r_runS (As := [.int (iV v4), .int (iV v5)]) (rest := [.int (iV v3)]) X Y V (c_X10_far l G σ0 v4 v5 _  rfl) ms_X10_far wd_1166 ⟨rfl, rfl, Nat.le_of_ble_eq_true rfl, Nat.le_of_ble_eq_true rfl⟩ rfl rfl hl.1 (Nat.le_of_ble_eq_true rfl) ⟨Nat.le_refl 0, Nat.le_refl 0⟩ dX10_fitAs_39) (fun H locs V => ?_)
    refine r_iadd X dX10_fitAs_42 ?_
    obtain ⟨v6, hv6, h⟩ := bnd_ex h
    refine r_eqI hv6 ?_
    refine r_is (lv' := [(5, .int (iV v6)), (4, .int (iV v3)), (0, .ref (G.2.2.1 118)), (1, .int (iV a1)), (2, .int (iV a2)), (3, .int (iV a3))]) X dX10_fitAs_43 hl (by decide) rfl (fun ls hl => ?_)
    refine r_il X dX10_fitAs_45 (lv_at hl 0 rfl) ?_
    refine r_aln X dX10_fitAs_47 rfl (lv_at hl 2 rfl) ?_
    refine r_iln X dX10_fitAs_48 rfl (lv_at hl 4 rfl) ?_
    refine r_ic X dX10_fitAs_49 ?_
    obtain ⟨v7, hv7, h⟩ := bd1_ex h
    refine r_ki V (r_runV (As := [.int (iV a2), .int (iV 1)]) (rest := [.int (iV v6)]) X Y V (c_X10_at l G σ0 a2 1 _  hv7) mv_X10_at wd_1008 ci_10 kd_118 ⟨rfl, rfl, Nat.le_of_ble_eq_true rfl, Nat.le_of_ble_eq_true rfl⟩ rfl rfl hl.1 (Nat.le_of_ble_eq_true rfl) ⟨Nat.le_refl 0, Nat.le_refl 0⟩ dX10_fitAs_50) (fun H locs V => ?_)
    refine r_aln X dX10_fitAs_53 rfl (lv_at hl 2 rfl) ?_
    refine r_iln X dX10_fitAs_54 rfl (lv_at hl 5 rfl) ?_
    obtain ⟨v8, hv8, h⟩ := bd1_ex h
    refine r_ki V (r_runV (As := [.int (iV a3)]) (rest := [.int (iV v7), .int (iV v6)]) X Y V (c_X10_targetLeft l G σ0 a3 _  hv8) mv_X10_targetLeft wd_1092 ci_10 kd_118 ⟨rfl, rfl, Nat.le_of_ble_eq_true rfl, Nat.le_of_ble_eq_true rfl⟩ rfl rfl hl.1 (Nat.le_of_ble_eq_true rfl) ⟨Nat.le_refl 0, Nat.le_refl 0⟩ dX10_fitAs_55) (fun H locs V => ?_)
    have J9 : W p l e { frames := 1, cells := 0, slots := 0, locals := 22 } s m args below meth c H locs 0 0 (MQ below (uvQi G r σ0) args s 0 0 (uvA G)) (F0 m 66 ls [.int (iV (if wI v7 = wI v8 then 0 else 2)), .int (iV v6)]) := by
      refine r_iadd X dX10_fitAs_66 ?_
      refine r_aln X dX10_fitAs_67 rfl (lv_at hl 2 rfl) ?_
      refine r_iln X dX10_fitAs_68 rfl (lv_at hl 4 rfl) ?_
      refine r_ic X dX10_fitAs_69 ?_
      obtain ⟨v10, hv10, h⟩ := bd1_ex h
      refine r_ki V (r_runV (As := [.int (iV a2), .int (iV 2)]) (rest := [.int (iV (v6 + (if wI v7 = wI v8 then 0 else 2)))]) X Y V (c_X10_at l G σ0 a2 2 _  hv10) mv_X10_at wd_1008 ci_10 kd_118 ⟨rfl, rfl, Nat.le_of_ble_eq_true rfl, Nat.le_of_ble_eq_true rfl⟩ rfl rfl hl.1 (Nat.le_of_ble_eq_true rfl) ⟨Nat.le_refl 0, Nat.le_refl 0⟩ dX10_fitAs_70) (fun H locs V => ?_)
      refine r_aln X dX10_fitAs_73 rfl (lv_at hl 2 rfl) ?_
      refine r_iln X dX10_fitAs_74 rfl (lv_at hl 5 rfl) ?_
      obtain ⟨v11, hv11, h⟩ := bd1_ex h
      refine r_ki V (r_runV (As := [.int (iV a3)]) (rest := [.int (iV v10), .int (iV (v6 + (if wI v7 = wI v8 then 0 else 2)))]) X Y V (c_X10_targetRight l G σ0 a3 _  hv11) mv_X10_targetRight wd_1096 ci_10 kd_118 ⟨rfl, rfl, Nat.le_of_ble_eq_true rfl, Nat.le_of_ble_eq_true rfl⟩ rfl rfl hl.1 (Nat.le_of_ble_eq_true rfl) ⟨Nat.le_refl 0, Nat.le_refl 0⟩ dX10_fitAs_75) (fun H locs V => ?_)
      have J12 : W p l e { frames := 1, cells := 0, slots := 0, locals := 22 } s m args below meth c H locs 0 0 (MQ below (uvQi G r σ0) args s 0 0 (uvA G)) (F0 m 86 ls [.int (iV (if wI v10 = wI v11 then 0 else 2)), .int (iV (v6 + (if wI v7 = wI v8 then 0 else 2)))]) := by
        refine r_iadd X dX10_fitAs_86 ?_
        obtain ⟨v13, hv13, h⟩ := bnd_ex h
        refine r_eqI hv13 ?_
        refine r_is (lv' := [(6, .int (iV v13)), (5, .int (iV v6)), (4, .int (iV v3)), (0, .ref (G.2.2.1 118)), (1, .int (iV a1)), (2, .int (iV a2)), (3, .int (iV a3))]) X dX10_fitAs_87 hl (by decide) rfl (fun ls hl => ?_)
        refine r_iln X dX10_fitAs_89 rfl (lv_at hl 4 rfl) ?_
        refine r_ne (cx := wI a1) (tgt := 98) X rfl dX10_fitAs_90 (by decide) (fun c14 => ?_) (fun c14 => ?_)
        · replace h := ite_t c14 h
          refine r_il X dX10_fitAs_93 (lv_at hl 1 rfl) ?_
          refine r_goto (tgt := 140) X dX10_fitAs_95 (by decide) ?_
          exact r_ri X V (so1 h) rfl dX10_fitAs_140
        · replace h := ite_f c14 h
          refine r_iln X dX10_fitAs_98 rfl (lv_at hl 4 rfl) ?_
          refine r_ic X dX10_fitAs_99 ?_
          refine r_cne (cx := wI a1) (cy := 1) (tgt := 108) X rfl rfl dX10_fitAs_100 (by decide) (fun c15 => ?_) (fun c15 => ?_)
          · replace h := ite_t c15 h
            refine r_il X dX10_fitAs_103 (lv_at hl 0 rfl) ?_
            refine r_goto (tgt := 140) X dX10_fitAs_105 (by decide) ?_
            exact r_ri X V (so1 h) rfl dX10_fitAs_140
          · replace h := ite_f c15 h
            refine r_iln X dX10_fitAs_108 rfl (lv_at hl 4 rfl) ?_
            refine r_ic X dX10_fitAs_109 ?_
            refine r_cne (cx := wI a1) (cy := 2) (tgt := 121) X rfl rfl dX10_fitAs_110 (by decide) (fun c16 => ?_) (fun c16 => ?_)
            · replace h := ite_t c16 h
              refine r_il X dX10_fitAs_113 (lv_at hl 1 rfl) ?_
              refine r_il X dX10_fitAs_115 (lv_at hl 2 rfl) ?_
              refine r_iadd X dX10_fitAs_117 ?_
              refine r_goto (tgt := 140) X dX10_fitAs_118 (by decide) ?_
              exact r_ri X V (so1 h) rfl dX10_fitAs_140
            · replace h := ite_f c16 h
              refine r_iln X dX10_fitAs_121 rfl (lv_at hl 4 rfl) ?_
              refine r_ic X dX10_fitAs_122 ?_
              refine r_cne (cx := wI a1) (cy := 3) (tgt := 133) X rfl rfl dX10_fitAs_123 (by decide) (fun c17 => ?_) (fun c17 => ?_)
              · replace h := ite_t c17 h
                refine r_ic X dX10_fitAs_126 ?_
                refine r_il X dX10_fitAs_127 (lv_at hl 0 rfl) ?_
                refine r_imul X dX10_fitAs_129 ?_
                refine r_goto (tgt := 140) X dX10_fitAs_130 (by decide) ?_
                exact r_ri X V (so1 h) rfl dX10_fitAs_140
              · replace h := ite_f c17 h
                refine r_il X dX10_fitAs_133 (lv_at hl 1 rfl) ?_
                refine r_il X dX10_fitAs_135 (lv_at hl 2 rfl) ?_
                refine r_iadd X dX10_fitAs_137 ?_
                refine r_ic X dX10_fitAs_138 ?_
                refine r_idiv X (by decide) dX10_fitAs_139 ?_
                exact r_ri X V (so1 h) rfl dX10_fitAs_140
      refine r_cne (cx := wI v10) (cy := wI v11) (tgt := 85) X rfl rfl dX10_fitAs_78 (by decide) (fun c18 => ?_) (fun c18 => ?_)
      · skip
        refine r_ic X dX10_fitAs_81 ?_
        refine r_goto (tgt := 86) X dX10_fitAs_82 (by decide) ?_
        rw [if_pos c18] at J12
        exact J12
      · skip
        refine r_ic X dX10_fitAs_85 ?_
        rw [if_neg c18] at J12
        exact J12
    refine r_cne (cx := wI v7) (cy := wI v8) (tgt := 65) X rfl rfl dX10_fitAs_58 (by decide) (fun c19 => ?_) (fun c19 => ?_)
    · skip
      refine r_ic X dX10_fitAs_61 ?_
      refine r_goto (tgt := 66) X dX10_fitAs_62 (by decide) ?_
      rw [if_pos c19] at J9
      exact J9
    · skip
      refine r_ic X dX10_fitAs_65 ?_
      rw [if_neg c19] at J9
      exact J9
  exact go _ _ _ X V

set_option maxRecDepth 100000 in
set_option maxHeartbeats 4000000 in
theorem c_X10_fit (l : Launch) (G : UG) (σ : St) (a1 : Int) (a2 : Int) (r : Int) (σ' : St)  (h : f_X10_fit σ a1 a2 = some (r, σ')) : Met l yX10_fit (.code yX10_fit cX10_fit 3 (Option.some Jvm.ClassFile.FieldType.int) :: TB) { frames := 2, cells := 0, slots := 0, locals := 48 } (uvPc G σ [.ref (G.2.2.1 118), .int (iV a1), .int (iV a2)]) (uvQi G r σ') 0 0 (uvA G) := by
  unfold f_X10_fit at h
  refine r_met (own := RX10) (lv := [(0, .ref (G.2.2.1 118)), (1, .int (iV a1)), (2, .int (iV a2))]) (by decide) rfl (Nat.le_of_ble_eq_true rfl) rfl ?_
  intro p e s m below meth c ls X Y V hl
  have go : ∀ (args : Array Value) (H : Heap) (locs : List Loc), uvCx p m c cX10_fit 3 RX10 s args meth (Option.some Jvm.ClassFile.FieldType.int) → uvWo G σ s H locs → W p l e { frames := 2, cells := 0, slots := 0, locals := 48 } s m args below meth c H locs 0 0 (MQ below (uvQi G r σ') args s 0 0 (uvA G)) (F0 m 0 ls []) := by
    intro args H locs X V
    refine r_aln X dX10_fit_0 rfl (lv_at hl 0 rfl) ?_
    refine r_iln X dX10_fit_1 rfl (lv_at hl 1 rfl) ?_
    refine r_kz V (r_runV (As := [.int (iV a1)]) (rest := []) X Y V (c_X10_isUnit l G σ a1 _  rfl) mv_X10_isUnit wd_1020 ci_10 kd_118 ⟨rfl, rfl, Nat.le_of_ble_eq_true rfl, Nat.le_of_ble_eq_true rfl⟩ rfl rfl hl.1 (Nat.le_of_ble_eq_true rfl) ⟨Nat.le_refl 0, Nat.le_refl 0⟩ dX10_fit_2) (fun H locs V z1 => ?_)
    refine r_eq (cx := (f_X10_isUnit σ a1)) (tgt := 29) X (wI_01 z1) dX10_fit_5 (by decide) (fun c2 => ?_) (fun c2 => ?_)
    · replace h := ite_t c2 h
      refine r_aln X dX10_fit_29 rfl (lv_at hl 0 rfl) ?_
      refine r_bp X dX10_fit_30 (by decide) ?_
      obtain ⟨v3, σ4, hv3, h⟩ := bd2_ex h
      refine r_ki V (r_runV (As := [.int (iV (-2))]) (rest := []) X Y V (c_X10_bad l G σ (-2) _ _  hv3) mv_X10_bad wd_988 ci_10 kd_118 ⟨rfl, rfl, Nat.le_of_ble_eq_true rfl, Nat.le_of_ble_eq_true rfl⟩ rfl rfl hl.1 (Nat.le_of_ble_eq_true rfl) ⟨Nat.le_refl 0, Nat.le_refl 0⟩ dX10_fit_32) (fun H locs V => ?_)
      exact r_ri X V (so2 h).1 (so2 h).2 dX10_fit_35
    · replace h := ite_f c2 h
      refine r_aln X dX10_fit_8 rfl (lv_at hl 0 rfl) ?_
      refine r_iln X dX10_fit_9 rfl (lv_at hl 2 rfl) ?_
      refine r_kz V (r_runV (As := [.int (iV a2)]) (rest := []) X Y V (c_X10_isTarget l G σ a2 _  rfl) mv_X10_isTarget wd_1088 ci_10 kd_118 ⟨rfl, rfl, Nat.le_of_ble_eq_true rfl, Nat.le_of_ble_eq_true rfl⟩ rfl rfl hl.1 (Nat.le_of_ble_eq_true rfl) ⟨Nat.le_refl 0, Nat.le_refl 0⟩ dX10_fit_10) (fun H locs V z5 => ?_)
      refine r_eq (cx := (f_X10_isTarget σ a2)) (tgt := 29) X (wI_01 z5) dX10_fit_13 (by decide) (fun c6 => ?_) (fun c6 => ?_)
      · replace h := ite_t c6 h
        refine r_aln X dX10_fit_29 rfl (lv_at hl 0 rfl) ?_
        refine r_bp X dX10_fit_30 (by decide) ?_
        obtain ⟨v7, σ8, hv7, h⟩ := bd2_ex h
        refine r_ki V (r_runV (As := [.int (iV (-2))]) (rest := []) X Y V (c_X10_bad l G σ (-2) _ _  hv7) mv_X10_bad wd_988 ci_10 kd_118 ⟨rfl, rfl, Nat.le_of_ble_eq_true rfl, Nat.le_of_ble_eq_true rfl⟩ rfl rfl hl.1 (Nat.le_of_ble_eq_true rfl) ⟨Nat.le_refl 0, Nat.le_refl 0⟩ dX10_fit_32) (fun H locs V => ?_)
        exact r_ri X V (so2 h).1 (so2 h).2 dX10_fit_35
      · replace h := ite_f c6 h
        refine r_aln X dX10_fit_16 rfl (lv_at hl 0 rfl) ?_
        refine r_aln X dX10_fit_17 rfl (lv_at hl 0 rfl) ?_
        refine r_gi (kI := 5) X Y V ci_10 kd_118 5 rfl (by decide) rfl rfl wd_858 dX10_fit_18 ?_
        refine r_iln X dX10_fit_21 rfl (lv_at hl 1 rfl) ?_
        refine r_iln X dX10_fit_22 rfl (lv_at hl 2 rfl) ?_
        obtain ⟨v9, hv9, h⟩ := bd1_ex h
        refine r_ki V (r_runV (As := [.int (iV (σ 118 5)), .int (iV a1), .int (iV a2)]) (rest := []) X Y V (c_X10_fitAs l G σ (σ 118 5) a1 a2 _  hv9) mv_X10_fitAs wd_1162 ci_10 kd_118 ⟨rfl, rfl, Nat.le_of_ble_eq_true rfl, Nat.le_of_ble_eq_true rfl⟩ rfl rfl hl.1 (Nat.le_of_ble_eq_true rfl) ⟨Nat.le_refl 0, Nat.le_refl 0⟩ dX10_fit_23) (fun H locs V => ?_)
        refine r_goto (tgt := 35) X dX10_fit_26 (by decide) ?_
        exact r_ri X V (so2 h).1 (so2 h).2 dX10_fit_35
  exact go _ _ _ X V

set_option maxRecDepth 100000 in
set_option maxHeartbeats 4000000 in
theorem c_X10_jointOf (l : Launch) (G : UG) (σ0 : St) (a1 : Int) (a2 : Int) (r : Int)  (h : f_X10_jointOf σ0 a1 a2 = some r) : Met l yX10_jointOf (.code yX10_jointOf cX10_jointOf 3 (Option.some Jvm.ClassFile.FieldType.int) :: TB) { frames := 2, cells := 0, slots := 0, locals := 44 } (uvPc G σ0 [.ref (G.2.2.1 118), .int (iV a1), .int (iV a2)]) (uvQi G r σ0) 0 0 (uvA G) := by
  unfold f_X10_jointOf at h
  refine r_met (own := RX10) (lv := [(0, .ref (G.2.2.1 118)), (1, .int (iV a1)), (2, .int (iV a2))]) (by decide) rfl (Nat.le_of_ble_eq_true rfl) rfl ?_
  intro p e s m below meth c ls X Y V hl
  have go : ∀ (args : Array Value) (H : Heap) (locs : List Loc), uvCx p m c cX10_jointOf 3 RX10 s args meth (Option.some Jvm.ClassFile.FieldType.int) → uvWo G σ0 s H locs → W p l e { frames := 2, cells := 0, slots := 0, locals := 44 } s m args below meth c H locs 0 0 (MQ below (uvQi G r σ0) args s 0 0 (uvA G)) (F0 m 0 ls []) := by
    intro args H locs X V
    refine r_aln X dX10_jointOf_0 rfl (lv_at hl 0 rfl) ?_
    refine r_iln X dX10_jointOf_1 rfl (lv_at hl 1 rfl) ?_
    obtain ⟨v1, hv1, h⟩ := bd1_ex h
    refine r_ki V (r_runV (As := [.int (iV a1)]) (rest := []) X Y V (c_X10_nextOf l G σ0 a1 _  hv1) mv_X10_nextOf wd_1024 ci_10 kd_118 ⟨rfl, rfl, Nat.le_of_ble_eq_true rfl, Nat.le_of_ble_eq_true rfl⟩ rfl rfl hl.1 (Nat.le_of_ble_eq_true rfl) ⟨Nat.le_refl 0, Nat.le_refl 0⟩ dX10_jointOf_2) (fun H locs V => ?_)
    refine r_iln X dX10_jointOf_5 rfl (lv_at hl 2 rfl) ?_
    refine r_cne (cx := wI v1) (cy := wI a2) (tgt := 11) X rfl rfl dX10_jointOf_6 (by decide) (fun c2 => ?_) (fun c2 => ?_)
    · replace h := ite_t c2 h
      refine r_ic X dX10_jointOf_9 ?_
      exact r_ri X V (so1 h) rfl dX10_jointOf_10
    · replace h := ite_f c2 h
      refine r_ic X dX10_jointOf_11 ?_
      refine r_aln X dX10_jointOf_12 rfl (lv_at hl 0 rfl) ?_
      refine r_iln X dX10_jointOf_13 rfl (lv_at hl 1 rfl) ?_
      refine r_ic X dX10_jointOf_14 ?_
      obtain ⟨v3, hv3, h⟩ := bd1_ex h
      refine r_ki V (r_runV (As := [.int (iV a1), .int (iV 3)]) (rest := [.int (iV 3)]) X Y V (c_X10_at l G σ0 a1 3 _  hv3) mv_X10_at wd_1008 ci_10 kd_118 ⟨rfl, rfl, Nat.le_of_ble_eq_true rfl, Nat.le_of_ble_eq_true rfl⟩ rfl rfl hl.1 (Nat.le_of_ble_eq_true rfl) ⟨Nat.le_refl 0, Nat.le_refl 0⟩ dX10_jointOf_15) (fun H locs V => ?_)
      refine r_aln X dX10_jointOf_18 rfl (lv_at hl 0 rfl) ?_
      refine r_iln X dX10_jointOf_19 rfl (lv_at hl 2 rfl) ?_
      refine r_ic X dX10_jointOf_20 ?_
      obtain ⟨v4, hv4, h⟩ := bd1_ex h
      refine r_ki V (r_runV (As := [.int (iV a2), .int (iV 3)]) (rest := [.int (iV v3), .int (iV 3)]) X Y V (c_X10_at l G σ0 a2 3 _  hv4) mv_X10_at wd_1008 ci_10 kd_118 ⟨rfl, rfl, Nat.le_of_ble_eq_true rfl, Nat.le_of_ble_eq_true rfl⟩ rfl rfl hl.1 (Nat.le_of_ble_eq_true rfl) ⟨Nat.le_refl 0, Nat.le_refl 0⟩ dX10_jointOf_21) (fun H locs V => ?_)
      refine r_ki V (r_runS (As := [.int (iV v3), .int (iV v4)]) (rest := [.int (iV 3)]) X Y V (c_X10_far l G σ0 v3 v4 _  rfl) ms_X10_far wd_1166 ⟨rfl, rfl, Nat.le_of_ble_eq_true rfl, Nat.le_of_ble_eq_true rfl⟩ rfl rfl hl.1 (Nat.le_of_ble_eq_true rfl) ⟨Nat.le_refl 0, Nat.le_refl 0⟩ dX10_jointOf_24) (fun H locs V => ?_)
      refine r_iadd X dX10_jointOf_27 ?_
      refine r_aln X dX10_jointOf_28 rfl (lv_at hl 0 rfl) ?_
      refine r_iln X dX10_jointOf_29 rfl (lv_at hl 1 rfl) ?_
      refine r_ic X dX10_jointOf_30 ?_
      obtain ⟨v5, hv5, h⟩ := bd1_ex h
      refine r_ki V (r_runV (As := [.int (iV a1), .int (iV 2)]) (rest := [.int (iV (3 + (f_X10_far v3 v4)))]) X Y V (c_X10_at l G σ0 a1 2 _  hv5) mv_X10_at wd_1008 ci_10 kd_118 ⟨rfl, rfl, Nat.le_of_ble_eq_true rfl, Nat.le_of_ble_eq_true rfl⟩ rfl rfl hl.1 (Nat.le_of_ble_eq_true rfl) ⟨Nat.le_refl 0, Nat.le_refl 0⟩ dX10_jointOf_31) (fun H locs V => ?_)
      refine r_aln X dX10_jointOf_34 rfl (lv_at hl 0 rfl) ?_
      refine r_iln X dX10_jointOf_35 rfl (lv_at hl 2 rfl) ?_
      refine r_ic X dX10_jointOf_36 ?_
      obtain ⟨v6, hv6, h⟩ := bd1_ex h
      refine r_ki V (r_runV (As := [.int (iV a2), .int (iV 0)]) (rest := [.int (iV v5), .int (iV (3 + (f_X10_far v3 v4)))]) X Y V (c_X10_at l G σ0 a2 0 _  hv6) mv_X10_at wd_1008 ci_10 kd_118 ⟨rfl, rfl, Nat.le_of_ble_eq_true rfl, Nat.le_of_ble_eq_true rfl⟩ rfl rfl hl.1 (Nat.le_of_ble_eq_true rfl) ⟨Nat.le_refl 0, Nat.le_refl 0⟩ dX10_jointOf_37) (fun H locs V => ?_)
      have J7 : W p l e { frames := 2, cells := 0, slots := 0, locals := 44 } s m args below meth c H locs 0 0 (MQ below (uvQi G r σ0) args s 0 0 (uvA G)) (F0 m 48 ls [.int (iV (if wI v5 = wI v6 then 0 else 2)), .int (iV (3 + (f_X10_far v3 v4)))]) := by
        refine r_iadd X dX10_jointOf_48 ?_
        refine r_aln X dX10_jointOf_49 rfl (lv_at hl 0 rfl) ?_
        refine r_iln X dX10_jointOf_50 rfl (lv_at hl 2 rfl) ?_
        refine r_ic X dX10_jointOf_51 ?_
        obtain ⟨v8, hv8, h⟩ := bd1_ex h
        refine r_ki V (r_runV (As := [.int (iV a2), .int (iV 1)]) (rest := [.int (iV ((3 + (f_X10_far v3 v4)) + (if wI v5 = wI v6 then 0 else 2)))]) X Y V (c_X10_at l G σ0 a2 1 _  hv8) mv_X10_at wd_1008 ci_10 kd_118 ⟨rfl, rfl, Nat.le_of_ble_eq_true rfl, Nat.le_of_ble_eq_true rfl⟩ rfl rfl hl.1 (Nat.le_of_ble_eq_true rfl) ⟨Nat.le_refl 0, Nat.le_refl 0⟩ dX10_jointOf_52) (fun H locs V => ?_)
        refine r_aln X dX10_jointOf_55 rfl (lv_at hl 0 rfl) ?_
        refine r_iln X dX10_jointOf_56 rfl (lv_at hl 1 rfl) ?_
        refine r_ic X dX10_jointOf_57 ?_
        obtain ⟨v9, hv9, h⟩ := bd1_ex h
        refine r_ki V (r_runV (As := [.int (iV a1), .int (iV 0)]) (rest := [.int (iV v8), .int (iV ((3 + (f_X10_far v3 v4)) + (if wI v5 = wI v6 then 0 else 2)))]) X Y V (c_X10_at l G σ0 a1 0 _  hv9) mv_X10_at wd_1008 ci_10 kd_118 ⟨rfl, rfl, Nat.le_of_ble_eq_true rfl, Nat.le_of_ble_eq_true rfl⟩ rfl rfl hl.1 (Nat.le_of_ble_eq_true rfl) ⟨Nat.le_refl 0, Nat.le_refl 0⟩ dX10_jointOf_58) (fun H locs V => ?_)
        have J10 : W p l e { frames := 2, cells := 0, slots := 0, locals := 44 } s m args below meth c H locs 0 0 (MQ below (uvQi G r σ0) args s 0 0 (uvA G)) (F0 m 69 ls [.int (iV (if wI v8 = wI v9 then 0 else 2)), .int (iV ((3 + (f_X10_far v3 v4)) + (if wI v5 = wI v6 then 0 else 2)))]) := by
          refine r_iadd X dX10_jointOf_69 ?_
          exact r_ri X V (so1 h) rfl dX10_jointOf_70
        refine r_cne (cx := wI v8) (cy := wI v9) (tgt := 68) X rfl rfl dX10_jointOf_61 (by decide) (fun c11 => ?_) (fun c11 => ?_)
        · skip
          refine r_ic X dX10_jointOf_64 ?_
          refine r_goto (tgt := 69) X dX10_jointOf_65 (by decide) ?_
          rw [if_pos c11] at J10
          exact J10
        · skip
          refine r_ic X dX10_jointOf_68 ?_
          rw [if_neg c11] at J10
          exact J10
      refine r_cne (cx := wI v5) (cy := wI v6) (tgt := 47) X rfl rfl dX10_jointOf_40 (by decide) (fun c12 => ?_) (fun c12 => ?_)
      · skip
        refine r_ic X dX10_jointOf_43 ?_
        refine r_goto (tgt := 48) X dX10_jointOf_44 (by decide) ?_
        rw [if_pos c12] at J7
        exact J7
      · skip
        refine r_ic X dX10_jointOf_47 ?_
        rw [if_neg c12] at J7
        exact J7
  exact go _ _ _ X V

