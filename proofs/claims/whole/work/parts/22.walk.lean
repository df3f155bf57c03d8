set_option maxRecDepth 100000 in
set_option maxHeartbeats 4000000 in
theorem c_X4_add (l : Launch) (G : UG) (σ : St) (o : Int) (a1 : Int) (a2 : Int) (a3 : Int) (r : Int) (σ' : St) (ho : uvKd o = 4) (h : f_X4_add σ o a1 a2 a3 = some (r, σ')) : Met l yX4_add (.code yX4_add cX4_add 4 (Option.none : Option Jvm.ClassFile.FieldType) :: TB) { frames := 0, cells := 0, slots := 0, locals := 0 } (uvPc G σ [.ref (G.2.2.1 o), .int (iV a1), .int (iV a2), .int (iV a3)]) (uvQv G σ') 0 0 (uvA G) := by
  unfold f_X4_add at h
  refine r_met (own := RX4) (lv := [(0, .ref (G.2.2.1 o)), (1, .int (iV a1)), (2, .int (iV a2)), (3, .int (iV a3))]) (by decide) rfl (Nat.le_of_ble_eq_true rfl) rfl ?_
  intro p e s m below meth c ls X Y V hl
  have go : ∀ (args : Array Value) (H : Heap) (locs : List Loc), uvCx p m c cX4_add 4 RX4 s args meth (Option.none : Option Jvm.ClassFile.FieldType) → uvWo G σ s H locs → W p l e { frames := 0, cells := 0, slots := 0, locals := 0 } s m args below meth c H locs 0 0 (MQ below (uvQv G σ') args s 0 0 (uvA G)) (F0 m 0 ls []) := by
    intro args H locs X V
    refine r_aln X dX4_add_0 rfl (lv_at hl 0 rfl) ?_
    refine r_gi (kI := 3) X Y V ci_4 ho 3 rfl (by decide) rfl rfl wd_103 dX4_add_1 ?_
    refine r_lt (cx := wI (σ o 3)) (tgt := 56) X rfl dX4_add_4 (by decide) (fun c1 => ?_) (fun c1 => ?_)
    · replace h := ite_t c1 h
      exact r_rv X V (so2 h).2 dX4_add_56
    · replace h := ite_f c1 h
      refine r_aln X dX4_add_7 rfl (lv_at hl 0 rfl) ?_
      refine r_gi (kI := 3) X Y V ci_4 ho 3 rfl (by decide) rfl rfl wd_103 dX4_add_8 ?_
      refine r_bp X dX4_add_11 (by decide) ?_
      refine r_cge (cx := wI (σ o 3)) (cy := 8) (tgt := 56) X rfl rfl dX4_add_13 (by decide) (fun c2 => ?_) (fun c2 => ?_)
      · replace h := ite_t c2 h
        refine r_aln X dX4_add_16 rfl (lv_at hl 0 rfl) ?_
        refine r_gr X Y V ci_4 ho 0 rfl (rf4_0 ho) (by decide) rfl rfl wd_92 dX4_add_17 ?_
        refine r_aln X dX4_add_20 rfl (lv_at hl 0 rfl) ?_
        refine r_gi (kI := 3) X Y V ci_4 ho 3 rfl (by decide) rfl rfl wd_103 dX4_add_21 ?_
        refine r_iln X dX4_add_24 rfl (lv_at hl 1 rfl) ?_
        obtain ⟨σ3, hσ3, hiσ3, h⟩ := wrA_ex h
        refine r_ias X Y V (ka4_0 ho) (ln4_0 ho) hiσ3 hσ3 dX4_add_25 (fun H locs V => ?_)
        refine r_aln X dX4_add_26 rfl (lv_at hl 0 rfl) ?_
        refine r_gr X Y V ci_4 ho 1 rfl (rf4_1 ho) (by decide) rfl rfl wd_95 dX4_add_27 ?_
        refine r_aln X dX4_add_30 rfl (lv_at hl 0 rfl) ?_
        refine r_gi (kI := 3) X Y V ci_4 ho 3 rfl (by decide) rfl rfl wd_103 dX4_add_31 ?_
        refine r_iln X dX4_add_34 rfl (lv_at hl 2 rfl) ?_
        obtain ⟨σ4, hσ4, hiσ4, h⟩ := wrA_ex h
        refine r_ias X Y V (ka4_1 ho) (ln4_1 ho) hiσ4 hσ4 dX4_add_35 (fun H locs V => ?_)
        refine r_aln X dX4_add_36 rfl (lv_at hl 0 rfl) ?_
        refine r_gr X Y V ci_4 ho 2 rfl (rf4_2 ho) (by decide) rfl rfl wd_99 dX4_add_37 ?_
        refine r_aln X dX4_add_40 rfl (lv_at hl 0 rfl) ?_
        refine r_gi (kI := 3) X Y V ci_4 ho 3 rfl (by decide) rfl rfl wd_103 dX4_add_41 ?_
        refine r_iln X dX4_add_44 rfl (lv_at hl 3 rfl) ?_
        obtain ⟨σ5, hσ5, hiσ5, h⟩ := wrA_ex h
        refine r_ias X Y V (ka4_2 ho) (ln4_2 ho) hiσ5 hσ5 dX4_add_45 (fun H locs V => ?_)
        refine r_aln X dX4_add_46 rfl (lv_at hl 0 rfl) ?_
        refine r_dup X dX4_add_47 rfl ?_
        refine r_gi (kI := 3) X Y V ci_4 ho 3 rfl (by decide) rfl rfl wd_103 dX4_add_48 ?_
        refine r_ic X dX4_add_51 ?_
        refine r_iadd X dX4_add_52 ?_
        obtain ⟨σ6, hσ6, h⟩ := wrF_ex h
        refine r_pi X Y V ci_4 ho 3 rfl (by decide) rfl rfl rfl (tyX4_ok 3 (by decide)) wd_103 hσ6 dX4_add_53 (fun H locs V => ?_)
        exact r_rv X V (so2 h).2 dX4_add_56
      · replace h := ite_f c2 h
        exact r_rv X V (so2 h).2 dX4_add_56
  exact go _ _ _ X V

set_option maxRecDepth 100000 in
set_option maxHeartbeats 4000000 in
theorem wl_X4_become_7 {p : Program} {l : Launch} {e : Env} {s : State} {m : MethodId} {args : Array Value} {below : List Frame} {meth : Method} {c : Code} {G : UG} (X : uvCx p m c cX4_become 3 RX4 s args meth (Option.none : Option Jvm.ClassFile.FieldType)) (Y : uvGd G s s.heap) (o : Int) (x1 : Int) (ho : uvKd o = 4) (hx1 : uvKd x1 = 4) (r : Int) (σ' : St) (kx : St → Option (Int × St)) (hkx : ∀ (σ : St)  (H : Heap) (locs : List Loc) (ls : Array Slot), uvWo G σ s H locs → lv_has ls 3 [] → kx σ  = some (r, σ') → W p l e { frames := 1, cells := 0, slots := 0, locals := 23 } s m args below meth c H locs 0 0 (MQ below (uvQv G σ') args s 0 0 (uvA G)) (F0 m 49 ls [])) : ∀ (n : Nat) (σ : St) (x2 : Int) (H : Heap) (locs : List Loc) (ls : Array Slot), uvWo G σ s H locs → lv_has ls 3 [(0, .ref (G.2.2.1 o)), (1, .ref (G.2.2.1 x1)), (2, .int (iV x2))] → lp_X4_become_7 o x1 kx n σ x2 = some (r, σ') → W p l e { frames := 1, cells := 0, slots := 0, locals := 23 } s m args below meth c H locs 0 0 (MQ below (uvQv G σ') args s 0 0 (uvA G)) (F0 m 7 ls []) := by
  intro n
  induction n with
  | zero => intro σ x2 H locs ls V hl h; cases h
  | succ n ih =>
    intro σ x2 H locs ls V hl h
    rw [lp_X4_become_7] at h
    refine r_iln X dX4_become_7 rfl (lv_at hl 2 rfl) ?_
    refine r_bp X dX4_become_8 (by decide) ?_
    refine r_cge (cx := wI x2) (cy := 8) (tgt := 49) X rfl rfl dX4_become_10 (by decide) (fun c2 => ?_) (fun c2 => ?_)
    · replace h := ite_t c2 h
      refine r_iln X dX4_become_13 rfl (lv_at hl 2 rfl) ?_
      refine r_aln X dX4_become_14 rfl (lv_at hl 1 rfl) ?_
      refine r_gi (kI := 3) X Y V ci_4 hx1 3 rfl (by decide) rfl rfl wd_103 dX4_become_15 ?_
      refine r_cge (cx := wI x2) (cy := wI (σ x1 3)) (tgt := 49) X rfl rfl dX4_become_18 (by decide) (fun c3 => ?_) (fun c3 => ?_)
      · replace h := ite_t c3 h
        refine r_aln X dX4_become_21 rfl (lv_at hl 0 rfl) ?_
        refine r_aln X dX4_become_22 rfl (lv_at hl 1 rfl) ?_
        refine r_gr X Y V ci_4 hx1 0 rfl (rf4_0 hx1) (by decide) rfl rfl wd_92 dX4_become_23 ?_
        refine r_iln X dX4_become_26 rfl (lv_at hl 2 rfl) ?_
        obtain ⟨v4, hv4, hiv4, h⟩ := rdA_ex h
        refine r_ial X Y V (ka4_0 hx1) (ln4_0 hx1) hiv4 hv4 dX4_become_27 ?_
        refine r_aln X dX4_become_28 rfl (lv_at hl 1 rfl) ?_
        refine r_gr X Y V ci_4 hx1 1 rfl (rf4_1 hx1) (by decide) rfl rfl wd_95 dX4_become_29 ?_
        refine r_iln X dX4_become_32 rfl (lv_at hl 2 rfl) ?_
        obtain ⟨v5, hv5, hiv5, h⟩ := rdA_ex h
        refine r_ial X Y V (ka4_1 hx1) (ln4_1 hx1) hiv5 hv5 dX4_become_33 ?_
        refine r_aln X dX4_become_34 rfl (lv_at hl 1 rfl) ?_
        refine r_gr X Y V ci_4 hx1 2 rfl (rf4_2 hx1) (by decide) rfl rfl wd_99 dX4_become_35 ?_
        refine r_iln X dX4_become_38 rfl (lv_at hl 2 rfl) ?_
        obtain ⟨v6, hv6, hiv6, h⟩ := rdA_ex h
        refine r_ial X Y V (ka4_2 hx1) (ln4_2 hx1) hiv6 hv6 dX4_become_39 ?_
        obtain ⟨v7, σ8, hv7, h⟩ := bd2_ex h
        refine r_kv V (r_runV (As := [.int (iV v4), .int (iV v5), .int (iV v6)]) (rest := []) X Y V (c_X4_add l G σ o v4 v5 v6 _ _ ho hv7) mv_X4_add wd_580 ci_4 ho ⟨rfl, rfl, Nat.le_of_ble_eq_true rfl, Nat.le_of_ble_eq_true rfl⟩ rfl rfl hl.1 (Nat.le_of_ble_eq_true rfl) ⟨Nat.le_refl 0, Nat.le_refl 0⟩ dX4_become_40) (fun H locs V => ?_)
        refine r_inc (kk := 2) (lv' := [(2, .int (iV (x2 + 1))), (0, .ref (G.2.2.1 o)), (1, .ref (G.2.2.1 x1))]) X dX4_become_43 hl rfl (by decide) rfl (fun ls hl => ?_)
        refine r_goto (tgt := 7) X dX4_become_46 (by decide) ?_
        exact ih σ8 (x2 + 1) _ _ _ V (lv_sub hl [1, 2, 0] rfl) h
      · replace h := ite_f c3 h
        exact hkx σ  _ _ _ V (lv_sub hl [] rfl) h
    · replace h := ite_f c2 h
      exact hkx σ  _ _ _ V (lv_sub hl [] rfl) h

set_option maxRecDepth 100000 in
set_option maxHeartbeats 4000000 in
theorem c_X4_become (l : Launch) (G : UG) (σ : St) (o : Int) (a1 : Int) (r : Int) (σ' : St) (ho : uvKd o = 4) (ha1 : uvKd a1 = 4) (h : f_X4_become σ o a1 = some (r, σ')) : Met l yX4_become (.code yX4_become cX4_become 3 (Option.none : Option Jvm.ClassFile.FieldType) :: TB) { frames := 1, cells := 0, slots := 0, locals := 23 } (uvPc G σ [.ref (G.2.2.1 o), .ref (G.2.2.1 a1)]) (uvQv G σ') 0 0 (uvA G) := by
  unfold f_X4_become at h
  refine r_met (own := RX4) (lv := [(0, .ref (G.2.2.1 o)), (1, .ref (G.2.2.1 a1))]) (by decide) rfl (Nat.le_of_ble_eq_true rfl) rfl ?_
  intro p e s m below meth c ls X Y V hl
  have go : ∀ (args : Array Value) (H : Heap) (locs : List Loc), uvCx p m c cX4_become 3 RX4 s args meth (Option.none : Option Jvm.ClassFile.FieldType) → uvWo G σ s H locs → W p l e { frames := 1, cells := 0, slots := 0, locals := 23 } s m args below meth c H locs 0 0 (MQ below (uvQv G σ') args s 0 0 (uvA G)) (F0 m 0 ls []) := by
    intro args H locs X V
    refine r_aln X dX4_become_0 rfl (lv_at hl 0 rfl) ?_
    refine r_ic X dX4_become_1 ?_
    obtain ⟨σ1, hσ1, h⟩ := wrF_ex h
    refine r_pi X Y V ci_4 ho 3 rfl (by decide) rfl rfl rfl (tyX4_ok 3 (by decide)) wd_103 hσ1 dX4_become_2 (fun H locs V => ?_)
    refine r_ic X dX4_become_5 ?_
    refine r_isn (lv' := [(2, .int (iV 0)), (0, .ref (G.2.2.1 o)), (1, .ref (G.2.2.1 a1))]) X dX4_become_6 rfl hl (by decide) rfl (fun ls hl => ?_)
    refine wl_X4_become_7 X Y o a1 ho ha1 r σ' _ (fun σ9  H locs ls V hl h => ?_) 1000 σ1 0 _ _ _ V (lv_sub hl [1, 2, 0] rfl) h
    exact r_rv X V (so2 h).2 dX4_become_49
  exact go _ _ _ X V

set_option maxRecDepth 100000 in
set_option maxHeartbeats 4000000 in
theorem c_X5_end (l : Launch) (G : UG) (σ : St) (o : Int) (a1 : Int) (r : Int) (σ' : St) (ho : uvKd o = 5) (h : f_X5_end σ o a1 = some (r, σ')) : Met l yX5_end (.code yX5_end cX5_end 2 (Option.none : Option Jvm.ClassFile.FieldType) :: TB) { frames := 1, cells := 0, slots := 0, locals := 21 } (uvPc G σ [.ref (G.2.2.1 o), .int (iV a1)]) (uvQv G σ') 0 0 (uvA G) := by
  unfold f_X5_end at h
  refine r_met (own := RX5) (lv := [(0, .ref (G.2.2.1 o)), (1, .int (iV a1))]) (by decide) rfl (Nat.le_of_ble_eq_true rfl) rfl ?_
  intro p e s m below meth c ls X Y V hl
  have go : ∀ (args : Array Value) (H : Heap) (locs : List Loc), uvCx p m c cX5_end 2 RX5 s args meth (Option.none : Option Jvm.ClassFile.FieldType) → uvWo G σ s H locs → W p l e { frames := 1, cells := 0, slots := 0, locals := 21 } s m args below meth c H locs 0 0 (MQ below (uvQv G σ') args s 0 0 (uvA G)) (F0 m 0 ls []) := by
    intro args H locs X V
    refine r_aln X dX5_end_0 rfl (lv_at hl 0 rfl) ?_
    refine r_iln X dX5_end_1 rfl (lv_at hl 1 rfl) ?_
    obtain ⟨v1, σ2, hv1, h⟩ := bd2_ex h
    refine r_kv V (r_runV (As := [.int (iV a1)]) (rest := []) X Y V (c_X5_begin l G σ o a1 _ _ ho hv1) mv_X5_begin wd_306 ci_5 ho ⟨rfl, rfl, Nat.le_of_ble_eq_true rfl, Nat.le_of_ble_eq_true rfl⟩ rfl rfl hl.1 (Nat.le_of_ble_eq_true rfl) ⟨Nat.le_refl 0, Nat.le_refl 0⟩ dX5_end_2) (fun H locs V => ?_)
    refine r_aln X dX5_end_5 rfl (lv_at hl 0 rfl) ?_
    refine r_gr X Y V ci_5 ho 0 rfl (rf5_0 ho) (by decide) rfl rfl wd_281 dX5_end_6 ?_
    refine r_iln X dX5_end_9 rfl (lv_at hl 1 rfl) ?_
    refine r_ic X dX5_end_10 ?_
    obtain ⟨σ3, hσ3, hiσ3, h⟩ := wrA_ex h
    refine r_ias X Y V (ka5_0 ho) rfl hiσ3 hσ3 dX5_end_11 (fun H locs V => ?_)
    refine r_aln X dX5_end_12 rfl (lv_at hl 0 rfl) ?_
    refine r_gr X Y V ci_5 ho 3 rfl (rf5_3 ho) (by decide) rfl rfl wd_287 dX5_end_13 ?_
    refine r_iln X dX5_end_16 rfl (lv_at hl 1 rfl) ?_
    refine r_ic X dX5_end_17 ?_
    obtain ⟨σ4, hσ4, hiσ4, h⟩ := wrA_ex h
    refine r_ias X Y V (ka5_3 ho) rfl hiσ4 hσ4 dX5_end_18 (fun H locs V => ?_)
    exact r_rv X V (so2 h).2 dX5_end_19
  exact go _ _ _ X V

set_option maxRecDepth 100000 in
set_option maxHeartbeats 4000000 in
theorem c_X6_add (l : Launch) (G : UG) (σ : St) (a1 : Int) (r : Int) (σ' : St)  (h : f_X6_add σ a1 = some (r, σ')) : Met l yX6_add (.code yX6_add cX6_add 2 (Option.none : Option Jvm.ClassFile.FieldType) :: TB) { frames := 0, cells := 0, slots := 0, locals := 0 } (uvPc G σ [.ref (G.2.2.1 21), .int (iV a1)]) (uvQv G σ') 0 0 (uvA G) := by
  unfold f_X6_add at h
  refine r_met (own := RX6) (lv := [(0, .ref (G.2.2.1 21)), (1, .int (iV a1))]) (by decide) rfl (Nat.le_of_ble_eq_true rfl) rfl ?_
  intro p e s m below meth c ls X Y V hl
  have go : ∀ (args : Array Value) (H : Heap) (locs : List Loc), uvCx p m c cX6_add 2 RX6 s args meth (Option.none : Option Jvm.ClassFile.FieldType) → uvWo G σ s H locs → W p l e { frames := 0, cells := 0, slots := 0, locals := 0 } s m args below meth c H locs 0 0 (MQ below (uvQv G σ') args s 0 0 (uvA G)) (F0 m 0 ls []) := by
    intro args H locs X V
    refine r_aln X dX6_add_0 rfl (lv_at hl 0 rfl) ?_
    refine r_gi (kI := 3) X Y V ci_6 kd_21 3 rfl (by decide) rfl rfl wd_176 dX6_add_1 ?_
    refine r_lt (cx := wI (σ 21 3)) (tgt := 36) X rfl dX6_add_4 (by decide) (fun c1 => ?_) (fun c1 => ?_)
    · replace h := ite_t c1 h
      exact r_rv X V (so2 h).2 dX6_add_36
    · replace h := ite_f c1 h
      refine r_aln X dX6_add_7 rfl (lv_at hl 0 rfl) ?_
      refine r_gi (kI := 3) X Y V ci_6 kd_21 3 rfl (by decide) rfl rfl wd_176 dX6_add_8 ?_
      refine r_bp X dX6_add_11 (by decide) ?_
      refine r_cge (cx := wI (σ 21 3)) (cy := 120) (tgt := 36) X rfl rfl dX6_add_13 (by decide) (fun c2 => ?_) (fun c2 => ?_)
      · replace h := ite_t c2 h
        refine r_aln X dX6_add_16 rfl (lv_at hl 0 rfl) ?_
        refine r_gr X Y V ci_6 kd_21 0 rfl rfl (by decide) rfl rfl wd_171 dX6_add_17 ?_
        refine r_aln X dX6_add_20 rfl (lv_at hl 0 rfl) ?_
        refine r_gi (kI := 3) X Y V ci_6 kd_21 3 rfl (by decide) rfl rfl wd_176 dX6_add_21 ?_
        refine r_iln X dX6_add_24 rfl (lv_at hl 1 rfl) ?_
        obtain ⟨σ3, hσ3, hiσ3, h⟩ := wrA_ex h
        refine r_ias X Y V kd_22 ln_22 hiσ3 hσ3 dX6_add_25 (fun H locs V => ?_)
        refine r_aln X dX6_add_26 rfl (lv_at hl 0 rfl) ?_
        refine r_dup X dX6_add_27 rfl ?_
        refine r_gi (kI := 3) X Y V ci_6 kd_21 3 rfl (by decide) rfl rfl wd_176 dX6_add_28 ?_
        refine r_ic X dX6_add_31 ?_
        refine r_iadd X dX6_add_32 ?_
        obtain ⟨σ4, hσ4, h⟩ := wrF_ex h
        refine r_pi X Y V ci_6 kd_21 3 rfl (by decide) rfl rfl rfl (tyX6_ok 3 (by decide)) wd_176 hσ4 dX6_add_33 (fun H locs V => ?_)
        exact r_rv X V (so2 h).2 dX6_add_36
      · replace h := ite_f c2 h
        exact r_rv X V (so2 h).2 dX6_add_36
  exact go _ _ _ X V

set_option maxRecDepth 100000 in
set_option maxHeartbeats 4000000 in
theorem c_X7_removeAll (l : Launch) (G : UG) (σ : St) (o : Int) (r : Int) (σ' : St) (ho : uvKd o = 7) (h : f_X7_removeAll σ o = some (r, σ')) : Met l yX7_removeAll (.code yX7_removeAll cX7_removeAll 1 (Option.none : Option Jvm.ClassFile.FieldType) :: TB) { frames := 0, cells := 0, slots := 0, locals := 0 } (uvPc G σ [.ref (G.2.2.1 o)]) (uvQv G σ') 0 0 (uvA G) := by
  unfold f_X7_removeAll at h
  refine r_met (own := RX7) (lv := [(0, .ref (G.2.2.1 o))]) (by decide) rfl (Nat.le_of_ble_eq_true rfl) rfl ?_
  intro p e s m below meth c ls X Y V hl
  have go : ∀ (args : Array Value) (H : Heap) (locs : List Loc), uvCx p m c cX7_removeAll 1 RX7 s args meth (Option.none : Option Jvm.ClassFile.FieldType) → uvWo G σ s H locs → W p l e { frames := 0, cells := 0, slots := 0, locals := 0 } s m args below meth c H locs 0 0 (MQ below (uvQv G σ') args s 0 0 (uvA G)) (F0 m 0 ls []) := by
    intro args H locs X V
    refine r_aln X dX7_removeAll_0 rfl (lv_at hl 0 rfl) ?_
    refine r_ic X dX7_removeAll_1 ?_
    obtain ⟨σ1, hσ1, h⟩ := wrF_ex h
    refine r_pi X Y V ci_7 ho 6 rfl (by decide) rfl rfl rfl (tyX7_ok 6 (by decide)) wd_137 hσ1 dX7_removeAll_2 (fun H locs V => ?_)
    refine r_aln X dX7_removeAll_5 rfl (lv_at hl 0 rfl) ?_
    refine r_ic X dX7_removeAll_6 ?_
    obtain ⟨σ2, hσ2, h⟩ := wrF_ex h
    refine r_pi X Y V ci_7 ho 7 rfl (by decide) rfl rfl rfl (tyX7_ok 7 (by decide)) wd_138 hσ2 dX7_removeAll_7 (fun H locs V => ?_)
    refine r_aln X dX7_removeAll_10 rfl (lv_at hl 0 rfl) ?_
    refine r_ic X dX7_removeAll_11 ?_
    obtain ⟨σ3, hσ3, h⟩ := wrF_ex h
    refine r_pi X Y V ci_7 ho 8 rfl (by decide) rfl rfl rfl (tyX7_ok 8 (by decide)) wd_140 hσ3 dX7_removeAll_12 (fun H locs V => ?_)
    exact r_rv X V (so2 h).2 dX7_removeAll_15
  exact go _ _ _ X V

set_option maxRecDepth 100000 in
set_option maxHeartbeats 4000000 in
theorem wl_X6_look_0 {p : Program} {l : Launch} {e : Env} {s : State} {m : MethodId} {args : Array Value} {below : List Frame} {meth : Method} {c : Code} {G : UG} (X : uvCx p m c cX6_look 1 RX6 s args meth (Option.some Jvm.ClassFile.FieldType.int)) (Y : uvGd G s s.heap)   (r : Int) (σ' : St) (kx : St → Option (Int × St)) (hkx : ∀ (σ : St)  (H : Heap) (locs : List Loc) (ls : Array Slot), uvWo G σ s H locs → lv_has ls 1 [(0, .ref (G.2.2.1 21))] → kx σ  = some (r, σ') → W p l e { frames := 0, cells := 0, slots := 0, locals := 0 } s m args below meth c H locs 0 0 (MQ below (uvQi G r σ') args s 0 0 (uvA G)) (F0 m 38 ls [])) : ∀ (n : Nat) (σ : St)  (H : Heap) (locs : List Loc) (ls : Array Slot), uvWo G σ s H locs → lv_has ls 1 [(0, .ref (G.2.2.1 21))] → lp_X6_look_0 kx n σ  = some (r, σ') → W p l e { frames := 0, cells := 0, slots := 0, locals := 0 } s m args below meth c H locs 0 0 (MQ below (uvQi G r σ') args s 0 0 (uvA G)) (F0 m 0 ls []) := by
  intro n
  induction n with
  | zero => intro σ  H locs ls V hl h; cases h
  | succ n ih =>
    intro σ  H locs ls V hl h
    rw [lp_X6_look_0] at h
    refine r_aln X dX6_look_0 rfl (lv_at hl 0 rfl) ?_
    refine r_gi (kI := 5) X Y V ci_6 kd_21 5 rfl (by decide) rfl rfl wd_180 dX6_look_1 ?_
    refine r_aln X dX6_look_4 rfl (lv_at hl 0 rfl) ?_
    refine r_gi (kI := 3) X Y V ci_6 kd_21 3 rfl (by decide) rfl rfl wd_176 dX6_look_5 ?_
    refine r_cge (cx := wI (σ 21 5)) (cy := wI (σ 21 3)) (tgt := 38) X rfl rfl dX6_look_8 (by decide) (fun c1 => ?_) (fun c1 => ?_)
    · replace h := ite_t c1 h
      refine r_aln X dX6_look_11 rfl (lv_at hl 0 rfl) ?_
      refine r_gr X Y V ci_6 kd_21 0 rfl rfl (by decide) rfl rfl wd_171 dX6_look_12 ?_
      refine r_aln X dX6_look_15 rfl (lv_at hl 0 rfl) ?_
      refine r_gi (kI := 5) X Y V ci_6 kd_21 5 rfl (by decide) rfl rfl wd_180 dX6_look_16 ?_
      obtain ⟨v2, hv2, hiv2, h⟩ := rdA_ex h
      refine r_ial X Y V kd_22 ln_22 hiv2 hv2 dX6_look_19 ?_
      refine r_bp X dX6_look_20 (by decide) ?_
      refine r_cne (cx := wI v2) (cy := 32) (tgt := 38) X rfl rfl dX6_look_22 (by decide) (fun c3 => ?_) (fun c3 => ?_)
      · replace h := ite_t c3 h
        refine r_aln X dX6_look_25 rfl (lv_at hl 0 rfl) ?_
        refine r_dup X dX6_look_26 rfl ?_
        refine r_gi (kI := 5) X Y V ci_6 kd_21 5 rfl (by decide) rfl rfl wd_180 dX6_look_27 ?_
        refine r_ic X dX6_look_30 ?_
        refine r_iadd X dX6_look_31 ?_
        obtain ⟨σ4, hσ4, h⟩ := wrF_ex h
        refine r_pi X Y V ci_6 kd_21 5 rfl (by decide) rfl rfl rfl (tyX6_ok 5 (by decide)) wd_180 hσ4 dX6_look_32 (fun H locs V => ?_)
        refine r_goto (tgt := 0) X dX6_look_35 (by decide) ?_
        exact ih σ4  _ _ _ V (lv_sub hl [0] rfl) h
      · replace h := ite_f c3 h
        exact hkx σ  _ _ _ V (lv_sub hl [0] rfl) h
    · replace h := ite_f c1 h
      exact hkx σ  _ _ _ V (lv_sub hl [0] rfl) h

set_option maxRecDepth 100000 in
set_option maxHeartbeats 4000000 in
theorem wj_X6_look_38 {p : Program} {l : Launch} {e : Env} {s : State} {m : MethodId} {args : Array Value} {below : List Frame} {meth : Method} {c : Code} {G : UG} (X : uvCx p m c cX6_look 1 RX6 s args meth (Option.some Jvm.ClassFile.FieldType.int)) (Y : uvGd G s s.heap) (r : Int) (σ' : St) (σ : St)   (H : Heap) (locs : List Loc) (ls : Array Slot) (V : uvWo G σ s H locs) (hl : lv_has ls 1 [(0, .ref (G.2.2.1 21))]) (h : jn_X6_look_38 σ = some (r, σ')) : W p l e { frames := 0, cells := 0, slots := 0, locals := 0 } s m args below meth c H locs 0 0 (MQ below (uvQi G r σ') args s 0 0 (uvA G)) (F0 m 38 ls []) := by
  unfold jn_X6_look_38 at h
  refine r_aln X dX6_look_38 rfl (lv_at hl 0 rfl) ?_
  refine r_gi (kI := 5) X Y V ci_6 kd_21 5 rfl (by decide) rfl rfl wd_180 dX6_look_39 ?_
  refine r_aln X dX6_look_42 rfl (lv_at hl 0 rfl) ?_
  refine r_gi (kI := 3) X Y V ci_6 kd_21 3 rfl (by decide) rfl rfl wd_176 dX6_look_43 ?_
  refine r_cge (cx := wI (σ 21 5)) (cy := wI (σ 21 3)) (tgt := 61) X rfl rfl dX6_look_46 (by decide) (fun c6 => ?_) (fun c6 => ?_)
  · replace h := ite_t c6 h
    refine r_aln X dX6_look_49 rfl (lv_at hl 0 rfl) ?_
    refine r_gr X Y V ci_6 kd_21 0 rfl rfl (by decide) rfl rfl wd_171 dX6_look_50 ?_
    refine r_aln X dX6_look_53 rfl (lv_at hl 0 rfl) ?_
    refine r_gi (kI := 5) X Y V ci_6 kd_21 5 rfl (by decide) rfl rfl wd_180 dX6_look_54 ?_
    obtain ⟨v7, hv7, hiv7, h⟩ := rdA_ex h
    refine r_ial X Y V kd_22 ln_22 hiv7 hv7 dX6_look_57 ?_
    refine r_goto (tgt := 62) X dX6_look_58 (by decide) ?_
    exact r_ri X V (so2 h).1 (so2 h).2 dX6_look_62
  · replace h := ite_f c6 h
    refine r_ic X dX6_look_61 ?_
    exact r_ri X V (so2 h).1 (so2 h).2 dX6_look_62

set_option maxRecDepth 100000 in
set_option maxHeartbeats 4000000 in
theorem c_X6_look (l : Launch) (G : UG) (σ : St)  (r : Int) (σ' : St)  (h : f_X6_look σ = some (r, σ')) : Met l yX6_look (.code yX6_look cX6_look 1 (Option.some Jvm.ClassFile.FieldType.int) :: TB) { frames := 0, cells := 0, slots := 0, locals := 0 } (uvPc G σ [.ref (G.2.2.1 21)]) (uvQi G r σ') 0 0 (uvA G) := by
  unfold f_X6_look at h
  refine r_met (own := RX6) (lv := [(0, .ref (G.2.2.1 21))]) (by decide) rfl (Nat.le_of_ble_eq_true rfl) rfl ?_
  intro p e s m below meth c ls X Y V hl
  have go : ∀ (args : Array Value) (H : Heap) (locs : List Loc), uvCx p m c cX6_look 1 RX6 s args meth (Option.some Jvm.ClassFile.FieldType.int) → uvWo G σ s H locs → W p l e { frames := 0, cells := 0, slots := 0, locals := 0 } s m args below meth c H locs 0 0 (MQ below (uvQi G r σ') args s 0 0 (uvA G)) (F0 m 0 ls []) := by
    intro args H locs X V
    refine wl_X6_look_0 X Y   r σ' _ (fun σ5  H locs ls V hl h => ?_) 1000 σ  _ _ _ V (lv_sub hl [0] rfl) h
    exact wj_X6_look_38 X Y r σ' σ5   _ _ _ V (lv_sub hl [0] rfl) h
  exact go _ _ _ X V

set_option maxRecDepth 100000 in
set_option maxHeartbeats 4000000 in
theorem c_X6_fail (l : Launch) (G : UG) (σ : St)  (r : Int) (σ' : St)  (h : f_X6_fail σ = some (r, σ')) : Met l yX6_fail (.code yX6_fail cX6_fail 1 (Option.some Jvm.ClassFile.FieldType.int) :: TB) { frames := 0, cells := 0, slots := 0, locals := 0 } (uvPc G σ [.ref (G.2.2.1 21)]) (uvQi G r σ') 0 0 (uvA G) := by
  unfold f_X6_fail at h
  refine r_met (own := RX6) (lv := [(0, .ref (G.2.2.1 21))]) (by decide) rfl (Nat.le_of_ble_eq_true rfl) rfl ?_
  intro p e s m below meth c ls X Y V hl
  have go : ∀ (args : Array Value) (H : Heap) (locs : List Loc), uvCx p m c cX6_fail 1 RX6 s args meth (Option.some Jvm.ClassFile.FieldType.int) → uvWo G σ s H locs → W p l e { frames := 0, cells := 0, slots := 0, locals := 0 } s m args below meth c H locs 0 0 (MQ below (uvQi G r σ') args s 0 0 (uvA G)) (F0 m 0 ls []) := by
    intro args H locs X V
    refine r_aln X dX6_fail_0 rfl (lv_at hl 0 rfl) ?_
    refine r_aln X dX6_fail_1 rfl (lv_at hl 0 rfl) ?_
    refine r_gi (kI := 5) X Y V ci_6 kd_21 5 rfl (by decide) rfl rfl wd_180 dX6_fail_2 ?_
    obtain ⟨σ1, hσ1, h⟩ := wrF_ex h
    refine r_pi X Y V ci_6 kd_21 6 rfl (by decide) rfl rfl rfl (tyX6_ok 6 (by decide)) wd_181 hσ1 dX6_fail_5 (fun H locs V => ?_)
    refine r_ic X dX6_fail_8 ?_
    exact r_ri X V (so2 h).1 (so2 h).2 dX6_fail_9
  exact go _ _ _ X V

set_option maxRecDepth 100000 in
set_option maxHeartbeats 4000000 in
theorem wl_X6_readWord_7 {p : Program} {l : Launch} {e : Env} {s : State} {m : MethodId} {args : Array Value} {below : List Frame} {meth : Method} {c : Code} {G : UG} (X : uvCx p m c cX6_readWord 4 RX6 s args meth (Option.some Jvm.ClassFile.FieldType.boolean)) (Y : uvGd G s s.heap) (x1 : Int) (x2 : Int) (hx1 : x1 = 0 ∨ x1 = 1) (r : Int) (σ' : St) (kx : St → Option (Int × St)) (hkx : ∀ (σ : St)  (H : Heap) (locs : List Loc) (ls : Array Slot), uvWo G σ s H locs → lv_has ls 4 [] → kx σ  = some (r, σ') → W p l e { frames := 4, cells := 0, slots := 0, locals := 141 } s m args below meth c H locs 0 0 (MQ below (uvQz G r σ') args s 0 0 (uvA G)) (F0 m 78 ls [])) : ∀ (n : Nat) (σ : St) (x3 : Int) (H : Heap) (locs : List Loc) (ls : Array Slot), uvWo G σ s H locs → lv_has ls 4 [(0, .ref (G.2.2.1 21)), (1, .ref (G.2.2.2.1 (x1 : Int).toNat)), (2, .int (iV x2)), (3, .int (iV x3))] → lp_X6_readWord_7 x1 x2 kx n σ x3 = some (r, σ') → W p l e { frames := 4, cells := 0, slots := 0, locals := 141 } s m args below meth c H locs 0 0 (MQ below (uvQz G r σ') args s 0 0 (uvA G)) (F0 m 7 ls []) := by
  intro n
  induction n with
  | zero => intro σ x3 H locs ls V hl h; cases h
  | succ n ih =>
    intro σ x3 H locs ls V hl h
    rw [lp_X6_readWord_7] at h
    refine r_iln X dX6_readWord_7 rfl (lv_at hl 3 rfl) ?_
    refine r_aln X dX6_readWord_8 rfl (lv_at hl 1 rfl) ?_
    refine r_slen X Y V hx1 wd_473 (Nat.le_of_ble_eq_true rfl) (Nat.le_of_ble_eq_true rfl) hl.1 (Nat.le_of_ble_eq_true rfl) ⟨Nat.le_of_ble_eq_true rfl, Nat.le_of_ble_eq_true rfl⟩ dX6_readWord_9 (fun H locs V => ?_)
    refine r_cge (cx := wI x3) (cy := wI (sLen x1)) (tgt := 78) X rfl rfl dX6_readWord_12 (by decide) (fun c1 => ?_) (fun c1 => ?_)
    · replace h := ite_t c1 h
      refine r_aln X dX6_readWord_15 rfl (lv_at hl 0 rfl) ?_
      refine r_gi (kI := 5) X Y V ci_6 kd_21 5 rfl (by decide) rfl rfl wd_180 dX6_readWord_16 ?_
      refine r_aln X dX6_readWord_19 rfl (lv_at hl 0 rfl) ?_
      refine r_gi (kI := 3) X Y V ci_6 kd_21 3 rfl (by decide) rfl rfl wd_176 dX6_readWord_20 ?_
      refine r_clt (cx := wI (σ 21 5)) (cy := wI (σ 21 3)) (tgt := 33) X rfl rfl dX6_readWord_23 (by decide) (fun c2 => ?_) (fun c2 => ?_)
      · replace h := ite_t c2 h
        refine r_aln X dX6_readWord_33 rfl (lv_at hl 0 rfl) ?_
        refine r_gr X Y V ci_6 kd_21 0 rfl rfl (by decide) rfl rfl wd_171 dX6_readWord_34 ?_
        refine r_aln X dX6_readWord_37 rfl (lv_at hl 0 rfl) ?_
        refine r_gi (kI := 5) X Y V ci_6 kd_21 5 rfl (by decide) rfl rfl wd_180 dX6_readWord_38 ?_
        obtain ⟨v3, hv3, hiv3, h⟩ := rdA_ex h
        refine r_ial X Y V kd_22 ln_22 hiv3 hv3 dX6_readWord_41 ?_
        refine r_aln X dX6_readWord_42 rfl (lv_at hl 1 rfl) ?_
        refine r_iln X dX6_readWord_43 rfl (lv_at hl 3 rfl) ?_
        obtain ⟨hiq4, h⟩ := ite_some h
        refine r_schr X Y V hx1 hiq4 wd_487 (Nat.le_of_ble_eq_true rfl) (Nat.le_of_ble_eq_true rfl) hl.1 (Nat.le_of_ble_eq_true rfl) ⟨Nat.le_of_ble_eq_true rfl, Nat.le_of_ble_eq_true rfl⟩ dX6_readWord_44 (fun H locs V => ?_)
        refine r_ceq (cx := wI v3) (cy := wI (sChr x1 x3)) (tgt := 62) X rfl rfl dX6_readWord_47 (by decide) (fun c5 => ?_) (fun c5 => ?_)
        · replace h := ite_t c5 h
          refine r_aln X dX6_readWord_62 rfl (lv_at hl 0 rfl) ?_
          refine r_dup X dX6_readWord_63 rfl ?_
          refine r_gi (kI := 5) X Y V ci_6 kd_21 5 rfl (by decide) rfl rfl wd_180 dX6_readWord_64 ?_
          refine r_ic X dX6_readWord_67 ?_
          refine r_iadd X dX6_readWord_68 ?_
          obtain ⟨σ6, hσ6, h⟩ := wrF_ex h
          refine r_pi X Y V ci_6 kd_21 5 rfl (by decide) rfl rfl rfl (tyX6_ok 5 (by decide)) wd_180 hσ6 dX6_readWord_69 (fun H locs V => ?_)
          refine r_inc (kk := 3) (lv' := [(3, .int (iV (x3 + 1))), (0, .ref (G.2.2.1 21)), (1, .ref (G.2.2.2.1 (x1 : Int).toNat)), (2, .int (iV x2))]) X dX6_readWord_72 hl rfl (by decide) rfl (fun ls hl => ?_)
          refine r_goto (tgt := 7) X dX6_readWord_75 (by decide) ?_
          exact ih σ6 (x3 + 1) _ _ _ V (lv_sub hl [1, 2, 3, 0] rfl) h
        · replace h := ite_f c5 h
          refine r_aln X dX6_readWord_50 rfl (lv_at hl 0 rfl) ?_
          refine r_iln X dX6_readWord_51 rfl (lv_at hl 2 rfl) ?_
          obtain ⟨σ7, hσ7, h⟩ := wrF_ex h
          refine r_pi X Y V ci_6 kd_21 5 rfl (by decide) rfl rfl rfl (tyX6_ok 5 (by decide)) wd_180 hσ7 dX6_readWord_52 (fun H locs V => ?_)
          refine r_aln X dX6_readWord_55 rfl (lv_at hl 0 rfl) ?_
          obtain ⟨v8, σ9, hv8, h⟩ := bd2_ex h
          refine r_ki V (r_runV (As := []) (rest := []) X Y V (c_X6_fail l G σ7  _ _  hv8) mv_X6_fail wd_483 ci_6 kd_21 ⟨rfl, rfl, Nat.le_of_ble_eq_true rfl, Nat.le_of_ble_eq_true rfl⟩ rfl rfl hl.1 (Nat.le_of_ble_eq_true rfl) ⟨Nat.le_refl 0, Nat.le_refl 0⟩ dX6_readWord_56) (fun H locs V => ?_)
          refine r_pop X dX6_readWord_59 rfl ?_
          refine r_ic X dX6_readWord_60 ?_
          exact r_rz X V (Or.inl rfl) (so2 h).1 (so2 h).2 dX6_readWord_61
      · replace h := ite_f c2 h
        refine r_aln X dX6_readWord_26 rfl (lv_at hl 0 rfl) ?_
        obtain ⟨v10, σ11, hv10, h⟩ := bd2_ex h
        refine r_ki V (r_runV (As := []) (rest := []) X Y V (c_X6_fail l G σ  _ _  hv10) mv_X6_fail wd_483 ci_6 kd_21 ⟨rfl, rfl, Nat.le_of_ble_eq_true rfl, Nat.le_of_ble_eq_true rfl⟩ rfl rfl hl.1 (Nat.le_of_ble_eq_true rfl) ⟨Nat.le_refl 0, Nat.le_refl 0⟩ dX6_readWord_27) (fun H locs V => ?_)
        refine r_pop X dX6_readWord_30 rfl ?_
        refine r_ic X dX6_readWord_31 ?_
        exact r_rz X V (Or.inl rfl) (so2 h).1 (so2 h).2 dX6_readWord_32
    · replace h := ite_f c1 h
      exact hkx σ  _ _ _ V (lv_sub hl [] rfl) h

set_option maxRecDepth 100000 in
set_option maxHeartbeats 4000000 in
theorem c_X6_readWord (l : Launch) (G : UG) (σ : St) (a1 : Int) (r : Int) (σ' : St) (ha1 : a1 = 0 ∨ a1 = 1) (h : f_X6_readWord σ a1 = some (r, σ')) : Met l yX6_readWord (.code yX6_readWord cX6_readWord 4 (Option.some Jvm.ClassFile.FieldType.boolean) :: TB) { frames := 4, cells := 0, slots := 0, locals := 141 } (uvPc G σ [.ref (G.2.2.1 21), .ref (G.2.2.2.1 (a1 : Int).toNat)]) (uvQz G r σ') 0 0 (uvA G) := by
  unfold f_X6_readWord at h
  refine r_met (own := RX6) (lv := [(0, .ref (G.2.2.1 21)), (1, .ref (G.2.2.2.1 (a1 : Int).toNat))]) (by decide) rfl (Nat.le_of_ble_eq_true rfl) rfl ?_
  intro p e s m below meth c ls X Y V hl
  have go : ∀ (args : Array Value) (H : Heap) (locs : List Loc), uvCx p m c cX6_readWord 4 RX6 s args meth (Option.some Jvm.ClassFile.FieldType.boolean) → uvWo G σ s H locs → W p l e { frames := 4, cells := 0, slots := 0, locals := 141 } s m args below meth c H locs 0 0 (MQ below (uvQz G r σ') args s 0 0 (uvA G)) (F0 m 0 ls []) := by
    intro args H locs X V
    refine r_aln X dX6_readWord_0 rfl (lv_at hl 0 rfl) ?_
    refine r_gi (kI := 5) X Y V ci_6 kd_21 5 rfl (by decide) rfl rfl wd_180 dX6_readWord_1 ?_
    refine r_isn (lv' := [(2, .int (iV (σ 21 5))), (0, .ref (G.2.2.1 21)), (1, .ref (G.2.2.2.1 (a1 : Int).toNat))]) X dX6_readWord_4 rfl hl (by decide) rfl (fun ls hl => ?_)
    refine r_ic X dX6_readWord_5 ?_
    refine r_isn (lv' := [(3, .int (iV 0)), (2, .int (iV (σ 21 5))), (0, .ref (G.2.2.1 21)), (1, .ref (G.2.2.2.1 (a1 : Int).toNat))]) X dX6_readWord_6 rfl hl (by decide) rfl (fun ls hl => ?_)
    refine wl_X6_readWord_7 X Y a1 (σ 21 5) ha1 r σ' _ (fun σ12  H locs ls V hl h => ?_) 1000 σ 0 _ _ _ V (lv_sub hl [2, 3, 1, 0] rfl) h
    refine r_ic X dX6_readWord_78 ?_
    exact r_rz X V (Or.inr rfl) (so2 h).1 (so2 h).2 dX6_readWord_79
  exact go _ _ _ X V

set_option maxRecDepth 100000 in
set_option maxHeartbeats 4000000 in
theorem c_X9_within (l : Launch) (G : UG) (σ0 : St) (a0 : Int) (a1 : Int) (a2 : Int) (r : Int)  (h : f_X9_within a0 a1 a2 = r) : Met l yX9_within (.code yX9_within cX9_within 3 (Option.some Jvm.ClassFile.FieldType.boolean) :: TB) { frames := 0, cells := 0, slots := 0, locals := 0 } (uvPc G σ0 [.int (iV a0), .int (iV a1), .int (iV a2)]) (uvQz G r σ0) 0 0 (uvA G) := by
  unfold f_X9_within at h
  refine r_met (own := RX9) (lv := [(0, .int (iV a0)), (1, .int (iV a1)), (2, .int (iV a2))]) (by decide) rfl (Nat.le_of_ble_eq_true rfl) rfl ?_
  intro p e s m below meth c ls X Y V hl
  have go : ∀ (args : Array Value) (H : Heap) (locs : List Loc), uvCx p m c cX9_within 3 RX9 s args meth (Option.some Jvm.ClassFile.FieldType.boolean) → uvWo G σ0 s H locs → W p l e { frames := 0, cells := 0, slots := 0, locals := 0 } s m args below meth c H locs 0 0 (MQ below (uvQz G r σ0) args s 0 0 (uvA G)) (F0 m 0 ls []) := by
    intro args H locs X V
    refine r_iln X dX9_within_0 rfl (lv_at hl 0 rfl) ?_
    refine r_iln X dX9_within_1 rfl (lv_at hl 1 rfl) ?_
    have J1 : W p l e { frames := 0, cells := 0, slots := 0, locals := 0 } s m args below meth c H locs 0 0 (MQ below (uvQz G r σ0) args s 0 0 (uvA G)) (F0 m 15 ls [.int (iV (if wI a0 < wI a1 then 0 else (if wI a2 < wI a0 then 0 else 1)))]) := by
      exact r_rz X V (b01_ite (Or.inl rfl) (b01_ite (Or.inl rfl) (Or.inr rfl))) h rfl dX9_within_15
    refine r_clt (cx := wI a0) (cy := wI a1) (tgt := 14) X rfl rfl dX9_within_2 (by decide) (fun c2 => ?_) (fun c2 => ?_)
    · skip
      refine r_ic X dX9_within_14 ?_
      rw [if_pos c2] at J1
      exact J1
    · skip
      refine r_iln X dX9_within_5 rfl (lv_at hl 0 rfl) ?_
      refine r_iln X dX9_within_6 rfl (lv_at hl 2 rfl) ?_
      refine r_cgt (cx := wI a0) (cy := wI a2) (tgt := 14) X rfl rfl dX9_within_7 (by decide) (fun c3 => ?_) (fun c3 => ?_)
      · skip
        refine r_ic X dX9_within_14 ?_
        rw [if_neg c2] at J1
        rw [if_pos c3] at J1
        exact J1
      · skip
        refine r_ic X dX9_within_10 ?_
        refine r_goto (tgt := 15) X dX9_within_11 (by decide) ?_
        rw [if_neg c2] at J1
        rw [if_neg c3] at J1
        exact J1
  exact go _ _ _ X V

set_option maxRecDepth 100000 in
set_option maxHeartbeats 4000000 in
theorem c_X6_readFigure (l : Launch) (G : UG) (σ : St) (a1 : Int) (a2 : Int) (r : Int) (σ' : St)  (h : f_X6_readFigure σ a1 a2 = some (r, σ')) : Met l yX6_readFigure (.code yX6_readFigure cX6_readFigure 4 (Option.some Jvm.ClassFile.FieldType.int) :: TB) { frames := 1, cells := 0, slots := 0, locals := 22 } (uvPc G σ [.ref (G.2.2.1 21), .int (iV a1), .int (iV a2)]) (uvQi G r σ') 0 0 (uvA G) := by
  unfold f_X6_readFigure at h
  refine r_met (own := RX6) (lv := [(0, .ref (G.2.2.1 21)), (1, .int (iV a1)), (2, .int (iV a2))]) (by decide) rfl (Nat.le_of_ble_eq_true rfl) rfl ?_
  intro p e s m below meth c ls X Y V hl
  have go : ∀ (args : Array Value) (H : Heap) (locs : List Loc), uvCx p m c cX6_readFigure 4 RX6 s args meth (Option.some Jvm.ClassFile.FieldType.int) → uvWo G σ s H locs → W p l e { frames := 1, cells := 0, slots := 0, locals := 22 } s m args below meth c H locs 0 0 (MQ below (uvQi G r σ') args s 0 0 (uvA G)) (F0 m 0 ls []) := by
    intro args H locs X V
    refine r_aln X dX6_readFigure_0 rfl (lv_at hl 0 rfl) ?_
    obtain ⟨v1, σ2, hv1, h⟩ := bd2_ex h
    refine r_ki V (r_runV (As := []) (rest := []) X Y V (c_X6_look l G σ  _ _  hv1) mv_X6_look wd_460 ci_6 kd_21 ⟨rfl, rfl, Nat.le_of_ble_eq_true rfl, Nat.le_of_ble_eq_true rfl⟩ rfl rfl hl.1 (Nat.le_of_ble_eq_true rfl) ⟨Nat.le_refl 0, Nat.le_refl 0⟩ dX6_readFigure_1) (fun H locs V => ?_)
    refine r_bp X dX6_readFigure_4 (by decide) ?_
    refine r_isub X dX6_readFigure_6 ?_
    obtain ⟨v3, hv3, h⟩ := bnd_ex h
    refine r_eqI hv3 ?_
    refine r_isn (lv' := [(3, .int (iV v3)), (0, .ref (G.2.2.1 21)), (1, .int (iV a1)), (2, .int (iV a2))]) X dX6_readFigure_7 rfl hl (by decide) rfl (fun ls hl => ?_)
    refine r_iln X dX6_readFigure_8 rfl (lv_at hl 0 rfl) ?_
    refine r_iln X dX6_readFigure_9 rfl (lv_at hl 2 rfl) ?_
    refine r_iln X dX6_readFigure_10 rfl (lv_at hl 3 rfl) ?_
    refine r_kz V (r_runSN (As := [.int (iV v3), .int (iV a1), .int (iV a2)]) (rest := []) X Y V (c_X9_within l G σ2 v3 a1 a2 _  rfl) ms_X9_within Y.2.2.1.2.2.2 ⟨rfl, rfl, Nat.le_of_ble_eq_true rfl, Nat.le_of_ble_eq_true rfl⟩ rfl rfl hl.1 (Nat.le_of_ble_eq_true rfl) ⟨Nat.le_refl 0, Nat.le_refl 0⟩ dX6_readFigure_11) (fun H locs V z4 => ?_)
    refine r_ne (cx := (f_X9_within v3 a1 a2)) (tgt := 22) X (wI_01 z4) dX6_readFigure_14 (by decide) (fun c5 => ?_) (fun c5 => ?_)
    · replace h := ite_t c5 h
      refine r_aln X dX6_readFigure_17 rfl (lv_at hl 1 rfl) ?_
      obtain ⟨v6, σ7, hv6, h⟩ := bd2_ex h
      refine r_ki V (r_runV (As := []) (rest := []) X Y V (c_X6_fail l G σ2  _ _  hv6) mv_X6_fail wd_483 ci_6 kd_21 ⟨rfl, rfl, Nat.le_of_ble_eq_true rfl, Nat.le_of_ble_eq_true rfl⟩ rfl rfl hl.1 (Nat.le_of_ble_eq_true rfl) ⟨Nat.le_refl 0, Nat.le_refl 0⟩ dX6_readFigure_18) (fun H locs V => ?_)
      exact r_ri X V (so2 h).1 (so2 h).2 dX6_readFigure_21
    · replace h := ite_f c5 h
      refine r_aln X dX6_readFigure_22 rfl (lv_at hl 1 rfl) ?_
      refine r_dup X dX6_readFigure_23 rfl ?_
      refine r_gi (kI := 5) X Y V ci_6 kd_21 5 rfl (by decide) rfl rfl wd_180 dX6_readFigure_24 ?_
      refine r_ic X dX6_readFigure_27 ?_
      refine r_iadd X dX6_readFigure_28 ?_
      obtain ⟨σ8, hσ8, h⟩ := wrF_ex h
      refine r_pi X Y V ci_6 kd_21 5 rfl (by decide) rfl rfl rfl (tyX6_ok 5 (by decide)) wd_180 hσ8 dX6_readFigure_29 (fun H locs V => ?_)
      refine r_iln X dX6_readFigure_32 rfl (lv_at hl 0 rfl) ?_
      exact r_ri X V (so2 h).1 (so2 h).2 dX6_readFigure_33
  exact go _ _ _ X V

set_option maxRecDepth 100000 in
set_option maxHeartbeats 4000000 in
theorem c_X6_readTarget (l : Launch) (G : UG) (σ : St) (a1 : Int) (r : Int) (σ' : St)  (h : f_X6_readTarget σ a1 = some (r, σ')) : Met l yX6_readTarget (.code yX6_readTarget cX6_readTarget 4 (Option.none : Option Jvm.ClassFile.FieldType) :: TB) { frames := 2, cells := 0, slots := 0, locals := 45 } (uvPc G σ [.ref (G.2.2.1 21), .int (iV a1)]) (uvQv G σ') 0 0 (uvA G) := by
  unfold f_X6_readTarget at h
  refine r_met (own := RX6) (lv := [(0, .ref (G.2.2.1 21)), (1, .int (iV a1))]) (by decide) rfl (Nat.le_of_ble_eq_true rfl) rfl ?_
  intro p e s m below meth c ls X Y V hl
  have go : ∀ (args : Array Value) (H : Heap) (locs : List Loc), uvCx p m c cX6_readTarget 4 RX6 s args meth (Option.none : Option Jvm.ClassFile.FieldType) → uvWo G σ s H locs → W p l e { frames := 2, cells := 0, slots := 0, locals := 45 } s m args below meth c H locs 0 0 (MQ below (uvQv G σ') args s 0 0 (uvA G)) (F0 m 0 ls []) := by
    intro args H locs X V
    refine r_aln X dX6_readTarget_0 rfl (lv_at hl 0 rfl) ?_
    refine r_dup X dX6_readTarget_1 rfl ?_
    refine r_gi (kI := 5) X Y V ci_6 kd_21 5 rfl (by decide) rfl rfl wd_180 dX6_readTarget_2 ?_
    refine r_ic X dX6_readTarget_5 ?_
    refine r_iadd X dX6_readTarget_6 ?_
    obtain ⟨σ1, hσ1, h⟩ := wrF_ex h
    refine r_pi X Y V ci_6 kd_21 5 rfl (by decide) rfl rfl rfl (tyX6_ok 5 (by decide)) wd_180 hσ1 dX6_readTarget_7 (fun H locs V => ?_)
    refine r_aln X dX6_readTarget_10 rfl (lv_at hl 0 rfl) ?_
    refine r_ic X dX6_readTarget_11 ?_
    refine r_bp X dX6_readTarget_12 (by decide) ?_
    obtain ⟨v2, σ3, hv2, h⟩ := bd2_ex h
    refine r_ki V (r_runV (As := [.int (iV 0), .int (iV 9)]) (rest := []) X Y V (c_X6_readFigure l G σ1 0 9 _ _  hv2) mv_X6_readFigure wd_530 ci_6 kd_21 ⟨rfl, rfl, Nat.le_of_ble_eq_true rfl, Nat.le_of_ble_eq_true rfl⟩ rfl rfl hl.1 (Nat.le_of_ble_eq_true rfl) ⟨Nat.le_refl 0, Nat.le_refl 0⟩ dX6_readTarget_14) (fun H locs V => ?_)
    refine r_isn (lv' := [(2, .int (iV v2)), (0, .ref (G.2.2.1 21)), (1, .int (iV a1))]) X dX6_readTarget_17 rfl hl (by decide) rfl (fun ls hl => ?_)
    refine r_aln X dX6_readTarget_18 rfl (lv_at hl 1 rfl) ?_
    refine r_gi (kI := 6) X Y V ci_6 kd_21 6 rfl (by decide) rfl rfl wd_181 dX6_readTarget_19 ?_
    refine r_ic X dX6_readTarget_22 ?_
    refine r_ceq (cx := wI (σ3 21 6)) (cy := (-1)) (tgt := 27) X rfl rfl dX6_readTarget_23 (by decide) (fun c4 => ?_) (fun c4 => ?_)
    · replace h := ite_t c4 h
      refine r_aln X dX6_readTarget_27 rfl (lv_at hl 1 rfl) ?_
      refine r_ic X dX6_readTarget_28 ?_
      refine r_bp X dX6_readTarget_29 (by decide) ?_
      obtain ⟨v5, σ6, hv5, h⟩ := bd2_ex h
      refine r_ki V (r_runV (As := [.int (iV 1), .int (iV 9)]) (rest := []) X Y V (c_X6_readFigure l G σ3 1 9 _ _  hv5) mv_X6_readFigure wd_530 ci_6 kd_21 ⟨rfl, rfl, Nat.le_of_ble_eq_true rfl, Nat.le_of_ble_eq_true rfl⟩ rfl rfl hl.1 (Nat.le_of_ble_eq_true rfl) ⟨Nat.le_refl 0, Nat.le_refl 0⟩ dX6_readTarget_31) (fun H locs V => ?_)
      refine r_isn (lv' := [(3, .int (iV v5)), (2, .int (iV v2)), (0, .ref (G.2.2.1 21)), (1, .int (iV a1))]) X dX6_readTarget_34 rfl hl (by decide) rfl (fun ls hl => ?_)
      refine r_aln X dX6_readTarget_35 rfl (lv_at hl 2 rfl) ?_
      refine r_gi (kI := 6) X Y V ci_6 kd_21 6 rfl (by decide) rfl rfl wd_181 dX6_readTarget_36 ?_
      refine r_ic X dX6_readTarget_39 ?_
      refine r_cne (cx := wI (σ6 21 6)) (cy := (-1)) (tgt := 53) X rfl rfl dX6_readTarget_40 (by decide) (fun c7 => ?_) (fun c7 => ?_)
      · replace h := ite_t c7 h
        refine r_aln X dX6_readTarget_43 rfl (lv_at hl 2 rfl) ?_
        refine r_gr X Y V ci_6 kd_21 1 rfl rfl (by decide) rfl rfl wd_172 dX6_readTarget_44 ?_
        refine r_iln X dX6_readTarget_47 rfl (lv_at hl 3 rfl) ?_
        refine r_iln X dX6_readTarget_48 rfl (lv_at hl 1 rfl) ?_
        refine r_iln X dX6_readTarget_49 rfl (lv_at hl 0 rfl) ?_
        obtain ⟨v8, σ9, hv8, h⟩ := bd2_ex h
        refine r_kv V (r_runV (As := [.int (iV a1), .int (iV v2), .int (iV v5)]) (rest := []) X Y V (c_X4_add l G σ6 23 a1 v2 v5 _ _ kd_23 hv8) mv_X4_add wd_534 ci_4 kd_23 ⟨rfl, rfl, Nat.le_of_ble_eq_true rfl, Nat.le_of_ble_eq_true rfl⟩ rfl rfl hl.1 (Nat.le_of_ble_eq_true rfl) ⟨Nat.le_refl 0, Nat.le_refl 0⟩ dX6_readTarget_50) (fun H locs V => ?_)
        exact r_rv X V (so2 h).2 dX6_readTarget_53
      · replace h := ite_f c7 h
        exact r_rv X V (so2 h).2 dX6_readTarget_53
    · replace h := ite_f c4 h
      exact r_rv X V (so2 h).2 dX6_readTarget_26
  exact go _ _ _ X V

set_option maxRecDepth 100000 in
set_option maxHeartbeats 4000000 in
theorem wj_X6_readRow_42 {p : Program} {l : Launch} {e : Env} {s : State} {m : MethodId} {args : Array Value} {below : List Frame} {meth : Method} {c : Code} {G : UG} (X : uvCx p m c cX6_readRow 3 RX6 s args meth (Option.none : Option Jvm.ClassFile.FieldType)) (Y : uvGd G s s.heap) (kb : St → Int → Option (Int × St)) (r : Int) (σ' : St) (σ : St) (x1 : Int) (x2 : Int)  (hkb : ∀ (σ : St) (m1 : Int) (H : Heap) (locs : List Loc) (ls : Array Slot), uvWo G σ s H locs → lv_has ls 3 [(0, .ref (G.2.2.1 21)), (1, .int (iV m1))] → kb σ m1 = some (r, σ') → W p l e { frames := 5, cells := 0, slots := 0, locals := 164 } s m args below meth c H locs 0 0 (MQ below (uvQv G σ') args s 0 0 (uvA G)) (F0 m 12 ls [])) (H : Heap) (locs : List Loc) (ls : Array Slot) (V : uvWo G σ s H locs) (hl : lv_has ls 3 [(0, .ref (G.2.2.1 21)), (1, .int (iV x1)), (2, .int (iV x2))]) (h : jn_X6_readRow_42 kb σ x1 x2 = some (r, σ')) : W p l e { frames := 5, cells := 0, slots := 0, locals := 164 } s m args below meth c H locs 0 0 (MQ below (uvQv G σ') args s 0 0 (uvA G)) (F0 m 42 ls []) := by
  unfold jn_X6_readRow_42 at h
  refine r_iln X dX6_readRow_42 rfl (lv_at hl 2 rfl) ?_
  refine r_bp X dX6_readRow_43 (by decide) ?_
  refine r_bp X dX6_readRow_45 (by decide) ?_
  refine r_kz V (r_runSN (As := [.int (iV x2), .int (iV 97), .int (iV 102)]) (rest := []) X Y V (c_X9_within l G σ x2 97 102 _  rfl) ms_X9_within Y.2.2.1.2.2.2 ⟨rfl, rfl, Nat.le_of_ble_eq_true rfl, Nat.le_of_ble_eq_true rfl⟩ rfl rfl hl.1 (Nat.le_of_ble_eq_true rfl) ⟨Nat.le_refl 0, Nat.le_refl 0⟩ dX6_readRow_47) (fun H locs V z11 => ?_)
  refine r_ne (cx := (f_X9_within x2 97 102)) (tgt := 61) X (wI_01 z11) dX6_readRow_50 (by decide) (fun c12 => ?_) (fun c12 => ?_)
  · replace h := ite_t c12 h
    refine r_aln X dX6_readRow_53 rfl (lv_at hl 0 rfl) ?_
    obtain ⟨v13, σ14, hv13, h⟩ := bd2_ex h
    refine r_ki V (r_runV (As := []) (rest := []) X Y V (c_X6_fail l G σ  _ _  hv13) mv_X6_fail wd_483 ci_6 kd_21 ⟨rfl, rfl, Nat.le_of_ble_eq_true rfl, Nat.le_of_ble_eq_true rfl⟩ rfl rfl hl.1 (Nat.le_of_ble_eq_true rfl) ⟨Nat.le_refl 0, Nat.le_refl 0⟩ dX6_readRow_54) (fun H locs V => ?_)
    refine r_pop X dX6_readRow_57 rfl ?_
    refine r_goto (tgt := 69) X dX6_readRow_58 (by decide) ?_
    refine r_inc (kk := 1) (lv' := [(1, .int (iV (x1 + 1))), (0, .ref (G.2.2.1 21)), (2, .int (iV x2))]) X dX6_readRow_69 hl rfl (by decide) rfl (fun ls hl => ?_)
    refine r_goto (tgt := 12) X dX6_readRow_72 (by decide) ?_
    exact hkb σ14 (x1 + 1) _ _ _ V (lv_sub hl [1, 0] rfl) h
  · replace h := ite_f c12 h
    refine r_aln X dX6_readRow_61 rfl (lv_at hl 0 rfl) ?_
    refine r_iln X dX6_readRow_62 rfl (lv_at hl 2 rfl) ?_
    refine r_bp X dX6_readRow_63 (by decide) ?_
    refine r_isub X dX6_readRow_65 ?_
    obtain ⟨v15, σ16, hv15, h⟩ := bd2_ex h
    refine r_kv V (r_runV (As := [.int (iV (x2 - 97))]) (rest := []) X Y V (c_X6_readTarget l G σ (x2 - 97) _ _  hv15) mv_X6_readTarget wd_526 ci_6 kd_21 ⟨rfl, rfl, Nat.le_of_ble_eq_true rfl, Nat.le_of_ble_eq_true rfl⟩ rfl rfl hl.1 (Nat.le_of_ble_eq_true rfl) ⟨Nat.le_refl 0, Nat.le_refl 0⟩ dX6_readRow_66) (fun H locs V => ?_)
    refine r_inc (kk := 1) (lv' := [(1, .int (iV (x1 + 1))), (0, .ref (G.2.2.1 21)), (2, .int (iV x2))]) X dX6_readRow_69 hl rfl (by decide) rfl (fun ls hl => ?_)
    refine r_goto (tgt := 12) X dX6_readRow_72 (by decide) ?_
    exact hkb σ16 (x1 + 1) _ _ _ V (lv_sub hl [1, 0] rfl) h

set_option maxRecDepth 100000 in
set_option maxHeartbeats 4000000 in
theorem wl_X6_readRow_12 {p : Program} {l : Launch} {e : Env} {s : State} {m : MethodId} {args : Array Value} {below : List Frame} {meth : Method} {c : Code} {G : UG} (X : uvCx p m c cX6_readRow 3 RX6 s args meth (Option.none : Option Jvm.ClassFile.FieldType)) (Y : uvGd G s s.heap)   (r : Int) (σ' : St) (kx : St → Option (Int × St)) (hkx : ∀ (σ : St)  (H : Heap) (locs : List Loc) (ls : Array Slot), uvWo G σ s H locs → lv_has ls 3 [] → kx σ  = some (r, σ') → W p l e { frames := 5, cells := 0, slots := 0, locals := 164 } s m args below meth c H locs 0 0 (MQ below (uvQv G σ') args s 0 0 (uvA G)) (F0 m 75 ls [])) : ∀ (n : Nat) (σ : St) (x1 : Int) (H : Heap) (locs : List Loc) (ls : Array Slot), uvWo G σ s H locs → lv_has ls 3 [(0, .ref (G.2.2.1 21)), (1, .int (iV x1))] → lp_X6_readRow_12 kx n σ x1 = some (r, σ') → W p l e { frames := 5, cells := 0, slots := 0, locals := 164 } s m args below meth c H locs 0 0 (MQ below (uvQv G σ') args s 0 0 (uvA G)) (F0 m 12 ls []) := by
  intro n
  induction n with
  | zero => intro σ x1 H locs ls V hl h; cases h
  | succ n ih =>
    intro σ x1 H locs ls V hl h
    rw [lp_X6_readRow_12] at h
    refine r_iln X dX6_readRow_12 rfl (lv_at hl 1 rfl) ?_
    refine r_bp X dX6_readRow_13 (by decide) ?_
    refine r_cge (cx := wI x1) (cy := 8) (tgt := 75) X rfl rfl dX6_readRow_15 (by decide) (fun c5 => ?_) (fun c5 => ?_)
    · replace h := ite_t c5 h
      refine r_aln X dX6_readRow_18 rfl (lv_at hl 0 rfl) ?_
      refine r_gi (kI := 6) X Y V ci_6 kd_21 6 rfl (by decide) rfl rfl wd_181 dX6_readRow_19 ?_
      refine r_ic X dX6_readRow_22 ?_
      refine r_cne (cx := wI (σ 21 6)) (cy := (-1)) (tgt := 75) X rfl rfl dX6_readRow_23 (by decide) (fun c6 => ?_) (fun c6 => ?_)
      · replace h := ite_t c6 h
        refine r_aln X dX6_readRow_26 rfl (lv_at hl 0 rfl) ?_
        obtain ⟨v7, σ8, hv7, h⟩ := bd2_ex h
        refine r_ki V (r_runV (As := []) (rest := []) X Y V (c_X6_look l G σ  _ _  hv7) mv_X6_look wd_460 ci_6 kd_21 ⟨rfl, rfl, Nat.le_of_ble_eq_true rfl, Nat.le_of_ble_eq_true rfl⟩ rfl rfl hl.1 (Nat.le_of_ble_eq_true rfl) ⟨Nat.le_refl 0, Nat.le_refl 0⟩ dX6_readRow_27) (fun H locs V => ?_)
        refine r_isn (lv' := [(2, .int (iV v7)), (0, .ref (G.2.2.1 21)), (1, .int (iV x1))]) X dX6_readRow_30 rfl hl (by decide) rfl (fun ls hl => ?_)
        refine r_iln X dX6_readRow_31 rfl (lv_at hl 0 rfl) ?_
        refine r_bp X dX6_readRow_32 (by decide) ?_
        refine r_cne (cx := wI v7) (cy := 59) (tgt := 42) X rfl rfl dX6_readRow_34 (by decide) (fun c9 => ?_) (fun c9 => ?_)
        · replace h := ite_t c9 h
          refine r_iln X dX6_readRow_37 rfl (lv_at hl 2 rfl) ?_
          refine r_le (cx := wI x1) (tgt := 42) X rfl dX6_readRow_38 (by decide) (fun c10 => ?_) (fun c10 => ?_)
          · replace h := ite_t c10 h
            exact r_rv X V (so2 h).2 dX6_readRow_41
          · replace h := ite_f c10 h
            exact wj_X6_readRow_42 X Y _ r σ' σ8 x1 v7  (fun σ m1 H locs ls V hl h => ih σ m1 H locs ls V hl h) _ _ _ V (lv_sub hl [1, 2, 0] rfl) h
        · replace h := ite_f c9 h
          exact wj_X6_readRow_42 X Y _ r σ' σ8 x1 v7  (fun σ m1 H locs ls V hl h => ih σ m1 H locs ls V hl h) _ _ _ V (lv_sub hl [1, 2, 0] rfl) h
      · replace h := ite_f c6 h
        exact hkx σ  _ _ _ V (lv_sub hl [] rfl) h
    · replace h := ite_f c5 h
      exact hkx σ  _ _ _ V (lv_sub hl [] rfl) h

set_option maxRecDepth 100000 in
set_option maxHeartbeats 4000000 in
theorem c_X6_readRow (l : Launch) (G : UG) (σ : St)  (r : Int) (σ' : St)  (h : f_X6_readRow σ = some (r, σ')) : Met l yX6_readRow (.code yX6_readRow cX6_readRow 3 (Option.none : Option Jvm.ClassFile.FieldType) :: TB) { frames := 5, cells := 0, slots := 0, locals := 164 } (uvPc G σ [.ref (G.2.2.1 21)]) (uvQv G σ') 0 0 (uvA G) := by
  unfold f_X6_readRow at h
  refine r_met (own := RX6) (lv := [(0, .ref (G.2.2.1 21))]) (by decide) rfl (Nat.le_of_ble_eq_true rfl) rfl ?_
  intro p e s m below meth c ls X Y V hl
  have go : ∀ (args : Array Value) (H : Heap) (locs : List Loc), uvCx p m c cX6_readRow 3 RX6 s args meth (Option.none : Option Jvm.ClassFile.FieldType) → uvWo G σ s H locs → W p l e { frames := 5, cells := 0, slots := 0, locals := 164 } s m args below meth c H locs 0 0 (MQ below (uvQv G σ') args s 0 0 (uvA G)) (F0 m 0 ls []) := by
    intro args H locs X V
    refine r_aln X dX6_readRow_0 rfl (lv_at hl 0 rfl) ?_
    refine r_lds0 X Y dX6_readRow_1 ?_
    obtain ⟨v1, σ2, hv1, h⟩ := bd2_ex h
    refine r_kz V (r_runV (As := [.ref (G.2.2.2.1 (0 : Int).toNat)]) (rest := []) X Y V (c_X6_readWord l G σ 0 _ _ (Or.inl rfl) hv1) mv_X6_readWord wd_469 ci_6 kd_21 ⟨rfl, rfl, Nat.le_of_ble_eq_true rfl, Nat.le_of_ble_eq_true rfl⟩ rfl rfl hl.1 (Nat.le_of_ble_eq_true rfl) ⟨Nat.le_refl 0, Nat.le_refl 0⟩ dX6_readRow_3) (fun H locs V z3 => ?_)
    refine r_ne (cx := v1) (tgt := 10) X (wI_01 z3) dX6_readRow_6 (by decide) (fun c4 => ?_) (fun c4 => ?_)
    · replace h := ite_t c4 h
      exact r_rv X V (so2 h).2 dX6_readRow_9
    · replace h := ite_f c4 h
      refine r_ic X dX6_readRow_10 ?_
      refine r_isn (lv' := [(1, .int (iV 0)), (0, .ref (G.2.2.1 21))]) X dX6_readRow_11 rfl hl (by decide) rfl (fun ls hl => ?_)
      refine wl_X6_readRow_12 X Y   r σ' _ (fun σ17  H locs ls V hl h => ?_) 1000 σ2 0 _ _ _ V (lv_sub hl [1, 0] rfl) h
      exact r_rv X V (so2 h).2 dX6_readRow_75
  exact go _ _ _ X V

set_option maxRecDepth 100000 in
set_option maxHeartbeats 4000000 in
theorem c_X7_addNode (l : Launch) (G : UG) (σ : St) (o : Int) (a1 : Int) (a2 : Int) (a3 : Int) (r : Int) (σ' : St) (ho : uvKd o = 7) (h : f_X7_addNode σ o a1 a2 a3 = some (r, σ')) : Met l yX7_addNode (.code yX7_addNode cX7_addNode 5 (Option.some Jvm.ClassFile.FieldType.int) :: TB) { frames := 0, cells := 0, slots := 0, locals := 0 } (uvPc G σ [.ref (G.2.2.1 o), .int (iV a1), .int (iV a2), .int (iV a3)]) (uvQi G r σ') 0 0 (uvA G) := by
  unfold f_X7_addNode at h
  refine r_met (own := RX7) (lv := [(0, .ref (G.2.2.1 o)), (1, .int (iV a1)), (2, .int (iV a2)), (3, .int (iV a3))]) (by decide) rfl (Nat.le_of_ble_eq_true rfl) rfl ?_
  intro p e s m below meth c ls X Y V hl
  have go : ∀ (args : Array Value) (H : Heap) (locs : List Loc), uvCx p m c cX7_addNode 5 RX7 s args meth (Option.some Jvm.ClassFile.FieldType.int) → uvWo G σ s H locs → W p l e { frames := 0, cells := 0, slots := 0, locals := 0 } s m args below meth c H locs 0 0 (MQ below (uvQi G r σ') args s 0 0 (uvA G)) (F0 m 0 ls []) := by
    intro args H locs X V
    refine r_aln X dX7_addNode_0 rfl (lv_at hl 0 rfl) ?_
    refine r_gi (kI := 6) X Y V ci_7 ho 6 rfl (by decide) rfl rfl wd_137 dX7_addNode_1 ?_
    refine r_lt (cx := wI (σ o 6)) (tgt := 16) X rfl dX7_addNode_4 (by decide) (fun c1 => ?_) (fun c1 => ?_)
    · replace h := ite_t c1 h
      refine r_ic X dX7_addNode_16 ?_
      exact r_ri X V (so2 h).1 (so2 h).2 dX7_addNode_17
    · replace h := ite_f c1 h
      refine r_aln X dX7_addNode_7 rfl (lv_at hl 0 rfl) ?_
      refine r_gi (kI := 6) X Y V ci_7 ho 6 rfl (by decide) rfl rfl wd_137 dX7_addNode_8 ?_
      refine r_bp X dX7_addNode_11 (by decide) ?_
      refine r_clt (cx := wI (σ o 6)) (cy := 120) (tgt := 18) X rfl rfl dX7_addNode_13 (by decide) (fun c2 => ?_) (fun c2 => ?_)
      · replace h := ite_t c2 h
        refine r_aln X dX7_addNode_18 rfl (lv_at hl 0 rfl) ?_
        refine r_gi (kI := 6) X Y V ci_7 ho 6 rfl (by decide) rfl rfl wd_137 dX7_addNode_19 ?_
        obtain ⟨v3, hv3, h⟩ := bnd_ex h
        refine r_eqI hv3 ?_
        refine r_is (lv' := [(4, .int (iV v3)), (0, .ref (G.2.2.1 o)), (1, .int (iV a1)), (2, .int (iV a2)), (3, .int (iV a3))]) X dX7_addNode_22 hl (by decide) rfl (fun ls hl => ?_)
        refine r_aln X dX7_addNode_24 rfl (lv_at hl 1 rfl) ?_
        refine r_gr X Y V ci_7 ho 0 rfl (rf7_0 ho) (by decide) rfl rfl wd_131 dX7_addNode_25 ?_
        refine r_il X dX7_addNode_28 (lv_at hl 0 rfl) ?_
        refine r_iln X dX7_addNode_30 rfl (lv_at hl 2 rfl) ?_
        obtain ⟨σ4, hσ4, hiσ4, h⟩ := wrA_ex h
        refine r_ias X Y V (ka7_0 ho) (ln7_0 ho) hiσ4 hσ4 dX7_addNode_31 (fun H locs V => ?_)
        refine r_aln X dX7_addNode_32 rfl (lv_at hl 1 rfl) ?_
        refine r_gr X Y V ci_7 ho 1 rfl (rf7_1 ho) (by decide) rfl rfl wd_132 dX7_addNode_33 ?_
        refine r_il X dX7_addNode_36 (lv_at hl 0 rfl) ?_
        refine r_iln X dX7_addNode_38 rfl (lv_at hl 3 rfl) ?_
        obtain ⟨σ5, hσ5, hiσ5, h⟩ := wrA_ex h
        refine r_ias X Y V (ka7_1 ho) (ln7_1 ho) hiσ5 hσ5 dX7_addNode_39 (fun H locs V => ?_)
        refine r_aln X dX7_addNode_40 rfl (lv_at hl 1 rfl) ?_
        refine r_gr X Y V ci_7 ho 2 rfl (rf7_2 ho) (by decide) rfl rfl wd_133 dX7_addNode_41 ?_
        refine r_il X dX7_addNode_44 (lv_at hl 0 rfl) ?_
        refine r_iln X dX7_addNode_46 rfl (lv_at hl 4 rfl) ?_
        obtain ⟨σ6, hσ6, hiσ6, h⟩ := wrA_ex h
        refine r_ias X Y V (ka7_2 ho) (ln7_2 ho) hiσ6 hσ6 dX7_addNode_47 (fun H locs V => ?_)
        refine r_aln X dX7_addNode_48 rfl (lv_at hl 1 rfl) ?_
        refine r_gr X Y V ci_7 ho 3 rfl (rf7_3 ho) (by decide) rfl rfl wd_134 dX7_addNode_49 ?_
        refine r_il X dX7_addNode_52 (lv_at hl 0 rfl) ?_
        refine r_ic X dX7_addNode_54 ?_
        obtain ⟨σ7, hσ7, hiσ7, h⟩ := wrA_ex h
        refine r_ias X Y V (ka7_3 ho) (ln7_3 ho) hiσ7 hσ7 dX7_addNode_55 (fun H locs V => ?_)
        refine r_aln X dX7_addNode_56 rfl (lv_at hl 1 rfl) ?_
        refine r_gr X Y V ci_7 ho 4 rfl (rf7_4 ho) (by decide) rfl rfl wd_135 dX7_addNode_57 ?_
        refine r_il X dX7_addNode_60 (lv_at hl 0 rfl) ?_
        refine r_ic X dX7_addNode_62 ?_
        obtain ⟨σ8, hσ8, hiσ8, h⟩ := wrA_ex h
        refine r_ias X Y V (ka7_4 ho) (ln7_4 ho) hiσ8 hσ8 dX7_addNode_63 (fun H locs V => ?_)
        refine r_aln X dX7_addNode_64 rfl (lv_at hl 1 rfl) ?_
        refine r_gr X Y V ci_7 ho 5 rfl (rf7_5 ho) (by decide) rfl rfl wd_136 dX7_addNode_65 ?_
        refine r_il X dX7_addNode_68 (lv_at hl 0 rfl) ?_
        refine r_ic X dX7_addNode_70 ?_
        obtain ⟨σ9, hσ9, hiσ9, h⟩ := wrA_ex h
        refine r_ias X Y V (ka7_5 ho) (ln7_5 ho) hiσ9 hσ9 dX7_addNode_71 (fun H locs V => ?_)
        refine r_aln X dX7_addNode_72 rfl (lv_at hl 1 rfl) ?_
        refine r_dup X dX7_addNode_73 rfl ?_
        refine r_gi (kI := 6) X Y V ci_7 ho 6 rfl (by decide) rfl rfl wd_137 dX7_addNode_74 ?_
        refine r_ic X dX7_addNode_77 ?_
        refine r_iadd X dX7_addNode_78 ?_
        obtain ⟨σ10, hσ10, h⟩ := wrF_ex h
        refine r_pi X Y V ci_7 ho 6 rfl (by decide) rfl rfl rfl (tyX7_ok 6 (by decide)) wd_137 hσ10 dX7_addNode_79 (fun H locs V => ?_)
        refine r_il X dX7_addNode_82 (lv_at hl 0 rfl) ?_
        exact r_ri X V (so2 h).1 (so2 h).2 dX7_addNode_84
      · replace h := ite_f c2 h
        refine r_ic X dX7_addNode_16 ?_
        exact r_ri X V (so2 h).1 (so2 h).2 dX7_addNode_17
  exact go _ _ _ X V

set_option maxRecDepth 100000 in
set_option maxHeartbeats 4000000 in
theorem c_X7_addLeaf (l : Launch) (G : UG) (σ : St) (o : Int) (a1 : Int) (r : Int) (σ' : St) (ho : uvKd o = 7) (h : f_X7_addLeaf σ o a1 = some (r, σ')) : Met l yX7_addLeaf (.code yX7_addLeaf cX7_addLeaf 3 (Option.some Jvm.ClassFile.FieldType.int) :: TB) { frames := 1, cells := 0, slots := 0, locals := 24 } (uvPc G σ [.ref (G.2.2.1 o), .int (iV a1)]) (uvQi G r σ') 0 0 (uvA G) := by
  unfold f_X7_addLeaf at h
  refine r_met (own := RX7) (lv := [(0, .ref (G.2.2.1 o)), (1, .int (iV a1))]) (by decide) rfl (Nat.le_of_ble_eq_true rfl) rfl ?_
  intro p e s m below meth c ls X Y V hl
  have go : ∀ (args : Array Value) (H : Heap) (locs : List Loc), uvCx p m c cX7_addLeaf 3 RX7 s args meth (Option.some Jvm.ClassFile.FieldType.int) → uvWo G σ s H locs → W p l e { frames := 1, cells := 0, slots := 0, locals := 24 } s m args below meth c H locs 0 0 (MQ below (uvQi G r σ') args s 0 0 (uvA G)) (F0 m 0 ls []) := by
    intro args H locs X V
    refine r_aln X dX7_addLeaf_0 rfl (lv_at hl 0 rfl) ?_
    refine r_bp X dX7_addLeaf_1 (by decide) ?_
    refine r_ic X dX7_addLeaf_3 ?_
    refine r_iln X dX7_addLeaf_4 rfl (lv_at hl 1 rfl) ?_
    obtain ⟨v1, σ2, hv1, h⟩ := bd2_ex h
    refine r_ki V (r_runV (As := [.int (iV 42), .int (iV 0), .int (iV a1)]) (rest := []) X Y V (c_X7_addNode l G σ o 42 0 a1 _ _ ho hv1) mv_X7_addNode wd_127 ci_7 ho ⟨rfl, rfl, Nat.le_of_ble_eq_true rfl, Nat.le_of_ble_eq_true rfl⟩ rfl rfl hl.1 (Nat.le_of_ble_eq_true rfl) ⟨Nat.le_refl 0, Nat.le_refl 0⟩ dX7_addLeaf_5) (fun H locs V => ?_)
    refine r_isn (lv' := [(2, .int (iV v1)), (0, .ref (G.2.2.1 o)), (1, .int (iV a1))]) X dX7_addLeaf_8 rfl hl (by decide) rfl (fun ls hl => ?_)
    refine r_iln X dX7_addLeaf_9 rfl (lv_at hl 0 rfl) ?_
    refine r_ic X dX7_addLeaf_10 ?_
    refine r_ceq (cx := wI v1) (cy := (-1)) (tgt := 34) X rfl rfl dX7_addLeaf_11 (by decide) (fun c3 => ?_) (fun c3 => ?_)
    · replace h := ite_t c3 h
      refine r_iln X dX7_addLeaf_34 rfl (lv_at hl 0 rfl) ?_
      exact r_ri X V (so2 h).1 (so2 h).2 dX7_addLeaf_35
    · replace h := ite_f c3 h
      refine r_aln X dX7_addLeaf_14 rfl (lv_at hl 1 rfl) ?_
      refine r_gr X Y V ci_7 ho 5 rfl (rf7_5 ho) (by decide) rfl rfl wd_136 dX7_addLeaf_15 ?_
      refine r_iln X dX7_addLeaf_18 rfl (lv_at hl 0 rfl) ?_
      refine r_aln X dX7_addLeaf_19 rfl (lv_at hl 1 rfl) ?_
      refine r_gi (kI := 7) X Y V ci_7 ho 7 rfl (by decide) rfl rfl wd_138 dX7_addLeaf_20 ?_
      obtain ⟨σ4, hσ4, hiσ4, h⟩ := wrA_ex h
      refine r_ias X Y V (ka7_5 ho) (ln7_5 ho) hiσ4 hσ4 dX7_addLeaf_23 (fun H locs V => ?_)
      refine r_aln X dX7_addLeaf_24 rfl (lv_at hl 1 rfl) ?_
      refine r_dup X dX7_addLeaf_25 rfl ?_
      refine r_gi (kI := 7) X Y V ci_7 ho 7 rfl (by decide) rfl rfl wd_138 dX7_addLeaf_26 ?_
      refine r_ic X dX7_addLeaf_29 ?_
      refine r_iadd X dX7_addLeaf_30 ?_
      obtain ⟨σ5, hσ5, h⟩ := wrF_ex h
      refine r_pi X Y V ci_7 ho 7 rfl (by decide) rfl rfl rfl (tyX7_ok 7 (by decide)) wd_138 hσ5 dX7_addLeaf_31 (fun H locs V => ?_)
      refine r_iln X dX7_addLeaf_34 rfl (lv_at hl 0 rfl) ?_
      exact r_ri X V (so2 h).1 (so2 h).2 dX7_addLeaf_35
  exact go _ _ _ X V

set_option maxRecDepth 100000 in
set_option maxHeartbeats 4000000 in
theorem c_X6_isQuestion (l : Launch) (G : UG) (σ0 : St) (a0 : Int) (r : Int)  (h : f_X6_isQuestion a0 = r) : Met l yX6_isQuestion (.code yX6_isQuestion cX6_isQuestion 1 (Option.some Jvm.ClassFile.FieldType.boolean) :: TB) { frames := 0, cells := 0, slots := 0, locals := 0 } (uvPc G σ0 [.int (iV a0)]) (uvQz G r σ0) 0 0 (uvA G) := by
  unfold f_X6_isQuestion at h
  refine r_met (own := RX6) (lv := [(0, .int (iV a0))]) (by decide) rfl (Nat.le_of_ble_eq_true rfl) rfl ?_
  intro p e s m below meth c ls X Y V hl
  have go : ∀ (args : Array Value) (H : Heap) (locs : List Loc), uvCx p m c cX6_isQuestion 1 RX6 s args meth (Option.some Jvm.ClassFile.FieldType.boolean) → uvWo G σ0 s H locs → W p l e { frames := 0, cells := 0, slots := 0, locals := 0 } s m args below meth c H locs 0 0 (MQ below (uvQz G r σ0) args s 0 0 (uvA G)) (F0 m 0 ls []) := by
    intro args H locs X V
    refine r_iln X dX6_isQuestion_0 rfl (lv_at hl 0 rfl) ?_
    refine r_bp X dX6_isQuestion_1 (by decide) ?_
    have J1 : W p l e { frames := 0, cells := 0, slots := 0, locals := 0 } s m args below meth c H locs 0 0 (MQ below (uvQz G r σ0) args s 0 0 (uvA G)) (F0 m 29 ls [.int (iV (if wI a0 = 76 then 1 else (if wI a0 = 82 then 1 else (if wI a0 = 80 then 1 else (if wI a0 = 68 then 1 else 0)))))]) := by
      exact r_rz X V (b01_ite (Or.inr rfl) (b01_ite (Or.inr rfl) (b01_ite (Or.inr rfl) (b01_ite (Or.inr rfl) (Or.inl rfl))))) h rfl dX6_isQuestion_29
    refine r_ceq (cx := wI a0) (cy := 76) (tgt := 24) X rfl rfl dX6_isQuestion_3 (by decide) (fun c2 => ?_) (fun c2 => ?_)
    · skip
      refine r_ic X dX6_isQuestion_24 ?_
      refine r_goto (tgt := 29) X dX6_isQuestion_25 (by decide) ?_
      rw [if_pos c2] at J1
      exact J1
    · skip
      refine r_iln X dX6_isQuestion_6 rfl (lv_at hl 0 rfl) ?_
      refine r_bp X dX6_isQuestion_7 (by decide) ?_
      refine r_ceq (cx := wI a0) (cy := 82) (tgt := 24) X rfl rfl dX6_isQuestion_9 (by decide) (fun c3 => ?_) (fun c3 => ?_)
      · skip
        refine r_ic X dX6_isQuestion_24 ?_
        refine r_goto (tgt := 29) X dX6_isQuestion_25 (by decide) ?_
        rw [if_neg c2] at J1
        rw [if_pos c3] at J1
        exact J1
      · skip
        refine r_iln X dX6_isQuestion_12 rfl (lv_at hl 0 rfl) ?_
        refine r_bp X dX6_isQuestion_13 (by decide) ?_
        refine r_ceq (cx := wI a0) (cy := 80) (tgt := 24) X rfl rfl dX6_isQuestion_15 (by decide) (fun c4 => ?_) (fun c4 => ?_)
        · skip
          refine r_ic X dX6_isQuestion_24 ?_
          refine r_goto (tgt := 29) X dX6_isQuestion_25 (by decide) ?_
          rw [if_neg c2] at J1
          rw [if_neg c3] at J1
          rw [if_pos c4] at J1
          exact J1
        · skip
          refine r_iln X dX6_isQuestion_18 rfl (lv_at hl 0 rfl) ?_
          refine r_bp X dX6_isQuestion_19 (by decide) ?_
          refine r_cne (cx := wI a0) (cy := 68) (tgt := 28) X rfl rfl dX6_isQuestion_21 (by decide) (fun c5 => ?_) (fun c5 => ?_)
          · skip
            refine r_ic X dX6_isQuestion_24 ?_
            refine r_goto (tgt := 29) X dX6_isQuestion_25 (by decide) ?_
            rw [if_neg c2] at J1
            rw [if_neg c3] at J1
            rw [if_neg c4] at J1
            rw [if_pos c5] at J1
            exact J1
          · skip
            refine r_ic X dX6_isQuestion_28 ?_
            rw [if_neg c2] at J1
            rw [if_neg c3] at J1
            rw [if_neg c4] at J1
            rw [if_neg c5] at J1
            exact J1
  exact go _ _ _ X V

set_option maxRecDepth 100000 in
set_option maxHeartbeats 4000000 in
theorem c_X7_addQuestion (l : Launch) (G : UG) (σ : St) (o : Int) (a1 : Int) (a2 : Int) (a3 : Int) (a4 : Int) (r : Int) (σ' : St) (ho : uvKd o = 7) (h : f_X7_addQuestion σ o a1 a2 a3 a4 = some (r, σ')) : Met l yX7_addQuestion (.code yX7_addQuestion cX7_addQuestion 5 (Option.some Jvm.ClassFile.FieldType.int) :: TB) { frames := 1, cells := 0, slots := 0, locals := 24 } (uvPc G σ [.ref (G.2.2.1 o), .int (iV a1), .int (iV a2), .int (iV a3), .int (iV a4)]) (uvQi G r σ') 0 0 (uvA G) := by
  unfold f_X7_addQuestion at h
  refine r_met (own := RX7) (lv := [(0, .ref (G.2.2.1 o)), (1, .int (iV a1)), (2, .int (iV a2)), (3, .int (iV a3)), (4, .int (iV a4))]) (by decide) rfl (Nat.le_of_ble_eq_true rfl) rfl ?_
  intro p e s m below meth c ls X Y V hl
  have go : ∀ (args : Array Value) (H : Heap) (locs : List Loc), uvCx p m c cX7_addQuestion 5 RX7 s args meth (Option.some Jvm.ClassFile.FieldType.int) → uvWo G σ s H locs → W p l e { frames := 1, cells := 0, slots := 0, locals := 24 } s m args below meth c H locs 0 0 (MQ below (uvQi G r σ') args s 0 0 (uvA G)) (F0 m 0 ls []) := by
    intro args H locs X V
    refine r_aln X dX7_addQuestion_0 rfl (lv_at hl 0 rfl) ?_
    refine r_aln X dX7_addQuestion_1 rfl (lv_at hl 0 rfl) ?_
    refine r_gi (kI := 8) X Y V ci_7 ho 8 rfl (by decide) rfl rfl wd_140 dX7_addQuestion_2 ?_
    refine r_il X dX7_addQuestion_5 (lv_at hl 4 rfl) ?_
    refine r_mmax X wd_555 hl.1 (Nat.le_of_ble_eq_true rfl) (Nat.le_of_ble_eq_true rfl) ⟨Nat.le_refl 0, Nat.le_refl 0⟩ dX7_addQuestion_7 ?_
    obtain ⟨σ1, hσ1, h⟩ := wrF_ex h
    refine r_pi X Y V ci_7 ho 8 rfl (by decide) rfl rfl rfl (tyX7_ok 8 (by decide)) wd_140 hσ1 dX7_addQuestion_10 (fun H locs V => ?_)
    refine r_aln X dX7_addQuestion_13 rfl (lv_at hl 0 rfl) ?_
    refine r_iln X dX7_addQuestion_14 rfl (lv_at hl 1 rfl) ?_
    refine r_iln X dX7_addQuestion_15 rfl (lv_at hl 2 rfl) ?_
    refine r_iln X dX7_addQuestion_16 rfl (lv_at hl 3 rfl) ?_
    obtain ⟨v2, σ3, hv2, h⟩ := bd2_ex h
    refine r_ki V (r_runV (As := [.int (iV a1), .int (iV a2), .int (iV a3)]) (rest := []) X Y V (c_X7_addNode l G σ1 o a1 a2 a3 _ _ ho hv2) mv_X7_addNode wd_127 ci_7 ho ⟨rfl, rfl, Nat.le_of_ble_eq_true rfl, Nat.le_of_ble_eq_true rfl⟩ rfl rfl hl.1 (Nat.le_of_ble_eq_true rfl) ⟨Nat.le_refl 0, Nat.le_refl 0⟩ dX7_addQuestion_17) (fun H locs V => ?_)
    exact r_ri X V (so2 h).1 (so2 h).2 dX7_addQuestion_20
  exact go _ _ _ X V

set_option maxRecDepth 100000 in
set_option maxHeartbeats 4000000 in
theorem c_X6_readSign (l : Launch) (G : UG) (σ : St) (a1 : Int) (r : Int) (σ' : St)  (h : f_X6_readSign σ a1 = some (r, σ')) : Met l yX6_readSign (.code yX6_readSign cX6_readSign 2 (Option.some Jvm.ClassFile.FieldType.boolean) :: TB) { frames := 1, cells := 0, slots := 0, locals := 20 } (uvPc G σ [.ref (G.2.2.1 21), .int (iV a1)]) (uvQz G r σ') 0 0 (uvA G) := by
  unfold f_X6_readSign at h
  refine r_met (own := RX6) (lv := [(0, .ref (G.2.2.1 21)), (1, .int (iV a1))]) (by decide) rfl (Nat.le_of_ble_eq_true rfl) rfl ?_
  intro p e s m below meth c ls X Y V hl
  have go : ∀ (args : Array Value) (H : Heap) (locs : List Loc), uvCx p m c cX6_readSign 2 RX6 s args meth (Option.some Jvm.ClassFile.FieldType.boolean) → uvWo G σ s H locs → W p l e { frames := 1, cells := 0, slots := 0, locals := 20 } s m args below meth c H locs 0 0 (MQ below (uvQz G r σ') args s 0 0 (uvA G)) (F0 m 0 ls []) := by
    intro args H locs X V
    refine r_aln X dX6_readSign_0 rfl (lv_at hl 0 rfl) ?_
    obtain ⟨v1, σ2, hv1, h⟩ := bd2_ex h
    refine r_ki V (r_runV (As := []) (rest := []) X Y V (c_X6_look l G σ  _ _  hv1) mv_X6_look wd_460 ci_6 kd_21 ⟨rfl, rfl, Nat.le_of_ble_eq_true rfl, Nat.le_of_ble_eq_true rfl⟩ rfl rfl hl.1 (Nat.le_of_ble_eq_true rfl) ⟨Nat.le_refl 0, Nat.le_refl 0⟩ dX6_readSign_1) (fun H locs V => ?_)
    refine r_iln X dX6_readSign_4 rfl (lv_at hl 1 rfl) ?_
    refine r_ceq (cx := wI v1) (cy := wI a1) (tgt := 15) X rfl rfl dX6_readSign_5 (by decide) (fun c3 => ?_) (fun c3 => ?_)
    · replace h := ite_t c3 h
      refine r_aln X dX6_readSign_15 rfl (lv_at hl 0 rfl) ?_
      refine r_dup X dX6_readSign_16 rfl ?_
      refine r_gi (kI := 5) X Y V ci_6 kd_21 5 rfl (by decide) rfl rfl wd_180 dX6_readSign_17 ?_
      refine r_ic X dX6_readSign_20 ?_
      refine r_iadd X dX6_readSign_21 ?_
      obtain ⟨σ4, hσ4, h⟩ := wrF_ex h
      refine r_pi X Y V ci_6 kd_21 5 rfl (by decide) rfl rfl rfl (tyX6_ok 5 (by decide)) wd_180 hσ4 dX6_readSign_22 (fun H locs V => ?_)
      refine r_ic X dX6_readSign_25 ?_
      exact r_rz X V (Or.inr rfl) (so2 h).1 (so2 h).2 dX6_readSign_26
    · replace h := ite_f c3 h
      refine r_aln X dX6_readSign_8 rfl (lv_at hl 0 rfl) ?_
      obtain ⟨v5, σ6, hv5, h⟩ := bd2_ex h
      refine r_ki V (r_runV (As := []) (rest := []) X Y V (c_X6_fail l G σ2  _ _  hv5) mv_X6_fail wd_483 ci_6 kd_21 ⟨rfl, rfl, Nat.le_of_ble_eq_true rfl, Nat.le_of_ble_eq_true rfl⟩ rfl rfl hl.1 (Nat.le_of_ble_eq_true rfl) ⟨Nat.le_refl 0, Nat.le_refl 0⟩ dX6_readSign_9) (fun H locs V => ?_)
      refine r_pop X dX6_readSign_12 rfl ?_
      refine r_ic X dX6_readSign_13 ?_
      exact r_rz X V (Or.inl rfl) (so2 h).1 (so2 h).2 dX6_readSign_14
  exact go _ _ _ X V

set_option maxRecDepth 100000 in
set_option maxHeartbeats 4000000 in
theorem c_X7_putBranches (l : Launch) (G : UG) (σ : St) (o : Int) (a1 : Int) (a2 : Int) (a3 : Int) (r : Int) (σ' : St) (ho : uvKd o = 7) (h : f_X7_putBranches σ o a1 a2 a3 = some (r, σ')) : Met l yX7_putBranches (.code yX7_putBranches cX7_putBranches 4 (Option.none : Option Jvm.ClassFile.FieldType) :: TB) { frames := 1, cells := 0, slots := 0, locals := 21 } (uvPc G σ [.ref (G.2.2.1 o), .int (iV a1), .int (iV a2), .int (iV a3)]) (uvQv G σ') 0 0 (uvA G) := by
  unfold f_X7_putBranches at h
  refine r_met (own := RX7) (lv := [(0, .ref (G.2.2.1 o)), (1, .int (iV a1)), (2, .int (iV a2)), (3, .int (iV a3))]) (by decide) rfl (Nat.le_of_ble_eq_true rfl) rfl ?_
  intro p e s m below meth c ls X Y V hl
  have go : ∀ (args : Array Value) (H : Heap) (locs : List Loc), uvCx p m c cX7_putBranches 4 RX7 s args meth (Option.none : Option Jvm.ClassFile.FieldType) → uvWo G σ s H locs → W p l e { frames := 1, cells := 0, slots := 0, locals := 21 } s m args below meth c H locs 0 0 (MQ below (uvQv G σ') args s 0 0 (uvA G)) (F0 m 0 ls []) := by
    intro args H locs X V
    refine r_aln X dX7_putBranches_0 rfl (lv_at hl 0 rfl) ?_
    refine r_iln X dX7_putBranches_1 rfl (lv_at hl 1 rfl) ?_
    refine r_kz V (r_runV (As := [.int (iV a1)]) (rest := []) X Y V (c_X7_isNode l G σ o a1 _ ho rfl) mv_X7_isNode wd_568 ci_7 ho ⟨rfl, rfl, Nat.le_of_ble_eq_true rfl, Nat.le_of_ble_eq_true rfl⟩ rfl rfl hl.1 (Nat.le_of_ble_eq_true rfl) ⟨Nat.le_refl 0, Nat.le_refl 0⟩ dX7_putBranches_2) (fun H locs V z1 => ?_)
    refine r_eq (cx := (f_X7_isNode σ o a1)) (tgt := 22) X (wI_01 z1) dX7_putBranches_5 (by decide) (fun c2 => ?_) (fun c2 => ?_)
    · replace h := ite_t c2 h
      exact r_rv X V (so2 h).2 dX7_putBranches_22
    · replace h := ite_f c2 h
      refine r_aln X dX7_putBranches_8 rfl (lv_at hl 0 rfl) ?_
      refine r_gr X Y V ci_7 ho 3 rfl (rf7_3 ho) (by decide) rfl rfl wd_134 dX7_putBranches_9 ?_
      refine r_iln X dX7_putBranches_12 rfl (lv_at hl 1 rfl) ?_
      refine r_iln X dX7_putBranches_13 rfl (lv_at hl 2 rfl) ?_
      obtain ⟨σ3, hσ3, hiσ3, h⟩ := wrA_ex h
      refine r_ias X Y V (ka7_3 ho) (ln7_3 ho) hiσ3 hσ3 dX7_putBranches_14 (fun H locs V => ?_)
      refine r_aln X dX7_putBranches_15 rfl (lv_at hl 0 rfl) ?_
      refine r_gr X Y V ci_7 ho 4 rfl (rf7_4 ho) (by decide) rfl rfl wd_135 dX7_putBranches_16 ?_
      refine r_iln X dX7_putBranches_19 rfl (lv_at hl 1 rfl) ?_
      refine r_iln X dX7_putBranches_20 rfl (lv_at hl 3 rfl) ?_
      obtain ⟨σ4, hσ4, hiσ4, h⟩ := wrA_ex h
      refine r_ias X Y V (ka7_4 ho) (ln7_4 ho) hiσ4 hσ4 dX7_putBranches_21 (fun H locs V => ?_)
      exact r_rv X V (so2 h).2 dX7_putBranches_22
  exact go _ _ _ X V

set_option maxRecDepth 100000 in
set_option maxHeartbeats 4000000 in
theorem c_X6_readBranches (l : Launch) (G : UG) (d : Nat) (rn : St → Int → Int → Option (Int × St)) (hrn : ∀ (σ : St) (a1 a2 r : Int) (σ' : St), rn σ a1 a2 = some (r, σ') → Met l yX6_readNode (.code yX6_readNode cX6_readNode 6 (Option.some Jvm.ClassFile.FieldType.int) :: TB) (rmN d) (uvPc G σ [.ref (G.2.2.1 21), .int (iV a1), .int (iV a2)]) (uvQi G r σ') 0 0 (uvA G)) (σ : St) (a1 : Int) (a2 : Int) (r : Int) (σ' : St)  (h : f_X6_readBranches rn σ a1 a2 = some (r, σ')) : Met l yX6_readBranches (.code yX6_readBranches cX6_readBranches 5 (Option.some Jvm.ClassFile.FieldType.int) :: TB) (rmB d) (uvPc G σ [.ref (G.2.2.1 21), .int (iV a1), .int (iV a2)]) (uvQi G r σ') 0 0 (uvA G) := by
  unfold f_X6_readBranches at h
  refine r_met (own := RX6) (lv := [(0, .ref (G.2.2.1 21)), (1, .int (iV a1)), (2, .int (iV a2))]) (by decide) rfl (Nat.le_of_ble_eq_true rfl) rfl ?_
  intro p e s m below meth c ls X Y V hl
  have go : ∀ (args : Array Value) (H : Heap) (locs : List Loc), uvCx p m c cX6_readBranches 5 RX6 s args meth (Option.some Jvm.ClassFile.FieldType.int) → uvWo G σ s H locs → W p l e (rmB d) s m args below meth c H locs 0 0 (MQ below (uvQi G r σ') args s 0 0 (uvA G)) (F0 m 0 ls []) := by
    intro args H locs X V
    refine r_aln X dX6_readBranches_0 rfl (lv_at hl 0 rfl) ?_
    refine r_bp X dX6_readBranches_1 (by decide) ?_
    obtain ⟨v1, σ2, hv1, h⟩ := bd2_ex h
    refine r_kz V (r_runV (As := [.int (iV 40)]) (rest := []) X Y V (c_X6_readSign l G σ 40 _ _  hv1) mv_X6_readSign wd_560 ci_6 kd_21 (by refine ⟨rfl, rfl, ?_, ?_⟩ <;> simp [rmN, rmB] <;> omega) rfl rfl hl.1 (Nat.le_of_ble_eq_true rfl) ⟨Nat.le_refl 0, Nat.le_refl 0⟩ dX6_readBranches_3) (fun H locs V z3 => ?_)
    refine r_ne (cx := v1) (tgt := 11) X (wI_01 z3) dX6_readBranches_6 (by decide) (fun c4 => ?_) (fun c4 => ?_)
    · replace h := ite_t c4 h
      refine r_ic X dX6_readBranches_9 ?_
      exact r_ri X V (so2 h).1 (so2 h).2 dX6_readBranches_10
    · replace h := ite_f c4 h
      refine r_aln X dX6_readBranches_11 rfl (lv_at hl 0 rfl) ?_
      refine r_iln X dX6_readBranches_12 rfl (lv_at hl 1 rfl) ?_
      refine r_iln X dX6_readBranches_13 rfl (lv_at hl 2 rfl) ?_
      obtain ⟨v5, σ6, hv5, h⟩ := bd2_ex h
      refine r_ki V (r_runV (As := [.int (iV a1), .int (iV a2)]) (rest := []) X Y V (hrn σ2 a1 a2 _ _ hv5) mv_X6_readNode wd_543 ci_6 kd_21 (by refine ⟨rfl, rfl, ?_, ?_⟩ <;> simp [rmN, rmB] <;> omega) rfl rfl hl.1 (Nat.le_of_ble_eq_true rfl) ⟨Nat.le_refl 0, Nat.le_refl 0⟩ dX6_readBranches_14) (fun H locs V => ?_)
      refine r_isn (lv' := [(3, .int (iV v5)), (0, .ref (G.2.2.1 21)), (1, .int (iV a1)), (2, .int (iV a2))]) X dX6_readBranches_17 rfl hl (by decide) rfl (fun ls hl => ?_)
      refine r_aln X dX6_readBranches_18 rfl (lv_at hl 1 rfl) ?_
      refine r_gi (kI := 6) X Y V ci_6 kd_21 6 rfl (by decide) rfl rfl wd_181 dX6_readBranches_19 ?_
      refine r_ic X dX6_readBranches_22 ?_
      refine r_ceq (cx := wI (σ6 21 6)) (cy := (-1)) (tgt := 28) X rfl rfl dX6_readBranches_23 (by decide) (fun c7 => ?_) (fun c7 => ?_)
      · replace h := ite_t c7 h
        refine r_aln X dX6_readBranches_28 rfl (lv_at hl 1 rfl) ?_
        refine r_iln X dX6_readBranches_29 rfl (lv_at hl 2 rfl) ?_
        refine r_iln X dX6_readBranches_30 rfl (lv_at hl 3 rfl) ?_
        obtain ⟨v8, σ9, hv8, h⟩ := bd2_ex h
        refine r_ki V (r_runV (As := [.int (iV a1), .int (iV a2)]) (rest := []) X Y V (hrn σ6 a1 a2 _ _ hv8) mv_X6_readNode wd_543 ci_6 kd_21 (by refine ⟨rfl, rfl, ?_, ?_⟩ <;> simp [rmN, rmB] <;> omega) rfl rfl hl.1 (Nat.le_of_ble_eq_true rfl) ⟨Nat.le_refl 0, Nat.le_refl 0⟩ dX6_readBranches_31) (fun H locs V => ?_)
        refine r_is (lv' := [(4, .int (iV v8)), (3, .int (iV v5)), (0, .ref (G.2.2.1 21)), (1, .int (iV a1)), (2, .int (iV a2))]) X dX6_readBranches_34 hl (by decide) rfl (fun ls hl => ?_)
        refine r_aln X dX6_readBranches_36 rfl (lv_at hl 2 rfl) ?_
        refine r_gi (kI := 6) X Y V ci_6 kd_21 6 rfl (by decide) rfl rfl wd_181 dX6_readBranches_37 ?_
        refine r_ic X dX6_readBranches_40 ?_
        refine r_cne (cx := wI (σ9 21 6)) (cy := (-1)) (tgt := 53) X rfl rfl dX6_readBranches_41 (by decide) (fun c10 => ?_) (fun c10 => ?_)
        · replace h := ite_t c10 h
          refine r_aln X dX6_readBranches_44 rfl (lv_at hl 2 rfl) ?_
          refine r_bp X dX6_readBranches_45 (by decide) ?_
          obtain ⟨v11, σ12, hv11, h⟩ := bd2_ex h
          refine r_kz V (r_runV (As := [.int (iV 41)]) (rest := []) X Y V (c_X6_readSign l G σ9 41 _ _  hv11) mv_X6_readSign wd_560 ci_6 kd_21 (by refine ⟨rfl, rfl, ?_, ?_⟩ <;> simp [rmN, rmB] <;> omega) rfl rfl hl.1 (Nat.le_of_ble_eq_true rfl) ⟨Nat.le_refl 0, Nat.le_refl 0⟩ dX6_readBranches_47) (fun H locs V z13 => ?_)
          refine r_ne (cx := v11) (tgt := 55) X (wI_01 z13) dX6_readBranches_50 (by decide) (fun c14 => ?_) (fun c14 => ?_)
          · replace h := ite_t c14 h
            refine r_ic X dX6_readBranches_53 ?_
            exact r_ri X V (so2 h).1 (so2 h).2 dX6_readBranches_54
          · replace h := ite_f c14 h
            refine r_aln X dX6_readBranches_55 rfl (lv_at hl 2 rfl) ?_
            refine r_gr X Y V ci_6 kd_21 2 rfl rfl (by decide) rfl rfl wd_174 dX6_readBranches_56 ?_
            refine r_iln X dX6_readBranches_59 rfl (lv_at hl 3 rfl) ?_
            refine r_iln X dX6_readBranches_60 rfl (lv_at hl 1 rfl) ?_
            refine r_il X dX6_readBranches_61 (lv_at hl 0 rfl) ?_
            obtain ⟨v15, σ16, hv15, h⟩ := bd2_ex h
            refine r_kv V (r_runV (As := [.int (iV a1), .int (iV v5), .int (iV v8)]) (rest := []) X Y V (c_X7_putBranches l G σ12 27 a1 v5 v8 _ _ kd_27 hv15) mv_X7_putBranches wd_564 ci_7 kd_27 (by refine ⟨rfl, rfl, ?_, ?_⟩ <;> simp [rmN, rmB] <;> omega) rfl rfl hl.1 (Nat.le_of_ble_eq_true rfl) ⟨Nat.le_refl 0, Nat.le_refl 0⟩ dX6_readBranches_63) (fun H locs V => ?_)
            refine r_iln X dX6_readBranches_66 rfl (lv_at hl 3 rfl) ?_
            exact r_ri X V (so2 h).1 (so2 h).2 dX6_readBranches_67
        · replace h := ite_f c10 h
          refine r_ic X dX6_readBranches_53 ?_
          exact r_ri X V (so2 h).1 (so2 h).2 dX6_readBranches_54
      · replace h := ite_f c7 h
        refine r_ic X dX6_readBranches_26 ?_
        exact r_ri X V (so2 h).1 (so2 h).2 dX6_readBranches_27
  exact go _ _ _ X V

set_option maxRecDepth 100000 in
set_option maxHeartbeats 4000000 in
theorem c_X6_readNode (l : Launch) (G : UG) : ∀ (d : Nat) (σ : St) (a1 a2 r : Int) (σ' : St) (h : f_X6_readNode d σ a1 a2 = some (r, σ')), Met l yX6_readNode (.code yX6_readNode cX6_readNode 6 (Option.some Jvm.ClassFile.FieldType.int) :: TB) (rmN d) (uvPc G σ [.ref (G.2.2.1 21), .int (iV a1), .int (iV a2)]) (uvQi G r σ') 0 0 (uvA G) := by
  intro d
  induction d with
  | zero => intro σ a1 a2 r σ' h; cases h
  | succ d ih =>
  intro σ a1 a2 r σ' h
  rw [f_X6_readNode] at h
  refine r_met (own := RX6) (lv := [(0, .ref (G.2.2.1 21)), (1, .int (iV a1)), (2, .int (iV a2))]) (by decide) rfl (Nat.le_of_ble_eq_true rfl) rfl ?_
  intro p e s m below meth c ls X Y V hl
  have go : ∀ (args : Array Value) (H : Heap) (locs : List Loc), uvCx p m c cX6_readNode 6 RX6 s args meth (Option.some Jvm.ClassFile.FieldType.int) → uvWo G σ s H locs → W p l e (rmN (d + 1)) s m args below meth c H locs 0 0 (MQ below (uvQi G r σ') args s 0 0 (uvA G)) (F0 m 0 ls []) := by
    intro args H locs X V
    refine r_aln X dX6_readNode_0 rfl (lv_at hl 0 rfl) ?_
    obtain ⟨v1, σ2, hv1, h⟩ := bd2_ex h
    refine r_ki V (r_runV (As := []) (rest := []) X Y V (c_X6_look l G σ  _ _  hv1) mv_X6_look wd_460 ci_6 kd_21 (by refine ⟨rfl, rfl, ?_, ?_⟩ <;> simp [rmN, rmB] <;> omega) rfl rfl hl.1 (Nat.le_of_ble_eq_true rfl) ⟨Nat.le_refl 0, Nat.le_refl 0⟩ dX6_readNode_1) (fun H locs V => ?_)
    refine r_isn (lv' := [(3, .int (iV v1)), (0, .ref (G.2.2.1 21)), (1, .int (iV a1)), (2, .int (iV a2))]) X dX6_readNode_4 rfl hl (by decide) rfl (fun ls hl => ?_)
    refine r_iln X dX6_readNode_5 rfl (lv_at hl 0 rfl) ?_
    refine r_bp X dX6_readNode_6 (by decide) ?_
    refine r_cne (cx := wI v1) (cy := 42) (tgt := 30) X rfl rfl dX6_readNode_8 (by decide) (fun c3 => ?_) (fun c3 => ?_)
    · replace h := ite_t c3 h
      refine r_aln X dX6_readNode_11 rfl (lv_at hl 1 rfl) ?_
      refine r_dup X dX6_readNode_12 rfl ?_
      refine r_gi (kI := 5) X Y V ci_6 kd_21 5 rfl (by decide) rfl rfl wd_180 dX6_readNode_13 ?_
      refine r_ic X dX6_readNode_16 ?_
      refine r_iadd X dX6_readNode_17 ?_
      obtain ⟨σ4, hσ4, h⟩ := wrF_ex h
      refine r_pi X Y V ci_6 kd_21 5 rfl (by decide) rfl rfl rfl (tyX6_ok 5 (by decide)) wd_180 hσ4 dX6_readNode_18 (fun H locs V => ?_)
      refine r_aln X dX6_readNode_21 rfl (lv_at hl 1 rfl) ?_
      refine r_gr X Y V ci_6 kd_21 2 rfl rfl (by decide) rfl rfl wd_174 dX6_readNode_22 ?_
      refine r_iln X dX6_readNode_25 rfl (lv_at hl 2 rfl) ?_
      obtain ⟨v5, σ6, hv5, h⟩ := bd2_ex h
      refine r_ki V (r_runV (As := [.int (iV a1)]) (rest := []) X Y V (c_X7_addLeaf l G σ4 27 a1 _ _ kd_27 hv5) mv_X7_addLeaf wd_547 ci_7 kd_27 (by refine ⟨rfl, rfl, ?_, ?_⟩ <;> simp [rmN, rmB] <;> omega) rfl rfl hl.1 (Nat.le_of_ble_eq_true rfl) ⟨Nat.le_refl 0, Nat.le_refl 0⟩ dX6_readNode_26) (fun H locs V => ?_)
      exact r_ri X V (so2 h).1 (so2 h).2 dX6_readNode_29
    · replace h := ite_f c3 h
      refine r_iln X dX6_readNode_30 rfl (lv_at hl 0 rfl) ?_
      refine r_kz V (r_runS (As := [.int (iV v1)]) (rest := []) X Y V (c_X6_isQuestion l G σ2 v1 _  rfl) ms_X6_isQuestion wd_548 (by refine ⟨rfl, rfl, ?_, ?_⟩ <;> simp [rmN, rmB] <;> omega) rfl rfl hl.1 (Nat.le_of_ble_eq_true rfl) ⟨Nat.le_refl 0, Nat.le_refl 0⟩ dX6_readNode_31) (fun H locs V z7 => ?_)
      refine r_eq (cx := (f_X6_isQuestion v1)) (tgt := 43) X (wI_01 z7) dX6_readNode_34 (by decide) (fun c8 => ?_) (fun c8 => ?_)
      · replace h := ite_t c8 h
        refine r_aln X dX6_readNode_43 rfl (lv_at hl 1 rfl) ?_
        obtain ⟨v9, σ10, hv9, h⟩ := bd2_ex h
        refine r_ki V (r_runV (As := []) (rest := []) X Y V (c_X6_fail l G σ2  _ _  hv9) mv_X6_fail wd_483 ci_6 kd_21 (by refine ⟨rfl, rfl, ?_, ?_⟩ <;> simp [rmN, rmB] <;> omega) rfl rfl hl.1 (Nat.le_of_ble_eq_true rfl) ⟨Nat.le_refl 0, Nat.le_refl 0⟩ dX6_readNode_44) (fun H locs V => ?_)
        exact r_ri X V (so2 h).1 (so2 h).2 dX6_readNode_47
      · replace h := ite_f c8 h
        refine r_iln X dX6_readNode_37 rfl (lv_at hl 3 rfl) ?_
        refine r_bp X dX6_readNode_38 (by decide) ?_
        refine r_clt (cx := wI a2) (cy := 7) (tgt := 48) X rfl rfl dX6_readNode_40 (by decide) (fun c11 => ?_) (fun c11 => ?_)
        · replace h := ite_t c11 h
          refine r_aln X dX6_readNode_48 rfl (lv_at hl 1 rfl) ?_
          refine r_dup X dX6_readNode_49 rfl ?_
          refine r_gi (kI := 5) X Y V ci_6 kd_21 5 rfl (by decide) rfl rfl wd_180 dX6_readNode_50 ?_
          refine r_ic X dX6_readNode_53 ?_
          refine r_iadd X dX6_readNode_54 ?_
          obtain ⟨σ12, hσ12, h⟩ := wrF_ex h
          refine r_pi X Y V ci_6 kd_21 5 rfl (by decide) rfl rfl rfl (tyX6_ok 5 (by decide)) wd_180 hσ12 dX6_readNode_55 (fun H locs V => ?_)
          refine r_aln X dX6_readNode_58 rfl (lv_at hl 1 rfl) ?_
          refine r_ic X dX6_readNode_59 ?_
          refine r_iln X dX6_readNode_60 rfl (lv_at hl 0 rfl) ?_
          refine r_bp X dX6_readNode_61 (by decide) ?_
          have J13 : W p l e (rmN (d + 1)) s m args below meth c H locs 0 0 (MQ below (uvQi G r σ') args s 0 0 (uvA G)) (F0 m 79 ls [.int (iV (if wI v1 = 76 then 6 else (if wI v1 = 82 then 6 else 9))), .int (iV 0), .ref (G.2.2.1 21)]) := by
            obtain ⟨v14, σ15, hv14, h⟩ := bd2_ex h
            refine r_ki V (r_runV (As := [.int (iV 0), .int (iV (if wI v1 = 76 then 6 else (if wI v1 = 82 then 6 else 9)))]) (rest := []) X Y V (c_X6_readFigure l G σ12 0 (if wI v1 = 76 then 6 else (if wI v1 = 82 then 6 else 9)) _ _  hv14) mv_X6_readFigure wd_530 ci_6 kd_21 (by refine ⟨rfl, rfl, ?_, ?_⟩ <;> simp [rmN, rmB] <;> omega) rfl rfl hl.1 (Nat.le_of_ble_eq_true rfl) ⟨Nat.le_refl 0, Nat.le_refl 0⟩ dX6_readNode_79) (fun H locs V => ?_)
            refine r_is (lv' := [(4, .int (iV v14)), (3, .int (iV v1)), (0, .ref (G.2.2.1 21)), (1, .int (iV a1)), (2, .int (iV a2))]) X dX6_readNode_82 hl (by decide) rfl (fun ls hl => ?_)
            refine r_aln X dX6_readNode_84 rfl (lv_at hl 2 rfl) ?_
            refine r_gi (kI := 6) X Y V ci_6 kd_21 6 rfl (by decide) rfl rfl wd_181 dX6_readNode_85 ?_
            refine r_ic X dX6_readNode_88 ?_
            refine r_ceq (cx := wI (σ15 21 6)) (cy := (-1)) (tgt := 94) X rfl rfl dX6_readNode_89 (by decide) (fun c16 => ?_) (fun c16 => ?_)
            · replace h := ite_t c16 h
              refine r_aln X dX6_readNode_94 rfl (lv_at hl 2 rfl) ?_
              refine r_gr X Y V ci_6 kd_21 2 rfl rfl (by decide) rfl rfl wd_174 dX6_readNode_95 ?_
              refine r_iln X dX6_readNode_98 rfl (lv_at hl 1 rfl) ?_
              refine r_il X dX6_readNode_99 (lv_at hl 0 rfl) ?_
              refine r_iln X dX6_readNode_101 rfl (lv_at hl 3 rfl) ?_
              refine r_iln X dX6_readNode_102 rfl (lv_at hl 4 rfl) ?_
              refine r_ic X dX6_readNode_103 ?_
              refine r_iadd X dX6_readNode_104 ?_
              obtain ⟨v17, σ18, hv17, h⟩ := bd2_ex h
              refine r_ki V (r_runV (As := [.int (iV v1), .int (iV v14), .int (iV a1), .int (iV (a2 + 1))]) (rest := []) X Y V (c_X7_addQuestion l G σ15 27 v1 v14 a1 (a2 + 1) _ _ kd_27 hv17) mv_X7_addQuestion wd_551 ci_7 kd_27 (by refine ⟨rfl, rfl, ?_, ?_⟩ <;> simp [rmN, rmB] <;> omega) rfl rfl hl.1 (Nat.le_of_ble_eq_true rfl) ⟨Nat.le_refl 0, Nat.le_refl 0⟩ dX6_readNode_105) (fun H locs V => ?_)
              refine r_is (lv' := [(5, .int (iV v17)), (4, .int (iV v14)), (3, .int (iV v1)), (0, .ref (G.2.2.1 21)), (1, .int (iV a1)), (2, .int (iV a2))]) X dX6_readNode_108 hl (by decide) rfl (fun ls hl => ?_)
              refine r_aln X dX6_readNode_110 rfl (lv_at hl 3 rfl) ?_
              refine r_il X dX6_readNode_111 (lv_at hl 0 rfl) ?_
              refine r_iln X dX6_readNode_113 rfl (lv_at hl 5 rfl) ?_
              refine r_ic X dX6_readNode_114 ?_
              refine r_iadd X dX6_readNode_115 ?_
              obtain ⟨v19, σ20, hv19, h⟩ := bd2_ex h
              refine r_ki V (r_runV (As := [.int (iV v17), .int (iV (a2 + 1))]) (rest := []) X Y V (c_X6_readBranches l G d (f_X6_readNode d) (fun σ a1 a2 r σ' h => ih σ a1 a2 r σ' h) σ18 v17 (a2 + 1) _ _  hv19) mv_X6_readBranches wd_556 ci_6 kd_21 (by refine ⟨rfl, rfl, ?_, ?_⟩ <;> simp [rmN, rmB] <;> omega) rfl rfl hl.1 (Nat.le_of_ble_eq_true rfl) ⟨Nat.le_refl 0, Nat.le_refl 0⟩ dX6_readNode_116) (fun H locs V => ?_)
              exact r_ri X V (so2 h).1 (so2 h).2 dX6_readNode_119
            · replace h := ite_f c16 h
              refine r_ic X dX6_readNode_92 ?_
              exact r_ri X V (so2 h).1 (so2 h).2 dX6_readNode_93
          refine r_ceq (cx := wI v1) (cy := 76) (tgt := 72) X rfl rfl dX6_readNode_63 (by decide) (fun c21 => ?_) (fun c21 => ?_)
          · skip
            refine r_bp X dX6_readNode_72 (by decide) ?_
            refine r_goto (tgt := 79) X dX6_readNode_74 (by decide) ?_
            rw [if_pos c21] at J13
            exact J13
          · skip
            refine r_iln X dX6_readNode_66 rfl (lv_at hl 0 rfl) ?_
            refine r_bp X dX6_readNode_67 (by decide) ?_
            refine r_cne (cx := wI v1) (cy := 82) (tgt := 77) X rfl rfl dX6_readNode_69 (by decide) (fun c22 => ?_) (fun c22 => ?_)
            · skip
              refine r_bp X dX6_readNode_72 (by decide) ?_
              refine r_goto (tgt := 79) X dX6_readNode_74 (by decide) ?_
              rw [if_neg c21] at J13
              rw [if_pos c22] at J13
              exact J13
            · skip
              refine r_bp X dX6_readNode_77 (by decide) ?_
              rw [if_neg c21] at J13
              rw [if_neg c22] at J13
              exact J13
        · replace h := ite_f c11 h
          refine r_aln X dX6_readNode_43 rfl (lv_at hl 1 rfl) ?_
          obtain ⟨v23, σ24, hv23, h⟩ := bd2_ex h
          refine r_ki V (r_runV (As := []) (rest := []) X Y V (c_X6_fail l G σ2  _ _  hv23) mv_X6_fail wd_483 ci_6 kd_21 (by refine ⟨rfl, rfl, ?_, ?_⟩ <;> simp [rmN, rmB] <;> omega) rfl rfl hl.1 (Nat.le_of_ble_eq_true rfl) ⟨Nat.le_refl 0, Nat.le_refl 0⟩ dX6_readNode_44) (fun H locs V => ?_)
          exact r_ri X V (so2 h).1 (so2 h).2 dX6_readNode_47
  exact go _ _ _ X V

set_option maxRecDepth 100000 in
set_option maxHeartbeats 4000000 in
theorem c_X6_readTree (l : Launch) (G : UG) (σ : St)  (r : Int) (σ' : St)  (h : f_X6_readTree σ = some (r, σ')) : Met l yX6_readTree (.code yX6_readTree cX6_readTree 1 (Option.none : Option Jvm.ClassFile.FieldType) :: TB) { frames := 23, cells := 0, slots := 0, locals := 1225 } (uvPc G σ [.ref (G.2.2.1 21)]) (uvQv G σ') 0 0 (uvA G) := by
  unfold f_X6_readTree at h
  refine r_met (own := RX6) (lv := [(0, .ref (G.2.2.1 21))]) (by decide) rfl (Nat.le_of_ble_eq_true rfl) rfl ?_
  intro p e s m below meth c ls X Y V hl
  have go : ∀ (args : Array Value) (H : Heap) (locs : List Loc), uvCx p m c cX6_readTree 1 RX6 s args meth (Option.none : Option Jvm.ClassFile.FieldType) → uvWo G σ s H locs → W p l e { frames := 23, cells := 0, slots := 0, locals := 1225 } s m args below meth c H locs 0 0 (MQ below (uvQv G σ') args s 0 0 (uvA G)) (F0 m 0 ls []) := by
    intro args H locs X V
    refine r_aln X dX6_readTree_0 rfl (lv_at hl 0 rfl) ?_
    refine r_lds1 X Y dX6_readTree_1 ?_
    obtain ⟨v1, σ2, hv1, h⟩ := bd2_ex h
    refine r_kz V (r_runV (As := [.ref (G.2.2.2.1 (1 : Int).toNat)]) (rest := []) X Y V (c_X6_readWord l G σ 1 _ _ (Or.inr rfl) hv1) mv_X6_readWord wd_469 ci_6 kd_21 ⟨rfl, rfl, Nat.le_of_ble_eq_true rfl, Nat.le_of_ble_eq_true rfl⟩ rfl rfl hl.1 (Nat.le_of_ble_eq_true rfl) ⟨Nat.le_refl 0, Nat.le_refl 0⟩ dX6_readTree_3) (fun H locs V z3 => ?_)
    refine r_eq (cx := v1) (tgt := 16) X (wI_01 z3) dX6_readTree_6 (by decide) (fun c4 => ?_) (fun c4 => ?_)
    · replace h := ite_t c4 h
      exact r_rv X V (so2 h).2 dX6_readTree_16
    · replace h := ite_f c4 h
      refine r_aln X dX6_readTree_9 rfl (lv_at hl 0 rfl) ?_
      refine r_ic X dX6_readTree_10 ?_
      refine r_ic X dX6_readTree_11 ?_
      obtain ⟨v5, σ6, hv5, h⟩ := bd2_ex h
      refine r_ki V (r_runV (As := [.int (iV (-1)), .int (iV 0)]) (rest := []) X Y V (c_X6_readNode l G 9 σ2 (-1) 0 _ _ hv5) mv_X6_readNode wd_543 ci_6 kd_21 ⟨rfl, rfl, Nat.le_of_ble_eq_true rfl, Nat.le_of_ble_eq_true rfl⟩ rfl rfl hl.1 (Nat.le_of_ble_eq_true rfl) ⟨Nat.le_refl 0, Nat.le_refl 0⟩ dX6_readTree_12) (fun H locs V => ?_)
      refine r_pop X dX6_readTree_15 rfl ?_
      exact r_rv X V (so2 h).2 dX6_readTree_16
  exact go _ _ _ X V

