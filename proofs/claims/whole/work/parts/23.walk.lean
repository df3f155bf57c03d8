set_option maxRecDepth 100000 in
set_option maxHeartbeats 4000000 in
theorem c_X6_readEnd (l : Launch) (G : UG) (σ : St)  (r : Int) (σ' : St)  (h : f_X6_readEnd σ = some (r, σ')) : Met l yX6_readEnd (.code yX6_readEnd cX6_readEnd 1 (Option.none : Option Jvm.ClassFile.FieldType) :: TB) { frames := 2, cells := 0, slots := 0, locals := 41 } (uvPc G σ [.ref (G.2.2.1 21)]) (uvQv G σ') 0 0 (uvA G) := by
  unfold f_X6_readEnd at h
  refine r_met (own := RX6) (lv := [(0, .ref (G.2.2.1 21))]) (by decide) rfl (Nat.le_of_ble_eq_true rfl) rfl ?_
  intro p e s m below meth c ls X Y V hl
  have go : ∀ (args : Array Value) (H : Heap) (locs : List Loc), uvCx p m c cX6_readEnd 1 RX6 s args meth (Option.none : Option Jvm.ClassFile.FieldType) → uvWo G σ s H locs → W p l e { frames := 2, cells := 0, slots := 0, locals := 41 } s m args below meth c H locs 0 0 (MQ below (uvQv G σ') args s 0 0 (uvA G)) (F0 m 0 ls []) := by
    intro args H locs X V
    refine r_aln X dX6_readEnd_0 rfl (lv_at hl 0 rfl) ?_
    refine r_bp X dX6_readEnd_1 (by decide) ?_
    obtain ⟨v1, σ2, hv1, h⟩ := bd2_ex h
    refine r_kz V (r_runV (As := [.int (iV 59)]) (rest := []) X Y V (c_X6_readSign l G σ 59 _ _  hv1) mv_X6_readSign wd_560 ci_6 kd_21 ⟨rfl, rfl, Nat.le_of_ble_eq_true rfl, Nat.le_of_ble_eq_true rfl⟩ rfl rfl hl.1 (Nat.le_of_ble_eq_true rfl) ⟨Nat.le_refl 0, Nat.le_refl 0⟩ dX6_readEnd_3) (fun H locs V z3 => ?_)
    refine r_eq (cx := v1) (tgt := 22) X (wI_01 z3) dX6_readEnd_6 (by decide) (fun c4 => ?_) (fun c4 => ?_)
    · replace h := ite_t c4 h
      exact r_rv X V (so2 h).2 dX6_readEnd_22
    · replace h := ite_f c4 h
      refine r_aln X dX6_readEnd_9 rfl (lv_at hl 0 rfl) ?_
      obtain ⟨v5, σ6, hv5, h⟩ := bd2_ex h
      refine r_ki V (r_runV (As := []) (rest := []) X Y V (c_X6_look l G σ2  _ _  hv5) mv_X6_look wd_460 ci_6 kd_21 ⟨rfl, rfl, Nat.le_of_ble_eq_true rfl, Nat.le_of_ble_eq_true rfl⟩ rfl rfl hl.1 (Nat.le_of_ble_eq_true rfl) ⟨Nat.le_refl 0, Nat.le_refl 0⟩ dX6_readEnd_10) (fun H locs V => ?_)
      refine r_ic X dX6_readEnd_13 ?_
      refine r_ceq (cx := wI v5) (cy := (-1)) (tgt := 22) X rfl rfl dX6_readEnd_14 (by decide) (fun c7 => ?_) (fun c7 => ?_)
      · replace h := ite_t c7 h
        exact r_rv X V (so2 h).2 dX6_readEnd_22
      · replace h := ite_f c7 h
        refine r_aln X dX6_readEnd_17 rfl (lv_at hl 0 rfl) ?_
        obtain ⟨v8, σ9, hv8, h⟩ := bd2_ex h
        refine r_ki V (r_runV (As := []) (rest := []) X Y V (c_X6_fail l G σ6  _ _  hv8) mv_X6_fail wd_483 ci_6 kd_21 ⟨rfl, rfl, Nat.le_of_ble_eq_true rfl, Nat.le_of_ble_eq_true rfl⟩ rfl rfl hl.1 (Nat.le_of_ble_eq_true rfl) ⟨Nat.le_refl 0, Nat.le_refl 0⟩ dX6_readEnd_18) (fun H locs V => ?_)
        refine r_pop X dX6_readEnd_21 rfl ?_
        exact r_rv X V (so2 h).2 dX6_readEnd_22
  exact go _ _ _ X V

set_option maxRecDepth 100000 in
set_option maxHeartbeats 4000000 in
theorem wj_X6_read_76 {p : Program} {l : Launch} {e : Env} {s : State} {m : MethodId} {args : Array Value} {below : List Frame} {meth : Method} {c : Code} {G : UG} (X : uvCx p m c cX6_read 2 RX6 s args meth (Option.some Jvm.ClassFile.FieldType.int)) (Y : uvGd G s s.heap) (r : Int) (σ' : St) (σ : St)   (H : Heap) (locs : List Loc) (ls : Array Slot) (V : uvWo G σ s H locs) (hl : lv_has ls 2 [(0, .ref (G.2.2.1 21))]) (h : jn_X6_read_76 σ = some (r, σ')) : W p l e { frames := 24, cells := 0, slots := 0, locals := 1245 } s m args below meth c H locs 0 0 (MQ below (uvQi G r σ') args s 0 0 (uvA G)) (F0 m 76 ls []) := by
  unfold jn_X6_read_76 at h
  refine r_aln X dX6_read_76 rfl (lv_at hl 0 rfl) ?_
  refine r_gi (kI := 6) X Y V ci_6 kd_21 6 rfl (by decide) rfl rfl wd_181 dX6_read_77 ?_
  refine r_ic X dX6_read_80 ?_
  refine r_cne (cx := wI (σ 21 6)) (cy := (-1)) (tgt := 88) X rfl rfl dX6_read_81 (by decide) (fun c13 => ?_) (fun c13 => ?_)
  · replace h := ite_t c13 h
    refine r_aln X dX6_read_84 rfl (lv_at hl 0 rfl) ?_
    obtain ⟨v14, σ15, hv14, h⟩ := bd2_ex h
    refine r_kv V (r_runV (As := []) (rest := []) X Y V (c_X6_readEnd l G σ  _ _  hv14) mv_X6_readEnd wd_572 ci_6 kd_21 ⟨rfl, rfl, Nat.le_of_ble_eq_true rfl, Nat.le_of_ble_eq_true rfl⟩ rfl rfl hl.1 (Nat.le_of_ble_eq_true rfl) ⟨Nat.le_refl 0, Nat.le_refl 0⟩ dX6_read_85) (fun H locs V => ?_)
    refine r_aln X dX6_read_88 rfl (lv_at hl 0 rfl) ?_
    refine r_gi (kI := 6) X Y V ci_6 kd_21 6 rfl (by decide) rfl rfl wd_181 dX6_read_89 ?_
    exact r_ri X V (so2 h).1 (so2 h).2 dX6_read_92
  · replace h := ite_f c13 h
    refine r_aln X dX6_read_88 rfl (lv_at hl 0 rfl) ?_
    refine r_gi (kI := 6) X Y V ci_6 kd_21 6 rfl (by decide) rfl rfl wd_181 dX6_read_89 ?_
    exact r_ri X V (so2 h).1 (so2 h).2 dX6_read_92

set_option maxRecDepth 100000 in
set_option maxHeartbeats 4000000 in
theorem c_X6_read (l : Launch) (G : UG) (σ : St)  (r : Int) (σ' : St)  (h : f_X6_read σ = some (r, σ')) : Met l yX6_read (.code yX6_read cX6_read 2 (Option.some Jvm.ClassFile.FieldType.int) :: TB) { frames := 24, cells := 0, slots := 0, locals := 1245 } (uvPc G σ [.ref (G.2.2.1 21)]) (uvQi G r σ') 0 0 (uvA G) := by
  unfold f_X6_read at h
  refine r_met (own := RX6) (lv := [(0, .ref (G.2.2.1 21))]) (by decide) rfl (Nat.le_of_ble_eq_true rfl) rfl ?_
  intro p e s m below meth c ls X Y V hl
  have go : ∀ (args : Array Value) (H : Heap) (locs : List Loc), uvCx p m c cX6_read 2 RX6 s args meth (Option.some Jvm.ClassFile.FieldType.int) → uvWo G σ s H locs → W p l e { frames := 24, cells := 0, slots := 0, locals := 1245 } s m args below meth c H locs 0 0 (MQ below (uvQi G r σ') args s 0 0 (uvA G)) (F0 m 0 ls []) := by
    intro args H locs X V
    refine r_aln X dX6_read_0 rfl (lv_at hl 0 rfl) ?_
    refine r_ic X dX6_read_1 ?_
    obtain ⟨σ1, hσ1, h⟩ := wrF_ex h
    refine r_pi X Y V ci_6 kd_21 5 rfl (by decide) rfl rfl rfl (tyX6_ok 5 (by decide)) wd_180 hσ1 dX6_read_2 (fun H locs V => ?_)
    refine r_aln X dX6_read_5 rfl (lv_at hl 0 rfl) ?_
    refine r_ic X dX6_read_6 ?_
    obtain ⟨σ2, hσ2, h⟩ := wrF_ex h
    refine r_pi X Y V ci_6 kd_21 6 rfl (by decide) rfl rfl rfl (tyX6_ok 6 (by decide)) wd_181 hσ2 dX6_read_7 (fun H locs V => ?_)
    refine r_aln X dX6_read_10 rfl (lv_at hl 0 rfl) ?_
    refine r_gr X Y V ci_6 kd_21 1 rfl rfl (by decide) rfl rfl wd_172 dX6_read_11 ?_
    refine r_ic X dX6_read_14 ?_
    obtain ⟨σ3, hσ3, h⟩ := wrF_ex h
    refine r_pi X Y V ci_4 kd_23 3 rfl (by decide) rfl rfl rfl (tyX4_ok 3 (by decide)) wd_105 hσ3 dX6_read_15 (fun H locs V => ?_)
    refine r_aln X dX6_read_18 rfl (lv_at hl 0 rfl) ?_
    refine r_gr X Y V ci_6 kd_21 2 rfl rfl (by decide) rfl rfl wd_174 dX6_read_19 ?_
    obtain ⟨v4, σ5, hv4, h⟩ := bd2_ex h
    refine r_kv V (r_runV (As := []) (rest := []) X Y V (c_X7_removeAll l G σ3 27 _ _ kd_27 hv4) mv_X7_removeAll wd_456 ci_7 kd_27 ⟨rfl, rfl, Nat.le_of_ble_eq_true rfl, Nat.le_of_ble_eq_true rfl⟩ rfl rfl hl.1 (Nat.le_of_ble_eq_true rfl) ⟨Nat.le_refl 0, Nat.le_refl 0⟩ dX6_read_22) (fun H locs V => ?_)
    refine r_aln X dX6_read_25 rfl (lv_at hl 0 rfl) ?_
    obtain ⟨v6, σ7, hv6, h⟩ := bd2_ex h
    refine r_ki V (r_runV (As := []) (rest := []) X Y V (c_X6_look l G σ5  _ _  hv6) mv_X6_look wd_460 ci_6 kd_21 ⟨rfl, rfl, Nat.le_of_ble_eq_true rfl, Nat.le_of_ble_eq_true rfl⟩ rfl rfl hl.1 (Nat.le_of_ble_eq_true rfl) ⟨Nat.le_refl 0, Nat.le_refl 0⟩ dX6_read_26) (fun H locs V => ?_)
    refine r_isn (lv' := [(1, .int (iV v6)), (0, .ref (G.2.2.1 21))]) X dX6_read_29 rfl hl (by decide) rfl (fun ls hl => ?_)
    refine r_aln X dX6_read_30 rfl (lv_at hl 1 rfl) ?_
    refine r_iln X dX6_read_31 rfl (lv_at hl 0 rfl) ?_
    refine r_bp X dX6_read_32 (by decide) ?_
    have J8 : W p l e { frames := 24, cells := 0, slots := 0, locals := 1245 } s m args below meth c H locs 0 0 (MQ below (uvQi G r σ') args s 0 0 (uvA G)) (F0 m 42 ls [.int (iV (if wI v6 = 114 then 1 else 0)), .ref (G.2.2.1 21)]) := by
      obtain ⟨σ9, hσ9, h⟩ := wrF_ex h
      refine r_pz X Y V ci_6 kd_21 4 (b01_ite (Or.inr rfl) (Or.inl rfl)) rfl (by decide) rfl rfl rfl (tyX6_ok 4 (by decide)) wd_178 hσ9 dX6_read_42 (fun H locs V => ?_)
      refine r_iln X dX6_read_45 rfl (lv_at hl 0 rfl) ?_
      refine r_bp X dX6_read_46 (by decide) ?_
      refine r_cne (cx := wI v6) (cy := 114) (tgt := 58) X rfl rfl dX6_read_48 (by decide) (fun c10 => ?_) (fun c10 => ?_)
      · replace h := ite_t c10 h
        refine r_aln X dX6_read_51 rfl (lv_at hl 1 rfl) ?_
        obtain ⟨v11, σ12, hv11, h⟩ := bd2_ex h
        refine r_kv V (r_runV (As := []) (rest := []) X Y V (c_X6_readRow l G σ9  _ _  hv11) mv_X6_readRow wd_464 ci_6 kd_21 ⟨rfl, rfl, Nat.le_of_ble_eq_true rfl, Nat.le_of_ble_eq_true rfl⟩ rfl rfl hl.1 (Nat.le_of_ble_eq_true rfl) ⟨Nat.le_refl 0, Nat.le_refl 0⟩ dX6_read_52) (fun H locs V => ?_)
        refine r_goto (tgt := 76) X dX6_read_55 (by decide) ?_
        exact wj_X6_read_76 X Y r σ' σ12   _ _ _ V (lv_sub hl [1] rfl) h
      · replace h := ite_f c10 h
        refine r_iln X dX6_read_58 rfl (lv_at hl 0 rfl) ?_
        refine r_bp X dX6_read_59 (by decide) ?_
        refine r_cne (cx := wI v6) (cy := 116) (tgt := 71) X rfl rfl dX6_read_61 (by decide) (fun c16 => ?_) (fun c16 => ?_)
        · replace h := ite_t c16 h
          refine r_aln X dX6_read_64 rfl (lv_at hl 1 rfl) ?_
          obtain ⟨v17, σ18, hv17, h⟩ := bd2_ex h
          refine r_kv V (r_runV (As := []) (rest := []) X Y V (c_X6_readTree l G σ9  _ _  hv17) mv_X6_readTree wd_538 ci_6 kd_21 ⟨rfl, rfl, Nat.le_of_ble_eq_true rfl, Nat.le_of_ble_eq_true rfl⟩ rfl rfl hl.1 (Nat.le_of_ble_eq_true rfl) ⟨Nat.le_refl 0, Nat.le_refl 0⟩ dX6_read_65) (fun H locs V => ?_)
          refine r_goto (tgt := 76) X dX6_read_68 (by decide) ?_
          exact wj_X6_read_76 X Y r σ' σ18   _ _ _ V (lv_sub hl [1] rfl) h
        · replace h := ite_f c16 h
          refine r_aln X dX6_read_71 rfl (lv_at hl 1 rfl) ?_
          obtain ⟨v19, σ20, hv19, h⟩ := bd2_ex h
          refine r_ki V (r_runV (As := []) (rest := []) X Y V (c_X6_fail l G σ9  _ _  hv19) mv_X6_fail wd_483 ci_6 kd_21 ⟨rfl, rfl, Nat.le_of_ble_eq_true rfl, Nat.le_of_ble_eq_true rfl⟩ rfl rfl hl.1 (Nat.le_of_ble_eq_true rfl) ⟨Nat.le_refl 0, Nat.le_refl 0⟩ dX6_read_72) (fun H locs V => ?_)
          refine r_pop X dX6_read_75 rfl ?_
          exact wj_X6_read_76 X Y r σ' σ20   _ _ _ V (lv_sub hl [1] rfl) h
    refine r_cne (cx := wI v6) (cy := 114) (tgt := 41) X rfl rfl dX6_read_34 (by decide) (fun c21 => ?_) (fun c21 => ?_)
    · skip
      refine r_ic X dX6_read_37 ?_
      refine r_goto (tgt := 42) X dX6_read_38 (by decide) ?_
      rw [if_pos c21] at J8
      exact J8
    · skip
      refine r_ic X dX6_read_41 ?_
      rw [if_neg c21] at J8
      exact J8
  exact go _ _ _ X V

set_option maxRecDepth 100000 in
set_option maxHeartbeats 4000000 in
theorem wl_X7_become_26 {p : Program} {l : Launch} {e : Env} {s : State} {m : MethodId} {args : Array Value} {below : List Frame} {meth : Method} {c : Code} {G : UG} (X : uvCx p m c cX7_become 3 RX7 s args meth (Option.none : Option Jvm.ClassFile.FieldType)) (Y : uvGd G s s.heap) (o : Int) (x1 : Int) (ho : uvKd o = 7) (hx1 : uvKd x1 = 7) (r : Int) (σ' : St) (kx : St → Option (Int × St)) (hkx : ∀ (σ : St)  (H : Heap) (locs : List Loc) (ls : Array Slot), uvWo G σ s H locs → lv_has ls 3 [] → kx σ  = some (r, σ') → W p l e { frames := 0, cells := 0, slots := 0, locals := 0 } s m args below meth c H locs 0 0 (MQ below (uvQv G σ') args s 0 0 (uvA G)) (F0 m 118 ls [])) : ∀ (n : Nat) (σ : St) (x2 : Int) (H : Heap) (locs : List Loc) (ls : Array Slot), uvWo G σ s H locs → lv_has ls 3 [(0, .ref (G.2.2.1 o)), (1, .ref (G.2.2.1 x1)), (2, .int (iV x2))] → lp_X7_become_26 o x1 kx n σ x2 = some (r, σ') → W p l e { frames := 0, cells := 0, slots := 0, locals := 0 } s m args below meth c H locs 0 0 (MQ below (uvQv G σ') args s 0 0 (uvA G)) (F0 m 26 ls []) := by
  intro n
  induction n with
  | zero => intro σ x2 H locs ls V hl h; cases h
  | succ n ih =>
    intro σ x2 H locs ls V hl h
    rw [lp_X7_become_26] at h
    refine r_iln X dX7_become_26 rfl (lv_at hl 2 rfl) ?_
    refine r_bp X dX7_become_27 (by decide) ?_
    refine r_cge (cx := wI x2) (cy := 120) (tgt := 118) X rfl rfl dX7_become_29 (by decide) (fun c4 => ?_) (fun c4 => ?_)
    · replace h := ite_t c4 h
      refine r_iln X dX7_become_32 rfl (lv_at hl 2 rfl) ?_
      refine r_aln X dX7_become_33 rfl (lv_at hl 0 rfl) ?_
      refine r_gi (kI := 6) X Y V ci_7 ho 6 rfl (by decide) rfl rfl wd_137 dX7_become_34 ?_
      refine r_cge (cx := wI x2) (cy := wI (σ o 6)) (tgt := 118) X rfl rfl dX7_become_37 (by decide) (fun c5 => ?_) (fun c5 => ?_)
      · replace h := ite_t c5 h
        refine r_aln X dX7_become_40 rfl (lv_at hl 0 rfl) ?_
        refine r_gr X Y V ci_7 ho 0 rfl (rf7_0 ho) (by decide) rfl rfl wd_131 dX7_become_41 ?_
        refine r_iln X dX7_become_44 rfl (lv_at hl 2 rfl) ?_
        refine r_aln X dX7_become_45 rfl (lv_at hl 1 rfl) ?_
        refine r_gr X Y V ci_7 hx1 0 rfl (rf7_0 hx1) (by decide) rfl rfl wd_131 dX7_become_46 ?_
        refine r_iln X dX7_become_49 rfl (lv_at hl 2 rfl) ?_
        obtain ⟨v6, hv6, hiv6, h⟩ := rdA_ex h
        refine r_ial X Y V (ka7_0 hx1) (ln7_0 hx1) hiv6 hv6 dX7_become_50 ?_
        obtain ⟨σ7, hσ7, hiσ7, h⟩ := wrA_ex h
        refine r_ias X Y V (ka7_0 ho) (ln7_0 ho) hiσ7 hσ7 dX7_become_51 (fun H locs V => ?_)
        refine r_aln X dX7_become_52 rfl (lv_at hl 0 rfl) ?_
        refine r_gr X Y V ci_7 ho 1 rfl (rf7_1 ho) (by decide) rfl rfl wd_132 dX7_become_53 ?_
        refine r_iln X dX7_become_56 rfl (lv_at hl 2 rfl) ?_
        refine r_aln X dX7_become_57 rfl (lv_at hl 1 rfl) ?_
        refine r_gr X Y V ci_7 hx1 1 rfl (rf7_1 hx1) (by decide) rfl rfl wd_132 dX7_become_58 ?_
        refine r_iln X dX7_become_61 rfl (lv_at hl 2 rfl) ?_
        obtain ⟨v8, hv8, hiv8, h⟩ := rdA_ex h
        refine r_ial X Y V (ka7_1 hx1) (ln7_1 hx1) hiv8 hv8 dX7_become_62 ?_
        obtain ⟨σ9, hσ9, hiσ9, h⟩ := wrA_ex h
        refine r_ias X Y V (ka7_1 ho) (ln7_1 ho) hiσ9 hσ9 dX7_become_63 (fun H locs V => ?_)
        refine r_aln X dX7_become_64 rfl (lv_at hl 0 rfl) ?_
        refine r_gr X Y V ci_7 ho 2 rfl (rf7_2 ho) (by decide) rfl rfl wd_133 dX7_become_65 ?_
        refine r_iln X dX7_become_68 rfl (lv_at hl 2 rfl) ?_
        refine r_aln X dX7_become_69 rfl (lv_at hl 1 rfl) ?_
        refine r_gr X Y V ci_7 hx1 2 rfl (rf7_2 hx1) (by decide) rfl rfl wd_133 dX7_become_70 ?_
        refine r_iln X dX7_become_73 rfl (lv_at hl 2 rfl) ?_
        obtain ⟨v10, hv10, hiv10, h⟩ := rdA_ex h
        refine r_ial X Y V (ka7_2 hx1) (ln7_2 hx1) hiv10 hv10 dX7_become_74 ?_
        obtain ⟨σ11, hσ11, hiσ11, h⟩ := wrA_ex h
        refine r_ias X Y V (ka7_2 ho) (ln7_2 ho) hiσ11 hσ11 dX7_become_75 (fun H locs V => ?_)
        refine r_aln X dX7_become_76 rfl (lv_at hl 0 rfl) ?_
        refine r_gr X Y V ci_7 ho 3 rfl (rf7_3 ho) (by decide) rfl rfl wd_134 dX7_become_77 ?_
        refine r_iln X dX7_become_80 rfl (lv_at hl 2 rfl) ?_
        refine r_aln X dX7_become_81 rfl (lv_at hl 1 rfl) ?_
        refine r_gr X Y V ci_7 hx1 3 rfl (rf7_3 hx1) (by decide) rfl rfl wd_134 dX7_become_82 ?_
        refine r_iln X dX7_become_85 rfl (lv_at hl 2 rfl) ?_
        obtain ⟨v12, hv12, hiv12, h⟩ := rdA_ex h
        refine r_ial X Y V (ka7_3 hx1) (ln7_3 hx1) hiv12 hv12 dX7_become_86 ?_
        obtain ⟨σ13, hσ13, hiσ13, h⟩ := wrA_ex h
        refine r_ias X Y V (ka7_3 ho) (ln7_3 ho) hiσ13 hσ13 dX7_become_87 (fun H locs V => ?_)
        refine r_aln X dX7_become_88 rfl (lv_at hl 0 rfl) ?_
        refine r_gr X Y V ci_7 ho 4 rfl (rf7_4 ho) (by decide) rfl rfl wd_135 dX7_become_89 ?_
        refine r_iln X dX7_become_92 rfl (lv_at hl 2 rfl) ?_
        refine r_aln X dX7_become_93 rfl (lv_at hl 1 rfl) ?_
        refine r_gr X Y V ci_7 hx1 4 rfl (rf7_4 hx1) (by decide) rfl rfl wd_135 dX7_become_94 ?_
        refine r_iln X dX7_become_97 rfl (lv_at hl 2 rfl) ?_
        obtain ⟨v14, hv14, hiv14, h⟩ := rdA_ex h
        refine r_ial X Y V (ka7_4 hx1) (ln7_4 hx1) hiv14 hv14 dX7_become_98 ?_
        obtain ⟨σ15, hσ15, hiσ15, h⟩ := wrA_ex h
        refine r_ias X Y V (ka7_4 ho) (ln7_4 ho) hiσ15 hσ15 dX7_become_99 (fun H locs V => ?_)
        refine r_aln X dX7_become_100 rfl (lv_at hl 0 rfl) ?_
        refine r_gr X Y V ci_7 ho 5 rfl (rf7_5 ho) (by decide) rfl rfl wd_136 dX7_become_101 ?_
        refine r_iln X dX7_become_104 rfl (lv_at hl 2 rfl) ?_
        refine r_aln X dX7_become_105 rfl (lv_at hl 1 rfl) ?_
        refine r_gr X Y V ci_7 hx1 5 rfl (rf7_5 hx1) (by decide) rfl rfl wd_136 dX7_become_106 ?_
        refine r_iln X dX7_become_109 rfl (lv_at hl 2 rfl) ?_
        obtain ⟨v16, hv16, hiv16, h⟩ := rdA_ex h
        refine r_ial X Y V (ka7_5 hx1) (ln7_5 hx1) hiv16 hv16 dX7_become_110 ?_
        obtain ⟨σ17, hσ17, hiσ17, h⟩ := wrA_ex h
        refine r_ias X Y V (ka7_5 ho) (ln7_5 ho) hiσ17 hσ17 dX7_become_111 (fun H locs V => ?_)
        refine r_inc (kk := 2) (lv' := [(2, .int (iV (x2 + 1))), (0, .ref (G.2.2.1 o)), (1, .ref (G.2.2.1 x1))]) X dX7_become_112 hl rfl (by decide) rfl (fun ls hl => ?_)
        refine r_goto (tgt := 26) X dX7_become_115 (by decide) ?_
        exact ih σ17 (x2 + 1) _ _ _ V (lv_sub hl [1, 2, 0] rfl) h
      · replace h := ite_f c5 h
        exact hkx σ  _ _ _ V (lv_sub hl [] rfl) h
    · replace h := ite_f c4 h
      exact hkx σ  _ _ _ V (lv_sub hl [] rfl) h

set_option maxRecDepth 100000 in
set_option maxHeartbeats 4000000 in
theorem c_X7_become (l : Launch) (G : UG) (σ : St) (o : Int) (a1 : Int) (r : Int) (σ' : St) (ho : uvKd o = 7) (ha1 : uvKd a1 = 7) (h : f_X7_become σ o a1 = some (r, σ')) : Met l yX7_become (.code yX7_become cX7_become 3 (Option.none : Option Jvm.ClassFile.FieldType) :: TB) { frames := 0, cells := 0, slots := 0, locals := 0 } (uvPc G σ [.ref (G.2.2.1 o), .ref (G.2.2.1 a1)]) (uvQv G σ') 0 0 (uvA G) := by
  unfold f_X7_become at h
  refine r_met (own := RX7) (lv := [(0, .ref (G.2.2.1 o)), (1, .ref (G.2.2.1 a1))]) (by decide) rfl (Nat.le_of_ble_eq_true rfl) rfl ?_
  intro p e s m below meth c ls X Y V hl
  have go : ∀ (args : Array Value) (H : Heap) (locs : List Loc), uvCx p m c cX7_become 3 RX7 s args meth (Option.none : Option Jvm.ClassFile.FieldType) → uvWo G σ s H locs → W p l e { frames := 0, cells := 0, slots := 0, locals := 0 } s m args below meth c H locs 0 0 (MQ below (uvQv G σ') args s 0 0 (uvA G)) (F0 m 0 ls []) := by
    intro args H locs X V
    refine r_aln X dX7_become_0 rfl (lv_at hl 0 rfl) ?_
    refine r_aln X dX7_become_1 rfl (lv_at hl 1 rfl) ?_
    refine r_gi (kI := 6) X Y V ci_7 ha1 6 rfl (by decide) rfl rfl wd_137 dX7_become_2 ?_
    obtain ⟨σ1, hσ1, h⟩ := wrF_ex h
    refine r_pi X Y V ci_7 ho 6 rfl (by decide) rfl rfl rfl (tyX7_ok 6 (by decide)) wd_137 hσ1 dX7_become_5 (fun H locs V => ?_)
    refine r_aln X dX7_become_8 rfl (lv_at hl 0 rfl) ?_
    refine r_aln X dX7_become_9 rfl (lv_at hl 1 rfl) ?_
    refine r_gi (kI := 7) X Y V ci_7 ha1 7 rfl (by decide) rfl rfl wd_138 dX7_become_10 ?_
    obtain ⟨σ2, hσ2, h⟩ := wrF_ex h
    refine r_pi X Y V ci_7 ho 7 rfl (by decide) rfl rfl rfl (tyX7_ok 7 (by decide)) wd_138 hσ2 dX7_become_13 (fun H locs V => ?_)
    refine r_aln X dX7_become_16 rfl (lv_at hl 0 rfl) ?_
    refine r_aln X dX7_become_17 rfl (lv_at hl 1 rfl) ?_
    refine r_gi (kI := 8) X Y V ci_7 ha1 8 rfl (by decide) rfl rfl wd_140 dX7_become_18 ?_
    obtain ⟨σ3, hσ3, h⟩ := wrF_ex h
    refine r_pi X Y V ci_7 ho 8 rfl (by decide) rfl rfl rfl (tyX7_ok 8 (by decide)) wd_140 hσ3 dX7_become_21 (fun H locs V => ?_)
    refine r_ic X dX7_become_24 ?_
    refine r_isn (lv' := [(2, .int (iV 0)), (0, .ref (G.2.2.1 o)), (1, .ref (G.2.2.1 a1))]) X dX7_become_25 rfl hl (by decide) rfl (fun ls hl => ?_)
    refine wl_X7_become_26 X Y o a1 ho ha1 r σ' _ (fun σ18  H locs ls V hl h => ?_) 1000 σ3 0 _ _ _ V (lv_sub hl [1, 2, 0] rfl) h
    exact r_rv X V (so2 h).2 dX7_become_118
  exact go _ _ _ X V

set_option maxRecDepth 100000 in
set_option maxHeartbeats 4000000 in
theorem c_X7_numberOf (l : Launch) (G : UG) (σ0 : St) (o : Int) (a1 : Int) (r : Int) (ho : uvKd o = 7) (h : f_X7_numberOf σ0 o a1 = some r) : Met l yX7_numberOf (.code yX7_numberOf cX7_numberOf 2 (Option.some Jvm.ClassFile.FieldType.int) :: TB) { frames := 1, cells := 0, slots := 0, locals := 21 } (uvPc G σ0 [.ref (G.2.2.1 o), .int (iV a1)]) (uvQi G r σ0) 0 0 (uvA G) := by
  unfold f_X7_numberOf at h
  refine r_met (own := RX7) (lv := [(0, .ref (G.2.2.1 o)), (1, .int (iV a1))]) (by decide) rfl (Nat.le_of_ble_eq_true rfl) rfl ?_
  intro p e s m below meth c ls X Y V hl
  have go : ∀ (args : Array Value) (H : Heap) (locs : List Loc), uvCx p m c cX7_numberOf 2 RX7 s args meth (Option.some Jvm.ClassFile.FieldType.int) → uvWo G σ0 s H locs → W p l e { frames := 1, cells := 0, slots := 0, locals := 21 } s m args below meth c H locs 0 0 (MQ below (uvQi G r σ0) args s 0 0 (uvA G)) (F0 m 0 ls []) := by
    intro args H locs X V
    refine r_aln X dX7_numberOf_0 rfl (lv_at hl 0 rfl) ?_
    refine r_iln X dX7_numberOf_1 rfl (lv_at hl 1 rfl) ?_
    refine r_kz V (r_runV (As := [.int (iV a1)]) (rest := []) X Y V (c_X7_isNode l G σ0 o a1 _ ho rfl) mv_X7_isNode wd_568 ci_7 ho ⟨rfl, rfl, Nat.le_of_ble_eq_true rfl, Nat.le_of_ble_eq_true rfl⟩ rfl rfl hl.1 (Nat.le_of_ble_eq_true rfl) ⟨Nat.le_refl 0, Nat.le_refl 0⟩ dX7_numberOf_2) (fun H locs V z1 => ?_)
    refine r_eq (cx := (f_X7_isNode σ0 o a1)) (tgt := 17) X (wI_01 z1) dX7_numberOf_5 (by decide) (fun c2 => ?_) (fun c2 => ?_)
    · replace h := ite_t c2 h
      refine r_ic X dX7_numberOf_17 ?_
      exact r_ri X V (so1 h) rfl dX7_numberOf_18
    · replace h := ite_f c2 h
      refine r_aln X dX7_numberOf_8 rfl (lv_at hl 0 rfl) ?_
      refine r_gr X Y V ci_7 ho 5 rfl (rf7_5 ho) (by decide) rfl rfl wd_136 dX7_numberOf_9 ?_
      refine r_iln X dX7_numberOf_12 rfl (lv_at hl 1 rfl) ?_
      obtain ⟨v3, hv3, hiv3, h⟩ := rdA_ex h
      refine r_ial X Y V (ka7_5 ho) (ln7_5 ho) hiv3 hv3 dX7_numberOf_13 ?_
      refine r_goto (tgt := 18) X dX7_numberOf_14 (by decide) ?_
      exact r_ri X V (so1 h) rfl dX7_numberOf_18
  exact go _ _ _ X V

set_option maxRecDepth 100000 in
set_option maxHeartbeats 4000000 in
theorem wl_X8_removeAll_7 {p : Program} {l : Launch} {e : Env} {s : State} {m : MethodId} {args : Array Value} {below : List Frame} {meth : Method} {c : Code} {G : UG} (X : uvCx p m c cX8_removeAll 2 RX8 s args meth (Option.none : Option Jvm.ClassFile.FieldType)) (Y : uvGd G s s.heap)   (r : Int) (σ' : St) (kx : St → Option (Int × St)) (hkx : ∀ (σ : St)  (H : Heap) (locs : List Loc) (ls : Array Slot), uvWo G σ s H locs → lv_has ls 2 [] → kx σ  = some (r, σ') → W p l e { frames := 0, cells := 0, slots := 0, locals := 0 } s m args below meth c H locs 0 0 (MQ below (uvQv G σ') args s 0 0 (uvA G)) (F0 m 25 ls [])) : ∀ (n : Nat) (σ : St) (x1 : Int) (H : Heap) (locs : List Loc) (ls : Array Slot), uvWo G σ s H locs → lv_has ls 2 [(0, .ref (G.2.2.1 1)), (1, .int (iV x1))] → lp_X8_removeAll_7 kx n σ x1 = some (r, σ') → W p l e { frames := 0, cells := 0, slots := 0, locals := 0 } s m args below meth c H locs 0 0 (MQ below (uvQv G σ') args s 0 0 (uvA G)) (F0 m 7 ls []) := by
  intro n
  induction n with
  | zero => intro σ x1 H locs ls V hl h; cases h
  | succ n ih =>
    intro σ x1 H locs ls V hl h
    rw [lp_X8_removeAll_7] at h
    refine r_iln X dX8_removeAll_7 rfl (lv_at hl 1 rfl) ?_
    refine r_ic X dX8_removeAll_8 ?_
    refine r_cge (cx := wI x1) (cy := 4) (tgt := 25) X rfl rfl dX8_removeAll_9 (by decide) (fun c2 => ?_) (fun c2 => ?_)
    · replace h := ite_t c2 h
      refine r_aln X dX8_removeAll_12 rfl (lv_at hl 0 rfl) ?_
      refine r_gr X Y V ci_8 kd_1 7 rfl rfl (by decide) rfl rfl wd_62 dX8_removeAll_13 ?_
      refine r_iln X dX8_removeAll_16 rfl (lv_at hl 1 rfl) ?_
      refine r_ic X dX8_removeAll_17 ?_
      obtain ⟨σ3, hσ3, hiσ3, h⟩ := wrA_ex h
      refine r_ias X Y V kd_9 ln_9 hiσ3 hσ3 dX8_removeAll_18 (fun H locs V => ?_)
      refine r_inc (kk := 1) (lv' := [(1, .int (iV (x1 + 1))), (0, .ref (G.2.2.1 1))]) X dX8_removeAll_19 hl rfl (by decide) rfl (fun ls hl => ?_)
      refine r_goto (tgt := 7) X dX8_removeAll_22 (by decide) ?_
      exact ih σ3 (x1 + 1) _ _ _ V (lv_sub hl [1, 0] rfl) h
    · replace h := ite_f c2 h
      exact hkx σ  _ _ _ V (lv_sub hl [] rfl) h

set_option maxRecDepth 100000 in
set_option maxHeartbeats 4000000 in
theorem c_X8_removeAll (l : Launch) (G : UG) (σ : St)  (r : Int) (σ' : St)  (h : f_X8_removeAll σ = some (r, σ')) : Met l yX8_removeAll (.code yX8_removeAll cX8_removeAll 2 (Option.none : Option Jvm.ClassFile.FieldType) :: TB) { frames := 0, cells := 0, slots := 0, locals := 0 } (uvPc G σ [.ref (G.2.2.1 1)]) (uvQv G σ') 0 0 (uvA G) := by
  unfold f_X8_removeAll at h
  refine r_met (own := RX8) (lv := [(0, .ref (G.2.2.1 1))]) (by decide) rfl (Nat.le_of_ble_eq_true rfl) rfl ?_
  intro p e s m below meth c ls X Y V hl
  have go : ∀ (args : Array Value) (H : Heap) (locs : List Loc), uvCx p m c cX8_removeAll 2 RX8 s args meth (Option.none : Option Jvm.ClassFile.FieldType) → uvWo G σ s H locs → W p l e { frames := 0, cells := 0, slots := 0, locals := 0 } s m args below meth c H locs 0 0 (MQ below (uvQv G σ') args s 0 0 (uvA G)) (F0 m 0 ls []) := by
    intro args H locs X V
    refine r_aln X dX8_removeAll_0 rfl (lv_at hl 0 rfl) ?_
    refine r_ic X dX8_removeAll_1 ?_
    obtain ⟨σ1, hσ1, h⟩ := wrF_ex h
    refine r_pi X Y V ci_8 kd_1 8 rfl (by decide) rfl rfl rfl (tyX8_ok 8 (by decide)) wd_63 hσ1 dX8_removeAll_2 (fun H locs V => ?_)
    refine r_ic X dX8_removeAll_5 ?_
    refine r_isn (lv' := [(1, .int (iV 0)), (0, .ref (G.2.2.1 1))]) X dX8_removeAll_6 rfl hl (by decide) rfl (fun ls hl => ?_)
    refine wl_X8_removeAll_7 X Y   r σ' _ (fun σ4  H locs ls V hl h => ?_) 1000 σ1 0 _ _ _ V (lv_sub hl [1, 0] rfl) h
    exact r_rv X V (so2 h).2 dX8_removeAll_25
  exact go _ _ _ X V

set_option maxRecDepth 100000 in
set_option maxHeartbeats 4000000 in
theorem c_X9_isTake (l : Launch) (G : UG) (σ0 : St) (a0 : Int) (r : Int)  (h : f_X9_isTake a0 = r) : Met l yX9_isTake (.code yX9_isTake cX9_isTake 1 (Option.some Jvm.ClassFile.FieldType.boolean) :: TB) { frames := 1, cells := 0, slots := 0, locals := 22 } (uvPc G σ0 [.int (iV a0)]) (uvQz G r σ0) 0 0 (uvA G) := by
  unfold f_X9_isTake at h
  refine r_met (own := RX9) (lv := [(0, .int (iV a0))]) (by decide) rfl (Nat.le_of_ble_eq_true rfl) rfl ?_
  intro p e s m below meth c ls X Y V hl
  have go : ∀ (args : Array Value) (H : Heap) (locs : List Loc), uvCx p m c cX9_isTake 1 RX9 s args meth (Option.some Jvm.ClassFile.FieldType.boolean) → uvWo G σ0 s H locs → W p l e { frames := 1, cells := 0, slots := 0, locals := 22 } s m args below meth c H locs 0 0 (MQ below (uvQz G r σ0) args s 0 0 (uvA G)) (F0 m 0 ls []) := by
    intro args H locs X V
    refine r_iln X dX9_isTake_0 rfl (lv_at hl 0 rfl) ?_
    refine r_ic X dX9_isTake_1 ?_
    refine r_ic X dX9_isTake_2 ?_
    refine r_kz V (r_runS (As := [.int (iV a0), .int (iV 0), .int (iV 3)]) (rest := []) X Y V (c_X9_within l G σ0 a0 0 3 _  rfl) ms_X9_within wd_378 ⟨rfl, rfl, Nat.le_of_ble_eq_true rfl, Nat.le_of_ble_eq_true rfl⟩ rfl rfl hl.1 (Nat.le_of_ble_eq_true rfl) ⟨Nat.le_refl 0, Nat.le_refl 0⟩ dX9_isTake_3) (fun H locs V z1 => ?_)
    exact r_rz X V z1 h rfl dX9_isTake_6
  exact go _ _ _ X V

set_option maxRecDepth 100000 in
set_option maxHeartbeats 4000000 in
theorem wj_X8_add_121 {p : Program} {l : Launch} {e : Env} {s : State} {m : MethodId} {args : Array Value} {below : List Frame} {meth : Method} {c : Code} {G : UG} (X : uvCx p m c cX8_add 9 RX8 s args meth (Option.some Jvm.ClassFile.FieldType.int)) (Y : uvGd G s s.heap) (r : Int) (σ' : St) (σ : St) (x6 : Int) (x7 : Int)  (H : Heap) (locs : List Loc) (ls : Array Slot) (V : uvWo G σ s H locs) (hl : lv_has ls 9 [(0, .ref (G.2.2.1 1)), (6, .int (iV x6)), (7, .int (iV x7))]) (h : jn_X8_add_121 σ x6 x7 = some (r, σ')) : W p l e { frames := 2, cells := 0, slots := 0, locals := 42 } s m args below meth c H locs 0 0 (MQ below (uvQi G r σ') args s 0 0 (uvA G)) (F0 m 121 ls []) := by
  unfold jn_X8_add_121 at h
  refine r_aln X dX8_add_121 rfl (lv_at hl 0 rfl) ?_
  refine r_gr X Y V ci_8 kd_1 7 rfl rfl (by decide) rfl rfl wd_62 dX8_add_122 ?_
  refine r_il X dX8_add_125 (lv_at hl 1 rfl) ?_
  refine r_il X dX8_add_127 (lv_at hl 2 rfl) ?_
  obtain ⟨σ14, hσ14, hiσ14, h⟩ := wrA_ex h
  refine r_ias X Y V kd_9 ln_9 hiσ14 hσ14 dX8_add_129 (fun H locs V => ?_)
  refine r_aln X dX8_add_130 rfl (lv_at hl 0 rfl) ?_
  refine r_dup X dX8_add_131 rfl ?_
  refine r_gi (kI := 8) X Y V ci_8 kd_1 8 rfl (by decide) rfl rfl wd_63 dX8_add_132 ?_
  refine r_ic X dX8_add_135 ?_
  refine r_iadd X dX8_add_136 ?_
  obtain ⟨σ15, hσ15, h⟩ := wrF_ex h
  refine r_pi X Y V ci_8 kd_1 8 rfl (by decide) rfl rfl rfl (tyX8_ok 8 (by decide)) wd_63 hσ15 dX8_add_137 (fun H locs V => ?_)
  refine r_il X dX8_add_140 (lv_at hl 2 rfl) ?_
  exact r_ri X V (so2 h).1 (so2 h).2 dX8_add_142

set_option maxRecDepth 100000 in
set_option maxHeartbeats 4000000 in
theorem c_X8_add (l : Launch) (G : UG) (σ : St) (a1 : Int) (a2 : Int) (a3 : Int) (a4 : Int) (a5 : Int) (a6 : Int) (r : Int) (σ' : St)  (h : f_X8_add σ a1 a2 a3 a4 a5 a6 = some (r, σ')) : Met l yX8_add (.code yX8_add cX8_add 9 (Option.some Jvm.ClassFile.FieldType.int) :: TB) { frames := 2, cells := 0, slots := 0, locals := 42 } (uvPc G σ [.ref (G.2.2.1 1), .int (iV a1), .int (iV a2), .int (iV a3), .int (iV a4), .int (iV a5), .int (iV a6)]) (uvQi G r σ') 0 0 (uvA G) := by
  unfold f_X8_add at h
  refine r_met (own := RX8) (lv := [(0, .ref (G.2.2.1 1)), (1, .int (iV a1)), (2, .int (iV a2)), (3, .int (iV a3)), (4, .int (iV a4)), (5, .int (iV a5)), (6, .int (iV a6))]) (by decide) rfl (Nat.le_of_ble_eq_true rfl) rfl ?_
  intro p e s m below meth c ls X Y V hl
  have go : ∀ (args : Array Value) (H : Heap) (locs : List Loc), uvCx p m c cX8_add 9 RX8 s args meth (Option.some Jvm.ClassFile.FieldType.int) → uvWo G σ s H locs → W p l e { frames := 2, cells := 0, slots := 0, locals := 42 } s m args below meth c H locs 0 0 (MQ below (uvQi G r σ') args s 0 0 (uvA G)) (F0 m 0 ls []) := by
    intro args H locs X V
    refine r_aln X dX8_add_0 rfl (lv_at hl 0 rfl) ?_
    refine r_gi (kI := 8) X Y V ci_8 kd_1 8 rfl (by decide) rfl rfl wd_63 dX8_add_1 ?_
    refine r_lt (cx := wI (σ 1 8)) (tgt := 24) X rfl dX8_add_4 (by decide) (fun c1 => ?_) (fun c1 => ?_)
    · replace h := ite_t c1 h
      refine r_ic X dX8_add_24 ?_
      exact r_ri X V (so2 h).1 (so2 h).2 dX8_add_25
    · replace h := ite_f c1 h
      refine r_aln X dX8_add_7 rfl (lv_at hl 0 rfl) ?_
      refine r_gi (kI := 8) X Y V ci_8 kd_1 8 rfl (by decide) rfl rfl wd_63 dX8_add_8 ?_
      refine r_bp X dX8_add_11 (by decide) ?_
      refine r_cge (cx := wI (σ 1 8)) (cy := 40) (tgt := 24) X rfl rfl dX8_add_13 (by decide) (fun c2 => ?_) (fun c2 => ?_)
      · replace h := ite_t c2 h
        refine r_il X dX8_add_16 (lv_at hl 6 rfl) ?_
        refine r_kz V (r_runSN (As := [.int (iV a6)]) (rest := []) X Y V (c_X9_isTake l G σ a6 _  rfl) ms_X9_isTake Y.2.2.1.2.2.1 ⟨rfl, rfl, Nat.le_of_ble_eq_true rfl, Nat.le_of_ble_eq_true rfl⟩ rfl rfl hl.1 (Nat.le_of_ble_eq_true rfl) ⟨Nat.le_refl 0, Nat.le_refl 0⟩ dX8_add_18) (fun H locs V z3 => ?_)
        refine r_ne (cx := (f_X9_isTake a6)) (tgt := 26) X (wI_01 z3) dX8_add_21 (by decide) (fun c4 => ?_) (fun c4 => ?_)
        · replace h := ite_t c4 h
          refine r_ic X dX8_add_24 ?_
          exact r_ri X V (so2 h).1 (so2 h).2 dX8_add_25
        · replace h := ite_f c4 h
          refine r_aln X dX8_add_26 rfl (lv_at hl 0 rfl) ?_
          refine r_gi (kI := 8) X Y V ci_8 kd_1 8 rfl (by decide) rfl rfl wd_63 dX8_add_27 ?_
          refine r_is (lv' := [(7, .int (iV (σ 1 8))), (0, .ref (G.2.2.1 1)), (1, .int (iV a1)), (2, .int (iV a2)), (3, .int (iV a3)), (4, .int (iV a4)), (5, .int (iV a5)), (6, .int (iV a6))]) X dX8_add_30 hl (by decide) rfl (fun ls hl => ?_)
          refine r_aln X dX8_add_32 rfl (lv_at hl 1 rfl) ?_
          refine r_gr X Y V ci_8 kd_1 0 rfl rfl (by decide) rfl rfl wd_36 dX8_add_33 ?_
          refine r_il X dX8_add_36 (lv_at hl 0 rfl) ?_
          refine r_iln X dX8_add_38 rfl (lv_at hl 2 rfl) ?_
          obtain ⟨σ5, hσ5, hiσ5, h⟩ := wrA_ex h
          refine r_ias X Y V kd_2 ln_2 hiσ5 hσ5 dX8_add_39 (fun H locs V => ?_)
          refine r_aln X dX8_add_40 rfl (lv_at hl 1 rfl) ?_
          refine r_gr X Y V ci_8 kd_1 1 rfl rfl (by decide) rfl rfl wd_40 dX8_add_41 ?_
          refine r_il X dX8_add_44 (lv_at hl 0 rfl) ?_
          refine r_iln X dX8_add_46 rfl (lv_at hl 3 rfl) ?_
          obtain ⟨σ6, hσ6, hiσ6, h⟩ := wrA_ex h
          refine r_ias X Y V kd_3 ln_3 hiσ6 hσ6 dX8_add_47 (fun H locs V => ?_)
          refine r_aln X dX8_add_48 rfl (lv_at hl 1 rfl) ?_
          refine r_gr X Y V ci_8 kd_1 2 rfl rfl (by decide) rfl rfl wd_44 dX8_add_49 ?_
          refine r_il X dX8_add_52 (lv_at hl 0 rfl) ?_
          refine r_iln X dX8_add_54 rfl (lv_at hl 4 rfl) ?_
          obtain ⟨σ7, hσ7, hiσ7, h⟩ := wrA_ex h
          refine r_ias X Y V kd_4 ln_4 hiσ7 hσ7 dX8_add_55 (fun H locs V => ?_)
          refine r_aln X dX8_add_56 rfl (lv_at hl 1 rfl) ?_
          refine r_gr X Y V ci_8 kd_1 3 rfl rfl (by decide) rfl rfl wd_48 dX8_add_57 ?_
          refine r_il X dX8_add_60 (lv_at hl 0 rfl) ?_
          refine r_il X dX8_add_62 (lv_at hl 5 rfl) ?_
          obtain ⟨σ8, hσ8, hiσ8, h⟩ := wrA_ex h
          refine r_ias X Y V kd_5 ln_5 hiσ8 hσ8 dX8_add_64 (fun H locs V => ?_)
          refine r_aln X dX8_add_65 rfl (lv_at hl 1 rfl) ?_
          refine r_gr X Y V ci_8 kd_1 4 rfl rfl (by decide) rfl rfl wd_52 dX8_add_66 ?_
          refine r_il X dX8_add_69 (lv_at hl 0 rfl) ?_
          refine r_il X dX8_add_71 (lv_at hl 6 rfl) ?_
          obtain ⟨σ9, hσ9, hiσ9, h⟩ := wrA_ex h
          refine r_ias X Y V kd_6 ln_6 hiσ9 hσ9 dX8_add_73 (fun H locs V => ?_)
          refine r_aln X dX8_add_74 rfl (lv_at hl 1 rfl) ?_
          refine r_gr X Y V ci_8 kd_1 5 rfl rfl (by decide) rfl rfl wd_56 dX8_add_75 ?_
          refine r_il X dX8_add_78 (lv_at hl 0 rfl) ?_
          refine r_il X dX8_add_80 (lv_at hl 7 rfl) ?_
          obtain ⟨σ10, hσ10, hiσ10, h⟩ := wrA_ex h
          refine r_ias X Y V kd_7 ln_7 hiσ10 hσ10 dX8_add_82 (fun H locs V => ?_)
          refine r_aln X dX8_add_83 rfl (lv_at hl 1 rfl) ?_
          refine r_gr X Y V ci_8 kd_1 6 rfl rfl (by decide) rfl rfl wd_58 dX8_add_84 ?_
          refine r_il X dX8_add_87 (lv_at hl 0 rfl) ?_
          refine r_ic X dX8_add_89 ?_
          obtain ⟨σ11, hσ11, hiσ11, h⟩ := wrA_ex h
          refine r_ias X Y V kd_8 ln_8 hiσ11 hσ11 dX8_add_90 (fun H locs V => ?_)
          refine r_aln X dX8_add_91 rfl (lv_at hl 1 rfl) ?_
          refine r_gr X Y V ci_8 kd_1 7 rfl rfl (by decide) rfl rfl wd_62 dX8_add_92 ?_
          refine r_il X dX8_add_95 (lv_at hl 7 rfl) ?_
          obtain ⟨v12, hv12, hiv12, h⟩ := rdA_ex h
          refine r_ial X Y V kd_9 ln_9 hiv12 hv12 dX8_add_97 ?_
          refine r_is (lv' := [(8, .int (iV v12)), (7, .int (iV (σ 1 8))), (0, .ref (G.2.2.1 1)), (1, .int (iV a1)), (2, .int (iV a2)), (3, .int (iV a3)), (4, .int (iV a4)), (5, .int (iV a5)), (6, .int (iV a6))]) X dX8_add_98 hl (by decide) rfl (fun ls hl => ?_)
          refine r_il X dX8_add_100 (lv_at hl 0 rfl) ?_
          refine r_lt (cx := wI v12) (tgt := 121) X rfl dX8_add_102 (by decide) (fun c13 => ?_) (fun c13 => ?_)
          · replace h := ite_t c13 h
            exact wj_X8_add_121 X Y r σ' σ11 a6 (σ 1 8)  _ _ _ V (lv_sub hl [2, 8, 1] rfl) h
          · replace h := ite_f c13 h
            refine r_il X dX8_add_105 (lv_at hl 0 rfl) ?_
            refine r_il X dX8_add_107 (lv_at hl 1 rfl) ?_
            refine r_cge (cx := wI v12) (cy := wI (σ 1 8)) (tgt := 121) X rfl rfl dX8_add_109 (by decide) (fun c16 => ?_) (fun c16 => ?_)
            · replace h := ite_t c16 h
              refine r_aln X dX8_add_112 rfl (lv_at hl 2 rfl) ?_
              refine r_gr X Y V ci_8 kd_1 6 rfl rfl (by decide) rfl rfl wd_58 dX8_add_113 ?_
              refine r_il X dX8_add_116 (lv_at hl 0 rfl) ?_
              refine r_il X dX8_add_118 (lv_at hl 1 rfl) ?_
              obtain ⟨σ17, hσ17, hiσ17, h⟩ := wrA_ex h
              refine r_ias X Y V kd_8 ln_8 hiσ17 hσ17 dX8_add_120 (fun H locs V => ?_)
              exact wj_X8_add_121 X Y r σ' σ17 a6 (σ 1 8)  _ _ _ V (lv_sub hl [2, 8, 1] rfl) h
            · replace h := ite_f c16 h
              exact wj_X8_add_121 X Y r σ' σ11 a6 (σ 1 8)  _ _ _ V (lv_sub hl [2, 8, 1] rfl) h
      · replace h := ite_f c2 h
        refine r_ic X dX8_add_24 ?_
        exact r_ri X V (so2 h).1 (so2 h).2 dX8_add_25
  exact go _ _ _ X V

set_option maxRecDepth 100000 in
set_option maxHeartbeats 4000000 in
theorem c_X8_putRight (l : Launch) (G : UG) (σ : St) (a1 : Int) (a2 : Int) (r : Int) (σ' : St)  (h : f_X8_putRight σ a1 a2 = some (r, σ')) : Met l yX8_putRight (.code yX8_putRight cX8_putRight 3 (Option.none : Option Jvm.ClassFile.FieldType) :: TB) { frames := 0, cells := 0, slots := 0, locals := 0 } (uvPc G σ [.ref (G.2.2.1 1), .int (iV a1), .int (iV a2)]) (uvQv G σ') 0 0 (uvA G) := by
  unfold f_X8_putRight at h
  refine r_met (own := RX8) (lv := [(0, .ref (G.2.2.1 1)), (1, .int (iV a1)), (2, .int (iV a2))]) (by decide) rfl (Nat.le_of_ble_eq_true rfl) rfl ?_
  intro p e s m below meth c ls X Y V hl
  have go : ∀ (args : Array Value) (H : Heap) (locs : List Loc), uvCx p m c cX8_putRight 3 RX8 s args meth (Option.none : Option Jvm.ClassFile.FieldType) → uvWo G σ s H locs → W p l e { frames := 0, cells := 0, slots := 0, locals := 0 } s m args below meth c H locs 0 0 (MQ below (uvQv G σ') args s 0 0 (uvA G)) (F0 m 0 ls []) := by
    intro args H locs X V
    refine r_iln X dX8_putRight_0 rfl (lv_at hl 1 rfl) ?_
    refine r_lt (cx := wI a1) (tgt := 19) X rfl dX8_putRight_1 (by decide) (fun c1 => ?_) (fun c1 => ?_)
    · replace h := ite_t c1 h
      exact r_rv X V (so2 h).2 dX8_putRight_19
    · replace h := ite_f c1 h
      refine r_iln X dX8_putRight_4 rfl (lv_at hl 1 rfl) ?_
      refine r_aln X dX8_putRight_5 rfl (lv_at hl 0 rfl) ?_
      refine r_gi (kI := 8) X Y V ci_8 kd_1 8 rfl (by decide) rfl rfl wd_63 dX8_putRight_6 ?_
      refine r_cge (cx := wI a1) (cy := wI (σ 1 8)) (tgt := 19) X rfl rfl dX8_putRight_9 (by decide) (fun c2 => ?_) (fun c2 => ?_)
      · replace h := ite_t c2 h
        refine r_aln X dX8_putRight_12 rfl (lv_at hl 0 rfl) ?_
        refine r_gr X Y V ci_8 kd_1 2 rfl rfl (by decide) rfl rfl wd_44 dX8_putRight_13 ?_
        refine r_iln X dX8_putRight_16 rfl (lv_at hl 1 rfl) ?_
        refine r_iln X dX8_putRight_17 rfl (lv_at hl 2 rfl) ?_
        obtain ⟨σ3, hσ3, hiσ3, h⟩ := wrA_ex h
        refine r_ias X Y V kd_4 ln_4 hiσ3 hσ3 dX8_putRight_18 (fun H locs V => ?_)
        exact r_rv X V (so2 h).2 dX8_putRight_19
      · replace h := ite_f c2 h
        exact r_rv X V (so2 h).2 dX8_putRight_19
  exact go _ _ _ X V

set_option maxRecDepth 100000 in
set_option maxHeartbeats 4000000 in
theorem c_X9_isSound (l : Launch) (G : UG) (σ0 : St) (a0 : Int) (r : Int)  (h : f_X9_isSound a0 = r) : Met l yX9_isSound (.code yX9_isSound cX9_isSound 1 (Option.some Jvm.ClassFile.FieldType.boolean) :: TB) { frames := 1, cells := 0, slots := 0, locals := 22 } (uvPc G σ0 [.int (iV a0)]) (uvQz G r σ0) 0 0 (uvA G) := by
  unfold f_X9_isSound at h
  refine r_met (own := RX9) (lv := [(0, .int (iV a0))]) (by decide) rfl (Nat.le_of_ble_eq_true rfl) rfl ?_
  intro p e s m below meth c ls X Y V hl
  have go : ∀ (args : Array Value) (H : Heap) (locs : List Loc), uvCx p m c cX9_isSound 1 RX9 s args meth (Option.some Jvm.ClassFile.FieldType.boolean) → uvWo G σ0 s H locs → W p l e { frames := 1, cells := 0, slots := 0, locals := 22 } s m args below meth c H locs 0 0 (MQ below (uvQz G r σ0) args s 0 0 (uvA G)) (F0 m 0 ls []) := by
    intro args H locs X V
    refine r_iln X dX9_isSound_0 rfl (lv_at hl 0 rfl) ?_
    refine r_ic X dX9_isSound_1 ?_
    refine r_ic X dX9_isSound_2 ?_
    refine r_kz V (r_runS (As := [.int (iV a0), .int (iV 0), .int (iV 5)]) (rest := []) X Y V (c_X9_within l G σ0 a0 0 5 _  rfl) ms_X9_within wd_378 ⟨rfl, rfl, Nat.le_of_ble_eq_true rfl, Nat.le_of_ble_eq_true rfl⟩ rfl rfl hl.1 (Nat.le_of_ble_eq_true rfl) ⟨Nat.le_refl 0, Nat.le_refl 0⟩ dX9_isSound_3) (fun H locs V z1 => ?_)
    exact r_rz X V z1 h rfl dX9_isSound_6
  exact go _ _ _ X V

set_option maxRecDepth 100000 in
set_option maxHeartbeats 4000000 in
theorem c_X9_bad (l : Launch) (G : UG) (σ : St)  (r : Int) (σ' : St)  (h : f_X9_bad σ = some (r, σ')) : Met l yX9_bad (.code yX9_bad cX9_bad 1 (Option.some Jvm.ClassFile.FieldType.int) :: TB) { frames := 0, cells := 0, slots := 0, locals := 0 } (uvPc G σ [.ref (G.2.2.1 0)]) (uvQi G r σ') 0 0 (uvA G) := by
  unfold f_X9_bad at h
  refine r_met (own := RX9) (lv := [(0, .ref (G.2.2.1 0))]) (by decide) rfl (Nat.le_of_ble_eq_true rfl) rfl ?_
  intro p e s m below meth c ls X Y V hl
  have go : ∀ (args : Array Value) (H : Heap) (locs : List Loc), uvCx p m c cX9_bad 1 RX9 s args meth (Option.some Jvm.ClassFile.FieldType.int) → uvWo G σ s H locs → W p l e { frames := 0, cells := 0, slots := 0, locals := 0 } s m args below meth c H locs 0 0 (MQ below (uvQi G r σ') args s 0 0 (uvA G)) (F0 m 0 ls []) := by
    intro args H locs X V
    refine r_aln X dX9_bad_0 rfl (lv_at hl 0 rfl) ?_
    refine r_dup X dX9_bad_1 rfl ?_
    refine r_gi (kI := 9) X Y V ci_9 kd_0 9 rfl (by decide) rfl rfl wd_343 dX9_bad_2 ?_
    refine r_ic X dX9_bad_5 ?_
    refine r_iadd X dX9_bad_6 ?_
    obtain ⟨σ1, hσ1, h⟩ := wrF_ex h
    refine r_pi X Y V ci_9 kd_0 9 rfl (by decide) rfl rfl rfl (tyX9_ok 9 (by decide)) wd_343 hσ1 dX9_bad_7 (fun H locs V => ?_)
    refine r_bp X dX9_bad_10 (by decide) ?_
    exact r_ri X V (so2 h).1 (so2 h).2 dX9_bad_12
  exact go _ _ _ X V

set_option maxRecDepth 100000 in
set_option maxHeartbeats 4000000 in
theorem c_X9_full (l : Launch) (G : UG) (σ : St)  (r : Int) (σ' : St)  (h : f_X9_full σ = some (r, σ')) : Met l yX9_full (.code yX9_full cX9_full 1 (Option.some Jvm.ClassFile.FieldType.int) :: TB) { frames := 0, cells := 0, slots := 0, locals := 0 } (uvPc G σ [.ref (G.2.2.1 0)]) (uvQi G r σ') 0 0 (uvA G) := by
  unfold f_X9_full at h
  refine r_met (own := RX9) (lv := [(0, .ref (G.2.2.1 0))]) (by decide) rfl (Nat.le_of_ble_eq_true rfl) rfl ?_
  intro p e s m below meth c ls X Y V hl
  have go : ∀ (args : Array Value) (H : Heap) (locs : List Loc), uvCx p m c cX9_full 1 RX9 s args meth (Option.some Jvm.ClassFile.FieldType.int) → uvWo G σ s H locs → W p l e { frames := 0, cells := 0, slots := 0, locals := 0 } s m args below meth c H locs 0 0 (MQ below (uvQi G r σ') args s 0 0 (uvA G)) (F0 m 0 ls []) := by
    intro args H locs X V
    refine r_aln X dX9_full_0 rfl (lv_at hl 0 rfl) ?_
    refine r_dup X dX9_full_1 rfl ?_
    refine r_gi (kI := 11) X Y V ci_9 kd_0 11 rfl (by decide) rfl rfl wd_345 dX9_full_2 ?_
    refine r_ic X dX9_full_5 ?_
    refine r_iadd X dX9_full_6 ?_
    obtain ⟨σ1, hσ1, h⟩ := wrF_ex h
    refine r_pi X Y V ci_9 kd_0 11 rfl (by decide) rfl rfl rfl (tyX9_ok 11 (by decide)) wd_345 hσ1 dX9_full_7 (fun H locs V => ?_)
    refine r_bp X dX9_full_10 (by decide) ?_
    exact r_ri X V (so2 h).1 (so2 h).2 dX9_full_12
  exact go _ _ _ X V

set_option maxRecDepth 100000 in
set_option maxHeartbeats 4000000 in
theorem c_X9_unit (l : Launch) (G : UG) (σ : St) (a1 : Int) (a2 : Int) (a3 : Int) (a4 : Int) (a5 : Int) (a6 : Int) (r : Int) (σ' : St)  (h : f_X9_unit σ a1 a2 a3 a4 a5 a6 = some (r, σ')) : Met l yX9_unit (.code yX9_unit cX9_unit 7 (Option.some Jvm.ClassFile.FieldType.int) :: TB) { frames := 3, cells := 0, slots := 0, locals := 70 } (uvPc G σ [.ref (G.2.2.1 0), .int (iV a1), .int (iV a2), .int (iV a3), .int (iV a4), .int (iV a5), .int (iV a6)]) (uvQi G r σ') 0 0 (uvA G) := by
  unfold f_X9_unit at h
  refine r_met (own := RX9) (lv := [(0, .ref (G.2.2.1 0)), (1, .int (iV a1)), (2, .int (iV a2)), (3, .int (iV a3)), (4, .int (iV a4)), (5, .int (iV a5)), (6, .int (iV a6))]) (by decide) rfl (Nat.le_of_ble_eq_true rfl) rfl ?_
  intro p e s m below meth c ls X Y V hl
  have go : ∀ (args : Array Value) (H : Heap) (locs : List Loc), uvCx p m c cX9_unit 7 RX9 s args meth (Option.some Jvm.ClassFile.FieldType.int) → uvWo G σ s H locs → W p l e { frames := 3, cells := 0, slots := 0, locals := 70 } s m args below meth c H locs 0 0 (MQ below (uvQi G r σ') args s 0 0 (uvA G)) (F0 m 0 ls []) := by
    intro args H locs X V
    refine r_iln X dX9_unit_0 rfl (lv_at hl 1 rfl) ?_
    refine r_kz V (r_runS (As := [.int (iV a1)]) (rest := []) X Y V (c_X9_isSound l G σ a1 _  rfl) ms_X9_isSound wd_375 ⟨rfl, rfl, Nat.le_of_ble_eq_true rfl, Nat.le_of_ble_eq_true rfl⟩ rfl rfl hl.1 (Nat.le_of_ble_eq_true rfl) ⟨Nat.le_refl 0, Nat.le_refl 0⟩ dX9_unit_1) (fun H locs V z1 => ?_)
    refine r_eq (cx := (f_X9_isSound a1)) (tgt := 57) X (wI_01 z1) dX9_unit_4 (by decide) (fun c2 => ?_) (fun c2 => ?_)
    · replace h := ite_t c2 h
      refine r_aln X dX9_unit_57 rfl (lv_at hl 0 rfl) ?_
      obtain ⟨v3, σ4, hv3, h⟩ := bd2_ex h
      refine r_ki V (r_runV (As := []) (rest := []) X Y V (c_X9_bad l G σ  _ _  hv3) mv_X9_bad wd_384 ci_9 kd_0 ⟨rfl, rfl, Nat.le_of_ble_eq_true rfl, Nat.le_of_ble_eq_true rfl⟩ rfl rfl hl.1 (Nat.le_of_ble_eq_true rfl) ⟨Nat.le_refl 0, Nat.le_refl 0⟩ dX9_unit_58) (fun H locs V => ?_)
      exact r_ri X V (so2 h).1 (so2 h).2 dX9_unit_61
    · replace h := ite_f c2 h
      refine r_iln X dX9_unit_7 rfl (lv_at hl 2 rfl) ?_
      refine r_ic X dX9_unit_8 ?_
      refine r_bp X dX9_unit_9 (by decide) ?_
      refine r_kz V (r_runS (As := [.int (iV a2), .int (iV 0), .int (iV 6)]) (rest := []) X Y V (c_X9_within l G σ a2 0 6 _  rfl) ms_X9_within wd_378 ⟨rfl, rfl, Nat.le_of_ble_eq_true rfl, Nat.le_of_ble_eq_true rfl⟩ rfl rfl hl.1 (Nat.le_of_ble_eq_true rfl) ⟨Nat.le_refl 0, Nat.le_refl 0⟩ dX9_unit_11) (fun H locs V z5 => ?_)
      refine r_eq (cx := (f_X9_within a2 0 6)) (tgt := 57) X (wI_01 z5) dX9_unit_14 (by decide) (fun c6 => ?_) (fun c6 => ?_)
      · replace h := ite_t c6 h
        refine r_aln X dX9_unit_57 rfl (lv_at hl 0 rfl) ?_
        obtain ⟨v7, σ8, hv7, h⟩ := bd2_ex h
        refine r_ki V (r_runV (As := []) (rest := []) X Y V (c_X9_bad l G σ  _ _  hv7) mv_X9_bad wd_384 ci_9 kd_0 ⟨rfl, rfl, Nat.le_of_ble_eq_true rfl, Nat.le_of_ble_eq_true rfl⟩ rfl rfl hl.1 (Nat.le_of_ble_eq_true rfl) ⟨Nat.le_refl 0, Nat.le_refl 0⟩ dX9_unit_58) (fun H locs V => ?_)
        exact r_ri X V (so2 h).1 (so2 h).2 dX9_unit_61
      · replace h := ite_f c6 h
        refine r_iln X dX9_unit_17 rfl (lv_at hl 3 rfl) ?_
        refine r_ic X dX9_unit_18 ?_
        refine r_bp X dX9_unit_19 (by decide) ?_
        refine r_kz V (r_runS (As := [.int (iV a3), .int (iV 0), .int (iV 6)]) (rest := []) X Y V (c_X9_within l G σ a3 0 6 _  rfl) ms_X9_within wd_378 ⟨rfl, rfl, Nat.le_of_ble_eq_true rfl, Nat.le_of_ble_eq_true rfl⟩ rfl rfl hl.1 (Nat.le_of_ble_eq_true rfl) ⟨Nat.le_refl 0, Nat.le_refl 0⟩ dX9_unit_21) (fun H locs V z9 => ?_)
        refine r_eq (cx := (f_X9_within a3 0 6)) (tgt := 57) X (wI_01 z9) dX9_unit_24 (by decide) (fun c10 => ?_) (fun c10 => ?_)
        · replace h := ite_t c10 h
          refine r_aln X dX9_unit_57 rfl (lv_at hl 0 rfl) ?_
          obtain ⟨v11, σ12, hv11, h⟩ := bd2_ex h
          refine r_ki V (r_runV (As := []) (rest := []) X Y V (c_X9_bad l G σ  _ _  hv11) mv_X9_bad wd_384 ci_9 kd_0 ⟨rfl, rfl, Nat.le_of_ble_eq_true rfl, Nat.le_of_ble_eq_true rfl⟩ rfl rfl hl.1 (Nat.le_of_ble_eq_true rfl) ⟨Nat.le_refl 0, Nat.le_refl 0⟩ dX9_unit_58) (fun H locs V => ?_)
          exact r_ri X V (so2 h).1 (so2 h).2 dX9_unit_61
        · replace h := ite_f c10 h
          refine r_il X dX9_unit_27 (lv_at hl 4 rfl) ?_
          refine r_ic X dX9_unit_29 ?_
          refine r_bp X dX9_unit_30 (by decide) ?_
          refine r_kz V (r_runS (As := [.int (iV a4), .int (iV 0), .int (iV 9)]) (rest := []) X Y V (c_X9_within l G σ a4 0 9 _  rfl) ms_X9_within wd_378 ⟨rfl, rfl, Nat.le_of_ble_eq_true rfl, Nat.le_of_ble_eq_true rfl⟩ rfl rfl hl.1 (Nat.le_of_ble_eq_true rfl) ⟨Nat.le_refl 0, Nat.le_refl 0⟩ dX9_unit_32) (fun H locs V z13 => ?_)
          refine r_eq (cx := (f_X9_within a4 0 9)) (tgt := 57) X (wI_01 z13) dX9_unit_35 (by decide) (fun c14 => ?_) (fun c14 => ?_)
          · replace h := ite_t c14 h
            refine r_aln X dX9_unit_57 rfl (lv_at hl 0 rfl) ?_
            obtain ⟨v15, σ16, hv15, h⟩ := bd2_ex h
            refine r_ki V (r_runV (As := []) (rest := []) X Y V (c_X9_bad l G σ  _ _  hv15) mv_X9_bad wd_384 ci_9 kd_0 ⟨rfl, rfl, Nat.le_of_ble_eq_true rfl, Nat.le_of_ble_eq_true rfl⟩ rfl rfl hl.1 (Nat.le_of_ble_eq_true rfl) ⟨Nat.le_refl 0, Nat.le_refl 0⟩ dX9_unit_58) (fun H locs V => ?_)
            exact r_ri X V (so2 h).1 (so2 h).2 dX9_unit_61
          · replace h := ite_f c14 h
            refine r_il X dX9_unit_38 (lv_at hl 5 rfl) ?_
            refine r_ic X dX9_unit_40 ?_
            refine r_bp X dX9_unit_41 (by decide) ?_
            refine r_kz V (r_runS (As := [.int (iV a5), .int (iV 1), .int (iV 9)]) (rest := []) X Y V (c_X9_within l G σ a5 1 9 _  rfl) ms_X9_within wd_378 ⟨rfl, rfl, Nat.le_of_ble_eq_true rfl, Nat.le_of_ble_eq_true rfl⟩ rfl rfl hl.1 (Nat.le_of_ble_eq_true rfl) ⟨Nat.le_refl 0, Nat.le_refl 0⟩ dX9_unit_43) (fun H locs V z17 => ?_)
            refine r_eq (cx := (f_X9_within a5 1 9)) (tgt := 57) X (wI_01 z17) dX9_unit_46 (by decide) (fun c18 => ?_) (fun c18 => ?_)
            · replace h := ite_t c18 h
              refine r_aln X dX9_unit_57 rfl (lv_at hl 0 rfl) ?_
              obtain ⟨v19, σ20, hv19, h⟩ := bd2_ex h
              refine r_ki V (r_runV (As := []) (rest := []) X Y V (c_X9_bad l G σ  _ _  hv19) mv_X9_bad wd_384 ci_9 kd_0 ⟨rfl, rfl, Nat.le_of_ble_eq_true rfl, Nat.le_of_ble_eq_true rfl⟩ rfl rfl hl.1 (Nat.le_of_ble_eq_true rfl) ⟨Nat.le_refl 0, Nat.le_refl 0⟩ dX9_unit_58) (fun H locs V => ?_)
              exact r_ri X V (so2 h).1 (so2 h).2 dX9_unit_61
            · replace h := ite_f c18 h
              refine r_il X dX9_unit_49 (lv_at hl 6 rfl) ?_
              refine r_kz V (r_runS (As := [.int (iV a6)]) (rest := []) X Y V (c_X9_isTake l G σ a6 _  rfl) ms_X9_isTake wd_381 ⟨rfl, rfl, Nat.le_of_ble_eq_true rfl, Nat.le_of_ble_eq_true rfl⟩ rfl rfl hl.1 (Nat.le_of_ble_eq_true rfl) ⟨Nat.le_refl 0, Nat.le_refl 0⟩ dX9_unit_51) (fun H locs V z21 => ?_)
              refine r_ne (cx := (f_X9_isTake a6)) (tgt := 62) X (wI_01 z21) dX9_unit_54 (by decide) (fun c22 => ?_) (fun c22 => ?_)
              · replace h := ite_t c22 h
                refine r_aln X dX9_unit_57 rfl (lv_at hl 0 rfl) ?_
                obtain ⟨v23, σ24, hv23, h⟩ := bd2_ex h
                refine r_ki V (r_runV (As := []) (rest := []) X Y V (c_X9_bad l G σ  _ _  hv23) mv_X9_bad wd_384 ci_9 kd_0 ⟨rfl, rfl, Nat.le_of_ble_eq_true rfl, Nat.le_of_ble_eq_true rfl⟩ rfl rfl hl.1 (Nat.le_of_ble_eq_true rfl) ⟨Nat.le_refl 0, Nat.le_refl 0⟩ dX9_unit_58) (fun H locs V => ?_)
                exact r_ri X V (so2 h).1 (so2 h).2 dX9_unit_61
              · replace h := ite_f c22 h
                refine r_aln X dX9_unit_62 rfl (lv_at hl 0 rfl) ?_
                refine r_gr X Y V ci_9 kd_0 0 rfl rfl (by decide) rfl rfl wd_334 dX9_unit_63 ?_
                refine r_gi (kI := 8) X Y V ci_8 kd_1 8 rfl (by decide) rfl rfl wd_64 dX9_unit_66 ?_
                refine r_bp X dX9_unit_69 (by decide) ?_
                refine r_clt (cx := wI (σ 1 8)) (cy := 40) (tgt := 79) X rfl rfl dX9_unit_71 (by decide) (fun c25 => ?_) (fun c25 => ?_)
                · replace h := ite_t c25 h
                  refine r_aln X dX9_unit_79 rfl (lv_at hl 0 rfl) ?_
                  refine r_gr X Y V ci_9 kd_0 0 rfl rfl (by decide) rfl rfl wd_334 dX9_unit_80 ?_
                  refine r_iln X dX9_unit_83 rfl (lv_at hl 1 rfl) ?_
                  refine r_iln X dX9_unit_84 rfl (lv_at hl 2 rfl) ?_
                  refine r_iln X dX9_unit_85 rfl (lv_at hl 3 rfl) ?_
                  refine r_il X dX9_unit_86 (lv_at hl 4 rfl) ?_
                  refine r_il X dX9_unit_88 (lv_at hl 5 rfl) ?_
                  refine r_il X dX9_unit_90 (lv_at hl 6 rfl) ?_
                  obtain ⟨v26, σ27, hv26, h⟩ := bd2_ex h
                  refine r_ki V (r_runV (As := [.int (iV a1), .int (iV a2), .int (iV a3), .int (iV a4), .int (iV a5), .int (iV a6)]) (rest := []) X Y V (c_X8_add l G σ a1 a2 a3 a4 a5 a6 _ _  hv26) mv_X8_add wd_392 ci_8 kd_1 ⟨rfl, rfl, Nat.le_of_ble_eq_true rfl, Nat.le_of_ble_eq_true rfl⟩ rfl rfl hl.1 (Nat.le_of_ble_eq_true rfl) ⟨Nat.le_refl 0, Nat.le_refl 0⟩ dX9_unit_92) (fun H locs V => ?_)
                  exact r_ri X V (so2 h).1 (so2 h).2 dX9_unit_95
                · replace h := ite_f c25 h
                  refine r_aln X dX9_unit_74 rfl (lv_at hl 0 rfl) ?_
                  obtain ⟨v28, σ29, hv28, h⟩ := bd2_ex h
                  refine r_ki V (r_runV (As := []) (rest := []) X Y V (c_X9_full l G σ  _ _  hv28) mv_X9_full wd_388 ci_9 kd_0 ⟨rfl, rfl, Nat.le_of_ble_eq_true rfl, Nat.le_of_ble_eq_true rfl⟩ rfl rfl hl.1 (Nat.le_of_ble_eq_true rfl) ⟨Nat.le_refl 0, Nat.le_refl 0⟩ dX9_unit_75) (fun H locs V => ?_)
                  exact r_ri X V (so2 h).1 (so2 h).2 dX9_unit_78
  exact go _ _ _ X V

set_option maxRecDepth 100000 in
set_option maxHeartbeats 4000000 in
theorem wl_X9_records_62 {p : Program} {l : Launch} {e : Env} {s : State} {m : MethodId} {args : Array Value} {below : List Frame} {meth : Method} {c : Code} {G : UG} (X : uvCx p m c cX9_records 12 RX9 s args meth (Option.some Jvm.ClassFile.FieldType.int)) (Y : uvGd G s s.heap) (x2 : Int) (x3 : Int)  (r : Int) (σ' : St) (kx : St → Option (Int × St)) (hkx : ∀ (σ : St)  (H : Heap) (locs : List Loc) (ls : Array Slot), uvWo G σ s H locs → lv_has ls 12 [(0, .ref (G.2.2.1 0))] → kx σ  = some (r, σ') → W p l e { frames := 3, cells := 0, slots := 0, locals := 70 } s m args below meth c H locs 0 0 (MQ below (uvQi G r σ') args s 0 0 (uvA G)) (F0 m 173 ls [])) : ∀ (n : Nat) (σ : St) (x4 : Int) (x6 : Int) (x7 : Int) (H : Heap) (locs : List Loc) (ls : Array Slot), uvWo G σ s H locs → lv_has ls 12 [(0, .ref (G.2.2.1 0)), (2, .int (iV x2)), (3, .int (iV x3)), (4, .long (lV x4)), (6, .int (iV x6)), (7, .int (iV x7))] → lp_X9_records_62 x2 x3 kx n σ x4 x6 x7 = some (r, σ') → W p l e { frames := 3, cells := 0, slots := 0, locals := 70 } s m args below meth c H locs 0 0 (MQ below (uvQi G r σ') args s 0 0 (uvA G)) (F0 m 62 ls []) := by
  intro n
  induction n with
  | zero => intro σ x4 x6 x7 H locs ls V hl h; cases h
  | succ n ih =>
    intro σ x4 x6 x7 H locs ls V hl h
    rw [lp_X9_records_62] at h
    refine r_il X dX9_records_62 (lv_at hl 5 rfl) ?_
    refine r_iln X dX9_records_64 rfl (lv_at hl 1 rfl) ?_
    refine r_cge (cx := wI x7) (cy := wI x2) (tgt := 173) X rfl rfl dX9_records_65 (by decide) (fun c17 => ?_) (fun c17 => ?_)
    · replace h := ite_t c17 h
      refine r_ll X dX9_records_68 (lv_at hl 3 rfl) ?_
      refine r_ldc2 X (n := 1103515245) wd_402 (by decide) dX9_records_70 ?_
      refine r_lmul X dX9_records_73 ?_
      refine r_ldc2 X (n := 12345) wd_403 (by decide) dX9_records_74 ?_
      refine r_ladd X dX9_records_77 ?_
      refine r_ldc2 X (n := 2147483648) wd_404 (by decide) dX9_records_78 ?_
      refine r_lrem X (by decide) dX9_records_81 ?_
      obtain ⟨v18, hv18, h⟩ := bnd_ex h
      refine r_eqL hv18 ?_
      refine r_ls (lv' := [(4, .long (lV v18)), (0, .ref (G.2.2.1 0)), (2, .int (iV x2)), (3, .int (iV x3)), (6, .int (iV x6)), (7, .int (iV x7))]) X dX9_records_82 hl (by decide) rfl (fun ls hl => ?_)
      refine r_ll X dX9_records_84 (lv_at hl 0 rfl) ?_
      refine r_ldc2 X (n := 65536) wd_405 (by decide) dX9_records_86 ?_
      refine r_ldiv X (by decide) dX9_records_89 ?_
      refine r_ldc2 X (n := 6) wd_406 (by decide) dX9_records_90 ?_
      refine r_lrem X (by decide) dX9_records_93 ?_
      refine r_l2i X dX9_records_94 ?_
      obtain ⟨v19, hv19, h⟩ := bnd_ex h
      refine r_eqI hv19 ?_
      refine r_is (lv' := [(8, .int (iV v19)), (4, .long (lV v18)), (0, .ref (G.2.2.1 0)), (2, .int (iV x2)), (3, .int (iV x3)), (6, .int (iV x6)), (7, .int (iV x7))]) X dX9_records_95 hl (by decide) rfl (fun ls hl => ?_)
      refine r_ll X dX9_records_97 (lv_at hl 1 rfl) ?_
      refine r_ldc2 X (n := 4096) wd_407 (by decide) dX9_records_99 ?_
      refine r_ldiv X (by decide) dX9_records_102 ?_
      refine r_ldc2 X (n := 10) wd_408 (by decide) dX9_records_103 ?_
      refine r_lrem X (by decide) dX9_records_106 ?_
      refine r_l2i X dX9_records_107 ?_
      obtain ⟨v20, hv20, h⟩ := bnd_ex h
      refine r_eqI hv20 ?_
      refine r_is (lv' := [(9, .int (iV v20)), (8, .int (iV v19)), (4, .long (lV v18)), (0, .ref (G.2.2.1 0)), (2, .int (iV x2)), (3, .int (iV x3)), (6, .int (iV x6)), (7, .int (iV x7))]) X dX9_records_108 hl (by decide) rfl (fun ls hl => ?_)
      refine r_ll X dX9_records_110 (lv_at hl 2 rfl) ?_
      refine r_ldc2 X (n := 1024) wd_409 (by decide) dX9_records_112 ?_
      refine r_ldiv X (by decide) dX9_records_115 ?_
      refine r_ldc2 X (n := 9) wd_410 (by decide) dX9_records_116 ?_
      refine r_lrem X (by decide) dX9_records_119 ?_
      refine r_l2i X dX9_records_120 ?_
      refine r_ic X dX9_records_121 ?_
      refine r_iadd X dX9_records_122 ?_
      obtain ⟨v21, hv21, h⟩ := bnd_ex h
      refine r_eqI hv21 ?_
      refine r_is (lv' := [(10, .int (iV v21)), (9, .int (iV v20)), (8, .int (iV v19)), (4, .long (lV v18)), (0, .ref (G.2.2.1 0)), (2, .int (iV x2)), (3, .int (iV x3)), (6, .int (iV x6)), (7, .int (iV x7))]) X dX9_records_123 hl (by decide) rfl (fun ls hl => ?_)
      refine r_aln X dX9_records_125 rfl (lv_at hl 4 rfl) ?_
      refine r_gr X Y V ci_9 kd_0 0 rfl rfl (by decide) rfl rfl wd_334 dX9_records_126 ?_
      refine r_il X dX9_records_129 (lv_at hl 2 rfl) ?_
      refine r_il X dX9_records_131 (lv_at hl 7 rfl) ?_
      refine r_bp X dX9_records_133 (by decide) ?_
      refine r_il X dX9_records_135 (lv_at hl 1 rfl) ?_
      refine r_il X dX9_records_137 (lv_at hl 0 rfl) ?_
      refine r_iln X dX9_records_139 rfl (lv_at hl 6 rfl) ?_
      obtain ⟨v22, σ23, hv22, h⟩ := bd2_ex h
      refine r_ki V (r_runV (As := [.int (iV v19), .int (iV x6), .int (iV 6), .int (iV v20), .int (iV v21), .int (iV x3)]) (rest := []) X Y V (c_X8_add l G σ v19 x6 6 v20 v21 x3 _ _  hv22) mv_X8_add wd_392 ci_8 kd_1 ⟨rfl, rfl, Nat.le_of_ble_eq_true rfl, Nat.le_of_ble_eq_true rfl⟩ rfl rfl hl.1 (Nat.le_of_ble_eq_true rfl) ⟨Nat.le_refl 0, Nat.le_refl 0⟩ dX9_records_140) (fun H locs V => ?_)
      refine r_is (lv' := [(11, .int (iV v22)), (10, .int (iV v21)), (9, .int (iV v20)), (8, .int (iV v19)), (4, .long (lV v18)), (0, .ref (G.2.2.1 0)), (2, .int (iV x2)), (3, .int (iV x3)), (6, .int (iV x6)), (7, .int (iV x7))]) X dX9_records_143 hl (by decide) rfl (fun ls hl => ?_)
      refine r_il X dX9_records_145 (lv_at hl 9 rfl) ?_
      refine r_le (cx := wI x7) (tgt := 163) X rfl dX9_records_147 (by decide) (fun c24 => ?_) (fun c24 => ?_)
      · replace h := ite_t c24 h
        refine r_aln X dX9_records_150 rfl (lv_at hl 5 rfl) ?_
        refine r_gr X Y V ci_9 kd_0 0 rfl rfl (by decide) rfl rfl wd_334 dX9_records_151 ?_
        refine r_il X dX9_records_154 (lv_at hl 0 rfl) ?_
        refine r_ic X dX9_records_156 ?_
        refine r_isub X dX9_records_157 ?_
        refine r_il X dX9_records_158 (lv_at hl 3 rfl) ?_
        obtain ⟨v25, σ26, hv25, h⟩ := bd2_ex h
        refine r_kv V (r_runV (As := [.int (iV (v22 - 1)), .int (iV v19)]) (rest := []) X Y V (c_X8_putRight l G σ23 (v22 - 1) v19 _ _  hv25) mv_X8_putRight wd_411 ci_8 kd_1 ⟨rfl, rfl, Nat.le_of_ble_eq_true rfl, Nat.le_of_ble_eq_true rfl⟩ rfl rfl hl.1 (Nat.le_of_ble_eq_true rfl) ⟨Nat.le_refl 0, Nat.le_refl 0⟩ dX9_records_160) (fun H locs V => ?_)
        refine r_il X dX9_records_163 (lv_at hl 3 rfl) ?_
        refine r_is (lv' := [(6, .int (iV v19)), (11, .int (iV v22)), (10, .int (iV v21)), (9, .int (iV v20)), (8, .int (iV v19)), (4, .long (lV v18)), (0, .ref (G.2.2.1 0)), (2, .int (iV x2)), (3, .int (iV x3)), (7, .int (iV x7))]) X dX9_records_165 hl (by decide) rfl (fun ls hl => ?_)
        refine r_inc (kk := 9) (lv' := [(7, .int (iV (x7 + 1))), (6, .int (iV v19)), (11, .int (iV v22)), (10, .int (iV v21)), (9, .int (iV v20)), (8, .int (iV v19)), (4, .long (lV v18)), (0, .ref (G.2.2.1 0)), (2, .int (iV x2)), (3, .int (iV x3))]) X dX9_records_167 hl rfl (by decide) rfl (fun ls hl => ?_)
        refine r_goto (tgt := 62) X dX9_records_170 (by decide) ?_
        exact ih σ26 v18 v19 (x7 + 1) _ _ _ V (lv_sub hl [7, 8, 9, 6, 1, 0] rfl) h
      · replace h := ite_f c24 h
        refine r_il X dX9_records_163 (lv_at hl 3 rfl) ?_
        refine r_is (lv' := [(6, .int (iV v19)), (11, .int (iV v22)), (10, .int (iV v21)), (9, .int (iV v20)), (8, .int (iV v19)), (4, .long (lV v18)), (0, .ref (G.2.2.1 0)), (2, .int (iV x2)), (3, .int (iV x3)), (7, .int (iV x7))]) X dX9_records_165 hl (by decide) rfl (fun ls hl => ?_)
        refine r_inc (kk := 9) (lv' := [(7, .int (iV (x7 + 1))), (6, .int (iV v19)), (11, .int (iV v22)), (10, .int (iV v21)), (9, .int (iV v20)), (8, .int (iV v19)), (4, .long (lV v18)), (0, .ref (G.2.2.1 0)), (2, .int (iV x2)), (3, .int (iV x3))]) X dX9_records_167 hl rfl (by decide) rfl (fun ls hl => ?_)
        refine r_goto (tgt := 62) X dX9_records_170 (by decide) ?_
        exact ih σ23 v18 v19 (x7 + 1) _ _ _ V (lv_sub hl [7, 8, 9, 6, 1, 0] rfl) h
    · replace h := ite_f c17 h
      exact hkx σ  _ _ _ V (lv_sub hl [0] rfl) h

set_option maxRecDepth 100000 in
set_option maxHeartbeats 4000000 in
theorem c_X9_records (l : Launch) (G : UG) (σ : St) (a1 : Int) (a2 : Int) (a3 : Int) (r : Int) (σ' : St)  (h : f_X9_records σ a1 a2 a3 = some (r, σ')) : Met l yX9_records (.code yX9_records cX9_records 12 (Option.some Jvm.ClassFile.FieldType.int) :: TB) { frames := 3, cells := 0, slots := 0, locals := 70 } (uvPc G σ [.ref (G.2.2.1 0), .int (iV a1), .int (iV a2), .int (iV a3)]) (uvQi G r σ') 0 0 (uvA G) := by
  unfold f_X9_records at h
  refine r_met (own := RX9) (lv := [(0, .ref (G.2.2.1 0)), (1, .int (iV a1)), (2, .int (iV a2)), (3, .int (iV a3))]) (by decide) rfl (Nat.le_of_ble_eq_true rfl) rfl ?_
  intro p e s m below meth c ls X Y V hl
  have go : ∀ (args : Array Value) (H : Heap) (locs : List Loc), uvCx p m c cX9_records 12 RX9 s args meth (Option.some Jvm.ClassFile.FieldType.int) → uvWo G σ s H locs → W p l e { frames := 3, cells := 0, slots := 0, locals := 70 } s m args below meth c H locs 0 0 (MQ below (uvQi G r σ') args s 0 0 (uvA G)) (F0 m 0 ls []) := by
    intro args H locs X V
    refine r_iln X dX9_records_0 rfl (lv_at hl 1 rfl) ?_
    refine r_ic X dX9_records_1 ?_
    refine r_ldc X (n := 999999) wd_401 (by decide) dX9_records_2 ?_
    refine r_kz V (r_runS (As := [.int (iV a1), .int (iV 0), .int (iV 999999)]) (rest := []) X Y V (c_X9_within l G σ a1 0 999999 _  rfl) ms_X9_within wd_378 ⟨rfl, rfl, Nat.le_of_ble_eq_true rfl, Nat.le_of_ble_eq_true rfl⟩ rfl rfl hl.1 (Nat.le_of_ble_eq_true rfl) ⟨Nat.le_refl 0, Nat.le_refl 0⟩ dX9_records_4) (fun H locs V z1 => ?_)
    refine r_eq (cx := (f_X9_within a1 0 999999)) (tgt := 27) X (wI_01 z1) dX9_records_7 (by decide) (fun c2 => ?_) (fun c2 => ?_)
    · replace h := ite_t c2 h
      refine r_aln X dX9_records_27 rfl (lv_at hl 0 rfl) ?_
      obtain ⟨v3, σ4, hv3, h⟩ := bd2_ex h
      refine r_ki V (r_runV (As := []) (rest := []) X Y V (c_X9_bad l G σ  _ _  hv3) mv_X9_bad wd_384 ci_9 kd_0 ⟨rfl, rfl, Nat.le_of_ble_eq_true rfl, Nat.le_of_ble_eq_true rfl⟩ rfl rfl hl.1 (Nat.le_of_ble_eq_true rfl) ⟨Nat.le_refl 0, Nat.le_refl 0⟩ dX9_records_28) (fun H locs V => ?_)
      exact r_ri X V (so2 h).1 (so2 h).2 dX9_records_31
    · replace h := ite_f c2 h
      refine r_iln X dX9_records_10 rfl (lv_at hl 2 rfl) ?_
      refine r_ic X dX9_records_11 ?_
      refine r_bp X dX9_records_12 (by decide) ?_
      refine r_kz V (r_runS (As := [.int (iV a2), .int (iV 1), .int (iV 9)]) (rest := []) X Y V (c_X9_within l G σ a2 1 9 _  rfl) ms_X9_within wd_378 ⟨rfl, rfl, Nat.le_of_ble_eq_true rfl, Nat.le_of_ble_eq_true rfl⟩ rfl rfl hl.1 (Nat.le_of_ble_eq_true rfl) ⟨Nat.le_refl 0, Nat.le_refl 0⟩ dX9_records_14) (fun H locs V z5 => ?_)
      refine r_eq (cx := (f_X9_within a2 1 9)) (tgt := 27) X (wI_01 z5) dX9_records_17 (by decide) (fun c6 => ?_) (fun c6 => ?_)
      · replace h := ite_t c6 h
        refine r_aln X dX9_records_27 rfl (lv_at hl 0 rfl) ?_
        obtain ⟨v7, σ8, hv7, h⟩ := bd2_ex h
        refine r_ki V (r_runV (As := []) (rest := []) X Y V (c_X9_bad l G σ  _ _  hv7) mv_X9_bad wd_384 ci_9 kd_0 ⟨rfl, rfl, Nat.le_of_ble_eq_true rfl, Nat.le_of_ble_eq_true rfl⟩ rfl rfl hl.1 (Nat.le_of_ble_eq_true rfl) ⟨Nat.le_refl 0, Nat.le_refl 0⟩ dX9_records_28) (fun H locs V => ?_)
        exact r_ri X V (so2 h).1 (so2 h).2 dX9_records_31
      · replace h := ite_f c6 h
        refine r_iln X dX9_records_20 rfl (lv_at hl 3 rfl) ?_
        refine r_kz V (r_runS (As := [.int (iV a3)]) (rest := []) X Y V (c_X9_isTake l G σ a3 _  rfl) ms_X9_isTake wd_381 ⟨rfl, rfl, Nat.le_of_ble_eq_true rfl, Nat.le_of_ble_eq_true rfl⟩ rfl rfl hl.1 (Nat.le_of_ble_eq_true rfl) ⟨Nat.le_refl 0, Nat.le_refl 0⟩ dX9_records_21) (fun H locs V z9 => ?_)
        refine r_ne (cx := (f_X9_isTake a3)) (tgt := 32) X (wI_01 z9) dX9_records_24 (by decide) (fun c10 => ?_) (fun c10 => ?_)
        · replace h := ite_t c10 h
          refine r_aln X dX9_records_27 rfl (lv_at hl 0 rfl) ?_
          obtain ⟨v11, σ12, hv11, h⟩ := bd2_ex h
          refine r_ki V (r_runV (As := []) (rest := []) X Y V (c_X9_bad l G σ  _ _  hv11) mv_X9_bad wd_384 ci_9 kd_0 ⟨rfl, rfl, Nat.le_of_ble_eq_true rfl, Nat.le_of_ble_eq_true rfl⟩ rfl rfl hl.1 (Nat.le_of_ble_eq_true rfl) ⟨Nat.le_refl 0, Nat.le_refl 0⟩ dX9_records_28) (fun H locs V => ?_)
          exact r_ri X V (so2 h).1 (so2 h).2 dX9_records_31
        · replace h := ite_f c10 h
          refine r_aln X dX9_records_32 rfl (lv_at hl 0 rfl) ?_
          refine r_gr X Y V ci_9 kd_0 0 rfl rfl (by decide) rfl rfl wd_334 dX9_records_33 ?_
          refine r_gi (kI := 8) X Y V ci_8 kd_1 8 rfl (by decide) rfl rfl wd_64 dX9_records_36 ?_
          refine r_iln X dX9_records_39 rfl (lv_at hl 2 rfl) ?_
          refine r_iadd X dX9_records_40 ?_
          refine r_bp X dX9_records_41 (by decide) ?_
          refine r_cle (cx := wI ((σ 1 8) + a2)) (cy := 40) (tgt := 51) X rfl rfl dX9_records_43 (by decide) (fun c13 => ?_) (fun c13 => ?_)
          · replace h := ite_t c13 h
            refine r_aln X dX9_records_46 rfl (lv_at hl 0 rfl) ?_
            obtain ⟨v14, σ15, hv14, h⟩ := bd2_ex h
            refine r_ki V (r_runV (As := []) (rest := []) X Y V (c_X9_full l G σ  _ _  hv14) mv_X9_full wd_388 ci_9 kd_0 ⟨rfl, rfl, Nat.le_of_ble_eq_true rfl, Nat.le_of_ble_eq_true rfl⟩ rfl rfl hl.1 (Nat.le_of_ble_eq_true rfl) ⟨Nat.le_refl 0, Nat.le_refl 0⟩ dX9_records_47) (fun H locs V => ?_)
            exact r_ri X V (so2 h).1 (so2 h).2 dX9_records_50
          · replace h := ite_f c13 h
            refine r_iln X dX9_records_51 rfl (lv_at hl 1 rfl) ?_
            refine r_i2l X dX9_records_52 ?_
            obtain ⟨v16, hv16, h⟩ := bnd_ex h
            refine r_eqL hv16 ?_
            refine r_ls (lv' := [(4, .long (lV v16)), (0, .ref (G.2.2.1 0)), (1, .int (iV a1)), (2, .int (iV a2)), (3, .int (iV a3))]) X dX9_records_53 hl (by decide) rfl (fun ls hl => ?_)
            refine r_bp X dX9_records_55 (by decide) ?_
            refine r_is (lv' := [(6, .int (iV 6)), (4, .long (lV v16)), (0, .ref (G.2.2.1 0)), (1, .int (iV a1)), (2, .int (iV a2)), (3, .int (iV a3))]) X dX9_records_57 hl (by decide) rfl (fun ls hl => ?_)
            refine r_ic X dX9_records_59 ?_
            refine r_is (lv' := [(7, .int (iV 0)), (6, .int (iV 6)), (4, .long (lV v16)), (0, .ref (G.2.2.1 0)), (1, .int (iV a1)), (2, .int (iV a2)), (3, .int (iV a3))]) X dX9_records_60 hl (by decide) rfl (fun ls hl => ?_)
            refine wl_X9_records_62 X Y a2 a3  r σ' _ (fun σ27  H locs ls V hl h => ?_) 1000 σ v16 6 0 _ _ _ V (lv_sub hl [3, 5, 6, 2, 1, 0] rfl) h
            refine r_aln X dX9_records_173 rfl (lv_at hl 0 rfl) ?_
            refine r_gr X Y V ci_9 kd_0 0 rfl rfl (by decide) rfl rfl wd_334 dX9_records_174 ?_
            refine r_gi (kI := 8) X Y V ci_8 kd_1 8 rfl (by decide) rfl rfl wd_64 dX9_records_177 ?_
            exact r_ri X V (so2 h).1 (so2 h).2 dX9_records_180
  exact go _ _ _ X V

set_option maxRecDepth 100000 in
set_option maxHeartbeats 4000000 in
theorem c_X9_isUnit (l : Launch) (G : UG) (σ0 : St) (a1 : Int) (r : Int)  (h : f_X9_isUnit σ0 a1 = r) : Met l yX9_isUnit (.code yX9_isUnit cX9_isUnit 2 (Option.some Jvm.ClassFile.FieldType.boolean) :: TB) { frames := 0, cells := 0, slots := 0, locals := 0 } (uvPc G σ0 [.ref (G.2.2.1 0), .int (iV a1)]) (uvQz G r σ0) 0 0 (uvA G) := by
  unfold f_X9_isUnit at h
  refine r_met (own := RX9) (lv := [(0, .ref (G.2.2.1 0)), (1, .int (iV a1))]) (by decide) rfl (Nat.le_of_ble_eq_true rfl) rfl ?_
  intro p e s m below meth c ls X Y V hl
  have go : ∀ (args : Array Value) (H : Heap) (locs : List Loc), uvCx p m c cX9_isUnit 2 RX9 s args meth (Option.some Jvm.ClassFile.FieldType.boolean) → uvWo G σ0 s H locs → W p l e { frames := 0, cells := 0, slots := 0, locals := 0 } s m args below meth c H locs 0 0 (MQ below (uvQz G r σ0) args s 0 0 (uvA G)) (F0 m 0 ls []) := by
    intro args H locs X V
    refine r_iln X dX9_isUnit_0 rfl (lv_at hl 1 rfl) ?_
    have J1 : W p l e { frames := 0, cells := 0, slots := 0, locals := 0 } s m args below meth c H locs 0 0 (MQ below (uvQz G r σ0) args s 0 0 (uvA G)) (F0 m 20 ls [.int (iV (if wI a1 < 0 then 0 else (if wI a1 < wI (σ0 1 8) then 1 else 0)))]) := by
      exact r_rz X V (b01_ite (Or.inl rfl) (b01_ite (Or.inr rfl) (Or.inl rfl))) h rfl dX9_isUnit_20
    refine r_lt (cx := wI a1) (tgt := 19) X rfl dX9_isUnit_1 (by decide) (fun c2 => ?_) (fun c2 => ?_)
    · skip
      refine r_ic X dX9_isUnit_19 ?_
      rw [if_pos c2] at J1
      exact J1
    · skip
      refine r_iln X dX9_isUnit_4 rfl (lv_at hl 1 rfl) ?_
      refine r_aln X dX9_isUnit_5 rfl (lv_at hl 0 rfl) ?_
      refine r_gr X Y V ci_9 kd_0 0 rfl rfl (by decide) rfl rfl wd_334 dX9_isUnit_6 ?_
      refine r_gi (kI := 8) X Y V ci_8 kd_1 8 rfl (by decide) rfl rfl wd_64 dX9_isUnit_9 ?_
      refine r_cge (cx := wI a1) (cy := wI (σ0 1 8)) (tgt := 19) X rfl rfl dX9_isUnit_12 (by decide) (fun c3 => ?_) (fun c3 => ?_)
      · skip
        refine r_ic X dX9_isUnit_15 ?_
        refine r_goto (tgt := 20) X dX9_isUnit_16 (by decide) ?_
        rw [if_neg c2] at J1
        rw [if_pos c3] at J1
        exact J1
      · skip
        refine r_ic X dX9_isUnit_19 ?_
        rw [if_neg c2] at J1
        rw [if_neg c3] at J1
        exact J1
  exact go _ _ _ X V

set_option maxRecDepth 100000 in
set_option maxHeartbeats 4000000 in
theorem c_X9_of (l : Launch) (G : UG) (σ : St) (a1 : Int) (a2 : Int) (r : Int) (σ' : St)  (h : f_X9_of σ a1 a2 = some (r, σ')) : Met l yX9_of (.code yX9_of cX9_of 3 (Option.some Jvm.ClassFile.FieldType.int) :: TB) { frames := 1, cells := 0, slots := 0, locals := 21 } (uvPc G σ [.ref (G.2.2.1 0), .int (iV a1), .int (iV a2)]) (uvQi G r σ') 0 0 (uvA G) := by
  unfold f_X9_of at h
  refine r_met (own := RX9) (lv := [(0, .ref (G.2.2.1 0)), (1, .int (iV a1)), (2, .int (iV a2))]) (by decide) rfl (Nat.le_of_ble_eq_true rfl) rfl ?_
  intro p e s m below meth c ls X Y V hl
  have go : ∀ (args : Array Value) (H : Heap) (locs : List Loc), uvCx p m c cX9_of 3 RX9 s args meth (Option.some Jvm.ClassFile.FieldType.int) → uvWo G σ s H locs → W p l e { frames := 1, cells := 0, slots := 0, locals := 21 } s m args below meth c H locs 0 0 (MQ below (uvQi G r σ') args s 0 0 (uvA G)) (F0 m 0 ls []) := by
    intro args H locs X V
    refine r_aln X dX9_of_0 rfl (lv_at hl 0 rfl) ?_
    refine r_iln X dX9_of_1 rfl (lv_at hl 1 rfl) ?_
    refine r_kz V (r_runV (As := [.int (iV a1)]) (rest := []) X Y V (c_X9_isUnit l G σ a1 _  rfl) mv_X9_isUnit wd_419 ci_9 kd_0 ⟨rfl, rfl, Nat.le_of_ble_eq_true rfl, Nat.le_of_ble_eq_true rfl⟩ rfl rfl hl.1 (Nat.le_of_ble_eq_true rfl) ⟨Nat.le_refl 0, Nat.le_refl 0⟩ dX9_of_2) (fun H locs V z1 => ?_)
    refine r_ne (cx := (f_X9_isUnit σ a1)) (tgt := 13) X (wI_01 z1) dX9_of_5 (by decide) (fun c2 => ?_) (fun c2 => ?_)
    · replace h := ite_t c2 h
      refine r_aln X dX9_of_8 rfl (lv_at hl 0 rfl) ?_
      obtain ⟨v3, σ4, hv3, h⟩ := bd2_ex h
      refine r_ki V (r_runV (As := []) (rest := []) X Y V (c_X9_bad l G σ  _ _  hv3) mv_X9_bad wd_384 ci_9 kd_0 ⟨rfl, rfl, Nat.le_of_ble_eq_true rfl, Nat.le_of_ble_eq_true rfl⟩ rfl rfl hl.1 (Nat.le_of_ble_eq_true rfl) ⟨Nat.le_refl 0, Nat.le_refl 0⟩ dX9_of_9) (fun H locs V => ?_)
      exact r_ri X V (so2 h).1 (so2 h).2 dX9_of_12
    · replace h := ite_f c2 h
      refine r_iln X dX9_of_13 rfl (lv_at hl 2 rfl) ?_
      by_cases c5 : wI a2 = 0
      · replace h := ite_t c5 h
        refine r_tbi (tgt := 56) X rfl dX9_of_14 c5 (by decide) (by decide) rfl (by decide) ?_
        refine r_aln X dX9_of_56 rfl (lv_at hl 0 rfl) ?_
        refine r_gr X Y V ci_9 kd_0 0 rfl rfl (by decide) rfl rfl wd_334 dX9_of_57 ?_
        refine r_gr X Y V ci_8 kd_1 0 rfl rfl (by decide) rfl rfl wd_38 dX9_of_60 ?_
        refine r_iln X dX9_of_63 rfl (lv_at hl 1 rfl) ?_
        obtain ⟨v6, hv6, hiv6, h⟩ := rdA_ex h
        refine r_ial X Y V kd_2 ln_2 hiv6 hv6 dX9_of_64 ?_
        exact r_ri X V (so2 h).1 (so2 h).2 dX9_of_65
      · replace h := ite_f c5 h
        by_cases c7 : wI a2 = 1
        · replace h := ite_t c7 h
          refine r_tbi (tgt := 66) X rfl dX9_of_14 c7 (by decide) (by decide) rfl (by decide) ?_
          refine r_aln X dX9_of_66 rfl (lv_at hl 0 rfl) ?_
          refine r_gr X Y V ci_9 kd_0 0 rfl rfl (by decide) rfl rfl wd_334 dX9_of_67 ?_
          refine r_gr X Y V ci_8 kd_1 1 rfl rfl (by decide) rfl rfl wd_43 dX9_of_70 ?_
          refine r_iln X dX9_of_73 rfl (lv_at hl 1 rfl) ?_
          obtain ⟨v8, hv8, hiv8, h⟩ := rdA_ex h
          refine r_ial X Y V kd_3 ln_3 hiv8 hv8 dX9_of_74 ?_
          exact r_ri X V (so2 h).1 (so2 h).2 dX9_of_75
        · replace h := ite_f c7 h
          by_cases c9 : wI a2 = 2
          · replace h := ite_t c9 h
            refine r_tbi (tgt := 76) X rfl dX9_of_14 c9 (by decide) (by decide) rfl (by decide) ?_
            refine r_aln X dX9_of_76 rfl (lv_at hl 0 rfl) ?_
            refine r_gr X Y V ci_9 kd_0 0 rfl rfl (by decide) rfl rfl wd_334 dX9_of_77 ?_
            refine r_gr X Y V ci_8 kd_1 2 rfl rfl (by decide) rfl rfl wd_47 dX9_of_80 ?_
            refine r_iln X dX9_of_83 rfl (lv_at hl 1 rfl) ?_
            obtain ⟨v10, hv10, hiv10, h⟩ := rdA_ex h
            refine r_ial X Y V kd_4 ln_4 hiv10 hv10 dX9_of_84 ?_
            exact r_ri X V (so2 h).1 (so2 h).2 dX9_of_85
          · replace h := ite_f c9 h
            by_cases c11 : wI a2 = 3
            · replace h := ite_t c11 h
              refine r_tbi (tgt := 86) X rfl dX9_of_14 c11 (by decide) (by decide) rfl (by decide) ?_
              refine r_aln X dX9_of_86 rfl (lv_at hl 0 rfl) ?_
              refine r_gr X Y V ci_9 kd_0 0 rfl rfl (by decide) rfl rfl wd_334 dX9_of_87 ?_
              refine r_gr X Y V ci_8 kd_1 3 rfl rfl (by decide) rfl rfl wd_51 dX9_of_90 ?_
              refine r_iln X dX9_of_93 rfl (lv_at hl 1 rfl) ?_
              obtain ⟨v12, hv12, hiv12, h⟩ := rdA_ex h
              refine r_ial X Y V kd_5 ln_5 hiv12 hv12 dX9_of_94 ?_
              exact r_ri X V (so2 h).1 (so2 h).2 dX9_of_95
            · replace h := ite_f c11 h
              by_cases c13 : wI a2 = 4
              · replace h := ite_t c13 h
                refine r_tbi (tgt := 96) X rfl dX9_of_14 c13 (by decide) (by decide) rfl (by decide) ?_
                refine r_aln X dX9_of_96 rfl (lv_at hl 0 rfl) ?_
                refine r_gr X Y V ci_9 kd_0 0 rfl rfl (by decide) rfl rfl wd_334 dX9_of_97 ?_
                refine r_gr X Y V ci_8 kd_1 4 rfl rfl (by decide) rfl rfl wd_55 dX9_of_100 ?_
                refine r_iln X dX9_of_103 rfl (lv_at hl 1 rfl) ?_
                obtain ⟨v14, hv14, hiv14, h⟩ := rdA_ex h
                refine r_ial X Y V kd_6 ln_6 hiv14 hv14 dX9_of_104 ?_
                exact r_ri X V (so2 h).1 (so2 h).2 dX9_of_105
              · replace h := ite_f c13 h
                by_cases c15 : wI a2 = 5
                · replace h := ite_t c15 h
                  refine r_tbi (tgt := 106) X rfl dX9_of_14 c15 (by decide) (by decide) rfl (by decide) ?_
                  refine r_aln X dX9_of_106 rfl (lv_at hl 0 rfl) ?_
                  refine r_gr X Y V ci_9 kd_0 0 rfl rfl (by decide) rfl rfl wd_334 dX9_of_107 ?_
                  refine r_gr X Y V ci_8 kd_1 5 rfl rfl (by decide) rfl rfl wd_57 dX9_of_110 ?_
                  refine r_iln X dX9_of_113 rfl (lv_at hl 1 rfl) ?_
                  obtain ⟨v16, hv16, hiv16, h⟩ := rdA_ex h
                  refine r_ial X Y V kd_7 ln_7 hiv16 hv16 dX9_of_114 ?_
                  exact r_ri X V (so2 h).1 (so2 h).2 dX9_of_115
                · replace h := ite_f c15 h
                  by_cases c17 : wI a2 = 6
                  · replace h := ite_t c17 h
                    refine r_tbi (tgt := 116) X rfl dX9_of_14 c17 (by decide) (by decide) rfl (by decide) ?_
                    refine r_aln X dX9_of_116 rfl (lv_at hl 0 rfl) ?_
                    refine r_gr X Y V ci_9 kd_0 0 rfl rfl (by decide) rfl rfl wd_334 dX9_of_117 ?_
                    refine r_gr X Y V ci_8 kd_1 6 rfl rfl (by decide) rfl rfl wd_60 dX9_of_120 ?_
                    refine r_iln X dX9_of_123 rfl (lv_at hl 1 rfl) ?_
                    obtain ⟨v18, hv18, hiv18, h⟩ := rdA_ex h
                    refine r_ial X Y V kd_8 ln_8 hiv18 hv18 dX9_of_124 ?_
                    exact r_ri X V (so2 h).1 (so2 h).2 dX9_of_125
                  · replace h := ite_f c17 h
                    refine r_tbo (tgt := 126) X rfl dX9_of_14 (by omega) (by decide) ?_
                    refine r_aln X dX9_of_126 rfl (lv_at hl 0 rfl) ?_
                    obtain ⟨v19, σ20, hv19, h⟩ := bd2_ex h
                    refine r_ki V (r_runV (As := []) (rest := []) X Y V (c_X9_bad l G σ  _ _  hv19) mv_X9_bad wd_384 ci_9 kd_0 ⟨rfl, rfl, Nat.le_of_ble_eq_true rfl, Nat.le_of_ble_eq_true rfl⟩ rfl rfl hl.1 (Nat.le_of_ble_eq_true rfl) ⟨Nat.le_refl 0, Nat.le_refl 0⟩ dX9_of_127) (fun H locs V => ?_)
                    exact r_ri X V (so2 h).1 (so2 h).2 dX9_of_130
  exact go _ _ _ X V

set_option maxRecDepth 100000 in
set_option maxHeartbeats 4000000 in
theorem c_X9_empties (l : Launch) (G : UG) (σ : St)  (r : Int) (σ' : St)  (h : f_X9_empties σ = some (r, σ')) : Met l yX9_empties (.code yX9_empties cX9_empties 2 (Option.some Jvm.ClassFile.FieldType.int) :: TB) { frames := 1, cells := 0, slots := 0, locals := 21 } (uvPc G σ [.ref (G.2.2.1 0)]) (uvQi G r σ') 0 0 (uvA G) := by
  unfold f_X9_empties at h
  refine r_met (own := RX9) (lv := [(0, .ref (G.2.2.1 0))]) (by decide) rfl (Nat.le_of_ble_eq_true rfl) rfl ?_
  intro p e s m below meth c ls X Y V hl
  have go : ∀ (args : Array Value) (H : Heap) (locs : List Loc), uvCx p m c cX9_empties 2 RX9 s args meth (Option.some Jvm.ClassFile.FieldType.int) → uvWo G σ s H locs → W p l e { frames := 1, cells := 0, slots := 0, locals := 21 } s m args below meth c H locs 0 0 (MQ below (uvQi G r σ') args s 0 0 (uvA G)) (F0 m 0 ls []) := by
    intro args H locs X V
    refine r_aln X dX9_empties_0 rfl (lv_at hl 0 rfl) ?_
    refine r_gr X Y V ci_9 kd_0 0 rfl rfl (by decide) rfl rfl wd_334 dX9_empties_1 ?_
    refine r_gi (kI := 8) X Y V ci_8 kd_1 8 rfl (by decide) rfl rfl wd_64 dX9_empties_4 ?_
    refine r_isn (lv' := [(1, .int (iV (σ 1 8))), (0, .ref (G.2.2.1 0))]) X dX9_empties_7 rfl hl (by decide) rfl (fun ls hl => ?_)
    refine r_aln X dX9_empties_8 rfl (lv_at hl 1 rfl) ?_
    refine r_gr X Y V ci_9 kd_0 0 rfl rfl (by decide) rfl rfl wd_334 dX9_empties_9 ?_
    obtain ⟨v1, σ2, hv1, h⟩ := bd2_ex h
    refine r_kv V (r_runV (As := []) (rest := []) X Y V (c_X8_removeAll l G σ  _ _  hv1) mv_X8_removeAll wd_427 ci_8 kd_1 ⟨rfl, rfl, Nat.le_of_ble_eq_true rfl, Nat.le_of_ble_eq_true rfl⟩ rfl rfl hl.1 (Nat.le_of_ble_eq_true rfl) ⟨Nat.le_refl 0, Nat.le_refl 0⟩ dX9_empties_12) (fun H locs V => ?_)
    refine r_iln X dX9_empties_15 rfl (lv_at hl 0 rfl) ?_
    exact r_ri X V (so2 h).1 (so2 h).2 dX9_empties_16
  exact go _ _ _ X V

set_option maxRecDepth 100000 in
set_option maxHeartbeats 4000000 in
theorem c_X9_other (l : Launch) (G : UG) (σ : St) (a1 : Int) (a2 : Int) (r : Int) (σ' : St)  (h : f_X9_other σ a1 a2 = some (r, σ')) : Met l yX9_other (.code yX9_other cX9_other 4 (Option.some Jvm.ClassFile.FieldType.int) :: TB) { frames := 2, cells := 0, slots := 0, locals := 42 } (uvPc G σ [.ref (G.2.2.1 0), .int (iV a1), .int (iV a2)]) (uvQi G r σ') 0 0 (uvA G) := by
  unfold f_X9_other at h
  refine r_met (own := RX9) (lv := [(0, .ref (G.2.2.1 0)), (1, .int (iV a1)), (2, .int (iV a2))]) (by decide) rfl (Nat.le_of_ble_eq_true rfl) rfl ?_
  intro p e s m below meth c ls X Y V hl
  have go : ∀ (args : Array Value) (H : Heap) (locs : List Loc), uvCx p m c cX9_other 4 RX9 s args meth (Option.some Jvm.ClassFile.FieldType.int) → uvWo G σ s H locs → W p l e { frames := 2, cells := 0, slots := 0, locals := 42 } s m args below meth c H locs 0 0 (MQ below (uvQi G r σ') args s 0 0 (uvA G)) (F0 m 0 ls []) := by
    intro args H locs X V
    refine r_iln X dX9_other_0 rfl (lv_at hl 1 rfl) ?_
    refine r_kz V (r_runS (As := [.int (iV a1)]) (rest := []) X Y V (c_X9_isSound l G σ a1 _  rfl) ms_X9_isSound wd_375 ⟨rfl, rfl, Nat.le_of_ble_eq_true rfl, Nat.le_of_ble_eq_true rfl⟩ rfl rfl hl.1 (Nat.le_of_ble_eq_true rfl) ⟨Nat.le_refl 0, Nat.le_refl 0⟩ dX9_other_1) (fun H locs V z1 => ?_)
    refine r_eq (cx := (f_X9_isSound a1)) (tgt := 14) X (wI_01 z1) dX9_other_4 (by decide) (fun c2 => ?_) (fun c2 => ?_)
    · replace h := ite_t c2 h
      refine r_aln X dX9_other_14 rfl (lv_at hl 0 rfl) ?_
      obtain ⟨v3, σ4, hv3, h⟩ := bd2_ex h
      refine r_ki V (r_runV (As := []) (rest := []) X Y V (c_X9_bad l G σ  _ _  hv3) mv_X9_bad wd_384 ci_9 kd_0 ⟨rfl, rfl, Nat.le_of_ble_eq_true rfl, Nat.le_of_ble_eq_true rfl⟩ rfl rfl hl.1 (Nat.le_of_ble_eq_true rfl) ⟨Nat.le_refl 0, Nat.le_refl 0⟩ dX9_other_15) (fun H locs V => ?_)
      exact r_ri X V (so2 h).1 (so2 h).2 dX9_other_18
    · replace h := ite_f c2 h
      refine r_iln X dX9_other_7 rfl (lv_at hl 2 rfl) ?_
      refine r_kz V (r_runS (As := [.int (iV a2)]) (rest := []) X Y V (c_X9_isSound l G σ a2 _  rfl) ms_X9_isSound wd_375 ⟨rfl, rfl, Nat.le_of_ble_eq_true rfl, Nat.le_of_ble_eq_true rfl⟩ rfl rfl hl.1 (Nat.le_of_ble_eq_true rfl) ⟨Nat.le_refl 0, Nat.le_refl 0⟩ dX9_other_8) (fun H locs V z5 => ?_)
      refine r_ne (cx := (f_X9_isSound a2)) (tgt := 19) X (wI_01 z5) dX9_other_11 (by decide) (fun c6 => ?_) (fun c6 => ?_)
      · replace h := ite_t c6 h
        refine r_aln X dX9_other_14 rfl (lv_at hl 0 rfl) ?_
        obtain ⟨v7, σ8, hv7, h⟩ := bd2_ex h
        refine r_ki V (r_runV (As := []) (rest := []) X Y V (c_X9_bad l G σ  _ _  hv7) mv_X9_bad wd_384 ci_9 kd_0 ⟨rfl, rfl, Nat.le_of_ble_eq_true rfl, Nat.le_of_ble_eq_true rfl⟩ rfl rfl hl.1 (Nat.le_of_ble_eq_true rfl) ⟨Nat.le_refl 0, Nat.le_refl 0⟩ dX9_other_15) (fun H locs V => ?_)
        exact r_ri X V (so2 h).1 (so2 h).2 dX9_other_18
      · replace h := ite_f c6 h
        refine r_aln X dX9_other_19 rfl (lv_at hl 0 rfl) ?_
        refine r_gr X Y V ci_9 kd_0 4 rfl rfl (by decide) rfl rfl wd_338 dX9_other_20 ?_
        refine r_iln X dX9_other_23 rfl (lv_at hl 1 rfl) ?_
        obtain ⟨v9, hv9, hiv9, h⟩ := rdA_ex h
        refine r_ial X Y V kd_34 ln_34 hiv9 hv9 dX9_other_24 ?_
        refine r_isn (lv' := [(3, .int (iV v9)), (0, .ref (G.2.2.1 0)), (1, .int (iV a1)), (2, .int (iV a2))]) X dX9_other_25 rfl hl (by decide) rfl (fun ls hl => ?_)
        refine r_aln X dX9_other_26 rfl (lv_at hl 1 rfl) ?_
        refine r_gr X Y V ci_9 kd_0 4 rfl rfl (by decide) rfl rfl wd_338 dX9_other_27 ?_
        refine r_iln X dX9_other_30 rfl (lv_at hl 2 rfl) ?_
        refine r_iln X dX9_other_31 rfl (lv_at hl 3 rfl) ?_
        obtain ⟨σ10, hσ10, hiσ10, h⟩ := wrA_ex h
        refine r_ias X Y V kd_34 ln_34 hiσ10 hσ10 dX9_other_32 (fun H locs V => ?_)
        refine r_iln X dX9_other_33 rfl (lv_at hl 0 rfl) ?_
        exact r_ri X V (so2 h).1 (so2 h).2 dX9_other_34
  exact go _ _ _ X V

set_option maxRecDepth 100000 in
set_option maxHeartbeats 4000000 in
theorem c_X9_fitter (l : Launch) (G : UG) (σ : St) (a1 : Int) (r : Int) (σ' : St)  (h : f_X9_fitter σ a1 = some (r, σ')) : Met l yX9_fitter (.code yX9_fitter cX9_fitter 3 (Option.some Jvm.ClassFile.FieldType.int) :: TB) { frames := 1, cells := 0, slots := 0, locals := 22 } (uvPc G σ [.ref (G.2.2.1 0), .int (iV a1)]) (uvQi G r σ') 0 0 (uvA G) := by
  unfold f_X9_fitter at h
  refine r_met (own := RX9) (lv := [(0, .ref (G.2.2.1 0)), (1, .int (iV a1))]) (by decide) rfl (Nat.le_of_ble_eq_true rfl) rfl ?_
  intro p e s m below meth c ls X Y V hl
  have go : ∀ (args : Array Value) (H : Heap) (locs : List Loc), uvCx p m c cX9_fitter 3 RX9 s args meth (Option.some Jvm.ClassFile.FieldType.int) → uvWo G σ s H locs → W p l e { frames := 1, cells := 0, slots := 0, locals := 22 } s m args below meth c H locs 0 0 (MQ below (uvQi G r σ') args s 0 0 (uvA G)) (F0 m 0 ls []) := by
    intro args H locs X V
    refine r_iln X dX9_fitter_0 rfl (lv_at hl 1 rfl) ?_
    refine r_ic X dX9_fitter_1 ?_
    refine r_ic X dX9_fitter_2 ?_
    refine r_kz V (r_runS (As := [.int (iV a1), .int (iV 0), .int (iV 4)]) (rest := []) X Y V (c_X9_within l G σ a1 0 4 _  rfl) ms_X9_within wd_378 ⟨rfl, rfl, Nat.le_of_ble_eq_true rfl, Nat.le_of_ble_eq_true rfl⟩ rfl rfl hl.1 (Nat.le_of_ble_eq_true rfl) ⟨Nat.le_refl 0, Nat.le_refl 0⟩ dX9_fitter_3) (fun H locs V z1 => ?_)
    refine r_ne (cx := (f_X9_within a1 0 4)) (tgt := 14) X (wI_01 z1) dX9_fitter_6 (by decide) (fun c2 => ?_) (fun c2 => ?_)
    · replace h := ite_t c2 h
      refine r_aln X dX9_fitter_9 rfl (lv_at hl 0 rfl) ?_
      obtain ⟨v3, σ4, hv3, h⟩ := bd2_ex h
      refine r_ki V (r_runV (As := []) (rest := []) X Y V (c_X9_bad l G σ  _ _  hv3) mv_X9_bad wd_384 ci_9 kd_0 ⟨rfl, rfl, Nat.le_of_ble_eq_true rfl, Nat.le_of_ble_eq_true rfl⟩ rfl rfl hl.1 (Nat.le_of_ble_eq_true rfl) ⟨Nat.le_refl 0, Nat.le_refl 0⟩ dX9_fitter_10) (fun H locs V => ?_)
      exact r_ri X V (so2 h).1 (so2 h).2 dX9_fitter_13
    · replace h := ite_f c2 h
      refine r_aln X dX9_fitter_14 rfl (lv_at hl 0 rfl) ?_
      refine r_gi (kI := 8) X Y V ci_9 kd_0 8 rfl (by decide) rfl rfl wd_342 dX9_fitter_15 ?_
      refine r_isn (lv' := [(2, .int (iV (σ 0 8))), (0, .ref (G.2.2.1 0)), (1, .int (iV a1))]) X dX9_fitter_18 rfl hl (by decide) rfl (fun ls hl => ?_)
      refine r_aln X dX9_fitter_19 rfl (lv_at hl 1 rfl) ?_
      refine r_iln X dX9_fitter_20 rfl (lv_at hl 2 rfl) ?_
      obtain ⟨σ5, hσ5, h⟩ := wrF_ex h
      refine r_pi X Y V ci_9 kd_0 8 rfl (by decide) rfl rfl rfl (tyX9_ok 8 (by decide)) wd_342 hσ5 dX9_fitter_21 (fun H locs V => ?_)
      refine r_iln X dX9_fitter_24 rfl (lv_at hl 0 rfl) ?_
      exact r_ri X V (so2 h).1 (so2 h).2 dX9_fitter_25
  exact go _ _ _ X V

