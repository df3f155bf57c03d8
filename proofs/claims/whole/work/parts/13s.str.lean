/-! ===== the two String constants: length, charAt ===== -/
section UVT
variable {p : Program} {l : Launch} {e : Env} {R : Room} {s : State} {m : MethodId} {args : Array Value} {below : List Frame} {meth : Method} {c : Code} {H : Heap} {locs : List Loc} {cells slots : Nat} {Q : State → Prop}
variable {cc : ByteArray} {nL : Nat} {own : String} {rt : Option FieldType} {pc : Nat} {ls : Array Slot} {rest : List Value} {G : UG} {σ σ' : St}
theorem r_rn {ty : FieldType} (X : uvCx p m c cc nL own s args meth (some ty)) (V : uvWo G σ s H locs) {v : Int32} {r : Int} (hn : narrow ty (.int v) = .int v) (hv : v = iV r) (d : decode cc pc = .ok (.ireturn, 1)) : W p l e R s m args below meth c H locs cells slots (MQ below (uvQi G r σ) args s cells slots (uvA G)) (F0 m pc ls [.int v]) := by
  exact W.zret X.1 X.2.1 X.2.2.2.2.2.1 hn (fun t ht _ => ⟨⟨_, (), rfl, hv, by show va_P _ _ _ t.heap; rw [ht]; exact V.1⟩, V.2.F ht⟩) V.2.2.2 d X.2.2.2.2.2.2
theorem r_runVS {y : MethodName} {bytes : ByteArray} {maxL n index i : Nat} {ret : Option FieldType} {rm : Room} {As st0 : List Value} {Qc : Array Value → State → Outcome → State → Prop} (X : uvCx p m c cc nL own s args meth rt) (Y : uvGd G s s.heap) (V : uvWo G σ s H locs) (hi : i < 2) (hM : Met l y (.code y bytes maxL ret :: TB) rm (uvPc G σ (.ref (G.2.2.2.1 i) :: As)) Qc 0 0 (uvA G))
    (hy : uvMV y "java/lang/String" bytes maxL ret n) (hl : Cond.methodLink own index y ∈ TB) (hrm : uvRm rm R maxL) (hn : As.length = n) (hst : st0 = As.reverse ++ .ref (G.2.2.2.1 i) :: rest) (hsz : ls.size = nL) (hW : (rest.map fun v => v.category).sum ≤ 8) (hc : cells ≤ R.cells ∧ slots ≤ R.slots) (d : decode cc pc = .ok (.invokevirtual index, 3)) :
    va_Run p l e R s m args below meth c H locs cells slots 0 0 (F0 m pc ls st0) rest (Qc (Value.ref (G.2.2.2.1 i) :: As).toArray) (uvA G) := by
  obtain ⟨⟨w1, w2, w3, w4⟩, hC, hd⟩ := hy
  have hts := X.2.2.2.2.1
  have hG : GoodIn TB (Cond.code y bytes maxL ret :: TB) := tb_gi (fun w h => (List.mem_cons.mp h).elim (fun z => z ▸ w4) id)
  exact va_runV (Ts := TB) (As := As) (rest := rest) (C := "java/lang/String") ⟨X.1, X.2.1, X.2.2.1, X.2.2.2.1, hts⟩ hM ⟨callB_of n hts hG rfl hrm.1 hrm.2.1 (by rw [hC]; exact hts _ w3) (hts _ hl) hd hrm.2.2, hts _ w1, hts _ w2⟩ ⟨uvBl, vk_recv Y.2.2.2.1 hi V.2, uvPre Y V _⟩ rfl hn hsz hst (lv_room hW) d hc
end UVT
set_option maxRecDepth 100000 in
set_option maxHeartbeats 4000000 in
theorem c_coder (l : Launch) (G : UG) (σ : St) (i : Nat) (hi : i < 2) : Met l yJ0_coder_7d493 (.code yJ0_coder_7d493 cJ0_coder_7d493 1 (some .byte) :: TB) { frames := 0, cells := 0, slots := 0, locals := 0 } (uvPc G σ [.ref (G.2.2.2.1 i)]) (uvQi G 0 σ) 0 0 (uvA G) := by
  refine r_met (own := RJ0) (lv := [(0, .ref (G.2.2.2.1 i))]) (by decide) rfl (Nat.le_of_ble_eq_true rfl) rfl ?_
  intro p e s m below meth c ls X Y V hl
  have hts := X.2.2.2.2.1
  refine va_gets X.1 X.2.1 Y.2.2.2.2.1 V.2 X.2.2.2.1 (hts _ wd_481) (fun _ h => h) dJ0_coder_7d493_0 ?_
  refine lv_if_eq (tgt := 13) X.1 X.2.1 dJ0_coder_7d493_3 (by decide) (fun h => absurd h (by decide)) (fun _ => ?_)
  refine r_aln X dJ0_coder_7d493_6 rfl (lv_at hl 0 rfl) ?_
  refine vk_getf X.1 X.2.1 (Y.2.2.2.1.1 i hi).2.1 V.2 X.2.2.2.1 (hts _ wd_1257) (fun _ h => h) dJ0_coder_7d493_7 ?_
  refine r_goto (tgt := 14) X dJ0_coder_7d493_10 (by decide) ?_
  exact r_rn X V rfl rfl dJ0_coder_7d493_14
set_option maxRecDepth 100000 in
set_option maxHeartbeats 4000000 in
theorem c_isLatin1 (l : Launch) (G : UG) (σ : St) (i : Nat) (hi : i < 2) : Met l yJ0_isLatin1_aae02 (.code yJ0_isLatin1_aae02 cJ0_isLatin1_aae02 1 (some .boolean) :: TB) { frames := 0, cells := 0, slots := 0, locals := 0 } (uvPc G σ [.ref (G.2.2.2.1 i)]) (uvQi G 1 σ) 0 0 (uvA G) := by
  refine r_met (own := RJ0) (lv := [(0, .ref (G.2.2.2.1 i))]) (by decide) rfl (Nat.le_of_ble_eq_true rfl) rfl ?_
  intro p e s m below meth c ls X Y V hl
  have hts := X.2.2.2.2.1
  refine va_gets X.1 X.2.1 Y.2.2.2.2.1 V.2 X.2.2.2.1 (hts _ wd_481) (fun _ h => h) dJ0_isLatin1_aae02_0 ?_
  refine lv_if_eq (tgt := 17) X.1 X.2.1 dJ0_isLatin1_aae02_3 (by decide) (fun h => absurd h (by decide)) (fun _ => ?_)
  refine r_aln X dJ0_isLatin1_aae02_6 rfl (lv_at hl 0 rfl) ?_
  refine vk_getf X.1 X.2.1 (Y.2.2.2.1.1 i hi).2.1 V.2 X.2.2.2.1 (hts _ wd_1257) (fun _ h => h) dJ0_isLatin1_aae02_7 ?_
  refine lv_if_ne (tgt := 17) X.1 X.2.1 dJ0_isLatin1_aae02_10 (by decide) (fun h => absurd rfl h) (fun _ => ?_)
  refine r_ic X dJ0_isLatin1_aae02_13 ?_
  refine r_goto (tgt := 18) X dJ0_isLatin1_aae02_14 (by decide) ?_
  exact r_rn X V rfl rfl dJ0_isLatin1_aae02_18
theorem nat2 {i : Nat} (h : i < 2) : i = 0 ∨ i = 1 := by omega
set_option maxRecDepth 100000 in
set_option maxHeartbeats 4000000 in
theorem c_strlen (l : Launch) (G : UG) (σ : St) (i : Nat) (hi : i < 2) : Met l yJ0_length_8abf5 (.code yJ0_length_8abf5 cJ0_length_8abf5 1 (some .int) :: TB) { frames := 3, cells := 0, slots := 0, locals := 120 } (uvPc G σ [.ref (G.2.2.2.1 i)]) (uvQi G (sLen i) σ) 0 0 (uvA G) := by
  refine r_met (own := RJ0) (lv := [(0, .ref (G.2.2.2.1 i))]) (by decide) rfl (Nat.le_of_ble_eq_true rfl) rfl ?_
  intro p e s m below meth c ls X Y V hl
  have hts := X.2.2.2.2.1
  refine r_aln X dJ0_length_8abf5_0 rfl (lv_at hl 0 rfl) ?_
  refine vk_getf X.1 X.2.1 (Y.2.2.2.1.1 i hi).2.2.1 V.2 X.2.2.2.1 (hts _ wd_1256) (fun _ h => h) dJ0_length_8abf5_1 ?_
  refine va_tlen X.1 X.2.1 (Y.2.2.2.1.1 i hi).2.2.2 V.2 rfl dJ0_length_8abf5_4 ?_
  refine r_aln X dJ0_length_8abf5_5 rfl (lv_at hl 0 rfl) ?_
  refine r_ki V (r_runVS (As := []) (rest := [.int (Int32.ofNat ([3, 4].getD i 0))]) X Y V hi (c_coder l G σ i hi) mv_J0_coder_7d493 wd_477 ⟨rfl, rfl, Nat.le_of_ble_eq_true rfl, Nat.le_of_ble_eq_true rfl⟩ rfl rfl hl.1 (Nat.le_of_ble_eq_true rfl) ⟨Nat.le_refl 0, Nat.le_refl 0⟩ dJ0_length_8abf5_6) (fun H locs V => ?_)
  refine lv_ishr X.1 X.2.1 dJ0_length_8abf5_9 ?_
  refine r_rn X V rfl ?_ dJ0_length_8abf5_10
  rcases nat2 hi with rfl | rfl <;> decide
set_option maxRecDepth 100000 in
set_option maxHeartbeats 4000000 in
theorem c_checkIndexP (l : Launch) (G : UG) (σ : St) (x y : Int) (v : Value) (hv : v.category = 1) (h0 : ¬ wI x < 0) (h1 : wI x < wI y) : Met l yJ3_checkIndex_8e157 (.code yJ3_checkIndex_8e157 cJ3_checkIndex_8e157 3 (some .int) :: TB) { frames := 0, cells := 0, slots := 0, locals := 0 } (uvPc G σ [.int (iV x), .int (iV y), v]) (uvQi G x σ) 0 0 (uvA G) := by
  have hsl : (lg_sl [.int (iV x), .int (iV y), v]).length ≤ 3 := by
    have : ¬ v.category = 2 := by rw [hv]; decide
    simp [lg_sl, this, show (Value.int (iV x)).category = 1 from rfl, show (Value.int (iV y)).category = 1 from rfl]
  refine r_met (own := RJ3) (lv := [(0, .int (iV x)), (1, .int (iV y)), (2, v)]) (by decide) rfl hsl rfl ?_
  intro p e s m below meth c ls X Y V hl
  refine r_iln X dJ3_checkIndex_8e157_0 rfl (lv_at hl 0 rfl) ?_
  refine r_lt (tgt := 9) X rfl dJ3_checkIndex_8e157_1 (by decide) (fun h => absurd h h0) (fun _ => ?_)
  refine r_iln X dJ3_checkIndex_8e157_4 rfl (lv_at hl 0 rfl) ?_
  refine r_iln X dJ3_checkIndex_8e157_5 rfl (lv_at hl 1 rfl) ?_
  refine r_clt (tgt := 16) X rfl rfl dJ3_checkIndex_8e157_6 (by decide) (fun _ => ?_) (fun h => absurd h1 h)
  refine r_iln X dJ3_checkIndex_8e157_16 rfl (lv_at hl 0 rfl) ?_
  exact r_ri X V rfl rfl dJ3_checkIndex_8e157_17
set_option maxRecDepth 100000 in
set_option maxHeartbeats 4000000 in
theorem c_checkIndexS (l : Launch) (G : UG) (σ : St) (x y : Int) (h0 : ¬ wI x < 0) (h1 : wI x < wI y) : Met l yJ0_checkIndex_df160 (.code yJ0_checkIndex_df160 cJ0_checkIndex_df160 2 none :: TB) { frames := 1, cells := 0, slots := 0, locals := 22 } (uvPc G σ [.int (iV x), .int (iV y)]) (uvQv G σ) 0 0 (uvA G) := by
  refine r_met (own := RJ0) (lv := [(0, .int (iV x)), (1, .int (iV y))]) (by decide) rfl (Nat.le_of_ble_eq_true rfl) rfl ?_
  intro p e s m below meth c ls X Y V hl
  have hts := X.2.2.2.2.1
  obtain ⟨v, hv, hZ⟩ := Y.2.2.2.2.2
  have hvc : v.category = 1 := by rcases hv with rfl | ⟨a, rfl⟩ <;> rfl
  refine r_iln X dJ0_checkIndex_df160_0 rfl (lv_at hl 0 rfl) ?_
  refine r_iln X dJ0_checkIndex_df160_1 rfl (lv_at hl 1 rfl) ?_
  refine va_gets X.1 X.2.1 hZ V.2 X.2.2.2.1 (hts _ wd_501) (fun _ h => h) dJ0_checkIndex_df160_2 ?_
  refine r_ki V (r_runS (As := [.int (iV x), .int (iV y), v]) (rest := []) X Y V (c_checkIndexP l G σ x y v hvc h0 h1) ms_J3_checkIndex_8e157 wd_503 ⟨rfl, rfl, Nat.le_of_ble_eq_true rfl, Nat.le_of_ble_eq_true rfl⟩ rfl rfl hl.1 (Nat.le_of_ble_eq_true rfl) ⟨Nat.le_refl 0, Nat.le_refl 0⟩ dJ0_checkIndex_df160_5) (fun H locs V => ?_)
  refine r_pop X dJ0_checkIndex_df160_8 rfl ?_
  exact r_rv X V rfl dJ0_checkIndex_df160_9
theorem sl_rng (i : Nat) : 3 ≤ sLen i ∧ sLen i ≤ 4 := by
  unfold sLen
  by_cases h : (i : Int) = 0
  · rw [if_pos h]; omega
  · rw [if_neg h]; omega
set_option maxRecDepth 100000 in
set_option maxHeartbeats 4000000 in
theorem c_l1charAt (l : Launch) (G : UG) (σ : St) (i : Nat) (hi : i < 2) (k : Int) (hk : 0 ≤ k ∧ k < sLen i) : Met l yJ1_charAt_3b067 (.code yJ1_charAt_3b067 cJ1_charAt_3b067 2 (some .char) :: TB) { frames := 2, cells := 0, slots := 0, locals := 43 } (uvPc G σ [.ref (G.2.2.2.2 i), .int (iV k)]) (uvQi G (sChr i k) σ) 0 0 (uvA G) := by
  refine r_met (own := RJ1) (lv := [(0, .ref (G.2.2.2.2 i)), (1, .int (iV k))]) (by decide) rfl (Nat.le_of_ble_eq_true rfl) rfl ?_
  intro p e s m below meth c ls X Y V hl
  have hts := X.2.2.2.2.1
  have hr := sl_rng i
  have hwk : wI k = k := wI_id (by omega) (by omega)
  have hln : Int32.ofNat ([3, 4].getD i 0) = iV (sLen i) := by rcases nat2 hi with rfl | rfl <;> decide
  have hln2 : (([3, 4].getD i 0 : Nat) : Int) = sLen i := by rcases nat2 hi with rfl | rfl <;> decide
  have hws : wI (sLen i) = sLen i := wI_id (by omega) (by omega)
  refine r_iln X dJ1_charAt_3b067_0 rfl (lv_at hl 1 rfl) ?_
  refine r_aln X dJ1_charAt_3b067_1 rfl (lv_at hl 0 rfl) ?_
  refine va_tlen X.1 X.2.1 (Y.2.2.2.1.1 i hi).2.2.2 V.2 hln dJ1_charAt_3b067_2 ?_
  refine r_kv V (r_runS (As := [.int (iV k), .int (iV (sLen i))]) (rest := []) X Y V (c_checkIndexS l G σ k (sLen i) (by rw [hwk]; omega) (by rw [hwk, hws]; omega)) ms_J0_checkIndex_df160 wd_498 ⟨rfl, rfl, Nat.le_of_ble_eq_true rfl, Nat.le_of_ble_eq_true rfl⟩ rfl rfl hl.1 (Nat.le_of_ble_eq_true rfl) ⟨Nat.le_refl 0, Nat.le_refl 0⟩ dJ1_charAt_3b067_3) (fun H locs V => ?_)
  refine r_aln X dJ1_charAt_3b067_6 rfl (lv_at hl 0 rfl) ?_
  refine r_iln X dJ1_charAt_3b067_7 rfl (lv_at hl 1 rfl) ?_
  refine va_tb X.1 X.2.1 (Y.2.2.2.1.1 i hi).2.2.2 V.2 (i := iV k) (iV_in (by rw [hln2]; exact hk) (by omega)) rfl dJ1_charAt_3b067_8 ?_
  refine r_sp X dJ1_charAt_3b067_9 (by decide) ?_
  refine lv_iand X.1 X.2.1 dJ1_charAt_3b067_12 ?_
  refine lv_i2c X.1 X.2.1 dJ1_charAt_3b067_13 rfl ?_
  have hcl : (iV k).toNatClampNeg = k.toNat := iV_clamp (n := [3, 4].getD i 0) (by rw [hln2]; exact hk) (by omega)
  have hval : ((((([[114, 111, 119], [116, 114, 101, 101]] : List (List Int32)).getD i []).getD (iV k).toNatClampNeg 0) &&& iV 255).toUInt32 % 65536).toInt32 = iV (sChr i k) := by
    rw [hcl]
    rcases nat2 hi with rfl | rfl
    · have : k = 0 ∨ k = 1 ∨ k = 2 := by have : sLen ((0 : Nat) : Int) = 3 := rfl; omega
      rcases this with rfl | rfl | rfl <;> decide
    · have : k = 0 ∨ k = 1 ∨ k = 2 ∨ k = 3 := by have : sLen ((1 : Nat) : Int) = 4 := rfl; omega
      rcases this with rfl | rfl | rfl | rfl <;> decide
  rw [hval]
  refine r_rn X V ?_ rfl dJ1_charAt_3b067_14
  rcases nat2 hi with rfl | rfl
  · have : k = 0 ∨ k = 1 ∨ k = 2 := by have : sLen ((0 : Nat) : Int) = 3 := rfl; omega
    rcases this with rfl | rfl | rfl <;> rfl
  · have : k = 0 ∨ k = 1 ∨ k = 2 ∨ k = 3 := by have : sLen ((1 : Nat) : Int) = 4 := rfl; omega
    rcases this with rfl | rfl | rfl | rfl <;> rfl
set_option maxRecDepth 100000 in
set_option maxHeartbeats 4000000 in
theorem c_strchr (l : Launch) (G : UG) (σ : St) (i : Nat) (hi : i < 2) (k : Int) (hk : 0 ≤ k ∧ k < sLen i) : Met l yJ0_charAt_5068e (.code yJ0_charAt_5068e cJ0_charAt_5068e 2 (some .char) :: TB) { frames := 3, cells := 0, slots := 0, locals := 120 } (uvPc G σ [.ref (G.2.2.2.1 i), .int (iV k)]) (uvQi G (sChr i k) σ) 0 0 (uvA G) := by
  refine r_met (own := RJ0) (lv := [(0, .ref (G.2.2.2.1 i)), (1, .int (iV k))]) (by decide) rfl (Nat.le_of_ble_eq_true rfl) rfl ?_
  intro p e s m below meth c ls X Y V hl
  have hts := X.2.2.2.2.1
  refine r_aln X dJ0_charAt_5068e_0 rfl (lv_at hl 0 rfl) ?_
  refine r_ki V (r_runVS (As := []) (rest := []) X Y V hi (c_isLatin1 l G σ i hi) mv_J0_isLatin1_aae02 wd_491 ⟨rfl, rfl, Nat.le_of_ble_eq_true rfl, Nat.le_of_ble_eq_true rfl⟩ rfl rfl hl.1 (Nat.le_of_ble_eq_true rfl) ⟨Nat.le_refl 0, Nat.le_refl 0⟩ dJ0_charAt_5068e_1) (fun H locs V => ?_)
  refine r_eq (tgt := 16) X rfl dJ0_charAt_5068e_4 (by decide) (fun h => absurd h (by decide)) (fun _ => ?_)
  refine r_aln X dJ0_charAt_5068e_7 rfl (lv_at hl 0 rfl) ?_
  refine vk_getf X.1 X.2.1 (Y.2.2.2.1.1 i hi).2.2.1 V.2 X.2.2.2.1 (hts _ wd_1256) (fun _ h => h) dJ0_charAt_5068e_8 ?_
  refine r_iln X dJ0_charAt_5068e_11 rfl (lv_at hl 1 rfl) ?_
  refine r_ki V (r_runS (As := [.ref (G.2.2.2.2 i), .int (iV k)]) (rest := []) X Y V (c_l1charAt l G σ i hi k hk) ms_J1_charAt_3b067 wd_495 ⟨rfl, rfl, Nat.le_of_ble_eq_true rfl, Nat.le_of_ble_eq_true rfl⟩ rfl rfl hl.1 (Nat.le_of_ble_eq_true rfl) ⟨Nat.le_refl 0, Nat.le_refl 0⟩ dJ0_charAt_5068e_12) (fun H locs V => ?_)
  refine r_rn X V ?_ rfl dJ0_charAt_5068e_15
  rcases nat2 hi with rfl | rfl
  · have : k = 0 ∨ k = 1 ∨ k = 2 := by have : sLen ((0 : Nat) : Int) = 3 := rfl; omega
    rcases this with rfl | rfl | rfl <;> rfl
  · have : k = 0 ∨ k = 1 ∨ k = 2 ∨ k = 3 := by have : sLen ((1 : Nat) : Int) = 4 := rfl; omega
    rcases this with rfl | rfl | rfl | rfl <;> rfl
section UVU
variable {p : Program} {l : Launch} {e : Env} {R : Room} {s : State} {m : MethodId} {args : Array Value} {below : List Frame} {meth : Method} {c : Code} {H : Heap} {locs : List Loc} {cells slots : Nat} {Q : State → Prop}
variable {cc : ByteArray} {nL : Nat} {own : String} {rt : Option FieldType} {pc : Nat} {ls : Array Slot} {rest : List Value} {G : UG} {σ : St}
theorem r_lds0 (X : uvCx p m c cc nL "UnitVoices$Text" s args meth rt) (Y : uvGd G s s.heap) (d : decode cc pc = .ok (.ldc 63, 2)) (k : W p l e R s m args below meth c H locs cells slots Q (F0 m (pc + 2) ls (.ref (G.2.2.2.1 (0 : Int).toNat) :: rest))) : W p l e R s m args below meth c H locs cells slots Q (F0 m pc ls rest) :=
  va_ldcS X.1 X.2.1 X.2.2.2.1 Y.2.2.1.1 d k
theorem r_lds1 (X : uvCx p m c cc nL "UnitVoices$Text" s args meth rt) (Y : uvGd G s s.heap) (d : decode cc pc = .ok (.ldc 84, 2)) (k : W p l e R s m args below meth c H locs cells slots Q (F0 m (pc + 2) ls (.ref (G.2.2.2.1 (1 : Int).toNat) :: rest))) : W p l e R s m args below meth c H locs cells slots Q (F0 m pc ls rest) :=
  va_ldcS X.1 X.2.1 X.2.2.2.1 Y.2.2.1.2.1 d k
theorem r_slen (X : uvCx p m c cc nL own s args meth rt) (Y : uvGd G s s.heap) (V : uvWo G σ s H locs) {w : Int} {index : Nat} (hw : w = 0 ∨ w = 1) (hl : Cond.methodLink own index yJ0_length_8abf5 ∈ TB) (hf : 4 ≤ R.frames) (hlo : 140 ≤ R.locals) (hsz : ls.size = nL) (hW : (rest.map fun v => v.category).sum ≤ 8) (hc : cells ≤ R.cells ∧ slots ≤ R.slots) (d : decode cc pc = .ok (.invokevirtual index, 3))
    (kk : ∀ (H1 : Heap) (locs1 : List Loc), uvWo G σ s H1 locs1 → W p l e R s m args below meth c H1 locs1 cells slots Q (F0 m (pc + 3) ls (.int (iV (sLen w)) :: rest))) : W p l e R s m args below meth c H locs cells slots Q (F0 m pc ls (.ref (G.2.2.2.1 w.toNat) :: rest)) := by
  have hi : w.toNat < 2 := by omega
  have he : ((w.toNat : Nat) : Int) = w := by omega
  have hM := c_strlen l G σ w.toNat hi
  rw [he] at hM
  exact r_ki V (r_runVS (As := []) (rest := rest) X Y V hi hM mv_J0_length_8abf5 hl ⟨rfl, rfl, hf, hlo⟩ rfl rfl hsz hW hc d) kk
theorem r_schr (X : uvCx p m c cc nL own s args meth rt) (Y : uvGd G s s.heap) (V : uvWo G σ s H locs) {w k : Int} {index : Nat} (hw : w = 0 ∨ w = 1) (hk : 0 ≤ k ∧ k < sLen w) (hl : Cond.methodLink own index yJ0_charAt_5068e ∈ TB) (hf : 4 ≤ R.frames) (hlo : 141 ≤ R.locals) (hsz : ls.size = nL) (hW : (rest.map fun v => v.category).sum ≤ 8) (hc : cells ≤ R.cells ∧ slots ≤ R.slots) (d : decode cc pc = .ok (.invokevirtual index, 3))
    (kk : ∀ (H1 : Heap) (locs1 : List Loc), uvWo G σ s H1 locs1 → W p l e R s m args below meth c H1 locs1 cells slots Q (F0 m (pc + 3) ls (.int (iV (sChr w k)) :: rest))) : W p l e R s m args below meth c H locs cells slots Q (F0 m pc ls (.int (iV k) :: .ref (G.2.2.2.1 w.toNat) :: rest)) := by
  have hi : w.toNat < 2 := by omega
  have he : ((w.toNat : Nat) : Int) = w := by omega
  have hM := c_strchr l G σ w.toNat hi k (by rw [he]; exact hk)
  rw [he] at hM
  exact r_ki V (r_runVS (As := [.int (iV k)]) (rest := rest) X Y V hi hM mv_J0_charAt_5068e hl ⟨rfl, rfl, hf, hlo⟩ rfl rfl hsz hW hc d) kk
end UVU
