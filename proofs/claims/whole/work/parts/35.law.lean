set_option maxRecDepth 100000 in
set_option maxHeartbeats 4000000 in
theorem wl_L_law_18 {p : Program} {l : Launch} {e : Env} {s : State} {m : MethodId} {below : List Frame} {meth : Method} {c : Code} {G : UG} {b L : Nat} {xs : Nat → Int32} (hX : va_X b L xs s s.heap) (hbl : b < s.heap.size) (hbA : ¬ uvA G b) (hnew : ∀ q, uvA G q → s.heap.size ≤ q) (hL : L ≤ 3584) (X : uvCx p m c cL_law 4 RL s #[Value.ref b] meth ret) (Y : uvGd G s s.heap)   (σ' : St) (kx : St → Option (Int × St)) (hkx : ∀ (σ : St)  (H : Heap) (locs : List Loc) (ls : Array Slot), uvWo G σ s H locs → lv_has ls 4 [] → kx σ  = some (1, σ') → W p l e room_1 s m #[Value.ref b] below meth c H locs 142 7156 (lw_Z below #[Value.ref b] s) (F0 m 846 ls [])) : ∀ (n : Nat) (σ : St) (x3 : Int) (H : Heap) (locs : List Loc) (ls : Array Slot), uvWo G σ s H locs → lv_has ls 4 [(0, .ref b), (1, .ref (G.2.2.1 0)), (2, .ref (G.2.2.1 118)), (3, .int (iV x3))] → lp_L_law_18 L xs kx n σ x3 = some (1, σ') → W p l e room_1 s m #[Value.ref b] below meth c H locs 142 7156 (lw_Z below #[Value.ref b] s) (F0 m 18 ls []) := by
  intro n
  induction n with
  | zero => intro σ x3 H locs ls V hl h; cases h
  | succ n ih =>
    intro σ x3 H locs ls V hl h
    rw [lp_L_law_18] at h
    refine r_iln X dL_law_18 rfl (lv_at hl 3 rfl) ?_
    refine r_aln X dL_law_19 rfl (lv_at hl 0 rfl) ?_
    refine r_scl X hX hbl hbA V dL_law_20 ?_
    refine r_bp X dL_law_21 (by decide) ?_
    refine r_isub X dL_law_23 ?_
    refine r_cgt (cx := wI x3) (cy := wI (L - 7)) (tgt := 846) X rfl rfl dL_law_24 (by decide) (fun c1 => ?_) (fun c1 => ?_)
    · replace h := ite_t c1 h
      exact hkx σ  _ _ _ V (lv_sub hl [] rfl) h
    · replace h := ite_f c1 h
      refine r_aln X dL_law_27 rfl (lv_at hl 0 rfl) ?_
      refine r_iln X dL_law_28 rfl (lv_at hl 3 rfl) ?_
      obtain ⟨v2, hv2, hiv2, h⟩ := rdS_ex h
      refine r_scd X hX hbl hbA V hiv2 (by omega) hv2 dL_law_29 ?_
      refine r_bp X dL_law_30 (by decide) ?_
      refine r_iand X dL_law_32 ?_
      by_cases c3 : wI (andI v2 31) = 0
      · replace h := ite_t c3 h
        refine r_tbi (tgt := 156) X rfl dL_law_33 c3 (by decide) (by decide) rfl (by decide) ?_
        refine r_aln X dL_law_156 rfl (lv_at hl 1 rfl) ?_
        refine r_aln X dL_law_157 rfl (lv_at hl 0 rfl) ?_
        refine r_iln X dL_law_158 rfl (lv_at hl 3 rfl) ?_
        refine r_ic X dL_law_159 ?_
        refine r_iadd X dL_law_160 ?_
        obtain ⟨v4, hv4, hiv4, h⟩ := rdS_ex h
        refine r_scd X hX hbl hbA V hiv4 (by omega) hv4 dL_law_161 ?_
        refine r_aln X dL_law_162 rfl (lv_at hl 0 rfl) ?_
        refine r_iln X dL_law_163 rfl (lv_at hl 3 rfl) ?_
        refine r_ic X dL_law_164 ?_
        refine r_iadd X dL_law_165 ?_
        obtain ⟨v5, hv5, hiv5, h⟩ := rdS_ex h
        refine r_scd X hX hbl hbA V hiv5 (by omega) hv5 dL_law_166 ?_
        refine r_aln X dL_law_167 rfl (lv_at hl 0 rfl) ?_
        refine r_iln X dL_law_168 rfl (lv_at hl 3 rfl) ?_
        refine r_ic X dL_law_169 ?_
        refine r_iadd X dL_law_170 ?_
        obtain ⟨v6, hv6, hiv6, h⟩ := rdS_ex h
        refine r_scd X hX hbl hbA V hiv6 (by omega) hv6 dL_law_171 ?_
        refine r_aln X dL_law_172 rfl (lv_at hl 0 rfl) ?_
        refine r_iln X dL_law_173 rfl (lv_at hl 3 rfl) ?_
        refine r_ic X dL_law_174 ?_
        refine r_iadd X dL_law_175 ?_
        obtain ⟨v7, hv7, hiv7, h⟩ := rdS_ex h
        refine r_scd X hX hbl hbA V hiv7 (by omega) hv7 dL_law_176 ?_
        refine r_aln X dL_law_177 rfl (lv_at hl 0 rfl) ?_
        refine r_iln X dL_law_178 rfl (lv_at hl 3 rfl) ?_
        refine r_ic X dL_law_179 ?_
        refine r_iadd X dL_law_180 ?_
        obtain ⟨v8, hv8, hiv8, h⟩ := rdS_ex h
        refine r_scd X hX hbl hbA V hiv8 (by omega) hv8 dL_law_181 ?_
        refine r_aln X dL_law_182 rfl (lv_at hl 0 rfl) ?_
        refine r_iln X dL_law_183 rfl (lv_at hl 3 rfl) ?_
        refine r_bp X dL_law_184 (by decide) ?_
        refine r_iadd X dL_law_186 ?_
        obtain ⟨v9, hv9, hiv9, h⟩ := rdS_ex h
        refine r_scd X hX hbl hbA V hiv9 (by omega) hv9 dL_law_187 ?_
        obtain ⟨v10, σ11, hv10, h⟩ := bd2_ex h
        refine r_ki V (r_runV (As := [.int (iV v4), .int (iV v5), .int (iV v6), .int (iV v7), .int (iV v8), .int (iV v9)]) (rest := []) X Y V (c_X9_unit l G σ v4 v5 v6 v7 v8 v9 _ _  hv10) mv_X9_unit wd_371 ci_9 kd_0 ⟨rfl, rfl, Nat.le_of_ble_eq_true rfl, Nat.le_of_ble_eq_true rfl⟩ rfl rfl hl.1 (Nat.le_of_ble_eq_true rfl) ⟨Nat.le_of_ble_eq_true rfl, Nat.le_of_ble_eq_true rfl⟩ dL_law_188) (fun H locs V => ?_)
        refine r_aln X dL_law_191 rfl (lv_at hl 2 rfl) ?_
        refine r_aln X dL_law_192 rfl (lv_at hl 0 rfl) ?_
        refine r_iln X dL_law_193 rfl (lv_at hl 3 rfl) ?_
        refine r_ic X dL_law_194 ?_
        refine r_iadd X dL_law_195 ?_
        obtain ⟨v12, hv12, hiv12, h⟩ := rdS_ex h
        refine r_scd X hX hbl hbA V hiv12 (by omega) hv12 dL_law_196 ?_
        refine r_aln X dL_law_197 rfl (lv_at hl 0 rfl) ?_
        refine r_iln X dL_law_198 rfl (lv_at hl 3 rfl) ?_
        refine r_ic X dL_law_199 ?_
        refine r_iadd X dL_law_200 ?_
        obtain ⟨v13, hv13, hiv13, h⟩ := rdS_ex h
        refine r_scd X hX hbl hbA V hiv13 (by omega) hv13 dL_law_201 ?_
        refine r_aln X dL_law_202 rfl (lv_at hl 0 rfl) ?_
        refine r_iln X dL_law_203 rfl (lv_at hl 3 rfl) ?_
        refine r_ic X dL_law_204 ?_
        refine r_iadd X dL_law_205 ?_
        obtain ⟨v14, hv14, hiv14, h⟩ := rdS_ex h
        refine r_scd X hX hbl hbA V hiv14 (by omega) hv14 dL_law_206 ?_
        refine r_aln X dL_law_207 rfl (lv_at hl 0 rfl) ?_
        refine r_iln X dL_law_208 rfl (lv_at hl 3 rfl) ?_
        refine r_ic X dL_law_209 ?_
        refine r_iadd X dL_law_210 ?_
        obtain ⟨v15, hv15, hiv15, h⟩ := rdS_ex h
        refine r_scd X hX hbl hbA V hiv15 (by omega) hv15 dL_law_211 ?_
        refine r_aln X dL_law_212 rfl (lv_at hl 0 rfl) ?_
        refine r_iln X dL_law_213 rfl (lv_at hl 3 rfl) ?_
        refine r_ic X dL_law_214 ?_
        refine r_iadd X dL_law_215 ?_
        obtain ⟨v16, hv16, hiv16, h⟩ := rdS_ex h
        refine r_scd X hX hbl hbA V hiv16 (by omega) hv16 dL_law_216 ?_
        refine r_aln X dL_law_217 rfl (lv_at hl 0 rfl) ?_
        refine r_iln X dL_law_218 rfl (lv_at hl 3 rfl) ?_
        refine r_bp X dL_law_219 (by decide) ?_
        refine r_iadd X dL_law_221 ?_
        obtain ⟨v17, hv17, hiv17, h⟩ := rdS_ex h
        refine r_scd X hX hbl hbA V hiv17 (by omega) hv17 dL_law_222 ?_
        obtain ⟨v18, σ19, hv18, h⟩ := bd2_ex h
        refine r_ki V (r_runV (As := [.int (iV v12), .int (iV v13), .int (iV v14), .int (iV v15), .int (iV v16), .int (iV v17)]) (rest := [.int (iV v10)]) X Y V (c_X10_unit l G σ11 v12 v13 v14 v15 v16 v17 _ _  hv18) mv_X10_unit wd_974 ci_10 kd_118 ⟨rfl, rfl, Nat.le_of_ble_eq_true rfl, Nat.le_of_ble_eq_true rfl⟩ rfl rfl hl.1 (Nat.le_of_ble_eq_true rfl) ⟨Nat.le_of_ble_eq_true rfl, Nat.le_of_ble_eq_true rfl⟩ dL_law_223) (fun H locs V => ?_)
        refine r_ceq (cx := wI v10) (cy := wI v18) (tgt := 840) X rfl rfl dL_law_226 (by decide) (fun c20 => ?_) (fun c20 => ?_)
        · replace h := ite_t c20 h
          refine r_inc (kk := 3) (lv' := [(3, .int (iV (x3 + 7))), (0, .ref b), (1, .ref (G.2.2.1 0)), (2, .ref (G.2.2.1 118))]) X dL_law_840 hl rfl (by decide) rfl (fun ls hl => ?_)
          refine r_goto (tgt := 18) X dL_law_843 (by decide) ?_
          exact ih σ19 (x3 + 7) _ _ _ V (lv_sub hl [1, 2, 3, 0] rfl) h
        · replace h := ite_f c20 h
          refine r_ic X dL_law_229 ?_
          exact absurd (so2 h).1 (by decide)
      · replace h := ite_f c3 h
        by_cases c21 : wI (andI v2 31) = 1
        · replace h := ite_t c21 h
          refine r_tbi (tgt := 231) X rfl dL_law_33 c21 (by decide) (by decide) rfl (by decide) ?_
          refine r_aln X dL_law_231 rfl (lv_at hl 1 rfl) ?_
          refine r_aln X dL_law_232 rfl (lv_at hl 0 rfl) ?_
          refine r_iln X dL_law_233 rfl (lv_at hl 3 rfl) ?_
          refine r_ic X dL_law_234 ?_
          refine r_iadd X dL_law_235 ?_
          obtain ⟨v22, hv22, hiv22, h⟩ := rdS_ex h
          refine r_scd X hX hbl hbA V hiv22 (by omega) hv22 dL_law_236 ?_
          refine r_aln X dL_law_237 rfl (lv_at hl 0 rfl) ?_
          refine r_iln X dL_law_238 rfl (lv_at hl 3 rfl) ?_
          refine r_ic X dL_law_239 ?_
          refine r_iadd X dL_law_240 ?_
          obtain ⟨v23, hv23, hiv23, h⟩ := rdS_ex h
          refine r_scd X hX hbl hbA V hiv23 (by omega) hv23 dL_law_241 ?_
          refine r_aln X dL_law_242 rfl (lv_at hl 0 rfl) ?_
          refine r_iln X dL_law_243 rfl (lv_at hl 3 rfl) ?_
          refine r_ic X dL_law_244 ?_
          refine r_iadd X dL_law_245 ?_
          obtain ⟨v24, hv24, hiv24, h⟩ := rdS_ex h
          refine r_scd X hX hbl hbA V hiv24 (by omega) hv24 dL_law_246 ?_
          obtain ⟨v25, σ26, hv25, h⟩ := bd2_ex h
          refine r_ki V (r_runV (As := [.int (iV v22), .int (iV v23), .int (iV v24)]) (rest := []) X Y V (c_X9_records l G σ v22 v23 v24 _ _  hv25) mv_X9_records wd_397 ci_9 kd_0 ⟨rfl, rfl, Nat.le_of_ble_eq_true rfl, Nat.le_of_ble_eq_true rfl⟩ rfl rfl hl.1 (Nat.le_of_ble_eq_true rfl) ⟨Nat.le_of_ble_eq_true rfl, Nat.le_of_ble_eq_true rfl⟩ dL_law_247) (fun H locs V => ?_)
          refine r_aln X dL_law_250 rfl (lv_at hl 2 rfl) ?_
          refine r_aln X dL_law_251 rfl (lv_at hl 0 rfl) ?_
          refine r_iln X dL_law_252 rfl (lv_at hl 3 rfl) ?_
          refine r_ic X dL_law_253 ?_
          refine r_iadd X dL_law_254 ?_
          obtain ⟨v27, hv27, hiv27, h⟩ := rdS_ex h
          refine r_scd X hX hbl hbA V hiv27 (by omega) hv27 dL_law_255 ?_
          refine r_aln X dL_law_256 rfl (lv_at hl 0 rfl) ?_
          refine r_iln X dL_law_257 rfl (lv_at hl 3 rfl) ?_
          refine r_ic X dL_law_258 ?_
          refine r_iadd X dL_law_259 ?_
          obtain ⟨v28, hv28, hiv28, h⟩ := rdS_ex h
          refine r_scd X hX hbl hbA V hiv28 (by omega) hv28 dL_law_260 ?_
          refine r_aln X dL_law_261 rfl (lv_at hl 0 rfl) ?_
          refine r_iln X dL_law_262 rfl (lv_at hl 3 rfl) ?_
          refine r_ic X dL_law_263 ?_
          refine r_iadd X dL_law_264 ?_
          obtain ⟨v29, hv29, hiv29, h⟩ := rdS_ex h
          refine r_scd X hX hbl hbA V hiv29 (by omega) hv29 dL_law_265 ?_
          obtain ⟨v30, σ31, hv30, h⟩ := bd2_ex h
          refine r_ki V (r_runV (As := [.int (iV v27), .int (iV v28), .int (iV v29)]) (rest := [.int (iV v25)]) X Y V (c_X10_records l G σ26 v27 v28 v29 _ _  hv30) mv_X10_records wd_1000 ci_10 kd_118 ⟨rfl, rfl, Nat.le_of_ble_eq_true rfl, Nat.le_of_ble_eq_true rfl⟩ rfl rfl hl.1 (Nat.le_of_ble_eq_true rfl) ⟨Nat.le_of_ble_eq_true rfl, Nat.le_of_ble_eq_true rfl⟩ dL_law_266) (fun H locs V => ?_)
          refine r_ceq (cx := wI v25) (cy := wI v30) (tgt := 840) X rfl rfl dL_law_269 (by decide) (fun c32 => ?_) (fun c32 => ?_)
          · replace h := ite_t c32 h
            refine r_inc (kk := 3) (lv' := [(3, .int (iV (x3 + 7))), (0, .ref b), (1, .ref (G.2.2.1 0)), (2, .ref (G.2.2.1 118))]) X dL_law_840 hl rfl (by decide) rfl (fun ls hl => ?_)
            refine r_goto (tgt := 18) X dL_law_843 (by decide) ?_
            exact ih σ31 (x3 + 7) _ _ _ V (lv_sub hl [1, 2, 3, 0] rfl) h
          · replace h := ite_f c32 h
            refine r_ic X dL_law_272 ?_
            exact absurd (so2 h).1 (by decide)
        · replace h := ite_f c21 h
          by_cases c33 : wI (andI v2 31) = 2
          · replace h := ite_t c33 h
            refine r_tbi (tgt := 274) X rfl dL_law_33 c33 (by decide) (by decide) rfl (by decide) ?_
            refine r_aln X dL_law_274 rfl (lv_at hl 1 rfl) ?_
            refine r_aln X dL_law_275 rfl (lv_at hl 0 rfl) ?_
            refine r_iln X dL_law_276 rfl (lv_at hl 3 rfl) ?_
            refine r_ic X dL_law_277 ?_
            refine r_iadd X dL_law_278 ?_
            obtain ⟨v34, hv34, hiv34, h⟩ := rdS_ex h
            refine r_scd X hX hbl hbA V hiv34 (by omega) hv34 dL_law_279 ?_
            refine r_aln X dL_law_280 rfl (lv_at hl 0 rfl) ?_
            refine r_iln X dL_law_281 rfl (lv_at hl 3 rfl) ?_
            refine r_ic X dL_law_282 ?_
            refine r_iadd X dL_law_283 ?_
            obtain ⟨v35, hv35, hiv35, h⟩ := rdS_ex h
            refine r_scd X hX hbl hbA V hiv35 (by omega) hv35 dL_law_284 ?_
            obtain ⟨v36, σ37, hv36, h⟩ := bd2_ex h
            refine r_ki V (r_runV (As := [.int (iV v34), .int (iV v35)]) (rest := []) X Y V (c_X9_of l G σ v34 v35 _ _  hv36) mv_X9_of wd_415 ci_9 kd_0 ⟨rfl, rfl, Nat.le_of_ble_eq_true rfl, Nat.le_of_ble_eq_true rfl⟩ rfl rfl hl.1 (Nat.le_of_ble_eq_true rfl) ⟨Nat.le_of_ble_eq_true rfl, Nat.le_of_ble_eq_true rfl⟩ dL_law_285) (fun H locs V => ?_)
            refine r_aln X dL_law_288 rfl (lv_at hl 2 rfl) ?_
            refine r_aln X dL_law_289 rfl (lv_at hl 0 rfl) ?_
            refine r_iln X dL_law_290 rfl (lv_at hl 3 rfl) ?_
            refine r_ic X dL_law_291 ?_
            refine r_iadd X dL_law_292 ?_
            obtain ⟨v38, hv38, hiv38, h⟩ := rdS_ex h
            refine r_scd X hX hbl hbA V hiv38 (by omega) hv38 dL_law_293 ?_
            refine r_aln X dL_law_294 rfl (lv_at hl 0 rfl) ?_
            refine r_iln X dL_law_295 rfl (lv_at hl 3 rfl) ?_
            refine r_ic X dL_law_296 ?_
            refine r_iadd X dL_law_297 ?_
            obtain ⟨v39, hv39, hiv39, h⟩ := rdS_ex h
            refine r_scd X hX hbl hbA V hiv39 (by omega) hv39 dL_law_298 ?_
            obtain ⟨v40, σ41, hv40, h⟩ := bd2_ex h
            refine r_ki V (r_runV (As := [.int (iV v38), .int (iV v39)]) (rest := [.int (iV v36)]) X Y V (c_X10_of l G σ37 v38 v39 _ _  hv40) mv_X10_of wd_1016 ci_10 kd_118 ⟨rfl, rfl, Nat.le_of_ble_eq_true rfl, Nat.le_of_ble_eq_true rfl⟩ rfl rfl hl.1 (Nat.le_of_ble_eq_true rfl) ⟨Nat.le_of_ble_eq_true rfl, Nat.le_of_ble_eq_true rfl⟩ dL_law_299) (fun H locs V => ?_)
            refine r_ceq (cx := wI v36) (cy := wI v40) (tgt := 840) X rfl rfl dL_law_302 (by decide) (fun c42 => ?_) (fun c42 => ?_)
            · replace h := ite_t c42 h
              refine r_inc (kk := 3) (lv' := [(3, .int (iV (x3 + 7))), (0, .ref b), (1, .ref (G.2.2.1 0)), (2, .ref (G.2.2.1 118))]) X dL_law_840 hl rfl (by decide) rfl (fun ls hl => ?_)
              refine r_goto (tgt := 18) X dL_law_843 (by decide) ?_
              exact ih σ41 (x3 + 7) _ _ _ V (lv_sub hl [1, 2, 3, 0] rfl) h
            · replace h := ite_f c42 h
              refine r_ic X dL_law_305 ?_
              exact absurd (so2 h).1 (by decide)
          · replace h := ite_f c33 h
            by_cases c43 : wI (andI v2 31) = 3
            · replace h := ite_t c43 h
              refine r_tbi (tgt := 307) X rfl dL_law_33 c43 (by decide) (by decide) rfl (by decide) ?_
              refine r_aln X dL_law_307 rfl (lv_at hl 1 rfl) ?_
              obtain ⟨v44, σ45, hv44, h⟩ := bd2_ex h
              refine r_ki V (r_runV (As := []) (rest := []) X Y V (c_X9_empties l G σ  _ _  hv44) mv_X9_empties wd_423 ci_9 kd_0 ⟨rfl, rfl, Nat.le_of_ble_eq_true rfl, Nat.le_of_ble_eq_true rfl⟩ rfl rfl hl.1 (Nat.le_of_ble_eq_true rfl) ⟨Nat.le_of_ble_eq_true rfl, Nat.le_of_ble_eq_true rfl⟩ dL_law_308) (fun H locs V => ?_)
              refine r_aln X dL_law_311 rfl (lv_at hl 2 rfl) ?_
              obtain ⟨v46, σ47, hv46, h⟩ := bd2_ex h
              refine r_ki V (r_runV (As := []) (rest := [.int (iV v44)]) X Y V (c_X10_empties l G σ45  _ _  hv46) mv_X10_empties wd_1028 ci_10 kd_118 ⟨rfl, rfl, Nat.le_of_ble_eq_true rfl, Nat.le_of_ble_eq_true rfl⟩ rfl rfl hl.1 (Nat.le_of_ble_eq_true rfl) ⟨Nat.le_of_ble_eq_true rfl, Nat.le_of_ble_eq_true rfl⟩ dL_law_312) (fun H locs V => ?_)
              refine r_ceq (cx := wI v44) (cy := wI v46) (tgt := 840) X rfl rfl dL_law_315 (by decide) (fun c48 => ?_) (fun c48 => ?_)
              · replace h := ite_t c48 h
                refine r_inc (kk := 3) (lv' := [(3, .int (iV (x3 + 7))), (0, .ref b), (1, .ref (G.2.2.1 0)), (2, .ref (G.2.2.1 118))]) X dL_law_840 hl rfl (by decide) rfl (fun ls hl => ?_)
                refine r_goto (tgt := 18) X dL_law_843 (by decide) ?_
                exact ih σ47 (x3 + 7) _ _ _ V (lv_sub hl [1, 2, 3, 0] rfl) h
              · replace h := ite_f c48 h
                refine r_ic X dL_law_318 ?_
                exact absurd (so2 h).1 (by decide)
            · replace h := ite_f c43 h
              by_cases c49 : wI (andI v2 31) = 4
              · replace h := ite_t c49 h
                refine r_tbi (tgt := 320) X rfl dL_law_33 c49 (by decide) (by decide) rfl (by decide) ?_
                refine r_aln X dL_law_320 rfl (lv_at hl 1 rfl) ?_
                refine r_aln X dL_law_321 rfl (lv_at hl 0 rfl) ?_
                refine r_iln X dL_law_322 rfl (lv_at hl 3 rfl) ?_
                refine r_ic X dL_law_323 ?_
                refine r_iadd X dL_law_324 ?_
                obtain ⟨v50, hv50, hiv50, h⟩ := rdS_ex h
                refine r_scd X hX hbl hbA V hiv50 (by omega) hv50 dL_law_325 ?_
                refine r_aln X dL_law_326 rfl (lv_at hl 0 rfl) ?_
                refine r_iln X dL_law_327 rfl (lv_at hl 3 rfl) ?_
                refine r_ic X dL_law_328 ?_
                refine r_iadd X dL_law_329 ?_
                obtain ⟨v51, hv51, hiv51, h⟩ := rdS_ex h
                refine r_scd X hX hbl hbA V hiv51 (by omega) hv51 dL_law_330 ?_
                obtain ⟨v52, σ53, hv52, h⟩ := bd2_ex h
                refine r_ki V (r_runV (As := [.int (iV v50), .int (iV v51)]) (rest := []) X Y V (c_X9_other l G σ v50 v51 _ _  hv52) mv_X9_other wd_428 ci_9 kd_0 ⟨rfl, rfl, Nat.le_of_ble_eq_true rfl, Nat.le_of_ble_eq_true rfl⟩ rfl rfl hl.1 (Nat.le_of_ble_eq_true rfl) ⟨Nat.le_of_ble_eq_true rfl, Nat.le_of_ble_eq_true rfl⟩ dL_law_331) (fun H locs V => ?_)
                refine r_aln X dL_law_334 rfl (lv_at hl 2 rfl) ?_
                refine r_aln X dL_law_335 rfl (lv_at hl 0 rfl) ?_
                refine r_iln X dL_law_336 rfl (lv_at hl 3 rfl) ?_
                refine r_ic X dL_law_337 ?_
                refine r_iadd X dL_law_338 ?_
                obtain ⟨v54, hv54, hiv54, h⟩ := rdS_ex h
                refine r_scd X hX hbl hbA V hiv54 (by omega) hv54 dL_law_339 ?_
                refine r_aln X dL_law_340 rfl (lv_at hl 0 rfl) ?_
                refine r_iln X dL_law_341 rfl (lv_at hl 3 rfl) ?_
                refine r_ic X dL_law_342 ?_
                refine r_iadd X dL_law_343 ?_
                obtain ⟨v55, hv55, hiv55, h⟩ := rdS_ex h
                refine r_scd X hX hbl hbA V hiv55 (by omega) hv55 dL_law_344 ?_
                obtain ⟨v56, σ57, hv56, h⟩ := bd2_ex h
                refine r_ki V (r_runV (As := [.int (iV v54), .int (iV v55)]) (rest := [.int (iV v52)]) X Y V (c_X10_other l G σ53 v54 v55 _ _  hv56) mv_X10_other wd_1032 ci_10 kd_118 ⟨rfl, rfl, Nat.le_of_ble_eq_true rfl, Nat.le_of_ble_eq_true rfl⟩ rfl rfl hl.1 (Nat.le_of_ble_eq_true rfl) ⟨Nat.le_of_ble_eq_true rfl, Nat.le_of_ble_eq_true rfl⟩ dL_law_345) (fun H locs V => ?_)
                refine r_ceq (cx := wI v52) (cy := wI v56) (tgt := 840) X rfl rfl dL_law_348 (by decide) (fun c58 => ?_) (fun c58 => ?_)
                · replace h := ite_t c58 h
                  refine r_inc (kk := 3) (lv' := [(3, .int (iV (x3 + 7))), (0, .ref b), (1, .ref (G.2.2.1 0)), (2, .ref (G.2.2.1 118))]) X dL_law_840 hl rfl (by decide) rfl (fun ls hl => ?_)
                  refine r_goto (tgt := 18) X dL_law_843 (by decide) ?_
                  exact ih σ57 (x3 + 7) _ _ _ V (lv_sub hl [1, 2, 3, 0] rfl) h
                · replace h := ite_f c58 h
                  refine r_ic X dL_law_351 ?_
                  exact absurd (so2 h).1 (by decide)
              · replace h := ite_f c49 h
                by_cases c59 : wI (andI v2 31) = 5
                · replace h := ite_t c59 h
                  refine r_tbi (tgt := 353) X rfl dL_law_33 c59 (by decide) (by decide) rfl (by decide) ?_
                  refine r_aln X dL_law_353 rfl (lv_at hl 1 rfl) ?_
                  refine r_aln X dL_law_354 rfl (lv_at hl 0 rfl) ?_
                  refine r_iln X dL_law_355 rfl (lv_at hl 3 rfl) ?_
                  refine r_ic X dL_law_356 ?_
                  refine r_iadd X dL_law_357 ?_
                  obtain ⟨v60, hv60, hiv60, h⟩ := rdS_ex h
                  refine r_scd X hX hbl hbA V hiv60 (by omega) hv60 dL_law_358 ?_
                  obtain ⟨v61, σ62, hv61, h⟩ := bd2_ex h
                  refine r_ki V (r_runV (As := [.int (iV v60)]) (rest := []) X Y V (c_X9_fitter l G σ v60 _ _  hv61) mv_X9_fitter wd_432 ci_9 kd_0 ⟨rfl, rfl, Nat.le_of_ble_eq_true rfl, Nat.le_of_ble_eq_true rfl⟩ rfl rfl hl.1 (Nat.le_of_ble_eq_true rfl) ⟨Nat.le_of_ble_eq_true rfl, Nat.le_of_ble_eq_true rfl⟩ dL_law_359) (fun H locs V => ?_)
                  refine r_aln X dL_law_362 rfl (lv_at hl 2 rfl) ?_
                  refine r_aln X dL_law_363 rfl (lv_at hl 0 rfl) ?_
                  refine r_iln X dL_law_364 rfl (lv_at hl 3 rfl) ?_
                  refine r_ic X dL_law_365 ?_
                  refine r_iadd X dL_law_366 ?_
                  obtain ⟨v63, hv63, hiv63, h⟩ := rdS_ex h
                  refine r_scd X hX hbl hbA V hiv63 (by omega) hv63 dL_law_367 ?_
                  obtain ⟨v64, σ65, hv64, h⟩ := bd2_ex h
                  refine r_ki V (r_runV (As := [.int (iV v63)]) (rest := [.int (iV v61)]) X Y V (c_X10_fitter l G σ62 v63 _ _  hv64) mv_X10_fitter wd_1036 ci_10 kd_118 ⟨rfl, rfl, Nat.le_of_ble_eq_true rfl, Nat.le_of_ble_eq_true rfl⟩ rfl rfl hl.1 (Nat.le_of_ble_eq_true rfl) ⟨Nat.le_of_ble_eq_true rfl, Nat.le_of_ble_eq_true rfl⟩ dL_law_368) (fun H locs V => ?_)
                  refine r_ceq (cx := wI v61) (cy := wI v64) (tgt := 840) X rfl rfl dL_law_371 (by decide) (fun c66 => ?_) (fun c66 => ?_)
                  · replace h := ite_t c66 h
                    refine r_inc (kk := 3) (lv' := [(3, .int (iV (x3 + 7))), (0, .ref b), (1, .ref (G.2.2.1 0)), (2, .ref (G.2.2.1 118))]) X dL_law_840 hl rfl (by decide) rfl (fun ls hl => ?_)
                    refine r_goto (tgt := 18) X dL_law_843 (by decide) ?_
                    exact ih σ65 (x3 + 7) _ _ _ V (lv_sub hl [1, 2, 3, 0] rfl) h
                  · replace h := ite_f c66 h
                    refine r_ic X dL_law_374 ?_
                    exact absurd (so2 h).1 (by decide)
                · replace h := ite_f c59 h
                  by_cases c67 : wI (andI v2 31) = 6
                  · replace h := ite_t c67 h
                    refine r_tbi (tgt := 376) X rfl dL_law_33 c67 (by decide) (by decide) rfl (by decide) ?_
                    refine r_aln X dL_law_376 rfl (lv_at hl 1 rfl) ?_
                    refine r_aln X dL_law_377 rfl (lv_at hl 0 rfl) ?_
                    refine r_iln X dL_law_378 rfl (lv_at hl 3 rfl) ?_
                    refine r_ic X dL_law_379 ?_
                    refine r_iadd X dL_law_380 ?_
                    obtain ⟨v68, hv68, hiv68, h⟩ := rdS_ex h
                    refine r_scd X hX hbl hbA V hiv68 (by omega) hv68 dL_law_381 ?_
                    obtain ⟨v69, σ70, hv69, h⟩ := bd2_ex h
                    refine r_ki V (r_runV (As := [.int (iV v68)]) (rest := []) X Y V (c_X9_type l G σ v68 _ _  hv69) mv_X9_type wd_436 ci_9 kd_0 ⟨rfl, rfl, Nat.le_of_ble_eq_true rfl, Nat.le_of_ble_eq_true rfl⟩ rfl rfl hl.1 (Nat.le_of_ble_eq_true rfl) ⟨Nat.le_of_ble_eq_true rfl, Nat.le_of_ble_eq_true rfl⟩ dL_law_382) (fun H locs V => ?_)
                    refine r_aln X dL_law_385 rfl (lv_at hl 2 rfl) ?_
                    refine r_aln X dL_law_386 rfl (lv_at hl 0 rfl) ?_
                    refine r_iln X dL_law_387 rfl (lv_at hl 3 rfl) ?_
                    refine r_ic X dL_law_388 ?_
                    refine r_iadd X dL_law_389 ?_
                    obtain ⟨v71, hv71, hiv71, h⟩ := rdS_ex h
                    refine r_scd X hX hbl hbA V hiv71 (by omega) hv71 dL_law_390 ?_
                    obtain ⟨v72, σ73, hv72, h⟩ := bd2_ex h
                    refine r_ki V (r_runV (As := [.int (iV v71)]) (rest := [.int (iV v69)]) X Y V (c_X10_type l G σ70 v71 _ _  hv72) mv_X10_type wd_1041 ci_10 kd_118 ⟨rfl, rfl, Nat.le_of_ble_eq_true rfl, Nat.le_of_ble_eq_true rfl⟩ rfl rfl hl.1 (Nat.le_of_ble_eq_true rfl) ⟨Nat.le_of_ble_eq_true rfl, Nat.le_of_ble_eq_true rfl⟩ dL_law_391) (fun H locs V => ?_)
                    refine r_ceq (cx := wI v69) (cy := wI v72) (tgt := 840) X rfl rfl dL_law_394 (by decide) (fun c74 => ?_) (fun c74 => ?_)
                    · replace h := ite_t c74 h
                      refine r_inc (kk := 3) (lv' := [(3, .int (iV (x3 + 7))), (0, .ref b), (1, .ref (G.2.2.1 0)), (2, .ref (G.2.2.1 118))]) X dL_law_840 hl rfl (by decide) rfl (fun ls hl => ?_)
                      refine r_goto (tgt := 18) X dL_law_843 (by decide) ?_
                      exact ih σ73 (x3 + 7) _ _ _ V (lv_sub hl [1, 2, 3, 0] rfl) h
                    · replace h := ite_f c74 h
                      refine r_ic X dL_law_397 ?_
                      exact absurd (so2 h).1 (by decide)
                  · replace h := ite_f c67 h
                    by_cases c75 : wI (andI v2 31) = 7
                    · replace h := ite_t c75 h
                      refine r_tbi (tgt := 399) X rfl dL_law_33 c75 (by decide) (by decide) rfl (by decide) ?_
                      refine r_aln X dL_law_399 rfl (lv_at hl 1 rfl) ?_
                      obtain ⟨v76, σ77, hv76, h⟩ := bd2_ex h
                      refine r_ki V (r_runV (As := []) (rest := []) X Y V (c_X9_clear l G σ  _ _  hv76) mv_X9_clear wd_444 ci_9 kd_0 ⟨rfl, rfl, Nat.le_of_ble_eq_true rfl, Nat.le_of_ble_eq_true rfl⟩ rfl rfl hl.1 (Nat.le_of_ble_eq_true rfl) ⟨Nat.le_of_ble_eq_true rfl, Nat.le_of_ble_eq_true rfl⟩ dL_law_400) (fun H locs V => ?_)
                      refine r_aln X dL_law_403 rfl (lv_at hl 2 rfl) ?_
                      obtain ⟨v78, σ79, hv78, h⟩ := bd2_ex h
                      refine r_ki V (r_runV (As := []) (rest := [.int (iV v76)]) X Y V (c_X10_clear l G σ77  _ _  hv78) mv_X10_clear wd_1046 ci_10 kd_118 ⟨rfl, rfl, Nat.le_of_ble_eq_true rfl, Nat.le_of_ble_eq_true rfl⟩ rfl rfl hl.1 (Nat.le_of_ble_eq_true rfl) ⟨Nat.le_of_ble_eq_true rfl, Nat.le_of_ble_eq_true rfl⟩ dL_law_404) (fun H locs V => ?_)
                      refine r_ceq (cx := wI v76) (cy := wI v78) (tgt := 840) X rfl rfl dL_law_407 (by decide) (fun c80 => ?_) (fun c80 => ?_)
                      · replace h := ite_t c80 h
                        refine r_inc (kk := 3) (lv' := [(3, .int (iV (x3 + 7))), (0, .ref b), (1, .ref (G.2.2.1 0)), (2, .ref (G.2.2.1 118))]) X dL_law_840 hl rfl (by decide) rfl (fun ls hl => ?_)
                        refine r_goto (tgt := 18) X dL_law_843 (by decide) ?_
                        exact ih σ79 (x3 + 7) _ _ _ V (lv_sub hl [1, 2, 3, 0] rfl) h
                      · replace h := ite_f c80 h
                        refine r_ic X dL_law_410 ?_
                        exact absurd (so2 h).1 (by decide)
                    · replace h := ite_f c75 h
                      by_cases c81 : wI (andI v2 31) = 8
                      · replace h := ite_t c81 h
                        refine r_tbi (tgt := 412) X rfl dL_law_33 c81 (by decide) (by decide) rfl (by decide) ?_
                        refine r_aln X dL_law_412 rfl (lv_at hl 1 rfl) ?_
                        obtain ⟨v82, σ83, hv82, h⟩ := bd2_ex h
                        refine r_ki V (r_runV (As := []) (rest := []) X Y V (c_X9_reads l G σ  _ _  hv82) mv_X9_reads wd_448 ci_9 kd_0 ⟨rfl, rfl, Nat.le_of_ble_eq_true rfl, Nat.le_of_ble_eq_true rfl⟩ rfl rfl hl.1 (Nat.le_of_ble_eq_true rfl) ⟨Nat.le_of_ble_eq_true rfl, Nat.le_of_ble_eq_true rfl⟩ dL_law_413) (fun H locs V => ?_)
                        refine r_aln X dL_law_416 rfl (lv_at hl 2 rfl) ?_
                        obtain ⟨v84, σ85, hv84, h⟩ := bd2_ex h
                        refine r_ki V (r_runV (As := []) (rest := [.int (iV v82)]) X Y V (c_X10_reads l G σ83  _ _  hv84) mv_X10_reads wd_1050 ci_10 kd_118 ⟨rfl, rfl, Nat.le_of_ble_eq_true rfl, Nat.le_of_ble_eq_true rfl⟩ rfl rfl hl.1 (Nat.le_of_ble_eq_true rfl) ⟨Nat.le_of_ble_eq_true rfl, Nat.le_of_ble_eq_true rfl⟩ dL_law_417) (fun H locs V => ?_)
                        refine r_ceq (cx := wI v82) (cy := wI v84) (tgt := 840) X rfl rfl dL_law_420 (by decide) (fun c86 => ?_) (fun c86 => ?_)
                        · replace h := ite_t c86 h
                          refine r_inc (kk := 3) (lv' := [(3, .int (iV (x3 + 7))), (0, .ref b), (1, .ref (G.2.2.1 0)), (2, .ref (G.2.2.1 118))]) X dL_law_840 hl rfl (by decide) rfl (fun ls hl => ?_)
                          refine r_goto (tgt := 18) X dL_law_843 (by decide) ?_
                          exact ih σ85 (x3 + 7) _ _ _ V (lv_sub hl [1, 2, 3, 0] rfl) h
                        · replace h := ite_f c86 h
                          refine r_ic X dL_law_423 ?_
                          exact absurd (so2 h).1 (by decide)
                      · replace h := ite_f c81 h
                        by_cases c87 : wI (andI v2 31) = 9
                        · replace h := ite_t c87 h
                          refine r_tbi (tgt := 425) X rfl dL_law_33 c87 (by decide) (by decide) rfl (by decide) ?_
                          refine r_aln X dL_law_425 rfl (lv_at hl 1 rfl) ?_
                          refine r_aln X dL_law_426 rfl (lv_at hl 0 rfl) ?_
                          refine r_iln X dL_law_427 rfl (lv_at hl 3 rfl) ?_
                          refine r_ic X dL_law_428 ?_
                          refine r_iadd X dL_law_429 ?_
                          obtain ⟨v88, hv88, hiv88, h⟩ := rdS_ex h
                          refine r_scd X hX hbl hbA V hiv88 (by omega) hv88 dL_law_430 ?_
                          refine r_aln X dL_law_431 rfl (lv_at hl 0 rfl) ?_
                          refine r_iln X dL_law_432 rfl (lv_at hl 3 rfl) ?_
                          refine r_ic X dL_law_433 ?_
                          refine r_iadd X dL_law_434 ?_
                          obtain ⟨v89, hv89, hiv89, h⟩ := rdS_ex h
                          refine r_scd X hX hbl hbA V hiv89 (by omega) hv89 dL_law_435 ?_
                          obtain ⟨v90, σ91, hv90, h⟩ := bd2_ex h
                          refine r_ki V (r_runV (As := [.int (iV v88), .int (iV v89)]) (rest := []) X Y V (c_X9_target l G σ v88 v89 _ _  hv90) mv_X9_target wd_586 ci_9 kd_0 ⟨rfl, rfl, Nat.le_of_ble_eq_true rfl, Nat.le_of_ble_eq_true rfl⟩ rfl rfl hl.1 (Nat.le_of_ble_eq_true rfl) ⟨Nat.le_of_ble_eq_true rfl, Nat.le_of_ble_eq_true rfl⟩ dL_law_436) (fun H locs V => ?_)
                          refine r_aln X dL_law_439 rfl (lv_at hl 2 rfl) ?_
                          refine r_aln X dL_law_440 rfl (lv_at hl 0 rfl) ?_
                          refine r_iln X dL_law_441 rfl (lv_at hl 3 rfl) ?_
                          refine r_ic X dL_law_442 ?_
                          refine r_iadd X dL_law_443 ?_
                          obtain ⟨v92, hv92, hiv92, h⟩ := rdS_ex h
                          refine r_scd X hX hbl hbA V hiv92 (by omega) hv92 dL_law_444 ?_
                          refine r_aln X dL_law_445 rfl (lv_at hl 0 rfl) ?_
                          refine r_iln X dL_law_446 rfl (lv_at hl 3 rfl) ?_
                          refine r_ic X dL_law_447 ?_
                          refine r_iadd X dL_law_448 ?_
                          obtain ⟨v93, hv93, hiv93, h⟩ := rdS_ex h
                          refine r_scd X hX hbl hbA V hiv93 (by omega) hv93 dL_law_449 ?_
                          obtain ⟨v94, σ95, hv94, h⟩ := bd2_ex h
                          refine r_ki V (r_runV (As := [.int (iV v92), .int (iV v93)]) (rest := [.int (iV v90)]) X Y V (c_X10_target l G σ91 v92 v93 _ _  hv94) mv_X10_target wd_1084 ci_10 kd_118 ⟨rfl, rfl, Nat.le_of_ble_eq_true rfl, Nat.le_of_ble_eq_true rfl⟩ rfl rfl hl.1 (Nat.le_of_ble_eq_true rfl) ⟨Nat.le_of_ble_eq_true rfl, Nat.le_of_ble_eq_true rfl⟩ dL_law_450) (fun H locs V => ?_)
                          refine r_ceq (cx := wI v90) (cy := wI v94) (tgt := 840) X rfl rfl dL_law_453 (by decide) (fun c96 => ?_) (fun c96 => ?_)
                          · replace h := ite_t c96 h
                            refine r_inc (kk := 3) (lv' := [(3, .int (iV (x3 + 7))), (0, .ref b), (1, .ref (G.2.2.1 0)), (2, .ref (G.2.2.1 118))]) X dL_law_840 hl rfl (by decide) rfl (fun ls hl => ?_)
                            refine r_goto (tgt := 18) X dL_law_843 (by decide) ?_
                            exact ih σ95 (x3 + 7) _ _ _ V (lv_sub hl [1, 2, 3, 0] rfl) h
                          · replace h := ite_f c96 h
                            refine r_ic X dL_law_456 ?_
                            exact absurd (so2 h).1 (by decide)
                        · replace h := ite_f c87 h
                          by_cases c97 : wI (andI v2 31) = 10
                          · replace h := ite_t c97 h
                            refine r_tbi (tgt := 458) X rfl dL_law_33 c97 (by decide) (by decide) rfl (by decide) ?_
                            refine r_aln X dL_law_458 rfl (lv_at hl 1 rfl) ?_
                            refine r_aln X dL_law_459 rfl (lv_at hl 0 rfl) ?_
                            refine r_iln X dL_law_460 rfl (lv_at hl 3 rfl) ?_
                            refine r_ic X dL_law_461 ?_
                            refine r_iadd X dL_law_462 ?_
                            obtain ⟨v98, hv98, hiv98, h⟩ := rdS_ex h
                            refine r_scd X hX hbl hbA V hiv98 (by omega) hv98 dL_law_463 ?_
                            obtain ⟨v99, σ100, hv99, h⟩ := bd2_ex h
                            refine r_ki V (r_runV (As := [.int (iV v98)]) (rest := []) X Y V (c_X9_tree l G σ v98 _ _  hv99) mv_X9_tree wd_602 ci_9 kd_0 ⟨rfl, rfl, Nat.le_of_ble_eq_true rfl, Nat.le_of_ble_eq_true rfl⟩ rfl rfl hl.1 (Nat.le_of_ble_eq_true rfl) ⟨Nat.le_of_ble_eq_true rfl, Nat.le_of_ble_eq_true rfl⟩ dL_law_464) (fun H locs V => ?_)
                            refine r_aln X dL_law_467 rfl (lv_at hl 2 rfl) ?_
                            refine r_aln X dL_law_468 rfl (lv_at hl 0 rfl) ?_
                            refine r_iln X dL_law_469 rfl (lv_at hl 3 rfl) ?_
                            refine r_ic X dL_law_470 ?_
                            refine r_iadd X dL_law_471 ?_
                            obtain ⟨v101, hv101, hiv101, h⟩ := rdS_ex h
                            refine r_scd X hX hbl hbA V hiv101 (by omega) hv101 dL_law_472 ?_
                            obtain ⟨v102, σ103, hv102, h⟩ := bd2_ex h
                            refine r_ki V (r_runV (As := [.int (iV v101)]) (rest := [.int (iV v99)]) X Y V (c_X10_tree l G σ100 v101 _ _  hv102) mv_X10_tree wd_1100 ci_10 kd_118 ⟨rfl, rfl, Nat.le_of_ble_eq_true rfl, Nat.le_of_ble_eq_true rfl⟩ rfl rfl hl.1 (Nat.le_of_ble_eq_true rfl) ⟨Nat.le_of_ble_eq_true rfl, Nat.le_of_ble_eq_true rfl⟩ dL_law_473) (fun H locs V => ?_)
                            refine r_ceq (cx := wI v99) (cy := wI v102) (tgt := 840) X rfl rfl dL_law_476 (by decide) (fun c104 => ?_) (fun c104 => ?_)
                            · replace h := ite_t c104 h
                              refine r_inc (kk := 3) (lv' := [(3, .int (iV (x3 + 7))), (0, .ref b), (1, .ref (G.2.2.1 0)), (2, .ref (G.2.2.1 118))]) X dL_law_840 hl rfl (by decide) rfl (fun ls hl => ?_)
                              refine r_goto (tgt := 18) X dL_law_843 (by decide) ?_
                              exact ih σ103 (x3 + 7) _ _ _ V (lv_sub hl [1, 2, 3, 0] rfl) h
                            · replace h := ite_f c104 h
                              refine r_ic X dL_law_479 ?_
                              exact absurd (so2 h).1 (by decide)
                          · replace h := ite_f c97 h
                            by_cases c105 : wI (andI v2 31) = 11
                            · replace h := ite_t c105 h
                              refine r_tbi (tgt := 481) X rfl dL_law_33 c105 (by decide) (by decide) rfl (by decide) ?_
                              refine r_aln X dL_law_481 rfl (lv_at hl 1 rfl) ?_
                              refine r_aln X dL_law_482 rfl (lv_at hl 0 rfl) ?_
                              refine r_iln X dL_law_483 rfl (lv_at hl 3 rfl) ?_
                              refine r_ic X dL_law_484 ?_
                              refine r_iadd X dL_law_485 ?_
                              obtain ⟨v106, hv106, hiv106, h⟩ := rdS_ex h
                              refine r_scd X hX hbl hbA V hiv106 (by omega) hv106 dL_law_486 ?_
                              refine r_aln X dL_law_487 rfl (lv_at hl 0 rfl) ?_
                              refine r_iln X dL_law_488 rfl (lv_at hl 3 rfl) ?_
                              refine r_ic X dL_law_489 ?_
                              refine r_iadd X dL_law_490 ?_
                              obtain ⟨v107, hv107, hiv107, h⟩ := rdS_ex h
                              refine r_scd X hX hbl hbA V hiv107 (by omega) hv107 dL_law_491 ?_
                              obtain ⟨v108, σ109, hv108, h⟩ := bd2_ex h
                              refine r_ki V (r_runV (As := [.int (iV v106), .int (iV v107)]) (rest := []) X Y V (c_X9_leaf l G σ v106 v107 _ _  hv108) mv_X9_leaf wd_632 ci_9 kd_0 ⟨rfl, rfl, Nat.le_of_ble_eq_true rfl, Nat.le_of_ble_eq_true rfl⟩ rfl rfl hl.1 (Nat.le_of_ble_eq_true rfl) ⟨Nat.le_of_ble_eq_true rfl, Nat.le_of_ble_eq_true rfl⟩ dL_law_492) (fun H locs V => ?_)
                              refine r_aln X dL_law_495 rfl (lv_at hl 2 rfl) ?_
                              refine r_aln X dL_law_496 rfl (lv_at hl 0 rfl) ?_
                              refine r_iln X dL_law_497 rfl (lv_at hl 3 rfl) ?_
                              refine r_ic X dL_law_498 ?_
                              refine r_iadd X dL_law_499 ?_
                              obtain ⟨v110, hv110, hiv110, h⟩ := rdS_ex h
                              refine r_scd X hX hbl hbA V hiv110 (by omega) hv110 dL_law_500 ?_
                              refine r_aln X dL_law_501 rfl (lv_at hl 0 rfl) ?_
                              refine r_iln X dL_law_502 rfl (lv_at hl 3 rfl) ?_
                              refine r_ic X dL_law_503 ?_
                              refine r_iadd X dL_law_504 ?_
                              obtain ⟨v111, hv111, hiv111, h⟩ := rdS_ex h
                              refine r_scd X hX hbl hbA V hiv111 (by omega) hv111 dL_law_505 ?_
                              obtain ⟨v112, σ113, hv112, h⟩ := bd2_ex h
                              refine r_ki V (r_runV (As := [.int (iV v110), .int (iV v111)]) (rest := [.int (iV v108)]) X Y V (c_X10_leaf l G σ109 v110 v111 _ _  hv112) mv_X10_leaf wd_1125 ci_10 kd_118 ⟨rfl, rfl, Nat.le_of_ble_eq_true rfl, Nat.le_of_ble_eq_true rfl⟩ rfl rfl hl.1 (Nat.le_of_ble_eq_true rfl) ⟨Nat.le_of_ble_eq_true rfl, Nat.le_of_ble_eq_true rfl⟩ dL_law_506) (fun H locs V => ?_)
                              refine r_ceq (cx := wI v108) (cy := wI v112) (tgt := 840) X rfl rfl dL_law_509 (by decide) (fun c114 => ?_) (fun c114 => ?_)
                              · replace h := ite_t c114 h
                                refine r_inc (kk := 3) (lv' := [(3, .int (iV (x3 + 7))), (0, .ref b), (1, .ref (G.2.2.1 0)), (2, .ref (G.2.2.1 118))]) X dL_law_840 hl rfl (by decide) rfl (fun ls hl => ?_)
                                refine r_goto (tgt := 18) X dL_law_843 (by decide) ?_
                                exact ih σ113 (x3 + 7) _ _ _ V (lv_sub hl [1, 2, 3, 0] rfl) h
                              · replace h := ite_f c114 h
                                refine r_ic X dL_law_512 ?_
                                exact absurd (so2 h).1 (by decide)
                            · replace h := ite_f c105 h
                              by_cases c115 : wI (andI v2 31) = 12
                              · replace h := ite_t c115 h
                                refine r_tbi (tgt := 514) X rfl dL_law_33 c115 (by decide) (by decide) rfl (by decide) ?_
                                refine r_aln X dL_law_514 rfl (lv_at hl 1 rfl) ?_
                                refine r_aln X dL_law_515 rfl (lv_at hl 0 rfl) ?_
                                refine r_iln X dL_law_516 rfl (lv_at hl 3 rfl) ?_
                                refine r_ic X dL_law_517 ?_
                                refine r_iadd X dL_law_518 ?_
                                obtain ⟨v116, hv116, hiv116, h⟩ := rdS_ex h
                                refine r_scd X hX hbl hbA V hiv116 (by omega) hv116 dL_law_519 ?_
                                refine r_aln X dL_law_520 rfl (lv_at hl 0 rfl) ?_
                                refine r_iln X dL_law_521 rfl (lv_at hl 3 rfl) ?_
                                refine r_ic X dL_law_522 ?_
                                refine r_iadd X dL_law_523 ?_
                                obtain ⟨v117, hv117, hiv117, h⟩ := rdS_ex h
                                refine r_scd X hX hbl hbA V hiv117 (by omega) hv117 dL_law_524 ?_
                                obtain ⟨v118, σ119, hv118, h⟩ := bd2_ex h
                                refine r_ki V (r_runV (As := [.int (iV v116), .int (iV v117)]) (rest := []) X Y V (c_X9_choice l G σ v116 v117 _ _  hv118) mv_X9_choice wd_642 ci_9 kd_0 ⟨rfl, rfl, Nat.le_of_ble_eq_true rfl, Nat.le_of_ble_eq_true rfl⟩ rfl rfl hl.1 (Nat.le_of_ble_eq_true rfl) ⟨Nat.le_of_ble_eq_true rfl, Nat.le_of_ble_eq_true rfl⟩ dL_law_525) (fun H locs V => ?_)
                                refine r_aln X dL_law_528 rfl (lv_at hl 2 rfl) ?_
                                refine r_aln X dL_law_529 rfl (lv_at hl 0 rfl) ?_
                                refine r_iln X dL_law_530 rfl (lv_at hl 3 rfl) ?_
                                refine r_ic X dL_law_531 ?_
                                refine r_iadd X dL_law_532 ?_
                                obtain ⟨v120, hv120, hiv120, h⟩ := rdS_ex h
                                refine r_scd X hX hbl hbA V hiv120 (by omega) hv120 dL_law_533 ?_
                                refine r_aln X dL_law_534 rfl (lv_at hl 0 rfl) ?_
                                refine r_iln X dL_law_535 rfl (lv_at hl 3 rfl) ?_
                                refine r_ic X dL_law_536 ?_
                                refine r_iadd X dL_law_537 ?_
                                obtain ⟨v121, hv121, hiv121, h⟩ := rdS_ex h
                                refine r_scd X hX hbl hbA V hiv121 (by omega) hv121 dL_law_538 ?_
                                obtain ⟨v122, σ123, hv122, h⟩ := bd2_ex h
                                refine r_ki V (r_runV (As := [.int (iV v120), .int (iV v121)]) (rest := [.int (iV v118)]) X Y V (c_X10_choice l G σ119 v120 v121 _ _  hv122) mv_X10_choice wd_1129 ci_10 kd_118 ⟨rfl, rfl, Nat.le_of_ble_eq_true rfl, Nat.le_of_ble_eq_true rfl⟩ rfl rfl hl.1 (Nat.le_of_ble_eq_true rfl) ⟨Nat.le_of_ble_eq_true rfl, Nat.le_of_ble_eq_true rfl⟩ dL_law_539) (fun H locs V => ?_)
                                refine r_ceq (cx := wI v118) (cy := wI v122) (tgt := 840) X rfl rfl dL_law_542 (by decide) (fun c124 => ?_) (fun c124 => ?_)
                                · replace h := ite_t c124 h
                                  refine r_inc (kk := 3) (lv' := [(3, .int (iV (x3 + 7))), (0, .ref b), (1, .ref (G.2.2.1 0)), (2, .ref (G.2.2.1 118))]) X dL_law_840 hl rfl (by decide) rfl (fun ls hl => ?_)
                                  refine r_goto (tgt := 18) X dL_law_843 (by decide) ?_
                                  exact ih σ123 (x3 + 7) _ _ _ V (lv_sub hl [1, 2, 3, 0] rfl) h
                                · replace h := ite_f c124 h
                                  refine r_ic X dL_law_545 ?_
                                  exact absurd (so2 h).1 (by decide)
                              · replace h := ite_f c115 h
                                by_cases c125 : wI (andI v2 31) = 13
                                · replace h := ite_t c125 h
                                  refine r_tbi (tgt := 547) X rfl dL_law_33 c125 (by decide) (by decide) rfl (by decide) ?_
                                  refine r_aln X dL_law_547 rfl (lv_at hl 1 rfl) ?_
                                  refine r_aln X dL_law_548 rfl (lv_at hl 0 rfl) ?_
                                  refine r_iln X dL_law_549 rfl (lv_at hl 3 rfl) ?_
                                  refine r_ic X dL_law_550 ?_
                                  refine r_iadd X dL_law_551 ?_
                                  obtain ⟨v126, hv126, hiv126, h⟩ := rdS_ex h
                                  refine r_scd X hX hbl hbA V hiv126 (by omega) hv126 dL_law_552 ?_
                                  obtain ⟨v127, σ128, hv127, h⟩ := bd2_ex h
                                  refine r_ki V (r_runV (As := [.int (iV v126)]) (rest := []) X Y V (c_X9_steps l G σ v126 _ _  hv127) mv_X9_steps wd_701 ci_9 kd_0 ⟨rfl, rfl, Nat.le_of_ble_eq_true rfl, Nat.le_of_ble_eq_true rfl⟩ rfl rfl hl.1 (Nat.le_of_ble_eq_true rfl) ⟨Nat.le_of_ble_eq_true rfl, Nat.le_of_ble_eq_true rfl⟩ dL_law_553) (fun H locs V => ?_)
                                  refine r_aln X dL_law_556 rfl (lv_at hl 2 rfl) ?_
                                  refine r_aln X dL_law_557 rfl (lv_at hl 0 rfl) ?_
                                  refine r_iln X dL_law_558 rfl (lv_at hl 3 rfl) ?_
                                  refine r_ic X dL_law_559 ?_
                                  refine r_iadd X dL_law_560 ?_
                                  obtain ⟨v129, hv129, hiv129, h⟩ := rdS_ex h
                                  refine r_scd X hX hbl hbA V hiv129 (by omega) hv129 dL_law_561 ?_
                                  obtain ⟨v130, σ131, hv130, h⟩ := bd2_ex h
                                  refine r_ki V (r_runV (As := [.int (iV v129)]) (rest := [.int (iV v127)]) X Y V (c_X10_steps l G σ128 v129 _ _  hv130) mv_X10_steps wd_1150 ci_10 kd_118 ⟨rfl, rfl, Nat.le_of_ble_eq_true rfl, Nat.le_of_ble_eq_true rfl⟩ rfl rfl hl.1 (Nat.le_of_ble_eq_true rfl) ⟨Nat.le_of_ble_eq_true rfl, Nat.le_of_ble_eq_true rfl⟩ dL_law_562) (fun H locs V => ?_)
                                  refine r_ceq (cx := wI v127) (cy := wI v130) (tgt := 840) X rfl rfl dL_law_565 (by decide) (fun c132 => ?_) (fun c132 => ?_)
                                  · replace h := ite_t c132 h
                                    refine r_inc (kk := 3) (lv' := [(3, .int (iV (x3 + 7))), (0, .ref b), (1, .ref (G.2.2.1 0)), (2, .ref (G.2.2.1 118))]) X dL_law_840 hl rfl (by decide) rfl (fun ls hl => ?_)
                                    refine r_goto (tgt := 18) X dL_law_843 (by decide) ?_
                                    exact ih σ131 (x3 + 7) _ _ _ V (lv_sub hl [1, 2, 3, 0] rfl) h
                                  · replace h := ite_f c132 h
                                    refine r_ic X dL_law_568 ?_
                                    exact absurd (so2 h).1 (by decide)
                                · replace h := ite_f c125 h
                                  by_cases c133 : wI (andI v2 31) = 14
                                  · replace h := ite_t c133 h
                                    refine r_tbi (tgt := 570) X rfl dL_law_33 c133 (by decide) (by decide) rfl (by decide) ?_
                                    refine r_aln X dL_law_570 rfl (lv_at hl 1 rfl) ?_
                                    refine r_aln X dL_law_571 rfl (lv_at hl 0 rfl) ?_
                                    refine r_iln X dL_law_572 rfl (lv_at hl 3 rfl) ?_
                                    refine r_ic X dL_law_573 ?_
                                    refine r_iadd X dL_law_574 ?_
                                    obtain ⟨v134, hv134, hiv134, h⟩ := rdS_ex h
                                    refine r_scd X hX hbl hbA V hiv134 (by omega) hv134 dL_law_575 ?_
                                    obtain ⟨v135, σ136, hv135, h⟩ := bd2_ex h
                                    refine r_ki V (r_runV (As := [.int (iV v134)]) (rest := []) X Y V (c_X9_tried l G σ v134 _ _  hv135) mv_X9_tried wd_705 ci_9 kd_0 ⟨rfl, rfl, Nat.le_of_ble_eq_true rfl, Nat.le_of_ble_eq_true rfl⟩ rfl rfl hl.1 (Nat.le_of_ble_eq_true rfl) ⟨Nat.le_of_ble_eq_true rfl, Nat.le_of_ble_eq_true rfl⟩ dL_law_576) (fun H locs V => ?_)
                                    refine r_aln X dL_law_579 rfl (lv_at hl 2 rfl) ?_
                                    refine r_aln X dL_law_580 rfl (lv_at hl 0 rfl) ?_
                                    refine r_iln X dL_law_581 rfl (lv_at hl 3 rfl) ?_
                                    refine r_ic X dL_law_582 ?_
                                    refine r_iadd X dL_law_583 ?_
                                    obtain ⟨v137, hv137, hiv137, h⟩ := rdS_ex h
                                    refine r_scd X hX hbl hbA V hiv137 (by omega) hv137 dL_law_584 ?_
                                    obtain ⟨v138, σ139, hv138, h⟩ := bd2_ex h
                                    refine r_ki V (r_runV (As := [.int (iV v137)]) (rest := [.int (iV v135)]) X Y V (c_X10_tried l G σ136 v137 _ _  hv138) mv_X10_tried wd_1154 ci_10 kd_118 ⟨rfl, rfl, Nat.le_of_ble_eq_true rfl, Nat.le_of_ble_eq_true rfl⟩ rfl rfl hl.1 (Nat.le_of_ble_eq_true rfl) ⟨Nat.le_of_ble_eq_true rfl, Nat.le_of_ble_eq_true rfl⟩ dL_law_585) (fun H locs V => ?_)
                                    refine r_ceq (cx := wI v135) (cy := wI v138) (tgt := 840) X rfl rfl dL_law_588 (by decide) (fun c140 => ?_) (fun c140 => ?_)
                                    · replace h := ite_t c140 h
                                      refine r_inc (kk := 3) (lv' := [(3, .int (iV (x3 + 7))), (0, .ref b), (1, .ref (G.2.2.1 0)), (2, .ref (G.2.2.1 118))]) X dL_law_840 hl rfl (by decide) rfl (fun ls hl => ?_)
                                      refine r_goto (tgt := 18) X dL_law_843 (by decide) ?_
                                      exact ih σ139 (x3 + 7) _ _ _ V (lv_sub hl [1, 2, 3, 0] rfl) h
                                    · replace h := ite_f c140 h
                                      refine r_ic X dL_law_591 ?_
                                      exact absurd (so2 h).1 (by decide)
                                  · replace h := ite_f c133 h
                                    by_cases c141 : wI (andI v2 31) = 15
                                    · replace h := ite_t c141 h
                                      refine r_tbi (tgt := 593) X rfl dL_law_33 c141 (by decide) (by decide) rfl (by decide) ?_
                                      refine r_aln X dL_law_593 rfl (lv_at hl 1 rfl) ?_
                                      refine r_aln X dL_law_594 rfl (lv_at hl 0 rfl) ?_
                                      refine r_iln X dL_law_595 rfl (lv_at hl 3 rfl) ?_
                                      refine r_ic X dL_law_596 ?_
                                      refine r_iadd X dL_law_597 ?_
                                      obtain ⟨v142, hv142, hiv142, h⟩ := rdS_ex h
                                      refine r_scd X hX hbl hbA V hiv142 (by omega) hv142 dL_law_598 ?_
                                      refine r_aln X dL_law_599 rfl (lv_at hl 0 rfl) ?_
                                      refine r_iln X dL_law_600 rfl (lv_at hl 3 rfl) ?_
                                      refine r_ic X dL_law_601 ?_
                                      refine r_iadd X dL_law_602 ?_
                                      obtain ⟨v143, hv143, hiv143, h⟩ := rdS_ex h
                                      refine r_scd X hX hbl hbA V hiv143 (by omega) hv143 dL_law_603 ?_
                                      obtain ⟨v144, σ145, hv144, h⟩ := bd2_ex h
                                      refine r_ki V (r_runV (As := [.int (iV v142), .int (iV v143)]) (rest := []) X Y V (c_X9_fit l G σ v142 v143 _ _  hv144) mv_X9_fit wd_709 ci_9 kd_0 ⟨rfl, rfl, Nat.le_of_ble_eq_true rfl, Nat.le_of_ble_eq_true rfl⟩ rfl rfl hl.1 (Nat.le_of_ble_eq_true rfl) ⟨Nat.le_of_ble_eq_true rfl, Nat.le_of_ble_eq_true rfl⟩ dL_law_604) (fun H locs V => ?_)
                                      refine r_aln X dL_law_607 rfl (lv_at hl 2 rfl) ?_
                                      refine r_aln X dL_law_608 rfl (lv_at hl 0 rfl) ?_
                                      refine r_iln X dL_law_609 rfl (lv_at hl 3 rfl) ?_
                                      refine r_ic X dL_law_610 ?_
                                      refine r_iadd X dL_law_611 ?_
                                      obtain ⟨v146, hv146, hiv146, h⟩ := rdS_ex h
                                      refine r_scd X hX hbl hbA V hiv146 (by omega) hv146 dL_law_612 ?_
                                      refine r_aln X dL_law_613 rfl (lv_at hl 0 rfl) ?_
                                      refine r_iln X dL_law_614 rfl (lv_at hl 3 rfl) ?_
                                      refine r_ic X dL_law_615 ?_
                                      refine r_iadd X dL_law_616 ?_
                                      obtain ⟨v147, hv147, hiv147, h⟩ := rdS_ex h
                                      refine r_scd X hX hbl hbA V hiv147 (by omega) hv147 dL_law_617 ?_
                                      obtain ⟨v148, σ149, hv148, h⟩ := bd2_ex h
                                      refine r_ki V (r_runV (As := [.int (iV v146), .int (iV v147)]) (rest := [.int (iV v144)]) X Y V (c_X10_fit l G σ145 v146 v147 _ _  hv148) mv_X10_fit wd_1158 ci_10 kd_118 ⟨rfl, rfl, Nat.le_of_ble_eq_true rfl, Nat.le_of_ble_eq_true rfl⟩ rfl rfl hl.1 (Nat.le_of_ble_eq_true rfl) ⟨Nat.le_of_ble_eq_true rfl, Nat.le_of_ble_eq_true rfl⟩ dL_law_618) (fun H locs V => ?_)
                                      refine r_ceq (cx := wI v144) (cy := wI v148) (tgt := 840) X rfl rfl dL_law_621 (by decide) (fun c150 => ?_) (fun c150 => ?_)
                                      · replace h := ite_t c150 h
                                        refine r_inc (kk := 3) (lv' := [(3, .int (iV (x3 + 7))), (0, .ref b), (1, .ref (G.2.2.1 0)), (2, .ref (G.2.2.1 118))]) X dL_law_840 hl rfl (by decide) rfl (fun ls hl => ?_)
                                        refine r_goto (tgt := 18) X dL_law_843 (by decide) ?_
                                        exact ih σ149 (x3 + 7) _ _ _ V (lv_sub hl [1, 2, 3, 0] rfl) h
                                      · replace h := ite_f c150 h
                                        refine r_ic X dL_law_624 ?_
                                        exact absurd (so2 h).1 (by decide)
                                    · replace h := ite_f c141 h
                                      by_cases c151 : wI (andI v2 31) = 16
                                      · replace h := ite_t c151 h
                                        refine r_tbi (tgt := 626) X rfl dL_law_33 c151 (by decide) (by decide) rfl (by decide) ?_
                                        refine r_aln X dL_law_626 rfl (lv_at hl 1 rfl) ?_
                                        refine r_aln X dL_law_627 rfl (lv_at hl 0 rfl) ?_
                                        refine r_iln X dL_law_628 rfl (lv_at hl 3 rfl) ?_
                                        refine r_ic X dL_law_629 ?_
                                        refine r_iadd X dL_law_630 ?_
                                        obtain ⟨v152, hv152, hiv152, h⟩ := rdS_ex h
                                        refine r_scd X hX hbl hbA V hiv152 (by omega) hv152 dL_law_631 ?_
                                        refine r_aln X dL_law_632 rfl (lv_at hl 0 rfl) ?_
                                        refine r_iln X dL_law_633 rfl (lv_at hl 3 rfl) ?_
                                        refine r_ic X dL_law_634 ?_
                                        refine r_iadd X dL_law_635 ?_
                                        obtain ⟨v153, hv153, hiv153, h⟩ := rdS_ex h
                                        refine r_scd X hX hbl hbA V hiv153 (by omega) hv153 dL_law_636 ?_
                                        obtain ⟨v154, σ155, hv154, h⟩ := bd2_ex h
                                        refine r_ki V (r_runV (As := [.int (iV v152), .int (iV v153)]) (rest := []) X Y V (c_X9_joint l G σ v152 v153 _ _  hv154) mv_X9_joint wd_726 ci_9 kd_0 ⟨rfl, rfl, Nat.le_of_ble_eq_true rfl, Nat.le_of_ble_eq_true rfl⟩ rfl rfl hl.1 (Nat.le_of_ble_eq_true rfl) ⟨Nat.le_of_ble_eq_true rfl, Nat.le_of_ble_eq_true rfl⟩ dL_law_637) (fun H locs V => ?_)
                                        refine r_aln X dL_law_640 rfl (lv_at hl 2 rfl) ?_
                                        refine r_aln X dL_law_641 rfl (lv_at hl 0 rfl) ?_
                                        refine r_iln X dL_law_642 rfl (lv_at hl 3 rfl) ?_
                                        refine r_ic X dL_law_643 ?_
                                        refine r_iadd X dL_law_644 ?_
                                        obtain ⟨v156, hv156, hiv156, h⟩ := rdS_ex h
                                        refine r_scd X hX hbl hbA V hiv156 (by omega) hv156 dL_law_645 ?_
                                        refine r_aln X dL_law_646 rfl (lv_at hl 0 rfl) ?_
                                        refine r_iln X dL_law_647 rfl (lv_at hl 3 rfl) ?_
                                        refine r_ic X dL_law_648 ?_
                                        refine r_iadd X dL_law_649 ?_
                                        obtain ⟨v157, hv157, hiv157, h⟩ := rdS_ex h
                                        refine r_scd X hX hbl hbA V hiv157 (by omega) hv157 dL_law_650 ?_
                                        obtain ⟨v158, σ159, hv158, h⟩ := bd2_ex h
                                        refine r_ki V (r_runV (As := [.int (iV v156), .int (iV v157)]) (rest := [.int (iV v154)]) X Y V (c_X10_joint l G σ155 v156 v157 _ _  hv158) mv_X10_joint wd_1169 ci_10 kd_118 ⟨rfl, rfl, Nat.le_of_ble_eq_true rfl, Nat.le_of_ble_eq_true rfl⟩ rfl rfl hl.1 (Nat.le_of_ble_eq_true rfl) ⟨Nat.le_of_ble_eq_true rfl, Nat.le_of_ble_eq_true rfl⟩ dL_law_651) (fun H locs V => ?_)
                                        refine r_ceq (cx := wI v154) (cy := wI v158) (tgt := 840) X rfl rfl dL_law_654 (by decide) (fun c160 => ?_) (fun c160 => ?_)
                                        · replace h := ite_t c160 h
                                          refine r_inc (kk := 3) (lv' := [(3, .int (iV (x3 + 7))), (0, .ref b), (1, .ref (G.2.2.1 0)), (2, .ref (G.2.2.1 118))]) X dL_law_840 hl rfl (by decide) rfl (fun ls hl => ?_)
                                          refine r_goto (tgt := 18) X dL_law_843 (by decide) ?_
                                          exact ih σ159 (x3 + 7) _ _ _ V (lv_sub hl [1, 2, 3, 0] rfl) h
                                        · replace h := ite_f c160 h
                                          refine r_ic X dL_law_657 ?_
                                          exact absurd (so2 h).1 (by decide)
                                      · replace h := ite_f c151 h
                                        by_cases c161 : wI (andI v2 31) = 17
                                        · replace h := ite_t c161 h
                                          refine r_tbi (tgt := 659) X rfl dL_law_33 c161 (by decide) (by decide) rfl (by decide) ?_
                                          refine r_aln X dL_law_659 rfl (lv_at hl 1 rfl) ?_
                                          obtain ⟨v162, σ163, hv162, h⟩ := bd2_ex h
                                          refine r_ki V (r_runV (As := []) (rest := []) X Y V (c_X9_cost l G σ  _ _  hv162) mv_X9_cost wd_734 ci_9 kd_0 ⟨rfl, rfl, Nat.le_of_ble_eq_true rfl, Nat.le_of_ble_eq_true rfl⟩ rfl rfl hl.1 (Nat.le_of_ble_eq_true rfl) ⟨Nat.le_of_ble_eq_true rfl, Nat.le_of_ble_eq_true rfl⟩ dL_law_660) (fun H locs V => ?_)
                                          refine r_aln X dL_law_663 rfl (lv_at hl 2 rfl) ?_
                                          obtain ⟨v164, σ165, hv164, h⟩ := bd2_ex h
                                          refine r_ki V (r_runV (As := []) (rest := [.int (iV v162)]) X Y V (c_X10_cost l G σ163  _ _  hv164) mv_X10_cost wd_1177 ci_10 kd_118 ⟨rfl, rfl, Nat.le_of_ble_eq_true rfl, Nat.le_of_ble_eq_true rfl⟩ rfl rfl hl.1 (Nat.le_of_ble_eq_true rfl) ⟨Nat.le_of_ble_eq_true rfl, Nat.le_of_ble_eq_true rfl⟩ dL_law_664) (fun H locs V => ?_)
                                          refine r_ceq (cx := wI v162) (cy := wI v164) (tgt := 840) X rfl rfl dL_law_667 (by decide) (fun c166 => ?_) (fun c166 => ?_)
                                          · replace h := ite_t c166 h
                                            refine r_inc (kk := 3) (lv' := [(3, .int (iV (x3 + 7))), (0, .ref b), (1, .ref (G.2.2.1 0)), (2, .ref (G.2.2.1 118))]) X dL_law_840 hl rfl (by decide) rfl (fun ls hl => ?_)
                                            refine r_goto (tgt := 18) X dL_law_843 (by decide) ?_
                                            exact ih σ165 (x3 + 7) _ _ _ V (lv_sub hl [1, 2, 3, 0] rfl) h
                                          · replace h := ite_f c166 h
                                            refine r_ic X dL_law_670 ?_
                                            exact absurd (so2 h).1 (by decide)
                                        · replace h := ite_f c161 h
                                          by_cases c167 : wI (andI v2 31) = 18
                                          · replace h := ite_t c167 h
                                            refine r_tbi (tgt := 672) X rfl dL_law_33 c167 (by decide) (by decide) rfl (by decide) ?_
                                            refine r_aln X dL_law_672 rfl (lv_at hl 1 rfl) ?_
                                            refine r_aln X dL_law_673 rfl (lv_at hl 0 rfl) ?_
                                            refine r_iln X dL_law_674 rfl (lv_at hl 3 rfl) ?_
                                            refine r_ic X dL_law_675 ?_
                                            refine r_iadd X dL_law_676 ?_
                                            obtain ⟨v168, hv168, hiv168, h⟩ := rdS_ex h
                                            refine r_scd X hX hbl hbA V hiv168 (by omega) hv168 dL_law_677 ?_
                                            obtain ⟨v169, σ170, hv169, h⟩ := bd2_ex h
                                            refine r_ki V (r_runV (As := [.int (iV v168)]) (rest := []) X Y V (c_X9_chain l G σ v168 _ _  hv169) mv_X9_chain wd_774 ci_9 kd_0 ⟨rfl, rfl, Nat.le_of_ble_eq_true rfl, Nat.le_of_ble_eq_true rfl⟩ rfl rfl hl.1 (Nat.le_of_ble_eq_true rfl) ⟨Nat.le_of_ble_eq_true rfl, Nat.le_of_ble_eq_true rfl⟩ dL_law_678) (fun H locs V => ?_)
                                            refine r_aln X dL_law_681 rfl (lv_at hl 2 rfl) ?_
                                            refine r_aln X dL_law_682 rfl (lv_at hl 0 rfl) ?_
                                            refine r_iln X dL_law_683 rfl (lv_at hl 3 rfl) ?_
                                            refine r_ic X dL_law_684 ?_
                                            refine r_iadd X dL_law_685 ?_
                                            obtain ⟨v171, hv171, hiv171, h⟩ := rdS_ex h
                                            refine r_scd X hX hbl hbA V hiv171 (by omega) hv171 dL_law_686 ?_
                                            obtain ⟨v172, σ173, hv172, h⟩ := bd2_ex h
                                            refine r_ki V (r_runV (As := [.int (iV v171)]) (rest := [.int (iV v169)]) X Y V (c_X10_chain l G σ170 v171 _ _  hv172) mv_X10_chain wd_1203 ci_10 kd_118 ⟨rfl, rfl, Nat.le_of_ble_eq_true rfl, Nat.le_of_ble_eq_true rfl⟩ rfl rfl hl.1 (Nat.le_of_ble_eq_true rfl) ⟨Nat.le_of_ble_eq_true rfl, Nat.le_of_ble_eq_true rfl⟩ dL_law_687) (fun H locs V => ?_)
                                            refine r_ceq (cx := wI v169) (cy := wI v172) (tgt := 840) X rfl rfl dL_law_690 (by decide) (fun c174 => ?_) (fun c174 => ?_)
                                            · replace h := ite_t c174 h
                                              refine r_inc (kk := 3) (lv' := [(3, .int (iV (x3 + 7))), (0, .ref b), (1, .ref (G.2.2.1 0)), (2, .ref (G.2.2.1 118))]) X dL_law_840 hl rfl (by decide) rfl (fun ls hl => ?_)
                                              refine r_goto (tgt := 18) X dL_law_843 (by decide) ?_
                                              exact ih σ173 (x3 + 7) _ _ _ V (lv_sub hl [1, 2, 3, 0] rfl) h
                                            · replace h := ite_f c174 h
                                              refine r_ic X dL_law_693 ?_
                                              exact absurd (so2 h).1 (by decide)
                                          · replace h := ite_f c167 h
                                            by_cases c175 : wI (andI v2 31) = 19
                                            · replace h := ite_t c175 h
                                              refine r_tbi (tgt := 695) X rfl dL_law_33 c175 (by decide) (by decide) rfl (by decide) ?_
                                              refine r_aln X dL_law_695 rfl (lv_at hl 1 rfl) ?_
                                              obtain ⟨v176, σ177, hv176, h⟩ := bd2_ex h
                                              refine r_ki V (r_runV (As := []) (rest := []) X Y V (c_X9_ways l G σ  _ _  hv176) mv_X9_ways wd_778 ci_9 kd_0 ⟨rfl, rfl, Nat.le_of_ble_eq_true rfl, Nat.le_of_ble_eq_true rfl⟩ rfl rfl hl.1 (Nat.le_of_ble_eq_true rfl) ⟨Nat.le_of_ble_eq_true rfl, Nat.le_of_ble_eq_true rfl⟩ dL_law_696) (fun H locs V => ?_)
                                              refine r_aln X dL_law_699 rfl (lv_at hl 2 rfl) ?_
                                              obtain ⟨v178, σ179, hv178, h⟩ := bd2_ex h
                                              refine r_ki V (r_runV (As := []) (rest := [.int (iV v176)]) X Y V (c_X10_ways l G σ177  _ _  hv178) mv_X10_ways wd_1215 ci_10 kd_118 ⟨rfl, rfl, Nat.le_of_ble_eq_true rfl, Nat.le_of_ble_eq_true rfl⟩ rfl rfl hl.1 (Nat.le_of_ble_eq_true rfl) ⟨Nat.le_of_ble_eq_true rfl, Nat.le_of_ble_eq_true rfl⟩ dL_law_700) (fun H locs V => ?_)
                                              refine r_ceq (cx := wI v176) (cy := wI v178) (tgt := 840) X rfl rfl dL_law_703 (by decide) (fun c180 => ?_) (fun c180 => ?_)
                                              · replace h := ite_t c180 h
                                                refine r_inc (kk := 3) (lv' := [(3, .int (iV (x3 + 7))), (0, .ref b), (1, .ref (G.2.2.1 0)), (2, .ref (G.2.2.1 118))]) X dL_law_840 hl rfl (by decide) rfl (fun ls hl => ?_)
                                                refine r_goto (tgt := 18) X dL_law_843 (by decide) ?_
                                                exact ih σ179 (x3 + 7) _ _ _ V (lv_sub hl [1, 2, 3, 0] rfl) h
                                              · replace h := ite_f c180 h
                                                refine r_ic X dL_law_706 ?_
                                                exact absurd (so2 h).1 (by decide)
                                            · replace h := ite_f c175 h
                                              by_cases c181 : wI (andI v2 31) = 20
                                              · replace h := ite_t c181 h
                                                refine r_tbi (tgt := 708) X rfl dL_law_33 c181 (by decide) (by decide) rfl (by decide) ?_
                                                refine r_aln X dL_law_708 rfl (lv_at hl 1 rfl) ?_
                                                obtain ⟨v182, σ183, hv182, h⟩ := bd2_ex h
                                                refine r_ki V (r_runV (As := []) (rest := []) X Y V (c_X9_next l G σ  _ _  hv182) mv_X9_next wd_786 ci_9 kd_0 ⟨rfl, rfl, Nat.le_of_ble_eq_true rfl, Nat.le_of_ble_eq_true rfl⟩ rfl rfl hl.1 (Nat.le_of_ble_eq_true rfl) ⟨Nat.le_of_ble_eq_true rfl, Nat.le_of_ble_eq_true rfl⟩ dL_law_709) (fun H locs V => ?_)
                                                refine r_aln X dL_law_712 rfl (lv_at hl 2 rfl) ?_
                                                obtain ⟨v184, σ185, hv184, h⟩ := bd2_ex h
                                                refine r_ki V (r_runV (As := []) (rest := [.int (iV v182)]) X Y V (c_X10_next l G σ183  _ _  hv184) mv_X10_next wd_1219 ci_10 kd_118 ⟨rfl, rfl, Nat.le_of_ble_eq_true rfl, Nat.le_of_ble_eq_true rfl⟩ rfl rfl hl.1 (Nat.le_of_ble_eq_true rfl) ⟨Nat.le_of_ble_eq_true rfl, Nat.le_of_ble_eq_true rfl⟩ dL_law_713) (fun H locs V => ?_)
                                                refine r_ceq (cx := wI v182) (cy := wI v184) (tgt := 840) X rfl rfl dL_law_716 (by decide) (fun c186 => ?_) (fun c186 => ?_)
                                                · replace h := ite_t c186 h
                                                  refine r_inc (kk := 3) (lv' := [(3, .int (iV (x3 + 7))), (0, .ref b), (1, .ref (G.2.2.1 0)), (2, .ref (G.2.2.1 118))]) X dL_law_840 hl rfl (by decide) rfl (fun ls hl => ?_)
                                                  refine r_goto (tgt := 18) X dL_law_843 (by decide) ?_
                                                  exact ih σ185 (x3 + 7) _ _ _ V (lv_sub hl [1, 2, 3, 0] rfl) h
                                                · replace h := ite_f c186 h
                                                  refine r_ic X dL_law_719 ?_
                                                  exact absurd (so2 h).1 (by decide)
                                              · replace h := ite_f c181 h
                                                by_cases c187 : wI (andI v2 31) = 21
                                                · replace h := ite_t c187 h
                                                  refine r_tbi (tgt := 721) X rfl dL_law_33 c187 (by decide) (by decide) rfl (by decide) ?_
                                                  refine r_aln X dL_law_721 rfl (lv_at hl 1 rfl) ?_
                                                  obtain ⟨v188, σ189, hv188, h⟩ := bd2_ex h
                                                  refine r_ki V (r_runV (As := []) (rest := []) X Y V (c_X9_dearest l G σ  _ _  hv188) mv_X9_dearest wd_795 ci_9 kd_0 ⟨rfl, rfl, Nat.le_of_ble_eq_true rfl, Nat.le_of_ble_eq_true rfl⟩ rfl rfl hl.1 (Nat.le_of_ble_eq_true rfl) ⟨Nat.le_of_ble_eq_true rfl, Nat.le_of_ble_eq_true rfl⟩ dL_law_722) (fun H locs V => ?_)
                                                  refine r_aln X dL_law_725 rfl (lv_at hl 2 rfl) ?_
                                                  obtain ⟨v190, σ191, hv190, h⟩ := bd2_ex h
                                                  refine r_ki V (r_runV (As := []) (rest := [.int (iV v188)]) X Y V (c_X10_dearest l G σ189  _ _  hv190) mv_X10_dearest wd_1223 ci_10 kd_118 ⟨rfl, rfl, Nat.le_of_ble_eq_true rfl, Nat.le_of_ble_eq_true rfl⟩ rfl rfl hl.1 (Nat.le_of_ble_eq_true rfl) ⟨Nat.le_of_ble_eq_true rfl, Nat.le_of_ble_eq_true rfl⟩ dL_law_726) (fun H locs V => ?_)
                                                  refine r_ceq (cx := wI v188) (cy := wI v190) (tgt := 840) X rfl rfl dL_law_729 (by decide) (fun c192 => ?_) (fun c192 => ?_)
                                                  · replace h := ite_t c192 h
                                                    refine r_inc (kk := 3) (lv' := [(3, .int (iV (x3 + 7))), (0, .ref b), (1, .ref (G.2.2.1 0)), (2, .ref (G.2.2.1 118))]) X dL_law_840 hl rfl (by decide) rfl (fun ls hl => ?_)
                                                    refine r_goto (tgt := 18) X dL_law_843 (by decide) ?_
                                                    exact ih σ191 (x3 + 7) _ _ _ V (lv_sub hl [1, 2, 3, 0] rfl) h
                                                  · replace h := ite_f c192 h
                                                    refine r_ic X dL_law_732 ?_
                                                    exact absurd (so2 h).1 (by decide)
                                                · replace h := ite_f c187 h
                                                  by_cases c193 : wI (andI v2 31) = 22
                                                  · replace h := ite_t c193 h
                                                    refine r_tbi (tgt := 734) X rfl dL_law_33 c193 (by decide) (by decide) rfl (by decide) ?_
                                                    refine r_aln X dL_law_734 rfl (lv_at hl 1 rfl) ?_
                                                    refine r_aln X dL_law_735 rfl (lv_at hl 0 rfl) ?_
                                                    refine r_iln X dL_law_736 rfl (lv_at hl 3 rfl) ?_
                                                    refine r_ic X dL_law_737 ?_
                                                    refine r_iadd X dL_law_738 ?_
                                                    obtain ⟨v194, hv194, hiv194, h⟩ := rdS_ex h
                                                    refine r_scd X hX hbl hbA V hiv194 (by omega) hv194 dL_law_739 ?_
                                                    obtain ⟨v195, σ196, hv195, h⟩ := bd2_ex h
                                                    refine r_ki V (r_runV (As := [.int (iV v194)]) (rest := []) X Y V (c_X9_without l G σ v194 _ _  hv195) mv_X9_without wd_803 ci_9 kd_0 ⟨rfl, rfl, Nat.le_of_ble_eq_true rfl, Nat.le_of_ble_eq_true rfl⟩ rfl rfl hl.1 (Nat.le_of_ble_eq_true rfl) ⟨Nat.le_of_ble_eq_true rfl, Nat.le_of_ble_eq_true rfl⟩ dL_law_740) (fun H locs V => ?_)
                                                    refine r_aln X dL_law_743 rfl (lv_at hl 2 rfl) ?_
                                                    refine r_aln X dL_law_744 rfl (lv_at hl 0 rfl) ?_
                                                    refine r_iln X dL_law_745 rfl (lv_at hl 3 rfl) ?_
                                                    refine r_ic X dL_law_746 ?_
                                                    refine r_iadd X dL_law_747 ?_
                                                    obtain ⟨v197, hv197, hiv197, h⟩ := rdS_ex h
                                                    refine r_scd X hX hbl hbA V hiv197 (by omega) hv197 dL_law_748 ?_
                                                    obtain ⟨v198, σ199, hv198, h⟩ := bd2_ex h
                                                    refine r_ki V (r_runV (As := [.int (iV v197)]) (rest := [.int (iV v195)]) X Y V (c_X10_without l G σ196 v197 _ _  hv198) mv_X10_without wd_1227 ci_10 kd_118 ⟨rfl, rfl, Nat.le_of_ble_eq_true rfl, Nat.le_of_ble_eq_true rfl⟩ rfl rfl hl.1 (Nat.le_of_ble_eq_true rfl) ⟨Nat.le_of_ble_eq_true rfl, Nat.le_of_ble_eq_true rfl⟩ dL_law_749) (fun H locs V => ?_)
                                                    refine r_ceq (cx := wI v195) (cy := wI v198) (tgt := 840) X rfl rfl dL_law_752 (by decide) (fun c200 => ?_) (fun c200 => ?_)
                                                    · replace h := ite_t c200 h
                                                      refine r_inc (kk := 3) (lv' := [(3, .int (iV (x3 + 7))), (0, .ref b), (1, .ref (G.2.2.1 0)), (2, .ref (G.2.2.1 118))]) X dL_law_840 hl rfl (by decide) rfl (fun ls hl => ?_)
                                                      refine r_goto (tgt := 18) X dL_law_843 (by decide) ?_
                                                      exact ih σ199 (x3 + 7) _ _ _ V (lv_sub hl [1, 2, 3, 0] rfl) h
                                                    · replace h := ite_f c200 h
                                                      refine r_ic X dL_law_755 ?_
                                                      exact absurd (so2 h).1 (by decide)
                                                  · replace h := ite_f c193 h
                                                    by_cases c201 : wI (andI v2 31) = 23
                                                    · replace h := ite_t c201 h
                                                      refine r_tbi (tgt := 757) X rfl dL_law_33 c201 (by decide) (by decide) rfl (by decide) ?_
                                                      refine r_aln X dL_law_757 rfl (lv_at hl 1 rfl) ?_
                                                      refine r_aln X dL_law_758 rfl (lv_at hl 0 rfl) ?_
                                                      refine r_iln X dL_law_759 rfl (lv_at hl 3 rfl) ?_
                                                      refine r_ic X dL_law_760 ?_
                                                      refine r_iadd X dL_law_761 ?_
                                                      obtain ⟨v202, hv202, hiv202, h⟩ := rdS_ex h
                                                      refine r_scd X hX hbl hbA V hiv202 (by omega) hv202 dL_law_762 ?_
                                                      obtain ⟨v203, σ204, hv203, h⟩ := bd2_ex h
                                                      refine r_ki V (r_runV (As := [.int (iV v202)]) (rest := []) X Y V (c_X9_about l G σ v202 _ _  hv203) mv_X9_about wd_807 ci_9 kd_0 ⟨rfl, rfl, Nat.le_of_ble_eq_true rfl, Nat.le_of_ble_eq_true rfl⟩ rfl rfl hl.1 (Nat.le_of_ble_eq_true rfl) ⟨Nat.le_of_ble_eq_true rfl, Nat.le_of_ble_eq_true rfl⟩ dL_law_763) (fun H locs V => ?_)
                                                      refine r_aln X dL_law_766 rfl (lv_at hl 2 rfl) ?_
                                                      refine r_aln X dL_law_767 rfl (lv_at hl 0 rfl) ?_
                                                      refine r_iln X dL_law_768 rfl (lv_at hl 3 rfl) ?_
                                                      refine r_ic X dL_law_769 ?_
                                                      refine r_iadd X dL_law_770 ?_
                                                      obtain ⟨v205, hv205, hiv205, h⟩ := rdS_ex h
                                                      refine r_scd X hX hbl hbA V hiv205 (by omega) hv205 dL_law_771 ?_
                                                      obtain ⟨v206, σ207, hv206, h⟩ := bd2_ex h
                                                      refine r_ki V (r_runV (As := [.int (iV v205)]) (rest := [.int (iV v203)]) X Y V (c_X10_about l G σ204 v205 _ _  hv206) mv_X10_about wd_1231 ci_10 kd_118 ⟨rfl, rfl, Nat.le_of_ble_eq_true rfl, Nat.le_of_ble_eq_true rfl⟩ rfl rfl hl.1 (Nat.le_of_ble_eq_true rfl) ⟨Nat.le_of_ble_eq_true rfl, Nat.le_of_ble_eq_true rfl⟩ dL_law_772) (fun H locs V => ?_)
                                                      refine r_ceq (cx := wI v203) (cy := wI v206) (tgt := 840) X rfl rfl dL_law_775 (by decide) (fun c208 => ?_) (fun c208 => ?_)
                                                      · replace h := ite_t c208 h
                                                        refine r_inc (kk := 3) (lv' := [(3, .int (iV (x3 + 7))), (0, .ref b), (1, .ref (G.2.2.1 0)), (2, .ref (G.2.2.1 118))]) X dL_law_840 hl rfl (by decide) rfl (fun ls hl => ?_)
                                                        refine r_goto (tgt := 18) X dL_law_843 (by decide) ?_
                                                        exact ih σ207 (x3 + 7) _ _ _ V (lv_sub hl [1, 2, 3, 0] rfl) h
                                                      · replace h := ite_f c208 h
                                                        refine r_ic X dL_law_778 ?_
                                                        exact absurd (so2 h).1 (by decide)
                                                    · replace h := ite_f c201 h
                                                      by_cases c209 : wI (andI v2 31) = 24
                                                      · replace h := ite_t c209 h
                                                        refine r_tbi (tgt := 780) X rfl dL_law_33 c209 (by decide) (by decide) rfl (by decide) ?_
                                                        refine r_aln X dL_law_780 rfl (lv_at hl 1 rfl) ?_
                                                        refine r_aln X dL_law_781 rfl (lv_at hl 0 rfl) ?_
                                                        refine r_iln X dL_law_782 rfl (lv_at hl 3 rfl) ?_
                                                        refine r_ic X dL_law_783 ?_
                                                        refine r_iadd X dL_law_784 ?_
                                                        obtain ⟨v210, hv210, hiv210, h⟩ := rdS_ex h
                                                        refine r_scd X hX hbl hbA V hiv210 (by omega) hv210 dL_law_785 ?_
                                                        obtain ⟨v211, σ212, hv211, h⟩ := bd2_ex h
                                                        refine r_ki V (r_runV (As := [.int (iV v210)]) (rest := []) X Y V (c_X9_cheapest l G σ v210 _ _  hv211) mv_X9_cheapest wd_828 ci_9 kd_0 ⟨rfl, rfl, Nat.le_of_ble_eq_true rfl, Nat.le_of_ble_eq_true rfl⟩ rfl rfl hl.1 (Nat.le_of_ble_eq_true rfl) ⟨Nat.le_of_ble_eq_true rfl, Nat.le_of_ble_eq_true rfl⟩ dL_law_786) (fun H locs V => ?_)
                                                        refine r_aln X dL_law_789 rfl (lv_at hl 2 rfl) ?_
                                                        refine r_aln X dL_law_790 rfl (lv_at hl 0 rfl) ?_
                                                        refine r_iln X dL_law_791 rfl (lv_at hl 3 rfl) ?_
                                                        refine r_ic X dL_law_792 ?_
                                                        refine r_iadd X dL_law_793 ?_
                                                        obtain ⟨v213, hv213, hiv213, h⟩ := rdS_ex h
                                                        refine r_scd X hX hbl hbA V hiv213 (by omega) hv213 dL_law_794 ?_
                                                        obtain ⟨v214, σ215, hv214, h⟩ := bd2_ex h
                                                        refine r_ki V (r_runV (As := [.int (iV v213)]) (rest := [.int (iV v211)]) X Y V (c_X10_cheapest l G σ212 v213 _ _  hv214) mv_X10_cheapest wd_1235 ci_10 kd_118 ⟨rfl, rfl, Nat.le_of_ble_eq_true rfl, Nat.le_of_ble_eq_true rfl⟩ rfl rfl hl.1 (Nat.le_of_ble_eq_true rfl) ⟨Nat.le_of_ble_eq_true rfl, Nat.le_of_ble_eq_true rfl⟩ dL_law_795) (fun H locs V => ?_)
                                                        refine r_ceq (cx := wI v211) (cy := wI v214) (tgt := 840) X rfl rfl dL_law_798 (by decide) (fun c216 => ?_) (fun c216 => ?_)
                                                        · replace h := ite_t c216 h
                                                          refine r_inc (kk := 3) (lv' := [(3, .int (iV (x3 + 7))), (0, .ref b), (1, .ref (G.2.2.1 0)), (2, .ref (G.2.2.1 118))]) X dL_law_840 hl rfl (by decide) rfl (fun ls hl => ?_)
                                                          refine r_goto (tgt := 18) X dL_law_843 (by decide) ?_
                                                          exact ih σ215 (x3 + 7) _ _ _ V (lv_sub hl [1, 2, 3, 0] rfl) h
                                                        · replace h := ite_f c216 h
                                                          refine r_ic X dL_law_801 ?_
                                                          exact absurd (so2 h).1 (by decide)
                                                      · replace h := ite_f c209 h
                                                        by_cases c217 : wI (andI v2 31) = 25
                                                        · replace h := ite_t c217 h
                                                          refine r_tbi (tgt := 803) X rfl dL_law_33 c217 (by decide) (by decide) rfl (by decide) ?_
                                                          refine r_aln X dL_law_803 rfl (lv_at hl 1 rfl) ?_
                                                          refine r_aln X dL_law_804 rfl (lv_at hl 0 rfl) ?_
                                                          refine r_iln X dL_law_805 rfl (lv_at hl 3 rfl) ?_
                                                          refine r_ic X dL_law_806 ?_
                                                          refine r_iadd X dL_law_807 ?_
                                                          obtain ⟨v218, hv218, hiv218, h⟩ := rdS_ex h
                                                          refine r_scd X hX hbl hbA V hiv218 (by omega) hv218 dL_law_808 ?_
                                                          obtain ⟨v219, σ220, hv219, h⟩ := bd2_ex h
                                                          refine r_ki V (r_runV (As := [.int (iV v218)]) (rest := []) X Y V (c_X9_told l G σ v218 _ _  hv219) mv_X9_told wd_833 ci_9 kd_0 ⟨rfl, rfl, Nat.le_of_ble_eq_true rfl, Nat.le_of_ble_eq_true rfl⟩ rfl rfl hl.1 (Nat.le_of_ble_eq_true rfl) ⟨Nat.le_of_ble_eq_true rfl, Nat.le_of_ble_eq_true rfl⟩ dL_law_809) (fun H locs V => ?_)
                                                          refine r_aln X dL_law_812 rfl (lv_at hl 2 rfl) ?_
                                                          refine r_aln X dL_law_813 rfl (lv_at hl 0 rfl) ?_
                                                          refine r_iln X dL_law_814 rfl (lv_at hl 3 rfl) ?_
                                                          refine r_ic X dL_law_815 ?_
                                                          refine r_iadd X dL_law_816 ?_
                                                          obtain ⟨v221, hv221, hiv221, h⟩ := rdS_ex h
                                                          refine r_scd X hX hbl hbA V hiv221 (by omega) hv221 dL_law_817 ?_
                                                          obtain ⟨v222, σ223, hv222, h⟩ := bd2_ex h
                                                          refine r_ki V (r_runV (As := [.int (iV v221)]) (rest := [.int (iV v219)]) X Y V (c_X10_told l G σ220 v221 _ _  hv222) mv_X10_told wd_1239 ci_10 kd_118 ⟨rfl, rfl, Nat.le_of_ble_eq_true rfl, Nat.le_of_ble_eq_true rfl⟩ rfl rfl hl.1 (Nat.le_of_ble_eq_true rfl) ⟨Nat.le_of_ble_eq_true rfl, Nat.le_of_ble_eq_true rfl⟩ dL_law_818) (fun H locs V => ?_)
                                                          refine r_ceq (cx := wI v219) (cy := wI v222) (tgt := 840) X rfl rfl dL_law_821 (by decide) (fun c224 => ?_) (fun c224 => ?_)
                                                          · replace h := ite_t c224 h
                                                            refine r_inc (kk := 3) (lv' := [(3, .int (iV (x3 + 7))), (0, .ref b), (1, .ref (G.2.2.1 0)), (2, .ref (G.2.2.1 118))]) X dL_law_840 hl rfl (by decide) rfl (fun ls hl => ?_)
                                                            refine r_goto (tgt := 18) X dL_law_843 (by decide) ?_
                                                            exact ih σ223 (x3 + 7) _ _ _ V (lv_sub hl [1, 2, 3, 0] rfl) h
                                                          · replace h := ite_f c224 h
                                                            refine r_ic X dL_law_824 ?_
                                                            exact absurd (so2 h).1 (by decide)
                                                        · replace h := ite_f c217 h
                                                          by_cases c225 : wI (andI v2 31) = 26
                                                          · replace h := ite_t c225 h
                                                            refine r_tbi (tgt := 826) X rfl dL_law_33 c225 (by decide) (by decide) rfl (by decide) ?_
                                                            refine r_aln X dL_law_826 rfl (lv_at hl 1 rfl) ?_
                                                            obtain ⟨v226, σ227, hv226, h⟩ := bd2_ex h
                                                            refine r_kl V (r_runV (As := []) (rest := []) X Y V (c_X9_digest l G σ  _ _  hv226) mv_X9_digest wd_837 ci_9 kd_0 ⟨rfl, rfl, Nat.le_of_ble_eq_true rfl, Nat.le_of_ble_eq_true rfl⟩ rfl rfl hl.1 (Nat.le_of_ble_eq_true rfl) ⟨Nat.le_of_ble_eq_true rfl, Nat.le_of_ble_eq_true rfl⟩ dL_law_827) (fun H locs V => ?_)
                                                            refine r_aln X dL_law_830 rfl (lv_at hl 2 rfl) ?_
                                                            obtain ⟨v228, σ229, hv228, h⟩ := bd2_ex h
                                                            refine r_kl V (r_runV (As := []) (rest := [.long (lV v226)]) X Y V (c_X10_digest l G σ227  _ _  hv228) mv_X10_digest wd_1247 ci_10 kd_118 ⟨rfl, rfl, Nat.le_of_ble_eq_true rfl, Nat.le_of_ble_eq_true rfl⟩ rfl rfl hl.1 (Nat.le_of_ble_eq_true rfl) ⟨Nat.le_of_ble_eq_true rfl, Nat.le_of_ble_eq_true rfl⟩ dL_law_831) (fun H locs V => ?_)
                                                            refine r_lcmp X dL_law_834 ?_
                                                            refine r_eq (cx := cmpL v226 v228) (tgt := 840) X (wI_cmp _ _) dL_law_835 (by decide) (fun c230 => ?_) (fun c230 => ?_)
                                                            · replace h := ite_t c230 h
                                                              refine r_inc (kk := 3) (lv' := [(3, .int (iV (x3 + 7))), (0, .ref b), (1, .ref (G.2.2.1 0)), (2, .ref (G.2.2.1 118))]) X dL_law_840 hl rfl (by decide) rfl (fun ls hl => ?_)
                                                              refine r_goto (tgt := 18) X dL_law_843 (by decide) ?_
                                                              exact ih σ229 (x3 + 7) _ _ _ V (lv_sub hl [1, 2, 3, 0] rfl) h
                                                            · replace h := ite_f c230 h
                                                              refine r_ic X dL_law_838 ?_
                                                              exact absurd (so2 h).1 (by decide)
                                                          · replace h := ite_f c225 h
                                                            refine r_tbo (tgt := 840) X rfl dL_law_33 (by omega) (by decide) ?_
                                                            refine r_inc (kk := 3) (lv' := [(3, .int (iV (x3 + 7))), (0, .ref b), (1, .ref (G.2.2.1 0)), (2, .ref (G.2.2.1 118))]) X dL_law_840 hl rfl (by decide) rfl (fun ls hl => ?_)
                                                            refine r_goto (tgt := 18) X dL_law_843 (by decide) ?_
                                                            exact ih σ (x3 + 7) _ _ _ V (lv_sub hl [1, 2, 3, 0] rfl) h

set_option maxRecDepth 100000 in
set_option maxHeartbeats 4000000 in
theorem c_L_law {p : Program} {l : Launch} {e : Env} {s : State} {m : MethodId} {below : List Frame} {meth : Method} {c : Code} {G : UG} {b L : Nat} {xs : Nat → Int32} (hX : va_X b L xs s s.heap) (hbl : b < s.heap.size) (hbA : ¬ uvA G b) (hnew : ∀ q, uvA G q → s.heap.size ≤ q) (hL : L ≤ 3584) (X : uvCx p m c cL_law 4 RL s #[Value.ref b] meth ret) (Y : uvGd G s s.heap) (σ σ' : St) (H : Heap) (locs : List Loc) (ls : Array Slot) (V : uvWo G σ s H locs) (hl : lv_has ls 4 [(2, .ref (G.2.2.1 118)), (1, .ref (G.2.2.1 0)), (0, .ref b)]) (h : f_L_law L xs σ = some (1, σ')) : W p l e room_1 s m #[Value.ref b] below meth c H locs 142 7156 (lw_Z below #[Value.ref b] s) (F0 m 16 ls []) := by
  unfold f_L_law at h
  refine r_ic X dL_law_16 ?_
  refine r_isn (lv' := [(3, .int (iV 0)), (2, .ref (G.2.2.1 118)), (1, .ref (G.2.2.1 0)), (0, .ref b)]) X dL_law_17 rfl hl (by decide) rfl (fun ls hl => ?_)
  refine wl_L_law_18 hX hbl hbA hnew hL X Y   σ' _ (fun σ231  H locs ls V hl h => ?_) 600 σ 0 _ _ _ V (lv_sub hl [3, 2, 1, 0] rfl) h
  refine r_ic X dL_law_846 ?_
  refine va_forget (fun q hq => hnew q.base (V.2.2.2 q hq)) ?_
  refine W.widen (k := 600000) (n := 7302250) (Nat.le_of_ble_eq_true rfl) (Nat.le_of_ble_eq_true rfl) ?_
  exact lw_ret X.1 X.2.1 X.2.2.2.2.2.1 X.2.2.2.2.2.2 dL_law_847

