set_option maxHeartbeats 4000000 in
set_option maxRecDepth 100000 in
/-- THE LAW, from its entry -/
theorem whole_start {p : Program} {e : Env} {s : State} {m : MethodId} {below : List Frame} {meth : Method} {c : Code} (l : Launch) (hflags : l.flags = flags0) {b L : Nat} {xs : Nat → Int32} (hL : L ≤ 3584) (C0 : lw_At p s m meth c b L xs) : W p l e room_1 s m #[Value.ref b] below meth c s.heap [] 0 0 (lw_Z below #[Value.ref b] s) (entryFrame m ([Value.ref b] : List Value).toArray 4) := by
  obtain ⟨hx, hb, hr, hml, hown, hts, hX, hbl, hlocks, hgv⟩ := id C0
  have htsT : ∀ w ∈ TB, w.before #[Value.ref b] s = true := fun w h => hts w (List.mem_filter.mp h).1
  have hs := flat_of_before _ hgv
  have X : uvCx p m c cL_law 4 RL s #[Value.ref b] meth ret := ⟨hx, hb, hml, hown, htsT, hr, hlocks⟩
  obtain ⟨cI, kI, compI, hI1, hI2, hI3⟩ := Cond.arrayClass_spec (htsT _ wd_85)
  have hCO : va_AO "UnitVoices$Choice" s := va_AO.of (hts _ (List.mem_of_getElem? (i := 266) (by decide +kernel)))
  obtain ⟨compC, cC, kC, hC1, hC2, hC3, hC4, hC5⟩ := Cond.arrayOver_spec hCO
  have hTO : va_AO "UnitVoices$Tally" s := va_AO.of (hts _ (List.mem_of_getElem? (i := 334) (by decide +kernel)))
  obtain ⟨compT, cT, kT, hT1, hT2, hT3, hT4, hT5⟩ := Cond.arrayOver_spec hTO
  obtain ⟨d0, iS0, hKn0⟩ := u_known (C := RX0) (T := TX0) (N := 7) (n := 7) htsT li_0 (htsT _ wd_266)
  obtain ⟨d1, iS1, hKn1⟩ := u_known (C := RX1) (T := TX1) (N := 4) (n := 4) htsT li_1 (htsT _ wd_205)
  obtain ⟨d2, iS2, hKn2⟩ := u_known (C := RX2) (T := TX2) (N := 6) (n := 6) htsT li_2 (htsT _ wd_198)
  obtain ⟨d3, iS3, hKn3⟩ := u_known (C := RX3) (T := TX3) (N := 2) (n := 2) htsT li_3 (htsT _ wd_253)
  obtain ⟨d4, iS4, hKn4⟩ := u_known (C := RX4) (T := TX4) (N := 4) (n := 4) htsT li_4 (htsT _ wd_87)
  obtain ⟨d5, iS5, hKn5⟩ := u_known (C := RX5) (T := TX5) (N := 5) (n := 5) htsT li_5 (htsT _ wd_273)
  obtain ⟨d6, iS6, hKn6⟩ := u_known (C := RX6) (T := TX6) (N := 7) (n := 7) htsT li_6 (htsT _ wd_162)
  obtain ⟨d7, iS7, hKn7⟩ := u_known (C := RX7) (T := TX7) (N := 9) (n := 9) htsT li_7 (htsT _ wd_118)
  obtain ⟨d8, iS8, hKn8⟩ := u_known (C := RX8) (T := TX8) (N := 9) (n := 9) htsT li_8 (htsT _ wd_27)
  obtain ⟨d9, iS9, hKn9⟩ := u_known (C := RX9) (T := TX9) (N := 12) (n := 12) htsT li_9 (htsT _ wd_19)
  obtain ⟨d10, iS10, hKn10⟩ := u_known (C := RX10) (T := TX10) (N := 40) (n := 40) htsT li_10 (htsT _ wd_848)
  obtain ⟨ad, had⟩ : ∃ ad : Int → Nat, ∀ k : Int, ad k = s.heap.size + k.toNat := ⟨_, fun _ => rfl⟩
  have hA0 : ∀ a : Nat, a < s.heap.size → ¬ (∃ k : Nat, k < uvNN ∧ ad k = a) := by
    intro a ha ⟨k, _, hk⟩
    have := had k
    omega
  obtain ⟨adK, adV, hvS, hvE⟩ := vk_Sof (args := #[Value.ref b]) (s := s) (N := 2) (tm := fun i => if i = 0 then Term.string "UnitVoices$Text" 63 else Term.string "UnitVoices$Text" 84) (len := [3, 4]) (byt := [[114, 111, 119], [116, 114, 101, 101]]) (A := fun q => ∃ k : Nat, k < uvNN ∧ ad k = q)
    (fun i hi => by rcases nat2 hi with rfl | rfl <;> decide)
    (fun i hi => by rcases nat2 hi with rfl | rfl <;> exact hs _ (by decide +kernel))
    (fun i hi => by rcases nat2 hi with rfl | rfl <;> exact hs _ (by decide +kernel))
    (fun i hi => by rcases nat2 hi with rfl | rfl <;> exact hs _ (by decide +kernel))
    (fun i hi => by rcases nat2 hi with rfl | rfl <;> exact hs _ (by decide +kernel))
    (fun i hi j hj => by
      rcases nat2 hi with rfl | rfl
      · have hj3 : j < 3 := hj
        have : j = 0 ∨ j = 1 ∨ j = 2 := by omega
        rcases this with rfl | rfl | rfl <;> exact hs _ (by decide +kernel)
      · have hj4 : j < 4 := hj
        have : j = 0 ∨ j = 1 ∨ j = 2 ∨ j = 3 := by omega
        rcases this with rfl | rfl | rfl | rfl <;> exact hs _ (by decide +kernel))
    (fun i j hi hj hij => by
      rcases nat2 hi with rfl | rfl <;> rcases nat2 hj with rfl | rfl
      · exact absurd rfl hij
      · exact Or.inl (hs _ (by decide +kernel))
      · exact Or.inr (hs _ (by decide +kernel))
      · exact absurd rfl hij) hA0
  obtain ⟨G, hG⟩ : ∃ G : UG, G = ((fun k => ([d0, d1, d2, d3, d4, d5, d6, d7, d8, d9, d10] : List ClassId).getD k d0, fun k => ([iS0, iS1, iS2, iS3, iS4, iS5, iS6, iS7, iS8, iS9, iS10] : List (Nat → Nat)).getD k iS0), (fun k => ([cI, cC, cT] : List ClassId).getD k cI), ad, adK, adV) := ⟨_, rfl⟩
  have hK : va_K G.1 uvCl (uvTy G) s := by
    subst hG
    refine ⟨fun k q hq => ?_, fun k q hq => ?_⟩
    · match k, hq with
      | 0, hq => cases hq; exact hKn0
      | 1, hq => cases hq; exact hKn1
      | 2, hq => cases hq; exact hKn2
      | 3, hq => cases hq; exact hKn3
      | 4, hq => cases hq; exact hKn4
      | 5, hq => cases hq; exact hKn5
      | 6, hq => cases hq; exact hKn6
      | 7, hq => cases hq; exact hKn7
      | 8, hq => cases hq; exact hKn8
      | 9, hq => cases hq; exact hKn9
      | 10, hq => cases hq; exact hKn10
      | k + 11, hq => simp [uvCl] at hq
    · match k, hq with
      | 0, hq => cases hq; exact ⟨fun n z => ⟨fun k h => (by cases h), kI, hI2, compI, hI3⟩, hI1⟩
      | 1, hq => cases hq; exact ⟨fun n z => ⟨fun k h => (by cases h), kC, hC3, compC, hC4⟩, kC, compC, hC3, hC4, hC1, hC5⟩
      | 2, hq => cases hq; exact ⟨fun n z => ⟨fun k h => (by cases h), kT, hT3, compT, hT4⟩, kT, compT, hT3, hT4, hT1, hT5⟩
      | k + 3, hq => simp [uvTy] at hq
  have hadG : ∀ k : Nat, G.2.2.1 k = s.heap.size + k := by
    intro k
    rw [hG]
    show ad k = _
    rw [had]
    simp
  have had0 : G.2.2.1 0 = s.heap.size := hadG 0
  have Yk : uvGk G s := ⟨hK, fun k => by rw [hadG, had0], ⟨hCO, hTO⟩, va_Nw.of rfl (hts _ (List.mem_of_getElem? (i := 150) (by decide +kernel))), va_Nw.of rfl (hts _ (List.mem_of_getElem? (i := 225) (by decide +kernel))), va_Nw.of rfl (hts _ (List.mem_of_getElem? (i := 230) (by decide +kernel))), va_Nw.of rfl (hts _ (List.mem_of_getElem? (i := 268) (by decide +kernel)))⟩
  have hnew : ∀ q, uvA G q → s.heap.size ≤ q := by
    intro q ⟨k, _, hk⟩
    have := hadG k
    omega
  have hbA : ¬ uvA G b := fun h => by have := hnew b h; omega
  have hAe : uvA G = fun q => ∃ k : Nat, k < uvNN ∧ ad k = q := by rw [hG]; rfl
  have hAl : ∀ a : Nat, a < s.heap.size → ¬ uvA G a := fun a ha h => by have := hnew a h; omega
  have hvS' : vk_S 2 [3, 4] [[114, 111, 119], [116, 114, 101, 101]] G.2.2.2.1 G.2.2.2.2 (uvA G) s s.heap := by rw [hAe, hG]; exact hvS
  have hE0 : (Term.string "UnitVoices$Text" 63).eval #[] s none [] s = some (.ref (G.2.2.2.1 0)) := by rw [hG]; exact hvE 0 (by decide)
  have hE1 : (Term.string "UnitVoices$Text" 84).eval #[] s none [] s = some (.ref (G.2.2.2.1 1)) := by rw [hG]; exact hvE 1 (by decide)
  have hZq : ∃ v : Value, (v = .null ∨ ∃ a, v = .ref a) ∧ va_Z "jdk/internal/util/Preconditions" "SIOOBE_FORMATTER" "Ljava/util/function/BiFunction;" v (uvA G) s s.heap := by
    rcases va_Zqof (A := uvA G) (hts (.laysStatic "jdk/internal/util/Preconditions" "SIOOBE_FORMATTER" "Ljava/util/function/BiFunction;") (List.mem_of_getElem? (i := 564) (by decide +kernel))) (htsT _ wd_15) (hs _ (by decide +kernel)) hAl with h | ⟨t, h⟩
    · exact ⟨_, Or.inl rfl, h⟩
    · exact ⟨_, Or.inr ⟨t, rfl⟩, h⟩
  have Y : uvGd G s s.heap := by
    refine ⟨hK, ?_, ⟨⟨hts (.stringRef "UnitVoices$Text" 63 "row") (List.mem_of_getElem? (i := 530) (by decide +kernel)), hE0⟩, ⟨hts (.stringRef "UnitVoices$Text" 84 "tree") (List.mem_of_getElem? (i := 604) (by decide +kernel)), hE1⟩, va_Nw.of rfl (hts _ (List.mem_of_getElem? (i := 458) (by decide +kernel))), va_Nw.of rfl (hts _ (List.mem_of_getElem? (i := 587) (by decide +kernel)))⟩, hvS', va_Zof (hts (.laysStatic "java/lang/String" "COMPACT_STRINGS" "Z") (List.mem_of_getElem? (i := 544) (by decide +kernel))) (htsT _ wd_13) (va_eqi (hs _ (by decide +kernel))) hAl, hZq⟩
    intro i j _ _ hij
    rw [hadG, hadG] at hij
    omega
  have hl := lv_entry ([.ref b]) (n := 4) (Nat.le_of_ble_eq_true rfl)
  rw [lg_entry_eq]
  generalize (lg_sl ([.ref b]) ++ List.replicate (4 - (lg_sl ([.ref b])).length) Slot.unset).toArray = ls at hl ⊢
  have hl : lv_has ls 4 [(0, .ref b)] := hl
  have V : uvWk G 0 st_0 s s.heap [] := ⟨fun k q h => by simp [uvWs] at h, va_S.rf, by rw [had0]; rfl⟩
  refine k_new X Yk V ci_9 kd_0 (zst_n z_0) (zst_r z_0) df_9 wd_18 wd_19 wd_1 (Nat.le_of_ble_eq_true rfl) (Nat.le_of_ble_eq_true rfl) dL_law_0 (fun H V => ?_)
  refine r_dup X dL_law_3 rfl ?_
  refine k_kv V (k_runI (nn := 0) (As := []) (rest := [.ref (G.2.2.1 0)]) (o := 0) X Yk V (ki_X9_init_0 l G) rfl wi_X9 (by decide +kernel) wd_20 ⟨⟨rfl, rfl⟩, ⟨Nat.le_of_ble_eq_true rfl, Nat.le_of_ble_eq_true rfl⟩, Nat.le_of_ble_eq_true rfl, Nat.le_of_ble_eq_true rfl⟩ rfl rfl hl.1 (Nat.le_of_ble_eq_true rfl) dL_law_4) (fun H locs V => ?_)
  refine r_asn (lv' := [(1, .ref (G.2.2.1 0)), (0, .ref b)]) X dL_law_7 rfl hl (by decide) rfl (fun ls hl => ?_)
  refine k_new X Yk V ci_10 kd_118 (zst_n (zst_mono z_162 (by decide))) (zst_r (zst_mono z_162 (by decide))) df_10 wd_847 wd_848 wd_12 (Nat.le_of_ble_eq_true rfl) (Nat.le_of_ble_eq_true rfl) dL_law_8 (fun H V => ?_)
  refine r_dup X dL_law_11 rfl ?_
  refine k_kv V (k_runI (nn := 0) (As := []) (rest := [.ref (G.2.2.1 118)]) (o := 118) X Yk V (ki_X10_init_162 l G) rfl wi_X10 (by decide +kernel) wd_849 ⟨⟨rfl, rfl⟩, ⟨Nat.le_of_ble_eq_true rfl, Nat.le_of_ble_eq_true rfl⟩, Nat.le_of_ble_eq_true rfl, Nat.le_of_ble_eq_true rfl⟩ rfl rfl hl.1 (Nat.le_of_ble_eq_true rfl) dL_law_12) (fun H locs V => ?_)
  refine r_asn (lv' := [(2, .ref (G.2.2.1 118)), (1, .ref (G.2.2.1 0)), (0, .ref b)]) X dL_law_15 rfl hl (by decide) rfl (fun ls hl => ?_)
  refine va_forget (fun q hq => by have h9 : G.2.2.1 0 ≤ q.base := V.2.1.2.2 q hq; omega) ?_
  have V2 : uvWo G st_193 s H [] := ⟨uvWs_end G H V.1, V.2.1.1, fun q h1 h2 => V.2.1.2.1 q h1 (fun h9 => by have h9 : G.2.2.1 0 ≤ q := h9; omega), fun _ h => by cases h⟩
  obtain ⟨σ', hσ⟩ := pure_law L xs hL
  exact c_L_law hX hbl hbA hnew hL X Y st_193 σ' H [] ls V2 hl hσ
set_option maxHeartbeats 4000000 in
theorem lw_walk (l : Launch) (hflags : l.flags = flags0) (b : Addr) (xs : List Int32) : MetFree l x (headSpec (Jvm.Cond.code x code maxLocals ret :: tables_1) room_1) (lw_P b xs) (fun _ _ _ _ _ => True) lw_Q := by
  refine MetFree.of_bodyS (code := code) (maxLocals := maxLocals) (ret := ret) (by decide) ?_ ?_
  · intro args s m h hn
    obtain ⟨meth, c, h1, h2, h3, h4, h5, h6, -, -⟩ := Cond.code_spec hn (atoms_spec (ws := Jvm.Cond.code x code maxLocals ret :: tables_1) h _ List.mem_cons_self)
    exact ⟨meth, c, h1, h2, h3, h4, h5, h6⟩
  · intro p e s m args below meth c s₁ B hml0 hP _
    obtain ⟨rfl, hx, hbd, hgv⟩ := hP
    obtain ⟨scr, harrAt, hlist, hof, hsmall⟩ := hx
    obtain ⟨hcb, hkn, -, -⟩ := State.arrayAt?_spec harrAt
    have hown : s.vm.findClass R_law = some m.cls := findClass_of_methodNamed B.named
    have hts0 : ∀ c ∈ (Jvm.Cond.code x code maxLocals ret :: tables_1), c.before #[Value.ref b] s = true := atoms_spec (ws := Jvm.Cond.code x code maxLocals ret :: tables_1) B.pre
    have hts : ∀ w ∈ lw_tbl, w.before #[Value.ref b] s = true := k2_hts_sels lw_privs (fun w hw => hts0 w (List.mem_cons_of_mem _ hw)) lw_privs_ok
    have hml : c.maxLocals = 4 := B.maxLocals_eq (hts0 _ List.mem_cons_self)
    have X₀ : Stand p l e room_1 s m #[Value.ref b] below meth c s₁ [] 0 0 := Stand.of_body B
    have hh0 : s₁.heap = s.heap := by rw [B.state]; rfl
    have hsz : scr.slots.size = xs.length := by rw [← Array.length_toList, hlist, List.length_map]
    have hval : ∀ j : Nat, j < xs.length → scr.slots[j]? = some (.int (xs.getD j 0)) := fun j hj => by
      rw [← Array.getElem?_toList, hlist]
      simp [hj]
    have hbl : b < s.heap.size := (Array.getElem?_eq_some_iff.mp hcb).1
    have hX : va_X b xs.length (fun j => xs.getD j 0) s s.heap := ⟨scr, hcb, hof, hkn, hsz, hval⟩
    have K : W p l e room_1 s m #[Value.ref b] below meth c s₁.heap [] 0 0 (lw_Z below #[Value.ref b] s) (entryFrame m ([Value.ref b] : List Value).toArray 4) := by
      rw [hh0]
      exact whole_start l hflags hbd ⟨B.exec, B.bytes, B.returns, hml, hown, hts, hX, hbl, B.notSynchronized, hgv⟩
    obtain ⟨t, a1, o, b1, b2, b3⟩ := K s₁ rfl X₀
    exact ⟨t, o, a1, b1, b2, b3⟩
theorem lw_pre_spec {args : Array Value} {s : State} (h : (Jvm.Cond.and given_1 narrow_1).before args s = true) (hr : rest_1_c.before args s = true) : ∃ (b : Addr) (xs : List Int32), lw_P b xs args s := by
  have hs := flat_of_before _ h
  have hq := flat_of_before _ hr
  have hc : (Cond.count 1).before args s = true := hs _ (by decide +kernel)
  have harr : (Cond.arrayOf (.arg 0) .int).before args s = true := hs _ (by decide +kernel)
  have hle : (Cond.le (.length (.arg 0)) (.int 3584)).before args s = true := hs _ (by decide +kernel)
  have hlen : (Cond.isInt (.length (.arg 0))).before args s = true := hq _ (by decide +kernel)
  have hall : (Cond.all (.arg 0) (.isInt (.elem (.arg 0) (.index 0)))).before args s = true := hq _ (by decide +kernel)
  obtain ⟨b, xs, hb, hx⟩ := State.ints_of_pre rfl harr hlen hall
  have hsm : xs.length < 2 ^ 31 := hx.choose_spec.2.2.2
  have hev : (Term.length (.arg 0)).eval args s none [] s = some (.int xs.length.toInt32) := hx.length_eval hb
  have hv := Cond.le_ints hev (show (Term.int 3584).eval args s none [] s = some (.int 3584) from rfl)
  have hd : xs.length.toInt32 ≤ 3584 := by
    simpa [Cond.before, Cond.holds, hv] using hle
  have hN : xs.length ≤ 3584 := (Int32.ofNat_le_ofNat hsm (by decide)).mp (show Int32.ofNat xs.length ≤ Int32.ofNat 3584 from hd)
  exact ⟨b, xs, Cond.one_arg hc (show args[0]? = some (.ref b) from hb), hx, hN, h⟩
theorem lw_comes (l : Launch) (hflags : l.flags = flags0) : Comes l x (Jvm.Cond.code x code maxLocals ret :: tables_1) room_1 (fun tb e args s => Calls_1 tb e args s ∧ rest_1 tb e args s ∧ Pre_1 tb e args s)
    (fun _ _ args s o t => lw_Q args s o t) := by
  intro p e ha hc hk s m args below hf hfit hheap happ hpre
  obtain ⟨b, xs, hP⟩ := lw_pre_spec hpre.2.2 hpre.2.1
  obtain ⟨k, o, h1, h2, h3, hQ⟩ := lw_walk l hflags b xs p e ha hc hk s m args below hf ((Spec.applies_iff_loose hf).mp happ).1 hP trivial
  exact ⟨k, o, h1, h2, h3, hQ⟩
theorem lw_frame {s t : State} {o : Outcome} {args : Array Value} (h : Framed s o t [] 600000 7302250) :
    Framed s o t (fieldLocs frame_1_writes args s ++ arrayLocs frame_1_arrays args s ++ staticLocs frame_1_statics s) 600000 7302250 := h
theorem lw_limb (L : Cond) (hL : ∀ (args : Array Value) (s t : State), L.after args s (.returned (some (.int 1))) t = true) :
    ArmFor flags0 classFile x code maxLocals ret World_1 tables_1 room_1 Calls_1 rest_1 Pre_1
      (fun tb e a s o t => postC L tb e a s o t ∧ Framed s o t (fieldLocs frame_1_writes a s ++ arrayLocs frame_1_arrays a s ++ staticLocs frame_1_statics s) 600000 7302250) := by
  intro l hflags _ _ p e ha hc hk s m args below hf hfit hheap happ hpre
  obtain ⟨k, o, h1, h2, h3, rfl, hF⟩ := lw_comes l hflags p e ha hc hk s m args below hf hfit hheap happ hpre
  exact ⟨k, _, h1, h2, h3, hL args s _, lw_frame hF⟩
theorem i_vc : Claimed_1_1 ∧ Claimed_1_2 := ⟨lw_limb limb_1_1 (fun args s t => by simp [limb_1_1, Cond.after, Cond.holds, Cond.value]), lw_limb limb_1_2 (fun args s t => Cond.after_iff.mpr (by
  first | (rw [show limb_1_2 = Cond.eq .result (.int 1) from rfl, Cond.eq_ints (x := 1) (y := 1) rfl rfl]; simp; done) | (simp [limb_1_2, Cond.value, Term.eval]; done)))⟩
