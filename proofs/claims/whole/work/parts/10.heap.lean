theorem li_0 : ∀ w ∈ u_ws RX0 TX0 7, w ∈ TB := List.forall_mem_cons.mpr ⟨tb_in (i := 381) (by decide +kernel) rfl, List.forall_mem_cons.mpr ⟨tb_in (i := 383) (by decide +kernel) rfl, List.forall_mem_cons.mpr ⟨tb_in (i := 385) (by decide +kernel) rfl, List.forall_mem_cons.mpr ⟨tb_in (i := 387) (by decide +kernel) rfl, List.forall_mem_cons.mpr ⟨tb_in (i := 389) (by decide +kernel) rfl, List.forall_mem_cons.mpr ⟨tb_in (i := 391) (by decide +kernel) rfl, List.forall_mem_cons.mpr ⟨tb_in (i := 393) (by decide +kernel) rfl, fun _ h => absurd h List.not_mem_nil⟩⟩⟩⟩⟩⟩⟩
theorem li_1 : ∀ w ∈ u_ws RX1 TX1 4, w ∈ TB := List.forall_mem_cons.mpr ⟨tb_in (i := 285) (by decide +kernel) rfl, List.forall_mem_cons.mpr ⟨tb_in (i := 287) (by decide +kernel) rfl, List.forall_mem_cons.mpr ⟨tb_in (i := 289) (by decide +kernel) rfl, List.forall_mem_cons.mpr ⟨tb_in (i := 291) (by decide +kernel) rfl, fun _ h => absurd h List.not_mem_nil⟩⟩⟩⟩
theorem li_2 : ∀ w ∈ u_ws RX2 TX2 6, w ∈ TB := List.forall_mem_cons.mpr ⟨tb_in (i := 301) (by decide +kernel) rfl, List.forall_mem_cons.mpr ⟨tb_in (i := 303) (by decide +kernel) rfl, List.forall_mem_cons.mpr ⟨tb_in (i := 305) (by decide +kernel) rfl, List.forall_mem_cons.mpr ⟨tb_in (i := 307) (by decide +kernel) rfl, List.forall_mem_cons.mpr ⟨tb_in (i := 309) (by decide +kernel) rfl, List.forall_mem_cons.mpr ⟨tb_in (i := 311) (by decide +kernel) rfl, fun _ h => absurd h List.not_mem_nil⟩⟩⟩⟩⟩⟩
theorem li_3 : ∀ w ∈ u_ws RX3 TX3 2, w ∈ TB := List.forall_mem_cons.mpr ⟨tb_in (i := 322) (by decide +kernel) rfl, List.forall_mem_cons.mpr ⟨tb_in (i := 324) (by decide +kernel) rfl, fun _ h => absurd h List.not_mem_nil⟩⟩
theorem li_4 : ∀ w ∈ u_ws RX4 TX4 4, w ∈ TB := List.forall_mem_cons.mpr ⟨tb_in (i := 170) (by decide +kernel) rfl, List.forall_mem_cons.mpr ⟨tb_in (i := 172) (by decide +kernel) rfl, List.forall_mem_cons.mpr ⟨tb_in (i := 174) (by decide +kernel) rfl, List.forall_mem_cons.mpr ⟨tb_in (i := 176) (by decide +kernel) rfl, fun _ h => absurd h List.not_mem_nil⟩⟩⟩⟩
theorem li_5 : ∀ w ∈ u_ws RX5 TX5 5, w ∈ TB := List.forall_mem_cons.mpr ⟨tb_in (i := 353) (by decide +kernel) rfl, List.forall_mem_cons.mpr ⟨tb_in (i := 355) (by decide +kernel) rfl, List.forall_mem_cons.mpr ⟨tb_in (i := 357) (by decide +kernel) rfl, List.forall_mem_cons.mpr ⟨tb_in (i := 359) (by decide +kernel) rfl, List.forall_mem_cons.mpr ⟨tb_in (i := 361) (by decide +kernel) rfl, fun _ h => absurd h List.not_mem_nil⟩⟩⟩⟩⟩
theorem li_6 : ∀ w ∈ u_ws RX6 TX6 7, w ∈ TB := List.forall_mem_cons.mpr ⟨tb_in (i := 244) (by decide +kernel) rfl, List.forall_mem_cons.mpr ⟨tb_in (i := 246) (by decide +kernel) rfl, List.forall_mem_cons.mpr ⟨tb_in (i := 248) (by decide +kernel) rfl, List.forall_mem_cons.mpr ⟨tb_in (i := 250) (by decide +kernel) rfl, List.forall_mem_cons.mpr ⟨tb_in (i := 252) (by decide +kernel) rfl, List.forall_mem_cons.mpr ⟨tb_in (i := 254) (by decide +kernel) rfl, List.forall_mem_cons.mpr ⟨tb_in (i := 256) (by decide +kernel) rfl, fun _ h => absurd h List.not_mem_nil⟩⟩⟩⟩⟩⟩⟩
theorem li_7 : ∀ w ∈ u_ws RX7 TX7 9, w ∈ TB := List.forall_mem_cons.mpr ⟨tb_in (i := 204) (by decide +kernel) rfl, List.forall_mem_cons.mpr ⟨tb_in (i := 206) (by decide +kernel) rfl, List.forall_mem_cons.mpr ⟨tb_in (i := 208) (by decide +kernel) rfl, List.forall_mem_cons.mpr ⟨tb_in (i := 210) (by decide +kernel) rfl, List.forall_mem_cons.mpr ⟨tb_in (i := 212) (by decide +kernel) rfl, List.forall_mem_cons.mpr ⟨tb_in (i := 214) (by decide +kernel) rfl, List.forall_mem_cons.mpr ⟨tb_in (i := 216) (by decide +kernel) rfl, List.forall_mem_cons.mpr ⟨tb_in (i := 218) (by decide +kernel) rfl, List.forall_mem_cons.mpr ⟨tb_in (i := 220) (by decide +kernel) rfl, fun _ h => absurd h List.not_mem_nil⟩⟩⟩⟩⟩⟩⟩⟩⟩
theorem li_8 : ∀ w ∈ u_ws RX8 TX8 9, w ∈ TB := List.forall_mem_cons.mpr ⟨tb_in (i := 128) (by decide +kernel) rfl, List.forall_mem_cons.mpr ⟨tb_in (i := 130) (by decide +kernel) rfl, List.forall_mem_cons.mpr ⟨tb_in (i := 132) (by decide +kernel) rfl, List.forall_mem_cons.mpr ⟨tb_in (i := 134) (by decide +kernel) rfl, List.forall_mem_cons.mpr ⟨tb_in (i := 136) (by decide +kernel) rfl, List.forall_mem_cons.mpr ⟨tb_in (i := 138) (by decide +kernel) rfl, List.forall_mem_cons.mpr ⟨tb_in (i := 140) (by decide +kernel) rfl, List.forall_mem_cons.mpr ⟨tb_in (i := 142) (by decide +kernel) rfl, List.forall_mem_cons.mpr ⟨tb_in (i := 144) (by decide +kernel) rfl, fun _ h => absurd h List.not_mem_nil⟩⟩⟩⟩⟩⟩⟩⟩⟩
theorem li_9 : ∀ w ∈ u_ws RX9 TX9 12, w ∈ TB := List.forall_mem_cons.mpr ⟨tb_in (i := 408) (by decide +kernel) rfl, List.forall_mem_cons.mpr ⟨tb_in (i := 410) (by decide +kernel) rfl, List.forall_mem_cons.mpr ⟨tb_in (i := 412) (by decide +kernel) rfl, List.forall_mem_cons.mpr ⟨tb_in (i := 414) (by decide +kernel) rfl, List.forall_mem_cons.mpr ⟨tb_in (i := 416) (by decide +kernel) rfl, List.forall_mem_cons.mpr ⟨tb_in (i := 418) (by decide +kernel) rfl, List.forall_mem_cons.mpr ⟨tb_in (i := 420) (by decide +kernel) rfl, List.forall_mem_cons.mpr ⟨tb_in (i := 422) (by decide +kernel) rfl, List.forall_mem_cons.mpr ⟨tb_in (i := 424) (by decide +kernel) rfl, List.forall_mem_cons.mpr ⟨tb_in (i := 426) (by decide +kernel) rfl, List.forall_mem_cons.mpr ⟨tb_in (i := 428) (by decide +kernel) rfl, List.forall_mem_cons.mpr ⟨tb_in (i := 430) (by decide +kernel) rfl, fun _ h => absurd h List.not_mem_nil⟩⟩⟩⟩⟩⟩⟩⟩⟩⟩⟩⟩
theorem li_10 : ∀ w ∈ u_ws RX10 TX10 40, w ∈ TB := List.forall_mem_cons.mpr ⟨tb_in (i := 955) (by decide +kernel) rfl, List.forall_mem_cons.mpr ⟨tb_in (i := 957) (by decide +kernel) rfl, List.forall_mem_cons.mpr ⟨tb_in (i := 959) (by decide +kernel) rfl, List.forall_mem_cons.mpr ⟨tb_in (i := 961) (by decide +kernel) rfl, List.forall_mem_cons.mpr ⟨tb_in (i := 963) (by decide +kernel) rfl, List.forall_mem_cons.mpr ⟨tb_in (i := 965) (by decide +kernel) rfl, List.forall_mem_cons.mpr ⟨tb_in (i := 967) (by decide +kernel) rfl, List.forall_mem_cons.mpr ⟨tb_in (i := 969) (by decide +kernel) rfl, List.forall_mem_cons.mpr ⟨tb_in (i := 971) (by decide +kernel) rfl, List.forall_mem_cons.mpr ⟨tb_in (i := 973) (by decide +kernel) rfl, List.forall_mem_cons.mpr ⟨tb_in (i := 975) (by decide +kernel) rfl, List.forall_mem_cons.mpr ⟨tb_in (i := 977) (by decide +kernel) rfl, List.forall_mem_cons.mpr ⟨tb_in (i := 979) (by decide +kernel) rfl, List.forall_mem_cons.mpr ⟨tb_in (i := 981) (by decide +kernel) rfl, List.forall_mem_cons.mpr ⟨tb_in (i := 983) (by decide +kernel) rfl, List.forall_mem_cons.mpr ⟨tb_in (i := 985) (by decide +kernel) rfl, List.forall_mem_cons.mpr ⟨tb_in (i := 987) (by decide +kernel) rfl, List.forall_mem_cons.mpr ⟨tb_in (i := 989) (by decide +kernel) rfl, List.forall_mem_cons.mpr ⟨tb_in (i := 991) (by decide +kernel) rfl, List.forall_mem_cons.mpr ⟨tb_in (i := 993) (by decide +kernel) rfl, List.forall_mem_cons.mpr ⟨tb_in (i := 995) (by decide +kernel) rfl, List.forall_mem_cons.mpr ⟨tb_in (i := 997) (by decide +kernel) rfl, List.forall_mem_cons.mpr ⟨tb_in (i := 999) (by decide +kernel) rfl, List.forall_mem_cons.mpr ⟨tb_in (i := 1001) (by decide +kernel) rfl, List.forall_mem_cons.mpr ⟨tb_in (i := 1003) (by decide +kernel) rfl, List.forall_mem_cons.mpr ⟨tb_in (i := 1005) (by decide +kernel) rfl, List.forall_mem_cons.mpr ⟨tb_in (i := 1007) (by decide +kernel) rfl, List.forall_mem_cons.mpr ⟨tb_in (i := 1009) (by decide +kernel) rfl, List.forall_mem_cons.mpr ⟨tb_in (i := 1011) (by decide +kernel) rfl, List.forall_mem_cons.mpr ⟨tb_in (i := 1013) (by decide +kernel) rfl, List.forall_mem_cons.mpr ⟨tb_in (i := 1015) (by decide +kernel) rfl, List.forall_mem_cons.mpr ⟨tb_in (i := 1017) (by decide +kernel) rfl, List.forall_mem_cons.mpr ⟨tb_in (i := 1019) (by decide +kernel) rfl, List.forall_mem_cons.mpr ⟨tb_in (i := 1021) (by decide +kernel) rfl, List.forall_mem_cons.mpr ⟨tb_in (i := 1023) (by decide +kernel) rfl, List.forall_mem_cons.mpr ⟨tb_in (i := 1025) (by decide +kernel) rfl, List.forall_mem_cons.mpr ⟨tb_in (i := 1027) (by decide +kernel) rfl, List.forall_mem_cons.mpr ⟨tb_in (i := 1029) (by decide +kernel) rfl, List.forall_mem_cons.mpr ⟨tb_in (i := 1031) (by decide +kernel) rfl, List.forall_mem_cons.mpr ⟨tb_in (i := 1033) (by decide +kernel) rfl, fun _ h => absurd h List.not_mem_nil⟩⟩⟩⟩⟩⟩⟩⟩⟩⟩⟩⟩⟩⟩⟩⟩⟩⟩⟩⟩⟩⟩⟩⟩⟩⟩⟩⟩⟩⟩⟩⟩⟩⟩⟩⟩⟩⟩⟩⟩
def uvCI (ci : Nat) (C : String) (T : u_T) (N : Nat) (ty : Nat → FieldType) : Prop := uvCl[ci]? = some (C, T, N) ∧ (∀ w ∈ u_ws C T N, w ∈ TB) ∧ (∀ k, k < N → parseFieldDescriptor (T k).2.2.1 = some (ty k)) ∧ (∀ a, a < N → ∀ b, b < N → a ≠ b → (T a).2.1 ≠ (T b).2.1) ∧ uvNf ci = N ∧ ci < 11
theorem ci_0 : uvCI 0 RX0 TX0 7 tyX0 := ⟨rfl, li_0, tyX0_ok, nmX0, rfl, by decide⟩
theorem ci_1 : uvCI 1 RX1 TX1 4 tyX1 := ⟨rfl, li_1, tyX1_ok, nmX1, rfl, by decide⟩
theorem ci_2 : uvCI 2 RX2 TX2 6 tyX2 := ⟨rfl, li_2, tyX2_ok, nmX2, rfl, by decide⟩
theorem ci_3 : uvCI 3 RX3 TX3 2 tyX3 := ⟨rfl, li_3, tyX3_ok, nmX3, rfl, by decide⟩
theorem ci_4 : uvCI 4 RX4 TX4 4 tyX4 := ⟨rfl, li_4, tyX4_ok, nmX4, rfl, by decide⟩
theorem ci_5 : uvCI 5 RX5 TX5 5 tyX5 := ⟨rfl, li_5, tyX5_ok, nmX5, rfl, by decide⟩
theorem ci_6 : uvCI 6 RX6 TX6 7 tyX6 := ⟨rfl, li_6, tyX6_ok, nmX6, rfl, by decide⟩
theorem ci_7 : uvCI 7 RX7 TX7 9 tyX7 := ⟨rfl, li_7, tyX7_ok, nmX7, rfl, by decide⟩
theorem ci_8 : uvCI 8 RX8 TX8 9 tyX8 := ⟨rfl, li_8, tyX8_ok, nmX8, rfl, by decide⟩
theorem ci_9 : uvCI 9 RX9 TX9 12 tyX9 := ⟨rfl, li_9, tyX9_ok, nmX9, rfl, by decide⟩
theorem ci_10 : uvCI 10 RX10 TX10 40 tyX10 := ⟨rfl, li_10, tyX10_ok, nmX10, rfl, by decide⟩

theorem uvFs_at {ad : Int → Nat} {σ : St} {ρ : Int → Int → Option Int} {o : Int} {ci k : Nat} (h : k < uvNf ci) : (uvFs ad σ ρ o ci)[k]? = some (if uvIr ci k = true then va_rf ((ρ o k).map ad) else .int (iV (σ o k))) := by
  simp [uvFs, h]
theorem uvCe_ob {G : UG} {σ : St} {ρ : Int → Int → Option Int} {o : Int} {ci : Nat} (h : uvKd o = ci) (hc : ci < 11) : uvCe G σ ρ o = .inr (ci, uvFs G.2.2.1 σ ρ o ci) := by
  subst h
  simp [uvCe, hc]
theorem uvCe_ar {G : UG} {σ : St} {ρ : Int → Int → Option Int} {o : Int} (h : uvKd o = 11) : uvCe G σ ρ o = .inl (G.2.1 0, uvLn o, .inl (fun i => iV (σ o i))) := by
  simp [uvCe, h]
theorem uvCe_rr {G : UG} {σ : St} {ρ : Int → Int → Option Int} {o : Int} {t : Nat} (h : uvKd o = 11 + t) (ht : 0 < t) : uvCe G σ ρ o = .inl (G.2.1 t, uvLn o, .inr (.inr (.inr (.inr (fun i => (ρ o i).map G.2.2.1))))) := by
  have h1 : ¬ uvKd o < 11 := by omega
  have h2 : ¬ uvKd o = 11 := by omega
  have h3 : uvKd o - 11 = t := by omega
  simp only [uvCe, if_neg h1, if_neg h2, h3]
/-! ===== heap rows ===== -/
section UVH
variable {p : Program} {l : Launch} {e : Env} {R : Room} {s : State} {m : MethodId} {args : Array Value} {below : List Frame} {meth : Method} {c : Code} {H : Heap} {locs : List Loc} {cells slots : Nat} {Q : State → Prop}
variable {cc : ByteArray} {nL : Nat} {own : String} {rt : Option FieldType} {pc : Nat} {ls : Array Slot} {rest : List Value} {G : UG} {σ σ' : St}
theorem r_gi (X : uvCx p m c cc nL own s args meth rt) (Y : uvGd G s s.heap) (V : uvWo G σ s H locs) {ci N : Nat} {C : String} {T : u_T} {ty : Nat → FieldType} (I : uvCI ci C T N ty) {o kI : Int} (ho : uvKd o = ci) (k : Nat) {index : Nat} (hkI : (k : Int) = kI) (hk : k < N) (hi : uvIr ci k = false) (hT : (T k).1 = C) (hw : Cond.fieldLink own index C (T k).2.1 (T k).2.2.1 ∈ TB) (d : decode cc pc = .ok (.getfield index, 3))
    (kk : W p l e R s m args below meth c H locs cells slots Q (F0 m (pc + 3) ls (.int (iV (σ o kI)) :: rest))) : W p l e R s m args below meth c H locs cells slots Q (F0 m pc ls (.ref (G.2.2.1 o) :: rest)) := by
  obtain ⟨i1, i2, i3, i4, i5, i6⟩ := I
  subst hkI
  have hin := uvKd_in ho (by omega)
  have he := uvWs_at (G := G) (n := uvNN) (σ := σ) (ρ := uvR0) hin
  rw [uvCe_ob ho i6] at he
  exact va_get X.1 X.2.1 X.2.2.2.2.1 i2 X.2.2.2.1 Y.1 V.1 o.toNat he i1 k hk (X.2.2.2.2.1 _ hw) (by rw [hT]; exact fun _ h => h) (v := .int (iV (σ o k))) (by rw [uvFs_at (by omega), if_neg (by rw [hi]; decide)]) d kk
theorem r_gr (X : uvCx p m c cc nL own s args meth rt) (Y : uvGd G s s.heap) (V : uvWo G σ s H locs) {ci N : Nat} {C : String} {T : u_T} {ty : Nat → FieldType} (I : uvCI ci C T N ty) {o o' kI : Int} (ho : uvKd o = ci) (k : Nat) {index : Nat} (hkI : (k : Int) = kI) (hr : uvRf o kI = o') (hk : k < N) (hi : uvIr ci k = true) (hT : (T k).1 = C) (hw : Cond.fieldLink own index C (T k).2.1 (T k).2.2.1 ∈ TB) (d : decode cc pc = .ok (.getfield index, 3))
    (kk : W p l e R s m args below meth c H locs cells slots Q (F0 m (pc + 3) ls (.ref (G.2.2.1 o') :: rest))) : W p l e R s m args below meth c H locs cells slots Q (F0 m pc ls (.ref (G.2.2.1 o) :: rest)) := by
  obtain ⟨i1, i2, i3, i4, i5, i6⟩ := I
  subst hkI
  have hin := uvKd_in ho (by omega)
  have he := uvWs_at (G := G) (n := uvNN) (σ := σ) (ρ := uvR0) hin
  rw [uvCe_ob ho i6] at he
  exact va_get X.1 X.2.1 X.2.2.2.2.1 i2 X.2.2.2.1 Y.1 V.1 o.toNat he i1 k hk (X.2.2.2.2.1 _ hw) (by rw [hT]; exact fun _ h => h) (v := .ref (G.2.2.1 o')) (by rw [uvFs_at (by omega), if_pos hi]; simp [uvR0, hr, va_rf]) d kk
theorem r_px (X : uvCx p m c cc nL own s args meth rt) (Y : uvGd G s s.heap) (V : uvWo G σ s H locs) {ci N : Nat} {C : String} {T : u_T} {ty : Nat → FieldType} (I : uvCI ci C T N ty) {o kI x : Int} (ho : uvKd o = ci) (k : Nat) {index : Nat} {t : FieldType} (hkI : (k : Int) = kI) (hk : k < N) (hi : uvIr ci k = false) (hT : (T k).1 = C) (hf : (T k).2.2.2 = false) (ht : parseFieldDescriptor (T k).2.2.1 = some t) (hn : narrow t (.int (iV x)) = .int (iV x)) (hfit : fits t (.int (iV x)) = true) (hw : Cond.fieldLink own index C (T k).2.1 (T k).2.2.1 ∈ TB) (hσ : σ' = upS σ o kI x) (d : decode cc pc = .ok (.putfield index, 3))
    (kk : ∀ (H1 : Heap) (locs1 : List Loc), uvWo G σ' s H1 locs1 → W p l e R s m args below meth c H1 locs1 cells slots Q (F0 m (pc + 3) ls rest)) : W p l e R s m args below meth c H locs cells slots Q (F0 m pc ls (.int (iV x) :: .ref (G.2.2.1 o) :: rest)) := by
  obtain ⟨i1, i2, i3, i4, i5, i6⟩ := I
  subst hkI; subst hσ
  have hin := uvKd_in ho (by omega)
  have he := uvWs_at (G := G) (n := uvNN) (σ := σ) (ρ := uvR0) hin
  rw [uvCe_ob ho i6] at he
  refine va_put (A := uvA G) X.1 X.2.1 X.2.2.2.2.1 i2 ty i3 i4 X.2.2.2.1 Y.1 V.1 (uvD Y.2.1 σ uvR0) V.2 o.toNat he i1 k hk (X.2.2.2.2.1 _ hw) (by rw [hT]; exact fun _ h => h) hf (v := .int (iV x)) ht hn hfit (by simp [uvFs]; omega) d (fun H1 locs1 hP hD hS => kk H1 locs1 ⟨?_, hS⟩)
  subst ho
  rw [uvWs_upF hin i6 hi] at hP
  exact hP
theorem r_pi (X : uvCx p m c cc nL own s args meth rt) (Y : uvGd G s s.heap) (V : uvWo G σ s H locs) {ci N : Nat} {C : String} {T : u_T} {ty : Nat → FieldType} (I : uvCI ci C T N ty) {o kI x : Int} (ho : uvKd o = ci) (k : Nat) {index : Nat} (hkI : (k : Int) = kI) (hk : k < N) (hi : uvIr ci k = false) (hT : (T k).1 = C) (hf : (T k).2.2.2 = false) (ht : parseFieldDescriptor (T k).2.2.1 = some .int) (hw : Cond.fieldLink own index C (T k).2.1 (T k).2.2.1 ∈ TB) (hσ : σ' = upS σ o kI x) (d : decode cc pc = .ok (.putfield index, 3))
    (kk : ∀ (H1 : Heap) (locs1 : List Loc), uvWo G σ' s H1 locs1 → W p l e R s m args below meth c H1 locs1 cells slots Q (F0 m (pc + 3) ls rest)) : W p l e R s m args below meth c H locs cells slots Q (F0 m pc ls (.int (iV x) :: .ref (G.2.2.1 o) :: rest)) :=
  r_px X Y V I ho k hkI hk hi hT hf ht rfl rfl hw hσ d kk
theorem nz_bool {x : Int} (h : x = 0 ∨ x = 1) : narrow .boolean (.int (iV x)) = .int (iV x) ∧ fits .boolean (.int (iV x)) = true := by
  rcases h with rfl | rfl
  · exact ⟨rfl, rfl⟩
  · exact ⟨rfl, rfl⟩
theorem r_pz (X : uvCx p m c cc nL own s args meth rt) (Y : uvGd G s s.heap) (V : uvWo G σ s H locs) {ci N : Nat} {C : String} {T : u_T} {ty : Nat → FieldType} (I : uvCI ci C T N ty) {o kI x : Int} (ho : uvKd o = ci) (k : Nat) {index : Nat} (hx : x = 0 ∨ x = 1) (hkI : (k : Int) = kI) (hk : k < N) (hi : uvIr ci k = false) (hT : (T k).1 = C) (hf : (T k).2.2.2 = false) (ht : parseFieldDescriptor (T k).2.2.1 = some .boolean) (hw : Cond.fieldLink own index C (T k).2.1 (T k).2.2.1 ∈ TB) (hσ : σ' = upS σ o kI x) (d : decode cc pc = .ok (.putfield index, 3))
    (kk : ∀ (H1 : Heap) (locs1 : List Loc), uvWo G σ' s H1 locs1 → W p l e R s m args below meth c H1 locs1 cells slots Q (F0 m (pc + 3) ls rest)) : W p l e R s m args below meth c H locs cells slots Q (F0 m pc ls (.int (iV x) :: .ref (G.2.2.1 o) :: rest)) :=
  r_px X Y V I ho k hkI hk hi hT hf ht (nz_bool hx).1 (nz_bool hx).2 hw hσ d kk
theorem r_ial (X : uvCx p m c cc nL own s args meth rt) (Y : uvGd G s s.heap) (V : uvWo G σ s H locs) {o i v : Int} {n : Nat} (ho : uvKd o = 11) (hn : uvLn o = n) (hi : 0 ≤ i ∧ i < n) (hv : v = σ o i) (d : decode cc pc = .ok (.iaload, 1))
    (kk : W p l e R s m args below meth c H locs cells slots Q (F0 m (pc + 1) ls (.int (iV v) :: rest))) : W p l e R s m args below meth c H locs cells slots Q (F0 m pc ls (.int (iV i) :: .ref (G.2.2.1 o) :: rest)) := by
  have hin := uvKd_in ho (by omega)
  have he := uvWs_at (G := G) (n := uvNN) (σ := σ) (ρ := uvR0) hin
  rw [uvCe_ar ho] at he
  have hlt := uvLn_lt o
  subst hn
  refine va_iald X.1 X.2.1 Y.1 V.1 o.toNat 0 he rfl (iV_in hi hlt) d ?_
  rw [iV_clamp hi hlt]
  have e9 : ((i.toNat : Nat) : Int) = i := by omega
  show W p l e R s m args below meth c H locs cells slots Q (F0 m (pc + 1) ls (.int (iV (σ o (i.toNat : Nat))) :: rest))
  rw [e9, ← hv]
  exact kk
theorem r_ias (X : uvCx p m c cc nL own s args meth rt) (Y : uvGd G s s.heap) (V : uvWo G σ s H locs) {o i x : Int} {n : Nat} (ho : uvKd o = 11) (hn : uvLn o = n) (hi : 0 ≤ i ∧ i < n) (hσ : σ' = upS σ o i x) (d : decode cc pc = .ok (.iastore, 1))
    (kk : ∀ (H1 : Heap) (locs1 : List Loc), uvWo G σ' s H1 locs1 → W p l e R s m args below meth c H1 locs1 cells slots Q (F0 m (pc + 1) ls rest)) : W p l e R s m args below meth c H locs cells slots Q (F0 m pc ls (.int (iV x) :: .int (iV i) :: .ref (G.2.2.1 o) :: rest)) := by
  have hin := uvKd_in ho (by omega)
  have he := uvWs_at (G := G) (n := uvNN) (σ := σ) (ρ := uvR0) hin
  rw [uvCe_ar ho] at he
  have hlt := uvLn_lt o
  subst hn; subst hσ
  refine va_iast (A := uvA G) X.1 X.2.1 Y.1 V.1 (uvD Y.2.1 σ uvR0) V.2 o.toNat 0 he rfl (iV_in hi hlt) d (fun H1 locs1 hP hD hS => kk H1 locs1 ⟨?_, hS⟩)
  rw [iV_clamp hi hlt, uvWs_upA hin ho hi.1] at hP
  exact hP
theorem r_aal (X : uvCx p m c cc nL own s args meth rt) (Y : uvGd G s s.heap) (V : uvWo G σ s H locs) {o o' i : Int} {n : Nat} (t : Nat) {C : String} (ht0 : 0 < t) (ho : uvKd o = 11 + t) (ht : (uvTy G)[t]? = some (G.2.1 t, .object C)) (hn : uvLn o = n) (hi : 0 ≤ i ∧ i < n) (hr : uvRf o i = o') (d : decode cc pc = .ok (.aaload, 1))
    (kk : W p l e R s m args below meth c H locs cells slots Q (F0 m (pc + 1) ls (.ref (G.2.2.1 o') :: rest))) : W p l e R s m args below meth c H locs cells slots Q (F0 m pc ls (.int (iV i) :: .ref (G.2.2.1 o) :: rest)) := by
  have htl : t < 3 := by
    have := (List.getElem?_eq_some_iff.mp ht).1
    simpa [uvTy] using this
  have hin := uvKd_in ho (by omega)
  have he := uvWs_at (G := G) (n := uvNN) (σ := σ) (ρ := uvR0) hin
  rw [uvCe_rr ho ht0] at he
  have hlt := uvLn_lt o
  subst hn
  refine va_aldq X.1 X.2.1 Y.1 V.1 o.toNat t he ht (iV_in hi hlt) d ?_
  rw [iV_clamp hi hlt]
  have e9 : ((i.toNat : Nat) : Int) = i := by omega
  show W p l e R s m args below meth c H locs cells slots Q (F0 m (pc + 1) ls (va_rf ((uvR0 o (i.toNat : Nat)).map G.2.2.1) :: rest))
  rw [e9]
  simp only [uvR0, hr, Option.map_some, va_rf]
  exact kk
/-! ===== ends ===== -/
def uvH (G : UG) (σ : St) : Unit → State → Prop := fun _ t => va_P G.1 uvCl (uvWs G uvNN σ uvR0) t.heap
def uvQi (G : UG) (r : Int) (σ : St) : Array Value → State → Outcome → State → Prop := va_Qi (fun r' _ => r' = iV r) (uvH G σ) (uvA G)
def uvQz (G : UG) (r : Int) (σ : St) : Array Value → State → Outcome → State → Prop := va_Qi (fun r' _ => r' = iV r ∧ (r = 0 ∨ r = 1)) (uvH G σ) (uvA G)
def uvQl (G : UG) (r : Int) (σ : St) : Array Value → State → Outcome → State → Prop := va_Ql (fun r' _ => r' = lV r) (uvH G σ) (uvA G)
def uvQv (G : UG) (σ : St) : Array Value → State → Outcome → State → Prop := va_Qv (fun _ => True) (uvH G σ) (uvA G)
def uvQr (G : UG) (ci : Nat) (o : Int) (σ : St) : Array Value → State → Outcome → State → Prop := va_Qr (fun _ => True) (fun (_ : Unit) a t => (a = G.2.2.1 o ∧ uvKd o = ci) ∧ uvH G σ () t) (uvA G)
def uvPc (G : UG) (σ : St) (av : List Value) : Array Value → State → Prop := va_Pc av (uvIn G σ)
theorem so1 {a b : Int} (h : some a = some b) : a = b := Option.some.inj h
theorem so2 {a c : Int} {b d : St} (h : some (a, b) = some (c, d)) : a = c ∧ b = d := by
  have := Option.some.inj h
  exact ⟨congrArg (·.1) this, congrArg (·.2) this⟩
theorem r_ri (X : uvCx p m c cc nL own s args meth (some .int)) (V : uvWo G σ s H locs) {v r : Int} (hv : v = r) (hσ : σ = σ') (d : decode cc pc = .ok (.ireturn, 1)) : W p l e R s m args below meth c H locs cells slots (MQ below (uvQi G r σ') args s cells slots (uvA G)) (F0 m pc ls [.int (iV v)]) := by
  subst hv; subst hσ
  exact W.iret X.1 X.2.1 X.2.2.2.2.2.1 (fun t ht _ => ⟨⟨_, (), rfl, rfl, by show va_P _ _ _ t.heap; rw [ht]; exact V.1⟩, V.2.F ht⟩) V.2.2.2 d X.2.2.2.2.2.2
theorem r_rz (X : uvCx p m c cc nL own s args meth (some .boolean)) (V : uvWo G σ s H locs) {v r : Int} (h01 : v = 0 ∨ v = 1) (hv : v = r) (hσ : σ = σ') (d : decode cc pc = .ok (.ireturn, 1)) : W p l e R s m args below meth c H locs cells slots (MQ below (uvQz G r σ') args s cells slots (uvA G)) (F0 m pc ls [.int (iV v)]) := by
  subst hv; subst hσ
  exact W.zret X.1 X.2.1 X.2.2.2.2.2.1 (nz_bool h01).1 (fun t ht _ => ⟨⟨_, (), rfl, ⟨rfl, h01⟩, by show va_P _ _ _ t.heap; rw [ht]; exact V.1⟩, V.2.F ht⟩) V.2.2.2 d X.2.2.2.2.2.2
theorem r_rl (X : uvCx p m c cc nL own s args meth (some .long)) (V : uvWo G σ s H locs) {v r : Int} (hv : v = r) (hσ : σ = σ') (d : decode cc pc = .ok (.lreturn, 1)) : W p l e R s m args below meth c H locs cells slots (MQ below (uvQl G r σ') args s cells slots (uvA G)) (F0 m pc ls [.long (lV v)]) := by
  subst hv; subst hσ
  exact W.lret X.1 X.2.1 X.2.2.2.2.2.1 (fun t ht _ => ⟨⟨_, (), rfl, rfl, by show va_P _ _ _ t.heap; rw [ht]; exact V.1⟩, V.2.F ht⟩) V.2.2.2 d X.2.2.2.2.2.2
theorem r_rv (X : uvCx p m c cc nL own s args meth none) (V : uvWo G σ s H locs) (hσ : σ = σ') (d : decode cc pc = .ok (.return_, 1)) : W p l e R s m args below meth c H locs cells slots (MQ below (uvQv G σ') args s cells slots (uvA G)) (F0 m pc ls []) := by
  subst hσ
  exact W.vret X.1 X.2.1 X.2.2.2.2.2.1 (fun t ht _ => ⟨⟨(), rfl, trivial, by show va_P _ _ _ t.heap; rw [ht]; exact V.1⟩, V.2.F ht⟩) V.2.2.2 d X.2.2.2.2.2.2
theorem r_rr {C : String} (X : uvCx p m c cc nL own s args meth (some (.object C))) (V : uvWo G σ s H locs) {ci : Nat} {v r : Int} (hk : uvKd v = ci) (hv : v = r) (hσ : σ = σ') (d : decode cc pc = .ok (.areturn, 1)) : W p l e R s m args below meth c H locs cells slots (MQ below (uvQr G ci r σ') args s cells slots (uvA G)) (F0 m pc ls [.ref (G.2.2.1 v)]) := by
  subst hv; subst hσ
  exact W.aret X.1 X.2.1 X.2.2.2.2.2.1 (Or.inl ⟨_, rfl⟩) (Or.inr ⟨_, rfl⟩) (fun t ht _ => ⟨⟨(), _, rfl, trivial, ⟨rfl, hk⟩, by show va_P _ _ _ t.heap; rw [ht]; exact V.1⟩, V.2.F ht⟩) V.2.2.2 d X.2.2.2.2.2.2
/-! ===== calls ===== -/
def uvMV (y : MethodName) (C : String) (bytes : ByteArray) (maxL : Nat) (ret : Option FieldType) (n : Nat) : Prop := (Cond.instanceMethod y ∈ TB ∧ Cond.selects C y y ∈ TB ∧ Cond.initialized C ∈ TB ∧ Cond.code y bytes maxL ret ∈ TB) ∧ y.cls = C ∧ y.cls ≠ "java/lang/invoke/MethodHandle" ∧ y.cls ≠ "java/lang/invoke/VarHandle" ∧ (parseMethodDescriptor y.desc).map (fun d => d.parameters.length) = some n
def uvMS (y : MethodName) (bytes : ByteArray) (maxL : Nat) (ret : Option FieldType) (n : Nat) : Prop := (Cond.static y ∈ TB ∧ Cond.initialized y.cls ∈ TB ∧ Cond.code y bytes maxL ret ∈ TB) ∧ y.cls ≠ "java/lang/invoke/MethodHandle" ∧ y.cls ≠ "java/lang/invoke/VarHandle" ∧ (parseMethodDescriptor y.desc).map (fun d => d.parameters.length) = some n
def uvRm (rm R : Room) (maxL : Nat) : Prop := rm.cells = 0 ∧ rm.slots = 0 ∧ rm.frames + 1 ≤ R.frames ∧ 8 + (maxL + 11) + rm.locals ≤ R.locals
theorem uvBl {G : UG} {σ : St} {av : List Value} : FrameBlind (uvPc G σ av) := fun a U g mk q => ⟨q.1, q.2.1, uvGd.same (U := U.calling g mk a) rfl q.2.2⟩
theorem uvPre (Y : uvGd G s s.heap) (V : uvWo G σ s H locs) (av : List Value) : ∀ U : State, U.heap = H → s.WarmedH U.vm → uvPc G σ av av.toArray U := fun U hU hW => ⟨rfl, by show va_P _ _ _ U.heap; rw [hU]; exact V.1, uvGd.warm (H := s.heap) hW (by rw [hU]; exact V.2.2.1) Y⟩
theorem r_runV {y : MethodName} {C : String} {bytes : ByteArray} {maxL n index : Nat} {ret : Option FieldType} {rm : Room} {As st0 : List Value} {o : Int} {Qc : Array Value → State → Outcome → State → Prop} (X : uvCx p m c cc nL own s args meth rt) (Y : uvGd G s s.heap) (V : uvWo G σ s H locs) (hM : Met l y (.code y bytes maxL ret :: TB) rm (uvPc G σ (.ref (G.2.2.1 o) :: As)) Qc 0 0 (uvA G))
    (hy : uvMV y C bytes maxL ret n) (hl : Cond.methodLink own index y ∈ TB) {ci N : Nat} {T : u_T} {ty : Nat → FieldType} (I : uvCI ci C T N ty) (ho : uvKd o = ci) (hrm : uvRm rm R maxL) (hn : As.length = n) (hst : st0 = As.reverse ++ .ref (G.2.2.1 o) :: rest) (hsz : ls.size = nL) (hW : (rest.map fun v => v.category).sum ≤ 8) (hc : cells ≤ R.cells ∧ slots ≤ R.slots) (d : decode cc pc = .ok (.invokevirtual index, 3)) :
    va_Run p l e R s m args below meth c H locs cells slots 0 0 (F0 m pc ls st0) rest (Qc (Value.ref (G.2.2.1 o) :: As).toArray) (uvA G) := by
  obtain ⟨⟨w1, w2, w3, w4⟩, hC, hd⟩ := hy
  subst hC
  have hin := uvKd_in ho (by have := I.2.2.2.2.2; omega)
  have he := uvWs_at (G := G) (n := uvNN) (σ := σ) (ρ := uvR0) hin
  rw [uvCe_ob ho I.2.2.2.2.2] at he
  have hts := X.2.2.2.2.1
  have hG : GoodIn TB (Cond.code y bytes maxL ret :: TB) := tb_gi (fun w h => (List.mem_cons.mp h).elim (fun z => z ▸ w4) id)
  exact va_runV (Ts := TB) (As := As) (rest := rest) ⟨X.1, X.2.1, X.2.2.1, X.2.2.2.1, hts⟩ hM ⟨callB_of n hts hG rfl hrm.1 hrm.2.1 (hts _ w3) (hts _ hl) hd hrm.2.2, hts _ w1, hts _ w2⟩ ⟨uvBl, va_recv Y.1 V.1 I.1 he, uvPre Y V _⟩ rfl hn hsz hst (lv_room hW) d hc
theorem r_runS {y : MethodName} {bytes : ByteArray} {maxL n index : Nat} {ret : Option FieldType} {rm : Room} {As st0 : List Value} {Qc : Array Value → State → Outcome → State → Prop} (X : uvCx p m c cc nL own s args meth rt) (Y : uvGd G s s.heap) (V : uvWo G σ s H locs) (hM : Met l y (.code y bytes maxL ret :: TB) rm (uvPc G σ As) Qc 0 0 (uvA G))
    (hy : uvMS y bytes maxL ret n) (hl : Cond.methodLink own index y ∈ TB) (hrm : uvRm rm R maxL) (hn : As.length = n) (hst : st0 = As.reverse ++ rest) (hsz : ls.size = nL) (hW : (rest.map fun v => v.category).sum ≤ 8) (hc : cells ≤ R.cells ∧ slots ≤ R.slots) (d : decode cc pc = .ok (.invokestatic index, 3)) :
    va_Run p l e R s m args below meth c H locs cells slots 0 0 (F0 m pc ls st0) rest (Qc As.toArray) (uvA G) := by
  obtain ⟨⟨w1, w3, w4⟩, hd⟩ := hy
  have hts := X.2.2.2.2.1
  have hG : GoodIn TB (Cond.code y bytes maxL ret :: TB) := tb_gi (fun w h => (List.mem_cons.mp h).elim (fun z => z ▸ w4) id)
  exact va_runS (Ts := TB) (As := As) (rest := rest) ⟨X.1, X.2.1, X.2.2.1, X.2.2.2.1, hts⟩ hM ⟨callB_of n hts hG rfl hrm.1 hrm.2.1 (hts _ w3) (hts _ hl) hd hrm.2.2, hts _ w1⟩ ⟨uvBl, uvPre Y V _⟩ rfl hn hsz hst (lv_room hW) d hc
theorem r_runSN {y : MethodName} {host : String} {bytes : ByteArray} {maxL n index : Nat} {ret : Option FieldType} {rm : Room} {As st0 : List Value} {Qc : Array Value → State → Outcome → State → Prop} (X : uvCx p m c cc nL own s args meth rt) (Y : uvGd G s s.heap) (V : uvWo G σ s H locs) (hM : Met l y (.code y bytes maxL ret :: TB) rm (uvPc G σ As) Qc 0 0 (uvA G))
    (hy : uvMS y bytes maxL ret n) (hl : va_Nw (.methodLinkNest own index y host) s) (hrm : uvRm rm R maxL) (hn : As.length = n) (hst : st0 = As.reverse ++ rest) (hsz : ls.size = nL) (hW : (rest.map fun v => v.category).sum ≤ 8) (hc : cells ≤ R.cells ∧ slots ≤ R.slots) (d : decode cc pc = .ok (.invokestatic index, 3)) :
    va_Run p l e R s m args below meth c H locs cells slots 0 0 (F0 m pc ls st0) rest (Qc As.toArray) (uvA G) := by
  obtain ⟨⟨w1, w3, w4⟩, hd⟩ := hy
  have hts := X.2.2.2.2.1
  have hG : GoodIn TB (Cond.code y bytes maxL ret :: TB) := tb_gi (fun w h => (List.mem_cons.mp h).elim (fun z => z ▸ w4) id)
  exact va_runSN (Ts := TB) (As := As) (rest := rest) ⟨X.1, X.2.1, X.2.2.1, X.2.2.2.1, hts⟩ hM ⟨va_cnB n hts hG rfl hrm.1 hrm.2.1 hl (hts _ w3) hd hrm.2.2, hts _ w1, trivial⟩ ⟨uvBl, uvPre Y V _⟩ rfl hn hsz hst (lv_room hW) d hc
theorem r_ki {st0 : List Value} {a : Array Value} {r : Int} (V : uvWo G σ s H locs) (hr : va_Run p l e R s m args below meth c H locs cells slots 0 0 (F0 m pc ls st0) rest (uvQi G r σ' a) (uvA G))
    (kk : ∀ (H1 : Heap) (locs1 : List Loc), uvWo G σ' s H1 locs1 → W p l e R s m args below meth c H1 locs1 cells slots Q (F0 m (pc + 3) ls (.int (iV r) :: rest))) : W p l e R s m args below meth c H locs cells slots Q (F0 m pc ls st0) :=
  va_calli hr V.2 (fun _ _ h => h) (fun _ h => h) (fun r' _ t H1 locs1 ht _ hp hB _ _ hS => by subst hp; exact kk H1 locs1 ⟨by have hB : va_P _ _ _ t.heap := hB; rw [ht] at hB; exact hB, hS⟩)
theorem r_kz {st0 : List Value} {a : Array Value} {r : Int} (V : uvWo G σ s H locs) (hr : va_Run p l e R s m args below meth c H locs cells slots 0 0 (F0 m pc ls st0) rest (uvQz G r σ' a) (uvA G))
    (kk : ∀ (H1 : Heap) (locs1 : List Loc), uvWo G σ' s H1 locs1 → (r = 0 ∨ r = 1) → W p l e R s m args below meth c H1 locs1 cells slots Q (F0 m (pc + 3) ls (.int (iV r) :: rest))) : W p l e R s m args below meth c H locs cells slots Q (F0 m pc ls st0) :=
  va_calli hr V.2 (fun _ _ h => h) (fun _ h => h) (fun r' _ t H1 locs1 ht _ hp hB _ _ hS => by obtain ⟨rfl, h01⟩ := hp; exact kk H1 locs1 ⟨by have hB : va_P _ _ _ t.heap := hB; rw [ht] at hB; exact hB, hS⟩ h01)
theorem r_kl {st0 : List Value} {a : Array Value} {r : Int} (V : uvWo G σ s H locs) (hr : va_Run p l e R s m args below meth c H locs cells slots 0 0 (F0 m pc ls st0) rest (uvQl G r σ' a) (uvA G))
    (kk : ∀ (H1 : Heap) (locs1 : List Loc), uvWo G σ' s H1 locs1 → W p l e R s m args below meth c H1 locs1 cells slots Q (F0 m (pc + 3) ls (.long (lV r) :: rest))) : W p l e R s m args below meth c H locs cells slots Q (F0 m pc ls st0) :=
  va_calll hr V.2 (fun _ _ h => h) (fun _ h => h) (fun r' _ t H1 locs1 ht _ hp hB _ _ hS => by subst hp; exact kk H1 locs1 ⟨by have hB : va_P _ _ _ t.heap := hB; rw [ht] at hB; exact hB, hS⟩)
theorem r_kv {st0 : List Value} {a : Array Value} (V : uvWo G σ s H locs) (hr : va_Run p l e R s m args below meth c H locs cells slots 0 0 (F0 m pc ls st0) rest (uvQv G σ' a) (uvA G))
    (kk : ∀ (H1 : Heap) (locs1 : List Loc), uvWo G σ' s H1 locs1 → W p l e R s m args below meth c H1 locs1 cells slots Q (F0 m (pc + 3) ls rest)) : W p l e R s m args below meth c H locs cells slots Q (F0 m pc ls st0) :=
  va_callv hr V.2 (fun _ _ h => h) (fun _ h => h) (fun _ t H1 locs1 ht _ _ hB _ _ hS => kk H1 locs1 ⟨by have hB : va_P _ _ _ t.heap := hB; rw [ht] at hB; exact hB, hS⟩)
theorem r_kr {st0 : List Value} {a : Array Value} {ci : Nat} {r : Int} (V : uvWo G σ s H locs) (hr : va_Run p l e R s m args below meth c H locs cells slots 0 0 (F0 m pc ls st0) rest (uvQr G ci r σ' a) (uvA G))
    (kk : ∀ (H1 : Heap) (locs1 : List Loc), uvWo G σ' s H1 locs1 → uvKd r = ci → W p l e R s m args below meth c H1 locs1 cells slots Q (F0 m (pc + 3) ls (.ref (G.2.2.1 r) :: rest))) : W p l e R s m args below meth c H locs cells slots Q (F0 m pc ls st0) :=
  va_callr hr V.2 (fun _ _ h => h) (fun _ h => h) (fun _ a t H1 locs1 ht _ _ hB _ _ hS => by obtain ⟨⟨rfl, hk⟩, hB⟩ := hB; exact kk H1 locs1 ⟨by have hB : va_P _ _ _ t.heap := hB; rw [ht] at hB; exact hB, hS⟩ hk)
end UVH
/-- a contract out of its body's walk -/
theorem r_met {l : Launch} {G : UG} {σ : St} {y : MethodName} {own : String} {cc : ByteArray} {maxL : Nat} {ret : Option FieldType} {rm : Room} {av : List Value} {Qc : Array Value → State → Outcome → State → Prop} (hpl : plainName y.cls = true) (hown : y.cls = own) (hsl : (lg_sl av).length ≤ maxL) {lv : List (Nat × Value)} (hlv : lv_args 0 av = lv)
    (body : ∀ (p : Program) (e : Env) (s : State) (m : MethodId) (below : List Frame) (meth : Method) (c : Code) (ls : Array Slot), uvCx p m c cc maxL own s av.toArray meth ret → uvGd G s s.heap → uvWo G σ s s.heap [] → lv_has ls maxL lv → W p l e rm s m av.toArray below meth c s.heap [] 0 0 (MQ below Qc av.toArray s 0 0 (uvA G)) (F0 m 0 ls [])) :
    Met l y (.code y cc maxL ret :: TB) rm (uvPc G σ av) Qc 0 0 (uvA G) := by
  refine Met.ofW (cc := cc) (maxL := maxL) (ret := ret) hpl rfl ?_
  intro p e s m args below meth c s₁ B hml hv
  obtain ⟨rfl, hP, hY⟩ := hv
  have hts := atoms_spec (ws := .code y cc maxL ret :: TB) B.pre
  have hown' : s.vm.findClass own = some m.cls := by rw [← hown]; exact findClass_of_methodNamed B.named
  rw [lg_entry_eq]
  exact body p e s m below meth c _ ⟨B.exec, B.bytes, hml, hown', fun w h => hts w (List.mem_cons_of_mem _ h), B.returns, B.notSynchronized⟩ hY ⟨hP, va_S.rf⟩ (hlv ▸ lv_entry av hsl)

