/-! ===== while the objects are made: n cells stand, links are kept in the store at 1000 + id (0: null; id + 1) ===== -/
def rhoS (σ : St) (o i : Int) : Option Int := if σ (1000 + o) i = 0 then none else some (σ (1000 + o) i - 1)
def uvKA (G : UG) : Nat → Prop := fun q => G.2.2.1 0 ≤ q
def uvWk (G : UG) (n : Nat) (σ : St) (s : State) (H : Heap) (locs : List Loc) : Prop := va_P G.1 uvCl (uvWs G n σ (rhoS σ)) H ∧ va_S (uvKA G) s.heap H locs ∧ H.size = G.2.2.1 0 + n
def uvGk (G : UG) (U : State) : Prop := va_K G.1 uvCl (uvTy G) U ∧ (∀ k : Nat, G.2.2.1 k = G.2.2.1 0 + k) ∧ (va_AO "UnitVoices$Choice" U ∧ va_AO "UnitVoices$Tally" U) ∧ va_Nw (.methodLinkNest "UnitVoices" 18 yX4_init "UnitVoices") U ∧ va_Nw (.methodLinkNest "UnitVoices" 32 yX6_init "UnitVoices") U ∧ va_Nw (.methodLinkNest "UnitVoices$Text" 17 yX4_init "UnitVoices") U ∧ va_Nw (.methodLinkNest "UnitVoices$Chooser" 36 yX1_init "UnitVoices") U
theorem uvGk.warm {G : UG} {s U : State} (hW : s.WarmedH U.vm) (h : uvGk G s) : uvGk G U := by
  obtain ⟨h1, h2, ⟨h3, h4⟩, h5, h6, h7, h8⟩ := h
  exact ⟨h1.moved hW.alike, h2, ⟨h3.moved hW.alike, h4.moved hW.alike⟩, h5.warmM hW, h6.warmM hW, h7.warmM hW, h8.warmM hW⟩
theorem uvGk.same {G : UG} {s U : State} (hv : s.vm = U.vm) (h : uvGk G s) : uvGk G U := by
  obtain ⟨h1, h2, ⟨h3, h4⟩, h5, h6, h7, h8⟩ := h
  have ha : s.vm.Alike U.vm := by rw [← hv]; exact Vm.Alike.refl s.vm
  exact ⟨h1.moved ha, h2, ⟨h3.moved ha, h4.moved ha⟩, h5.same rfl hv, h6.same rfl hv, h7.same rfl hv, h8.same rfl hv⟩
theorem uvWs_congr {G : UG} {n : Nat} {σ τ : St} {ρ κ : Int → Int → Option Int} (h1 : ∀ (k : Nat) (i : Int), k < n → σ k i = τ k i) (h2 : ∀ (k : Nat) (i : Int), k < n → ρ k i = κ k i) : uvWs G n σ ρ = uvWs G n τ κ := by
  unfold uvWs
  apply List.map_congr_left
  intro k hk
  have hk := List.mem_range.mp hk
  have e : uvCe G σ ρ k = uvCe G τ κ k := by simp [uvCe, uvFs, h1 k _ hk, h2 k _ hk]
  rw [e]
theorem uvWs_succ {G : UG} {n : Nat} {σ : St} {ρ : Int → Int → Option Int} : uvWs G (n + 1) σ ρ = uvWs G n σ ρ ++ [(G.2.2.1 n, uvCe G σ ρ n)] := by
  simp [uvWs, List.range_succ]
theorem uvDk {G : UG} (h : ∀ k : Nat, G.2.2.1 k = G.2.2.1 0 + k) (n : Nat) (σ : St) (ρ : Int → Int → Option Int) : va_D (uvKA G) (uvWs G n σ ρ) := by
  have key : ∀ (k : Nat) (q : Nat × va_E), (uvWs G n σ ρ)[k]? = some q → k < n ∧ q.1 = G.2.2.1 k := by
    intro k q hk
    have hlt : k < n := by
      have := (List.getElem?_eq_some_iff.mp hk).1
      simpa [uvWs] using this
    have e := uvWs_at (G := G) (n := n) (σ := σ) (ρ := ρ) (o := (k : Int)) ⟨by omega, by omega⟩
    simp only [Int.toNat_natCast] at e
    rw [e] at hk
    cases hk
    exact ⟨hlt, rfl⟩
  refine ⟨fun i j p q hi hj e => ?_, fun k q hk => ?_⟩
  · obtain ⟨a1, a2⟩ := key i p hi
    obtain ⟨b1, b2⟩ := key j q hj
    have := h i
    have := h j
    omega
  · obtain ⟨a1, a2⟩ := key k q hk
    have := h k
    show G.2.2.1 0 ≤ q.1
    omega
theorem rho_int {σ : St} {o j x : Int} (h : o < 1000) (q i : Int) (hq : 0 ≤ q) : rhoS (upS σ o j x) q i = rhoS σ q i := by
  have : ¬ (1000 + q = o ∧ i = j) := by omega
  simp [rhoS, upS, this]
theorem uvWs_setR {G : UG} {n : Nat} {σ : St} {o o' : Int} {j : Nat} (h : 0 ≤ o ∧ o < n) (hn : n ≤ 1000) (hk : uvKd o < 11) (hi : uvIr (uvKd o) j = true) (ho' : 0 ≤ o') :
    (uvWs G n σ (rhoS σ)).set o.toNat (G.2.2.1 o, .inr (uvKd o, (uvFs G.2.2.1 σ (rhoS σ) o (uvKd o)).set j (.ref (G.2.2.1 o')))) = uvWs G n (upS σ (1000 + o) j (o' + 1)) (rhoS (upS σ (1000 + o) j (o' + 1))) := by
  obtain ⟨k, rfl⟩ := Int.eq_ofNat_of_zero_le h.1
  have hkn : k < n := by omega
  apply List.ext_getElem?
  intro q
  rw [List.getElem?_set]
  simp only [Int.toNat_natCast, uvWs, List.length_map, List.length_range]
  have hI : ∀ (q : Nat) (i : Int), q < n → upS σ (1000 + (k : Int)) j (o' + 1) q i = σ q i := by
    intro q i hq
    have : ¬ ((q : Int) = 1000 + k ∧ i = j) := by omega
    simp only [upS, if_neg this]
  have hR : ∀ (q : Nat) (i : Int), ¬ (q = k ∧ i = j) → rhoS (upS σ (1000 + (k : Int)) j (o' + 1)) q i = rhoS σ q i := by
    intro q i hq
    have : ¬ (1000 + (q : Int) = 1000 + k ∧ i = j) := by omega
    simp only [rhoS, upS, if_neg this]
  by_cases hq : k = q
  · subst hq
    rw [if_pos rfl, if_pos hkn]
    simp only [List.getElem?_map, List.getElem?_range hkn, Option.map_some, uvCe, hk, if_true]
    congr 4
    apply List.ext_getElem?
    intro z
    rw [List.getElem?_set]
    simp only [uvFs, List.length_map, List.length_range, List.getElem?_map]
    by_cases hz : j = z
    · subst hz
      rw [if_pos rfl]
      by_cases hl : j < uvNf (uvKd k)
      · rw [if_pos hl, List.getElem?_range hl]
        have e : rhoS (upS σ (1000 + (k : Int)) j (o' + 1)) k j = some o' := by
          have : ¬ o' + 1 = 0 := by omega
          have e2 : o' + 1 - 1 = o' := by omega
          simp [rhoS, upS, this, e2]
        simp [hi, e, va_rf]
      · rw [if_neg hl, List.getElem?_eq_none (by simpa using hl)]
        rfl
    · rw [if_neg hz]
      by_cases hl : z < uvNf (uvKd k)
      · rw [List.getElem?_range hl]
        simp only [Option.map_some]
        rw [hI k z hkn, hR k z (by omega)]
      · rw [List.getElem?_eq_none (by simpa using hl)]
        rfl
  · rw [if_neg hq]
    by_cases hl : q < n
    · simp only [List.getElem?_map, List.getElem?_range hl, Option.map_some]
      have e : uvCe G (upS σ (1000 + (k : Int)) j (o' + 1)) (rhoS (upS σ (1000 + (k : Int)) j (o' + 1))) q = uvCe G σ (rhoS σ) q := by
        have hR' : ∀ i : Int, rhoS (upS σ (1000 + (k : Int)) j (o' + 1)) q i = rhoS σ q i := fun i => hR q i (by omega)
        simp [uvCe, uvFs, hI q _ hl, hR']
      rw [e]
    · rw [List.getElem?_eq_none (by simpa using hl), List.getElem?_eq_none (by simpa using hl)]
theorem uvWs_setQ {G : UG} {n : Nat} {σ : St} {o o' i : Int} {t : Nat} (h : 0 ≤ o ∧ o < n) (hn : n ≤ 1000) (hk : uvKd o = 11 + t) (ht : 0 < t) (hi : 0 ≤ i) (ho' : 0 ≤ o') :
    (uvWs G n σ (rhoS σ)).set o.toNat (G.2.2.1 o, .inl (G.2.1 t, uvLn o, .inr (.inr (.inr (.inr (va_up (fun (j : Nat) => (rhoS σ o j).map G.2.2.1) i.toNat (some (G.2.2.1 o')))))))) = uvWs G n (upS σ (1000 + o) i (o' + 1)) (rhoS (upS σ (1000 + o) i (o' + 1))) := by
  obtain ⟨k, rfl⟩ := Int.eq_ofNat_of_zero_le h.1
  obtain ⟨i, rfl⟩ := Int.eq_ofNat_of_zero_le hi
  have hkn : k < n := by omega
  apply List.ext_getElem?
  intro q
  rw [List.getElem?_set]
  simp only [Int.toNat_natCast, uvWs, List.length_map, List.length_range]
  have hI : ∀ (q : Nat) (z : Int), q < n → upS σ (1000 + (k : Int)) i (o' + 1) q z = σ q z := by
    intro q z hq
    have : ¬ ((q : Int) = 1000 + k ∧ z = i) := by omega
    simp only [upS, if_neg this]
  have hR : ∀ (q : Nat) (z : Int), ¬ (q = k ∧ z = i) → rhoS (upS σ (1000 + (k : Int)) i (o' + 1)) q z = rhoS σ q z := by
    intro q z hq
    have : ¬ (1000 + (q : Int) = 1000 + k ∧ z = i) := by omega
    simp only [rhoS, upS, if_neg this]
  by_cases hq : k = q
  · subst hq
    rw [if_pos rfl, if_pos hkn]
    simp only [List.getElem?_map, List.getElem?_range hkn, Option.map_some]
    rw [uvCe_rr hk ht]
    have e : va_up (fun (j : Nat) => (rhoS σ k j).map G.2.2.1) i (some (G.2.2.1 o')) = fun (j : Nat) => (rhoS (upS σ (1000 + (k : Int)) i (o' + 1)) k j).map G.2.2.1 := by
      funext z
      by_cases hz : z = i
      · subst hz
        have e : rhoS (upS σ (1000 + (k : Int)) z (o' + 1)) k z = some o' := by
          have : ¬ o' + 1 = 0 := by omega
          have e2 : o' + 1 - 1 = o' := by omega
          simp [rhoS, upS, this, e2]
        rw [va_up_self, e]
        rfl
      · rw [va_up_ne _ _ hz, hR k z (by omega)]
    rw [e]
  · rw [if_neg hq]
    by_cases hl : q < n
    · simp only [List.getElem?_map, List.getElem?_range hl, Option.map_some]
      have e : uvCe G (upS σ (1000 + (k : Int)) i (o' + 1)) (rhoS (upS σ (1000 + (k : Int)) i (o' + 1))) q = uvCe G σ (rhoS σ) q := by
        have hR' : ∀ z : Int, rhoS (upS σ (1000 + (k : Int)) i (o' + 1)) q z = rhoS σ q z := fun z => hR q z (by omega)
        simp [uvCe, uvFs, hI q _ hl, hR']
      rw [e]
    · rw [List.getElem?_eq_none (by simpa using hl), List.getElem?_eq_none (by simpa using hl)]
section UVK
variable {p : Program} {l : Launch} {e : Env} {R : Room} {s : State} {m : MethodId} {args : Array Value} {below : List Frame} {meth : Method} {c : Code} {H : Heap} {locs : List Loc} {cells slots : Nat} {Q : State → Prop}
variable {cc : ByteArray} {nL : Nat} {own : String} {rt : Option FieldType} {pc : Nat} {ls : Array Slot} {rest : List Value} {G : UG} {σ σ' : St} {n : Nat}
theorem k_gi (X : uvCx p m c cc nL own s args meth rt) (Y : uvGk G s) (V : uvWk G n σ s H locs) {ci N : Nat} {C : String} {T : u_T} {ty : Nat → FieldType} (I : uvCI ci C T N ty) {o kI x : Int} (ho : uvKd o = ci) (hin : 0 ≤ o ∧ o < n) (k : Nat) {index : Nat} (hkI : (k : Int) = kI) (hx : σ o kI = x) (hk : k < N) (hi : uvIr ci k = false) (hT : (T k).1 = C) (hw : Cond.fieldLink own index C (T k).2.1 (T k).2.2.1 ∈ TB) (d : decode cc pc = .ok (.getfield index, 3))
    (kk : W p l e R s m args below meth c H locs cells slots Q (F0 m (pc + 3) ls (.int (iV x) :: rest))) : W p l e R s m args below meth c H locs cells slots Q (F0 m pc ls (.ref (G.2.2.1 o) :: rest)) := by
  obtain ⟨i1, i2, i3, i4, i5, i6⟩ := I
  subst hkI; subst hx
  have he := uvWs_at (G := G) (n := n) (σ := σ) (ρ := rhoS σ) hin
  rw [uvCe_ob ho i6] at he
  exact va_get X.1 X.2.1 X.2.2.2.2.1 i2 X.2.2.2.1 Y.1 V.1 o.toNat he i1 k hk (X.2.2.2.2.1 _ hw) (by rw [hT]; exact fun _ h => h) (v := .int (iV (σ o k))) (by rw [uvFs_at (by omega), if_neg (by rw [hi]; decide)]) d kk
theorem k_gr (X : uvCx p m c cc nL own s args meth rt) (Y : uvGk G s) (V : uvWk G n σ s H locs) {ci N : Nat} {C : String} {T : u_T} {ty : Nat → FieldType} (I : uvCI ci C T N ty) {o o' kI : Int} (ho : uvKd o = ci) (hin : 0 ≤ o ∧ o < n) (k : Nat) {index : Nat} (hkI : (k : Int) = kI) (hr : rhoS σ o kI = some o') (hk : k < N) (hi : uvIr ci k = true) (hT : (T k).1 = C) (hw : Cond.fieldLink own index C (T k).2.1 (T k).2.2.1 ∈ TB) (d : decode cc pc = .ok (.getfield index, 3))
    (kk : W p l e R s m args below meth c H locs cells slots Q (F0 m (pc + 3) ls (.ref (G.2.2.1 o') :: rest))) : W p l e R s m args below meth c H locs cells slots Q (F0 m pc ls (.ref (G.2.2.1 o) :: rest)) := by
  obtain ⟨i1, i2, i3, i4, i5, i6⟩ := I
  subst hkI
  have he := uvWs_at (G := G) (n := n) (σ := σ) (ρ := rhoS σ) hin
  rw [uvCe_ob ho i6] at he
  exact va_get X.1 X.2.1 X.2.2.2.2.1 i2 X.2.2.2.1 Y.1 V.1 o.toNat he i1 k hk (X.2.2.2.2.1 _ hw) (by rw [hT]; exact fun _ h => h) (v := .ref (G.2.2.1 o')) (by rw [uvFs_at (by omega), if_pos hi, hr]; simp [va_rf]) d kk
theorem k_pi (X : uvCx p m c cc nL own s args meth rt) (Y : uvGk G s) (V : uvWk G n σ s H locs) {ci N : Nat} {C : String} {T : u_T} {ty : Nat → FieldType} (I : uvCI ci C T N ty) {o kI x : Int} (ho : uvKd o = ci) (hin : 0 ≤ o ∧ o < n) (hn : n ≤ 1000) (k : Nat) {index : Nat} (hkI : (k : Int) = kI) (hk : k < N) (hi : uvIr ci k = false) (hT : (T k).1 = C) (hf : (T k).2.2.2 = false) (ht : parseFieldDescriptor (T k).2.2.1 = some .int) (hw : Cond.fieldLink own index C (T k).2.1 (T k).2.2.1 ∈ TB) (hσ : σ' = upS σ o kI x) (d : decode cc pc = .ok (.putfield index, 3))
    (kk : ∀ (H1 : Heap) (locs1 : List Loc), uvWk G n σ' s H1 locs1 → W p l e R s m args below meth c H1 locs1 cells slots Q (F0 m (pc + 3) ls rest)) : W p l e R s m args below meth c H locs cells slots Q (F0 m pc ls (.int (iV x) :: .ref (G.2.2.1 o) :: rest)) := by
  obtain ⟨i1, i2, i3, i4, i5, i6⟩ := I
  subst hkI; subst hσ
  have he := uvWs_at (G := G) (n := n) (σ := σ) (ρ := rhoS σ) hin
  rw [uvCe_ob ho i6] at he
  have hDk := uvDk Y.2.1 n σ (rhoS σ)
  have hap := va_apart (own := own) X.2.2.2.2.1 i2 ty i3 i4 Y.1 i1
  obtain ⟨r, h1, cell, q1, q2, q3, q4⟩ := V.1 o.toNat _ he
  have hr : r = (C, T, N) := Option.some.inj (h1.symm.trans i1)
  subst hr
  obtain ⟨hS, hfc, kC, hkC, hkind⟩ := Y.1.1 ci _ i1
  obtain ⟨cf, kf, fi, f, hi9, hsl⟩ := hS k hk
  have hlay := X.2.2.2.2.1 _ (i2 _ (u_in_lay hk))
  unfold u_lay at hlay
  rw [if_neg (by rw [hf]; decide)] at hlay
  have hst := (u_facts hfc hkC (u_lays X.2.2.2.2.1 i2 hk) hi9).1
  have h6 := u_store hfc hkC hkind hlay hi9 ht (v := .int (iV x)) rfl rfl
  have hl : k < (uvFs G.2.2.1 σ (rhoS σ) o ci).length := by simp [uvFs]; omega
  refine W.putK X.1 X.2.1 (f := f) ⟨X.2.2.2.1, X.2.2.2.2.1 _ hw, ⟨_, _, _, by rw [hT] at hi9; exact hi9⟩, hst⟩ (by rw [q2]; exact h6) q1 q3 (by rw [hsl]; exact k2_hasslot (q4 k hk)) rfl rfl d fun H' e1 e2 e3 => ?_
  rw [hsl] at e1 ⊢
  have hP' := V.1.set (e := .inr (ci, (uvFs G.2.2.1 σ (rhoS σ) o ci).set k (.int (iV x)))) hDk he ⟨_, i1, t_OB.to (V := updV (vp_V (uvFs G.2.2.1 σ (rhoS σ) o ci)) k (.int (iV x))) ⟨_, e1, q2, q3, t_set q4 hap hk _⟩ (fun j _ => vp_updV_set hl _ j)⟩ e3
  refine kk H' _ ⟨?_, V.2.1.put e2 e3 (hDk.2 o.toNat _ he), by rw [e2]; exact V.2.2⟩
  subst ho
  rw [uvWs_upF hin i6 hi] at hP'
  rw [uvWs_congr (τ := upS σ o k x) (κ := rhoS σ) (fun _ _ _ => rfl) (fun q i hq => rho_int (by omega) q i (by omega))]
  exact hP'
theorem k_pr (X : uvCx p m c cc nL own s args meth rt) (Y : uvGk G s) (V : uvWk G n σ s H locs) (hin2 : meth.name = "<init>") {ci N : Nat} {C : String} {T : u_T} {ty : Nat → FieldType} (I : uvCI ci C T N ty) {o o' kI : Int} (ho : uvKd o = ci) (hin : 0 ≤ o ∧ o < n) (hn : n ≤ 1000) (ho' : 0 ≤ o') (k : Nat) {index : Nat} (hkI : (k : Int) = kI) (hk : k < N) (hi : uvIr ci k = true) (hT : (T k).1 = C) (hC : C = own) (hf : (T k).2.2.2 = true) {t : FieldType} (ht : parseFieldDescriptor (T k).2.2.1 = some t) (hnr : ∀ a : Nat, narrow t (.ref a) = .ref a) (hft : ∀ a : Nat, fits t (.ref a) = true) (hw : Cond.fieldLink own index C (T k).2.1 (T k).2.2.1 ∈ TB) (hσ : σ' = upS σ (1000 + o) kI (o' + 1)) (d : decode cc pc = .ok (.putfield index, 3))
    (kk : ∀ (H1 : Heap) (locs1 : List Loc), uvWk G n σ' s H1 locs1 → W p l e R s m args below meth c H1 locs1 cells slots Q (F0 m (pc + 3) ls rest)) : W p l e R s m args below meth c H locs cells slots Q (F0 m pc ls (.ref (G.2.2.1 o') :: .ref (G.2.2.1 o) :: rest)) := by
  obtain ⟨i1, i2, i3, i4, i5, i6⟩ := I
  subst hkI; subst hσ
  have he := uvWs_at (G := G) (n := n) (σ := σ) (ρ := rhoS σ) hin
  rw [uvCe_ob ho i6] at he
  have hDk := uvDk Y.2.1 n σ (rhoS σ)
  have hap := va_apart (own := own) X.2.2.2.2.1 i2 ty i3 i4 Y.1 i1
  obtain ⟨r, h1, cell, q1, q2, q3, q4⟩ := V.1 o.toNat _ he
  have hr : r = (C, T, N) := Option.some.inj (h1.symm.trans i1)
  subst hr
  obtain ⟨hS, hfc, kC, hkC, hkind⟩ := Y.1.1 ci _ i1
  obtain ⟨cf, kf, fi, f, hi9, hsl⟩ := hS k hk
  have hlay := X.2.2.2.2.1 _ (i2 _ (u_in_lay hk))
  unfold u_lay at hlay
  rw [if_pos hf] at hlay
  have hst := (u_facts hfc hkC (u_lays X.2.2.2.2.1 i2 hk) hi9).1
  have hcf : m.cls = cf := by
    obtain ⟨_, _, c', _, _, _, -, -, hf', -, -, -, hown2, -⟩ := Cond.laysFinal_spec hlay
    have e1 : c' = cf := by have := hi9.symm.trans hf'; simp at this; exact this.1.symm
    rw [hT, hC] at hown2
    rw [← e1]; exact Option.some.inj (X.2.2.2.1.symm.trans hown2)
  have h6 := u_fits hfc hkC hkind (Or.inr hlay) hi9 ht (hnr (G.2.2.1 o')) (hft (G.2.2.1 o'))
  have hl : k < (uvFs G.2.2.1 σ (rhoS σ) o ci).length := by simp [uvFs]; omega
  refine W.putFinK X.1 X.2.1 X.2.2.2.1 (X.2.2.2.2.1 _ hw) (by rw [hT] at hi9; exact hi9) hst hcf hin2 (by rw [q2]; exact h6) q1 q3 (by rw [hsl]; exact k2_hasslot (q4 k hk)) rfl rfl d fun H' e1 e2 e3 => ?_
  rw [hsl] at e1 ⊢
  have hP' := V.1.set (e := .inr (ci, (uvFs G.2.2.1 σ (rhoS σ) o ci).set k (.ref (G.2.2.1 o')))) hDk he ⟨_, i1, t_OB.to (V := updV (vp_V (uvFs G.2.2.1 σ (rhoS σ) o ci)) k (.ref (G.2.2.1 o'))) ⟨_, e1, q2, q3, t_set q4 hap hk _⟩ (fun j _ => vp_updV_set hl _ j)⟩ e3
  refine kk H' _ ⟨?_, V.2.1.put e2 e3 (hDk.2 o.toNat _ he), by rw [e2]; exact V.2.2⟩
  subst ho
  rw [uvWs_setR hin hn i6 hi ho'] at hP'
  exact hP'
theorem k_ial (X : uvCx p m c cc nL own s args meth rt) (Y : uvGk G s) (V : uvWk G n σ s H locs) {o i v : Int} {N : Nat} (ho : uvKd o = 11) (hin : 0 ≤ o ∧ o < n) (hn : uvLn o = N) (hi : 0 ≤ i ∧ i < N) (hv : σ o i = v) (d : decode cc pc = .ok (.iaload, 1))
    (kk : W p l e R s m args below meth c H locs cells slots Q (F0 m (pc + 1) ls (.int (iV v) :: rest))) : W p l e R s m args below meth c H locs cells slots Q (F0 m pc ls (.int (iV i) :: .ref (G.2.2.1 o) :: rest)) := by
  have he := uvWs_at (G := G) (n := n) (σ := σ) (ρ := rhoS σ) hin
  rw [uvCe_ar ho] at he
  have hlt := uvLn_lt o
  subst hn; subst hv
  refine va_iald X.1 X.2.1 Y.1 V.1 o.toNat 0 he rfl (iV_in hi hlt) d ?_
  rw [iV_clamp hi hlt]
  have e9 : ((i.toNat : Nat) : Int) = i := by omega
  show W p l e R s m args below meth c H locs cells slots Q (F0 m (pc + 1) ls (.int (iV (σ o (i.toNat : Nat))) :: rest))
  rw [e9]
  exact kk
theorem k_ias (X : uvCx p m c cc nL own s args meth rt) (Y : uvGk G s) (V : uvWk G n σ s H locs) {o i x : Int} {N : Nat} (ho : uvKd o = 11) (hin : 0 ≤ o ∧ o < n) (hn1 : n ≤ 1000) (hn : uvLn o = N) (hi : 0 ≤ i ∧ i < N) (hσ : σ' = upS σ o i x) (d : decode cc pc = .ok (.iastore, 1))
    (kk : ∀ (H1 : Heap) (locs1 : List Loc), uvWk G n σ' s H1 locs1 → W p l e R s m args below meth c H1 locs1 cells slots Q (F0 m (pc + 1) ls rest)) : W p l e R s m args below meth c H locs cells slots Q (F0 m pc ls (.int (iV x) :: .int (iV i) :: .ref (G.2.2.1 o) :: rest)) := by
  have he := uvWs_at (G := G) (n := n) (σ := σ) (ρ := rhoS σ) hin
  rw [uvCe_ar ho] at he
  have hlt := uvLn_lt o
  have hDk := uvDk Y.2.1 n σ (rhoS σ)
  subst hn; subst hσ
  refine W.iast X.1 X.2.1 (V.1 o.toNat _ he) ((Y.1.2 0 _ rfl).1 (uvLn o) (fun j => .int (iV (σ o j)))) (fun q => by cases q) (by show ¬ (iV i < 0 ∨ (arrV _ _ _).slots.size ≤ _); rw [arrV_size]; exact iV_in hi hlt) rfl rfl d fun H1 e1 z oq => ?_
  have hP' := V.1.set (e := .inl (G.2.1 0, uvLn o, .inl (upd (fun j => iV (σ o j)) (iV i).toNatClampNeg (iV x)))) hDk he (by
    show H1[G.2.2.1 o]? = some (vp_cell _ _)
    rw [e1]
    rw [vp_cell_i, vp_cell_i, arrV_store]
    congr 2
    funext q
    by_cases hq : q = (iV i).toNatClampNeg
    · subst hq
      simp [updV, upd]
    · simp [updV, upd, hq]) oq
  refine kk H1 _ ⟨?_, V.2.1.put z oq (hDk.2 o.toNat _ he), by rw [z]; exact V.2.2⟩
  rw [iV_clamp hi hlt, uvWs_upA hin ho hi.1] at hP'
  rw [uvWs_congr (τ := upS σ o i x) (κ := rhoS σ) (fun _ _ _ => rfl) (fun q z hq => rho_int (by omega) q z (by omega))]
  exact hP'
theorem k_aal (X : uvCx p m c cc nL own s args meth rt) (Y : uvGk G s) (V : uvWk G n σ s H locs) {o o' i : Int} {N : Nat} (t : Nat) {C : String} (ht0 : 0 < t) (ho : uvKd o = 11 + t) (hin : 0 ≤ o ∧ o < n) (ht : (uvTy G)[t]? = some (G.2.1 t, .object C)) (hn : uvLn o = N) (hi : 0 ≤ i ∧ i < N) (hr : rhoS σ o i = some o') (d : decode cc pc = .ok (.aaload, 1))
    (kk : W p l e R s m args below meth c H locs cells slots Q (F0 m (pc + 1) ls (.ref (G.2.2.1 o') :: rest))) : W p l e R s m args below meth c H locs cells slots Q (F0 m pc ls (.int (iV i) :: .ref (G.2.2.1 o) :: rest)) := by
  have he := uvWs_at (G := G) (n := n) (σ := σ) (ρ := rhoS σ) hin
  rw [uvCe_rr ho ht0] at he
  have hlt := uvLn_lt o
  subst hn
  refine va_aldq X.1 X.2.1 Y.1 V.1 o.toNat t he ht (iV_in hi hlt) d ?_
  rw [iV_clamp hi hlt]
  have e9 : ((i.toNat : Nat) : Int) = i := by omega
  show W p l e R s m args below meth c H locs cells slots Q (F0 m (pc + 1) ls (va_rf ((rhoS σ o (i.toNat : Nat)).map G.2.2.1) :: rest))
  rw [e9]
  simp only [hr, Option.map_some, va_rf]
  exact kk
theorem k_aas (X : uvCx p m c cc nL own s args meth rt) (Y : uvGk G s) (V : uvWk G n σ s H locs) {o o' i : Int} {N ci : Nat} (t : Nat) {r : vw_C} (ht0 : 0 < t) (ho : uvKd o = 11 + t) (hin : 0 ≤ o ∧ o < n) (hn1 : n ≤ 1000) (ht : (uvTy G)[t]? = some (G.2.1 t, .object r.1)) (hc : uvCl[ci]? = some r) (hci : ci < 11) (ho2 : uvKd o' = ci) (hin2 : 0 ≤ o' ∧ o' < n) (hn : uvLn o = N) (hi : 0 ≤ i ∧ i < N) (hσ : σ' = upS σ (1000 + o) i (o' + 1)) (d : decode cc pc = .ok (.aastore, 1))
    (kk : ∀ (H1 : Heap) (locs1 : List Loc), uvWk G n σ' s H1 locs1 → W p l e R s m args below meth c H1 locs1 cells slots Q (F0 m (pc + 1) ls rest)) : W p l e R s m args below meth c H locs cells slots Q (F0 m pc ls (.ref (G.2.2.1 o') :: .int (iV i) :: .ref (G.2.2.1 o) :: rest)) := by
  have he := uvWs_at (G := G) (n := n) (σ := σ) (ρ := rhoS σ) hin
  rw [uvCe_rr ho ht0] at he
  have he2 := uvWs_at (G := G) (n := n) (σ := σ) (ρ := rhoS σ) hin2
  rw [uvCe_ob ho2 hci] at he2
  have hlt := uvLn_lt o
  have hDk := uvDk Y.2.1 n σ (rhoS σ)
  subst hn; subst hσ
  have h0 : ¬ iV i < 0 := fun q => iV_in hi hlt (Or.inl q)
  have hlt2 : (iV i).toNatClampNeg < uvLn o := Nat.not_le.mp fun q => iV_in hi hlt (Or.inr q)
  obtain ⟨r', hr', cellV, g1, g2, g3, -⟩ := V.1 o'.toNat _ he2
  have hcls := (Y.1.1 ci r hc).2
  obtain ⟨kA, comp, k1, k2, k3, -⟩ := (Y.1.2 t _ ht).2
  have hcomp : comp = G.1.1 ci := Option.some.inj (k3.symm.trans hcls.1)
  subst hcomp
  obtain ⟨kC, hkC, -⟩ := hcls.2
  refine W.aast X.1 X.2.1 (V.1 o.toNat _ he) (fun q h => by cases h) (fun h => by cases h) k1 k2 rfl hkC ⟨h0, by show _ < (arrV _ _ _).slots.size; rw [arrV_size]; exact hlt2⟩ g1 (fun q h => by rw [g3] at h; cases h) (by rw [g2]; exact hkC) (by rw [g2]; exact va_assign hcls) rfl rfl d fun H1 e1 z oq => ?_
  have hP' := V.1.set (e := .inl (G.2.1 t, uvLn o, .inr (.inr (.inr (.inr (va_up (fun (j : Nat) => (rhoS σ o j).map G.2.2.1) (iV i).toNatClampNeg (some (G.2.2.1 o')))))))) hDk he (by
    show H1[G.2.2.1 o]? = some (vp_cell _ _)
    rw [e1]
    rw [vp_cell_q, vp_cell_q, arrV_store]
    congr 2
    funext q
    by_cases hq : q = (iV i).toNatClampNeg
    · subst hq
      simp [updV, va_up, va_rf]
    · simp [updV, va_up, hq]) oq
  refine kk H1 _ ⟨?_, V.2.1.put z oq (hDk.2 o.toNat _ he), by rw [z]; exact V.2.2⟩
  rw [iV_clamp hi hlt, uvWs_setQ hin hn1 ho ht0 hi.1 hin2.1] at hP'
  exact hP'
theorem k_new (X : uvCx p m c cc nL own s args meth rt) (Y : uvGk G s) (V : uvWk G n σ s H locs) {ci N : Nat} {C : String} {T : u_T} {ty : Nat → FieldType} (I : uvCI ci C T N ty) {index : Nat} (ho : uvKd n = ci) (hz : ∀ i : Int, σ n i = 0) (hzr : ∀ i : Int, σ (1000 + n) i = 0) (hd : ∀ j, j < N → defaultValue (ty j) = (if uvIr ci j = true then Value.null else .int 0)) (hw1 : Cond.classLink own index C ∈ TB) (hw2 : Cond.instantiable C N ∈ TB) (hw3 : Cond.initialized C ∈ TB) (hcells : cells + 1 ≤ R.cells) (hslots : slots + N ≤ R.slots) (d : decode cc pc = .ok (.new index, 3))
    (kk : ∀ (H1 : Heap), uvWk G (n + 1) σ s H1 locs → W p l e R s m args below meth c H1 locs (cells + 1) (slots + N) Q (F0 m (pc + 3) ls (.ref (G.2.2.1 n) :: rest))) : W p l e R s m args below meth c H locs cells slots Q (F0 m pc ls rest) := by
  obtain ⟨i1, i2, i3, i4, i5, i6⟩ := I
  have hts := X.2.2.2.2.1
  have hKn := Y.1.1 ci _ i1
  have had := Y.2.1 n
  refine W.newcK X.1 X.2.1 X.2.2.2.1 (hts _ hw1) (hts _ hw2) (hts _ hw3) rfl d hcells hslots hKn.2.1 (h := G.2.2.1 n) (by rw [V.2.2, had]) fun H1 kC hkC e1 z1 o1 => ?_
  have hsz := V.2.2
  have hP' : va_P G.1 uvCl (uvWs G (n + 1) σ (rhoS σ)) H1 := by
    rw [uvWs_succ]
    refine (V.1.kept (fun k x hx => o1 x.1 (by have := (V.1 k x hx).lt; omega))).app (fun k x hx => ?_)
    have hk1 : k < 1 := (List.getElem?_eq_some_iff.mp hx).1
    rw [show k = 0 by omega] at hx
    cases hx
    show va_at G.1 uvCl (G.2.2.1 n, uvCe G σ (rhoS σ) n) H1
    rw [uvCe_ob ho i6]
    refine ⟨_, i1, (u_born ty hts i2 hKn hkC e1 i3).to (fun j hj => ?_)⟩
    rw [hd j hj]
    have hrn : rhoS σ n j = none := by simp [rhoS, hzr]
    have hj5 : j < uvNf ci := by rw [i5]; exact hj
    have e2 : vp_V (uvFs G.2.2.1 σ (rhoS σ) n ci) j = (if uvIr ci j = true then va_rf ((rhoS σ n j).map G.2.2.1) else .int (iV (σ n j))) := by
      unfold vp_V
      rw [List.getD_eq_getElem?_getD, uvFs_at hj5]
      rfl
    rw [e2, hrn, hz]
    rfl
  exact kk H1 ⟨hP', ⟨Nat.le_trans V.2.1.1 (by omega), fun q h1 h2 => by rw [o1 q (by have := V.2.1.1; omega)]; exact V.2.1.2.1 q h1 h2, V.2.1.2.2⟩, by omega⟩
theorem k_newa (X : uvCx p m c cc nL own s args meth rt) (Y : uvGk G s) (V : uvWk G n σ s H locs) {x : Int} {N : Nat} (ho : uvKd n = 11) (hN : uvLn n = N) (hx : x = N) (hb2 : N * 4 ≤ 536870912) (hz : ∀ i : Int, σ n i = 0) (hw1 : Cond.arrayClass .int ∈ TB) (hcells : cells + 1 ≤ R.cells) (hslots : slots + N ≤ R.slots) (d : decode cc pc = .ok (.newarray .int, 2))
    (kk : ∀ (H1 : Heap), uvWk G (n + 1) σ s H1 locs → W p l e R s m args below meth c H1 locs (cells + 1) (slots + N) Q (F0 m (pc + 2) ls (.ref (G.2.2.1 n) :: rest))) : W p l e R s m args below meth c H locs cells slots Q (F0 m pc ls (.int (iV x) :: rest)) := by
  have hts := X.2.2.2.2.1
  have had := Y.2.1 n
  have hwx : wI x = x := wI_id (by omega) (by omega)
  have hcl : (iV x).toNatClampNeg = N := by
    show (wI x).toNat = N
    omega
  have hneg : ¬ iV x < 0 := fun h => by have h2 : wI x < wI 0 := (iV_lt x 0).mp h; have : wI 0 = 0 := rfl; omega
  have hsz := V.2.2
  refine va_newaK (atype := .int) X.1 X.2.1 (hts _ hw1) rfl d rfl hneg hcl hb2 hcells hslots (h := G.2.2.1 n) (by rw [V.2.2, had]) fun H1 cA e1 z1 o1 hAr hNm => ?_
  have hcA : cA = G.2.1 0 := by
    have h1 := (Y.1.2 0 _ rfl).2
    have h2 : s.vm.findClass ("[" ++ (FieldType.int).toString) = some (G.2.1 0) := h1
    exact Option.some.inj (hNm.symm.trans h2)
  subst hcA
  have hP' : va_P G.1 uvCl (uvWs G (n + 1) σ (rhoS σ)) H1 := by
    rw [uvWs_succ]
    refine (V.1.kept (fun k x hx => o1 x.1 (by have := (V.1 k x hx).lt; omega))).app (fun k x hx => ?_)
    have hk1 : k < 1 := (List.getElem?_eq_some_iff.mp hx).1
    rw [show k = 0 by omega] at hx
    cases hx
    show va_at G.1 uvCl (G.2.2.1 n, uvCe G σ (rhoS σ) n) H1
    rw [uvCe_ar ho]
    show H1[G.2.2.1 n]? = some (vp_cell _ _)
    rw [vp_cell_i, e1, hN]
    congr 2
    funext j
    rw [hz]
    rfl
  exact kk H1 ⟨hP', ⟨Nat.le_trans V.2.1.1 (by omega), fun q h1 h2 => by rw [o1 q (by have := V.2.1.1; omega)]; exact V.2.1.2.1 q h1 h2, V.2.1.2.2⟩, by omega⟩
theorem k_newq (X : uvCx p m c cc nL own s args meth rt) (Y : uvGk G s) (V : uvWk G n σ s H locs) {x : Int} {N index : Nat} (t : Nat) {C : String} (ht0 : 0 < t) (ho : uvKd n = 11 + t) (ht : (uvTy G)[t]? = some (G.2.1 t, .object C)) (hover : va_AO C s) (hN : uvLn n = N) (hx : x = N) (hb2 : N * 4 ≤ 536870912) (hzr : ∀ i : Int, σ (1000 + n) i = 0) (hw1 : Cond.classLink own index C ∈ TB) (hcells : cells + 1 ≤ R.cells) (hslots : slots + N ≤ R.slots) (d : decode cc pc = .ok (.anewarray index, 3))
    (kk : ∀ (H1 : Heap), uvWk G (n + 1) σ s H1 locs → W p l e R s m args below meth c H1 locs (cells + 1) (slots + N) Q (F0 m (pc + 3) ls (.ref (G.2.2.1 n) :: rest))) : W p l e R s m args below meth c H locs cells slots Q (F0 m pc ls (.int (iV x) :: rest)) := by
  have hts := X.2.2.2.2.1
  have had := Y.2.1 n
  have hwx : wI x = x := wI_id (by omega) (by omega)
  have hcl : (iV x).toNatClampNeg = N := by
    show (wI x).toNat = N
    omega
  have hneg : ¬ iV x < 0 := fun h => by have h2 : wI x < wI 0 := (iV_lt x 0).mp h; have : wI 0 = 0 := rfl; omega
  have hsz := V.2.2
  refine W.anew X.1 X.2.1 X.2.2.2.1 (hts _ hw1) (va_AO.use hover) rfl d rfl hneg (by rw [hcl]; exact hb2) hcells (by rw [hcl]; exact hslots) fun cA kA comp f1 f2 f3 f4 => ?_
  obtain ⟨kA', comp', k1, k2, k3, k4⟩ := (Y.1.2 t _ ht).2
  have hcA : cA = G.2.1 t := Option.some.inj (f1.symm.trans k4)
  subst hcA
  rw [hcl]
  generalize hH1 : H.push ({ cls := G.2.1 t, slots := Array.replicate N .null, vm := .none } : Cell) = H1
  have z1 : H1.size = H.size + 1 := by rw [← hH1, Array.size_push]
  have e1 : H1[H.size]? = some (arrV (G.2.1 t) N (fun _ => .null)) := by rw [← hH1, Array.getElem?_push_size, ← arrV_new]
  have o1 : ∀ q : Nat, q < H.size → H1[q]? = H[q]? := fun q hq => by rw [← hH1, Array.getElem?_push, if_neg (Nat.ne_of_lt hq)]
  have hHs : H.size = G.2.2.1 n := by rw [hsz, had]
  have hP' : va_P G.1 uvCl (uvWs G (n + 1) σ (rhoS σ)) H1 := by
    rw [uvWs_succ]
    refine (V.1.kept (fun k x hx => o1 x.1 ((V.1 k x hx).lt))).app (fun k x hx => ?_)
    have hk1 : k < 1 := (List.getElem?_eq_some_iff.mp hx).1
    rw [show k = 0 by omega] at hx
    cases hx
    show va_at G.1 uvCl (G.2.2.1 n, uvCe G σ (rhoS σ) n) H1
    rw [uvCe_rr ho ht0]
    show H1[G.2.2.1 n]? = some (vp_cell _ _)
    rw [vp_cell_q, ← hHs, e1, hN]
    congr 2
    funext j
    have hrn : rhoS σ n j = none := by simp [rhoS, hzr]
    rw [hrn]
    rfl
  have := kk H1 ⟨hP', ⟨Nat.le_trans V.2.1.1 (by omega), fun q h1 h2 => by rw [o1 q (by have := V.2.1.1; omega)]; exact V.2.1.2.1 q h1 h2, V.2.1.2.2⟩, by omega⟩
  rw [← hHs] at this
  exact this
/-! ends and calls -/
def uvHk (G : UG) (n : Nat) (σ : St) : Unit → State → Prop := fun _ t => va_P G.1 uvCl (uvWs G n σ (rhoS σ)) t.heap ∧ t.heap.size = G.2.2.1 0 + n
def uvKv (G : UG) (n : Nat) (σ : St) : Array Value → State → Outcome → State → Prop := va_Qv (fun _ => True) (uvHk G n σ) (uvKA G)
def uvKi (G : UG) (r : Int) (n : Nat) (σ : St) : Array Value → State → Outcome → State → Prop := va_Qi (fun r' _ => r' = iV r) (uvHk G n σ) (uvKA G)
def uvPk (G : UG) (n : Nat) (σ : St) (av : List Value) : Array Value → State → Prop := va_Pc av (fun U => (va_P G.1 uvCl (uvWs G n σ (rhoS σ)) U.heap ∧ U.heap.size = G.2.2.1 0 + n) ∧ uvGk G U)
theorem k_rv (X : uvCx p m c cc nL own s args meth none) (V : uvWk G n σ s H locs) (d : decode cc pc = .ok (.return_, 1)) : W p l e R s m args below meth c H locs cells slots (MQ below (uvKv G n σ) args s cells slots (uvKA G)) (F0 m pc ls []) := by
  exact W.vret X.1 X.2.1 X.2.2.2.2.2.1 (fun t ht _ => ⟨⟨(), rfl, trivial, by rw [ht]; exact V.1, by rw [ht]; exact V.2.2⟩, V.2.1.F ht⟩) V.2.1.2.2 d X.2.2.2.2.2.2
theorem k_ri (X : uvCx p m c cc nL own s args meth (some .int)) (V : uvWk G n σ s H locs) {r : Int} (d : decode cc pc = .ok (.ireturn, 1)) : W p l e R s m args below meth c H locs cells slots (MQ below (uvKi G r n σ) args s cells slots (uvKA G)) (F0 m pc ls [.int (iV r)]) := by
  exact W.iret X.1 X.2.1 X.2.2.2.2.2.1 (fun t ht _ => ⟨⟨_, (), rfl, rfl, by rw [ht]; exact V.1, by rw [ht]; exact V.2.2⟩, V.2.1.F ht⟩) V.2.1.2.2 d X.2.2.2.2.2.2
theorem uvBk {G : UG} {n : Nat} {σ : St} {av : List Value} : FrameBlind (uvPk G n σ av) := fun a U g mk q => ⟨q.1, q.2.1, uvGk.same (U := U.calling g mk a) rfl q.2.2⟩
theorem uvPrek (Y : uvGk G s) (V : uvWk G n σ s H locs) (av : List Value) : ∀ U : State, U.heap = H → s.WarmedH U.vm → uvPk G n σ av av.toArray U := fun U hU hW => ⟨rfl, ⟨by rw [hU]; exact V.1, by rw [hU]; exact V.2.2⟩, uvGk.warm hW Y⟩
def uvRmk (rm R : Room) (maxL mc ms cells slots : Nat) : Prop := (rm.cells = mc ∧ rm.slots = ms) ∧ (rm.frames + 1 ≤ R.frames ∧ 8 + (maxL + 11) + rm.locals ≤ R.locals) ∧ cells + mc ≤ R.cells ∧ slots + ms ≤ R.slots
theorem k_runI {y : MethodName} {bytes : ByteArray} {maxL nn index mc ms : Nat} {rm : Room} {As st0 : List Value} {o : Int} {Qc : Array Value → State → Outcome → State → Prop} (X : uvCx p m c cc nL own s args meth rt) (Y : uvGk G s) (V : uvWk G n σ s H locs) (hM : Met l y (.code y bytes maxL none :: TB) rm (uvPk G n σ (.ref (G.2.2.1 o) :: As)) Qc mc ms (uvKA G))
    (hy1 : y.name = "<init>") (hw : Cond.initialized y.cls ∈ TB ∧ Cond.instanceMethod y ∈ TB ∧ Cond.code y bytes maxL none ∈ TB) (hd : y.cls ≠ "java/lang/invoke/MethodHandle" ∧ y.cls ≠ "java/lang/invoke/VarHandle" ∧ (parseMethodDescriptor y.desc).map (fun d => d.parameters.length) = some nn) (hl : Cond.methodLink own index y ∈ TB) (hrm : uvRmk rm R maxL mc ms cells slots) (hn : As.length = nn) (hst : st0 = As.reverse ++ .ref (G.2.2.1 o) :: rest) (hsz : ls.size = nL) (hW : (rest.map fun v => v.category).sum ≤ 8) (d : decode cc pc = .ok (.invokespecial index, 3)) :
    va_Run p l e R s m args below meth c H locs cells slots mc ms (F0 m pc ls st0) rest (Qc (Value.ref (G.2.2.1 o) :: As).toArray) (uvKA G) := by
  have hts := X.2.2.2.2.1
  have hG : GoodIn TB (Cond.code y bytes maxL none :: TB) := tb_gi (fun w h => (List.mem_cons.mp h).elim (fun z => z ▸ hw.2.2) id)
  exact va_runI (Ts := TB) (As := As) (rest := rest) ⟨X.1, X.2.1, X.2.2.1, X.2.2.2.1, hts⟩ hM (cwI nn hts hG rfl hrm.1.1 hrm.1.2 (hts _ hw.1) (hts _ hl) (hts _ hw.2.1) hy1 hd hrm.2.1) ⟨uvBk, uvPrek Y V _⟩ rfl hn hsz hst (lv_room hW) d hrm.2.2
theorem k_runIN {y : MethodName} {host : String} {bytes : ByteArray} {maxL nn index mc ms : Nat} {rm : Room} {As st0 : List Value} {o : Int} {Qc : Array Value → State → Outcome → State → Prop} (X : uvCx p m c cc nL own s args meth rt) (Y : uvGk G s) (V : uvWk G n σ s H locs) (hM : Met l y (.code y bytes maxL none :: TB) rm (uvPk G n σ (.ref (G.2.2.1 o) :: As)) Qc mc ms (uvKA G))
    (hy1 : y.name = "<init>") (hw : Cond.initialized y.cls ∈ TB ∧ Cond.instanceMethod y ∈ TB ∧ Cond.code y bytes maxL none ∈ TB) (hd : y.cls ≠ "java/lang/invoke/MethodHandle" ∧ y.cls ≠ "java/lang/invoke/VarHandle" ∧ (parseMethodDescriptor y.desc).map (fun d => d.parameters.length) = some nn) (hl : va_Nw (.methodLinkNest own index y host) s) (hrm : uvRmk rm R maxL mc ms cells slots) (hn : As.length = nn) (hst : st0 = As.reverse ++ .ref (G.2.2.1 o) :: rest) (hsz : ls.size = nL) (hW : (rest.map fun v => v.category).sum ≤ 8) (d : decode cc pc = .ok (.invokespecial index, 3)) :
    va_Run p l e R s m args below meth c H locs cells slots mc ms (F0 m pc ls st0) rest (Qc (Value.ref (G.2.2.1 o) :: As).toArray) (uvKA G) := by
  have hts := X.2.2.2.2.1
  have hG : GoodIn TB (Cond.code y bytes maxL none :: TB) := tb_gi (fun w h => (List.mem_cons.mp h).elim (fun z => z ▸ hw.2.2) id)
  exact va_runIN (Ts := TB) (As := As) (rest := rest) ⟨X.1, X.2.1, X.2.2.1, X.2.2.2.1, hts⟩ hM ⟨va_cnB nn hts hG rfl hrm.1.1 hrm.1.2 hl (hts _ hw.1) hd hrm.2.1, hy1, hts _ hw.2.1⟩ ⟨uvBk, uvPrek Y V _⟩ rfl hn hsz hst (lv_room hW) d hrm.2.2
theorem k_runV {y : MethodName} {C : String} {bytes : ByteArray} {maxL nn index : Nat} {ret : Option FieldType} {rm : Room} {As st0 : List Value} {o : Int} {Qc : Array Value → State → Outcome → State → Prop} (X : uvCx p m c cc nL own s args meth rt) (Y : uvGk G s) (V : uvWk G n σ s H locs) (hM : Met l y (.code y bytes maxL ret :: TB) rm (uvPk G n σ (.ref (G.2.2.1 o) :: As)) Qc 0 0 (uvKA G))
    (hy : uvMV y C bytes maxL ret nn) (hl : Cond.methodLink own index y ∈ TB) {ci N : Nat} {T : u_T} {ty : Nat → FieldType} (I : uvCI ci C T N ty) (ho : uvKd o = ci) (hin : 0 ≤ o ∧ o < n) (hrm : uvRmk rm R maxL 0 0 cells slots) (hn : As.length = nn) (hst : st0 = As.reverse ++ .ref (G.2.2.1 o) :: rest) (hsz : ls.size = nL) (hW : (rest.map fun v => v.category).sum ≤ 8) (d : decode cc pc = .ok (.invokevirtual index, 3)) :
    va_Run p l e R s m args below meth c H locs cells slots 0 0 (F0 m pc ls st0) rest (Qc (Value.ref (G.2.2.1 o) :: As).toArray) (uvKA G) := by
  obtain ⟨⟨w1, w2, w3, w4⟩, hC, hd⟩ := hy
  subst hC
  have he := uvWs_at (G := G) (n := n) (σ := σ) (ρ := rhoS σ) hin
  rw [uvCe_ob ho I.2.2.2.2.2] at he
  have hts := X.2.2.2.2.1
  have hG : GoodIn TB (Cond.code y bytes maxL ret :: TB) := tb_gi (fun w h => (List.mem_cons.mp h).elim (fun z => z ▸ w4) id)
  exact va_runV (Ts := TB) (As := As) (rest := rest) ⟨X.1, X.2.1, X.2.2.1, X.2.2.2.1, hts⟩ hM ⟨callB_of nn hts hG rfl hrm.1.1 hrm.1.2 (hts _ w3) (hts _ hl) hd hrm.2.1, hts _ w1, hts _ w2⟩ ⟨uvBk, va_recv Y.1 V.1 I.1 he, uvPrek Y V _⟩ rfl hn hsz hst (lv_room hW) d hrm.2.2
theorem k_kv {st0 : List Value} {a : Array Value} {n' mc ms : Nat} (V : uvWk G n σ s H locs) (hr : va_Run p l e R s m args below meth c H locs cells slots mc ms (F0 m pc ls st0) rest (uvKv G n' σ' a) (uvKA G))
    (kk : ∀ (H1 : Heap) (locs1 : List Loc), uvWk G n' σ' s H1 locs1 → W p l e R s m args below meth c H1 locs1 (cells + mc) (slots + ms) Q (F0 m (pc + 3) ls rest)) : W p l e R s m args below meth c H locs cells slots Q (F0 m pc ls st0) :=
  va_callv hr V.2.1 (fun _ _ h => h) (fun _ h => h) (fun _ t H1 locs1 ht _ _ hB _ _ hS => kk H1 locs1 ⟨by have hB := hB.1; rw [ht] at hB; exact hB, hS, by have hB := hB.2; rw [ht] at hB; exact hB⟩)
theorem k_ki {st0 : List Value} {a : Array Value} {n' mc ms : Nat} {r : Int} (V : uvWk G n σ s H locs) (hr : va_Run p l e R s m args below meth c H locs cells slots mc ms (F0 m pc ls st0) rest (uvKi G r n' σ' a) (uvKA G))
    (kk : ∀ (H1 : Heap) (locs1 : List Loc), uvWk G n' σ' s H1 locs1 → W p l e R s m args below meth c H1 locs1 (cells + mc) (slots + ms) Q (F0 m (pc + 3) ls (.int (iV r) :: rest))) : W p l e R s m args below meth c H locs cells slots Q (F0 m pc ls st0) :=
  va_calli hr V.2.1 (fun _ _ h => h) (fun _ h => h) (fun r' _ t H1 locs1 ht _ hp hB _ _ hS => by subst hp; exact kk H1 locs1 ⟨by have hB := hB.1; rw [ht] at hB; exact hB, hS, by have hB := hB.2; rw [ht] at hB; exact hB⟩)
theorem k_obj (X : uvCx p m c cc nL own s args meth rt) {a idx : Nat} (hl : Cond.methodLink own idx Lib.objectInit ∈ TB) (hw : Cond.instanceMethod Lib.objectInit ∈ TB ∧ Cond.code Lib.objectInit ⟨#[0xb1]⟩ 1 none ∈ TB) (hsz : ls.size = nL) (hf : 1 ≤ R.frames) (hlo : (rest.map fun v => v.category).sum + 12 ≤ R.locals) (d : decode cc pc = .ok (.invokespecial idx, 3))
    (kk : W p l e R s m args below meth c H locs cells slots Q (F0 m (pc + 3) ls rest)) : W p l e R s m args below meth c H locs cells slots Q (F0 m pc ls (.ref a :: rest)) := by
  have hts := X.2.2.2.2.1
  exact W.objInit X.1 X.2.1 X.2.2.2.1 (hts _ hl) (hts _ hw.1) (hts _ hw.2) rfl (by show ls.size = c.maxLocals; rw [hsz, X.2.2.1]) rfl d hf (by show 2 * 0 + _ + 12 ≤ _; omega) kk
end UVK
theorem k_met {l : Launch} {G : UG} {n : Nat} {σ : St} {y : MethodName} {own : String} {cc : ByteArray} {maxL mc ms : Nat} {ret : Option FieldType} {rm : Room} {av : List Value} {Qc : Array Value → State → Outcome → State → Prop} (hpl : plainName y.cls = true) (hown : y.cls = own) (hsl : (lg_sl av).length ≤ maxL) {lv : List (Nat × Value)} (hlv : lv_args 0 av = lv)
    (body : ∀ (p : Program) (e : Env) (s : State) (m : MethodId) (below : List Frame) (meth : Method) (c : Code) (ls : Array Slot), uvCx p m c cc maxL own s av.toArray meth ret → uvGk G s → uvWk G n σ s s.heap [] → lv_has ls maxL lv → meth.name = y.name → W p l e rm s m av.toArray below meth c s.heap [] 0 0 (MQ below Qc av.toArray s mc ms (uvKA G)) (F0 m 0 ls [])) :
    Met l y (.code y cc maxL ret :: TB) rm (uvPk G n σ av) Qc mc ms (uvKA G) := by
  refine Met.ofW (cc := cc) (maxL := maxL) (ret := ret) hpl rfl ?_
  intro p e s m args below meth c s₁ B hml hv
  obtain ⟨rfl, ⟨hP, hZ⟩, hY⟩ := hv
  have hts := atoms_spec (ws := .code y cc maxL ret :: TB) B.pre
  have hown' : s.vm.findClass own = some m.cls := by rw [← hown]; exact findClass_of_methodNamed B.named
  rw [lg_entry_eq]
  exact body p e s m below meth c _ ⟨B.exec, B.bytes, hml, hown', fun w h => hts w (List.mem_cons_of_mem _ h), B.returns, B.notSynchronized⟩ hY ⟨hP, va_S.rf, hZ⟩ (hlv ▸ lv_entry av hsl) (name_of_methodNamed B.named B.method).1
