/-! ===== what each part rests on ===== -/
theorem upS_of {σ : St} {o i x o' : Int} (h : ¬ o' = o) : upS σ o i x o' = σ o' := funext fun _ => upS_o h
theorem cU_c {σ τ α β : St} (h : ∀ o, 1 ≤ o → o ≤ 9 → τ o = σ o) (h0 : β 0 0 = α 0 0) (ha : ∀ o, 1 ≤ o → o ≤ 6 → β o = α o) (hh : cU σ α) : cU τ β := by
  unfold cU isNxt isLst at *
  rw [h 1 (by omega) (by omega), h 2 (by omega) (by omega), h 3 (by omega) (by omega), h 4 (by omega) (by omega), h 5 (by omega) (by omega), h 6 (by omega) (by omega), h 7 (by omega) (by omega), h 8 (by omega) (by omega), h 9 (by omega) (by omega), h0, ha 1 (by omega) (by omega), ha 2 (by omega) (by omega), ha 3 (by omega) (by omega), ha 4 (by omega) (by omega), ha 5 (by omega) (by omega), ha 6 (by omega) (by omega)]
  exact hh
theorem cR_c {σ τ α β : St} (h : ∀ o, 10 ≤ o → o ≤ 13 → τ o = σ o) (h0 : β 0 1 = α 0 1) (ha : ∀ o, 7 ≤ o → o ≤ 9 → β o = α o) (hh : cR σ α) : cR τ β := by
  unfold cR at *
  rw [h 10 (by omega) (by omega), h 11 (by omega) (by omega), h 12 (by omega) (by omega), h 13 (by omega) (by omega), h0, ha 7 (by omega) (by omega), ha 8 (by omega) (by omega), ha 9 (by omega) (by omega)]
  exact hh
theorem cK_c {σ τ α β : St} (h0 : τ 0 = σ 0) (h1 : τ 34 = σ 34) (h2 : ∀ o, 64 ≤ o → o ≤ 67 → τ o = σ o) (ha : ∀ i, 2 ≤ i → i ≤ 5 → β 0 i = α 0 i) (hb : β 10 = α 10) (hh : cK σ α) : cK τ β := by
  unfold cK at *
  rw [h0, h1, h2 64 (by omega) (by omega), h2 65 (by omega) (by omega), h2 66 (by omega) (by omega), h2 67 (by omega) (by omega), ha 2 (by omega) (by omega), ha 3 (by omega) (by omega), ha 4 (by omega) (by omega), ha 5 (by omega) (by omega), hb]
  exact hh
theorem cX_c {σ τ α β : St} (h0 : τ 21 3 = σ 21 3) (h1 : τ 22 = σ 22) (ha : β 0 6 = α 0 6) (hb : β 11 = α 11) (hh : cX σ α) : cX τ β := by
  unfold cX at *
  rw [h0, h1, ha, hb]
  exact hh
theorem cT_c {σ τ α β : St} (h : ∀ o, 14 ≤ o → o ≤ 20 → τ o = σ o) (h0 : ∀ i, 7 ≤ i → i ≤ 9 → β 0 i = α 0 i) (ha : ∀ o, 12 ≤ o → o ≤ 16 → β o = α o) (hh : cT σ α) : cT τ β := by
  unfold cT at *
  rw [h 14 (by omega) (by omega), h 15 (by omega) (by omega), h 16 (by omega) (by omega), h 17 (by omega) (by omega), h 18 (by omega) (by omega), h 19 (by omega) (by omega), h 20 (by omega) (by omega), h0 7 (by omega) (by omega), h0 8 (by omega) (by omega), h0 9 (by omega) (by omega), ha 12 (by omega) (by omega), ha 13 (by omega) (by omega), ha 14 (by omega) (by omega), ha 15 (by omega) (by omega), ha 16 (by omega) (by omega)]
  exact hh
theorem mU_c {σ τ α β : St} (h0 : τ 118 1 = σ 118 1) (h : τ 119 = σ 119) (hb : β 0 0 = α 0 0) (ha : ∀ o, 1 ≤ o → o ≤ 6 → β o = α o) (hh : mU σ α) : mU τ β := by
  unfold mU at *
  rw [h0, h, hb]
  exact ⟨hh.1, fun u w h1 h2 h3 h4 => by rw [ha (1 + w) (by omega) (by omega)]; exact hh.2 u w h1 h2 h3 h4⟩
theorem mR_c {σ τ α β : St} (h0 : τ 118 3 = σ 118 3) (h : τ 120 = σ 120) (hb : β 0 1 = α 0 1) (ha : ∀ o, 7 ≤ o → o ≤ 9 → β o = α o) (hh : mR σ α) : mR τ β := by
  unfold mR at *
  rw [h0, h, hb]
  exact ⟨hh.1, fun u w h1 h2 h3 h4 => by rw [ha (7 + w) (by omega) (by omega)]; exact hh.2 u w h1 h2 h3 h4⟩
theorem mK_c {σ τ α β : St} (h0 : τ 118 5 = σ 118 5) (h7 : τ 118 27 = σ 118 27) (h1 : τ 126 = σ 126) (h2 : τ 121 = σ 121) (ha : ∀ i, 2 ≤ i → i ≤ 5 → β 0 i = α 0 i) (hb : β 10 = α 10) (hh : mK σ α) : mK τ β := by
  unfold mK at *
  rw [h0, h1, h2, h7, ha 2 (by omega) (by omega), ha 3 (by omega) (by omega), ha 4 (by omega) (by omega), ha 5 (by omega) (by omega), hb]
  exact hh
theorem mX_c {σ τ α β : St} (h0 : τ 118 14 = σ 118 14) (h1 : τ 127 = σ 127) (ha : β 0 6 = α 0 6) (hb : β 11 = α 11) (hh : mX σ α) : mX τ β := by
  unfold mX at *
  rw [h0, h1, ha, hb]
  exact hh
theorem mT_c {σ τ α β : St} (h0 : τ 118 10 = σ 118 10) (h1 : τ 118 11 = σ 118 11) (h : ∀ o, 122 ≤ o → o ≤ 125 → τ o = σ o) (hb : ∀ i, 7 ≤ i → i ≤ 9 → β 0 i = α 0 i) (ha : ∀ o, 12 ≤ o → o ≤ 15 → β o = α o) (hh : mT σ α) : mT τ β := by
  unfold mT at *
  rw [h0, h1, h 122 (by omega) (by omega), h 123 (by omega) (by omega), h 124 (by omega) (by omega), h 125 (by omega) (by omega), hb 7 (by omega) (by omega), hb 8 (by omega) (by omega), hb 9 (by omega) (by omega), ha 12 (by omega) (by omega), ha 13 (by omega) (by omega), ha 14 (by omega) (by omega), ha 15 (by omega) (by omega)]
  exact hh
theorem wU_c {α β : St} (h0 : β 0 0 = α 0 0) (ha : ∀ o, 1 ≤ o → o ≤ 6 → β o = α o) (hh : wU α) : wU β := by
  unfold wU at *
  rw [h0, ha 1 (by omega) (by omega), ha 2 (by omega) (by omega), ha 3 (by omega) (by omega), ha 4 (by omega) (by omega), ha 5 (by omega) (by omega), ha 6 (by omega) (by omega)]
  exact hh
theorem wR_c {α β : St} (h0 : β 0 1 = α 0 1) (ha : ∀ o, 7 ≤ o → o ≤ 9 → β o = α o) (hh : wR α) : wR β := by
  unfold wR at *
  rw [h0, ha 7 (by omega) (by omega), ha 8 (by omega) (by omega), ha 9 (by omega) (by omega)]
  exact hh
theorem wK_c {α β : St} (h0 : β 0 2 = α 0 2) (ha : β 10 = α 10) (hh : wK α) : wK β := by
  unfold wK at *
  rw [h0, ha]
  exact hh
theorem wX_c {α β : St} (h0 : β 0 6 = α 0 6) (ha : β 11 = α 11) (hh : wX α) : wX β := by
  unfold wX at *
  rw [h0, ha]
  exact hh
theorem wT_c {α β : St} (h0 : ∀ i, 7 ≤ i → i ≤ 9 → β 0 i = α 0 i) (ha : ∀ o, 12 ≤ o → o ≤ 17 → β o = α o) (hh : wT α) : wT β := by
  unfold wT at *
  rw [h0 7 (by omega) (by omega), h0 8 (by omega) (by omega), h0 9 (by omega) (by omega), ha 12 (by omega) (by omega), ha 13 (by omega) (by omega), ha 14 (by omega) (by omega), ha 15 (by omega) (by omega), ha 16 (by omega) (by omega), ha 17 (by omega) (by omega)]
  exact hh
theorem IC_c {σ τ α : St} (h : ∀ o, o < 118 → τ o = σ o) (hh : IC σ α) : IC τ α :=
  ⟨cU_c (fun o _ _ => h o (by omega)) rfl (fun _ _ _ => rfl) hh.1, cR_c (fun o _ _ => h o (by omega)) rfl (fun _ _ _ => rfl) hh.2.1, cK_c (h 0 (by omega)) (h 34 (by omega)) (fun o _ _ => h o (by omega)) (fun _ _ _ => rfl) rfl hh.2.2.1, cX_c (by rw [h 21 (by omega)]) (h 22 (by omega)) rfl rfl hh.2.2.2.1, cT_c (fun o _ _ => h o (by omega)) (fun _ _ _ => rfl) (fun _ _ _ => rfl) hh.2.2.2.2⟩
theorem IM_c {σ τ α : St} (h : ∀ o, 118 ≤ o → τ o = σ o) (hh : IM σ α) : IM τ α :=
  ⟨mU_c (by rw [h 118 (by omega)]) (h 119 (by omega)) rfl (fun _ _ _ => rfl) hh.1, mR_c (by rw [h 118 (by omega)]) (h 120 (by omega)) rfl (fun _ _ _ => rfl) hh.2.1, mK_c (by rw [h 118 (by omega)]) (by rw [h 118 (by omega)]) (h 126 (by omega)) (h 121 (by omega)) (fun _ _ _ => rfl) rfl hh.2.2.1, mX_c (by rw [h 118 (by omega)]) (h 127 (by omega)) rfl rfl hh.2.2.2.1, mT_c (by rw [h 118 (by omega)]) (by rw [h 118 (by omega)]) (fun o _ _ => h o (by omega)) (fun _ _ _ => rfl) (fun _ _ _ => rfl) hh.2.2.2.2⟩
/-! one part changes -/
theorem IC_chU {σ τ α β : St} (hs : ∀ o, (o < 1 ∨ 9 < o) → τ o = σ o) (h0 : ∀ i, ¬ i = 0 → β 0 i = α 0 i) (ha : ∀ o, 7 ≤ o → β o = α o) (h : IC σ α) (hk : cU τ β) : IC τ β :=
  ⟨hk, cR_c (fun o _ _ => hs o (by omega)) (h0 1 (by omega)) (fun o _ _ => ha o (by omega)) h.2.1, cK_c (hs 0 (by omega)) (hs 34 (by omega)) (fun o _ _ => hs o (by omega)) (fun i _ _ => h0 i (by omega)) (ha 10 (by omega)) h.2.2.1, cX_c (by rw [hs 21 (by omega)]) (hs 22 (by omega)) (h0 6 (by omega)) (ha 11 (by omega)) h.2.2.2.1, cT_c (fun o _ _ => hs o (by omega)) (fun i _ _ => h0 i (by omega)) (fun o _ _ => ha o (by omega)) h.2.2.2.2⟩
theorem IC_chR {σ τ α β : St} (hs : ∀ o, (o < 10 ∨ 13 < o) → (∀ i, (o = 21 → i = 3) → τ o i = σ o i)) (h0 : ∀ i, ¬ i = 1 → β 0 i = α 0 i) (ha : ∀ o, 1 ≤ o → (o < 7 ∨ 9 < o) → β o = α o) (h : IC σ α) (hk : cR τ β) : IC τ β := by
  have hs2 : ∀ o, (o < 10 ∨ 13 < o) → ¬ o = 21 → τ o = σ o := fun o h1 h2 => funext fun i => hs o h1 i (fun z => absurd z h2)
  exact ⟨cU_c (fun o _ _ => hs2 o (by omega) (by omega)) (h0 0 (by omega)) (fun o _ _ => ha o (by omega) (by omega)) h.1, hk, cK_c (hs2 0 (by omega) (by omega)) (hs2 34 (by omega) (by omega)) (fun o _ _ => hs2 o (by omega) (by omega)) (fun i _ _ => h0 i (by omega)) (ha 10 (by omega) (by omega)) h.2.2.1, cX_c (hs 21 (by omega) 3 (fun _ => rfl)) (hs2 22 (by omega) (by omega)) (h0 6 (by omega)) (ha 11 (by omega) (by omega)) h.2.2.2.1, cT_c (fun o _ _ => hs2 o (by omega) (by omega)) (fun i _ _ => h0 i (by omega)) (fun o _ _ => ha o (by omega) (by omega)) h.2.2.2.2⟩
theorem IC_chK {σ τ α β : St} (hs : ∀ o, ¬ o = 0 → ¬ o = 34 → τ o = σ o) (h0 : ∀ i, (i < 2 ∨ 5 < i) → β 0 i = α 0 i) (ha : ∀ o, 1 ≤ o → ¬ o = 10 → β o = α o) (h : IC σ α) (hk : cK τ β) : IC τ β :=
  ⟨cU_c (fun o _ _ => hs o (by omega) (by omega)) (h0 0 (by omega)) (fun o _ _ => ha o (by omega) (by omega)) h.1, cR_c (fun o _ _ => hs o (by omega) (by omega)) (h0 1 (by omega)) (fun o _ _ => ha o (by omega) (by omega)) h.2.1, hk, cX_c (by rw [hs 21 (by omega) (by omega)]) (hs 22 (by omega) (by omega)) (h0 6 (by omega)) (ha 11 (by omega) (by omega)) h.2.2.2.1, cT_c (fun o _ _ => hs o (by omega) (by omega)) (fun i _ _ => h0 i (by omega)) (fun o _ _ => ha o (by omega) (by omega)) h.2.2.2.2⟩
theorem IC_chX {σ τ α β : St} (hs : ∀ o, ¬ o = 21 → ¬ o = 22 → τ o = σ o) (h0 : ∀ i, ¬ i = 6 → β 0 i = α 0 i) (ha : ∀ o, 1 ≤ o → ¬ o = 11 → β o = α o) (h : IC σ α) (hk : cX τ β) : IC τ β :=
  ⟨cU_c (fun o _ _ => hs o (by omega) (by omega)) (h0 0 (by omega)) (fun o _ _ => ha o (by omega) (by omega)) h.1, cR_c (fun o _ _ => hs o (by omega) (by omega)) (h0 1 (by omega)) (fun o _ _ => ha o (by omega) (by omega)) h.2.1, cK_c (hs 0 (by omega) (by omega)) (hs 34 (by omega) (by omega)) (fun o _ _ => hs o (by omega) (by omega)) (fun i _ _ => h0 i (by omega)) (ha 10 (by omega) (by omega)) h.2.2.1, hk, cT_c (fun o _ _ => hs o (by omega) (by omega)) (fun i _ _ => h0 i (by omega)) (fun o _ _ => ha o (by omega) (by omega)) h.2.2.2.2⟩
theorem IC_chT {σ τ α β : St} (hs : ∀ o, (o < 14 ∨ 20 < o) → (∀ i, (o = 21 → i = 3) → τ o i = σ o i)) (h0 : ∀ i, (i < 7 ∨ 9 < i) → β 0 i = α 0 i) (ha : ∀ o, 1 ≤ o → o < 12 → β o = α o) (h : IC σ α) (hk : cT τ β) : IC τ β := by
  have hs2 : ∀ o, (o < 14 ∨ 20 < o) → ¬ o = 21 → τ o = σ o := fun o h1 h2 => funext fun i => hs o h1 i (fun z => absurd z h2)
  exact ⟨cU_c (fun o _ _ => hs2 o (by omega) (by omega)) (h0 0 (by omega)) (fun o _ _ => ha o (by omega) (by omega)) h.1, cR_c (fun o _ _ => hs2 o (by omega) (by omega)) (h0 1 (by omega)) (fun o _ _ => ha o (by omega) (by omega)) h.2.1, cK_c (hs2 0 (by omega) (by omega)) (hs2 34 (by omega) (by omega)) (fun o _ _ => hs2 o (by omega) (by omega)) (fun i _ _ => h0 i (by omega)) (ha 10 (by omega) (by omega)) h.2.2.1, cX_c (hs 21 (by omega) 3 (fun _ => rfl)) (hs2 22 (by omega) (by omega)) (h0 6 (by omega)) (ha 11 (by omega) (by omega)) h.2.2.2.1, hk⟩
/-- what the class keeps for itself (drafts, choices, tallies, path) doesn't matter -/
theorem IC_scr {σ τ α : St} (hs : ∀ o, (o < 23 ∨ o = 34 ∨ (63 < o ∧ o < 68)) → (∀ i, (o = 21 → i = 3) → τ o i = σ o i)) (h : IC σ α) : IC τ α := by
  have hs2 : ∀ o, (o < 23 ∨ o = 34 ∨ (63 < o ∧ o < 68)) → ¬ o = 21 → τ o = σ o := fun o h1 h2 => funext fun i => hs o h1 i (fun z => absurd z h2)
  exact ⟨cU_c (fun o _ _ => hs2 o (by omega) (by omega)) rfl (fun _ _ _ => rfl) h.1, cR_c (fun o _ _ => hs2 o (by omega) (by omega)) rfl (fun _ _ _ => rfl) h.2.1, cK_c (hs2 0 (by omega) (by omega)) (hs2 34 (by omega) (by omega)) (fun o _ _ => hs2 o (by omega) (by omega)) (fun _ _ _ => rfl) rfl h.2.2.1, cX_c (hs 21 (by omega) 3 (fun _ => rfl)) (hs2 22 (by omega) (by omega)) rfl rfl h.2.2.2.1, cT_c (fun o _ _ => hs2 o (by omega) (by omega)) (fun _ _ _ => rfl) (fun _ _ _ => rfl) h.2.2.2.2⟩
/-- which fields of the reference matter -/
def mF (i : Int) : Prop := i = 1 ∨ i = 3 ∨ i = 5 ∨ i = 10 ∨ i = 11 ∨ i = 14 ∨ i = 27
theorem IM_gen {σ τ α β : St} (hU : mU τ β ∨ (τ 118 1 = σ 118 1 ∧ τ 119 = σ 119 ∧ β 0 0 = α 0 0 ∧ ∀ o, 1 ≤ o → o ≤ 6 → β o = α o)) (hR : mR τ β ∨ (τ 118 3 = σ 118 3 ∧ τ 120 = σ 120 ∧ β 0 1 = α 0 1 ∧ ∀ o, 7 ≤ o → o ≤ 9 → β o = α o)) (hK : mK τ β ∨ ((τ 118 5 = σ 118 5 ∧ τ 118 27 = σ 118 27 ∧ τ 126 = σ 126 ∧ τ 121 = σ 121) ∧ (∀ i, 2 ≤ i → i ≤ 5 → β 0 i = α 0 i) ∧ β 10 = α 10)) (hX : mX τ β ∨ (τ 118 14 = σ 118 14 ∧ τ 127 = σ 127 ∧ β 0 6 = α 0 6 ∧ β 11 = α 11)) (hT : mT τ β ∨ ((τ 118 10 = σ 118 10 ∧ τ 118 11 = σ 118 11) ∧ (∀ o, 122 ≤ o → o ≤ 125 → τ o = σ o) ∧ (∀ i, 7 ≤ i → i ≤ 9 → β 0 i = α 0 i) ∧ ∀ o, 12 ≤ o → o ≤ 15 → β o = α o)) (h : IM σ α) : IM τ β :=
  ⟨hU.elim id (fun q => mU_c q.1 q.2.1 q.2.2.1 q.2.2.2 h.1), hR.elim id (fun q => mR_c q.1 q.2.1 q.2.2.1 q.2.2.2 h.2.1), hK.elim id (fun q => mK_c q.1.1 q.1.2.1 q.1.2.2.1 q.1.2.2.2 q.2.1 q.2.2 h.2.2.1), hX.elim id (fun q => mX_c q.1 q.2.1 q.2.2.1 q.2.2.2 h.2.2.2.1), hT.elim id (fun q => mT_c q.1.1 q.1.2 q.2.1 q.2.2.1 q.2.2.2 h.2.2.2.2)⟩
theorem IM_chU {σ τ α β : St} (hf : ∀ i, mF i → ¬ i = 1 → τ 118 i = σ 118 i) (hs : ∀ o, 120 ≤ o → o ≤ 127 → τ o = σ o) (h0 : ∀ i, ¬ i = 0 → β 0 i = α 0 i) (ha : ∀ o, 7 ≤ o → β o = α o) (h : IM σ α) (hk : mU τ β) : IM τ β := by
  unfold mF at hf
  exact IM_gen (Or.inl hk) (Or.inr ⟨hf 3 (by omega) (by omega), hs 120 (by omega) (by omega), h0 1 (by omega), fun o _ _ => ha o (by omega)⟩) (Or.inr ⟨⟨hf 5 (by omega) (by omega), hf 27 (by omega) (by omega), hs 126 (by omega) (by omega), hs 121 (by omega) (by omega)⟩, fun i _ _ => h0 i (by omega), ha 10 (by omega)⟩) (Or.inr ⟨hf 14 (by omega) (by omega), hs 127 (by omega) (by omega), h0 6 (by omega), ha 11 (by omega)⟩) (Or.inr ⟨⟨hf 10 (by omega) (by omega), hf 11 (by omega) (by omega)⟩, fun o _ _ => hs o (by omega) (by omega), fun i _ _ => h0 i (by omega), fun o _ _ => ha o (by omega)⟩) h
theorem IM_chR {σ τ α β : St} (hf : ∀ i, mF i → ¬ i = 3 → τ 118 i = σ 118 i) (hs : ∀ o, 119 ≤ o → ¬ o = 120 → o ≤ 127 → τ o = σ o) (h0 : ∀ i, ¬ i = 1 → β 0 i = α 0 i) (ha : ∀ o, 1 ≤ o → (o < 7 ∨ 9 < o) → β o = α o) (h : IM σ α) (hk : mR τ β) : IM τ β := by
  unfold mF at hf
  exact IM_gen (Or.inr ⟨hf 1 (by omega) (by omega), hs 119 (by omega) (by omega) (by omega), h0 0 (by omega), fun o _ _ => ha o (by omega) (by omega)⟩) (Or.inl hk) (Or.inr ⟨⟨hf 5 (by omega) (by omega), hf 27 (by omega) (by omega), hs 126 (by omega) (by omega) (by omega), hs 121 (by omega) (by omega) (by omega)⟩, fun i _ _ => h0 i (by omega), ha 10 (by omega) (by omega)⟩) (Or.inr ⟨hf 14 (by omega) (by omega), hs 127 (by omega) (by omega) (by omega), h0 6 (by omega), ha 11 (by omega) (by omega)⟩) (Or.inr ⟨⟨hf 10 (by omega) (by omega), hf 11 (by omega) (by omega)⟩, fun o _ _ => hs o (by omega) (by omega) (by omega), fun i _ _ => h0 i (by omega), fun o _ _ => ha o (by omega) (by omega)⟩) h
theorem IM_chK {σ τ α β : St} (hf : ∀ i, mF i → ¬ i = 5 → ¬ i = 27 → τ 118 i = σ 118 i) (hs : ∀ o, 119 ≤ o → o ≤ 127 → ¬ o = 121 → ¬ o = 126 → τ o = σ o) (h0 : ∀ i, (i < 2 ∨ 5 < i) → β 0 i = α 0 i) (ha : ∀ o, 1 ≤ o → ¬ o = 10 → β o = α o) (h : IM σ α) (hk : mK τ β) : IM τ β := by
  unfold mF at hf
  exact IM_gen (Or.inr ⟨hf 1 (by omega) (by omega) (by omega), hs 119 (by omega) (by omega) (by omega) (by omega), h0 0 (by omega), fun o _ _ => ha o (by omega) (by omega)⟩) (Or.inr ⟨hf 3 (by omega) (by omega) (by omega), hs 120 (by omega) (by omega) (by omega) (by omega), h0 1 (by omega), fun o _ _ => ha o (by omega) (by omega)⟩) (Or.inl hk) (Or.inr ⟨hf 14 (by omega) (by omega) (by omega), hs 127 (by omega) (by omega) (by omega) (by omega), h0 6 (by omega), ha 11 (by omega) (by omega)⟩) (Or.inr ⟨⟨hf 10 (by omega) (by omega) (by omega), hf 11 (by omega) (by omega) (by omega)⟩, fun o _ _ => hs o (by omega) (by omega) (by omega) (by omega), fun i _ _ => h0 i (by omega), fun o _ _ => ha o (by omega) (by omega)⟩) h
theorem IM_chX {σ τ α β : St} (hf : ∀ i, mF i → ¬ i = 14 → τ 118 i = σ 118 i) (hs : ∀ o, 119 ≤ o → o ≤ 126 → τ o = σ o) (h0 : ∀ i, ¬ i = 6 → β 0 i = α 0 i) (ha : ∀ o, 1 ≤ o → ¬ o = 11 → β o = α o) (h : IM σ α) (hk : mX τ β) : IM τ β := by
  unfold mF at hf
  exact IM_gen (Or.inr ⟨hf 1 (by omega) (by omega), hs 119 (by omega) (by omega), h0 0 (by omega), fun o _ _ => ha o (by omega) (by omega)⟩) (Or.inr ⟨hf 3 (by omega) (by omega), hs 120 (by omega) (by omega), h0 1 (by omega), fun o _ _ => ha o (by omega) (by omega)⟩) (Or.inr ⟨⟨hf 5 (by omega) (by omega), hf 27 (by omega) (by omega), hs 126 (by omega) (by omega), hs 121 (by omega) (by omega)⟩, fun i _ _ => h0 i (by omega), ha 10 (by omega) (by omega)⟩) (Or.inl hk) (Or.inr ⟨⟨hf 10 (by omega) (by omega), hf 11 (by omega) (by omega)⟩, fun o _ _ => hs o (by omega) (by omega), fun i _ _ => h0 i (by omega), fun o _ _ => ha o (by omega) (by omega)⟩) h
theorem IM_chT {σ τ α β : St} (hf : ∀ i, mF i → ¬ i = 10 → ¬ i = 11 → τ 118 i = σ 118 i) (hs : ∀ o, 119 ≤ o → o ≤ 127 → (o < 122 ∨ 125 < o) → τ o = σ o) (h0 : ∀ i, (i < 7 ∨ 9 < i) → β 0 i = α 0 i) (ha : ∀ o, 1 ≤ o → o < 12 → β o = α o) (h : IM σ α) (hk : mT τ β) : IM τ β := by
  unfold mF at hf
  exact IM_gen (Or.inr ⟨hf 1 (by omega) (by omega) (by omega), hs 119 (by omega) (by omega) (by omega), h0 0 (by omega), fun o _ _ => ha o (by omega) (by omega)⟩) (Or.inr ⟨hf 3 (by omega) (by omega) (by omega), hs 120 (by omega) (by omega) (by omega), h0 1 (by omega), fun o _ _ => ha o (by omega) (by omega)⟩) (Or.inr ⟨⟨hf 5 (by omega) (by omega) (by omega), hf 27 (by omega) (by omega) (by omega), hs 126 (by omega) (by omega) (by omega), hs 121 (by omega) (by omega) (by omega)⟩, fun i _ _ => h0 i (by omega), ha 10 (by omega) (by omega)⟩) (Or.inr ⟨hf 14 (by omega) (by omega) (by omega), hs 127 (by omega) (by omega) (by omega), h0 6 (by omega), ha 11 (by omega) (by omega)⟩) (Or.inl hk) h
theorem IM_scr {σ τ α : St} (hf : ∀ i, mF i → τ 118 i = σ 118 i) (hs : ∀ o, 119 ≤ o → o ≤ 127 → τ o = σ o) (h : IM σ α) : IM τ α := by
  unfold mF at hf
  exact IM_gen (Or.inr ⟨hf 1 (by omega), hs 119 (by omega) (by omega), rfl, fun _ _ _ => rfl⟩) (Or.inr ⟨hf 3 (by omega), hs 120 (by omega) (by omega), rfl, fun _ _ _ => rfl⟩) (Or.inr ⟨⟨hf 5 (by omega), hf 27 (by omega), hs 126 (by omega) (by omega), hs 121 (by omega) (by omega)⟩, fun _ _ _ => rfl, rfl⟩) (Or.inr ⟨hf 14 (by omega), hs 127 (by omega) (by omega), rfl, rfl⟩) (Or.inr ⟨⟨hf 10 (by omega), hf 11 (by omega)⟩, fun o _ _ => hs o (by omega) (by omega), fun _ _ _ => rfl, fun _ _ _ => rfl⟩) h
theorem WF_chU {α β : St} (h0 : ∀ i, ¬ i = 0 → β 0 i = α 0 i) (ha : ∀ o, 7 ≤ o → β o = α o) (h : WF α) (hk : wU β) : WF β := ⟨hk, wR_c (h0 1 (by omega)) (fun o _ _ => ha o (by omega)) h.2.1, wK_c (h0 2 (by omega)) (ha 10 (by omega)) h.2.2.1, wX_c (h0 6 (by omega)) (ha 11 (by omega)) h.2.2.2.1, wT_c (fun i _ _ => h0 i (by omega)) (fun o _ _ => ha o (by omega)) h.2.2.2.2⟩
theorem WF_chR {α β : St} (h0 : ∀ i, ¬ i = 1 → β 0 i = α 0 i) (ha : ∀ o, 1 ≤ o → (o < 7 ∨ 9 < o) → β o = α o) (h : WF α) (hk : wR β) : WF β := ⟨wU_c (h0 0 (by omega)) (fun o _ _ => ha o (by omega) (by omega)) h.1, hk, wK_c (h0 2 (by omega)) (ha 10 (by omega) (by omega)) h.2.2.1, wX_c (h0 6 (by omega)) (ha 11 (by omega) (by omega)) h.2.2.2.1, wT_c (fun i _ _ => h0 i (by omega)) (fun o _ _ => ha o (by omega) (by omega)) h.2.2.2.2⟩
theorem WF_chK {α β : St} (h0 : ∀ i, (i < 2 ∨ 5 < i) → β 0 i = α 0 i) (ha : ∀ o, 1 ≤ o → ¬ o = 10 → β o = α o) (h : WF α) (hk : wK β) : WF β := ⟨wU_c (h0 0 (by omega)) (fun o _ _ => ha o (by omega) (by omega)) h.1, wR_c (h0 1 (by omega)) (fun o _ _ => ha o (by omega) (by omega)) h.2.1, hk, wX_c (h0 6 (by omega)) (ha 11 (by omega) (by omega)) h.2.2.2.1, wT_c (fun i _ _ => h0 i (by omega)) (fun o _ _ => ha o (by omega) (by omega)) h.2.2.2.2⟩
theorem WF_chX {α β : St} (h0 : ∀ i, ¬ i = 6 → β 0 i = α 0 i) (ha : ∀ o, 1 ≤ o → ¬ o = 11 → β o = α o) (h : WF α) (hk : wX β) : WF β := ⟨wU_c (h0 0 (by omega)) (fun o _ _ => ha o (by omega) (by omega)) h.1, wR_c (h0 1 (by omega)) (fun o _ _ => ha o (by omega) (by omega)) h.2.1, wK_c (h0 2 (by omega)) (ha 10 (by omega) (by omega)) h.2.2.1, hk, wT_c (fun i _ _ => h0 i (by omega)) (fun o _ _ => ha o (by omega) (by omega)) h.2.2.2.2⟩
theorem WF_chT {α β : St} (h0 : ∀ i, (i < 7 ∨ 9 < i) → β 0 i = α 0 i) (ha : ∀ o, 1 ≤ o → o < 12 → β o = α o) (h : WF α) (hk : wT β) : WF β := ⟨wU_c (h0 0 (by omega)) (fun o _ _ => ha o (by omega) (by omega)) h.1, wR_c (h0 1 (by omega)) (fun o _ _ => ha o (by omega) (by omega)) h.2.1, wK_c (h0 2 (by omega)) (ha 10 (by omega) (by omega)) h.2.2.1, wX_c (h0 6 (by omega)) (ha 11 (by omega) (by omega)) h.2.2.2.1, hk⟩
/-! ===== refusals ===== -/
def aR (α : St) (i : Int) : St := upS α 0 i (α 0 i + 1)
theorem WF_aR {α : St} (i : Int) (hi : 3 ≤ i ∧ i ≤ 5) (h : WF α) : WF (aR α i) := by
  unfold aR
  refine ⟨wU_c (upS_i (by omega)) (fun o _ _ => upS_of (by omega)) h.1, wR_c (upS_i (by omega)) (fun o _ _ => upS_of (by omega)) h.2.1, wK_c (upS_i (by omega)) (upS_of (by omega)) h.2.2.1, wX_c (upS_i (by omega)) (upS_of (by omega)) h.2.2.2.1, wT_c (fun j _ _ => upS_i (by omega)) (fun o _ _ => upS_of (by omega)) h.2.2.2.2⟩
theorem IC_aR {σ α : St} (i : Int) (hi : 3 ≤ i ∧ i ≤ 5) (h : IC σ α) : IC (upS σ 0 (i + 6) (σ 0 (i + 6) + 1)) (aR α i) := by
  unfold aR
  refine ⟨cU_c (fun o _ _ => upS_of (by omega)) (upS_i (by omega)) (fun o _ _ => upS_of (by omega)) h.1, cR_c (fun o _ _ => upS_of (by omega)) (upS_i (by omega)) (fun o _ _ => upS_of (by omega)) h.2.1, ?_, cX_c (upS_o (by omega)) (upS_of (by omega)) (upS_i (by omega)) (upS_of (by omega)) h.2.2.2.1, cT_c (fun o _ _ => upS_of (by omega)) (fun j _ _ => upS_i (by omega)) (fun o _ _ => upS_of (by omega)) h.2.2.2.2⟩
  obtain ⟨h1, h2, h3, h4, h5, h6⟩ := h.2.2.1
  have hc : i = 3 ∨ i = 4 ∨ i = 5 := by omega
  rcases hc with rfl | rfl | rfl <;> exact ⟨by simp (disch := omega) only [upS_h, upS_o, upS_i, Int.reduceAdd, Int.reduceSub, Int.reduceMul, Int.reduceNeg, h1], by simp (disch := omega) only [upS_h, upS_o, upS_i, Int.reduceAdd, Int.reduceSub, Int.reduceMul, Int.reduceNeg, h2], by simp (disch := omega) only [upS_h, upS_o, upS_i, Int.reduceAdd, Int.reduceSub, Int.reduceMul, Int.reduceNeg, h3], by simp (disch := omega) only [upS_h, upS_o, upS_i, Int.reduceAdd, Int.reduceSub, Int.reduceMul, Int.reduceNeg, h4], fun q a b => by simp (disch := omega) only [upS_h, upS_o, upS_i, Int.reduceAdd, Int.reduceSub, Int.reduceMul, Int.reduceNeg, h5 q a b], by simp (disch := omega) only [upS_h, upS_o, upS_i, Int.reduceAdd, Int.reduceSub, Int.reduceMul, Int.reduceNeg, h6.1], by simp (disch := omega) only [upS_h, upS_o, upS_i, Int.reduceAdd, Int.reduceSub, Int.reduceMul, Int.reduceNeg, h6.2.1], by simp (disch := omega) only [upS_h, upS_o, upS_i, Int.reduceAdd, Int.reduceSub, Int.reduceMul, Int.reduceNeg, h6.2.2.1], by simp (disch := omega) only [upS_h, upS_o, upS_i, Int.reduceAdd, Int.reduceSub, Int.reduceMul, Int.reduceNeg, h6.2.2.2]⟩
theorem IM_aR {σ α : St} (i : Int) (hi : 3 ≤ i ∧ i ≤ 5) (h : IM σ α) : IM (upS σ 126 (i - 3) (σ 126 (i - 3) + 1)) (aR α i) := by
  unfold aR
  refine ⟨mU_c (upS_o (by omega)) (upS_of (by omega)) (upS_i (by omega)) (fun o _ _ => upS_of (by omega)) h.1, mR_c (upS_o (by omega)) (upS_of (by omega)) (upS_i (by omega)) (fun o _ _ => upS_of (by omega)) h.2.1, ?_, mX_c (upS_o (by omega)) (upS_of (by omega)) (upS_i (by omega)) (upS_of (by omega)) h.2.2.2.1, mT_c (upS_o (by omega)) (upS_o (by omega)) (fun o _ _ => upS_of (by omega)) (fun j _ _ => upS_i (by omega)) (fun o _ _ => upS_of (by omega)) h.2.2.2.2⟩
  obtain ⟨h1, h2, h3, h4, h5, h6⟩ := h.2.2.1
  have hc : i = 3 ∨ i = 4 ∨ i = 5 := by omega
  rcases hc with rfl | rfl | rfl <;> exact ⟨by simp (disch := omega) only [upS_h, upS_o, upS_i, Int.reduceAdd, Int.reduceSub, Int.reduceMul, Int.reduceNeg, h1], by simp (disch := omega) only [upS_h, upS_o, upS_i, Int.reduceAdd, Int.reduceSub, Int.reduceMul, Int.reduceNeg, h2], by simp (disch := omega) only [upS_h, upS_o, upS_i, Int.reduceAdd, Int.reduceSub, Int.reduceMul, Int.reduceNeg, h3], by simp (disch := omega) only [upS_h, upS_o, upS_i, Int.reduceAdd, Int.reduceSub, Int.reduceMul, Int.reduceNeg, h4], fun q a b => by simp (disch := omega) only [upS_h, upS_o, upS_i, Int.reduceAdd, Int.reduceSub, Int.reduceMul, Int.reduceNeg, h5 q a b], by simp (disch := omega) only [upS_h, upS_o, upS_i, Int.reduceAdd, Int.reduceSub, Int.reduceMul, Int.reduceNeg, h6]⟩
theorem c_bad (σ : St) : f_X9_bad σ = some (-2, upS σ 0 (3 + 6) (σ 0 (3 + 6) + 1)) := rfl
theorem c_no (σ : St) : f_X9_no σ = some (-3, upS σ 0 (4 + 6) (σ 0 (4 + 6) + 1)) := rfl
theorem c_full (σ : St) : f_X9_full σ = some (-4, upS σ 0 (5 + 6) (σ 0 (5 + 6) + 1)) := rfl
theorem m_bad (σ : St) (x : Int) : f_X10_bad σ x = some (x, upS σ 126 (3 - 3) (σ 126 (3 - 3) + 1)) := by
  unfold f_X10_bad
  simp (disch := omega) only [↓rdA_t, ↓wrA_t, ↓ixA_t, ↓wrF_d, ↓bd2_s, ↓bd1_s, ↓bnd_d, ↓iww_t, ↓iww_f, ↓iwl_t, ↓iwl_f, ↓ilw_t, ↓ilw_f, ↓eww_t, ↓eww_f, ↓ewl_t, ↓ewl_f, ↓ez_t, ↓ez_f, ↓il_t, ↓il_f, il_t, il_f, ez_t, ez_f, if_true, if_false, upS_h, upS_o, upS_i, Int.reduceAdd, Int.reduceSub, Int.reduceMul, Int.reduceNeg, wI_id]
theorem m_no (σ : St) : f_X10_no σ = some (-3, upS σ 126 (4 - 3) (σ 126 (4 - 3) + 1)) := by
  unfold f_X10_no
  simp (disch := omega) only [↓rdA_t, ↓wrA_t, ↓ixA_t, ↓wrF_d, ↓bd2_s, ↓bd1_s, ↓bnd_d, ↓iww_t, ↓iww_f, ↓iwl_t, ↓iwl_f, ↓ilw_t, ↓ilw_f, ↓eww_t, ↓eww_f, ↓ewl_t, ↓ewl_f, ↓ez_t, ↓ez_f, ↓il_t, ↓il_f, il_t, il_f, ez_t, ez_f, if_true, if_false, upS_h, upS_o, upS_i, Int.reduceAdd, Int.reduceSub, Int.reduceMul, Int.reduceNeg, wI_id]
theorem m_full (σ : St) : f_X10_full σ = some (-4, upS σ 126 (5 - 3) (σ 126 (5 - 3) + 1)) := by
  unfold f_X10_full
  simp (disch := omega) only [↓rdA_t, ↓wrA_t, ↓ixA_t, ↓wrF_d, ↓bd2_s, ↓bd1_s, ↓bnd_d, ↓iww_t, ↓iww_f, ↓iwl_t, ↓iwl_f, ↓ilw_t, ↓ilw_f, ↓eww_t, ↓eww_f, ↓ewl_t, ↓ewl_f, ↓ez_t, ↓ez_f, ↓il_t, ↓il_f, il_t, il_f, ez_t, ez_f, if_true, if_false, upS_h, upS_o, upS_i, Int.reduceAdd, Int.reduceSub, Int.reduceMul, Int.reduceNeg, wI_id]
/-! an operation on each side: an answer, the new abstract store, the other side left as it was -/
def oC (f : Option (Int × St)) (σ α : St) (r : Int) (β : St) : Prop := ∃ τ, f = some (r, τ) ∧ IC τ β ∧ ∀ o, 118 ≤ o → τ o = σ o
def oM (f : Option (Int × St)) (σ α : St) (r : Int) (β : St) : Prop := ∃ τ, f = some (r, τ) ∧ IM τ β ∧ ∀ o, o < 118 → τ o = σ o
theorem oC_bad {σ α : St} (h : IC σ α) : oC (f_X9_bad σ) σ α (-2) (aR α 3) := ⟨_, c_bad σ, IC_aR 3 (by omega) h, fun o ho => upS_of (by omega)⟩
theorem oC_no {σ α : St} (h : IC σ α) : oC (f_X9_no σ) σ α (-3) (aR α 4) := ⟨_, c_no σ, IC_aR 4 (by omega) h, fun o ho => upS_of (by omega)⟩
theorem oC_full {σ α : St} (h : IC σ α) : oC (f_X9_full σ) σ α (-4) (aR α 5) := ⟨_, c_full σ, IC_aR 5 (by omega) h, fun o ho => upS_of (by omega)⟩
theorem oM_bad {σ α : St} (x : Int) (h : IM σ α) : oM (f_X10_bad σ x) σ α x (aR α 3) := ⟨_, m_bad σ x, IM_aR 3 (by omega) h, fun o ho => upS_of (by omega)⟩
theorem oM_no {σ α : St} (h : IM σ α) : oM (f_X10_no σ) σ α (-3) (aR α 4) := ⟨_, m_no σ, IM_aR 4 (by omega) h, fun o ho => upS_of (by omega)⟩
theorem oM_full {σ α : St} (h : IM σ α) : oM (f_X10_full σ) σ α (-4) (aR α 5) := ⟨_, m_full σ, IM_aR 5 (by omega) h, fun o ho => upS_of (by omega)⟩
/-- a call whose answer and store are handed on -/
theorem oC_id {f : Option (Int × St)} {σ α : St} {r : Int} {β : St} (h : oC f σ α r β) : oC (bd2 f fun v τ => some (v, τ)) σ α r β := by
  obtain ⟨τ, h1, h2⟩ := h
  exact ⟨τ, by rw [h1]; rfl, h2⟩
theorem oM_id {f : Option (Int × St)} {σ α : St} {r : Int} {β : St} (h : oM f σ α r β) : oM (bd2 f fun v τ => some (v, τ)) σ α r β := by
  obtain ⟨τ, h1, h2⟩ := h
  exact ⟨τ, by rw [h1]; rfl, h2⟩
theorem oC_ret {σ α : St} (r : Int) (h : IC σ α) : oC (some (r, σ)) σ α r α := ⟨σ, rfl, h, fun _ _ => rfl⟩
theorem oM_ret {σ α : St} (r : Int) (h : IM σ α) : oM (some (r, σ)) σ α r α := ⟨σ, rfl, h, fun _ _ => rfl⟩
/-! ===== fitter, clear, other, told ===== -/
def rFit (α : St) (a : Int) : Int := if 0 ≤ a ∧ a ≤ 4 then α 0 2 else -2
def aFit (α : St) (a : Int) : St := if 0 ≤ a ∧ a ≤ 4 then upS α 0 2 a else aR α 3
theorem xc_fitter {σ α : St} {a : Int} (h : IC σ α) (hw : WF α) (ha : inR a) : oC (f_X9_fitter σ a) σ α (rFit α a) (aFit α a) := by
  unfold inR at ha
  unfold f_X9_fitter rFit aFit
  by_cases c : 0 ≤ a ∧ a ≤ 4
  · simp (disch := omega) only [↓rdA_t, ↓wrA_t, ↓ixA_t, ↓wrF_d, ↓bd2_s, ↓bd1_s, ↓bnd_d, ↓iww_t, ↓iww_f, ↓iwl_t, ↓iwl_f, ↓ilw_t, ↓ilw_f, ↓eww_t, ↓eww_f, ↓ewl_t, ↓ewl_f, ↓ez_t, ↓ez_f, ↓il_t, ↓il_f, il_t, il_f, ez_t, ez_f, if_true, if_false, upS_h, upS_o, upS_i, Int.reduceAdd, Int.reduceSub, Int.reduceMul, Int.reduceNeg, wI_id, within_t, if_pos c]
    obtain ⟨h1, h2, h3, h4, h5, h6⟩ := h.2.2.1
    refine ⟨_, by rw [h1], ⟨cU_c (fun o _ _ => upS_of (by omega)) (upS_i (by omega)) (fun o _ _ => upS_of (by omega)) h.1, cR_c (fun o _ _ => upS_of (by omega)) (upS_i (by omega)) (fun o _ _ => upS_of (by omega)) h.2.1, ?_, cX_c (upS_o (by omega)) (upS_of (by omega)) (upS_i (by omega)) (upS_of (by omega)) h.2.2.2.1, cT_c (fun o _ _ => upS_of (by omega)) (fun j _ _ => upS_i (by omega)) (fun o _ _ => upS_of (by omega)) h.2.2.2.2⟩, fun o ho => upS_of (by omega)⟩
    exact ⟨by simp (disch := omega) only [upS_h, upS_o, upS_i, Int.reduceAdd, Int.reduceSub, Int.reduceMul, Int.reduceNeg], by simp (disch := omega) only [upS_h, upS_o, upS_i, Int.reduceAdd, Int.reduceSub, Int.reduceMul, Int.reduceNeg, h2], by simp (disch := omega) only [upS_h, upS_o, upS_i, Int.reduceAdd, Int.reduceSub, Int.reduceMul, Int.reduceNeg, h3], by simp (disch := omega) only [upS_h, upS_o, upS_i, Int.reduceAdd, Int.reduceSub, Int.reduceMul, Int.reduceNeg, h4], fun q a b => by simp (disch := omega) only [upS_h, upS_o, upS_i, Int.reduceAdd, Int.reduceSub, Int.reduceMul, Int.reduceNeg, h5 q a b], by simp (disch := omega) only [upS_h, upS_o, upS_i, Int.reduceAdd, Int.reduceSub, Int.reduceMul, Int.reduceNeg, h6.1], by simp (disch := omega) only [upS_h, upS_o, upS_i, Int.reduceAdd, Int.reduceSub, Int.reduceMul, Int.reduceNeg, h6.2.1], by simp (disch := omega) only [upS_h, upS_o, upS_i, Int.reduceAdd, Int.reduceSub, Int.reduceMul, Int.reduceNeg, h6.2.2.1], by simp (disch := omega) only [upS_h, upS_o, upS_i, Int.reduceAdd, Int.reduceSub, Int.reduceMul, Int.reduceNeg, h6.2.2.2]⟩
  · simp (disch := omega) only [↓rdA_t, ↓wrA_t, ↓ixA_t, ↓wrF_d, ↓bd2_s, ↓bd1_s, ↓bnd_d, ↓iww_t, ↓iww_f, ↓iwl_t, ↓iwl_f, ↓ilw_t, ↓ilw_f, ↓eww_t, ↓eww_f, ↓ewl_t, ↓ewl_f, ↓ez_t, ↓ez_f, ↓il_t, ↓il_f, il_t, il_f, ez_t, ez_f, if_true, if_false, upS_h, upS_o, upS_i, Int.reduceAdd, Int.reduceSub, Int.reduceMul, Int.reduceNeg, wI_id, within_f, if_neg c]
    exact oC_id (oC_bad h)
theorem xm_fitter {σ α : St} {a : Int} (h : IM σ α) (hw : WF α) (ha : inR a) : oM (f_X10_fitter σ a) σ α (rFit α a) (aFit α a) := by
  unfold inR at ha
  unfold f_X10_fitter rFit aFit
  by_cases c : 0 ≤ a ∧ a ≤ 4
  · simp (disch := omega) only [↓rdA_t, ↓wrA_t, ↓ixA_t, ↓wrF_d, ↓bd2_s, ↓bd1_s, ↓bnd_d, ↓iww_t, ↓iww_f, ↓iwl_t, ↓iwl_f, ↓ilw_t, ↓ilw_f, ↓eww_t, ↓eww_f, ↓ewl_t, ↓ewl_f, ↓ez_t, ↓ez_f, ↓il_t, ↓il_f, il_t, il_f, ez_t, ez_f, if_true, if_false, upS_h, upS_o, upS_i, Int.reduceAdd, Int.reduceSub, Int.reduceMul, Int.reduceNeg, wI_id, in_t, if_pos c]
    obtain ⟨h1, h2, h3, h4, h5, h6⟩ := h.2.2.1
    refine ⟨_, by rw [h1], ⟨mU_c (upS_i (by omega)) (upS_of (by omega)) (upS_i (by omega)) (fun o _ _ => upS_of (by omega)) h.1, mR_c (upS_i (by omega)) (upS_of (by omega)) (upS_i (by omega)) (fun o _ _ => upS_of (by omega)) h.2.1, ?_, mX_c (upS_i (by omega)) (upS_of (by omega)) (upS_i (by omega)) (upS_of (by omega)) h.2.2.2.1, mT_c (upS_i (by omega)) (upS_i (by omega)) (fun o _ _ => upS_of (by omega)) (fun j _ _ => upS_i (by omega)) (fun o _ _ => upS_of (by omega)) h.2.2.2.2⟩, fun o ho => upS_of (by omega)⟩
    exact ⟨by simp (disch := omega) only [upS_h, upS_o, upS_i, Int.reduceAdd, Int.reduceSub, Int.reduceMul, Int.reduceNeg], by simp (disch := omega) only [upS_h, upS_o, upS_i, Int.reduceAdd, Int.reduceSub, Int.reduceMul, Int.reduceNeg, h2], by simp (disch := omega) only [upS_h, upS_o, upS_i, Int.reduceAdd, Int.reduceSub, Int.reduceMul, Int.reduceNeg, h3], by simp (disch := omega) only [upS_h, upS_o, upS_i, Int.reduceAdd, Int.reduceSub, Int.reduceMul, Int.reduceNeg, h4], fun q a b => by simp (disch := omega) only [upS_h, upS_o, upS_i, Int.reduceAdd, Int.reduceSub, Int.reduceMul, Int.reduceNeg, h5 q a b], by simp (disch := omega) only [upS_h, upS_o, upS_i, Int.reduceAdd, Int.reduceSub, Int.reduceMul, Int.reduceNeg, h6]⟩
  · simp (disch := omega) only [↓rdA_t, ↓wrA_t, ↓ixA_t, ↓wrF_d, ↓bd2_s, ↓bd1_s, ↓bnd_d, ↓iww_t, ↓iww_f, ↓iwl_t, ↓iwl_f, ↓ilw_t, ↓ilw_f, ↓eww_t, ↓eww_f, ↓ewl_t, ↓ewl_f, ↓ez_t, ↓ez_f, ↓il_t, ↓il_f, il_t, il_f, ez_t, ez_f, if_true, if_false, upS_h, upS_o, upS_i, Int.reduceAdd, Int.reduceSub, Int.reduceMul, Int.reduceNeg, wI_id, in_f, if_neg c]
    exact oM_id (oM_bad (-2) h)
theorem wf_fitter {α : St} {a : Int} (hw : WF α) : WF (aFit α a) := by
  unfold aFit
  by_cases c : 0 ≤ a ∧ a ≤ 4
  · rw [if_pos c]
    refine ⟨wU_c (upS_i (by omega)) (fun o _ _ => upS_of (by omega)) hw.1, wR_c (upS_i (by omega)) (fun o _ _ => upS_of (by omega)) hw.2.1, ?_, wX_c (upS_i (by omega)) (upS_of (by omega)) hw.2.2.2.1, wT_c (fun j _ _ => upS_i (by omega)) (fun o _ _ => upS_of (by omega)) hw.2.2.2.2⟩
    refine ⟨by simp (disch := omega) only [upS_h, upS_o, upS_i, Int.reduceAdd, Int.reduceSub, Int.reduceMul, Int.reduceNeg]; omega, fun q a b => by simp (disch := omega) only [upS_h, upS_o, upS_i, Int.reduceAdd, Int.reduceSub, Int.reduceMul, Int.reduceNeg]; exact hw.2.2.1.2 q a b⟩
  · rw [if_neg c]
    exact WF_aR 3 (by omega) hw
