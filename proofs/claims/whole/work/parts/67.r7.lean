/-! ===== digest ===== -/
def dgS (f : Int → Int) (h : Int) : Nat → Int
  | 0 => h
  | n + 1 => 31 * dgS f h n + i2lI (f n)
theorem dgS_c {f g : Int → Int} {h : Int} : ∀ n : Nat, (∀ i : Int, 0 ≤ i → i < n → f i = g i) → dgS f h n = dgS g h n := by
  intro n
  induction n with
  | zero => intro _; rfl
  | succ n ih =>
    intro e
    rw [dgS, dgS, ih (fun i i1 i2 => e i i1 (by omega)), e n (by omega) (by omega)]
def cH (σ τ α : St) : Prop := IC τ α ∧ ∀ o, 118 ≤ o → τ o = σ o
theorem dc_6 {α : St} {h0 : Int} (kx : St → Int → Option (Int × St)) : ∀ (r x : Nat) (σ : St) (n : Nat), IC σ α → x + r = 7 → r < n → ∃ τ, lp_X9_digest_6 kx n σ (dgS (rTld α) h0 x) x = kx τ (dgS (rTld α) h0 (x + r)) ∧ cH σ τ α := by
  intro r
  induction r with
  | zero =>
    intro x σ n h h1 hn
    obtain ⟨n, rfl⟩ : ∃ k, n = k + 1 := ⟨n - 1, by omega⟩
    exact ⟨σ, by rw [lp_X9_digest_6, ilw_t (by omega)]; rfl, h, fun _ _ => rfl⟩
  | succ r ih =>
    intro x σ n h h1 hn
    obtain ⟨n, rfl⟩ : ∃ k, n = k + 1 := ⟨n - 1, by omega⟩
    obtain ⟨ρ, e1, e2, e3⟩ := xc_told (a := (x : Int)) h (by unfold inR; omega)
    rw [aTld, if_pos (by omega)] at e2
    obtain ⟨τ, g1, g2, g3⟩ := ih (x + 1) ρ n e2 (by omega) (by omega)
    have ed : dgS (rTld α) h0 (x + 1) = 31 * dgS (rTld α) h0 x + i2lI (rTld α x) := rfl
    rw [show x + 1 + r = x + (r + 1) by omega, show ((x + 1 : Nat) : Int) = (x : Int) + 1 by omega, ed] at g1
    exact ⟨τ, by rw [lp_X9_digest_6, ilw_f (by omega), e1, bd2_s, bnd_d]; exact g1, g2, fun o ho => by rw [g3 o ho, e3 o ho]⟩
def uFl (α : St) (i : Int) : Int := α (1 + i % 6) (i / 6)
def tFl (α : St) (i : Int) : Int := α (7 + i % 3) (i / 3)
theorem dc_47 {α : St} {h0 : Int} {u : Nat} (kx : St → Int → Option (Int × St)) (hw : WF α) (hu : (u : Int) < α 0 0) : ∀ (r x : Nat) (σ : St) (n : Nat), IC σ α → x + r = 6 → r < n → ∃ τ, lp_X9_digest_47 u kx n σ (dgS (uFl α) h0 (6 * u + x)) x = kx τ (dgS (uFl α) h0 (6 * u + (x + r))) ∧ cH σ τ α := by
  intro r
  have w3 := hw.1.2.1
  induction r with
  | zero =>
    intro x σ n h h1 hn
    obtain ⟨n, rfl⟩ : ∃ k, n = k + 1 := ⟨n - 1, by omega⟩
    exact ⟨σ, by rw [lp_X9_digest_47, ilw_t (by omega)]; rfl, h, fun _ _ => rfl⟩
  | succ r ih =>
    intro x σ n h h1 hn
    obtain ⟨n, rfl⟩ : ∃ k, n = k + 1 := ⟨n - 1, by omega⟩
    obtain ⟨ρ, e1, e2, e3⟩ := xc_of (u := (u : Int)) (a := (x : Int)) h hw (by unfold inR; omega) (by unfold inR; omega)
    rw [aOf, if_pos (by omega)] at e2
    rw [rOf, if_pos (by omega), if_pos (by omega)] at e1
    obtain ⟨τ, g1, g2, g3⟩ := ih (x + 1) ρ n e2 (by omega) (by omega)
    have ef : uFl α ((6 * u + x : Nat) : Int) = α (1 + x) u := by
      unfold uFl
      rw [show ((6 * u + x : Nat) : Int) % 6 = x by omega, show ((6 * u + x : Nat) : Int) / 6 = u by omega]
    have ed : dgS (uFl α) h0 (6 * u + (x + 1)) = 31 * dgS (uFl α) h0 (6 * u + x) + i2lI (uFl α ((6 * u + x : Nat) : Int)) := rfl
    rw [show x + 1 + r = x + (r + 1) by omega, show ((x + 1 : Nat) : Int) = (x : Int) + 1 by omega, ed, ef] at g1
    exact ⟨τ, by rw [lp_X9_digest_47, ilw_f (by omega), e1, bd2_s, bnd_d]; exact g1, g2, fun o ho => by rw [g3 o ho, e3 o ho]⟩
theorem dc_33 {α : St} {h0 : Int} (kx : St → Int → Option (Int × St)) (hw : WF α) : ∀ (r x : Nat) (σ : St) (n : Nat), IC σ α → (x : Int) + r = α 0 0 → r < n → ∃ τ, lp_X9_digest_33 kx n σ (dgS (uFl α) h0 (6 * x)) x = kx τ (dgS (uFl α) h0 (6 * (x + r))) ∧ cH σ τ α := by
  intro r
  have w3 := hw.1.2.1
  induction r with
  | zero =>
    intro x σ n h h1 hn
    obtain ⟨n, rfl⟩ : ∃ k, n = k + 1 := ⟨n - 1, by omega⟩
    have hs := h.1.1
    exact ⟨σ, by rw [lp_X9_digest_33, iww_f (by omega)]; rfl, h, fun _ _ => rfl⟩
  | succ r ih =>
    intro x σ n h h1 hn
    obtain ⟨n, rfl⟩ : ∃ k, n = k + 1 := ⟨n - 1, by omega⟩
    have hs := h.1.1
    obtain ⟨ρ, e1, e2, e3⟩ := dc_47 (h0 := h0) (u := x) (fun σ12 y13 => lp_X9_digest_33 kx n σ12 y13 ((x : Int) + 1)) hw (by omega) 6 0 σ 1000 h (by omega) (by omega)
    obtain ⟨τ, g1, g2, g3⟩ := ih (x + 1) ρ n e2 (by omega) (by omega)
    rw [show x + 1 + r = x + (r + 1) by omega, show ((x + 1 : Nat) : Int) = (x : Int) + 1 by omega] at g1
    have e0 : (((0 : Nat)) : Int) = 0 := rfl
    rw [e0, show 6 * x + 0 = 6 * x by omega, show 6 * x + (0 + 6) = 6 * (x + 1) by omega] at e1
    exact ⟨τ, by rw [lp_X9_digest_33, iww_t (by omega), e1, g1], g2, fun o ho => by rw [g3 o ho, e3 o ho]⟩
theorem dc_82 {σ α : St} {h0 : Int} (kx : St → Int → Option (Int × St)) (h : IC σ α) : ∀ (r x n : Nat), x + r = 6 → r < n → lp_X9_digest_82 kx n σ (dgS (α 10) h0 x) x = kx σ (dgS (α 10) h0 (x + r)) := by
  intro r
  induction r with
  | zero =>
    intro x n h1 hn
    obtain ⟨n, rfl⟩ : ∃ k, n = k + 1 := ⟨n - 1, by omega⟩
    rw [lp_X9_digest_82, iwl_f (by omega)]; rfl
  | succ r ih =>
    intro x n h1 hn
    obtain ⟨n, rfl⟩ : ∃ k, n = k + 1 := ⟨n - 1, by omega⟩
    have g1 := ih (x + 1) n (by omega) (by omega)
    have ed : dgS (α 10) h0 (x + 1) = 31 * dgS (α 10) h0 x + i2lI (α 10 x) := rfl
    rw [show x + 1 + r = x + (r + 1) by omega, show ((x + 1 : Nat) : Int) = (x : Int) + 1 by omega, ed] at g1
    rw [lp_X9_digest_82, iwl_t (by omega), rdA_t (by omega), h.2.2.1.2.2.2.2.1 x (by omega) (by omega), bnd_d]
    exact g1
theorem dc_124 {α : St} {h0 : Int} {u : Nat} (kx : St → Int → Option (Int × St)) (hw : WF α) (hu : (u : Int) < α 0 1) : ∀ (r x : Nat) (σ : St) (n : Nat), IC σ α → x + r = 3 → r < n → ∃ τ, lp_X9_digest_124 u kx n σ (dgS (tFl α) h0 (3 * u + x)) x = kx τ (dgS (tFl α) h0 (3 * u + (x + r))) ∧ cH σ τ α := by
  intro r
  have w2 := hw.2.1.2.1
  induction r with
  | zero =>
    intro x σ n h h1 hn
    obtain ⟨n, rfl⟩ : ∃ k, n = k + 1 := ⟨n - 1, by omega⟩
    exact ⟨σ, by rw [lp_X9_digest_124, ilw_t (by omega)]; rfl, h, fun _ _ => rfl⟩
  | succ r ih =>
    intro x σ n h h1 hn
    obtain ⟨n, rfl⟩ : ∃ k, n = k + 1 := ⟨n - 1, by omega⟩
    obtain ⟨ρ, e1, e2, e3⟩ := xc_target (k := (u : Int)) (a := (x : Int)) h hw (by unfold inR; omega) (by unfold inR; omega)
    rw [aTar, if_pos (by omega)] at e2
    rw [rTar, if_pos (by omega), if_pos (by omega)] at e1
    obtain ⟨τ, g1, g2, g3⟩ := ih (x + 1) ρ n e2 (by omega) (by omega)
    have ef : tFl α ((3 * u + x : Nat) : Int) = α (7 + x) u := by
      unfold tFl
      rw [show ((3 * u + x : Nat) : Int) % 3 = x by omega, show ((3 * u + x : Nat) : Int) / 3 = u by omega]
    have ed : dgS (tFl α) h0 (3 * u + (x + 1)) = 31 * dgS (tFl α) h0 (3 * u + x) + i2lI (tFl α ((3 * u + x : Nat) : Int)) := rfl
    rw [show x + 1 + r = x + (r + 1) by omega, show ((x + 1 : Nat) : Int) = (x : Int) + 1 by omega, ed, ef] at g1
    exact ⟨τ, by rw [lp_X9_digest_124, ilw_f (by omega), e1, bd2_s, bnd_d]; exact g1, g2, fun o ho => by rw [g3 o ho, e3 o ho]⟩
theorem dc_110 {α : St} {h0 : Int} (kx : St → Int → Option (Int × St)) (hw : WF α) : ∀ (r x : Nat) (σ : St) (n : Nat), IC σ α → (x : Int) + r = α 0 1 → r < n → ∃ τ, lp_X9_digest_110 kx n σ (dgS (tFl α) h0 (3 * x)) x = kx τ (dgS (tFl α) h0 (3 * (x + r))) ∧ cH σ τ α := by
  intro r
  have w2 := hw.2.1.2.1
  induction r with
  | zero =>
    intro x σ n h h1 hn
    obtain ⟨n, rfl⟩ : ∃ k, n = k + 1 := ⟨n - 1, by omega⟩
    have hs := h.2.1.1
    exact ⟨σ, by rw [lp_X9_digest_110, iww_f (by omega)]; rfl, h, fun _ _ => rfl⟩
  | succ r ih =>
    intro x σ n h h1 hn
    obtain ⟨n, rfl⟩ : ∃ k, n = k + 1 := ⟨n - 1, by omega⟩
    have hs := h.2.1.1
    obtain ⟨ρ, e1, e2, e3⟩ := dc_124 (h0 := h0) (u := x) (fun σ26 y27 => lp_X9_digest_110 kx n σ26 y27 ((x : Int) + 1)) hw (by omega) 3 0 σ 1000 h (by omega) (by omega)
    obtain ⟨τ, g1, g2, g3⟩ := ih (x + 1) ρ n e2 (by omega) (by omega)
    rw [show x + 1 + r = x + (r + 1) by omega, show ((x + 1 : Nat) : Int) = (x : Int) + 1 by omega] at g1
    have e0 : (((0 : Nat)) : Int) = 0 := rfl
    rw [e0, show 3 * x + 0 = 3 * x by omega, show 3 * x + (0 + 3) = 3 * (x + 1) by omega] at e1
    exact ⟨τ, by rw [lp_X9_digest_110, iww_t (by omega), e1, g1], g2, fun o ho => by rw [g3 o ho, e3 o ho]⟩
theorem dc_222 {σ α : St} {p : Int → Int} {h0 : Int} (kx : St → Int → Option (Int × St)) (h : IC σ α) (hw : WF α) (hq : ∀ k, 0 ≤ k → k < α 0 1 → σ 69 k = p k) : ∀ (r x n : Nat), (x : Int) + r = α 0 1 → r < n → lp_X9_digest_222 kx n σ (dgS p h0 x) x = kx σ (dgS p h0 (x + r)) := by
  intro r
  have w2 := hw.2.1.2.1
  have hs := h.2.1.1
  induction r with
  | zero =>
    intro x n h1 hn
    obtain ⟨n, rfl⟩ : ∃ k, n = k + 1 := ⟨n - 1, by omega⟩
    rw [lp_X9_digest_222, iww_f (by omega)]; rfl
  | succ r ih =>
    intro x n h1 hn
    obtain ⟨n, rfl⟩ : ∃ k, n = k + 1 := ⟨n - 1, by omega⟩
    have g1 := ih (x + 1) n (by omega) (by omega)
    have ed : dgS p h0 (x + 1) = 31 * dgS p h0 x + i2lI (p x) := rfl
    rw [show x + 1 + r = x + (r + 1) by omega, show ((x + 1 : Nat) : Int) = (x : Int) + 1 by omega, ed] at g1
    rw [lp_X9_digest_222, iww_t (by omega), rdA_t (by omega), hq x (by omega) (by omega), bnd_d]
    exact g1
def dg1 (α : St) : Int := dgS (tFl α) (dgS (α 10) (dgS (uFl α) (dgS (rTld α) 1987 7) (6 * (α 0 0).toNat)) 6) (3 * (α 0 1).toNat)
def dg2 (α : St) : Int := 31 * (31 * dg1 α + i2lI (α 0 8)) + i2lI (α 0 9)
def rDg (α : St) : Int := if has α (-1) = 1 then dgS (pth α (-1) (α 0 2)) (31 * dg2 α + i2lI (tp α (-1) (α 0 2) 0)) (α 0 1).toNat else 31 * dg2 α + (-1)
def dK4 (σ28 : St) (y29 : Int) : Option (Int × St) :=
  bnd ((31 * y29) + (i2lI (σ28 14 7))) fun v30 =>
  bnd ((31 * v30) + (i2lI (σ28 14 8))) fun v31 =>
  bd2 (f_X9_findChain σ28 (-1)) fun v32 σ33 =>
  if v32 = 0 then
    some ((31 * v31) + (-1), σ33)
  else
    bd1 (f_X0_leastPrice σ33) fun v36 =>
    bnd ((31 * v31) + (i2lI v36)) fun v37 =>
    lp_X9_digest_222 (fun σ41 y42 => some (y42, σ41)) 1000 σ33 v37 0
def dK3 (σ19 : St) (y20 : Int) : Option (Int × St) := lp_X9_digest_110 dK4 1000 σ19 y20 0
def dK2 (σ14 : St) (y15 : Int) : Option (Int × St) := lp_X9_digest_82 dK3 1000 σ14 y15 0
def dK1 (σ5 : St) (y6 : Int) : Option (Int × St) := lp_X9_digest_33 dK2 1000 σ5 y6 0
theorem dg_e {σ : St} : f_X9_digest σ = lp_X9_digest_6 dK1 1000 σ 1987 0 := rfl
theorem xc_digest {σ α : St} (h : IC σ α) (hw : WF α) : oC (f_X9_digest σ) σ α (rDg α) α := by
  have w2 := hw.2.1.2.1
  have w1 := hw.2.1.1
  have w3 := hw.1.2.1
  have w4 := hw.1.1
  have e0 : (((0 : Nat)) : Int) = 0 := rfl
  obtain ⟨σ1, a1, a2, a3⟩ := dc_6 (h0 := 1987) dK1 7 0 σ 1000 h (by omega) (by omega)
  obtain ⟨σ2, b1, b2, b3⟩ := dc_33 (h0 := dgS (rTld α) 1987 7) dK2 hw (α 0 0).toNat 0 σ1 1000 a2 (by omega) (by omega)
  have c1 := dc_82 (h0 := dgS (uFl α) (dgS (rTld α) 1987 7) (6 * (α 0 0).toNat)) dK3 b2 6 0 1000 (by omega) (by omega)
  obtain ⟨σ4, d1, d2, d3⟩ := dc_110 (h0 := dgS (α 10) (dgS (uFl α) (dgS (rTld α) 1987 7) (6 * (α 0 0).toNat)) 6) dK4 hw (α 0 1).toNat 0 σ2 1000 b2 (by omega) (by omega)
  rw [e0] at a1 b1 c1 d1
  rw [Nat.zero_add] at a1 b1 c1 d1
  have hx : f_X9_digest σ = dK4 σ4 (dg1 α) := by
    rw [dg_e]
    have z0 : dgS (rTld α) 1987 0 = 1987 := rfl
    rw [z0] at a1
    rw [a1]
    show lp_X9_digest_33 dK2 1000 σ1 (dgS (rTld α) 1987 7) 0 = _
    rw [show dgS (uFl α) (dgS (rTld α) 1987 7) (6 * 0) = dgS (rTld α) 1987 7 from rfl] at b1
    rw [b1]
    show lp_X9_digest_82 dK3 1000 σ2 (dgS (uFl α) (dgS (rTld α) 1987 7) (6 * (α 0 0).toNat)) 0 = _
    rw [show dgS (α 10) (dgS (uFl α) (dgS (rTld α) 1987 7) (6 * (α 0 0).toNat)) 0 = dgS (uFl α) (dgS (rTld α) 1987 7) (6 * (α 0 0).toNat) from rfl] at c1
    rw [c1]
    show lp_X9_digest_110 dK4 1000 σ2 (dgS (α 10) (dgS (uFl α) (dgS (rTld α) 1987 7) (6 * (α 0 0).toNat)) 6) 0 = _
    rw [show dgS (tFl α) (dgS (α 10) (dgS (uFl α) (dgS (rTld α) 1987 7) (6 * (α 0 0).toNat)) 6) (3 * 0) = dgS (α 10) (dgS (uFl α) (dgS (rTld α) 1987 7) (6 * (α 0 0).toNat)) 6 from rfl] at d1
    rw [d1]
    rfl
  have hf : ∀ o, 118 ≤ o → σ4 o = σ o := fun o ho => by rw [d3 o ho, b3 o ho, a3 o ho]
  have t1 : σ4 14 7 = α 0 8 := d2.2.2.2.2.2.1
  have t2 : σ4 14 8 = α 0 9 := d2.2.2.2.2.2.2.1
  rw [hx]
  unfold dK4 rDg dg2
  rw [t1, t2, bnd_d, bnd_d]
  rcases c_find d2 hw (a := -1) (by omega) with ⟨k1, τ, k2, k3, k4, k5⟩ | ⟨k1, τ, k2, k3, k4⟩
  · rw [has_1 k1, if_pos rfl, k2, bd2_s, if_neg (by omega)]
    unfold f_X0_leastPrice
    rw [rdA_t (by omega), bd1_s, bnd_d, k4.1.1]
    have g := dc_222 (p := pth α (-1) (α 0 2)) (h0 := 31 * (31 * (31 * dg1 α + i2lI (α 0 8)) + i2lI (α 0 9)) + i2lI (tp α (-1) (α 0 2) 0)) (fun σ41 y42 => some (y42, σ41)) k3 hw k4.2 (α 0 1).toNat 0 1000 (by omega) (by omega)
    rw [e0, Nat.zero_add] at g
    exact ⟨τ, g, k3, fun o ho => by rw [k5 o ho, hf o ho]⟩
  · rw [has_0 k1, if_neg (show ¬ (0 : Int) = 1 by omega), k2, bd2_s, if_pos rfl]
    exact ⟨τ, rfl, k3, fun o ho => by rw [k4 o ho, hf o ho]⟩
theorem dm_6 {σ α : St} {h0 : Int} (kx : St → Int → Option (Int × St)) (h : IM σ α) : ∀ (r x n : Nat), x + r = 7 → r < n → lp_X10_digest_6 kx n σ (dgS (rTld α) h0 x) x = kx σ (dgS (rTld α) h0 (x + r)) := by
  intro r
  induction r with
  | zero =>
    intro x n h1 hn
    obtain ⟨n, rfl⟩ : ∃ k, n = k + 1 := ⟨n - 1, by omega⟩
    rw [lp_X10_digest_6, iwl_f (by omega)]; rfl
  | succ r ih =>
    intro x n h1 hn
    obtain ⟨n, rfl⟩ : ∃ k, n = k + 1 := ⟨n - 1, by omega⟩
    have g1 := ih (x + 1) n (by omega) (by omega)
    have ed : dgS (rTld α) h0 (x + 1) = 31 * dgS (rTld α) h0 x + i2lI (rTld α x) := rfl
    rw [show x + 1 + r = x + (r + 1) by omega, show ((x + 1 : Nat) : Int) = (x : Int) + 1 by omega, ed] at g1
    rw [lp_X10_digest_6, iwl_t (by omega), m_toldOf h (a := (x : Int)) (by omega), bd1_s, bnd_d]
    exact g1
theorem dm_sums_g {σ : St} {f : Int → Int} {h0 o N : Int} (kx : Int → Option Int) (hN : 0 ≤ N ∧ N ≤ 900) (hl : N ≤ uvLn o) (hq : ∀ i, 0 ≤ i → i < N → σ o i = f i) : ∀ (r x n : Nat), (x : Int) + r = N → r < n → lp_X10_sums_6 σ o N kx n (dgS f h0 x) x = kx (dgS f h0 (x + r)) := by
  intro r
  induction r with
  | zero =>
    intro x n h1 hn
    obtain ⟨n, rfl⟩ : ∃ k, n = k + 1 := ⟨n - 1, by omega⟩
    rw [lp_X10_sums_6, iww_f (by omega)]; rfl
  | succ r ih =>
    intro x n h1 hn
    obtain ⟨n, rfl⟩ : ∃ k, n = k + 1 := ⟨n - 1, by omega⟩
    have g1 := ih (x + 1) n (by omega) (by omega)
    have ed : dgS f h0 (x + 1) = 31 * dgS f h0 x + i2lI (f x) := rfl
    rw [show x + 1 + r = x + (r + 1) by omega, show ((x + 1 : Nat) : Int) = (x : Int) + 1 by omega, ed] at g1
    rw [lp_X10_sums_6, iww_t (by omega), rdA_t (by omega), hq x (by omega) (by omega), bnd_d]
    exact g1
theorem dm_sums {σ : St} {f : Int → Int} {h0 o N : Int} (hN : 0 ≤ N ∧ N ≤ 900) (hl : N ≤ uvLn o) (hq : ∀ i, 0 ≤ i → i < N → σ o i = f i) : f_X10_sums σ h0 o N = some (dgS f h0 N.toNat) := by
  have g := dm_sums_g (h0 := h0) (fun y4 => some y4) hN hl hq N.toNat 0 1000 (by omega) (by omega)
  have e0 : (((0 : Nat)) : Int) = 0 := rfl
  rw [e0, Nat.zero_add] at g
  exact g
def dM1 (σ4 : St) (y5 : Int) : Option (Int × St) :=
  bd1 (f_X10_sums σ4 y5 119 (6 * (σ4 118 1))) fun v6 =>
  bd1 (f_X10_sums σ4 v6 121 6) fun v7 =>
  bd1 (f_X10_sums σ4 v7 120 (3 * (σ4 118 3))) fun v8 =>
  bnd ((31 * ((31 * v8) + (i2lI (σ4 118 10)))) + (i2lI (σ4 118 11))) fun v9 =>
  bd2 (f_X10_chainsNow σ4) fun v10 σ11 =>
  if v10 = 0 then
    some ((31 * v9) - 1, σ11)
  else
    bd2 (f_X10_layChain σ11) fun v14 σ15 =>
    bd1 (f_X10_sums σ15 ((31 * v9) + (i2lI (σ11 118 34))) 141 (σ15 118 3)) fun v16 =>
    some (v16, σ15)
theorem dgm_e {σ : St} : f_X10_digest σ = lp_X10_digest_6 dM1 1000 σ 1987 0 := rfl
theorem xm_digest {σ α : St} (h : IM σ α) (hw : WF α) : oM (f_X10_digest σ) σ α (rDg α) α := by
  have w2 := hw.2.1.2.1
  have w1 := hw.2.1.1
  have w3 := hw.1.2.1
  have w4 := hw.1.1
  have e0 : (((0 : Nat)) : Int) = 0 := rfl
  have a1 := dm_6 (h0 := 1987) dM1 h 7 0 1000 (by omega) (by omega)
  rw [e0, Nat.zero_add, show dgS (rTld α) 1987 0 = 1987 from rfl] at a1
  rw [dgm_e, a1]
  have u1 : σ 118 1 = α 0 0 := h.1.1
  have u3 : σ 118 3 = α 0 1 := h.2.1.1
  have t1 : σ 118 10 = α 0 8 := h.2.2.2.2.1
  have t2 : σ 118 11 = α 0 9 := h.2.2.2.2.2.1
  have b1 := dm_sums (σ := σ) (f := uFl α) (h0 := dgS (rTld α) 1987 7) (o := 119) (N := 6 * α 0 0) (by omega) (by rw [ln_119]; omega) (fun i i1 i2 => by
    have g := h.1.2 (i / 6) (i % 6) (by omega) (by omega) (by omega) (by omega)
    rw [show 6 * (i / 6) + i % 6 = i by omega] at g
    exact g)
  have b2 := dm_sums (σ := σ) (f := α 10) (h0 := dgS (uFl α) (dgS (rTld α) 1987 7) (6 * α 0 0).toNat) (o := 121) (N := 6) (by omega) (by rw [ln_121]; omega) (fun i i1 i2 => h.2.2.1.2.2.2.2.1 i i1 i2)
  have b3 := dm_sums (σ := σ) (f := tFl α) (h0 := dgS (α 10) (dgS (uFl α) (dgS (rTld α) 1987 7) (6 * α 0 0).toNat) (6 : Int).toNat) (o := 120) (N := 3 * α 0 1) (by omega) (by rw [ln_120]; omega) (fun i i1 i2 => by
    have g := h.2.1.2 (i / 3) (i % 3) (by omega) (by omega) (by omega) (by omega)
    rw [show 3 * (i / 3) + i % 3 = i by omega] at g
    exact g)
  rw [show (6 * α 0 0).toNat = 6 * (α 0 0).toNat by omega, show (6 : Int).toNat = 6 from rfl, show (3 * α 0 1).toNat = 3 * (α 0 1).toNat by omega] at b3
  rw [show (6 * α 0 0).toNat = 6 * (α 0 0).toNat by omega, show (6 : Int).toNat = 6 from rfl] at b2
  rw [show (6 * α 0 0).toNat = 6 * (α 0 0).toNat by omega] at b1
  unfold dM1 rDg
  rw [u1, b1, bd1_s, b2, bd1_s, u3, b3, bd1_s, bnd_d, t1, t2]
  have ed : 31 * (31 * dgS (tFl α) (dgS (α 10) (dgS (uFl α) (dgS (rTld α) 1987 7) (6 * (α 0 0).toNat)) 6) (3 * (α 0 1).toNat) + i2lI (α 0 8)) + i2lI (α 0 9) = dg2 α := rfl
  rw [ed]
  rcases m_now h hw with ⟨k1, τ, k2, k3, k4, k5, k6⟩ | ⟨k1, τ, k2, k3, k4⟩
  · rw [has_1 k1, if_pos rfl, k2, bd2_s, if_neg (by omega)]
    obtain ⟨ρ, g1, g2, g3, g4⟩ := m_lay k5 hw k1 k3 k4
    have u5 : ρ 118 3 = α 0 1 := g3.2.1.1
    have c1 := dm_sums (σ := ρ) (f := pth α (-1) (α 0 2)) (h0 := 31 * dg2 α + i2lI (tp α (-1) (α 0 2) 0)) (o := 141) (N := α 0 1) (by omega) (by rw [ln_141]; omega) g2
    rw [g1, bd2_s, u5, k3.1.1, c1, bd1_s]
    exact ⟨ρ, rfl, g3, fun o ho => by rw [g4 o (by omega), k6 o ho]⟩
  · rw [has_0 k1, if_neg (show ¬ (0 : Int) = 1 by omega), k2, bd2_s, if_pos rfl]
    exact ⟨τ, rfl, k3, k4⟩
