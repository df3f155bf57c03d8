/-! ===== tallies of chains ===== -/
theorem uv_40 {o : Int} (h : 69 < o ∧ o < 118) : uvLn o = 40 := by
  unfold uvLn
  rw [if_neg (by omega), if_neg (by omega), if_neg (by omega), if_neg (by omega), if_neg (by omega), if_neg (by omega), if_neg (by omega), if_neg (by omega), if_neg (by omega), if_neg (by omega), if_neg (by omega), if_neg (by omega), if_neg (by omega), if_pos (by omega)]
theorem uv_1 {o : Int} (h : 56 < o ∧ o < 69) : uvLn o = 1 := by
  unfold uvLn
  rw [if_neg (by omega), if_neg (by omega), if_neg (by omega), if_neg (by omega), if_neg (by omega), if_neg (by omega), if_neg (by omega), if_neg (by omega), if_neg (by omega), if_neg (by omega), if_neg (by omega), if_pos (by omega)]
def oB (b v : Int) : Int := if b = -1 then v else if v < b then v else b
def oS (b s v : Int) : Int := if b = -1 then b else if v < b then b else if s = -1 then v else if v < s then v else s
def cap (y : Int) : Int := if 1000000000 < y then 1000000000 else y
def tB (b l q t : Int) : Int := if q = -1 then oB b (l + t) else oB (oB b (l + t)) (q + t)
def tS (b s l q t : Int) : Int := if q = -1 then oS b s (l + t) else oS (oB b (l + t)) (oS b s (l + t)) (q + t)
def tX (x m t : Int) : Int := if x < m + t then m + t else x
def tW (b w l v t : Int) : Int := if b = -1 then cap (0 + v) else if b < l + t then w else if l + t < b then cap (0 + v) else cap (w + v)
/-- least, second or -1, most, ways, over the first j -/
def fd (D : Int → Int → Int) (jt : Int → Int) : Nat → Int → Int
  | 0, w => if w = 3 then 0 else -1
  | j + 1, w => if w = 0 then tB (fd D jt j 0) (D 0 j) (D 1 j) (jt j) else if w = 1 then tS (fd D jt j 0) (fd D jt j 1) (D 0 j) (D 1 j) (jt j) else if w = 2 then tX (fd D jt j 2) (D 2 j) (jt j) else tW (fd D jt j 0) (fd D jt j 3) (D 0 j) (D 3 j) (jt j)
theorem fd_0 {D : Int → Int → Int} {jt : Int → Int} : fd D jt 0 0 = -1 ∧ fd D jt 0 1 = -1 ∧ fd D jt 0 2 = -1 ∧ fd D jt 0 3 = 0 := ⟨rfl, rfl, rfl, rfl⟩
theorem fd_s {D : Int → Int → Int} {jt : Int → Int} {j : Nat} : fd D jt (j + 1) 0 = tB (fd D jt j 0) (D 0 j) (D 1 j) (jt j) ∧ fd D jt (j + 1) 1 = tS (fd D jt j 0) (fd D jt j 1) (D 0 j) (D 1 j) (jt j) ∧ fd D jt (j + 1) 2 = tX (fd D jt j 2) (D 2 j) (jt j) ∧ fd D jt (j + 1) 3 = tW (fd D jt j 0) (fd D jt j 3) (D 0 j) (D 3 j) (jt j) := ⟨rfl, rfl, rfl, rfl⟩
/-- the first that is cheapest -/
def fv (D : Int → Int → Int) (jt : Int → Int) : Nat → Int
  | 0 => 0
  | j + 1 => if fd D jt j 0 = -1 ∨ D 0 j + jt j < fd D jt j 0 then (j : Int) else fv D jt j
def okE (B l q m v : Int) : Prop := (0 ≤ l ∧ l ≤ B) ∧ (q = -1 ∨ (l ≤ q ∧ q ≤ B)) ∧ (0 ≤ m ∧ m ≤ B) ∧ (0 ≤ v ∧ v ≤ 1000000000)
def okF (B b s x w : Int) : Prop := (b = -1 ∧ s = -1 ∧ x = -1 ∧ w = 0) ∨ okE B b s x w
theorem cap_e {y : Int} (h : 0 ≤ y) : 0 ≤ cap y ∧ cap y ≤ 1000000000 ∧ (y ≤ 1000000000 → cap y = y) := by
  unfold cap
  by_cases c : 1000000000 < y
  · rw [if_pos c]; omega
  · rw [if_neg c]; omega
/-- one step of the fold, told without the detours -/
theorem t_e {B b s x w l q m v t : Int} (hF : okF B b s x w) (hE : okE B l q m v) (ht : 0 ≤ t) : (tB b l q t = if b = -1 ∨ l + t < b then l + t else b) ∧ (tS b s l q t = if b = -1 then (if q = -1 then -1 else q + t) else if l + t < b then (if q = -1 then b else if q + t < b then q + t else b) else if s = -1 then l + t else if l + t < s then l + t else s) ∧ tW b w l v t = (if b = -1 then v else if b < l + t then w else if l + t < b then v else cap (w + v)) := by
  obtain ⟨e1, e2, e3, e4⟩ := hE
  have c1 : cap (0 + v) = v := by have := cap_e (y := 0 + v) (by omega); omega
  have hW : tW b w l v t = (if b = -1 then v else if b < l + t then w else if l + t < b then v else cap (w + v)) := by
    unfold tW; rw [c1]
  refine ⟨?_, ?_, hW⟩
  · unfold tB oB
    by_cases cq : q = -1
    · rw [if_pos cq]
      by_cases cb : b = -1
      · rw [if_pos cb, if_pos (Or.inl cb)]
      · rw [if_neg cb]
        by_cases cl : l + t < b
        · rw [if_pos cl, if_pos (Or.inr cl)]
        · rw [if_neg cl, if_neg (by omega)]
    · rw [if_neg cq]
      by_cases cb : b = -1
      · rw [if_pos cb, if_pos (Or.inl cb), if_neg (by omega), if_neg (by omega)]
      · rw [if_neg cb]
        rcases hF with hF | ⟨f1, f2, f3, f4⟩
        · omega
        · by_cases cl : l + t < b
          · rw [if_pos cl, if_pos (Or.inr cl), if_neg (by omega), if_neg (by omega)]
          · rw [if_neg cl, if_neg (show ¬ (b = -1 ∨ l + t < b) by omega), if_neg cb, if_neg (by omega)]
  · unfold tS oS oB
    by_cases cq : q = -1
    · rw [if_pos cq, if_pos cq, if_pos cq]
      by_cases cb : b = -1
      · rw [if_pos cb, if_pos cb]; omega
      · rw [if_neg cb, if_neg cb]
    · rw [if_neg cq, if_neg cq, if_neg cq]
      by_cases cb : b = -1
      · rw [if_pos cb, if_pos cb, if_pos cb, if_neg (show ¬ l + t = -1 by omega), if_neg (show ¬ q + t < l + t by omega), if_pos cb]
      · rw [if_neg cb, if_neg cb, if_neg cb]
        rcases hF with hF | ⟨f1, f2, f3, f4⟩
        · omega
        · by_cases cl : l + t < b
          · rw [if_pos cl, if_pos cl, if_pos cl, if_neg (show ¬ l + t = -1 by omega), if_neg (show ¬ q + t < l + t by omega), if_neg cb]
          · rw [if_neg cl, if_neg cl, if_neg cl, if_neg cb, if_neg (show ¬ q + t < b by omega)]
            by_cases cs : s = -1
            · rw [if_pos cs, if_neg (show ¬ l + t = -1 by omega), if_neg (show ¬ q + t < l + t by omega)]
            · rw [if_neg cs]
              by_cases c2 : l + t < s
              · rw [if_pos c2, if_neg (show ¬ l + t = -1 by omega), if_neg (show ¬ q + t < l + t by omega)]
              · rw [if_neg c2, if_neg cs, if_neg (show ¬ q + t < s by omega)]
theorem t_ok {B b s x w l q m v t : Int} (hF : okF (B + 16) b s x w) (hE : okE B l q m v) (ht : 0 ≤ t ∧ t ≤ 16) : okE (B + 16) (tB b l q t) (tS b s l q t) (tX x m t) (tW b w l v t) := by
  have hE' : okE (B + 16) l q m v := by
    obtain ⟨e1, e2, e3, e4⟩ := hE
    exact ⟨by omega, by omega, by omega, e4⟩
  obtain ⟨q1, q2, q3⟩ := t_e hF hE' ht.1
  obtain ⟨e1, e2, e3, e4⟩ := hE
  rw [q1, q2, q3]
  have hX : 0 ≤ tX x m t ∧ tX x m t ≤ B + 16 := by
    unfold tX
    rcases hF with hF | ⟨f1, f2, f3, f4⟩
    · rw [if_pos (by omega)]; omega
    · by_cases c : x < m + t
      · rw [if_pos c]; omega
      · rw [if_neg c]; omega
  by_cases cb : b = -1
  · rw [if_pos (Or.inl cb), if_pos cb, if_pos cb]
    refine ⟨by omega, ?_, hX, e4⟩
    by_cases cq : q = -1
    · rw [if_pos cq]; left; rfl
    · rw [if_neg cq]; right; omega
  · rcases hF with hF | ⟨f1, f2, f3, f4⟩
    · omega
    · rw [if_neg cb, if_neg cb]
      by_cases cl : l + t < b
      · rw [if_pos (Or.inr cl), if_pos cl, if_neg (show ¬ b < l + t by omega), if_pos cl]
        refine ⟨by omega, ?_, hX, e4⟩
        right
        by_cases cq : q = -1
        · rw [if_pos cq]; omega
        · rw [if_neg cq]
          by_cases c3 : q + t < b
          · rw [if_pos c3]; omega
          · rw [if_neg c3]; omega
      · rw [if_neg (show ¬ (b = -1 ∨ l + t < b) by omega), if_neg cl, if_neg cl]
        have hcap := cap_e (y := w + v) (by omega)
        refine ⟨f1, ?_, hX, ?_⟩
        · right
          by_cases cs : s = -1
          · rw [if_pos cs]; omega
          · rw [if_neg cs]
            by_cases c2 : l + t < s
            · rw [if_pos c2]; omega
            · rw [if_neg c2]; omega
        · by_cases c4 : b < l + t
          · rw [if_pos c4]; exact f4
          · rw [if_neg c4]; omega
theorem fd_ok {D : Int → Int → Int} {jt : Int → Int} {B : Int} {n : Nat} (hD : ∀ i : Nat, i < n → okE B (D 0 i) (D 1 i) (D 2 i) (D 3 i)) (hj : ∀ i : Nat, i < n → 0 ≤ jt i ∧ jt i ≤ 16) : ∀ j : Nat, j ≤ n → okF (B + 16) (fd D jt j 0) (fd D jt j 1) (fd D jt j 2) (fd D jt j 3) ∧ (0 < j → okE (B + 16) (fd D jt j 0) (fd D jt j 1) (fd D jt j 2) (fd D jt j 3)) := by
  intro j
  induction j with
  | zero => intro _; exact ⟨Or.inl ⟨rfl, rfl, rfl, rfl⟩, fun z => by omega⟩
  | succ j ih =>
    intro h
    have g := (ih (by omega)).1
    have e := t_ok g (hD j (by omega)) (hj j (by omega))
    obtain ⟨s1, s2, s3, s4⟩ := fd_s (D := D) (jt := jt) (j := j)
    rw [s1, s2, s3, s4]
    exact ⟨Or.inr e, fun _ => e⟩
/-! the component's offer -/
def far (f b : Int) : Int := if b = -1 then 1000000 else f + b
/-- entry e of tally o holds the fold (b s x w) with the fit f, by way v -/
def cE (σ : St) (o e f b s x w v : Int) : Prop := σ (o + 1) e = far f b ∧ σ (o + 2) e = far f s ∧ σ (o + 3) e = (if b = -1 then 0 else f + x) ∧ σ (o + 4) e = w ∧ σ (o + 5) e = v
/-- entry e of tally o holds (l q m v) -/
def cD (σ : St) (o e l q m v : Int) : Prop := σ (o + 1) e = l ∧ σ (o + 2) e = far 0 q ∧ σ (o + 3) e = m ∧ σ (o + 4) e = v
theorem far_r {f b B : Int} (hf : 0 ≤ f ∧ f ≤ 1000) (hB : B ≤ 1000) (hb : b = -1 ∨ (0 ≤ b ∧ b ≤ B)) : 0 ≤ far f b ∧ far f b ≤ 1000000 := by
  unfold far
  by_cases c : b = -1
  · rw [if_pos c]; omega
  · rw [if_neg c]; omega
theorem c_offer {σ : St} {o e g j f b s x w v l q m y t B : Int} (hE : cE σ o e f b s x w v) (hD : cD σ g j l q m y) (hB : B ≤ 1000) (hF : okF B b s x w) (hO : okE B l q m y) (hf : 0 ≤ f ∧ f ≤ 1000) (ht : 0 ≤ t ∧ t ≤ 1000) (hj : 0 ≤ j ∧ j ≤ 1000) (u1 : ∀ i, 1 ≤ i → i ≤ 5 → 0 ≤ e ∧ e < (uvLn (o + i) : Int)) (u2 : ∀ i, 1 ≤ i → i ≤ 5 → 0 ≤ j ∧ j < (uvLn (g + i) : Int)) (hog : g + 5 ≤ o ∨ o + 5 ≤ g) : ∃ τ, f_X5_offer σ o e (f + t) g j = some (0, τ) ∧ cE τ o e f (tB b l q t) (tS b s l q t) (tX x m t) (tW b w l y t) (if b = -1 ∨ l + t < b then j else v) ∧ (∀ o', (o' ≤ o ∨ o + 5 < o') → τ o' = σ o') ∧ ∀ o' i, ¬ i = e → τ o' i = σ o' i := by
  obtain ⟨a1, a2, a3, a4, a5⟩ := hE
  obtain ⟨d1, d2, d3, d4⟩ := hD
  obtain ⟨q1, q2, q3⟩ := t_e hF hO ht.1
  obtain ⟨p1, p2, p3, p4⟩ := hO
  have x1 := u1 1 (by omega) (by omega)
  have x2 := u1 2 (by omega) (by omega)
  have x3 := u1 3 (by omega) (by omega)
  have x4 := u1 4 (by omega) (by omega)
  have x5 := u1 5 (by omega) (by omega)
  have y1 := u2 1 (by omega) (by omega)
  have y2 := u2 2 (by omega) (by omega)
  have y3 := u2 3 (by omega) (by omega)
  have y4 := u2 4 (by omega) (by omega)
  have hX : -1 ≤ x ∧ x ≤ 1000 ∧ -1 ≤ b ∧ b ≤ 1000 ∧ -1 ≤ s ∧ s ≤ 1000 ∧ 0 ≤ w ∧ w ≤ 1000000000 := by
    rcases hF with hF | ⟨f1, f2, f3, f4⟩ <;> omega
  have eX : f_J9_max_7cf53 (σ (o + 3) e) (f + t + m) = f + tX x m t := by
    rw [a3]
    unfold tX
    by_cases cb : b = -1
    · have : x = -1 := by rcases hF with hF | ⟨f1, f2, f3, f4⟩ <;> omega
      rw [if_pos cb, max_e (by omega), if_pos (show x < m + t by omega)]
      by_cases c : 0 < f + t + m
      · rw [if_pos c]; omega
      · rw [if_neg c]; omega
    · rw [if_neg cb, max_e (by omega)]
      by_cases c : x < m + t
      · rw [if_pos c, if_pos (by omega)]; omega
      · rw [if_neg c, if_neg (by omega)]
  have fr : ∀ (z1 z2 z3 z4 z5 : Int) (o' : Int), (o' ≤ o ∨ o + 5 < o') → upS (upS (upS (upS (upS σ (o + 3) e z1) (o + 2) e z2) (o + 1) e z3) (o + 4) e z4) (o + 5) e z5 o' = σ o' := fun z1 z2 z3 z4 z5 o' ho => by rw [upS_of (by omega), upS_of (by omega), upS_of (by omega), upS_of (by omega), upS_of (by omega)]
  have d2r : 0 ≤ far 0 q ∧ far 0 q ≤ 1000000 := far_r (B := B) (by omega) hB (by omega)
  have a1r : 0 ≤ far f b ∧ far f b ≤ 1000000 := far_r (B := 1000) hf (by omega) (by omega)
  have a2r : 0 ≤ far f s ∧ far f s ≤ 1000000 := far_r (B := 1000) hf (by omega) (by omega)
  have nb : ¬ tB b l q t = -1 := by
    rw [q1]
    by_cases c : b = -1 ∨ l + t < b
    · rw [if_pos c]; omega
    · rw [if_neg c]; omega
  unfold f_X5_offer
  by_cases c : b = -1 ∨ l + t < b
  · have lt : f + t + l < far f b := by
      unfold far
      by_cases cb : b = -1
      · rw [if_pos cb]; omega
      · rw [if_neg cb]; omega
    have eS : f_J9_min_7cf53 (far f b) (f + t + far 0 q) = far f (tS b s l q t) := by
      rw [min_e (by omega), q2]
      unfold far
      by_cases cb : b = -1
      · rw [if_pos cb, if_pos cb]
        by_cases cq : q = -1
        · rw [if_pos cq, if_pos cq, if_pos rfl, if_neg (by omega)]
        · rw [if_neg cq, if_neg cq, if_neg (show ¬ q + t = -1 by omega), if_pos (by omega)]; omega
      · have cl : l + t < b := by omega
        rw [if_neg cb, if_neg cb, if_pos cl]
        by_cases cq : q = -1
        · rw [if_pos cq, if_pos cq, if_neg cb, if_neg (by omega)]
        · rw [if_neg cq, if_neg cq]
          by_cases c3 : q + t < b
          · rw [if_pos c3, if_neg (show ¬ q + t = -1 by omega), if_pos (by omega)]; omega
          · rw [if_neg c3, if_neg cb, if_neg (by omega)]
    have eW : tW b w l y t = y := by
      rw [q3]
      by_cases cb : b = -1
      · rw [if_pos cb]
      · rw [if_neg cb, if_neg (show ¬ b < l + t by omega), if_pos (by omega)]
    rw [if_pos c]
    rw [if_pos c] at q1
    refine ⟨upS (upS (upS (upS (upS σ (o + 3) e (f + tX x m t)) (o + 2) e (far f (tS b s l q t))) (o + 1) e (f + t + l)) (o + 4) e y) (o + 5) e j, ?_, ⟨?_, ?_, ?_, ?_, ?_⟩, fun o' ho => fr _ _ _ _ _ o' ho, fun o' i hi => by rw [upS_i hi, upS_i hi, upS_i hi, upS_i hi, upS_i hi]⟩
    · simp (disch := omega) only [↓rdA_t, ↓wrA_t, ↓ixA_t, ↓wrF_d, ↓bd2_s, ↓bd1_s, ↓bnd_d, ↓iww_t, ↓iww_f, ↓iwl_t, ↓iwl_f, ↓ilw_t, ↓ilw_f, ↓eww_t, ↓eww_f, ↓ewl_t, ↓ewl_f, ↓ez_t, ↓ez_f, ↓il_t, ↓il_f, il_t, il_f, ez_t, ez_f, if_true, if_false, upS_h, upS_o, upS_i, Int.reduceAdd, Int.reduceSub, Int.reduceMul, Int.reduceNeg, wI_id, d1, d2, d3, d4, eX, a1, eS]
    · simp (disch := omega) only [upS_h, upS_o, upS_i, Int.reduceAdd, Int.reduceSub, Int.reduceMul, Int.reduceNeg]
      unfold far
      rw [q1, if_neg (by omega)]; omega
    · simp (disch := omega) only [upS_h, upS_o, upS_i, Int.reduceAdd, Int.reduceSub, Int.reduceMul, Int.reduceNeg]
    · simp (disch := omega) only [upS_h, upS_o, upS_i, Int.reduceAdd, Int.reduceSub, Int.reduceMul, Int.reduceNeg]
      rw [if_neg nb]
    · simp (disch := omega) only [upS_h, upS_o, upS_i, Int.reduceAdd, Int.reduceSub, Int.reduceMul, Int.reduceNeg]
      exact eW.symm
    · simp (disch := omega) only [upS_h, upS_o, upS_i, Int.reduceAdd, Int.reduceSub, Int.reduceMul, Int.reduceNeg]
  · have cb : ¬ b = -1 := fun z => c (Or.inl z)
    have cl : ¬ l + t < b := fun z => c (Or.inr z)
    have eL : far f b = f + b := if_neg cb
    have eS : f_J9_min_7cf53 (far f s) (f + t + l) = far f (tS b s l q t) := by
      rw [min_e (by omega), q2, if_neg cb, if_neg cl]
      unfold far
      by_cases cs : s = -1
      · rw [if_pos cs, if_pos cs, if_neg (show ¬ l + t = -1 by omega), if_pos (by omega)]; omega
      · rw [if_neg cs, if_neg cs]
        by_cases c3 : l + t < s
        · rw [if_pos c3, if_neg (show ¬ l + t = -1 by omega), if_pos (by omega)]; omega
        · rw [if_neg c3, if_neg cs, if_neg (by omega)]
    have eB : far f (tB b l q t) = far f b := by rw [q1, if_neg c]
    rw [if_neg c]
    by_cases c4 : l + t = b
    · have eW : f_J9_min_7cf53 1000000000 (w + y) = tW b w l y t := by
        rw [q3, if_neg cb, if_neg (show ¬ b < l + t by omega), if_neg cl, min_e (by omega)]
        unfold cap
        by_cases c5 : 1000000000 < w + y
        · rw [if_pos c5, if_neg (by omega)]
        · rw [if_neg c5]
          by_cases c6 : w + y < 1000000000
          · rw [if_pos c6]
          · rw [if_neg c6]; omega
      refine ⟨upS (upS (upS σ (o + 3) e (f + tX x m t)) (o + 2) e (far f (tS b s l q t))) (o + 4) e (tW b w l y t), ?_, ⟨?_, ?_, ?_, ?_, ?_⟩, fun o' ho => by rw [upS_of (by omega), upS_of (by omega), upS_of (by omega)], fun o' i hi => by rw [upS_i hi, upS_i hi, upS_i hi]⟩
      · simp (disch := omega) only [↓rdA_t, ↓wrA_t, ↓ixA_t, ↓wrF_d, ↓bd2_s, ↓bd1_s, ↓bnd_d, ↓iww_t, ↓iww_f, ↓iwl_t, ↓iwl_f, ↓ilw_t, ↓ilw_f, ↓eww_t, ↓eww_f, ↓ewl_t, ↓ewl_f, ↓ez_t, ↓ez_f, ↓il_t, ↓il_f, il_t, il_f, ez_t, ez_f, if_true, if_false, upS_h, upS_o, upS_i, Int.reduceAdd, Int.reduceSub, Int.reduceMul, Int.reduceNeg, wI_id, d1, d2, d3, d4, eX, a1, a2, a4, eL, eS, eW]
      · simp (disch := omega) only [upS_h, upS_o, upS_i, Int.reduceAdd, Int.reduceSub, Int.reduceMul, Int.reduceNeg]
        rw [eB]; exact a1
      · simp (disch := omega) only [upS_h, upS_o, upS_i, Int.reduceAdd, Int.reduceSub, Int.reduceMul, Int.reduceNeg]
      · simp (disch := omega) only [upS_h, upS_o, upS_i, Int.reduceAdd, Int.reduceSub, Int.reduceMul, Int.reduceNeg]
        rw [if_neg nb]
      · simp (disch := omega) only [upS_h, upS_o, upS_i, Int.reduceAdd, Int.reduceSub, Int.reduceMul, Int.reduceNeg]
      · simp (disch := omega) only [upS_h, upS_o, upS_i, Int.reduceAdd, Int.reduceSub, Int.reduceMul, Int.reduceNeg]
        exact a5
    · have eW : tW b w l y t = w := by
        rw [q3, if_neg cb, if_pos (by omega)]
      refine ⟨upS (upS σ (o + 3) e (f + tX x m t)) (o + 2) e (far f (tS b s l q t)), ?_, ⟨?_, ?_, ?_, ?_, ?_⟩, fun o' ho => by rw [upS_of (by omega), upS_of (by omega)], fun o' i hi => by rw [upS_i hi, upS_i hi]⟩
      · simp (disch := omega) only [↓rdA_t, ↓wrA_t, ↓ixA_t, ↓wrF_d, ↓bd2_s, ↓bd1_s, ↓bnd_d, ↓iww_t, ↓iww_f, ↓iwl_t, ↓iwl_f, ↓ilw_t, ↓ilw_f, ↓eww_t, ↓eww_f, ↓ewl_t, ↓ewl_f, ↓ez_t, ↓ez_f, ↓il_t, ↓il_f, il_t, il_f, ez_t, ez_f, if_true, if_false, upS_h, upS_o, upS_i, Int.reduceAdd, Int.reduceSub, Int.reduceMul, Int.reduceNeg, wI_id, d1, d2, d3, d4, eX, a1, a2, eL, eS]
      · simp (disch := omega) only [upS_h, upS_o, upS_i, Int.reduceAdd, Int.reduceSub, Int.reduceMul, Int.reduceNeg]
        rw [eB]; exact a1
      · simp (disch := omega) only [upS_h, upS_o, upS_i, Int.reduceAdd, Int.reduceSub, Int.reduceMul, Int.reduceNeg]
      · simp (disch := omega) only [upS_h, upS_o, upS_i, Int.reduceAdd, Int.reduceSub, Int.reduceMul, Int.reduceNeg]
        rw [if_neg nb]
      · simp (disch := omega) only [upS_h, upS_o, upS_i, Int.reduceAdd, Int.reduceSub, Int.reduceMul, Int.reduceNeg]
        rw [eW]; exact a4
      · simp (disch := omega) only [upS_h, upS_o, upS_i, Int.reduceAdd, Int.reduceSub, Int.reduceMul, Int.reduceNeg]
        exact a5
