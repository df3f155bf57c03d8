/-! ===== the start ===== -/
def a0S : St := fun o i => if o = 0 ∧ (i = 7 ∨ i = 8) then 1 else if o = 10 ∧ 0 ≤ i ∧ i < 6 then i else if o = 16 ∧ i = 0 then -1 else 0
theorem a0_z : a0S 0 0 = 0 ∧ a0S 0 1 = 0 ∧ a0S 0 2 = 0 ∧ a0S 0 3 = 0 ∧ a0S 0 4 = 0 ∧ a0S 0 5 = 0 ∧ a0S 0 6 = 0 ∧ a0S 0 7 = 1 ∧ a0S 0 8 = 1 ∧ a0S 0 9 = 0 := by decide +kernel
theorem a0_t : a0S 12 0 = 0 ∧ a0S 13 0 = 0 ∧ a0S 16 0 = -1 ∧ a0S 17 0 = 0 := by decide +kernel
theorem wf_0 : WF a0S := by
  obtain ⟨z0, z1, z2, z3, z4, z5, z6, z7, z8, z9⟩ := a0_z
  obtain ⟨t1, t2, t3, t4⟩ := a0_t
  refine ⟨⟨by omega, by omega, fun u a b => by omega⟩, ⟨by omega, by omega, fun u a b => by omega⟩, ⟨by omega, fun q a b => ?_⟩, ⟨by omega, by omega, fun u a b => by omega⟩, ⟨by omega, by omega, by omega, t3, t4, fun i a b => ?_⟩⟩
  · have : a0S 10 q = q := by
      unfold a0S
      rw [if_neg (by omega), if_pos (by omega)]
    omega
  · have e : i = 0 := by omega
    subst e
    rw [t1, t2, t4, z8]
    exact ⟨by omega, by omega, fun _ => by omega, fun z => absurd rfl z⟩
theorem st_c : st_193 1 8 = 0 ∧ st_193 9 0 = -1 ∧ st_193 9 1 = -1 ∧ st_193 9 2 = -1 ∧ st_193 9 3 = -1 ∧ st_193 10 3 = 0 ∧ st_193 0 8 = 0 ∧ st_193 0 9 = 0 ∧ st_193 0 10 = 0 ∧ st_193 0 11 = 0 ∧ st_193 64 0 = 0 ∧ st_193 65 0 = 1000000 ∧ st_193 66 0 = 0 ∧ st_193 67 0 = 1 ∧ st_193 21 3 = 0 ∧ st_193 14 6 = 1 ∧ st_193 14 7 = 1 ∧ st_193 14 8 = 0 ∧ st_193 15 0 = 42 ∧ st_193 17 0 = -1 ∧ st_193 20 0 = 0 := by decide +kernel
theorem st_o : ∀ q : Nat, q < 6 → st_193 34 (q : Int) = q ∧ st_193 121 (q : Int) = q := by decide +kernel
theorem st_m : st_193 118 1 = 0 ∧ st_193 118 3 = 0 ∧ st_193 118 5 = 0 ∧ st_193 126 0 = 0 ∧ st_193 126 1 = 0 ∧ st_193 126 2 = 0 ∧ st_193 118 27 = -1 ∧ st_193 118 14 = 0 ∧ st_193 118 10 = 1 ∧ st_193 118 11 = 0 ∧ st_193 122 0 = 0 ∧ st_193 123 0 = 0 := by decide +kernel
theorem a0_q {q : Int} (a : 0 ≤ q) (b : q < 6) : a0S 10 q = q := by
  unfold a0S
  rw [if_neg (by omega), if_pos (by omega)]
theorem ic_0 : IC st_193 a0S := by
  obtain ⟨z0, z1, z2, z3, z4, z5, z6, z7, z8, z9⟩ := a0_z
  obtain ⟨t1, t2, t3, t4⟩ := a0_t
  obtain ⟨s1, s2, s3, s4, s5, s6, s7, s8, s9, s10, s11, s12, s13, s14, s15, s16, s17, s18, s19, s20, s21⟩ := st_c
  refine ⟨⟨by omega, fun u a b => by omega, fun t a b => Or.inl ⟨?_, fun v c d => by omega⟩⟩, ⟨by omega, fun u a b => by omega⟩, ⟨by omega, by omega, by omega, by omega, fun q a b => ?_, s11, s12, s13, s14⟩, ⟨by omega, fun u a b => by omega⟩, ⟨by omega, by omega, by omega, fun i a b => ?_⟩⟩
  · have : t = 0 ∨ t = 1 ∨ t = 2 ∨ t = 3 := by omega
    rcases this with rfl | rfl | rfl | rfl
    · exact s2
    · exact s3
    · exact s4
    · exact s5
  · have := (st_o q.toNat (by omega)).1
    rw [show ((q.toNat : Nat) : Int) = q by omega] at this
    rw [a0_q a b, this]
  · have e : i = 0 := by omega
    subst e
    rw [t1, t2, t3, s19, s20, s21]
    exact ⟨rfl, rfl, fun z => absurd rfl z, fun _ => rfl⟩
theorem im_0 : IM st_193 a0S := by
  obtain ⟨z0, z1, z2, z3, z4, z5, z6, z7, z8, z9⟩ := a0_z
  obtain ⟨t1, t2, t3, t4⟩ := a0_t
  obtain ⟨s1, s2, s3, s4, s5, s6, s7, s8, s9, s10, s11, s12⟩ := st_m
  refine ⟨⟨by omega, fun u w a b => by omega⟩, ⟨by omega, fun u w a b => by omega⟩, ⟨by omega, by omega, by omega, by omega, fun q a b => ?_, s7⟩, ⟨by omega, fun u a b => by omega⟩, ⟨by omega, by omega, fun i a b => ?_⟩⟩
  · have := (st_o q.toNat (by omega)).2
    rw [show ((q.toNat : Nat) : Int) = q by omega] at this
    rw [a0_q a b, this]
  · have e : i = 0 := by omega
    subst e
    rw [t1, t2, s11, s12]
    exact ⟨rfl, rfl, fun z => absurd rfl z⟩
