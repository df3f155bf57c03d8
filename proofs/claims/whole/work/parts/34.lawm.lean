/-! THE CLAIM OUT OF ONE WALK OF THE LAW'S BODY. Your part is whole_start (and what it stands on); all else here is the same for every law, but numbers. -/
def R_law : String := "UnitVoicesLaw"
def lw_P (b : Addr) (xs : List Int32) (args : Array Value) (s : State) : Prop := args = #[.ref b] ∧ s.IntsAt b xs ∧ xs.length ≤ 3584 ∧ (Jvm.Cond.and given_1 narrow_1).before args s = true
def lw_Q (_ : Array Value) (s : State) (o : Outcome) (t : State) : Prop := o = .returned (some (.int 1)) ∧ Framed s o t [] 600000 7302250
def lw_Z (below : List Frame) (a : Array Value) (s : State) : State → Prop := fun t => ∃ o, t.status = .running ∧ Ended t below o ∧ lw_Q a s o t
/-- the law's own end, with 1 on the stack, nothing written that was there before, its room as the claim has it -/
theorem lw_ret {p : Program} {l : Launch} {e : Env} {s : State} {m : MethodId} {below : List Frame} {meth : Method} {c : Code} {b : Nat} (hx : p.tables.exec = Jvm.exec) (hb : c.code = code) (hr : meth.sig.returnType = ret) (hlocks : meth.locks = false) {pc : Nat} {H : Heap} {ls : Array Slot} (hdg : decode code pc = .ok (.ireturn, 1)) : W p l e room_1 s m #[Value.ref b] below meth c H [] 600000 7302250 (lw_Z below #[Value.ref b] s) (F0 m pc ls [.int 1]) := by
  intro T hT X
  obtain ⟨fs, hret, hrun, hended, hW, hframe⟩ := X.leave (v := some (.int 1)) (hlocks := hlocks) (fun h => by rw [hr] at h; cases h)
  have hmeth' : T.vm.method? m = some meth := X.method'
  refine ⟨T.setFrames fs, ?_, .returned (some (.int 1)), hrun, hended, rfl, ⟨_, rfl⟩, hW, hframe⟩
  jvm_step X.here [X.here.top, hx, hb, hdg, hmeth', hr, ret, narrow_b1]
  (try refine ⟨rfl, ?_⟩); (try refine ⟨rfl, ?_⟩)
  first | (intro acts; rw [hret _ acts rfl rfl rfl]) | rw [hret _ _ rfl rfl rfl]
  exact Steps.refl _
/-- what holds at the law's entry: the machine, the code, the tables' words (any of lw_tbl by 'hts w (by decide +kernel)'), the script of L ints xs at the cell b, what the Statement gives of the start (any of its parts by flat_of_before) -/
def lw_At (p : Program) (s : State) (m : MethodId) (meth : Method) (c : Code) (b L : Nat) (xs : Nat → Int32) : Prop :=
  p.tables.exec = Jvm.exec ∧ c.code = code ∧ meth.sig.returnType = ret ∧ c.maxLocals = 4 ∧ s.vm.findClass R_law = some m.cls ∧ (∀ w ∈ lw_tbl, w.before #[Value.ref b] s = true) ∧ va_X b L xs s s.heap ∧ b < s.heap.size ∧ meth.locks = false ∧ (Jvm.Cond.and given_1 narrow_1).before #[Value.ref b] s = true
def rdS {α : Type} (L : Nat) (xs : Nat → Int32) (i : Int) (k : Int → Option α) : Option α := if 0 ≤ i ∧ i < L then k (xs i.toNat).toInt else none
theorem rdS_ex {α : Type} {L : Nat} {xs : Nat → Int32} {i : Int} {k : Int → Option α} {r : α} (h : rdS L xs i k = some r) : ∃ v, v = (xs i.toNat).toInt ∧ (0 ≤ i ∧ i < L) ∧ k v = some r := by
  unfold rdS at h
  by_cases c : 0 ≤ i ∧ i < L
  · rw [if_pos c] at h; exact ⟨_, rfl, c, h⟩
  · rw [if_neg c] at h; cases h
section UVL
variable {p : Program} {l : Launch} {e : Env} {R : Room} {s : State} {m : MethodId} {args : Array Value} {below : List Frame} {meth : Method} {c : Code} {H : Heap} {locs : List Loc} {cells slots : Nat} {Q : State → Prop}
variable {cc : ByteArray} {nL : Nat} {own : String} {rt : Option FieldType} {pc : Nat} {ls : Array Slot} {rest : List Value} {G : UG} {σ : St}
theorem r_scd (X : uvCx p m c cc nL own s args meth rt) {b L : Nat} {xs : Nat → Int32} (hX : va_X b L xs s s.heap) (hbl : b < s.heap.size) (hbA : ¬ uvA G b) (V : uvWo G σ s H locs) {i v : Int} (hi : 0 ≤ i ∧ i < L) (hL : L < 2147483648) (hv : v = (xs i.toNat).toInt) (d : decode cc pc = .ok (.iaload, 1))
    (kk : W p l e R s m args below meth c H locs cells slots Q (F0 m (pc + 1) ls (.int (iV v) :: rest))) : W p l e R s m args below meth c H locs cells slots Q (F0 m pc ls (.int (iV i) :: .ref b :: rest)) := by
  refine va_sld X.1 X.2.1 hX hbl hbA V.2 (iV_in hi hL) d ?_
  rw [iV_clamp hi hL]
  have e9 : iV v = xs i.toNat := by rw [hv]; exact Int32.ofInt_toInt _
  rw [e9] at kk
  exact kk
theorem r_scl (X : uvCx p m c cc nL own s args meth rt) {b L : Nat} {xs : Nat → Int32} (hX : va_X b L xs s s.heap) (hbl : b < s.heap.size) (hbA : ¬ uvA G b) (V : uvWo G σ s H locs) (d : decode cc pc = .ok (.arraylength, 1))
    (kk : W p l e R s m args below meth c H locs cells slots Q (F0 m (pc + 1) ls (.int (iV L) :: rest))) : W p l e R s m args below meth c H locs cells slots Q (F0 m pc ls (.ref b :: rest)) := by
  refine va_slen X.1 X.2.1 hX hbl hbA V.2 d ?_
  have e9 : Int32.ofNat L = iV L := by unfold iV; first | exact (Int32.ofInt_natCast L).symm | rfl | simp
  rw [e9]
  exact kk
end UVL
def lp_L_law_18 (L : Nat) (xs : Nat → Int32) (kx : St → Option (Int × St)) : Nat → St → Int → Option (Int × St)
  | 0, _, _ => none
  | n + 1, σ, x3 =>
    if wI (L - 7) < wI x3 then
      kx σ
    else
      rdS L xs x3 fun v2 =>
      if wI (andI v2 31) = 0 then
        rdS L xs (x3 + 1) fun v4 =>
        rdS L xs (x3 + 2) fun v5 =>
        rdS L xs (x3 + 3) fun v6 =>
        rdS L xs (x3 + 4) fun v7 =>
        rdS L xs (x3 + 5) fun v8 =>
        rdS L xs (x3 + 6) fun v9 =>
        bd2 (f_X9_unit σ v4 v5 v6 v7 v8 v9) fun v10 σ11 =>
        rdS L xs (x3 + 1) fun v12 =>
        rdS L xs (x3 + 2) fun v13 =>
        rdS L xs (x3 + 3) fun v14 =>
        rdS L xs (x3 + 4) fun v15 =>
        rdS L xs (x3 + 5) fun v16 =>
        rdS L xs (x3 + 6) fun v17 =>
        bd2 (f_X10_unit σ11 v12 v13 v14 v15 v16 v17) fun v18 σ19 =>
        if wI v10 = wI v18 then
          lp_L_law_18 L xs kx n σ19 (x3 + 7)
        else
          some (0, σ19)
      else
        if wI (andI v2 31) = 1 then
          rdS L xs (x3 + 1) fun v22 =>
          rdS L xs (x3 + 2) fun v23 =>
          rdS L xs (x3 + 3) fun v24 =>
          bd2 (f_X9_records σ v22 v23 v24) fun v25 σ26 =>
          rdS L xs (x3 + 1) fun v27 =>
          rdS L xs (x3 + 2) fun v28 =>
          rdS L xs (x3 + 3) fun v29 =>
          bd2 (f_X10_records σ26 v27 v28 v29) fun v30 σ31 =>
          if wI v25 = wI v30 then
            lp_L_law_18 L xs kx n σ31 (x3 + 7)
          else
            some (0, σ31)
        else
          if wI (andI v2 31) = 2 then
            rdS L xs (x3 + 1) fun v34 =>
            rdS L xs (x3 + 2) fun v35 =>
            bd2 (f_X9_of σ v34 v35) fun v36 σ37 =>
            rdS L xs (x3 + 1) fun v38 =>
            rdS L xs (x3 + 2) fun v39 =>
            bd2 (f_X10_of σ37 v38 v39) fun v40 σ41 =>
            if wI v36 = wI v40 then
              lp_L_law_18 L xs kx n σ41 (x3 + 7)
            else
              some (0, σ41)
          else
            if wI (andI v2 31) = 3 then
              bd2 (f_X9_empties σ) fun v44 σ45 =>
              bd2 (f_X10_empties σ45) fun v46 σ47 =>
              if wI v44 = wI v46 then
                lp_L_law_18 L xs kx n σ47 (x3 + 7)
              else
                some (0, σ47)
            else
              if wI (andI v2 31) = 4 then
                rdS L xs (x3 + 1) fun v50 =>
                rdS L xs (x3 + 2) fun v51 =>
                bd2 (f_X9_other σ v50 v51) fun v52 σ53 =>
                rdS L xs (x3 + 1) fun v54 =>
                rdS L xs (x3 + 2) fun v55 =>
                bd2 (f_X10_other σ53 v54 v55) fun v56 σ57 =>
                if wI v52 = wI v56 then
                  lp_L_law_18 L xs kx n σ57 (x3 + 7)
                else
                  some (0, σ57)
              else
                if wI (andI v2 31) = 5 then
                  rdS L xs (x3 + 1) fun v60 =>
                  bd2 (f_X9_fitter σ v60) fun v61 σ62 =>
                  rdS L xs (x3 + 1) fun v63 =>
                  bd2 (f_X10_fitter σ62 v63) fun v64 σ65 =>
                  if wI v61 = wI v64 then
                    lp_L_law_18 L xs kx n σ65 (x3 + 7)
                  else
                    some (0, σ65)
                else
                  if wI (andI v2 31) = 6 then
                    rdS L xs (x3 + 1) fun v68 =>
                    bd2 (f_X9_type σ v68) fun v69 σ70 =>
                    rdS L xs (x3 + 1) fun v71 =>
                    bd2 (f_X10_type σ70 v71) fun v72 σ73 =>
                    if wI v69 = wI v72 then
                      lp_L_law_18 L xs kx n σ73 (x3 + 7)
                    else
                      some (0, σ73)
                  else
                    if wI (andI v2 31) = 7 then
                      bd2 (f_X9_clear σ) fun v76 σ77 =>
                      bd2 (f_X10_clear σ77) fun v78 σ79 =>
                      if wI v76 = wI v78 then
                        lp_L_law_18 L xs kx n σ79 (x3 + 7)
                      else
                        some (0, σ79)
                    else
                      if wI (andI v2 31) = 8 then
                        bd2 (f_X9_reads σ) fun v82 σ83 =>
                        bd2 (f_X10_reads σ83) fun v84 σ85 =>
                        if wI v82 = wI v84 then
                          lp_L_law_18 L xs kx n σ85 (x3 + 7)
                        else
                          some (0, σ85)
                      else
                        if wI (andI v2 31) = 9 then
                          rdS L xs (x3 + 1) fun v88 =>
                          rdS L xs (x3 + 2) fun v89 =>
                          bd2 (f_X9_target σ v88 v89) fun v90 σ91 =>
                          rdS L xs (x3 + 1) fun v92 =>
                          rdS L xs (x3 + 2) fun v93 =>
                          bd2 (f_X10_target σ91 v92 v93) fun v94 σ95 =>
                          if wI v90 = wI v94 then
                            lp_L_law_18 L xs kx n σ95 (x3 + 7)
                          else
                            some (0, σ95)
                        else
                          if wI (andI v2 31) = 10 then
                            rdS L xs (x3 + 1) fun v98 =>
                            bd2 (f_X9_tree σ v98) fun v99 σ100 =>
                            rdS L xs (x3 + 1) fun v101 =>
                            bd2 (f_X10_tree σ100 v101) fun v102 σ103 =>
                            if wI v99 = wI v102 then
                              lp_L_law_18 L xs kx n σ103 (x3 + 7)
                            else
                              some (0, σ103)
                          else
                            if wI (andI v2 31) = 11 then
                              rdS L xs (x3 + 1) fun v106 =>
                              rdS L xs (x3 + 2) fun v107 =>
                              bd2 (f_X9_leaf σ v106 v107) fun v108 σ109 =>
                              rdS L xs (x3 + 1) fun v110 =>
                              rdS L xs (x3 + 2) fun v111 =>
                              bd2 (f_X10_leaf σ109 v110 v111) fun v112 σ113 =>
                              if wI v108 = wI v112 then
                                lp_L_law_18 L xs kx n σ113 (x3 + 7)
                              else
                                some (0, σ113)
                            else
                              if wI (andI v2 31) = 12 then
                                rdS L xs (x3 + 1) fun v116 =>
                                rdS L xs (x3 + 2) fun v117 =>
                                bd2 (f_X9_choice σ v116 v117) fun v118 σ119 =>
                                rdS L xs (x3 + 1) fun v120 =>
                                rdS L xs (x3 + 2) fun v121 =>
                                bd2 (f_X10_choice σ119 v120 v121) fun v122 σ123 =>
                                if wI v118 = wI v122 then
                                  lp_L_law_18 L xs kx n σ123 (x3 + 7)
                                else
                                  some (0, σ123)
                              else
                                if wI (andI v2 31) = 13 then
                                  rdS L xs (x3 + 1) fun v126 =>
                                  bd2 (f_X9_steps σ v126) fun v127 σ128 =>
                                  rdS L xs (x3 + 1) fun v129 =>
                                  bd2 (f_X10_steps σ128 v129) fun v130 σ131 =>
                                  if wI v127 = wI v130 then
                                    lp_L_law_18 L xs kx n σ131 (x3 + 7)
                                  else
                                    some (0, σ131)
                                else
                                  if wI (andI v2 31) = 14 then
                                    rdS L xs (x3 + 1) fun v134 =>
                                    bd2 (f_X9_tried σ v134) fun v135 σ136 =>
                                    rdS L xs (x3 + 1) fun v137 =>
                                    bd2 (f_X10_tried σ136 v137) fun v138 σ139 =>
                                    if wI v135 = wI v138 then
                                      lp_L_law_18 L xs kx n σ139 (x3 + 7)
                                    else
                                      some (0, σ139)
                                  else
                                    if wI (andI v2 31) = 15 then
                                      rdS L xs (x3 + 1) fun v142 =>
                                      rdS L xs (x3 + 2) fun v143 =>
                                      bd2 (f_X9_fit σ v142 v143) fun v144 σ145 =>
                                      rdS L xs (x3 + 1) fun v146 =>
                                      rdS L xs (x3 + 2) fun v147 =>
                                      bd2 (f_X10_fit σ145 v146 v147) fun v148 σ149 =>
                                      if wI v144 = wI v148 then
                                        lp_L_law_18 L xs kx n σ149 (x3 + 7)
                                      else
                                        some (0, σ149)
                                    else
                                      if wI (andI v2 31) = 16 then
                                        rdS L xs (x3 + 1) fun v152 =>
                                        rdS L xs (x3 + 2) fun v153 =>
                                        bd2 (f_X9_joint σ v152 v153) fun v154 σ155 =>
                                        rdS L xs (x3 + 1) fun v156 =>
                                        rdS L xs (x3 + 2) fun v157 =>
                                        bd2 (f_X10_joint σ155 v156 v157) fun v158 σ159 =>
                                        if wI v154 = wI v158 then
                                          lp_L_law_18 L xs kx n σ159 (x3 + 7)
                                        else
                                          some (0, σ159)
                                      else
                                        if wI (andI v2 31) = 17 then
                                          bd2 (f_X9_cost σ) fun v162 σ163 =>
                                          bd2 (f_X10_cost σ163) fun v164 σ165 =>
                                          if wI v162 = wI v164 then
                                            lp_L_law_18 L xs kx n σ165 (x3 + 7)
                                          else
                                            some (0, σ165)
                                        else
                                          if wI (andI v2 31) = 18 then
                                            rdS L xs (x3 + 1) fun v168 =>
                                            bd2 (f_X9_chain σ v168) fun v169 σ170 =>
                                            rdS L xs (x3 + 1) fun v171 =>
                                            bd2 (f_X10_chain σ170 v171) fun v172 σ173 =>
                                            if wI v169 = wI v172 then
                                              lp_L_law_18 L xs kx n σ173 (x3 + 7)
                                            else
                                              some (0, σ173)
                                          else
                                            if wI (andI v2 31) = 19 then
                                              bd2 (f_X9_ways σ) fun v176 σ177 =>
                                              bd2 (f_X10_ways σ177) fun v178 σ179 =>
                                              if wI v176 = wI v178 then
                                                lp_L_law_18 L xs kx n σ179 (x3 + 7)
                                              else
                                                some (0, σ179)
                                            else
                                              if wI (andI v2 31) = 20 then
                                                bd2 (f_X9_next σ) fun v182 σ183 =>
                                                bd2 (f_X10_next σ183) fun v184 σ185 =>
                                                if wI v182 = wI v184 then
                                                  lp_L_law_18 L xs kx n σ185 (x3 + 7)
                                                else
                                                  some (0, σ185)
                                              else
                                                if wI (andI v2 31) = 21 then
                                                  bd2 (f_X9_dearest σ) fun v188 σ189 =>
                                                  bd2 (f_X10_dearest σ189) fun v190 σ191 =>
                                                  if wI v188 = wI v190 then
                                                    lp_L_law_18 L xs kx n σ191 (x3 + 7)
                                                  else
                                                    some (0, σ191)
                                                else
                                                  if wI (andI v2 31) = 22 then
                                                    rdS L xs (x3 + 1) fun v194 =>
                                                    bd2 (f_X9_without σ v194) fun v195 σ196 =>
                                                    rdS L xs (x3 + 1) fun v197 =>
                                                    bd2 (f_X10_without σ196 v197) fun v198 σ199 =>
                                                    if wI v195 = wI v198 then
                                                      lp_L_law_18 L xs kx n σ199 (x3 + 7)
                                                    else
                                                      some (0, σ199)
                                                  else
                                                    if wI (andI v2 31) = 23 then
                                                      rdS L xs (x3 + 1) fun v202 =>
                                                      bd2 (f_X9_about σ v202) fun v203 σ204 =>
                                                      rdS L xs (x3 + 1) fun v205 =>
                                                      bd2 (f_X10_about σ204 v205) fun v206 σ207 =>
                                                      if wI v203 = wI v206 then
                                                        lp_L_law_18 L xs kx n σ207 (x3 + 7)
                                                      else
                                                        some (0, σ207)
                                                    else
                                                      if wI (andI v2 31) = 24 then
                                                        rdS L xs (x3 + 1) fun v210 =>
                                                        bd2 (f_X9_cheapest σ v210) fun v211 σ212 =>
                                                        rdS L xs (x3 + 1) fun v213 =>
                                                        bd2 (f_X10_cheapest σ212 v213) fun v214 σ215 =>
                                                        if wI v211 = wI v214 then
                                                          lp_L_law_18 L xs kx n σ215 (x3 + 7)
                                                        else
                                                          some (0, σ215)
                                                      else
                                                        if wI (andI v2 31) = 25 then
                                                          rdS L xs (x3 + 1) fun v218 =>
                                                          bd2 (f_X9_told σ v218) fun v219 σ220 =>
                                                          rdS L xs (x3 + 1) fun v221 =>
                                                          bd2 (f_X10_told σ220 v221) fun v222 σ223 =>
                                                          if wI v219 = wI v222 then
                                                            lp_L_law_18 L xs kx n σ223 (x3 + 7)
                                                          else
                                                            some (0, σ223)
                                                        else
                                                          if wI (andI v2 31) = 26 then
                                                            bd2 (f_X9_digest σ) fun v226 σ227 =>
                                                            bd2 (f_X10_digest σ227) fun v228 σ229 =>
                                                            if cmpL v226 v228 = 0 then
                                                              lp_L_law_18 L xs kx n σ229 (x3 + 7)
                                                            else
                                                              some (0, σ229)
                                                          else
                                                            lp_L_law_18 L xs kx n σ (x3 + 7)
def f_L_law (L : Nat) (xs : Nat → Int32) (σ : St) : Option (Int × St) :=
  lp_L_law_18 L xs (fun σ231 =>
      some (1, σ231)) 600 σ 0
