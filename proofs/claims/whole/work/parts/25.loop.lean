theorem LKL_8 : Cond.classLink RL 8 RX7 ∈ Gw := gwm 90 (by decide +kernel) (by decide +kernel)
theorem LKL_69 : Cond.classLink RL 69 RX8 ∈ Gw := gwm 828 (by decide +kernel) (by decide +kernel)
def lstep (c a1 a2 a3 a4 : Int32) (σ : Mem) (o : Nat → Int64) : Option (Mem × (Nat → Int64)) := if c &&& 31 = 0 then lc_0 a1 a2 a3 a4 σ o else if c &&& 31 = 1 then lc_1 a1 a2 a3 a4 σ o else if c &&& 31 = 2 then lc_2 a1 a2 a3 a4 σ o else if c &&& 31 = 3 then lc_3 a1 a2 a3 a4 σ o else if c &&& 31 = 4 then lc_4 a1 a2 a3 a4 σ o else if c &&& 31 = 5 then lc_5 a1 a2 a3 a4 σ o else if c &&& 31 = 6 then lc_6 a1 a2 a3 a4 σ o else if c &&& 31 = 7 then lc_7 a1 a2 a3 a4 σ o else if c &&& 31 = 8 then lc_8 a1 a2 a3 a4 σ o else if c &&& 31 = 9 then lc_9 a1 a2 a3 a4 σ o else if c &&& 31 = 10 then lc_10 a1 a2 a3 a4 σ o else if c &&& 31 = 11 then lc_11 a1 a2 a3 a4 σ o else if c &&& 31 = 12 then lc_12 a1 a2 a3 a4 σ o else if c &&& 31 = 13 then lc_13 a1 a2 a3 a4 σ o else if c &&& 31 = 14 then lc_14 a1 a2 a3 a4 σ o else if c &&& 31 = 15 then lc_15 a1 a2 a3 a4 σ o else if c &&& 31 = 16 then lc_16 a1 a2 a3 a4 σ o else if c &&& 31 = 17 then lc_17 a1 a2 a3 a4 σ o else if c &&& 31 = 18 then lc_18 a1 a2 a3 a4 σ o else some (σ, o)
def R_law : String := "LeaseNetLaw"
def lw_P (b : Addr) (xs : List Int32) (args : Array Value) (s : State) : Prop := args = #[.ref b] ∧ s.IntsAt b xs ∧ xs.length ≤ 240 ∧ (Jvm.Cond.and given_1 narrow_1).before args s = true
def lw_Q (_ : Array Value) (s : State) (o : Outcome) (t : State) : Prop := o = .returned (some (.int 1)) ∧ Framed s o t [] 600096 7301386
def lw_Z (below : List Frame) (a : Array Value) (s : State) : State → Prop := fun t => ∃ o, t.status = .running ∧ Ended t below o ∧ lw_Q a s o t
/-- the law's own end, with 1 on the stack, nothing written that was there before, its room as the claim has it -/
theorem lw_ret {p : Program} {l : Launch} {e : Env} {s : State} {m : MethodId} {below : List Frame} {meth : Method} {c : Code} {b : Nat} (hx : p.tables.exec = Jvm.exec) (hb : c.code = code) (hr : meth.sig.returnType = ret) (hlocks : meth.locks = false) {pc : Nat} {H : Heap} {ls : Array Slot} (hdg : decode code pc = .ok (.ireturn, 1)) : W p l e room_1 s m #[Value.ref b] below meth c H [] 600096 7301386 (lw_Z below #[Value.ref b] s) (F0 m pc ls [.int 1]) := by
  intro T hT X
  obtain ⟨fs, hret, hrun, hended, hW, hframe⟩ := X.leave (v := some (.int 1)) (hlocks := hlocks) (fun h => by rw [hr] at h; cases h)
  have hmeth' : T.vm.method? m = some meth := X.method'
  refine ⟨T.setFrames fs, ?_, .returned (some (.int 1)), hrun, hended, rfl, ⟨_, rfl⟩, hW, hframe⟩
  jvm_step X.here [X.here.top, hx, hb, hdg, hmeth', hr, ret, narrow_b1]
  (try refine ⟨rfl, ?_⟩); (try refine ⟨rfl, ?_⟩)
  first | (intro acts; rw [hret _ acts rfl rfl rfl]) | rw [hret _ _ rfl rfl rfl]
  exact Steps.refl _
/-- what holds at the law's entry: the machine, the code, the tables' words (any of lw_tbl by 'hts w (by decide +kernel)'), the script of L ints xs at the cell b, what the Statement gives of the start (any of its parts by flat_of_before) -/
def lw_At (p : Program) (s : State) (m : MethodId) (meth : Method) (c : Code) (b L : Nat) (xs : Nat → Int32) : Prop :=
  p.tables.exec = Jvm.exec ∧ c.code = code ∧ meth.sig.returnType = ret ∧ c.maxLocals = 7 ∧ s.vm.findClass R_law = some m.cls ∧ (∀ w ∈ lw_tbl, w.before #[Value.ref b] s = true) ∧ va_X b L xs s s.heap ∧ b < s.heap.size ∧ meth.locks = false ∧ (Jvm.Cond.and given_1 narrow_1).before #[Value.ref b] s = true
theorem lt_sub {L i : Nat} (hL : L ≤ 240) (hi : i < 2 ^ 30) : (nI L - (5 : Int32) < nI i) ↔ (L : Int) - 5 < i := by
  have e : (nI L - (5 : Int32)).toInt = (L : Int) - 5 := pk_sub_toInt (a := L) (b := 5) (by omega) (by decide)
  rw [Int32.lt_iff_toInt_lt, e, nI_toInt (by omega)]
set_option maxHeartbeats 4000000 in
set_option maxRecDepth 100000 in
theorem law_loop {p : Program} {l : Launch} {e : Env} {s : State} {m : MethodId} {below : List Frame} {meth : Method} {c : Code} {D : va_G} {cA : Nat → ClassId} {b L : Nat} {xs : Nat → Int32} (Inv : Nat → Mem → (Nat → Int64) → Prop) (hstep : ∀ k σ o c a1 a2 a3 a4, Inv k σ o → k < 48 → ∃ r, lstep c a1 a2 a3 a4 σ o = some r ∧ Inv (k + 1) r.1 r.2) (hL : L ≤ 240) (hl0 : l.stackTraces = false) (CA : ∀ o, Cx p s m #[Value.ref b] meth c cL_law 7 RL ret D cA (adB s.heap.size) (fun q => s.heap.size ≤ q) o) (hXW : XW s) (hZU : ZU (fun q => s.heap.size ≤ q) s s.heap) (hX : va_X b L xs s s.heap) (hbl : b < s.heap.size) :
    ∀ (t k : Nat) (σ : Mem) (o : Nat → Int64) {H : Heap} {locs : List Loc} {ls : Array Slot}, k + t = 49 → k ≤ 48 → Inv k σ o → HH D cA (adB s.heap.size) (fun q => s.heap.size ≤ q) o s σ H locs → lv_has ls 7 [(0, .ref b), (1, .ref (adB s.heap.size 799 0)), (2, .ref (adB s.heap.size 899 0)), (3, .ref (adB s.heap.size 900 0)), (4, .int (nI (5 * k)))] → W p l e room_1 s m #[Value.ref b] below meth c H locs (240 + k) (16730 + 6 * k) (lw_Z below #[Value.ref b] s) (F0 m 23 ls []) := by
  have hbA : ¬ (fun q : Nat => s.heap.size ≤ q) b := Nat.not_le.mpr hbl
  have hL31 : L < 2 ^ 31 := by omega
  obtain ⟨⟨hx, hb, hml, hown, hts⟩, hK, hN, hD, hr, hlocks⟩ := CA out0
  intro t
  induction t with
  | zero => intro k σ o H locs ls h1 h2; omega
  | succ t ih =>
    intro k σ o H locs ls h1 h2 hI hh hl
    refine lv_iload hx hb dL_law_23 (lv_at hl 4 rfl) ?_
    refine lv_aload_n hx hb dL_law_25 rfl (lv_at hl 0 rfl) ?_
    refine va_slen hx hb hX hbl hbA hh.2 dL_law_26 ?_
    refine lv_iconst (v := (5 : Int32)) hx hb dL_law_27 (by decide) ?_
    refine lv_isub hx hb dL_law_28 ?_
    refine lv_icmp_gt (tgt := 1060) hx hb dL_law_29 (by decide) (fun c1 => ?_) (fun c1 => ?_)
    · refine lv_iconst (v := (1 : Int32)) hx hb dL_law_1060 (by decide) ?_
      refine va_forget (fun q hq => hh.2.2.2 q hq) ?_
      refine W.widen (k := 600096) (n := 7301386) (by omega) (by omega) ?_
      exact lw_ret hx hb hr hlocks dL_law_1061
    · have hi : 5 * k + 5 ≤ L := by
        have := mt (lt_sub (L := L) (i := 5 * k) hL (by omega)).mpr c1
        omega
      refine lv_aload_n hx hb dL_law_32 rfl (lv_at hl 0 rfl) ?_
      refine lv_iload hx hb dL_law_33 (lv_at hl 4 rfl) ?_
      refine va_sld hx hb hX hbl hbA hh.2 (vp_in_nI (by omega) hL31) dL_law_35 ?_
      rw [nI_clamp (by omega)]
      refine lv_bipush (v := (31 : Int32)) hx hb dL_law_36 (by decide) ?_
      refine lv_iand hx hb dL_law_38 ?_
      obtain ⟨r, hs, hI2⟩ := hstep k σ o (xs (5 * k)) (xs (5 * k + 1)) (xs (5 * k + 2)) (xs (5 * k + 3)) (xs (5 * k + 4)) hI (by omega)
      have next : ∀ (H : Heap) (locs : List Loc) {ls : Array Slot}, HH D cA (adB s.heap.size) (fun q => s.heap.size ≤ q) r.2 s r.1 H locs → lv_has ls 7 [(0, .ref b), (1, .ref (adB s.heap.size 799 0)), (2, .ref (adB s.heap.size 899 0)), (3, .ref (adB s.heap.size 900 0)), (4, .int (nI (5 * k)))] → W p l e room_1 s m #[Value.ref b] below meth c H locs (240 + k + 1) (16730 + 6 * k + 6) (lw_Z below #[Value.ref b] s) (F0 m 1054 ls []) := by
        intro H locs ls hh hl
        refine lv_iinc (v := nI (5 * (k + 1))) (lv' := [(4, .int (nI (5 * (k + 1)))), (0, .ref b), (1, .ref (adB s.heap.size 799 0)), (2, .ref (adB s.heap.size 899 0)), (3, .ref (adB s.heap.size 900 0))]) hx hb dL_law_1054 hl (k := 4) rfl (nI_add (5 * k) 5) (by decide) rfl (fun ls hl => ?_)
        refine lv_goto (tgt := 23) hx hb dL_law_1057 (by decide) ?_
        exact ih (k + 1) r.1 r.2 (by omega) (by omega) hI2 hh (lv_sub hl [1, 2, 3, 4, 0] rfl)
      generalize hcv : xs (5 * k) &&& (31 : Int32) = cv
      unfold lstep at hs
      rw [hcv] at hs
      by_cases c2 : cv = 0
      · rw [if_pos c2] at hs
        refine lv_tableIn (tgt := 128) hx hb dL_law_39 (by rw [c2]; decide) (by rw [c2]; decide) (by rw [c2]; rfl) (by decide) ?_
        exact lw_case_0 hl0 CA (fun σ o => adB_D σ o) hXW hZU hX hbl hbA hL31 (by omega) ⟨by omega, by omega⟩ hs hh hl next
      · rw [if_neg c2] at hs
        by_cases c3 : cv = 1
        · rw [if_pos c3] at hs
          refine lv_tableIn (tgt := 200) hx hb dL_law_39 (by rw [c3]; decide) (by rw [c3]; decide) (by rw [c3]; rfl) (by decide) ?_
          exact lw_case_1 hl0 CA (fun σ o => adB_D σ o) hXW hZU hX hbl hbA hL31 (by omega) ⟨by omega, by omega⟩ hs hh hl next
        · rw [if_neg c3] at hs
          by_cases c4 : cv = 2
          · rw [if_pos c4] at hs
            refine lv_tableIn (tgt := 248) hx hb dL_law_39 (by rw [c4]; decide) (by rw [c4]; decide) (by rw [c4]; rfl) (by decide) ?_
            exact lw_case_2 hl0 CA (fun σ o => adB_D σ o) hXW hZU hX hbl hbA hL31 (by omega) ⟨by omega, by omega⟩ hs hh hl next
          · rw [if_neg c4] at hs
            by_cases c5 : cv = 3
            · rw [if_pos c5] at hs
              refine lv_tableIn (tgt := 284) hx hb dL_law_39 (by rw [c5]; decide) (by rw [c5]; decide) (by rw [c5]; rfl) (by decide) ?_
              exact lw_case_3 hl0 CA (fun σ o => adB_D σ o) hXW hZU hX hbl hbA hL31 (by omega) ⟨by omega, by omega⟩ hs hh hl next
            · rw [if_neg c5] at hs
              by_cases c6 : cv = 4
              · rw [if_pos c6] at hs
                refine lv_tableIn (tgt := 320) hx hb dL_law_39 (by rw [c6]; decide) (by rw [c6]; decide) (by rw [c6]; rfl) (by decide) ?_
                exact lw_case_4 hl0 CA (fun σ o => adB_D σ o) hXW hZU hX hbl hbA hL31 (by omega) ⟨by omega, by omega⟩ hs hh hl next
              · rw [if_neg c6] at hs
                by_cases c7 : cv = 5
                · rw [if_pos c7] at hs
                  refine lv_tableIn (tgt := 384) hx hb dL_law_39 (by rw [c7]; decide) (by rw [c7]; decide) (by rw [c7]; rfl) (by decide) ?_
                  exact lw_case_5 hl0 CA (fun σ o => adB_D σ o) hXW hZU hX hbl hbA hL31 (by omega) ⟨by omega, by omega⟩ hs hh hl next
                · rw [if_neg c7] at hs
                  by_cases c8 : cv = 6
                  · rw [if_pos c8] at hs
                    refine lv_tableIn (tgt := 423) hx hb dL_law_39 (by rw [c8]; decide) (by rw [c8]; decide) (by rw [c8]; rfl) (by decide) ?_
                    exact lw_case_6 hl0 CA (fun σ o => adB_D σ o) hXW hZU hX hbl hbA hL31 (by omega) ⟨by omega, by omega⟩ hs hh hl next
                  · rw [if_neg c8] at hs
                    by_cases c9 : cv = 7
                    · rw [if_pos c9] at hs
                      refine lv_tableIn (tgt := 436) hx hb dL_law_39 (by rw [c9]; decide) (by rw [c9]; decide) (by rw [c9]; rfl) (by decide) ?_
                      exact lw_case_7 hl0 CA (fun σ o => adB_D σ o) hXW hZU hX hbl hbA hL31 (by omega) ⟨by omega, by omega⟩ hs hh hl next
                    · rw [if_neg c9] at hs
                      by_cases c10 : cv = 8
                      · rw [if_pos c10] at hs
                        refine lv_tableIn (tgt := 449) hx hb dL_law_39 (by rw [c10]; decide) (by rw [c10]; decide) (by rw [c10]; rfl) (by decide) ?_
                        exact lw_case_8 hl0 CA (fun σ o => adB_D σ o) hXW hZU hX hbl hbA hL31 (by omega) ⟨by omega, by omega⟩ hs hh hl next
                      · rw [if_neg c10] at hs
                        by_cases c11 : cv = 9
                        · rw [if_pos c11] at hs
                          refine lv_tableIn (tgt := 517) hx hb dL_law_39 (by rw [c11]; decide) (by rw [c11]; decide) (by rw [c11]; rfl) (by decide) ?_
                          exact lw_case_9 hl0 CA (fun σ o => adB_D σ o) hXW hZU hX hbl hbA hL31 (by omega) ⟨by omega, by omega⟩ hs hh hl next
                        · rw [if_neg c11] at hs
                          by_cases c12 : cv = 10
                          · rw [if_pos c12] at hs
                            refine lv_tableIn (tgt := 573) hx hb dL_law_39 (by rw [c12]; decide) (by rw [c12]; decide) (by rw [c12]; rfl) (by decide) ?_
                            exact lw_case_10 hl0 CA (fun σ o => adB_D σ o) hXW hZU hX hbl hbA hL31 (by omega) ⟨by omega, by omega⟩ hs hh hl next
                          · rw [if_neg c12] at hs
                            by_cases c13 : cv = 11
                            · rw [if_pos c13] at hs
                              refine lv_tableIn (tgt := 609) hx hb dL_law_39 (by rw [c13]; decide) (by rw [c13]; decide) (by rw [c13]; rfl) (by decide) ?_
                              exact lw_case_11 hl0 CA (fun σ o => adB_D σ o) hXW hZU hX hbl hbA hL31 (by omega) ⟨by omega, by omega⟩ hs hh hl next
                            · rw [if_neg c13] at hs
                              by_cases c14 : cv = 12
                              · rw [if_pos c14] at hs
                                refine lv_tableIn (tgt := 645) hx hb dL_law_39 (by rw [c14]; decide) (by rw [c14]; decide) (by rw [c14]; rfl) (by decide) ?_
                                exact lw_case_12 hl0 CA (fun σ o => adB_D σ o) hXW hZU hX hbl hbA hL31 (by omega) ⟨by omega, by omega⟩ hs hh hl next
                              · rw [if_neg c14] at hs
                                by_cases c15 : cv = 13
                                · rw [if_pos c15] at hs
                                  refine lv_tableIn (tgt := 701) hx hb dL_law_39 (by rw [c15]; decide) (by rw [c15]; decide) (by rw [c15]; rfl) (by decide) ?_
                                  exact lw_case_13 hl0 CA (fun σ o => adB_D σ o) hXW hZU hX hbl hbA hL31 (by omega) ⟨by omega, by omega⟩ hs hh hl next
                                · rw [if_neg c15] at hs
                                  by_cases c16 : cv = 14
                                  · rw [if_pos c16] at hs
                                    refine lv_tableIn (tgt := 770) hx hb dL_law_39 (by rw [c16]; decide) (by rw [c16]; decide) (by rw [c16]; rfl) (by decide) ?_
                                    exact lw_case_14 hl0 CA (fun σ o => adB_D σ o) hXW hZU hX hbl hbA hL31 (by omega) ⟨by omega, by omega⟩ hs hh hl next
                                  · rw [if_neg c16] at hs
                                    by_cases c17 : cv = 15
                                    · rw [if_pos c17] at hs
                                      refine lv_tableIn (tgt := 826) hx hb dL_law_39 (by rw [c17]; decide) (by rw [c17]; decide) (by rw [c17]; rfl) (by decide) ?_
                                      exact lw_case_15 hl0 CA (fun σ o => adB_D σ o) hXW hZU hX hbl hbA hL31 (by omega) ⟨by omega, by omega⟩ hs hh hl next
                                    · rw [if_neg c17] at hs
                                      by_cases c18 : cv = 16
                                      · rw [if_pos c18] at hs
                                        refine lv_tableIn (tgt := 862) hx hb dL_law_39 (by rw [c18]; decide) (by rw [c18]; decide) (by rw [c18]; rfl) (by decide) ?_
                                        exact lw_case_16 hl0 CA (fun σ o => adB_D σ o) hXW hZU hX hbl hbA hL31 (by omega) ⟨by omega, by omega⟩ hs hh hl next
                                      · rw [if_neg c18] at hs
                                        by_cases c19 : cv = 17
                                        · rw [if_pos c19] at hs
                                          refine lv_tableIn (tgt := 930) hx hb dL_law_39 (by rw [c19]; decide) (by rw [c19]; decide) (by rw [c19]; rfl) (by decide) ?_
                                          exact lw_case_17 hl0 CA (fun σ o => adB_D σ o) hXW hZU hX hbl hbA hL31 (by omega) ⟨by omega, by omega⟩ hs hh hl next
                                        · rw [if_neg c19] at hs
                                          by_cases c20 : cv = 18
                                          · rw [if_pos c20] at hs
                                            refine lv_tableIn (tgt := 998) hx hb dL_law_39 (by rw [c20]; decide) (by rw [c20]; decide) (by rw [c20]; rfl) (by decide) ?_
                                            exact lw_case_18 hl0 CA (fun σ o => adB_D σ o) hXW hZU hX hbl hbA hL31 (by omega) ⟨by omega, by omega⟩ hs hh hl next
                                          · rw [if_neg c20] at hs
                                            have n0 := ntI c2 (n := 0) (by decide)
                                            have n1 := ntI c3 (n := 1) (by decide)
                                            have n2 := ntI c4 (n := 2) (by decide)
                                            have n3 := ntI c5 (n := 3) (by decide)
                                            have n4 := ntI c6 (n := 4) (by decide)
                                            have n5 := ntI c7 (n := 5) (by decide)
                                            have n6 := ntI c8 (n := 6) (by decide)
                                            have n7 := ntI c9 (n := 7) (by decide)
                                            have n8 := ntI c10 (n := 8) (by decide)
                                            have n9 := ntI c11 (n := 9) (by decide)
                                            have n10 := ntI c12 (n := 10) (by decide)
                                            have n11 := ntI c13 (n := 11) (by decide)
                                            have n12 := ntI c14 (n := 12) (by decide)
                                            have n13 := ntI c15 (n := 13) (by decide)
                                            have n14 := ntI c16 (n := 14) (by decide)
                                            have n15 := ntI c17 (n := 15) (by decide)
                                            have n16 := ntI c18 (n := 16) (by decide)
                                            have n17 := ntI c19 (n := 17) (by decide)
                                            have n18 := ntI c20 (n := 18) (by decide)
                                            refine lv_tableOut (tgt := 1054) hx hb dL_law_39 (by omega) (by decide) ?_
                                            cases hs
                                            refine W.widen (k := 240 + k + 1) (n := 16730 + 6 * k + 6) (by omega) (by omega) ?_
                                            exact next H locs hh hl
section LC
variable {p : Program} {l : Launch} {e : Env} {R : Room} {s : State} {m : MethodId} {args : Array Value} {below : List Frame} {meth : Method} {c : Code} {H : Heap} {locs : List Loc} {cells slots : Nat} {cc : ByteArray} {nL : Nat} {own : String} {D : va_G} {cA : Nat → ClassId} {B n : Nat} {F : Nat → va_E} {pc : Nat} {ls : Array Slot} {rest : List Value}
theorem irunL {y : MethodName} {bytes : ByteArray} {maxL nn idx mc ms : Nat} {rm : Room} {k : Nat} {As st : List Value} {Qc : Array Value → State → Outcome → State → Prop} (hS : CallFix p m c cc nL s args Gw own) (hK : va_K D vwCl (tyW cA) s) (hN : NC s) (hh : HB D B s n F H locs)
    (hM : Met l y (wsG y bytes maxL none) rm (va_Pc (.ref k :: As) (IB D cA B n F)) Qc mc ms (fun q => B ≤ q)) (hL : Cond.methodLink own idx y ∈ Gw) (hI : Cond.instanceMethod y ∈ Gw) (hIn : Cond.initialized y.cls ∈ Gw) (hCd : Cond.code y bytes maxL none ∈ Gw) (hnm : y.name = "<init>")
    (hd : y.cls ≠ "java/lang/invoke/MethodHandle" ∧ y.cls ≠ "java/lang/invoke/VarHandle" ∧ (parseMethodDescriptor y.desc).map (fun d => d.parameters.length) = some nn)
    (hrm : rm.cells = mc ∧ rm.slots = ms ∧ rm.frames + 1 ≤ R.frames ∧ 8 + (maxL + 11) + rm.locals ≤ R.locals)
    (hn : As.length = nn) (hsz : ls.size = nL) (hst : st = As.reverse ++ .ref k :: rest) (hcat : (rest.map fun v => v.category).sum ≤ 8) (hdg : decode cc pc = .ok (.invokespecial idx, 3)) (hf : cells + mc ≤ R.cells ∧ slots + ms ≤ R.slots) :
    va_Run p l e R s m args below meth c H locs cells slots mc ms (F0 m pc ls st) rest (Qc (Value.ref k :: As).toArray) (fun q => B ≤ q) := by
  have hT : GoodIn Gw (wsG y bytes maxL none) := by
    intro w hw
    have : w ∈ Gw := by
      rcases List.mem_cons.mp hw with rfl | hw <;> assumption
    exact Gw_good w this
  exact va_runI (g := F0 m pc ls st) hS hM (cwI nn hS.2.2.2.2 hT rfl hrm.1 hrm.2.1 (hS.2.2.2.2 _ hIn) (hS.2.2.2.2 _ hL) (hS.2.2.2.2 _ hI) hnm hd hrm.2.2) ⟨IB_blind, fun U hU hW => ⟨rfl, by rw [hU]; exact hh.1, va_K.moved hW.alike hK, hN.moved hW, by rw [hU]; exact hh.2.2⟩⟩ rfl hn hsz hst (lv_room hcat) hdg hf
end LC
theorem ar_prim {s : State} {A : Array Value} {ty : FieldType} (hp : ∀ C, ty ≠ .object C) (h : (Cond.arrayClass ty).before A s = true) : ∃ cA : ClassId, ArrOfT s cA ty ∧ va_RA s cA ty := by
  obtain ⟨cA, k, comp, h1, h2, h3⟩ := Cond.arrayClass_spec h
  refine ⟨cA, fun n z => ⟨(fun k h => by cases h), k, h2, comp, h3⟩, ?_⟩
  cases ty <;> first | exact h1 | exact absurd rfl (hp _)
theorem ar_obj {s : State} {A : Array Value} {C : String} (h : (Cond.arrayOver (.object C)).before A s = true) : ∃ cA : ClassId, ArrOfT s cA (.object C) ∧ va_RA s cA (.object C) := by
  obtain ⟨comp, cA, k, h1, h2, h3, h4, h5⟩ := Cond.arrayOver_spec h
  exact ⟨cA, fun n z => ⟨(fun k h => by cases h), k, h3, comp, h4⟩, k, comp, h3, h4, h1, h5⟩
theorem inT_nws : ∀ w ∈ nws, w ∈ lw_tbl ∧ w.onTables = true := by decide +kernel
theorem inT_nwc : ∀ w ∈ nwc, w ∈ lw_tbl ∧ w.onTables = true := by decide +kernel
theorem inT_xws : ∀ w ∈ xws, w ∈ lw_tbl ∧ w.onTables = true := by decide +kernel
theorem inT_ncs : ∀ q ∈ ncs, Cond.not (.castable q.1 q.2) ∈ flatC (Jvm.Cond.and given_1 narrow_1) := by decide +kernel
theorem inT_ao : ∀ w ∈ ([.arrayOver (.object "LeaseNet$Client"), .arrayOver (.object "LeaseNet$Packet"), .arrayOver (.object "LeaseNet$Pool")] : List Cond), w ∈ lw_tbl := by decide +kernel
theorem inT_ls : ∀ w ∈ ([.laysStatic Bundle.tN "UNASSIGNED_STACK" Bundle.steD, .laysStatic Bundle.tN "SUPPRESSED_SENTINEL" Bundle.listD, .initialized Bundle.tN] : List Cond), w ∈ lw_tbl := by decide +kernel
theorem inT_rf : ∀ w ∈ ([.isRef (.static Bundle.tN "UNASSIGNED_STACK" Bundle.steD), .isRef (.static Bundle.tN "SUPPRESSED_SENTINEL" Bundle.listD)] : List Cond), w ∈ flatC (Jvm.Cond.and given_1 narrow_1) := by decide +kernel
set_option maxHeartbeats 4000000 in
set_option maxRecDepth 100000 in
/-- THE LAW, from its entry, for any invariant that each turn keeps -/
theorem inv_start {p : Program} {e : Env} {s : State} {m : MethodId} {below : List Frame} {meth : Method} {c : Code} (l : Launch) {b L : Nat} {xs : Nat → Int32} (Inv : Nat → Mem → (Nat → Int64) → Prop) (hstep : ∀ k σ o c a1 a2 a3 a4, Inv k σ o → k < 48 → ∃ r, lstep c a1 a2 a3 a4 σ o = some r ∧ Inv (k + 1) r.1 r.2) (hI0 : Inv 0 sig0 out0) (hl0 : l.stackTraces = false) (hL : L ≤ 240) (C0 : lw_At p s m meth c b L xs) : W p l e room_1 s m #[Value.ref b] below meth c s.heap [] 0 0 (lw_Z below #[Value.ref b] s) (entryFrame m ([Value.ref b] : List Value).toArray 7) := by
  obtain ⟨hx, hb, hr, hml, hown, hts, hX, hbl, hlocks, hgv⟩ := C0
  have hb : c.code = cL_law := hb
  have hown : s.vm.findClass RL = some m.cls := hown
  have htG : ∀ w ∈ Gw, w.before #[Value.ref b] s = true := fun w hw => hts w (Gw_in w hw)
  have hfl := flat_of_before _ hgv
  have hNW : NW s := fun w hw => va_Nw.of (inT_nws w hw).2 (hts w (inT_nws w hw).1)
  have hNC : NC s := ⟨fun w hw => va_Nw.of (inT_nwc w hw).2 (hts w (inT_nwc w hw).1), va_AO.of (A := #[Value.ref b]) (hts _ (inT_ao _ (List.mem_of_getElem? (i := 0) rfl))), va_AO.of (A := #[Value.ref b]) (hts _ (inT_ao _ (List.mem_of_getElem? (i := 1) rfl))), va_AO.of (A := #[Value.ref b]) (hts _ (inT_ao _ (List.mem_of_getElem? (i := 2) rfl)))⟩
  have hXW : XW s := ⟨fun w hw => va_Nw.of (inT_xws w hw).2 (hts w (inT_xws w hw).1), fun q hq => va_Nc.of (hfl _ (inT_ncs q hq))⟩
  have hZU : ZU (fun q => s.heap.size ≤ q) s s.heap := ⟨vx_Zqof (hts _ (inT_ls _ (List.mem_of_getElem? (i := 0) rfl))) (hts _ (inT_ls _ (List.mem_of_getElem? (i := 2) rfl))) (hfl _ (inT_rf _ (List.mem_of_getElem? (i := 0) rfl))) (fun a h1 h2 => absurd h1 (Nat.not_lt.mpr h2)), vx_Zqof (hts _ (inT_ls _ (List.mem_of_getElem? (i := 1) rfl))) (hts _ (inT_ls _ (List.mem_of_getElem? (i := 2) rfl))) (hfl _ (inT_rf _ (List.mem_of_getElem? (i := 1) rfl))) (fun a h1 h2 => absurd h1 (Nat.not_lt.mpr h2))⟩
  obtain ⟨c0, i0, k0⟩ := u_known (C := RX0) (T := TX0) (N := 2) (n := 2) htG inG0 (htG _ IS_0)
  obtain ⟨c1, i1, k1⟩ := u_known (C := RX1) (T := TX1) (N := 12) (n := 12) htG inG1 (htG _ IS_1)
  obtain ⟨c2, i2, k2⟩ := u_known (C := RX2) (T := TX2) (N := 11) (n := 11) htG inG2 (htG _ IS_2)
  obtain ⟨c3, i3, k3⟩ := u_known (C := RX3) (T := TX3) (N := 2) (n := 2) htG inG3 (htG _ IS_3)
  obtain ⟨c4, i4, k4⟩ := u_known (C := RX4) (T := TX4) (N := 3) (n := 3) htG inG4 (htG _ IS_4)
  obtain ⟨c5, i5, k5⟩ := u_known (C := RX5) (T := TX5) (N := 3) (n := 3) htG inG5 (htG _ IS_5)
  obtain ⟨c6, i6, k6⟩ := u_known (C := RX6) (T := TX6) (N := 6) (n := 6) htG inG6 (htG _ IS_6)
  obtain ⟨c7, i7, k7⟩ := u_known (C := RX7) (T := TX7) (N := 9) (n := 9) htG inG7 (htG _ IS_7)
  obtain ⟨c8, i8, k8⟩ := u_known (C := RX8) (T := TX8) (N := 37) (n := 37) htG inG8 (htG _ IS_8)
  obtain ⟨q0, g0⟩ := ar_prim (ty := .int) (fun _ h => by cases h) (htG _ AC_i)
  obtain ⟨q1, g1⟩ := ar_prim (ty := .boolean) (fun _ h => by cases h) (htG _ AC_z)
  obtain ⟨q2, g2⟩ := ar_obj (C := "LeaseNet$Client") (hts _ (inT_ao _ (List.mem_of_getElem? (i := 0) rfl)))
  obtain ⟨q3, g3⟩ := ar_obj (C := "LeaseNet$Packet") (hts _ (inT_ao _ (List.mem_of_getElem? (i := 1) rfl)))
  obtain ⟨q4, g4⟩ := ar_obj (C := "LeaseNet$Pool") (hts _ (inT_ao _ (List.mem_of_getElem? (i := 2) rfl)))
  obtain ⟨q5, g5⟩ := ar_prim (ty := .long) (fun _ h => by cases h) (htG _ AC_j)
  obtain ⟨D, hD1, hD2⟩ : ∃ D : va_G, D.1 = (fun k => if k = 0 then c0 else if k = 1 then c1 else if k = 2 then c2 else if k = 3 then c3 else if k = 4 then c4 else if k = 5 then c5 else if k = 6 then c6 else if k = 7 then c7 else c8) ∧ D.2 = (fun k => if k = 0 then i0 else if k = 1 then i1 else if k = 2 then i2 else if k = 3 then i3 else if k = 4 then i4 else if k = 5 then i5 else if k = 6 then i6 else if k = 7 then i7 else i8) := ⟨(_, _), rfl, rfl⟩
  obtain ⟨cA, hcA⟩ : ∃ cA : Nat → ClassId, cA = (fun k => if k = 0 then q0 else if k = 1 then q1 else if k = 2 then q2 else if k = 3 then q3 else if k = 4 then q4 else q5) := ⟨_, rfl⟩
  have hK : va_K D vwCl (tyW cA) s := by
    refine ⟨fun k q hq => ?_, fun k q hq => ?_⟩
    · rw [hD1, hD2]
      match k, hq with
      | 0, hq => cases hq; exact k0
      | 1, hq => cases hq; exact k1
      | 2, hq => cases hq; exact k2
      | 3, hq => cases hq; exact k3
      | 4, hq => cases hq; exact k4
      | 5, hq => cases hq; exact k5
      | 6, hq => cases hq; exact k6
      | 7, hq => cases hq; exact k7
      | 8, hq => cases hq; exact k8
      | k + 9, hq => simp [vwCl] at hq
    · subst hcA
      match k, hq with
      | 0, hq => cases hq; exact g0
      | 1, hq => cases hq; exact g1
      | 2, hq => cases hq; exact g2
      | 3, hq => cases hq; exact g3
      | 4, hq => cases hq; exact g4
      | 5, hq => cases hq; exact g5
      | k + 6, hq => simp [tyW] at hq
  have hS : CallFix p m c cL_law 7 s #[Value.ref b] Gw RL := ⟨hx, hb, hml, hown, htG⟩
  have hh : HB D s.heap.size s 0 (fun _ => .inr (0, [])) s.heap [] := ⟨fun k q h => by simp [bw] at h, va_S.rf, rfl⟩
  have hl := lv_entry ([.ref b]) (n := 7) (Nat.le_of_ble_eq_true rfl)
  rw [lg_entry_eq]
  generalize (lg_sl ([.ref b]) ++ List.replicate (7 - (lg_sl ([.ref b])).length) Slot.unset).toArray = ls at hl ⊢
  have hl : lv_has ls 7 [(0, .ref b)] := hl
  refine b_new (ci := 7) (fs := df7) (N := 9) tyX7 hx hb htG hown hK hh inG7 tyX7_ok rfl LKL_8 IS_7 IN_7 dfo7 (Nat.le_of_ble_eq_true rfl) (Nat.le_of_ble_eq_true rfl) dL_law_0 (fun H hh => ?_)
  refine lv_dup hx hb dL_law_3 rfl ?_
  refine c_init hh (irunL (rest := [.ref (s.heap.size + 0)]) hS hK hNC hh (ci_7 (va_up_self _ _ _)) LM_L_68 IM_X7_init IN_7 CD_X7_init rfl HD_X7_init ⟨rfl, rfl, (Nat.le_of_ble_eq_true rfl), (Nat.le_of_ble_eq_true rfl)⟩ rfl hl.1 rfl (Nat.le_of_ble_eq_true rfl) dL_law_4 ⟨(Nat.le_of_ble_eq_true rfl), (Nat.le_of_ble_eq_true rfl)⟩) (fun G1 H locs hp1 hh => ?_)
  refine lv_astore_n (lv' := [(1, .ref (s.heap.size + 0)), (0, .ref b)]) hx hb dL_law_7 rfl hl (by decide) rfl (fun ls hl => ?_)
  refine b_new (ci := 8) (fs := df8) (N := 37) tyX8 hx hb htG hown hK hh inG8 tyX8_ok rfl LKL_69 IS_8 IN_8 dfo8 (Nat.le_of_ble_eq_true rfl) (Nat.le_of_ble_eq_true rfl) dL_law_8 (fun H hh => ?_)
  obtain ⟨G2, e2⟩ : ∃ G, G = va_up G1 213 (.inr (8, df8)) := ⟨_, rfl⟩
  rw [← e2] at hh
  refine lv_dup hx hb dL_law_11 rfl ?_
  refine c_init hh (irunL (rest := [.ref (s.heap.size + 213)]) hS hK hNC hh (ci_8 (by rw [e2]; exact va_up_self _ _ _)) LM_L_71 IM_X8_init IN_8 CD_X8_init rfl HD_X8_init ⟨rfl, rfl, (Nat.le_of_ble_eq_true rfl), (Nat.le_of_ble_eq_true rfl)⟩ rfl hl.1 rfl (Nat.le_of_ble_eq_true rfl) dL_law_12 ⟨(Nat.le_of_ble_eq_true rfl), (Nat.le_of_ble_eq_true rfl)⟩) (fun G3 H locs hp3 hh => ?_)
  refine lv_astore_n (lv' := [(2, .ref (s.heap.size + 213)), (1, .ref (s.heap.size + 0)), (0, .ref b)]) hx hb dL_law_15 rfl hl (by decide) rfl (fun ls hl => ?_)
  refine lv_iconst (v := (1 : Int32)) hx hb dL_law_16 (by decide) ?_
  refine b_newa (atype := .long) (ty := .long) (N := 1) (t0 := 5) (a0 := (1, .inr (.inl (fun _ => 0)))) hx hb htG hK hh AC_j rfl (fun _ h => h) rfl (fun _ => rfl) (by decide) (by decide) (by decide) (Nat.le_of_ble_eq_true rfl) (Nat.le_of_ble_eq_true rfl) dL_law_17 (fun H hh => ?_)
  obtain ⟨G4, e4⟩ : ∃ G, G = va_up G3 239 (arj cA 1) := ⟨_, rfl⟩
  have hh : HB D s.heap.size s 240 (va_up G3 239 (arj cA 1)) H locs := hh
  rw [← e4] at hh
  have f4 : ∀ q, q ≠ 239 → G4 q = G3 q := fun q hq => by rw [e4]; exact va_up_ne _ _ hq
  have hfr := hp3
  have f3 : ∀ q, q < 213 → G3 q = G1 q := fun q hq => by
    have h3 : G3 q = G2 q := by obtain ⟨-, -, -, -, -, -, -, -, -, -, -, -, -, -, -, -, -, -, -, -, -, -, -, -, -, -, h⟩ := hp3; exact h q hq
    rw [h3, e2]; exact va_up_ne _ _ (by omega)
  have hW := toW hh (hp1.of (fun q hq => (f4 q (by omega)).trans (f3 q hq))) (modQ.mk hp3 (fun q hq => f4 q (by omega))) (by rw [e4]; exact va_up_self _ _ _)
  refine lv_astore_n (lv' := [(3, .ref (s.heap.size + 239)), (2, .ref (s.heap.size + 213)), (1, .ref (s.heap.size + 0)), (0, .ref b)]) hx hb dL_law_19 rfl hl (by decide) rfl (fun ls hl => ?_)
  refine lv_iconst (v := (0 : Int32)) hx hb dL_law_20 (by decide) ?_
  refine lv_istore (lv' := [(4, .int 0), (3, .ref (s.heap.size + 239)), (2, .ref (s.heap.size + 213)), (1, .ref (s.heap.size + 0)), (0, .ref b)]) hx hb dL_law_21 hl (by decide) rfl (fun ls hl => ?_)
  exact law_loop Inv hstep hL hl0 (fun o => ⟨hS, hK, hNW, fun σ => adB_D σ o, hr, hlocks⟩) hXW hZU hX hbl 49 0 sig0 out0 (by omega) (by omega) hI0 ⟨hW, hh.2.1⟩ (lv_sub hl [4, 3, 2, 1, 0] rfl)
