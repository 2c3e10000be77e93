theorem LM_L_68 : Cond.methodLink RL 68 yX7_init ∈ Gw := gwm 92 (by decide +kernel) (by decide +kernel)
theorem LM_L_97 : Cond.methodLink RL 97 yX7_down ∈ Gw := gwm 352 (by decide +kernel) (by decide +kernel)
theorem LM_L_102 : Cond.methodLink RL 102 yX7_tick ∈ Gw := gwm 356 (by decide +kernel) (by decide +kernel)
theorem LM_L_106 : Cond.methodLink RL 106 yX7_packets ∈ Gw := gwm 438 (by decide +kernel) (by decide +kernel)
theorem LM_L_129 : Cond.methodLink RL 129 yX7_type ∈ Gw := gwm 442 (by decide +kernel) (by decide +kernel)
theorem LM_L_72 : Cond.methodLink RL 72 yL_pool ∈ Gw := gwm 447 (by decide +kernel) (by decide +kernel)
theorem lk_13 : Cond.classLink RL 13 "java/util/NoSuchElementException" ∈ Gw := gwm 450 (by decide +kernel) (by decide +kernel)
theorem lk_15 : Cond.classLink RL 15 "java/lang/IllegalArgumentException" ∈ Gw := gwm 451 (by decide +kernel) (by decide +kernel)
theorem LM_L_7 : Cond.methodLink RL 7 yX7_pool ∈ Gw := gwm 452 (by decide +kernel) (by decide +kernel)
theorem LM_L_82 : Cond.methodLink RL 82 yL_join ∈ Gw := gwm 542 (by decide +kernel) (by decide +kernel)
theorem lk_21 : Cond.classLink RL 21 "java/lang/IllegalStateException" ∈ Gw := gwm 545 (by decide +kernel) (by decide +kernel)
theorem LM_L_17 : Cond.methodLink RL 17 yX7_join ∈ Gw := gwm 546 (by decide +kernel) (by decide +kernel)
theorem LM_L_86 : Cond.methodLink RL 86 yL_off ∈ Gw := gwm 572 (by decide +kernel) (by decide +kernel)
theorem LM_L_23 : Cond.methodLink RL 23 yX7_off ∈ Gw := gwm 575 (by decide +kernel) (by decide +kernel)
theorem LM_L_90 : Cond.methodLink RL 90 yL_leave ∈ Gw := gwm 579 (by decide +kernel) (by decide +kernel)
theorem LM_L_27 : Cond.methodLink RL 27 yX7_leave ∈ Gw := gwm 582 (by decide +kernel) (by decide +kernel)
theorem LM_L_93 : Cond.methodLink RL 93 yL_strange ∈ Gw := gwm 590 (by decide +kernel) (by decide +kernel)
theorem LM_L_30 : Cond.methodLink RL 30 yX7_strange ∈ Gw := gwm 593 (by decide +kernel) (by decide +kernel)
theorem LM_L_110 : Cond.methodLink RL 110 yL_packet ∈ Gw := gwm 600 (by decide +kernel) (by decide +kernel)
theorem lk_38 : Cond.classLink RL 38 "java/lang/IndexOutOfBoundsException" ∈ Gw := gwm 603 (by decide +kernel) (by decide +kernel)
theorem LM_L_34 : Cond.methodLink RL 34 yX7_packet ∈ Gw := gwm 604 (by decide +kernel) (by decide +kernel)
theorem LM_L_114 : Cond.methodLink RL 114 yL_carry ∈ Gw := gwm 627 (by decide +kernel) (by decide +kernel)
theorem LM_L_40 : Cond.methodLink RL 40 yX7_carry ∈ Gw := gwm 630 (by decide +kernel) (by decide +kernel)
theorem LM_L_118 : Cond.methodLink RL 118 yL_twice ∈ Gw := gwm 756 (by decide +kernel) (by decide +kernel)
theorem LM_L_44 : Cond.methodLink RL 44 yX7_twice ∈ Gw := gwm 759 (by decide +kernel) (by decide +kernel)
theorem LM_L_121 : Cond.methodLink RL 121 yL_drop ∈ Gw := gwm 763 (by decide +kernel) (by decide +kernel)
theorem LM_L_47 : Cond.methodLink RL 47 yX7_drop ∈ Gw := gwm 766 (by decide +kernel) (by decide +kernel)
theorem LM_L_124 : Cond.methodLink RL 124 yL_run ∈ Gw := gwm 770 (by decide +kernel) (by decide +kernel)
theorem LM_L_50 : Cond.methodLink RL 50 yX7_run ∈ Gw := gwm 773 (by decide +kernel) (by decide +kernel)
theorem LM_L_134 : Cond.methodLink RL 134 yL_told ∈ Gw := gwm 777 (by decide +kernel) (by decide +kernel)
theorem LM_L_53 : Cond.methodLink RL 53 yX7_told ∈ Gw := gwm 780 (by decide +kernel) (by decide +kernel)
theorem LM_L_137 : Cond.methodLink RL 137 yL_inject ∈ Gw := gwm 788 (by decide +kernel) (by decide +kernel)
theorem LM_L_56 : Cond.methodLink RL 56 yX7_inject ∈ Gw := gwm 791 (by decide +kernel) (by decide +kernel)
theorem LM_L_140 : Cond.methodLink RL 140 yL_client ∈ Gw := gwm 798 (by decide +kernel) (by decide +kernel)
theorem LM_L_59 : Cond.methodLink RL 59 yX7_client ∈ Gw := gwm 801 (by decide +kernel) (by decide +kernel)
theorem LM_L_143 : Cond.methodLink RL 143 yL_record ∈ Gw := gwm 806 (by decide +kernel) (by decide +kernel)
theorem LM_L_62 : Cond.methodLink RL 62 yX7_record ∈ Gw := gwm 809 (by decide +kernel) (by decide +kernel)
theorem LM_L_146 : Cond.methodLink RL 146 yL_count ∈ Gw := gwm 813 (by decide +kernel) (by decide +kernel)
theorem LM_L_65 : Cond.methodLink RL 65 yX7_count ∈ Gw := gwm 816 (by decide +kernel) (by decide +kernel)
theorem LM_L_71 : Cond.methodLink RL 71 yX8_init ∈ Gw := gwm 830 (by decide +kernel) (by decide +kernel)
theorem LM_L_78 : Cond.methodLink RL 78 yX8_thrown ∈ Gw := gwm 946 (by decide +kernel) (by decide +kernel)
theorem LM_L_77 : Cond.methodLink RL 77 yX8_pool ∈ Gw := gwm 950 (by decide +kernel) (by decide +kernel)
theorem LM_L_85 : Cond.methodLink RL 85 yX8_join ∈ Gw := gwm 957 (by decide +kernel) (by decide +kernel)
theorem LM_L_89 : Cond.methodLink RL 89 yX8_off ∈ Gw := gwm 1008 (by decide +kernel) (by decide +kernel)
theorem LM_L_92 : Cond.methodLink RL 92 yX8_leave ∈ Gw := gwm 1012 (by decide +kernel) (by decide +kernel)
theorem LM_L_96 : Cond.methodLink RL 96 yX8_strange ∈ Gw := gwm 1020 (by decide +kernel) (by decide +kernel)
theorem LM_L_101 : Cond.methodLink RL 101 yX8_down ∈ Gw := gwm 1027 (by decide +kernel) (by decide +kernel)
theorem LM_L_105 : Cond.methodLink RL 105 yX8_tick ∈ Gw := gwm 1031 (by decide +kernel) (by decide +kernel)
theorem LM_L_109 : Cond.methodLink RL 109 yX8_packets ∈ Gw := gwm 1054 (by decide +kernel) (by decide +kernel)
theorem LM_L_113 : Cond.methodLink RL 113 yX8_packet ∈ Gw := gwm 1058 (by decide +kernel) (by decide +kernel)
theorem LM_L_117 : Cond.methodLink RL 117 yX8_carry ∈ Gw := gwm 1066 (by decide +kernel) (by decide +kernel)
theorem LM_L_120 : Cond.methodLink RL 120 yX8_twice ∈ Gw := gwm 1170 (by decide +kernel) (by decide +kernel)
theorem LM_L_123 : Cond.methodLink RL 123 yX8_drop ∈ Gw := gwm 1174 (by decide +kernel) (by decide +kernel)
theorem LM_L_126 : Cond.methodLink RL 126 yX8_run ∈ Gw := gwm 1178 (by decide +kernel) (by decide +kernel)
theorem LM_L_133 : Cond.methodLink RL 133 yX8_type ∈ Gw := gwm 1182 (by decide +kernel) (by decide +kernel)
theorem LM_L_136 : Cond.methodLink RL 136 yX8_told ∈ Gw := gwm 1187 (by decide +kernel) (by decide +kernel)
theorem LM_L_139 : Cond.methodLink RL 139 yX8_inject ∈ Gw := gwm 1195 (by decide +kernel) (by decide +kernel)
theorem LM_L_142 : Cond.methodLink RL 142 yX8_client ∈ Gw := gwm 1202 (by decide +kernel) (by decide +kernel)
theorem LM_L_145 : Cond.methodLink RL 145 yX8_record ∈ Gw := gwm 1206 (by decide +kernel) (by decide +kernel)
theorem LM_L_148 : Cond.methodLink RL 148 yX8_count ∈ Gw := gwm 1210 (by decide +kernel) (by decide +kernel)
theorem IN_L : Cond.initialized RL ∈ Gw := gwm 70 (by decide +kernel) (by decide +kernel)
def wsC (y : MethodName) (b : ByteArray) (n : Nat) (r : Option FieldType) (q : List (Nat × Nat × Nat × Nat)) : List Cond := .codeWith y b n r q :: Gw
def Lx (l : Launch) (s : State) (c : Code) (A : Nat → Prop) (q : List (Nat × Nat × Nat × Nat)) : Prop := l.stackTraces = false ∧ c.exceptionTable.toList = tableOf q ∧ XW s ∧ ZU A s s.heap
def QL (D : va_G) (cA : Nat → ClassId) (ad : Nat → Nat → Nat) (A : Nat → Prop) (r : Int32 × Mem × (Nat → Int64)) : Array Value → State → Outcome → State → Prop := va_Qi (fun r' (u : Mem × (Nat → Int64)) => (r', u) = r) (fun u => IW D cA ad u.2 u.1) A
def bt {β : Type} (x : Option (Int32 × Int32 × Mem)) (k : Int32 × Int32 × Mem → Option β) : Option β := match x with
  | some r => k r
  | none => none
theorem bt_e {β : Type} {x : Option (Int32 × Int32 × Mem)} {k : Int32 × Int32 × Mem → Option β} {r : β} (h : bt x k = some r) : ∃ a, x = some a ∧ k a = some r := by
  cases x with
  | none => cases h
  | some q => exact ⟨q, rfl, h⟩
theorem ZU.at {A : Nat → Prop} {s U : State} {H : Heap} {locs : List Loc} (hZ : ZU A s s.heap) (hS : va_S A s.heap H locs) (hU : U.heap = H) (hW : s.WarmedH U.vm) : ZU A U U.heap := by
  rw [hU]
  exact ⟨vx_Zq.moved hW.alike (hZ.1.kept hS.2.1), vx_Zq.moved hW.alike (hZ.2.kept hS.2.1)⟩
section LW
variable {p : Program} {l : Launch} {e : Env} {R : Room} {s : State} {m : MethodId} {args : Array Value} {below : List Frame} {meth : Method} {c : Code} {H : Heap} {locs : List Loc} {cells slots : Nat} {Q : State → Prop} {cc : ByteArray} {nL : Nat} {own : String} {rt : Option FieldType} {D : va_G} {cA : Nat → ClassId} {ad : Nat → Nat → Nat} {A : Nat → Prop} {o : Nat → Int64} {σ : Mem} {pc : Nat} {ls : Array Slot} {rest : List Value} {r : Int32 × Int32 × Mem} {q : List (Nat × Nat × Nat × Nat)}
theorem w_ret {x : Int32} {r : Int32 × Mem × (Nat → Int64)} {o' : Nat → Int64} (C : Cx p s m args meth c cc nL own (some .int) D cA ad A o) (hh : HH D cA ad A o' s σ H locs) (h : some (x, σ, o') = some r) (hdg : decode cc pc = .ok (.ireturn, 1)) : W p l e R s m args below meth c H locs 1 6 (MQ below (QL D cA ad A r) args s 1 6 A) (F0 m pc ls [.int x]) := by
  obtain ⟨⟨hx, hb, hml, hown, hts⟩, hK, hN, hD, hr, hlocks⟩ := C
  exact W.iret hx hb hr (fun t ht hW => ⟨⟨x, (σ, o'), rfl, Option.some.inj h, by rw [ht]; exact hh.1, va_K.moved hW.alike hK, hN.moved hW⟩, hh.2.F ht⟩) hh.2.2.2 hdg hlocks
theorem metC {y : MethodName} {bytes : ByteArray} {maxL : Nat} {ret : Option FieldType} {rm : Room} {avs : List Value} {Qc : Array Value → State → Outcome → State → Prop} (hy : plainName y.cls = true) (hn : (lg_sl avs).length ≤ maxL) (hD : ∀ σ, va_D A (wW cA ad σ o)) (hl0 : l.stackTraces = false)
    (body : ∀ {p : Program} {e : Env} {s : State} {m : MethodId} {args : Array Value} {below : List Frame} {meth : Method} {c : Code}, Cx p s m args meth c bytes maxL y.cls ret D cA ad A o → Lx l s c A q → ∀ {ls : Array Slot}, HH D cA ad A o s σ s.heap [] → lv_has ls maxL (lv_args 0 avs) → W p l e rm s m args below meth c s.heap [] 0 0 (MQ below Qc args s 1 6 A) (F0 m 0 ls [])) :
    Met l y (wsC y bytes maxL ret q) rm (va_Pc avs (IX D cA ad A o σ)) Qc 1 6 A := by
  refine MetFree.of_bodyS (code := bytes) (maxLocals := maxL) (ret := ret) hy ?_ ?_
  · intro args s m h hn
    obtain ⟨m9, meth, c, hn9, h1, h2, h3, h4, -, h5, h6, -⟩ := Cond.codeWith_spec (atoms_spec (ws := wsC y bytes maxL ret q) h _ List.mem_cons_self)
    cases hn.symm.trans hn9
    exact ⟨meth, c, h1, h2, h3, h4, h5, h6⟩
  · intro p e s m args below meth c s₁ B hml hv _
    obtain ⟨rfl, ⟨hP, hK, hN⟩, hX, hZ⟩ := hv
    have hts := atoms_spec (ws := wsC y bytes maxL ret q) B.pre
    have hl := lv_entry avs (n := maxL) hn
    have hh0 : s₁.heap = s.heap := by rw [B.state]; rfl
    have hW := body (p := p) (e := e) (s := s) (m := m) (args := avs.toArray) (below := below) (meth := meth) (c := c) ⟨⟨B.exec, B.bytes, hml, findClass_of_methodNamed B.named, fun w hw => hts w (List.mem_cons_of_mem _ hw)⟩, hK, hN, hD, B.returns, B.notSynchronized⟩ ⟨hl0, vx_table (x := y) B (hts _ List.mem_cons_self), hX, hZ⟩ ⟨hP, va_S.rf⟩ hl
    rw [← lg_entry_eq] at hW
    obtain ⟨t, a1, oc, b1, b2, b3⟩ := hW s₁ hh0 (Stand.of_body B)
    exact ⟨t, oc, a1, b1, b2, ⟨b3.1, b3.2⟩⟩
theorem xrun {y : MethodName} {bytes : ByteArray} {maxL n idx : Nat} {ret : Option FieldType} {rm : Room} {Cn : String} {b : Nat} {As st : List Value} {Qc : Array Value → State → Outcome → State → Prop} {XC : String → State → State → Prop} (C : Cx p s m args meth c cc nL own rt D cA ad A o) (L : Lx l s c A q) (hh : HH D cA ad A o s σ H locs)
    (hM : vx_Met l y (wsG y bytes maxL ret) rm (va_Pc (.ref b :: As) (IX D cA ad A o σ)) Qc XC 1 6 A) (hL : Cond.methodLink own idx y ∈ Gw) (hI : Cond.instanceMethod y ∈ Gw) (hSl : Cond.selects Cn y y ∈ Gw) (hIn : Cond.initialized Cn ∈ Gw) (hCd : Cond.code y bytes maxL ret ∈ Gw)
    (hd : y.cls = Cn ∧ y.cls ≠ "java/lang/invoke/MethodHandle" ∧ y.cls ≠ "java/lang/invoke/VarHandle" ∧ (parseMethodDescriptor y.desc).map (fun d => d.parameters.length) = some n)
    (hrm : rm.cells = 1 ∧ rm.slots = 6 ∧ rm.frames + 1 ≤ R.frames ∧ 8 + (maxL + 11) + rm.locals ≤ R.locals) (hrc : ∃ cell : Cell, H[b]? = some cell ∧ cell.vm.isStatics = false ∧ s.vm.findClass Cn = some cell.cls)
    (hn : As.length = n) (hsz : ls.size = nL) (hst : st = As.reverse ++ .ref b :: rest) (hcat : (rest.map fun v => v.category).sum ≤ 8) (hdg : decode cc pc = .ok (.invokevirtual idx, 3)) (hf : 1 ≤ R.cells ∧ 6 ≤ R.slots) :
    vx_Run p l e R s m args below meth c H locs 0 0 1 6 (F0 m pc ls st) rest (Qc (Value.ref b :: As).toArray) XC A := by
  obtain ⟨hS, hK, hN, hD, hr, hlocks⟩ := C
  have hT : GoodIn Gw (wsV own idx Cn y (wsG y bytes maxL ret)) := by
    intro w hw
    have : w ∈ Gw := by
      simp only [wsV, wsG, List.cons_append, List.nil_append, List.mem_cons] at hw
      rcases hw with rfl | rfl | rfl | rfl | rfl | hw <;> assumption
    exact Gw_good w this
  exact vx_runV (g := F0 m pc ls st) hS hM (cwV n hS.2.2.2.2 hT rfl hrm.1 hrm.2.1 hd hrm.2.2) ⟨IX_blind, hrc, fun U hU hW => ⟨rfl, ⟨by rw [hU]; exact hh.1, va_K.moved hW.alike hK, hN.moved hW⟩, L.2.2.1.moved hW, L.2.2.2.at hh.2 hU hW⟩⟩ rfl hn hsz hst (lv_room hcat) hdg (by omega)
theorem x_void {a : Array Value} {st : List Value} (hh : HH D cA ad A o s σ H locs) (hr : vx_Run p l e R s m args below meth c H locs 0 0 1 6 (F0 m pc ls st) rest (QTv D cA ad o A r a) (XT D cA ad o A r) A)
    (kx : ∀ (ce : Cell) (q9 : Addr) (H1 : Heap) (locs1 : List Loc), ¬ r.1 = 0 → HH D cA ad A o s r.2.2 H1 locs1 → H1[q9]? = some ce → ce.vm = .none → s.vm.findClass (exn r.1) = some ce.cls → vx_W p l e R s m args below meth c H1 locs1 1 6 Q (F0 m pc ls rest) q9)
    (kk : ∀ (H1 : Heap) (locs1 : List Loc), r.1 = 0 → HH D cA ad A o s r.2.2 H1 locs1 → W p l e R s m args below meth c H1 locs1 1 6 Q (F0 m (pc + 3) ls rest)) : W p l e R s m args below meth c H locs 0 0 Q (F0 m pc ls st) := by
  refine vx_callv hr hh.2 (fun q _ h => h) (fun q h => h) (fun q _ h => h) (fun E ce q9 u t H1 locs1 ht hvm hp hB hz1 hk1 hS h1 h2 h3 => ?_) (fun u t H1 locs1 ht hvm hw hB hz1 hk1 hS => ?_)
  · obtain ⟨p1, p2⟩ := hp
    obtain ⟨b1, b2⟩ := hB
    subst b1; subst p2
    exact kx ce q9 H1 locs1 p1 ⟨by rw [← ht]; exact b2, hS⟩ h1 h2 h3
  · exact kk H1 locs1 (by rw [hw]) ⟨by rw [← ht, hw]; exact hB.1, hS⟩
theorem x_int {a : Array Value} {st : List Value} (hh : HH D cA ad A o s σ H locs) (hr : vx_Run p l e R s m args below meth c H locs 0 0 1 6 (F0 m pc ls st) rest (QTi D cA ad o A r a) (XT D cA ad o A r) A)
    (kx : ∀ (ce : Cell) (q9 : Addr) (H1 : Heap) (locs1 : List Loc), ¬ r.1 = 0 → HH D cA ad A o s r.2.2 H1 locs1 → H1[q9]? = some ce → ce.vm = .none → s.vm.findClass (exn r.1) = some ce.cls → vx_W p l e R s m args below meth c H1 locs1 1 6 Q (F0 m pc ls rest) q9)
    (kk : ∀ (H1 : Heap) (locs1 : List Loc), r.1 = 0 → HH D cA ad A o s r.2.2 H1 locs1 → W p l e R s m args below meth c H1 locs1 1 6 Q (F0 m (pc + 3) ls (.int r.2.1 :: rest))) : W p l e R s m args below meth c H locs 0 0 Q (F0 m pc ls st) := by
  refine vx_calli hr hh.2 (fun q _ h => h) (fun q h => h) (fun q _ h => h) (fun E ce q9 u t H1 locs1 ht hvm hp hB hz1 hk1 hS h1 h2 h3 => ?_) (fun r' u t H1 locs1 ht hvm hw hB hz1 hk1 hS => ?_)
  · obtain ⟨p1, p2⟩ := hp
    obtain ⟨b1, b2⟩ := hB
    subst b1; subst p2
    exact kx ce q9 H1 locs1 p1 ⟨by rw [← ht]; exact b2, hS⟩ h1 h2 h3
  · have e1 : r.2.1 = r' := by rw [hw]
    rw [← e1] at *
    exact kk H1 locs1 (by rw [hw]) ⟨by rw [← ht, hw]; exact hB.1, hS⟩
theorem s_out {x : Int64} {i : Int32} (C : Cx p s m args meth c cc nL own rt D cA ad A o) (hh : HH D cA ad A o s σ H locs) (hi : vin i 1 = true) (hdg : decode cc pc = .ok (.lastore, 1)) (kk : ∀ (H1 : Heap) (locs1 : List Loc), HH D cA ad A (vp_updL o i.toNatClampNeg x) s σ H1 locs1 → W p l e R s m args below meth c H1 locs1 cells slots Q (F0 m (pc + 1) ls rest)) : W p l e R s m args below meth c H locs cells slots Q (F0 m pc ls (.long x :: .int i :: .ref (ad 900 0) :: rest)) := va_last C.1.1 C.1.2.1 C.2.1 hh.1 (C.2.2.2.1 σ) hh.2 37 5 wA_900 rfl (vin_e hi) hdg (fun H1 locs1 h1 _ h3 => kk H1 locs1 ⟨by rw [← sa_900]; exact h1, h3⟩)
end LW
abbrev rm_L_pool : Room := { frames := 7, cells := 1, slots := 6, locals := 114 }
theorem CD_L_pool : Cond.codeWith yL_pool cL_pool 6 (some .int) [(0, 9, 12, 13), (0, 9, 16, 15)] ∈ Gw := gwm 449 (by decide +kernel) (by decide +kernel)
theorem ST_L_pool : Cond.static yL_pool ∈ Gw := gwm 448 (by decide +kernel) (by decide +kernel)
theorem HD_L_pool : yL_pool.cls ≠ "java/lang/invoke/MethodHandle" ∧ yL_pool.cls ≠ "java/lang/invoke/VarHandle" ∧ (parseMethodDescriptor yL_pool.desc).map (fun d => d.parameters.length) = some 5 := by decide +kernel
def f_L_pool (x1 : Int32) (x2 : Int32) (x3 : Int32) (x4 : Int32) (σ : Mem) (o : Nat → Int64) : Option (Int32 × Mem × (Nat → Int64)) := bt (f_X7_pool x1 x2 x3 x4 σ) (fun r => if r.1 = 0 then some ((0 : Int32), r.2.2, o) else if r.1 = 1 then some ((1 : Int32), r.2.2, o) else if r.1 = 2 then some ((2 : Int32), r.2.2, o) else none)
set_option maxHeartbeats 4000000 in
set_option maxRecDepth 100000 in
theorem c_L_pool {l : Launch} {D : va_G} {cA : Nat → ClassId} {ad : Nat → Nat → Nat} {A : Nat → Prop} {o : Nat → Int64} (hl0 : l.stackTraces = false) (hD0 : ∀ σ, va_D A (wW cA ad σ o)) (x1 : Int32) (x2 : Int32) (x3 : Int32) (x4 : Int32) (σ : Mem) {r : Int32 × Mem × (Nat → Int64)} (h : f_L_pool x1 x2 x3 x4 σ o = some r) : Met l yL_pool (wsC yL_pool cL_pool 6 (some .int) [(0, 9, 12, 13), (0, 9, 16, 15)]) rm_L_pool (va_Pc [.ref (ad 799 0), .int x1, .int x2, .int x3, .int x4] (IX D cA ad A o σ)) (QL D cA ad A r) 1 6 A := by
  refine metC (by decide) (Nat.le_of_ble_eq_true rfl) hD0 hl0 ?_
  intro p e s m args below meth c C L ls hh hl
  have C : Cx p s m args meth c cL_pool 6 RL (some .int) D cA ad A o := C
  have hl : lv_has ls 6 [(0, .ref (ad 799 0)), (1, .int x1), (2, .int x2), (3, .int x3), (4, .int x4)] := hl
  obtain ⟨⟨hx, hb, hml, hown, hts⟩, hK, hN, hD, hr, hlocks⟩ := id C
  unfold f_L_pool at h
  obtain ⟨r1, e1, h⟩ := bt_e h
  refine lv_aload_n hx hb dL_pool_0 rfl (lv_at hl 0 rfl) ?_
  refine lv_iload_n hx hb dL_pool_1 rfl (lv_at hl 1 rfl) ?_
  refine lv_iload_n hx hb dL_pool_2 rfl (lv_at hl 2 rfl) ?_
  refine lv_iload_n hx hb dL_pool_3 rfl (lv_at hl 3 rfl) ?_
  refine lv_iload hx hb dL_pool_4 (lv_at hl 4 rfl) ?_
  refine x_void hh (xrun (rest := []) C L hh (c_X7_pool hl0 hD0 x1 x2 x3 x4 σ e1) LM_L_7 IM_X7_pool SL_X7_pool IN_7 CD_X7_pool HD_X7_pool ⟨rfl, rfl, Nat.le_of_ble_eq_true rfl, Nat.le_of_ble_eq_true rfl⟩ (rv_7 C hh) rfl hl.1 rfl (Nat.le_of_ble_eq_true rfl) dL_pool_6 ⟨Nat.le_of_ble_eq_true rfl, Nat.le_of_ble_eq_true rfl⟩) (fun ce q9 H locs n0 hh g1 g2 g3 => ?_) (fun H locs n0 hh => ?_)
  · rw [if_neg n0] at h
    by_cases n1 : r1.1 = 1
    · rw [if_pos n1] at h
      rw [n1] at g3
      refine vx_catch (name := "java/util/NoSuchElementException") (E := "java/util/NoSuchElementException") hown [] ⟨0, 9, 12, 13⟩ [⟨0, 9, 16, 15⟩] L.2.1 (fun z hz => absurd hz List.not_mem_nil) (by decide) (by decide) (hts _ lk_13) (va_Nw.use rfl (L.2.2.1.1 _ (List.mem_of_getElem? (i := 0) rfl))) g1 g2 (by exact g3) ?_
      refine lv_astore (lv' := [(5, .ref q9), (0, .ref (ad 799 0)), (1, .int x1), (2, .int x2), (3, .int x3), (4, .int x4)]) hx hb dL_pool_12 hl (by decide) rfl (fun ls hl => ?_)
      refine lv_iconst (v := (1 : Int32)) hx hb dL_pool_14 (by decide) ?_
      exact w_ret C hh h dL_pool_15
    · rw [if_neg n1] at h
      by_cases n2 : r1.1 = 2
      · rw [if_pos n2] at h
        rw [n2] at g3
        refine vx_catch (name := "java/lang/IllegalArgumentException") (E := "java/lang/IllegalArgumentException") hown [⟨0, 9, 12, 13⟩] ⟨0, 9, 16, 15⟩ [] L.2.1 (fun z hz => by rcases List.mem_singleton.mp hz with rfl; exact Or.inr ⟨by decide, "java/util/NoSuchElementException", hts _ lk_13, L.2.2.1.2 ("java/lang/IllegalArgumentException", "java/util/NoSuchElementException") (by decide +kernel)⟩) (by decide) (by decide) (hts _ lk_15) (va_Nw.use rfl (L.2.2.1.1 _ (List.mem_of_getElem? (i := 1) rfl))) g1 g2 (by exact g3) ?_
        refine lv_astore (lv' := [(5, .ref q9), (0, .ref (ad 799 0)), (1, .int x1), (2, .int x2), (3, .int x3), (4, .int x4)]) hx hb dL_pool_16 hl (by decide) rfl (fun ls hl => ?_)
        refine lv_iconst (v := (2 : Int32)) hx hb dL_pool_18 (by decide) ?_
        exact w_ret C hh h dL_pool_19
      · rw [if_neg n2] at h
        cases h
  · rw [if_pos n0] at h
    refine lv_goto (tgt := 20) hx hb dL_pool_9 (by decide) ?_
    refine lv_iconst (v := (0 : Int32)) hx hb dL_pool_20 (by decide) ?_
    exact w_ret C hh h dL_pool_21
abbrev rm_L_join : Room := { frames := 7, cells := 1, slots := 6, locals := 135 }
theorem CD_L_join : Cond.codeWith yL_join cL_join 4 (some .int) [(0, 6, 9, 13), (0, 6, 12, 21)] ∈ Gw := gwm 544 (by decide +kernel) (by decide +kernel)
theorem ST_L_join : Cond.static yL_join ∈ Gw := gwm 543 (by decide +kernel) (by decide +kernel)
theorem HD_L_join : yL_join.cls ≠ "java/lang/invoke/MethodHandle" ∧ yL_join.cls ≠ "java/lang/invoke/VarHandle" ∧ (parseMethodDescriptor yL_join.desc).map (fun d => d.parameters.length) = some 3 := by decide +kernel
def f_L_join (x1 : Int32) (x2 : Int32) (σ : Mem) (o : Nat → Int64) : Option (Int32 × Mem × (Nat → Int64)) := bt (f_X7_join x1 x2 σ) (fun r => if r.1 = 0 then some ((0 : Int32), r.2.2, o) else if r.1 = 1 then some ((1 : Int32), r.2.2, o) else if r.1 = 3 then some ((2 : Int32), r.2.2, o) else none)
set_option maxHeartbeats 4000000 in
set_option maxRecDepth 100000 in
theorem c_L_join {l : Launch} {D : va_G} {cA : Nat → ClassId} {ad : Nat → Nat → Nat} {A : Nat → Prop} {o : Nat → Int64} (hl0 : l.stackTraces = false) (hD0 : ∀ σ, va_D A (wW cA ad σ o)) (x1 : Int32) (x2 : Int32) (σ : Mem) {r : Int32 × Mem × (Nat → Int64)} (h : f_L_join x1 x2 σ o = some r) : Met l yL_join (wsC yL_join cL_join 4 (some .int) [(0, 6, 9, 13), (0, 6, 12, 21)]) rm_L_join (va_Pc [.ref (ad 799 0), .int x1, .int x2] (IX D cA ad A o σ)) (QL D cA ad A r) 1 6 A := by
  refine metC (by decide) (Nat.le_of_ble_eq_true rfl) hD0 hl0 ?_
  intro p e s m args below meth c C L ls hh hl
  have C : Cx p s m args meth c cL_join 4 RL (some .int) D cA ad A o := C
  have hl : lv_has ls 4 [(0, .ref (ad 799 0)), (1, .int x1), (2, .int x2)] := hl
  obtain ⟨⟨hx, hb, hml, hown, hts⟩, hK, hN, hD, hr, hlocks⟩ := id C
  unfold f_L_join at h
  obtain ⟨r1, e1, h⟩ := bt_e h
  refine lv_aload_n hx hb dL_join_0 rfl (lv_at hl 0 rfl) ?_
  refine lv_iload_n hx hb dL_join_1 rfl (lv_at hl 1 rfl) ?_
  refine lv_iload_n hx hb dL_join_2 rfl (lv_at hl 2 rfl) ?_
  refine x_void hh (xrun (rest := []) C L hh (c_X7_join hl0 hD0 x1 x2 σ e1) LM_L_17 IM_X7_join SL_X7_join IN_7 CD_X7_join HD_X7_join ⟨rfl, rfl, Nat.le_of_ble_eq_true rfl, Nat.le_of_ble_eq_true rfl⟩ (rv_7 C hh) rfl hl.1 rfl (Nat.le_of_ble_eq_true rfl) dL_join_3 ⟨Nat.le_of_ble_eq_true rfl, Nat.le_of_ble_eq_true rfl⟩) (fun ce q9 H locs n0 hh g1 g2 g3 => ?_) (fun H locs n0 hh => ?_)
  · rw [if_neg n0] at h
    by_cases n1 : r1.1 = 1
    · rw [if_pos n1] at h
      rw [n1] at g3
      refine vx_catch (name := "java/util/NoSuchElementException") (E := "java/util/NoSuchElementException") hown [] ⟨0, 6, 9, 13⟩ [⟨0, 6, 12, 21⟩] L.2.1 (fun z hz => absurd hz List.not_mem_nil) (by decide) (by decide) (hts _ lk_13) (va_Nw.use rfl (L.2.2.1.1 _ (List.mem_of_getElem? (i := 0) rfl))) g1 g2 (by exact g3) ?_
      refine lv_astore_n (lv' := [(3, .ref q9), (0, .ref (ad 799 0)), (1, .int x1), (2, .int x2)]) hx hb dL_join_9 rfl hl (by decide) rfl (fun ls hl => ?_)
      refine lv_iconst (v := (1 : Int32)) hx hb dL_join_10 (by decide) ?_
      exact w_ret C hh h dL_join_11
    · rw [if_neg n1] at h
      by_cases n2 : r1.1 = 3
      · rw [if_pos n2] at h
        rw [n2] at g3
        refine vx_catch (name := "java/lang/IllegalStateException") (E := "java/lang/IllegalStateException") hown [⟨0, 6, 9, 13⟩] ⟨0, 6, 12, 21⟩ [] L.2.1 (fun z hz => by rcases List.mem_singleton.mp hz with rfl; exact Or.inr ⟨by decide, "java/util/NoSuchElementException", hts _ lk_13, L.2.2.1.2 ("java/lang/IllegalStateException", "java/util/NoSuchElementException") (by decide +kernel)⟩) (by decide) (by decide) (hts _ lk_21) (va_Nw.use rfl (L.2.2.1.1 _ (List.mem_of_getElem? (i := 2) rfl))) g1 g2 (by exact g3) ?_
        refine lv_astore_n (lv' := [(3, .ref q9), (0, .ref (ad 799 0)), (1, .int x1), (2, .int x2)]) hx hb dL_join_12 rfl hl (by decide) rfl (fun ls hl => ?_)
        refine lv_iconst (v := (2 : Int32)) hx hb dL_join_13 (by decide) ?_
        exact w_ret C hh h dL_join_14
      · rw [if_neg n2] at h
        cases h
  · rw [if_pos n0] at h
    refine lv_goto (tgt := 15) hx hb dL_join_6 (by decide) ?_
    refine lv_iconst (v := (0 : Int32)) hx hb dL_join_15 (by decide) ?_
    exact w_ret C hh h dL_join_16
abbrev rm_L_off : Room := { frames := 7, cells := 1, slots := 6, locals := 111 }
theorem CD_L_off : Cond.codeWith yL_off cL_off 3 (some .int) [(0, 5, 8, 13), (0, 5, 11, 21)] ∈ Gw := gwm 574 (by decide +kernel) (by decide +kernel)
theorem ST_L_off : Cond.static yL_off ∈ Gw := gwm 573 (by decide +kernel) (by decide +kernel)
theorem HD_L_off : yL_off.cls ≠ "java/lang/invoke/MethodHandle" ∧ yL_off.cls ≠ "java/lang/invoke/VarHandle" ∧ (parseMethodDescriptor yL_off.desc).map (fun d => d.parameters.length) = some 2 := by decide +kernel
def f_L_off (x1 : Int32) (σ : Mem) (o : Nat → Int64) : Option (Int32 × Mem × (Nat → Int64)) := bt (f_X7_off x1 σ) (fun r => if r.1 = 0 then some ((0 : Int32), r.2.2, o) else if r.1 = 1 then some ((1 : Int32), r.2.2, o) else if r.1 = 3 then some ((2 : Int32), r.2.2, o) else none)
set_option maxHeartbeats 4000000 in
set_option maxRecDepth 100000 in
theorem c_L_off {l : Launch} {D : va_G} {cA : Nat → ClassId} {ad : Nat → Nat → Nat} {A : Nat → Prop} {o : Nat → Int64} (hl0 : l.stackTraces = false) (hD0 : ∀ σ, va_D A (wW cA ad σ o)) (x1 : Int32) (σ : Mem) {r : Int32 × Mem × (Nat → Int64)} (h : f_L_off x1 σ o = some r) : Met l yL_off (wsC yL_off cL_off 3 (some .int) [(0, 5, 8, 13), (0, 5, 11, 21)]) rm_L_off (va_Pc [.ref (ad 799 0), .int x1] (IX D cA ad A o σ)) (QL D cA ad A r) 1 6 A := by
  refine metC (by decide) (Nat.le_of_ble_eq_true rfl) hD0 hl0 ?_
  intro p e s m args below meth c C L ls hh hl
  have C : Cx p s m args meth c cL_off 3 RL (some .int) D cA ad A o := C
  have hl : lv_has ls 3 [(0, .ref (ad 799 0)), (1, .int x1)] := hl
  obtain ⟨⟨hx, hb, hml, hown, hts⟩, hK, hN, hD, hr, hlocks⟩ := id C
  unfold f_L_off at h
  obtain ⟨r1, e1, h⟩ := bt_e h
  refine lv_aload_n hx hb dL_off_0 rfl (lv_at hl 0 rfl) ?_
  refine lv_iload_n hx hb dL_off_1 rfl (lv_at hl 1 rfl) ?_
  refine x_void hh (xrun (rest := []) C L hh (c_X7_off hl0 hD0 x1 σ e1) LM_L_23 IM_X7_off SL_X7_off IN_7 CD_X7_off HD_X7_off ⟨rfl, rfl, Nat.le_of_ble_eq_true rfl, Nat.le_of_ble_eq_true rfl⟩ (rv_7 C hh) rfl hl.1 rfl (Nat.le_of_ble_eq_true rfl) dL_off_2 ⟨Nat.le_of_ble_eq_true rfl, Nat.le_of_ble_eq_true rfl⟩) (fun ce q9 H locs n0 hh g1 g2 g3 => ?_) (fun H locs n0 hh => ?_)
  · rw [if_neg n0] at h
    by_cases n1 : r1.1 = 1
    · rw [if_pos n1] at h
      rw [n1] at g3
      refine vx_catch (name := "java/util/NoSuchElementException") (E := "java/util/NoSuchElementException") hown [] ⟨0, 5, 8, 13⟩ [⟨0, 5, 11, 21⟩] L.2.1 (fun z hz => absurd hz List.not_mem_nil) (by decide) (by decide) (hts _ lk_13) (va_Nw.use rfl (L.2.2.1.1 _ (List.mem_of_getElem? (i := 0) rfl))) g1 g2 (by exact g3) ?_
      refine lv_astore_n (lv' := [(2, .ref q9), (0, .ref (ad 799 0)), (1, .int x1)]) hx hb dL_off_8 rfl hl (by decide) rfl (fun ls hl => ?_)
      refine lv_iconst (v := (1 : Int32)) hx hb dL_off_9 (by decide) ?_
      exact w_ret C hh h dL_off_10
    · rw [if_neg n1] at h
      by_cases n2 : r1.1 = 3
      · rw [if_pos n2] at h
        rw [n2] at g3
        refine vx_catch (name := "java/lang/IllegalStateException") (E := "java/lang/IllegalStateException") hown [⟨0, 5, 8, 13⟩] ⟨0, 5, 11, 21⟩ [] L.2.1 (fun z hz => by rcases List.mem_singleton.mp hz with rfl; exact Or.inr ⟨by decide, "java/util/NoSuchElementException", hts _ lk_13, L.2.2.1.2 ("java/lang/IllegalStateException", "java/util/NoSuchElementException") (by decide +kernel)⟩) (by decide) (by decide) (hts _ lk_21) (va_Nw.use rfl (L.2.2.1.1 _ (List.mem_of_getElem? (i := 2) rfl))) g1 g2 (by exact g3) ?_
        refine lv_astore_n (lv' := [(2, .ref q9), (0, .ref (ad 799 0)), (1, .int x1)]) hx hb dL_off_11 rfl hl (by decide) rfl (fun ls hl => ?_)
        refine lv_iconst (v := (2 : Int32)) hx hb dL_off_12 (by decide) ?_
        exact w_ret C hh h dL_off_13
      · rw [if_neg n2] at h
        cases h
  · rw [if_pos n0] at h
    refine lv_goto (tgt := 14) hx hb dL_off_5 (by decide) ?_
    refine lv_iconst (v := (0 : Int32)) hx hb dL_off_14 (by decide) ?_
    exact w_ret C hh h dL_off_15
abbrev rm_L_leave : Room := { frames := 7, cells := 1, slots := 6, locals := 130 }
theorem CD_L_leave : Cond.codeWith yL_leave cL_leave 3 (some .int) [(0, 5, 8, 13), (0, 5, 11, 21)] ∈ Gw := gwm 581 (by decide +kernel) (by decide +kernel)
theorem ST_L_leave : Cond.static yL_leave ∈ Gw := gwm 580 (by decide +kernel) (by decide +kernel)
theorem HD_L_leave : yL_leave.cls ≠ "java/lang/invoke/MethodHandle" ∧ yL_leave.cls ≠ "java/lang/invoke/VarHandle" ∧ (parseMethodDescriptor yL_leave.desc).map (fun d => d.parameters.length) = some 2 := by decide +kernel
def f_L_leave (x1 : Int32) (σ : Mem) (o : Nat → Int64) : Option (Int32 × Mem × (Nat → Int64)) := bt (f_X7_leave x1 σ) (fun r => if r.1 = 0 then some ((0 : Int32), r.2.2, o) else if r.1 = 1 then some ((1 : Int32), r.2.2, o) else if r.1 = 3 then some ((2 : Int32), r.2.2, o) else none)
set_option maxHeartbeats 4000000 in
set_option maxRecDepth 100000 in
theorem c_L_leave {l : Launch} {D : va_G} {cA : Nat → ClassId} {ad : Nat → Nat → Nat} {A : Nat → Prop} {o : Nat → Int64} (hl0 : l.stackTraces = false) (hD0 : ∀ σ, va_D A (wW cA ad σ o)) (x1 : Int32) (σ : Mem) {r : Int32 × Mem × (Nat → Int64)} (h : f_L_leave x1 σ o = some r) : Met l yL_leave (wsC yL_leave cL_leave 3 (some .int) [(0, 5, 8, 13), (0, 5, 11, 21)]) rm_L_leave (va_Pc [.ref (ad 799 0), .int x1] (IX D cA ad A o σ)) (QL D cA ad A r) 1 6 A := by
  refine metC (by decide) (Nat.le_of_ble_eq_true rfl) hD0 hl0 ?_
  intro p e s m args below meth c C L ls hh hl
  have C : Cx p s m args meth c cL_leave 3 RL (some .int) D cA ad A o := C
  have hl : lv_has ls 3 [(0, .ref (ad 799 0)), (1, .int x1)] := hl
  obtain ⟨⟨hx, hb, hml, hown, hts⟩, hK, hN, hD, hr, hlocks⟩ := id C
  unfold f_L_leave at h
  obtain ⟨r1, e1, h⟩ := bt_e h
  refine lv_aload_n hx hb dL_leave_0 rfl (lv_at hl 0 rfl) ?_
  refine lv_iload_n hx hb dL_leave_1 rfl (lv_at hl 1 rfl) ?_
  refine x_void hh (xrun (rest := []) C L hh (c_X7_leave hl0 hD0 x1 σ e1) LM_L_27 IM_X7_leave SL_X7_leave IN_7 CD_X7_leave HD_X7_leave ⟨rfl, rfl, Nat.le_of_ble_eq_true rfl, Nat.le_of_ble_eq_true rfl⟩ (rv_7 C hh) rfl hl.1 rfl (Nat.le_of_ble_eq_true rfl) dL_leave_2 ⟨Nat.le_of_ble_eq_true rfl, Nat.le_of_ble_eq_true rfl⟩) (fun ce q9 H locs n0 hh g1 g2 g3 => ?_) (fun H locs n0 hh => ?_)
  · rw [if_neg n0] at h
    by_cases n1 : r1.1 = 1
    · rw [if_pos n1] at h
      rw [n1] at g3
      refine vx_catch (name := "java/util/NoSuchElementException") (E := "java/util/NoSuchElementException") hown [] ⟨0, 5, 8, 13⟩ [⟨0, 5, 11, 21⟩] L.2.1 (fun z hz => absurd hz List.not_mem_nil) (by decide) (by decide) (hts _ lk_13) (va_Nw.use rfl (L.2.2.1.1 _ (List.mem_of_getElem? (i := 0) rfl))) g1 g2 (by exact g3) ?_
      refine lv_astore_n (lv' := [(2, .ref q9), (0, .ref (ad 799 0)), (1, .int x1)]) hx hb dL_leave_8 rfl hl (by decide) rfl (fun ls hl => ?_)
      refine lv_iconst (v := (1 : Int32)) hx hb dL_leave_9 (by decide) ?_
      exact w_ret C hh h dL_leave_10
    · rw [if_neg n1] at h
      by_cases n2 : r1.1 = 3
      · rw [if_pos n2] at h
        rw [n2] at g3
        refine vx_catch (name := "java/lang/IllegalStateException") (E := "java/lang/IllegalStateException") hown [⟨0, 5, 8, 13⟩] ⟨0, 5, 11, 21⟩ [] L.2.1 (fun z hz => by rcases List.mem_singleton.mp hz with rfl; exact Or.inr ⟨by decide, "java/util/NoSuchElementException", hts _ lk_13, L.2.2.1.2 ("java/lang/IllegalStateException", "java/util/NoSuchElementException") (by decide +kernel)⟩) (by decide) (by decide) (hts _ lk_21) (va_Nw.use rfl (L.2.2.1.1 _ (List.mem_of_getElem? (i := 2) rfl))) g1 g2 (by exact g3) ?_
        refine lv_astore_n (lv' := [(2, .ref q9), (0, .ref (ad 799 0)), (1, .int x1)]) hx hb dL_leave_11 rfl hl (by decide) rfl (fun ls hl => ?_)
        refine lv_iconst (v := (2 : Int32)) hx hb dL_leave_12 (by decide) ?_
        exact w_ret C hh h dL_leave_13
      · rw [if_neg n2] at h
        cases h
  · rw [if_pos n0] at h
    refine lv_goto (tgt := 14) hx hb dL_leave_5 (by decide) ?_
    refine lv_iconst (v := (0 : Int32)) hx hb dL_leave_14 (by decide) ?_
    exact w_ret C hh h dL_leave_15
abbrev rm_L_strange : Room := { frames := 7, cells := 1, slots := 6, locals := 112 }
theorem CD_L_strange : Cond.codeWith yL_strange cL_strange 4 (some .int) [(0, 6, 9, 15)] ∈ Gw := gwm 592 (by decide +kernel) (by decide +kernel)
theorem ST_L_strange : Cond.static yL_strange ∈ Gw := gwm 591 (by decide +kernel) (by decide +kernel)
theorem HD_L_strange : yL_strange.cls ≠ "java/lang/invoke/MethodHandle" ∧ yL_strange.cls ≠ "java/lang/invoke/VarHandle" ∧ (parseMethodDescriptor yL_strange.desc).map (fun d => d.parameters.length) = some 3 := by decide +kernel
def f_L_strange (x1 : Int32) (x2 : Int32) (σ : Mem) (o : Nat → Int64) : Option (Int32 × Mem × (Nat → Int64)) := bt (f_X7_strange x1 x2 σ) (fun r => if r.1 = 0 then some ((0 : Int32), r.2.2, o) else if r.1 = 2 then some ((1 : Int32), r.2.2, o) else none)
set_option maxHeartbeats 4000000 in
set_option maxRecDepth 100000 in
theorem c_L_strange {l : Launch} {D : va_G} {cA : Nat → ClassId} {ad : Nat → Nat → Nat} {A : Nat → Prop} {o : Nat → Int64} (hl0 : l.stackTraces = false) (hD0 : ∀ σ, va_D A (wW cA ad σ o)) (x1 : Int32) (x2 : Int32) (σ : Mem) {r : Int32 × Mem × (Nat → Int64)} (h : f_L_strange x1 x2 σ o = some r) : Met l yL_strange (wsC yL_strange cL_strange 4 (some .int) [(0, 6, 9, 15)]) rm_L_strange (va_Pc [.ref (ad 799 0), .int x1, .int x2] (IX D cA ad A o σ)) (QL D cA ad A r) 1 6 A := by
  refine metC (by decide) (Nat.le_of_ble_eq_true rfl) hD0 hl0 ?_
  intro p e s m args below meth c C L ls hh hl
  have C : Cx p s m args meth c cL_strange 4 RL (some .int) D cA ad A o := C
  have hl : lv_has ls 4 [(0, .ref (ad 799 0)), (1, .int x1), (2, .int x2)] := hl
  obtain ⟨⟨hx, hb, hml, hown, hts⟩, hK, hN, hD, hr, hlocks⟩ := id C
  unfold f_L_strange at h
  obtain ⟨r1, e1, h⟩ := bt_e h
  refine lv_aload_n hx hb dL_strange_0 rfl (lv_at hl 0 rfl) ?_
  refine lv_iload_n hx hb dL_strange_1 rfl (lv_at hl 1 rfl) ?_
  refine lv_iload_n hx hb dL_strange_2 rfl (lv_at hl 2 rfl) ?_
  refine x_void hh (xrun (rest := []) C L hh (c_X7_strange hl0 hD0 x1 x2 σ e1) LM_L_30 IM_X7_strange SL_X7_strange IN_7 CD_X7_strange HD_X7_strange ⟨rfl, rfl, Nat.le_of_ble_eq_true rfl, Nat.le_of_ble_eq_true rfl⟩ (rv_7 C hh) rfl hl.1 rfl (Nat.le_of_ble_eq_true rfl) dL_strange_3 ⟨Nat.le_of_ble_eq_true rfl, Nat.le_of_ble_eq_true rfl⟩) (fun ce q9 H locs n0 hh g1 g2 g3 => ?_) (fun H locs n0 hh => ?_)
  · rw [if_neg n0] at h
    by_cases n1 : r1.1 = 2
    · rw [if_pos n1] at h
      rw [n1] at g3
      refine vx_catch (name := "java/lang/IllegalArgumentException") (E := "java/lang/IllegalArgumentException") hown [] ⟨0, 6, 9, 15⟩ [] L.2.1 (fun z hz => absurd hz List.not_mem_nil) (by decide) (by decide) (hts _ lk_15) (va_Nw.use rfl (L.2.2.1.1 _ (List.mem_of_getElem? (i := 1) rfl))) g1 g2 (by exact g3) ?_
      refine lv_astore_n (lv' := [(3, .ref q9), (0, .ref (ad 799 0)), (1, .int x1), (2, .int x2)]) hx hb dL_strange_9 rfl hl (by decide) rfl (fun ls hl => ?_)
      refine lv_iconst (v := (1 : Int32)) hx hb dL_strange_10 (by decide) ?_
      exact w_ret C hh h dL_strange_11
    · rw [if_neg n1] at h
      cases h
  · rw [if_pos n0] at h
    refine lv_goto (tgt := 12) hx hb dL_strange_6 (by decide) ?_
    refine lv_iconst (v := (0 : Int32)) hx hb dL_strange_12 (by decide) ?_
    exact w_ret C hh h dL_strange_13
abbrev rm_L_packet : Room := { frames := 7, cells := 1, slots := 6, locals := 113 }
theorem CD_L_packet : Cond.codeWith yL_packet cL_packet 5 (some .int) [(0, 10, 13, 13), (0, 10, 17, 38)] ∈ Gw := gwm 602 (by decide +kernel) (by decide +kernel)
theorem ST_L_packet : Cond.static yL_packet ∈ Gw := gwm 601 (by decide +kernel) (by decide +kernel)
theorem HD_L_packet : yL_packet.cls ≠ "java/lang/invoke/MethodHandle" ∧ yL_packet.cls ≠ "java/lang/invoke/VarHandle" ∧ (parseMethodDescriptor yL_packet.desc).map (fun d => d.parameters.length) = some 4 := by decide +kernel
def f_L_packet (x1 : Int32) (x2 : Int32) (σ : Mem) (o : Nat → Int64) : Option (Int32 × Mem × (Nat → Int64)) := bt (f_X7_packet x1 x2 σ) (fun r => if r.1 = 0 then some ((0 : Int32), r.2.2, vp_updL o (0 : Int32).toNatClampNeg r.2.1.toInt64) else if r.1 = 1 then some ((1 : Int32), r.2.2, o) else if r.1 = 4 then some ((2 : Int32), r.2.2, o) else none)
set_option maxHeartbeats 4000000 in
set_option maxRecDepth 100000 in
theorem c_L_packet {l : Launch} {D : va_G} {cA : Nat → ClassId} {ad : Nat → Nat → Nat} {A : Nat → Prop} {o : Nat → Int64} (hl0 : l.stackTraces = false) (hD0 : ∀ σ, va_D A (wW cA ad σ o)) (x1 : Int32) (x2 : Int32) (σ : Mem) {r : Int32 × Mem × (Nat → Int64)} (h : f_L_packet x1 x2 σ o = some r) : Met l yL_packet (wsC yL_packet cL_packet 5 (some .int) [(0, 10, 13, 13), (0, 10, 17, 38)]) rm_L_packet (va_Pc [.ref (ad 799 0), .int x1, .int x2, .ref (ad 900 0)] (IX D cA ad A o σ)) (QL D cA ad A r) 1 6 A := by
  refine metC (by decide) (Nat.le_of_ble_eq_true rfl) hD0 hl0 ?_
  intro p e s m args below meth c C L ls hh hl
  have C : Cx p s m args meth c cL_packet 5 RL (some .int) D cA ad A o := C
  have hl : lv_has ls 5 [(0, .ref (ad 799 0)), (1, .int x1), (2, .int x2), (3, .ref (ad 900 0))] := hl
  obtain ⟨⟨hx, hb, hml, hown, hts⟩, hK, hN, hD, hr, hlocks⟩ := id C
  unfold f_L_packet at h
  obtain ⟨r1, e1, h⟩ := bt_e h
  refine lv_aload_n hx hb dL_packet_0 rfl (lv_at hl 3 rfl) ?_
  refine lv_iconst (v := (0 : Int32)) hx hb dL_packet_1 (by decide) ?_
  refine lv_aload_n hx hb dL_packet_2 rfl (lv_at hl 0 rfl) ?_
  refine lv_iload_n hx hb dL_packet_3 rfl (lv_at hl 1 rfl) ?_
  refine lv_iload_n hx hb dL_packet_4 rfl (lv_at hl 2 rfl) ?_
  refine x_int hh (xrun (rest := [.int (0 : Int32), .ref (ad 900 0)]) C L hh (c_X7_packet hl0 hD0 x1 x2 σ e1) LM_L_34 IM_X7_packet SL_X7_packet IN_7 CD_X7_packet HD_X7_packet ⟨rfl, rfl, Nat.le_of_ble_eq_true rfl, Nat.le_of_ble_eq_true rfl⟩ (rv_7 C hh) rfl hl.1 rfl (Nat.le_of_ble_eq_true rfl) dL_packet_5 ⟨Nat.le_of_ble_eq_true rfl, Nat.le_of_ble_eq_true rfl⟩) (fun ce q9 H locs n0 hh g1 g2 g3 => ?_) (fun H locs n0 hh => ?_)
  · rw [if_neg n0] at h
    by_cases n1 : r1.1 = 1
    · rw [if_pos n1] at h
      rw [n1] at g3
      refine vx_catch (name := "java/util/NoSuchElementException") (E := "java/util/NoSuchElementException") hown [] ⟨0, 10, 13, 13⟩ [⟨0, 10, 17, 38⟩] L.2.1 (fun z hz => absurd hz List.not_mem_nil) (by decide) (by decide) (hts _ lk_13) (va_Nw.use rfl (L.2.2.1.1 _ (List.mem_of_getElem? (i := 0) rfl))) g1 g2 (by exact g3) ?_
      refine lv_astore (lv' := [(4, .ref q9), (0, .ref (ad 799 0)), (1, .int x1), (2, .int x2), (3, .ref (ad 900 0))]) hx hb dL_packet_13 hl (by decide) rfl (fun ls hl => ?_)
      refine lv_iconst (v := (1 : Int32)) hx hb dL_packet_15 (by decide) ?_
      exact w_ret C hh h dL_packet_16
    · rw [if_neg n1] at h
      by_cases n2 : r1.1 = 4
      · rw [if_pos n2] at h
        rw [n2] at g3
        refine vx_catch (name := "java/lang/IndexOutOfBoundsException") (E := "java/lang/IndexOutOfBoundsException") hown [⟨0, 10, 13, 13⟩] ⟨0, 10, 17, 38⟩ [] L.2.1 (fun z hz => by rcases List.mem_singleton.mp hz with rfl; exact Or.inr ⟨by decide, "java/util/NoSuchElementException", hts _ lk_13, L.2.2.1.2 ("java/lang/IndexOutOfBoundsException", "java/util/NoSuchElementException") (by decide +kernel)⟩) (by decide) (by decide) (hts _ lk_38) (va_Nw.use rfl (L.2.2.1.1 _ (List.mem_of_getElem? (i := 3) rfl))) g1 g2 (by exact g3) ?_
        refine lv_astore (lv' := [(4, .ref q9), (0, .ref (ad 799 0)), (1, .int x1), (2, .int x2), (3, .ref (ad 900 0))]) hx hb dL_packet_17 hl (by decide) rfl (fun ls hl => ?_)
        refine lv_iconst (v := (2 : Int32)) hx hb dL_packet_19 (by decide) ?_
        exact w_ret C hh h dL_packet_20
      · rw [if_neg n2] at h
        cases h
  · rw [if_pos n0] at h
    refine lv_i2l (v := r1.2.1.toInt64) hx hb dL_packet_8 rfl ?_
    refine s_out C hh (by decide) dL_packet_9 (fun H locs hh => ?_)
    refine lv_goto (tgt := 21) hx hb dL_packet_10 (by decide) ?_
    refine lv_iconst (v := (0 : Int32)) hx hb dL_packet_21 (by decide) ?_
    exact w_ret C hh h dL_packet_22
abbrev rm_L_carry : Room := { frames := 8, cells := 1, slots := 6, locals := 199 }
theorem CD_L_carry : Cond.codeWith yL_carry cL_carry 4 (some .int) [(0, 9, 12, 13)] ∈ Gw := gwm 629 (by decide +kernel) (by decide +kernel)
theorem ST_L_carry : Cond.static yL_carry ∈ Gw := gwm 628 (by decide +kernel) (by decide +kernel)
theorem HD_L_carry : yL_carry.cls ≠ "java/lang/invoke/MethodHandle" ∧ yL_carry.cls ≠ "java/lang/invoke/VarHandle" ∧ (parseMethodDescriptor yL_carry.desc).map (fun d => d.parameters.length) = some 3 := by decide +kernel
def f_L_carry (x1 : Int32) (σ : Mem) (o : Nat → Int64) : Option (Int32 × Mem × (Nat → Int64)) := bt (f_X7_carry x1 σ) (fun r => if r.1 = 0 then some ((0 : Int32), r.2.2, vp_updL o (0 : Int32).toNatClampNeg r.2.1.toInt64) else if r.1 = 1 then some ((1 : Int32), r.2.2, o) else none)
set_option maxHeartbeats 4000000 in
set_option maxRecDepth 100000 in
theorem c_L_carry {l : Launch} {D : va_G} {cA : Nat → ClassId} {ad : Nat → Nat → Nat} {A : Nat → Prop} {o : Nat → Int64} (hl0 : l.stackTraces = false) (hD0 : ∀ σ, va_D A (wW cA ad σ o)) (x1 : Int32) (σ : Mem) {r : Int32 × Mem × (Nat → Int64)} (h : f_L_carry x1 σ o = some r) : Met l yL_carry (wsC yL_carry cL_carry 4 (some .int) [(0, 9, 12, 13)]) rm_L_carry (va_Pc [.ref (ad 799 0), .int x1, .ref (ad 900 0)] (IX D cA ad A o σ)) (QL D cA ad A r) 1 6 A := by
  refine metC (by decide) (Nat.le_of_ble_eq_true rfl) hD0 hl0 ?_
  intro p e s m args below meth c C L ls hh hl
  have C : Cx p s m args meth c cL_carry 4 RL (some .int) D cA ad A o := C
  have hl : lv_has ls 4 [(0, .ref (ad 799 0)), (1, .int x1), (2, .ref (ad 900 0))] := hl
  obtain ⟨⟨hx, hb, hml, hown, hts⟩, hK, hN, hD, hr, hlocks⟩ := id C
  unfold f_L_carry at h
  obtain ⟨r1, e1, h⟩ := bt_e h
  refine lv_aload_n hx hb dL_carry_0 rfl (lv_at hl 2 rfl) ?_
  refine lv_iconst (v := (0 : Int32)) hx hb dL_carry_1 (by decide) ?_
  refine lv_aload_n hx hb dL_carry_2 rfl (lv_at hl 0 rfl) ?_
  refine lv_iload_n hx hb dL_carry_3 rfl (lv_at hl 1 rfl) ?_
  refine x_int hh (xrun (rest := [.int (0 : Int32), .ref (ad 900 0)]) C L hh (c_X7_carry hl0 hD0 x1 σ e1) LM_L_40 IM_X7_carry SL_X7_carry IN_7 CD_X7_carry HD_X7_carry ⟨rfl, rfl, Nat.le_of_ble_eq_true rfl, Nat.le_of_ble_eq_true rfl⟩ (rv_7 C hh) rfl hl.1 rfl (Nat.le_of_ble_eq_true rfl) dL_carry_4 ⟨Nat.le_of_ble_eq_true rfl, Nat.le_of_ble_eq_true rfl⟩) (fun ce q9 H locs n0 hh g1 g2 g3 => ?_) (fun H locs n0 hh => ?_)
  · rw [if_neg n0] at h
    by_cases n1 : r1.1 = 1
    · rw [if_pos n1] at h
      rw [n1] at g3
      refine vx_catch (name := "java/util/NoSuchElementException") (E := "java/util/NoSuchElementException") hown [] ⟨0, 9, 12, 13⟩ [] L.2.1 (fun z hz => absurd hz List.not_mem_nil) (by decide) (by decide) (hts _ lk_13) (va_Nw.use rfl (L.2.2.1.1 _ (List.mem_of_getElem? (i := 0) rfl))) g1 g2 (by exact g3) ?_
      refine lv_astore_n (lv' := [(3, .ref q9), (0, .ref (ad 799 0)), (1, .int x1), (2, .ref (ad 900 0))]) hx hb dL_carry_12 rfl hl (by decide) rfl (fun ls hl => ?_)
      refine lv_iconst (v := (1 : Int32)) hx hb dL_carry_13 (by decide) ?_
      exact w_ret C hh h dL_carry_14
    · rw [if_neg n1] at h
      cases h
  · rw [if_pos n0] at h
    refine lv_i2l (v := r1.2.1.toInt64) hx hb dL_carry_7 rfl ?_
    refine s_out C hh (by decide) dL_carry_8 (fun H locs hh => ?_)
    refine lv_goto (tgt := 15) hx hb dL_carry_9 (by decide) ?_
    refine lv_iconst (v := (0 : Int32)) hx hb dL_carry_15 (by decide) ?_
    exact w_ret C hh h dL_carry_16
abbrev rm_L_twice : Room := { frames := 8, cells := 1, slots := 6, locals := 199 }
theorem CD_L_twice : Cond.codeWith yL_twice cL_twice 3 (some .int) [(0, 5, 8, 13)] ∈ Gw := gwm 758 (by decide +kernel) (by decide +kernel)
theorem ST_L_twice : Cond.static yL_twice ∈ Gw := gwm 757 (by decide +kernel) (by decide +kernel)
theorem HD_L_twice : yL_twice.cls ≠ "java/lang/invoke/MethodHandle" ∧ yL_twice.cls ≠ "java/lang/invoke/VarHandle" ∧ (parseMethodDescriptor yL_twice.desc).map (fun d => d.parameters.length) = some 2 := by decide +kernel
def f_L_twice (x1 : Int32) (σ : Mem) (o : Nat → Int64) : Option (Int32 × Mem × (Nat → Int64)) := bt (f_X7_twice x1 σ) (fun r => if r.1 = 0 then some ((0 : Int32), r.2.2, o) else if r.1 = 1 then some ((1 : Int32), r.2.2, o) else none)
set_option maxHeartbeats 4000000 in
set_option maxRecDepth 100000 in
theorem c_L_twice {l : Launch} {D : va_G} {cA : Nat → ClassId} {ad : Nat → Nat → Nat} {A : Nat → Prop} {o : Nat → Int64} (hl0 : l.stackTraces = false) (hD0 : ∀ σ, va_D A (wW cA ad σ o)) (x1 : Int32) (σ : Mem) {r : Int32 × Mem × (Nat → Int64)} (h : f_L_twice x1 σ o = some r) : Met l yL_twice (wsC yL_twice cL_twice 3 (some .int) [(0, 5, 8, 13)]) rm_L_twice (va_Pc [.ref (ad 799 0), .int x1] (IX D cA ad A o σ)) (QL D cA ad A r) 1 6 A := by
  refine metC (by decide) (Nat.le_of_ble_eq_true rfl) hD0 hl0 ?_
  intro p e s m args below meth c C L ls hh hl
  have C : Cx p s m args meth c cL_twice 3 RL (some .int) D cA ad A o := C
  have hl : lv_has ls 3 [(0, .ref (ad 799 0)), (1, .int x1)] := hl
  obtain ⟨⟨hx, hb, hml, hown, hts⟩, hK, hN, hD, hr, hlocks⟩ := id C
  unfold f_L_twice at h
  obtain ⟨r1, e1, h⟩ := bt_e h
  refine lv_aload_n hx hb dL_twice_0 rfl (lv_at hl 0 rfl) ?_
  refine lv_iload_n hx hb dL_twice_1 rfl (lv_at hl 1 rfl) ?_
  refine x_void hh (xrun (rest := []) C L hh (c_X7_twice hl0 hD0 x1 σ e1) LM_L_44 IM_X7_twice SL_X7_twice IN_7 CD_X7_twice HD_X7_twice ⟨rfl, rfl, Nat.le_of_ble_eq_true rfl, Nat.le_of_ble_eq_true rfl⟩ (rv_7 C hh) rfl hl.1 rfl (Nat.le_of_ble_eq_true rfl) dL_twice_2 ⟨Nat.le_of_ble_eq_true rfl, Nat.le_of_ble_eq_true rfl⟩) (fun ce q9 H locs n0 hh g1 g2 g3 => ?_) (fun H locs n0 hh => ?_)
  · rw [if_neg n0] at h
    by_cases n1 : r1.1 = 1
    · rw [if_pos n1] at h
      rw [n1] at g3
      refine vx_catch (name := "java/util/NoSuchElementException") (E := "java/util/NoSuchElementException") hown [] ⟨0, 5, 8, 13⟩ [] L.2.1 (fun z hz => absurd hz List.not_mem_nil) (by decide) (by decide) (hts _ lk_13) (va_Nw.use rfl (L.2.2.1.1 _ (List.mem_of_getElem? (i := 0) rfl))) g1 g2 (by exact g3) ?_
      refine lv_astore_n (lv' := [(2, .ref q9), (0, .ref (ad 799 0)), (1, .int x1)]) hx hb dL_twice_8 rfl hl (by decide) rfl (fun ls hl => ?_)
      refine lv_iconst (v := (1 : Int32)) hx hb dL_twice_9 (by decide) ?_
      exact w_ret C hh h dL_twice_10
    · rw [if_neg n1] at h
      cases h
  · rw [if_pos n0] at h
    refine lv_goto (tgt := 11) hx hb dL_twice_5 (by decide) ?_
    refine lv_iconst (v := (0 : Int32)) hx hb dL_twice_11 (by decide) ?_
    exact w_ret C hh h dL_twice_12
abbrev rm_L_drop : Room := { frames := 7, cells := 1, slots := 6, locals := 111 }
theorem CD_L_drop : Cond.codeWith yL_drop cL_drop 3 (some .int) [(0, 5, 8, 13)] ∈ Gw := gwm 765 (by decide +kernel) (by decide +kernel)
theorem ST_L_drop : Cond.static yL_drop ∈ Gw := gwm 764 (by decide +kernel) (by decide +kernel)
theorem HD_L_drop : yL_drop.cls ≠ "java/lang/invoke/MethodHandle" ∧ yL_drop.cls ≠ "java/lang/invoke/VarHandle" ∧ (parseMethodDescriptor yL_drop.desc).map (fun d => d.parameters.length) = some 2 := by decide +kernel
def f_L_drop (x1 : Int32) (σ : Mem) (o : Nat → Int64) : Option (Int32 × Mem × (Nat → Int64)) := bt (f_X7_drop x1 σ) (fun r => if r.1 = 0 then some ((0 : Int32), r.2.2, o) else if r.1 = 1 then some ((1 : Int32), r.2.2, o) else none)
set_option maxHeartbeats 4000000 in
set_option maxRecDepth 100000 in
theorem c_L_drop {l : Launch} {D : va_G} {cA : Nat → ClassId} {ad : Nat → Nat → Nat} {A : Nat → Prop} {o : Nat → Int64} (hl0 : l.stackTraces = false) (hD0 : ∀ σ, va_D A (wW cA ad σ o)) (x1 : Int32) (σ : Mem) {r : Int32 × Mem × (Nat → Int64)} (h : f_L_drop x1 σ o = some r) : Met l yL_drop (wsC yL_drop cL_drop 3 (some .int) [(0, 5, 8, 13)]) rm_L_drop (va_Pc [.ref (ad 799 0), .int x1] (IX D cA ad A o σ)) (QL D cA ad A r) 1 6 A := by
  refine metC (by decide) (Nat.le_of_ble_eq_true rfl) hD0 hl0 ?_
  intro p e s m args below meth c C L ls hh hl
  have C : Cx p s m args meth c cL_drop 3 RL (some .int) D cA ad A o := C
  have hl : lv_has ls 3 [(0, .ref (ad 799 0)), (1, .int x1)] := hl
  obtain ⟨⟨hx, hb, hml, hown, hts⟩, hK, hN, hD, hr, hlocks⟩ := id C
  unfold f_L_drop at h
  obtain ⟨r1, e1, h⟩ := bt_e h
  refine lv_aload_n hx hb dL_drop_0 rfl (lv_at hl 0 rfl) ?_
  refine lv_iload_n hx hb dL_drop_1 rfl (lv_at hl 1 rfl) ?_
  refine x_void hh (xrun (rest := []) C L hh (c_X7_drop hl0 hD0 x1 σ e1) LM_L_47 IM_X7_drop SL_X7_drop IN_7 CD_X7_drop HD_X7_drop ⟨rfl, rfl, Nat.le_of_ble_eq_true rfl, Nat.le_of_ble_eq_true rfl⟩ (rv_7 C hh) rfl hl.1 rfl (Nat.le_of_ble_eq_true rfl) dL_drop_2 ⟨Nat.le_of_ble_eq_true rfl, Nat.le_of_ble_eq_true rfl⟩) (fun ce q9 H locs n0 hh g1 g2 g3 => ?_) (fun H locs n0 hh => ?_)
  · rw [if_neg n0] at h
    by_cases n1 : r1.1 = 1
    · rw [if_pos n1] at h
      rw [n1] at g3
      refine vx_catch (name := "java/util/NoSuchElementException") (E := "java/util/NoSuchElementException") hown [] ⟨0, 5, 8, 13⟩ [] L.2.1 (fun z hz => absurd hz List.not_mem_nil) (by decide) (by decide) (hts _ lk_13) (va_Nw.use rfl (L.2.2.1.1 _ (List.mem_of_getElem? (i := 0) rfl))) g1 g2 (by exact g3) ?_
      refine lv_astore_n (lv' := [(2, .ref q9), (0, .ref (ad 799 0)), (1, .int x1)]) hx hb dL_drop_8 rfl hl (by decide) rfl (fun ls hl => ?_)
      refine lv_iconst (v := (1 : Int32)) hx hb dL_drop_9 (by decide) ?_
      exact w_ret C hh h dL_drop_10
    · rw [if_neg n1] at h
      cases h
  · rw [if_pos n0] at h
    refine lv_goto (tgt := 11) hx hb dL_drop_5 (by decide) ?_
    refine lv_iconst (v := (0 : Int32)) hx hb dL_drop_11 (by decide) ?_
    exact w_ret C hh h dL_drop_12
abbrev rm_L_run : Room := { frames := 8, cells := 1, slots := 6, locals := 200 }
theorem CD_L_run : Cond.codeWith yL_run cL_run 4 (some .int) [(0, 9, 12, 15)] ∈ Gw := gwm 772 (by decide +kernel) (by decide +kernel)
theorem ST_L_run : Cond.static yL_run ∈ Gw := gwm 771 (by decide +kernel) (by decide +kernel)
theorem HD_L_run : yL_run.cls ≠ "java/lang/invoke/MethodHandle" ∧ yL_run.cls ≠ "java/lang/invoke/VarHandle" ∧ (parseMethodDescriptor yL_run.desc).map (fun d => d.parameters.length) = some 3 := by decide +kernel
def f_L_run (x1 : Int32) (σ : Mem) (o : Nat → Int64) : Option (Int32 × Mem × (Nat → Int64)) := bt (f_X7_run x1 σ) (fun r => if r.1 = 0 then some ((0 : Int32), r.2.2, vp_updL o (0 : Int32).toNatClampNeg r.2.1.toInt64) else if r.1 = 2 then some ((1 : Int32), r.2.2, o) else none)
set_option maxHeartbeats 4000000 in
set_option maxRecDepth 100000 in
theorem c_L_run {l : Launch} {D : va_G} {cA : Nat → ClassId} {ad : Nat → Nat → Nat} {A : Nat → Prop} {o : Nat → Int64} (hl0 : l.stackTraces = false) (hD0 : ∀ σ, va_D A (wW cA ad σ o)) (x1 : Int32) (σ : Mem) {r : Int32 × Mem × (Nat → Int64)} (h : f_L_run x1 σ o = some r) : Met l yL_run (wsC yL_run cL_run 4 (some .int) [(0, 9, 12, 15)]) rm_L_run (va_Pc [.ref (ad 799 0), .int x1, .ref (ad 900 0)] (IX D cA ad A o σ)) (QL D cA ad A r) 1 6 A := by
  refine metC (by decide) (Nat.le_of_ble_eq_true rfl) hD0 hl0 ?_
  intro p e s m args below meth c C L ls hh hl
  have C : Cx p s m args meth c cL_run 4 RL (some .int) D cA ad A o := C
  have hl : lv_has ls 4 [(0, .ref (ad 799 0)), (1, .int x1), (2, .ref (ad 900 0))] := hl
  obtain ⟨⟨hx, hb, hml, hown, hts⟩, hK, hN, hD, hr, hlocks⟩ := id C
  unfold f_L_run at h
  obtain ⟨r1, e1, h⟩ := bt_e h
  refine lv_aload_n hx hb dL_run_0 rfl (lv_at hl 2 rfl) ?_
  refine lv_iconst (v := (0 : Int32)) hx hb dL_run_1 (by decide) ?_
  refine lv_aload_n hx hb dL_run_2 rfl (lv_at hl 0 rfl) ?_
  refine lv_iload_n hx hb dL_run_3 rfl (lv_at hl 1 rfl) ?_
  refine x_int hh (xrun (rest := [.int (0 : Int32), .ref (ad 900 0)]) C L hh (c_X7_run hl0 hD0 x1 σ e1) LM_L_50 IM_X7_run SL_X7_run IN_7 CD_X7_run HD_X7_run ⟨rfl, rfl, Nat.le_of_ble_eq_true rfl, Nat.le_of_ble_eq_true rfl⟩ (rv_7 C hh) rfl hl.1 rfl (Nat.le_of_ble_eq_true rfl) dL_run_4 ⟨Nat.le_of_ble_eq_true rfl, Nat.le_of_ble_eq_true rfl⟩) (fun ce q9 H locs n0 hh g1 g2 g3 => ?_) (fun H locs n0 hh => ?_)
  · rw [if_neg n0] at h
    by_cases n1 : r1.1 = 2
    · rw [if_pos n1] at h
      rw [n1] at g3
      refine vx_catch (name := "java/lang/IllegalArgumentException") (E := "java/lang/IllegalArgumentException") hown [] ⟨0, 9, 12, 15⟩ [] L.2.1 (fun z hz => absurd hz List.not_mem_nil) (by decide) (by decide) (hts _ lk_15) (va_Nw.use rfl (L.2.2.1.1 _ (List.mem_of_getElem? (i := 1) rfl))) g1 g2 (by exact g3) ?_
      refine lv_astore_n (lv' := [(3, .ref q9), (0, .ref (ad 799 0)), (1, .int x1), (2, .ref (ad 900 0))]) hx hb dL_run_12 rfl hl (by decide) rfl (fun ls hl => ?_)
      refine lv_iconst (v := (1 : Int32)) hx hb dL_run_13 (by decide) ?_
      exact w_ret C hh h dL_run_14
    · rw [if_neg n1] at h
      cases h
  · rw [if_pos n0] at h
    refine lv_i2l (v := r1.2.1.toInt64) hx hb dL_run_7 rfl ?_
    refine s_out C hh (by decide) dL_run_8 (fun H locs hh => ?_)
    refine lv_goto (tgt := 15) hx hb dL_run_9 (by decide) ?_
    refine lv_iconst (v := (0 : Int32)) hx hb dL_run_15 (by decide) ?_
    exact w_ret C hh h dL_run_16
abbrev rm_L_told : Room := { frames := 7, cells := 1, slots := 6, locals := 113 }
theorem CD_L_told : Cond.codeWith yL_told cL_told 4 (some .int) [(0, 9, 12, 38), (0, 9, 15, 15)] ∈ Gw := gwm 779 (by decide +kernel) (by decide +kernel)
theorem ST_L_told : Cond.static yL_told ∈ Gw := gwm 778 (by decide +kernel) (by decide +kernel)
theorem HD_L_told : yL_told.cls ≠ "java/lang/invoke/MethodHandle" ∧ yL_told.cls ≠ "java/lang/invoke/VarHandle" ∧ (parseMethodDescriptor yL_told.desc).map (fun d => d.parameters.length) = some 3 := by decide +kernel
def f_L_told (x1 : Int32) (σ : Mem) (o : Nat → Int64) : Option (Int32 × Mem × (Nat → Int64)) := bt (f_X7_told x1 σ) (fun r => if r.1 = 0 then some ((0 : Int32), r.2.2, vp_updL o (0 : Int32).toNatClampNeg r.2.1.toInt64) else if r.1 = 4 then some ((1 : Int32), r.2.2, o) else if r.1 = 2 then some ((2 : Int32), r.2.2, o) else none)
set_option maxHeartbeats 4000000 in
set_option maxRecDepth 100000 in
theorem c_L_told {l : Launch} {D : va_G} {cA : Nat → ClassId} {ad : Nat → Nat → Nat} {A : Nat → Prop} {o : Nat → Int64} (hl0 : l.stackTraces = false) (hD0 : ∀ σ, va_D A (wW cA ad σ o)) (x1 : Int32) (σ : Mem) {r : Int32 × Mem × (Nat → Int64)} (h : f_L_told x1 σ o = some r) : Met l yL_told (wsC yL_told cL_told 4 (some .int) [(0, 9, 12, 38), (0, 9, 15, 15)]) rm_L_told (va_Pc [.ref (ad 799 0), .int x1, .ref (ad 900 0)] (IX D cA ad A o σ)) (QL D cA ad A r) 1 6 A := by
  refine metC (by decide) (Nat.le_of_ble_eq_true rfl) hD0 hl0 ?_
  intro p e s m args below meth c C L ls hh hl
  have C : Cx p s m args meth c cL_told 4 RL (some .int) D cA ad A o := C
  have hl : lv_has ls 4 [(0, .ref (ad 799 0)), (1, .int x1), (2, .ref (ad 900 0))] := hl
  obtain ⟨⟨hx, hb, hml, hown, hts⟩, hK, hN, hD, hr, hlocks⟩ := id C
  unfold f_L_told at h
  obtain ⟨r1, e1, h⟩ := bt_e h
  refine lv_aload_n hx hb dL_told_0 rfl (lv_at hl 2 rfl) ?_
  refine lv_iconst (v := (0 : Int32)) hx hb dL_told_1 (by decide) ?_
  refine lv_aload_n hx hb dL_told_2 rfl (lv_at hl 0 rfl) ?_
  refine lv_iload_n hx hb dL_told_3 rfl (lv_at hl 1 rfl) ?_
  refine x_int hh (xrun (rest := [.int (0 : Int32), .ref (ad 900 0)]) C L hh (c_X7_told hl0 hD0 x1 σ e1) LM_L_53 IM_X7_told SL_X7_told IN_7 CD_X7_told HD_X7_told ⟨rfl, rfl, Nat.le_of_ble_eq_true rfl, Nat.le_of_ble_eq_true rfl⟩ (rv_7 C hh) rfl hl.1 rfl (Nat.le_of_ble_eq_true rfl) dL_told_4 ⟨Nat.le_of_ble_eq_true rfl, Nat.le_of_ble_eq_true rfl⟩) (fun ce q9 H locs n0 hh g1 g2 g3 => ?_) (fun H locs n0 hh => ?_)
  · rw [if_neg n0] at h
    by_cases n1 : r1.1 = 4
    · rw [if_pos n1] at h
      rw [n1] at g3
      refine vx_catch (name := "java/lang/IndexOutOfBoundsException") (E := "java/lang/IndexOutOfBoundsException") hown [] ⟨0, 9, 12, 38⟩ [⟨0, 9, 15, 15⟩] L.2.1 (fun z hz => absurd hz List.not_mem_nil) (by decide) (by decide) (hts _ lk_38) (va_Nw.use rfl (L.2.2.1.1 _ (List.mem_of_getElem? (i := 3) rfl))) g1 g2 (by exact g3) ?_
      refine lv_astore_n (lv' := [(3, .ref q9), (0, .ref (ad 799 0)), (1, .int x1), (2, .ref (ad 900 0))]) hx hb dL_told_12 rfl hl (by decide) rfl (fun ls hl => ?_)
      refine lv_iconst (v := (1 : Int32)) hx hb dL_told_13 (by decide) ?_
      exact w_ret C hh h dL_told_14
    · rw [if_neg n1] at h
      by_cases n2 : r1.1 = 2
      · rw [if_pos n2] at h
        rw [n2] at g3
        refine vx_catch (name := "java/lang/IllegalArgumentException") (E := "java/lang/IllegalArgumentException") hown [⟨0, 9, 12, 38⟩] ⟨0, 9, 15, 15⟩ [] L.2.1 (fun z hz => by rcases List.mem_singleton.mp hz with rfl; exact Or.inr ⟨by decide, "java/lang/IndexOutOfBoundsException", hts _ lk_38, L.2.2.1.2 ("java/lang/IllegalArgumentException", "java/lang/IndexOutOfBoundsException") (by decide +kernel)⟩) (by decide) (by decide) (hts _ lk_15) (va_Nw.use rfl (L.2.2.1.1 _ (List.mem_of_getElem? (i := 1) rfl))) g1 g2 (by exact g3) ?_
        refine lv_astore_n (lv' := [(3, .ref q9), (0, .ref (ad 799 0)), (1, .int x1), (2, .ref (ad 900 0))]) hx hb dL_told_15 rfl hl (by decide) rfl (fun ls hl => ?_)
        refine lv_iconst (v := (2 : Int32)) hx hb dL_told_16 (by decide) ?_
        exact w_ret C hh h dL_told_17
      · rw [if_neg n2] at h
        cases h
  · rw [if_pos n0] at h
    refine lv_i2l (v := r1.2.1.toInt64) hx hb dL_told_7 rfl ?_
    refine s_out C hh (by decide) dL_told_8 (fun H locs hh => ?_)
    refine lv_goto (tgt := 18) hx hb dL_told_9 (by decide) ?_
    refine lv_iconst (v := (0 : Int32)) hx hb dL_told_18 (by decide) ?_
    exact w_ret C hh h dL_told_19
abbrev rm_L_inject : Room := { frames := 7, cells := 1, slots := 6, locals := 154 }
theorem CD_L_inject : Cond.codeWith yL_inject cL_inject 3 (some .int) [(0, 5, 8, 15)] ∈ Gw := gwm 790 (by decide +kernel) (by decide +kernel)
theorem ST_L_inject : Cond.static yL_inject ∈ Gw := gwm 789 (by decide +kernel) (by decide +kernel)
theorem HD_L_inject : yL_inject.cls ≠ "java/lang/invoke/MethodHandle" ∧ yL_inject.cls ≠ "java/lang/invoke/VarHandle" ∧ (parseMethodDescriptor yL_inject.desc).map (fun d => d.parameters.length) = some 2 := by decide +kernel
def f_L_inject (x1 : Int32) (σ : Mem) (o : Nat → Int64) : Option (Int32 × Mem × (Nat → Int64)) := bt (f_X7_inject x1 σ) (fun r => if r.1 = 0 then some ((0 : Int32), r.2.2, o) else if r.1 = 2 then some ((1 : Int32), r.2.2, o) else none)
set_option maxHeartbeats 4000000 in
set_option maxRecDepth 100000 in
theorem c_L_inject {l : Launch} {D : va_G} {cA : Nat → ClassId} {ad : Nat → Nat → Nat} {A : Nat → Prop} {o : Nat → Int64} (hl0 : l.stackTraces = false) (hD0 : ∀ σ, va_D A (wW cA ad σ o)) (x1 : Int32) (σ : Mem) {r : Int32 × Mem × (Nat → Int64)} (h : f_L_inject x1 σ o = some r) : Met l yL_inject (wsC yL_inject cL_inject 3 (some .int) [(0, 5, 8, 15)]) rm_L_inject (va_Pc [.ref (ad 799 0), .int x1] (IX D cA ad A o σ)) (QL D cA ad A r) 1 6 A := by
  refine metC (by decide) (Nat.le_of_ble_eq_true rfl) hD0 hl0 ?_
  intro p e s m args below meth c C L ls hh hl
  have C : Cx p s m args meth c cL_inject 3 RL (some .int) D cA ad A o := C
  have hl : lv_has ls 3 [(0, .ref (ad 799 0)), (1, .int x1)] := hl
  obtain ⟨⟨hx, hb, hml, hown, hts⟩, hK, hN, hD, hr, hlocks⟩ := id C
  unfold f_L_inject at h
  obtain ⟨r1, e1, h⟩ := bt_e h
  refine lv_aload_n hx hb dL_inject_0 rfl (lv_at hl 0 rfl) ?_
  refine lv_iload_n hx hb dL_inject_1 rfl (lv_at hl 1 rfl) ?_
  refine x_void hh (xrun (rest := []) C L hh (c_X7_inject hl0 hD0 x1 σ e1) LM_L_56 IM_X7_inject SL_X7_inject IN_7 CD_X7_inject HD_X7_inject ⟨rfl, rfl, Nat.le_of_ble_eq_true rfl, Nat.le_of_ble_eq_true rfl⟩ (rv_7 C hh) rfl hl.1 rfl (Nat.le_of_ble_eq_true rfl) dL_inject_2 ⟨Nat.le_of_ble_eq_true rfl, Nat.le_of_ble_eq_true rfl⟩) (fun ce q9 H locs n0 hh g1 g2 g3 => ?_) (fun H locs n0 hh => ?_)
  · rw [if_neg n0] at h
    by_cases n1 : r1.1 = 2
    · rw [if_pos n1] at h
      rw [n1] at g3
      refine vx_catch (name := "java/lang/IllegalArgumentException") (E := "java/lang/IllegalArgumentException") hown [] ⟨0, 5, 8, 15⟩ [] L.2.1 (fun z hz => absurd hz List.not_mem_nil) (by decide) (by decide) (hts _ lk_15) (va_Nw.use rfl (L.2.2.1.1 _ (List.mem_of_getElem? (i := 1) rfl))) g1 g2 (by exact g3) ?_
      refine lv_astore_n (lv' := [(2, .ref q9), (0, .ref (ad 799 0)), (1, .int x1)]) hx hb dL_inject_8 rfl hl (by decide) rfl (fun ls hl => ?_)
      refine lv_iconst (v := (1 : Int32)) hx hb dL_inject_9 (by decide) ?_
      exact w_ret C hh h dL_inject_10
    · rw [if_neg n1] at h
      cases h
  · rw [if_pos n0] at h
    refine lv_goto (tgt := 11) hx hb dL_inject_5 (by decide) ?_
    refine lv_iconst (v := (0 : Int32)) hx hb dL_inject_11 (by decide) ?_
    exact w_ret C hh h dL_inject_12
abbrev rm_L_client : Room := { frames := 7, cells := 1, slots := 6, locals := 113 }
theorem CD_L_client : Cond.codeWith yL_client cL_client 5 (some .int) [(0, 10, 13, 13), (0, 10, 17, 38)] ∈ Gw := gwm 800 (by decide +kernel) (by decide +kernel)
theorem ST_L_client : Cond.static yL_client ∈ Gw := gwm 799 (by decide +kernel) (by decide +kernel)
theorem HD_L_client : yL_client.cls ≠ "java/lang/invoke/MethodHandle" ∧ yL_client.cls ≠ "java/lang/invoke/VarHandle" ∧ (parseMethodDescriptor yL_client.desc).map (fun d => d.parameters.length) = some 4 := by decide +kernel
def f_L_client (x1 : Int32) (x2 : Int32) (σ : Mem) (o : Nat → Int64) : Option (Int32 × Mem × (Nat → Int64)) := bt (f_X7_client x1 x2 σ) (fun r => if r.1 = 0 then some ((0 : Int32), r.2.2, vp_updL o (0 : Int32).toNatClampNeg r.2.1.toInt64) else if r.1 = 1 then some ((1 : Int32), r.2.2, o) else if r.1 = 4 then some ((2 : Int32), r.2.2, o) else none)
set_option maxHeartbeats 4000000 in
set_option maxRecDepth 100000 in
theorem c_L_client {l : Launch} {D : va_G} {cA : Nat → ClassId} {ad : Nat → Nat → Nat} {A : Nat → Prop} {o : Nat → Int64} (hl0 : l.stackTraces = false) (hD0 : ∀ σ, va_D A (wW cA ad σ o)) (x1 : Int32) (x2 : Int32) (σ : Mem) {r : Int32 × Mem × (Nat → Int64)} (h : f_L_client x1 x2 σ o = some r) : Met l yL_client (wsC yL_client cL_client 5 (some .int) [(0, 10, 13, 13), (0, 10, 17, 38)]) rm_L_client (va_Pc [.ref (ad 799 0), .int x1, .int x2, .ref (ad 900 0)] (IX D cA ad A o σ)) (QL D cA ad A r) 1 6 A := by
  refine metC (by decide) (Nat.le_of_ble_eq_true rfl) hD0 hl0 ?_
  intro p e s m args below meth c C L ls hh hl
  have C : Cx p s m args meth c cL_client 5 RL (some .int) D cA ad A o := C
  have hl : lv_has ls 5 [(0, .ref (ad 799 0)), (1, .int x1), (2, .int x2), (3, .ref (ad 900 0))] := hl
  obtain ⟨⟨hx, hb, hml, hown, hts⟩, hK, hN, hD, hr, hlocks⟩ := id C
  unfold f_L_client at h
  obtain ⟨r1, e1, h⟩ := bt_e h
  refine lv_aload_n hx hb dL_client_0 rfl (lv_at hl 3 rfl) ?_
  refine lv_iconst (v := (0 : Int32)) hx hb dL_client_1 (by decide) ?_
  refine lv_aload_n hx hb dL_client_2 rfl (lv_at hl 0 rfl) ?_
  refine lv_iload_n hx hb dL_client_3 rfl (lv_at hl 1 rfl) ?_
  refine lv_iload_n hx hb dL_client_4 rfl (lv_at hl 2 rfl) ?_
  refine x_int hh (xrun (rest := [.int (0 : Int32), .ref (ad 900 0)]) C L hh (c_X7_client hl0 hD0 x1 x2 σ e1) LM_L_59 IM_X7_client SL_X7_client IN_7 CD_X7_client HD_X7_client ⟨rfl, rfl, Nat.le_of_ble_eq_true rfl, Nat.le_of_ble_eq_true rfl⟩ (rv_7 C hh) rfl hl.1 rfl (Nat.le_of_ble_eq_true rfl) dL_client_5 ⟨Nat.le_of_ble_eq_true rfl, Nat.le_of_ble_eq_true rfl⟩) (fun ce q9 H locs n0 hh g1 g2 g3 => ?_) (fun H locs n0 hh => ?_)
  · rw [if_neg n0] at h
    by_cases n1 : r1.1 = 1
    · rw [if_pos n1] at h
      rw [n1] at g3
      refine vx_catch (name := "java/util/NoSuchElementException") (E := "java/util/NoSuchElementException") hown [] ⟨0, 10, 13, 13⟩ [⟨0, 10, 17, 38⟩] L.2.1 (fun z hz => absurd hz List.not_mem_nil) (by decide) (by decide) (hts _ lk_13) (va_Nw.use rfl (L.2.2.1.1 _ (List.mem_of_getElem? (i := 0) rfl))) g1 g2 (by exact g3) ?_
      refine lv_astore (lv' := [(4, .ref q9), (0, .ref (ad 799 0)), (1, .int x1), (2, .int x2), (3, .ref (ad 900 0))]) hx hb dL_client_13 hl (by decide) rfl (fun ls hl => ?_)
      refine lv_iconst (v := (1 : Int32)) hx hb dL_client_15 (by decide) ?_
      exact w_ret C hh h dL_client_16
    · rw [if_neg n1] at h
      by_cases n2 : r1.1 = 4
      · rw [if_pos n2] at h
        rw [n2] at g3
        refine vx_catch (name := "java/lang/IndexOutOfBoundsException") (E := "java/lang/IndexOutOfBoundsException") hown [⟨0, 10, 13, 13⟩] ⟨0, 10, 17, 38⟩ [] L.2.1 (fun z hz => by rcases List.mem_singleton.mp hz with rfl; exact Or.inr ⟨by decide, "java/util/NoSuchElementException", hts _ lk_13, L.2.2.1.2 ("java/lang/IndexOutOfBoundsException", "java/util/NoSuchElementException") (by decide +kernel)⟩) (by decide) (by decide) (hts _ lk_38) (va_Nw.use rfl (L.2.2.1.1 _ (List.mem_of_getElem? (i := 3) rfl))) g1 g2 (by exact g3) ?_
        refine lv_astore (lv' := [(4, .ref q9), (0, .ref (ad 799 0)), (1, .int x1), (2, .int x2), (3, .ref (ad 900 0))]) hx hb dL_client_17 hl (by decide) rfl (fun ls hl => ?_)
        refine lv_iconst (v := (2 : Int32)) hx hb dL_client_19 (by decide) ?_
        exact w_ret C hh h dL_client_20
      · rw [if_neg n2] at h
        cases h
  · rw [if_pos n0] at h
    refine lv_i2l (v := r1.2.1.toInt64) hx hb dL_client_8 rfl ?_
    refine s_out C hh (by decide) dL_client_9 (fun H locs hh => ?_)
    refine lv_goto (tgt := 21) hx hb dL_client_10 (by decide) ?_
    refine lv_iconst (v := (0 : Int32)) hx hb dL_client_21 (by decide) ?_
    exact w_ret C hh h dL_client_22
abbrev rm_L_record : Room := { frames := 7, cells := 1, slots := 6, locals := 112 }
theorem CD_L_record : Cond.codeWith yL_record cL_record 5 (some .int) [(0, 10, 13, 38)] ∈ Gw := gwm 808 (by decide +kernel) (by decide +kernel)
theorem ST_L_record : Cond.static yL_record ∈ Gw := gwm 807 (by decide +kernel) (by decide +kernel)
theorem HD_L_record : yL_record.cls ≠ "java/lang/invoke/MethodHandle" ∧ yL_record.cls ≠ "java/lang/invoke/VarHandle" ∧ (parseMethodDescriptor yL_record.desc).map (fun d => d.parameters.length) = some 4 := by decide +kernel
def f_L_record (x1 : Int32) (x2 : Int32) (σ : Mem) (o : Nat → Int64) : Option (Int32 × Mem × (Nat → Int64)) := bt (f_X7_record x1 x2 σ) (fun r => if r.1 = 0 then some ((0 : Int32), r.2.2, vp_updL o (0 : Int32).toNatClampNeg r.2.1.toInt64) else if r.1 = 4 then some ((1 : Int32), r.2.2, o) else none)
set_option maxHeartbeats 4000000 in
set_option maxRecDepth 100000 in
theorem c_L_record {l : Launch} {D : va_G} {cA : Nat → ClassId} {ad : Nat → Nat → Nat} {A : Nat → Prop} {o : Nat → Int64} (hl0 : l.stackTraces = false) (hD0 : ∀ σ, va_D A (wW cA ad σ o)) (x1 : Int32) (x2 : Int32) (σ : Mem) {r : Int32 × Mem × (Nat → Int64)} (h : f_L_record x1 x2 σ o = some r) : Met l yL_record (wsC yL_record cL_record 5 (some .int) [(0, 10, 13, 38)]) rm_L_record (va_Pc [.ref (ad 799 0), .int x1, .int x2, .ref (ad 900 0)] (IX D cA ad A o σ)) (QL D cA ad A r) 1 6 A := by
  refine metC (by decide) (Nat.le_of_ble_eq_true rfl) hD0 hl0 ?_
  intro p e s m args below meth c C L ls hh hl
  have C : Cx p s m args meth c cL_record 5 RL (some .int) D cA ad A o := C
  have hl : lv_has ls 5 [(0, .ref (ad 799 0)), (1, .int x1), (2, .int x2), (3, .ref (ad 900 0))] := hl
  obtain ⟨⟨hx, hb, hml, hown, hts⟩, hK, hN, hD, hr, hlocks⟩ := id C
  unfold f_L_record at h
  obtain ⟨r1, e1, h⟩ := bt_e h
  refine lv_aload_n hx hb dL_record_0 rfl (lv_at hl 3 rfl) ?_
  refine lv_iconst (v := (0 : Int32)) hx hb dL_record_1 (by decide) ?_
  refine lv_aload_n hx hb dL_record_2 rfl (lv_at hl 0 rfl) ?_
  refine lv_iload_n hx hb dL_record_3 rfl (lv_at hl 1 rfl) ?_
  refine lv_iload_n hx hb dL_record_4 rfl (lv_at hl 2 rfl) ?_
  refine x_int hh (xrun (rest := [.int (0 : Int32), .ref (ad 900 0)]) C L hh (c_X7_record hl0 hD0 x1 x2 σ e1) LM_L_62 IM_X7_record SL_X7_record IN_7 CD_X7_record HD_X7_record ⟨rfl, rfl, Nat.le_of_ble_eq_true rfl, Nat.le_of_ble_eq_true rfl⟩ (rv_7 C hh) rfl hl.1 rfl (Nat.le_of_ble_eq_true rfl) dL_record_5 ⟨Nat.le_of_ble_eq_true rfl, Nat.le_of_ble_eq_true rfl⟩) (fun ce q9 H locs n0 hh g1 g2 g3 => ?_) (fun H locs n0 hh => ?_)
  · rw [if_neg n0] at h
    by_cases n1 : r1.1 = 4
    · rw [if_pos n1] at h
      rw [n1] at g3
      refine vx_catch (name := "java/lang/IndexOutOfBoundsException") (E := "java/lang/IndexOutOfBoundsException") hown [] ⟨0, 10, 13, 38⟩ [] L.2.1 (fun z hz => absurd hz List.not_mem_nil) (by decide) (by decide) (hts _ lk_38) (va_Nw.use rfl (L.2.2.1.1 _ (List.mem_of_getElem? (i := 3) rfl))) g1 g2 (by exact g3) ?_
      refine lv_astore (lv' := [(4, .ref q9), (0, .ref (ad 799 0)), (1, .int x1), (2, .int x2), (3, .ref (ad 900 0))]) hx hb dL_record_13 hl (by decide) rfl (fun ls hl => ?_)
      refine lv_iconst (v := (1 : Int32)) hx hb dL_record_15 (by decide) ?_
      exact w_ret C hh h dL_record_16
    · rw [if_neg n1] at h
      cases h
  · rw [if_pos n0] at h
    refine lv_i2l (v := r1.2.1.toInt64) hx hb dL_record_8 rfl ?_
    refine s_out C hh (by decide) dL_record_9 (fun H locs hh => ?_)
    refine lv_goto (tgt := 17) hx hb dL_record_10 (by decide) ?_
    refine lv_iconst (v := (0 : Int32)) hx hb dL_record_17 (by decide) ?_
    exact w_ret C hh h dL_record_18
abbrev rm_L_count : Room := { frames := 7, cells := 1, slots := 6, locals := 111 }
theorem CD_L_count : Cond.codeWith yL_count cL_count 4 (some .int) [(0, 9, 12, 38)] ∈ Gw := gwm 815 (by decide +kernel) (by decide +kernel)
theorem ST_L_count : Cond.static yL_count ∈ Gw := gwm 814 (by decide +kernel) (by decide +kernel)
theorem HD_L_count : yL_count.cls ≠ "java/lang/invoke/MethodHandle" ∧ yL_count.cls ≠ "java/lang/invoke/VarHandle" ∧ (parseMethodDescriptor yL_count.desc).map (fun d => d.parameters.length) = some 3 := by decide +kernel
def f_L_count (x1 : Int32) (σ : Mem) (o : Nat → Int64) : Option (Int32 × Mem × (Nat → Int64)) := bt (f_X7_count x1 σ) (fun r => if r.1 = 0 then some ((0 : Int32), r.2.2, vp_updL o (0 : Int32).toNatClampNeg r.2.1.toInt64) else if r.1 = 4 then some ((1 : Int32), r.2.2, o) else none)
set_option maxHeartbeats 4000000 in
set_option maxRecDepth 100000 in
theorem c_L_count {l : Launch} {D : va_G} {cA : Nat → ClassId} {ad : Nat → Nat → Nat} {A : Nat → Prop} {o : Nat → Int64} (hl0 : l.stackTraces = false) (hD0 : ∀ σ, va_D A (wW cA ad σ o)) (x1 : Int32) (σ : Mem) {r : Int32 × Mem × (Nat → Int64)} (h : f_L_count x1 σ o = some r) : Met l yL_count (wsC yL_count cL_count 4 (some .int) [(0, 9, 12, 38)]) rm_L_count (va_Pc [.ref (ad 799 0), .int x1, .ref (ad 900 0)] (IX D cA ad A o σ)) (QL D cA ad A r) 1 6 A := by
  refine metC (by decide) (Nat.le_of_ble_eq_true rfl) hD0 hl0 ?_
  intro p e s m args below meth c C L ls hh hl
  have C : Cx p s m args meth c cL_count 4 RL (some .int) D cA ad A o := C
  have hl : lv_has ls 4 [(0, .ref (ad 799 0)), (1, .int x1), (2, .ref (ad 900 0))] := hl
  obtain ⟨⟨hx, hb, hml, hown, hts⟩, hK, hN, hD, hr, hlocks⟩ := id C
  unfold f_L_count at h
  obtain ⟨r1, e1, h⟩ := bt_e h
  refine lv_aload_n hx hb dL_count_0 rfl (lv_at hl 2 rfl) ?_
  refine lv_iconst (v := (0 : Int32)) hx hb dL_count_1 (by decide) ?_
  refine lv_aload_n hx hb dL_count_2 rfl (lv_at hl 0 rfl) ?_
  refine lv_iload_n hx hb dL_count_3 rfl (lv_at hl 1 rfl) ?_
  refine x_int hh (xrun (rest := [.int (0 : Int32), .ref (ad 900 0)]) C L hh (c_X7_count hl0 hD0 x1 σ e1) LM_L_65 IM_X7_count SL_X7_count IN_7 CD_X7_count HD_X7_count ⟨rfl, rfl, Nat.le_of_ble_eq_true rfl, Nat.le_of_ble_eq_true rfl⟩ (rv_7 C hh) rfl hl.1 rfl (Nat.le_of_ble_eq_true rfl) dL_count_4 ⟨Nat.le_of_ble_eq_true rfl, Nat.le_of_ble_eq_true rfl⟩) (fun ce q9 H locs n0 hh g1 g2 g3 => ?_) (fun H locs n0 hh => ?_)
  · rw [if_neg n0] at h
    by_cases n1 : r1.1 = 4
    · rw [if_pos n1] at h
      rw [n1] at g3
      refine vx_catch (name := "java/lang/IndexOutOfBoundsException") (E := "java/lang/IndexOutOfBoundsException") hown [] ⟨0, 9, 12, 38⟩ [] L.2.1 (fun z hz => absurd hz List.not_mem_nil) (by decide) (by decide) (hts _ lk_38) (va_Nw.use rfl (L.2.2.1.1 _ (List.mem_of_getElem? (i := 3) rfl))) g1 g2 (by exact g3) ?_
      refine lv_astore_n (lv' := [(3, .ref q9), (0, .ref (ad 799 0)), (1, .int x1), (2, .ref (ad 900 0))]) hx hb dL_count_12 rfl hl (by decide) rfl (fun ls hl => ?_)
      refine lv_iconst (v := (1 : Int32)) hx hb dL_count_13 (by decide) ?_
      exact w_ret C hh h dL_count_14
    · rw [if_neg n1] at h
      cases h
  · rw [if_pos n0] at h
    refine lv_i2l (v := r1.2.1.toInt64) hx hb dL_count_7 rfl ?_
    refine s_out C hh (by decide) dL_count_8 (fun H locs hh => ?_)
    refine lv_goto (tgt := 15) hx hb dL_count_9 (by decide) ?_
    refine lv_iconst (v := (0 : Int32)) hx hb dL_count_15 (by decide) ?_
    exact w_ret C hh h dL_count_16
