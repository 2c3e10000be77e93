def nwc : List Cond := [.methodLinkNest RX5 24 yX3_init "LeaseNet", .methodLinkNest RX3 11 yX0_init "LeaseNet", .methodLinkNest RX6 34 yX4_init "LeaseNet", .methodLinkNest RX7 35 yX0_init "LeaseNet", .methodLinkNest RX7 45 yX2_init "LeaseNet"]
theorem LI_5_24 : Cond.methodLinkNest RX5 24 yX3_init "LeaseNet" ∈ nwc := List.mem_of_getElem? (i := 0) rfl
theorem LI_3_11 : Cond.methodLinkNest RX3 11 yX0_init "LeaseNet" ∈ nwc := List.mem_of_getElem? (i := 1) rfl
theorem LI_6_34 : Cond.methodLinkNest RX6 34 yX4_init "LeaseNet" ∈ nwc := List.mem_of_getElem? (i := 2) rfl
theorem LI_7_35 : Cond.methodLinkNest RX7 35 yX0_init "LeaseNet" ∈ nwc := List.mem_of_getElem? (i := 3) rfl
theorem LI_7_45 : Cond.methodLinkNest RX7 45 yX2_init "LeaseNet" ∈ nwc := List.mem_of_getElem? (i := 4) rfl
def NC (U : State) : Prop := (∀ w ∈ nwc, va_Nw w U) ∧ va_AO "LeaseNet$Client" U ∧ va_AO "LeaseNet$Packet" U ∧ va_AO "LeaseNet$Pool" U
theorem NC.moved {s U : State} (h : s.WarmedH U.vm) (hN : NC s) : NC U := by
  refine ⟨fun w hw => ?_, hN.2.1.moved h.alike, hN.2.2.1.moved h.alike, hN.2.2.2.moved h.alike⟩
  have h0 := hN.1 w hw
  simp only [nwc, List.mem_cons, List.not_mem_nil, or_false] at hw
  rcases hw with rfl | rfl | rfl | rfl | rfl <;> exact va_Nw.warmM h h0
theorem NC.same {s U : State} (h : s.vm = U.vm) (ha : s.vm.Alike U.vm) (hN : NC s) : NC U := by
  refine ⟨fun w hw => ?_, hN.2.1.moved ha, hN.2.2.1.moved ha, hN.2.2.2.moved ha⟩
  have h0 := hN.1 w hw
  simp only [nwc, List.mem_cons, List.not_mem_nil, or_false] at hw
  rcases hw with rfl | rfl | rfl | rfl | rfl <;> exact va_Nw.same rfl h h0
def bw (B n : Nat) (F : Nat → va_E) : va_W := (List.range n).map (fun k => (B + k, F k))
theorem bw_get {B n : Nat} {F : Nat → va_E} {k : Nat} (hk : k < n) : (bw B n F)[k]? = some (B + k, F k) := by simp [bw, hk]
theorem bw_at {B n : Nat} {F : Nat → va_E} {k : Nat} {e : va_E} (hk : k < n) (he : F k = e) : (bw B n F)[k]? = some (B + k, e) := by rw [bw_get hk, he]
theorem bw_set {B n : Nat} {F : Nat → va_E} {k : Nat} {e : va_E} : (bw B n F).set k (B + k, e) = bw B n (va_up F k e) := by
  apply List.ext_getElem?
  intro i
  rw [List.getElem?_set]
  by_cases e1 : k = i
  · subst e1
    by_cases hk : k < n
    · simp [bw, hk, va_up]
    · simp [bw, hk]
  · rw [if_neg e1]
    by_cases hi : i < n
    · simp [bw, hi, va_up, Ne.symm e1]
    · simp [bw, hi]
theorem bw_push {B n : Nat} {F : Nat → va_E} {e : va_E} : bw B n F ++ [(B + n, e)] = bw B (n + 1) (va_up F n e) := by
  have h : (List.range n).map (fun k => (B + k, F k)) = (List.range n).map (fun k => (B + k, va_up F n e k)) := by
    apply List.map_congr_left
    intro k hk
    have := List.mem_range.mp hk
    rw [va_up_ne _ _ (by omega)]
  simp only [bw, List.range_succ, List.map_append, List.map_cons, List.map_nil, va_up_self]
  rw [h]
theorem bw_D {B n : Nat} {F : Nat → va_E} : va_D (fun q => B ≤ q) (bw B n F) := by
  have key : ∀ (i : Nat) (p : Nat × va_E), (bw B n F)[i]? = some p → p.1 = B + i := by
    intro i p h
    by_cases hi : i < n
    · rw [bw_get hi] at h
      cases h; rfl
    · simp [bw, hi] at h
  refine ⟨fun i j p q h1 h2 e => ?_, fun k q h => ?_⟩
  · have := key i p h1; have := key j q h2; omega
  · have := key k q h
    show B ≤ q.1
    omega
def IB (D : va_G) (cA : Nat → ClassId) (B n : Nat) (F : Nat → va_E) (U : State) : Prop := va_P D vwCl (bw B n F) U.heap ∧ va_K D vwCl (tyW cA) U ∧ NC U ∧ U.heap.size = B + n
def HB (D : va_G) (B : Nat) (s : State) (n : Nat) (F : Nat → va_E) (H : Heap) (locs : List Loc) : Prop := va_P D vwCl (bw B n F) H ∧ va_S (fun q => B ≤ q) s.heap H locs ∧ H.size = B + n
def Cb (p : Program) (s : State) (m : MethodId) (args : Array Value) (meth : Method) (c : Code) (cc : ByteArray) (nL : Nat) (own : String) (D : va_G) (cA : Nat → ClassId) (B : Nat) : Prop :=
  CallFix p m c cc nL s args Gw own ∧ va_K D vwCl (tyW cA) s ∧ NC s ∧ B ≤ s.heap.size ∧ meth.sig.returnType = none ∧ meth.locks = false ∧ meth.name = "<init>"
def QB (D : va_G) (cA : Nat → ClassId) (B n : Nat) (P : (Nat → va_E) → Prop) : Array Value → State → Outcome → State → Prop := va_Qv (fun (F : Nat → va_E) => P F) (fun F => IB D cA B n F) (fun q => B ≤ q)
abbrev ari (cA : Nat → ClassId) (n : Nat) : va_E := .inl (cA 0, n, .inl (fun _ => 0))
abbrev arz (cA : Nat → ClassId) (n : Nat) : va_E := .inl (cA 1, n, .inl (fun _ => 0))
abbrev arj (cA : Nat → ClassId) (n : Nat) : va_E := .inl (cA 5, n, .inr (.inl (fun _ => 0)))
abbrev arq (c : ClassId) (n : Nat) (f : Nat → Option Nat) : va_E := .inl (c, n, .inr (.inr (.inr (.inr f))))
theorem IB_blind {D : va_G} {cA : Nat → ClassId} {B n : Nat} {F : Nat → va_E} {av : List Value} : FrameBlind (va_Pc av (IB D cA B n F)) := fun a U g mk q => by
  obtain ⟨q0, q1, q2, q3, q4⟩ := q
  exact ⟨q0, q1, va_K.moved (u := U) (U := U.calling g mk a) (Vm.Alike.refl U.vm) q2, NC.same (s := U) rfl (Vm.Alike.refl U.vm) q3, q4⟩
section BW
variable {p : Program} {l : Launch} {e : Env} {R : Room} {s : State} {m : MethodId} {args : Array Value} {below : List Frame} {meth : Method} {c : Code} {H : Heap} {locs : List Loc} {cells slots : Nat} {Q : State → Prop} {cc : ByteArray} {nL : Nat} {own : String} {D : va_G} {cA : Nat → ClassId} {B n : Nat} {F : Nat → va_E} {pc : Nat} {ls : Array Slot} {rest : List Value}
theorem b_push {x : va_E} {H1 : Heap} (hh : HB D B s n F H locs) (hx : va_at D vwCl (B + n, x) H1) (z : H1.size = H.size + 1) (oq : ∀ q : Nat, q < H.size → H1[q]? = H[q]?) : HB D B s (n + 1) (va_up F n x) H1 locs := by
  obtain ⟨hP, hS, hz⟩ := hh
  refine ⟨?_, ⟨Nat.le_trans hS.1 (by omega), fun q h1 h2 => (oq q (Nat.lt_of_lt_of_le h1 hS.1)).trans (hS.2.1 q h1 h2), hS.2.2⟩, by omega⟩
  rw [← bw_push]
  refine (hP.kept (fun k q hk => oq q.1 ((hP k q hk).lt))).app (fun k q hk => ?_)
  have hk0 : k < 1 := (List.getElem?_eq_some_iff.mp hk).1
  rw [show k = 0 by omega] at hk
  cases hk
  exact hx
theorem b_new {Cn : String} {T : u_T} {N ci idx : Nat} (ty : Nat → FieldType) {fs : List Value} (hx : p.tables.exec = Jvm.exec) (hb : c.code = cc) (hts : ∀ w ∈ Gw, w.before args s = true) (hown : s.vm.findClass own = some m.cls) (hK : va_K D vwCl (tyW cA) s) (hh : HB D B s n F H locs) (hin : ∀ w ∈ u_ws Cn T N, w ∈ Gw) (hty : ∀ k, k < N → parseFieldDescriptor (T k).2.2.1 = some (ty k)) (hc : vwCl[ci]? = some (Cn, T, N)) (hcl : Cond.classLink own idx Cn ∈ Gw) (hinst : Cond.instantiable Cn N ∈ Gw) (hini : Cond.initialized Cn ∈ Gw) (hfs : ∀ j, j < N → defaultValue (ty j) = vp_V fs j) (hcells : cells + 1 ≤ R.cells) (hslots : slots + N ≤ R.slots) (hdg : decode cc pc = .ok (.new idx, 3))
    (kk : ∀ H1 : Heap, HB D B s (n + 1) (va_up F n (.inr (ci, fs))) H1 locs → W p l e R s m args below meth c H1 locs (cells + 1) (slots + N) Q (F0 m (pc + 3) ls (.ref (B + n) :: rest))) : W p l e R s m args below meth c H locs cells slots Q (F0 m pc ls rest) := by
  have hKn := hK.1 ci _ hc
  refine W.newcK hx hb hown (hts _ hcl) (hts _ hinst) (hts _ hini) rfl hdg hcells hslots hKn.2.1 hh.2.2 fun H1 kC hkC e1 z1 o1 => ?_
  exact kk H1 (b_push hh ⟨_, hc, (u_born ty hts hin hKn hkC e1 hty).to hfs⟩ (by rw [z1, hh.2.2]) (fun q hq => o1 q (by rw [← hh.2.2]; exact hq)))
theorem b_newa {atype : ArrayType} {ty : FieldType} {k : Int32} {N t0 : Nat} {a0 : vp_A} (hx : p.tables.exec = Jvm.exec) (hb : c.code = cc) (hts : ∀ w ∈ Gw, w.before args s = true) (hK : va_K D vwCl (tyW cA) s) (hh : HB D B s n F H locs) (harr : Cond.arrayClass (newarray.typeOf atype) ∈ Gw) (hty : newarray.typeOf atype = ty) (hprim : ∀ x, va_RA s x ty → s.vm.findClass ("[" ++ ty.toString) = some x) (ht : (tyW cA)[t0]? = some (cA t0, ty)) (ha : ∀ x : ClassId, vp_cell x a0 = arrV x N (fun _ => defaultValue ty)) (hn : ¬ k < 0) (hN : k.toNatClampNeg = N) (hbytes : N * componentBytes ty ≤ 536870912) (hcells : cells + 1 ≤ R.cells) (hslots : slots + N ≤ R.slots) (hdg : decode cc pc = .ok (.newarray atype, 2))
    (kk : ∀ H1 : Heap, HB D B s (n + 1) (va_up F n (.inl (cA t0, a0))) H1 locs → W p l e R s m args below meth c H1 locs (cells + 1) (slots + N) Q (F0 m (pc + 2) ls (.ref (B + n) :: rest))) : W p l e R s m args below meth c H locs cells slots Q (F0 m pc ls (.int k :: rest)) := by
  subst hty
  refine va_newaK hx hb (hts _ harr) rfl hdg rfl hn hN hbytes hcells hslots hh.2.2 fun H1 c1 e1 z1 o1 hAr hNm => ?_
  have hc1 : c1 = cA t0 := Option.some.inj (hNm.symm.trans (hprim _ (hK.2 t0 _ ht).2))
  refine kk H1 (b_push hh ?_ (by rw [z1, hh.2.2]) (fun q hq => o1 q (by rw [← hh.2.2]; exact hq)))
  show H1[B + n]? = some (vp_cell _ _)
  rw [ha, ← hc1]
  exact e1
theorem b_newq {Cn : String} {k : Int32} {N t0 idx : Nat} (hx : p.tables.exec = Jvm.exec) (hb : c.code = cc) (hts : ∀ w ∈ Gw, w.before args s = true) (hown : s.vm.findClass own = some m.cls) (hK : va_K D vwCl (tyW cA) s) (hh : HB D B s n F H locs) (hcl : Cond.classLink own idx Cn ∈ Gw) (hover : va_AO Cn s) (ht : (tyW cA)[t0]? = some (cA t0, .object Cn)) (hn : ¬ k < 0) (hN : k.toNatClampNeg = N) (hbytes : N * 4 ≤ 536870912) (hcells : cells + 1 ≤ R.cells) (hslots : slots + N ≤ R.slots) (hdg : decode cc pc = .ok (.anewarray idx, 3))
    (kk : ∀ H1 : Heap, HB D B s (n + 1) (va_up F n (arq (cA t0) N (fun _ => none))) H1 locs → W p l e R s m args below meth c H1 locs (cells + 1) (slots + N) Q (F0 m (pc + 3) ls (.ref (B + n) :: rest))) : W p l e R s m args below meth c H locs cells slots Q (F0 m pc ls (.int k :: rest)) := by
  subst hN
  refine W.anew hx hb hown (hts _ hcl) (va_AO.use hover) rfl hdg rfl hn hbytes hcells hslots fun c1 kA comp f1 f2 f3 f4 => ?_
  obtain ⟨kA', comp', g1, g2, g3, g4⟩ := (hK.2 t0 _ ht).2
  have hc1 : c1 = cA t0 := Option.some.inj (f1.symm.trans g4)
  rw [hh.2.2]
  refine kk _ (b_push hh ?_ (by rw [Array.size_push]) (fun q hq => by rw [Array.getElem?_push, if_neg (Nat.ne_of_lt hq)]))
  show _ = some (vp_cell _ _)
  rw [vp_cell_q, ← hh.2.2, Array.getElem?_push_size, hc1, ← arrV_new]
  rfl
theorem b_upd {k : Nat} {x : va_E} {H1 : Heap} {locs1 : List Loc} (hh : HB D B s n F H locs) (h1 : va_P D vwCl ((bw B n F).set k (B + k, x)) H1) (h3 : va_S (fun q => B ≤ q) s.heap H1 locs1) (z : H1.size = H.size) : HB D B s n (va_up F k x) H1 locs1 := ⟨by rw [← bw_set]; exact h1, h3, by rw [z]; exact hh.2.2⟩
end BW
section BV
variable {p : Program} {l : Launch} {e : Env} {R : Room} {s : State} {m : MethodId} {args : Array Value} {below : List Frame} {meth : Method} {c : Code} {H : Heap} {locs : List Loc} {cells slots : Nat} {Q : State → Prop} {cc : ByteArray} {nL : Nat} {own : String} {D : va_G} {cA : Nat → ClassId} {B n : Nat} {F : Nat → va_E} {pc : Nat} {ls : Array Slot} {rest : List Value}
theorem b_get {C : String} {T : u_T} {N ci idx k sl : Nat} {fs : List Value} {v : Value} (hx : p.tables.exec = Jvm.exec) (hb : c.code = cc) (hts : ∀ w ∈ Gw, w.before args s = true) (hown : s.vm.findClass own = some m.cls) (hK : va_K D vwCl (tyW cA) s) (hh : HB D B s n F H locs) (hin : ∀ w ∈ u_ws C T N, w ∈ Gw) (hc : vwCl[ci]? = some (C, T, N)) (hk : k < n) (hF : F k = .inr (ci, fs)) (hsl : sl < N) (hlink : Cond.fieldLink own idx (T sl).1 (T sl).2.1 (T sl).2.2.1 ∈ Gw) (hv : fs[sl]? = some v) (hdg : decode cc pc = .ok (.getfield idx, 3))
    (kk : W p l e R s m args below meth c H locs cells slots Q (F0 m (pc + 3) ls (v :: rest))) : W p l e R s m args below meth c H locs cells slots Q (F0 m pc ls (.ref (B + k) :: rest)) :=
  va_get hx hb hts hin hown hK hh.1 k (bw_at hk hF) hc sl hsl (hts _ hlink) (fun _ h => h) hv hdg kk
theorem b_size {H1 : Heap} {ws : va_W} (hP : va_P D vwCl ws H1) : True := trivial
end BV
section BU
variable {p : Program} {l : Launch} {e : Env} {R : Room} {s : State} {m : MethodId} {args : Array Value} {below : List Frame} {meth : Method} {c : Code} {H : Heap} {locs : List Loc} {cells slots : Nat} {Q : State → Prop} {cc : ByteArray} {nL : Nat} {own : String} {D : va_G} {cA : Nat → ClassId} {B n : Nat} {F : Nat → va_E} {pc : Nat} {ls : Array Slot} {rest : List Value}
theorem b_ret {P : (Nat → va_E) → Prop} (hx : p.tables.exec = Jvm.exec) (hb : c.code = cc) (hK : va_K D vwCl (tyW cA) s) (hN : NC s) (hr : meth.sig.returnType = none) (hlocks : meth.locks = false) (hh : HB D B s n F H locs) (hp : P F) (hdg : decode cc pc = .ok (.return_, 1)) : W p l e R s m args below meth c H locs cells slots (MQ below (QB D cA B n P) args s cells slots (fun q => B ≤ q)) (F0 m pc ls []) :=
  W.vret hx hb hr (fun t ht hW => ⟨⟨F, rfl, hp, by rw [ht]; exact hh.1, va_K.moved hW.alike hK, hN.moved hW, by rw [ht]; exact hh.2.2⟩, hh.2.1.F ht⟩) hh.2.1.2.2 hdg hlocks
theorem metB {y : MethodName} {bytes : ByteArray} {maxL : Nat} {rm : Room} {avs : List Value} {Qc : Array Value → State → Outcome → State → Prop} {mc ms : Nat} (hy : plainName y.cls = true) (hnm : y.name = "<init>") (hn : (lg_sl avs).length ≤ maxL)
    (body : ∀ {p : Program} {e : Env} {s : State} {m : MethodId} {args : Array Value} {below : List Frame} {meth : Method} {c : Code}, Cb p s m args meth c bytes maxL y.cls D cA B → ∀ {ls : Array Slot}, HB D B s n F s.heap [] → lv_has ls maxL (lv_args 0 avs) → W p l e rm s m args below meth c s.heap [] 0 0 (MQ below Qc args s mc ms (fun q => B ≤ q)) (F0 m 0 ls [])) :
    Met l y (wsG y bytes maxL none) rm (va_Pc avs (IB D cA B n F)) Qc mc ms (fun q => B ≤ q) := by
  refine Met.ofW (cc := bytes) (maxL := maxL) (ret := none) hy rfl ?_
  intro p e s m args below meth c s₁ Bd hml hv
  obtain ⟨rfl, hP, hK, hN, hz⟩ := hv
  have hts := atoms_spec (ws := wsG y bytes maxL none) Bd.pre
  have hl := lv_entry avs (n := maxL) hn
  rw [lg_entry_eq]
  exact body ⟨⟨Bd.exec, Bd.bytes, hml, findClass_of_methodNamed Bd.named, fun w hw => hts w (List.mem_cons_of_mem _ hw)⟩, hK, hN, by omega, Bd.returns, Bd.notSynchronized, (name_of_methodNamed Bd.named Bd.method).1.trans hnm⟩ ⟨hP, va_S.rf, hz⟩ hl
theorem c_init {P : (Nat → va_E) → Prop} {n1 mc ms : Nat} {a : Array Value} {st : List Value} (hh : HB D B s n F H locs) (hr : va_Run p l e R s m args below meth c H locs cells slots mc ms (F0 m pc ls st) rest (QB D cA B n1 P a) (fun q => B ≤ q))
    (kk : ∀ (F1 : Nat → va_E) (H1 : Heap) (locs1 : List Loc), P F1 → HB D B s n1 F1 H1 locs1 → W p l e R s m args below meth c H1 locs1 (cells + mc) (slots + ms) Q (F0 m (pc + 3) ls rest)) : W p l e R s m args below meth c H locs cells slots Q (F0 m pc ls st) := by
  refine va_callv hr hh.2.1 (fun q _ h => h) (fun q h => h) (fun u t H1 locs1 ht hvm hw hB hz1 hk1 hS => ?_)
  exact kk u H1 locs1 hw ⟨by rw [← ht]; exact hB.1, hS, by rw [← ht]; exact hB.2.2.2⟩
theorem irun {y : MethodName} {bytes : ByteArray} {maxL nn idx mc ms : Nat} {rm : Room} {k : Nat} {As st : List Value} {Qc : Array Value → State → Outcome → State → Prop} (C : Cb p s m args meth c cc nL own D cA B) (hh : HB D B s n F H locs)
    (hM : Met l y (wsG y bytes maxL none) rm (va_Pc (.ref k :: As) (IB D cA B n F)) Qc mc ms (fun q => B ≤ q)) (hL : Cond.methodLink own idx y ∈ Gw) (hI : Cond.instanceMethod y ∈ Gw) (hIn : Cond.initialized y.cls ∈ Gw) (hCd : Cond.code y bytes maxL none ∈ Gw) (hnm : y.name = "<init>")
    (hd : y.cls ≠ "java/lang/invoke/MethodHandle" ∧ y.cls ≠ "java/lang/invoke/VarHandle" ∧ (parseMethodDescriptor y.desc).map (fun d => d.parameters.length) = some nn)
    (hrm : rm.cells = mc ∧ rm.slots = ms ∧ rm.frames + 1 ≤ R.frames ∧ 8 + (maxL + 11) + rm.locals ≤ R.locals)
    (hn : As.length = nn) (hsz : ls.size = nL) (hst : st = As.reverse ++ .ref k :: rest) (hcat : (rest.map fun v => v.category).sum ≤ 8) (hdg : decode cc pc = .ok (.invokespecial idx, 3)) (hf : cells + mc ≤ R.cells ∧ slots + ms ≤ R.slots) :
    va_Run p l e R s m args below meth c H locs cells slots mc ms (F0 m pc ls st) rest (Qc (Value.ref k :: As).toArray) (fun q => B ≤ q) := by
  obtain ⟨hS, hK, hN, hB, hr, hlocks, hin⟩ := C
  have hT : GoodIn Gw (wsG y bytes maxL none) := by
    intro w hw
    have : w ∈ Gw := by
      rcases List.mem_cons.mp hw with rfl | hw <;> assumption
    exact Gw_good w this
  exact va_runI (g := F0 m pc ls st) hS hM (cwI nn hS.2.2.2.2 hT rfl hrm.1 hrm.2.1 (hS.2.2.2.2 _ hIn) (hS.2.2.2.2 _ hL) (hS.2.2.2.2 _ hI) hnm hd hrm.2.2) ⟨IB_blind, fun U hU hW => ⟨rfl, by rw [hU]; exact hh.1, va_K.moved hW.alike hK, hN.moved hW, by rw [hU]; exact hh.2.2⟩⟩ rfl hn hsz hst (lv_room hcat) hdg hf
theorem inrun {y : MethodName} {bytes : ByteArray} {maxL nn idx mc ms : Nat} {rm : Room} {k : Nat} {host : String} {As st : List Value} {Qc : Array Value → State → Outcome → State → Prop} (C : Cb p s m args meth c cc nL own D cA B) (hh : HB D B s n F H locs)
    (hM : Met l y (wsG y bytes maxL none) rm (va_Pc (.ref k :: As) (IB D cA B n F)) Qc mc ms (fun q => B ≤ q)) (hL : Cond.methodLinkNest own idx y host ∈ nwc) (hI : Cond.instanceMethod y ∈ Gw) (hIn : Cond.initialized y.cls ∈ Gw) (hCd : Cond.code y bytes maxL none ∈ Gw) (hnm : y.name = "<init>")
    (hd : y.cls ≠ "java/lang/invoke/MethodHandle" ∧ y.cls ≠ "java/lang/invoke/VarHandle" ∧ (parseMethodDescriptor y.desc).map (fun d => d.parameters.length) = some nn)
    (hrm : rm.cells = mc ∧ rm.slots = ms ∧ rm.frames + 1 ≤ R.frames ∧ 8 + (maxL + 11) + rm.locals ≤ R.locals)
    (hn : As.length = nn) (hsz : ls.size = nL) (hst : st = As.reverse ++ .ref k :: rest) (hcat : (rest.map fun v => v.category).sum ≤ 8) (hdg : decode cc pc = .ok (.invokespecial idx, 3)) (hf : cells + mc ≤ R.cells ∧ slots + ms ≤ R.slots) :
    va_Run p l e R s m args below meth c H locs cells slots mc ms (F0 m pc ls st) rest (Qc (Value.ref k :: As).toArray) (fun q => B ≤ q) := by
  obtain ⟨hS, hK, hN, hB, hr, hlocks, hin⟩ := C
  have hT : GoodIn Gw (wsG y bytes maxL none) := by
    intro w hw
    have : w ∈ Gw := by
      rcases List.mem_cons.mp hw with rfl | hw <;> assumption
    exact Gw_good w this
  exact va_runIN (g := F0 m pc ls st) hS hM ⟨va_cnB nn hS.2.2.2.2 hT rfl hrm.1 hrm.2.1 (hN.1 _ hL) (hS.2.2.2.2 _ hIn) hd hrm.2.2, hnm, hS.2.2.2.2 _ hI⟩ ⟨IB_blind, fun U hU hW => ⟨rfl, by rw [hU]; exact hh.1, va_K.moved hW.alike hK, hN.moved hW, by rw [hU]; exact hh.2.2⟩⟩ rfl hn hsz hst (lv_room hcat) hdg hf
end BU
