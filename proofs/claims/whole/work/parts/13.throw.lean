def exn (k : Int32) : String := if k = 1 then "java/util/NoSuchElementException" else if k = 2 then "java/lang/IllegalArgumentException" else if k = 3 then "java/lang/IllegalStateException" else if k = 4 then "java/lang/IndexOutOfBoundsException" else ""
def xws : List Cond := [.castable "java/util/NoSuchElementException" "java/util/NoSuchElementException", .castable "java/lang/IllegalArgumentException" "java/lang/IllegalArgumentException", .castable "java/lang/IllegalStateException" "java/lang/IllegalStateException", .castable "java/lang/IndexOutOfBoundsException" "java/lang/IndexOutOfBoundsException", .declares ⟨"java/lang/RuntimeException", "<init>", "()V"⟩, .declares ⟨"java/lang/Exception", "<init>", "()V"⟩, .declares ⟨"java/lang/Throwable", "<init>", "()V"⟩]
def ncs : List (String × String) := [("java/lang/IllegalArgumentException", "java/util/NoSuchElementException"), ("java/lang/IllegalStateException", "java/util/NoSuchElementException"), ("java/lang/IndexOutOfBoundsException", "java/util/NoSuchElementException"), ("java/lang/IllegalArgumentException", "java/lang/IndexOutOfBoundsException")]
def XW (U : State) : Prop := (∀ w ∈ xws, va_Nw w U) ∧ ∀ q ∈ ncs, va_Nc q.1 q.2 U
theorem XW.moved {s U : State} (h : s.WarmedH U.vm) (hN : XW s) : XW U := by
  refine ⟨fun w hw => ?_, fun q hq => (hN.2 q hq).moved h.alike⟩
  have h0 := hN.1 w hw
  simp only [xws, List.mem_cons, List.not_mem_nil, or_false] at hw
  rcases hw with rfl | rfl | rfl | rfl | rfl | rfl | rfl <;> first | exact va_Nw.warmC h h0 | exact va_Nw.warmD h h0
theorem XW.same {s U : State} (h : s.vm = U.vm) (hN : XW s) : XW U := by
  refine ⟨fun w hw => ?_, fun q hq => ?_⟩
  · have h0 := hN.1 w hw
    simp only [xws, List.mem_cons, List.not_mem_nil, or_false] at hw
    rcases hw with rfl | rfl | rfl | rfl | rfl | rfl | rfl <;> exact va_Nw.same rfl h h0
  · obtain ⟨c, t, h1, h2, h3⟩ := hN.2 q hq
    exact ⟨c, t, by rw [← h]; exact h1, by rw [← h]; exact h2, by rw [← h]; exact h3⟩
def ZU (A : Nat → Prop) (U : State) (H : Heap) : Prop := vx_Zq Bundle.tN "UNASSIGNED_STACK" Bundle.steD A U H ∧ vx_Zq Bundle.tN "SUPPRESSED_SENTINEL" Bundle.listD A U H
def IX (D : va_G) (cA : Nat → ClassId) (ad : Nat → Nat → Nat) (A : Nat → Prop) (o : Nat → Int64) (σ : Mem) (U : State) : Prop := IW D cA ad o σ U ∧ XW U ∧ ZU A U U.heap
def Tx (l : Launch) (s : State) (c : Code) (A : Nat → Prop) : Prop := l.stackTraces = false ∧ (∀ x ∈ c.exceptionTable.toList, False) ∧ XW s ∧ ZU A s s.heap
def QTi (D : va_G) (cA : Nat → ClassId) (ad : Nat → Nat → Nat) (o : Nat → Int64) (A : Nat → Prop) (r : Int32 × Int32 × Mem) : Array Value → State → Outcome → State → Prop := va_Qi (fun r' (σ' : Mem) => r = (0, r', σ')) (fun σ' => IW D cA ad o σ') A
def QTv (D : va_G) (cA : Nat → ClassId) (ad : Nat → Nat → Nat) (o : Nat → Int64) (A : Nat → Prop) (r : Int32 × Int32 × Mem) : Array Value → State → Outcome → State → Prop := va_Qv (fun (σ' : Mem) => r = (0, 0, σ')) (fun σ' => IW D cA ad o σ') A
def XT (D : va_G) (cA : Nat → ClassId) (ad : Nat → Nat → Nat) (o : Nat → Int64) (A : Nat → Prop) (r : Int32 × Int32 × Mem) : String → State → State → Prop := vx_X (fun σ' : Mem => ¬ r.1 = 0 ∧ r.2.2 = σ') (fun E σ' t => E = exn r.1 ∧ va_P D vwCl (wW cA ad σ' o) t.heap) A
theorem IX_blind {D : va_G} {cA : Nat → ClassId} {ad : Nat → Nat → Nat} {A : Nat → Prop} {o : Nat → Int64} {σ : Mem} {av : List Value} : FrameBlind (va_Pc av (IX D cA ad A o σ)) := fun a U g mk q => by
  obtain ⟨q0, q1, q2, q3, q4⟩ := q
  exact ⟨q0, (IW_blind (av := av) a U g mk ⟨q0, q1⟩).2, XW.same (s := U) rfl q2, vx_Zq.moved (u := U) (U := U.calling g mk a) (Vm.Alike.refl U.vm) q3, vx_Zq.moved (u := U) (U := U.calling g mk a) (Vm.Alike.refl U.vm) q4⟩
theorem xk_1 : Cond.classLink RX7 64 "java/util/NoSuchElementException" ∈ Gw := gwm 459 (by decide +kernel) (by decide +kernel)
theorem xi_1 : Cond.initialized "java/util/NoSuchElementException" ∈ Gw := gwm 84 (by decide +kernel) (by decide +kernel)
theorem xa_1 : ∀ w ∈ (vx_at0 RX7 66 "java/util/NoSuchElementException" ["java/lang/RuntimeException", "java/lang/Exception"]).filter goodWord, w ∈ Gw := by
  have h : ∀ w ∈ (vx_at0 RX7 66 "java/util/NoSuchElementException" ["java/lang/RuntimeException", "java/lang/Exception"]).filter goodWord, w ∈ lw_tbl := by decide +kernel
  exact fun w hw => List.mem_filter.mpr ⟨h w hw, (List.mem_filter.mp hw).2⟩
theorem xn_1 : ∀ w ∈ (vx_at0 RX7 66 "java/util/NoSuchElementException" ["java/lang/RuntimeException", "java/lang/Exception"]).filter (fun w => !goodWord w), w ∈ xws := by decide +kernel
theorem xg_1 : ∀ w ∈ Cond.classLink RX7 64 "java/util/NoSuchElementException" :: Cond.initialized "java/util/NoSuchElementException" :: vx_at0 RX7 66 "java/util/NoSuchElementException" ["java/lang/RuntimeException", "java/lang/Exception"], vx_ot w = true := by decide +kernel
theorem xk_2 : Cond.classLink RX7 67 "java/lang/IllegalArgumentException" ∈ Gw := gwm 523 (by decide +kernel) (by decide +kernel)
theorem xi_2 : Cond.initialized "java/lang/IllegalArgumentException" ∈ Gw := gwm 85 (by decide +kernel) (by decide +kernel)
theorem xa_2 : ∀ w ∈ (vx_at0 RX7 69 "java/lang/IllegalArgumentException" ["java/lang/RuntimeException", "java/lang/Exception"]).filter goodWord, w ∈ Gw := by
  have h : ∀ w ∈ (vx_at0 RX7 69 "java/lang/IllegalArgumentException" ["java/lang/RuntimeException", "java/lang/Exception"]).filter goodWord, w ∈ lw_tbl := by decide +kernel
  exact fun w hw => List.mem_filter.mpr ⟨h w hw, (List.mem_filter.mp hw).2⟩
theorem xn_2 : ∀ w ∈ (vx_at0 RX7 69 "java/lang/IllegalArgumentException" ["java/lang/RuntimeException", "java/lang/Exception"]).filter (fun w => !goodWord w), w ∈ xws := by decide +kernel
theorem xg_2 : ∀ w ∈ Cond.classLink RX7 67 "java/lang/IllegalArgumentException" :: Cond.initialized "java/lang/IllegalArgumentException" :: vx_at0 RX7 69 "java/lang/IllegalArgumentException" ["java/lang/RuntimeException", "java/lang/Exception"], vx_ot w = true := by decide +kernel
theorem xk_3 : Cond.classLink RX7 86 "java/lang/IllegalStateException" ∈ Gw := gwm 553 (by decide +kernel) (by decide +kernel)
theorem xi_3 : Cond.initialized "java/lang/IllegalStateException" ∈ Gw := gwm 86 (by decide +kernel) (by decide +kernel)
theorem xa_3 : ∀ w ∈ (vx_at0 RX7 88 "java/lang/IllegalStateException" ["java/lang/RuntimeException", "java/lang/Exception"]).filter goodWord, w ∈ Gw := by
  have h : ∀ w ∈ (vx_at0 RX7 88 "java/lang/IllegalStateException" ["java/lang/RuntimeException", "java/lang/Exception"]).filter goodWord, w ∈ lw_tbl := by decide +kernel
  exact fun w hw => List.mem_filter.mpr ⟨h w hw, (List.mem_filter.mp hw).2⟩
theorem xn_3 : ∀ w ∈ (vx_at0 RX7 88 "java/lang/IllegalStateException" ["java/lang/RuntimeException", "java/lang/Exception"]).filter (fun w => !goodWord w), w ∈ xws := by decide +kernel
theorem xg_3 : ∀ w ∈ Cond.classLink RX7 86 "java/lang/IllegalStateException" :: Cond.initialized "java/lang/IllegalStateException" :: vx_at0 RX7 88 "java/lang/IllegalStateException" ["java/lang/RuntimeException", "java/lang/Exception"], vx_ot w = true := by decide +kernel
theorem xk_4 : Cond.classLink RX7 129 "java/lang/IndexOutOfBoundsException" ∈ Gw := gwm 612 (by decide +kernel) (by decide +kernel)
theorem xi_4 : Cond.initialized "java/lang/IndexOutOfBoundsException" ∈ Gw := gwm 88 (by decide +kernel) (by decide +kernel)
theorem xa_4 : ∀ w ∈ (vx_at0 RX7 131 "java/lang/IndexOutOfBoundsException" ["java/lang/RuntimeException", "java/lang/Exception"]).filter goodWord, w ∈ Gw := by
  have h : ∀ w ∈ (vx_at0 RX7 131 "java/lang/IndexOutOfBoundsException" ["java/lang/RuntimeException", "java/lang/Exception"]).filter goodWord, w ∈ lw_tbl := by decide +kernel
  exact fun w hw => List.mem_filter.mpr ⟨h w hw, (List.mem_filter.mp hw).2⟩
theorem xn_4 : ∀ w ∈ (vx_at0 RX7 131 "java/lang/IndexOutOfBoundsException" ["java/lang/RuntimeException", "java/lang/Exception"]).filter (fun w => !goodWord w), w ∈ xws := by decide +kernel
theorem xg_4 : ∀ w ∈ Cond.classLink RX7 129 "java/lang/IndexOutOfBoundsException" :: Cond.initialized "java/lang/IndexOutOfBoundsException" :: vx_at0 RX7 131 "java/lang/IndexOutOfBoundsException" ["java/lang/RuntimeException", "java/lang/Exception"], vx_ot w = true := by decide +kernel
section TW
variable {p : Program} {l : Launch} {e : Env} {R : Room} {s : State} {m : MethodId} {args : Array Value} {below : List Frame} {meth : Method} {c : Code} {H : Heap} {locs : List Loc} {cc : ByteArray} {nL : Nat} {own : String} {rt : Option FieldType} {D : va_G} {cA : Nat → ClassId} {ad : Nat → Nat → Nat} {A : Nat → Prop} {o : Nat → Int64} {σ : Mem} {pc : Nat} {ls : Array Slot} {rest : List Value} {Qc : Array Value → State → Outcome → State → Prop} {XC : String → State → State → Prop} {r : Int32 × Int32 × Mem}
theorem t_int {x : Int32} (C : Cx p s m args meth c cc nL own (some .int) D cA ad A o) (hh : HH D cA ad A o s σ H locs) (h : some ((0 : Int32), x, σ) = some r) (hdg : decode cc pc = .ok (.ireturn, 1)) : W p l e R s m args below meth c H locs 0 0 (vx_MQ below (QTi D cA ad o A r) XC args s 1 6 A) (F0 m pc ls [.int x]) := by
  obtain ⟨⟨hx, hb, hml, hown, hts⟩, hK, hN, hD, hr, hlocks⟩ := C
  refine W.widen (k := 1) (n := 6) (by omega) (by omega) ?_
  exact vx_ret (W.iret hx hb hr (fun t ht hW => ⟨⟨x, σ, rfl, (Option.some.inj h).symm, by rw [ht]; exact hh.1, va_K.moved hW.alike hK, hN.moved hW⟩, hh.2.F ht⟩) hh.2.2.2 hdg hlocks)
theorem t_void (C : Cx p s m args meth c cc nL own none D cA ad A o) (hh : HH D cA ad A o s σ H locs) (h : some ((0 : Int32), (0 : Int32), σ) = some r) (hdg : decode cc pc = .ok (.return_, 1)) : W p l e R s m args below meth c H locs 0 0 (vx_MQ below (QTv D cA ad o A r) XC args s 1 6 A) (F0 m pc ls []) := by
  obtain ⟨⟨hx, hb, hml, hown, hts⟩, hK, hN, hD, hr, hlocks⟩ := C
  refine W.widen (k := 1) (n := 6) (by omega) (by omega) ?_
  exact vx_ret (W.vret hx hb hr (fun t ht hW => ⟨⟨σ, rfl, (Option.some.inj h).symm, by rw [ht]; exact hh.1, va_K.moved hW.alike hK, hN.moved hW⟩, hh.2.F ht⟩) hh.2.2.2 hdg hlocks)
theorem thr_1 (C : Cx p s m args meth c cc nL RX7 rt D cA ad A o) (Tt : Tx l s c A) (hh : HH D cA ad A o s σ H locs) (hsz : ls.size = nL) (h : some ((1 : Int32), (0 : Int32), σ) = some r) (d0 : decode cc pc = .ok (.new 64, 3)) (d3 : decode cc (pc + 3) = .ok (.dup, 1)) (d4 : decode cc (pc + 4) = .ok (.invokespecial 66, 3)) (d7 : decode cc (pc + 7) = .ok (.athrow, 1)) (hR : 6 ≤ R.frames ∧ (rest.map fun v => v.category).sum + 81 ≤ R.locals ∧ 1 ≤ R.cells ∧ 6 ≤ R.slots) : W p l e R s m args below meth c H locs 0 0 (vx_MQ below Qc (XT D cA ad o A r) args s 1 6 A) (F0 m pc ls rest) := by
  obtain ⟨⟨hx, hb, hml, hown, hts⟩, hK, hN, hD, hr, hlocks⟩ := C
  obtain ⟨t1, t2, t3, t4, t5⟩ := Tt
  refine vx_throw0 (names := ["java/lang/RuntimeException", "java/lang/Exception"]) hx hb t1 hown (by decide) (by decide) (hts _ xk_1) (hts _ xi_1) (vx_hat (fun w hw => hts w (xa_1 w hw)) xn_1 (fun w hw => va_Nw.use (by simp only [xws, List.mem_cons, List.not_mem_nil, or_false] at hw; rcases hw with rfl | rfl | rfl | rfl | rfl | rfl | rfl <;> rfl) (t3.1 w hw))) xg_1 t4 t5 hh.2 (hsz.trans hml.symm) d0 d3 d4 d7 (fun x hx' => (t2 x hx').elim) (by show 2 + 3 < _; omega) (by show _ + (13 * (2 + 1) + 42) ≤ _; omega) (by omega) (by omega) hlocks (fun t hvm hz hk => ?_) hh.2.2.2 (Nat.le_refl _) (Nat.le_refl _)
  have hr0 := (Option.some.inj h).symm
  refine ⟨σ, ⟨by rw [hr0]; show ¬ (1 : Int32) = 0; decide, by rw [hr0]⟩, ⟨by rw [hr0]; show _ = exn (1 : Int32); decide, hh.1.kept (fun k q hq => hk q.1 ((hh.1 k q hq).lt))⟩, Nat.le_trans hh.2.1 hz, fun q h1 h2 => ?_⟩
  rw [hk q (Nat.lt_of_lt_of_le h1 hh.2.1)]
  exact hh.2.2.1 q h1 h2
theorem thr_2 (C : Cx p s m args meth c cc nL RX7 rt D cA ad A o) (Tt : Tx l s c A) (hh : HH D cA ad A o s σ H locs) (hsz : ls.size = nL) (h : some ((2 : Int32), (0 : Int32), σ) = some r) (d0 : decode cc pc = .ok (.new 67, 3)) (d3 : decode cc (pc + 3) = .ok (.dup, 1)) (d4 : decode cc (pc + 4) = .ok (.invokespecial 69, 3)) (d7 : decode cc (pc + 7) = .ok (.athrow, 1)) (hR : 6 ≤ R.frames ∧ (rest.map fun v => v.category).sum + 81 ≤ R.locals ∧ 1 ≤ R.cells ∧ 6 ≤ R.slots) : W p l e R s m args below meth c H locs 0 0 (vx_MQ below Qc (XT D cA ad o A r) args s 1 6 A) (F0 m pc ls rest) := by
  obtain ⟨⟨hx, hb, hml, hown, hts⟩, hK, hN, hD, hr, hlocks⟩ := C
  obtain ⟨t1, t2, t3, t4, t5⟩ := Tt
  refine vx_throw0 (names := ["java/lang/RuntimeException", "java/lang/Exception"]) hx hb t1 hown (by decide) (by decide) (hts _ xk_2) (hts _ xi_2) (vx_hat (fun w hw => hts w (xa_2 w hw)) xn_2 (fun w hw => va_Nw.use (by simp only [xws, List.mem_cons, List.not_mem_nil, or_false] at hw; rcases hw with rfl | rfl | rfl | rfl | rfl | rfl | rfl <;> rfl) (t3.1 w hw))) xg_2 t4 t5 hh.2 (hsz.trans hml.symm) d0 d3 d4 d7 (fun x hx' => (t2 x hx').elim) (by show 2 + 3 < _; omega) (by show _ + (13 * (2 + 1) + 42) ≤ _; omega) (by omega) (by omega) hlocks (fun t hvm hz hk => ?_) hh.2.2.2 (Nat.le_refl _) (Nat.le_refl _)
  have hr0 := (Option.some.inj h).symm
  refine ⟨σ, ⟨by rw [hr0]; show ¬ (2 : Int32) = 0; decide, by rw [hr0]⟩, ⟨by rw [hr0]; show _ = exn (2 : Int32); decide, hh.1.kept (fun k q hq => hk q.1 ((hh.1 k q hq).lt))⟩, Nat.le_trans hh.2.1 hz, fun q h1 h2 => ?_⟩
  rw [hk q (Nat.lt_of_lt_of_le h1 hh.2.1)]
  exact hh.2.2.1 q h1 h2
theorem thr_3 (C : Cx p s m args meth c cc nL RX7 rt D cA ad A o) (Tt : Tx l s c A) (hh : HH D cA ad A o s σ H locs) (hsz : ls.size = nL) (h : some ((3 : Int32), (0 : Int32), σ) = some r) (d0 : decode cc pc = .ok (.new 86, 3)) (d3 : decode cc (pc + 3) = .ok (.dup, 1)) (d4 : decode cc (pc + 4) = .ok (.invokespecial 88, 3)) (d7 : decode cc (pc + 7) = .ok (.athrow, 1)) (hR : 6 ≤ R.frames ∧ (rest.map fun v => v.category).sum + 81 ≤ R.locals ∧ 1 ≤ R.cells ∧ 6 ≤ R.slots) : W p l e R s m args below meth c H locs 0 0 (vx_MQ below Qc (XT D cA ad o A r) args s 1 6 A) (F0 m pc ls rest) := by
  obtain ⟨⟨hx, hb, hml, hown, hts⟩, hK, hN, hD, hr, hlocks⟩ := C
  obtain ⟨t1, t2, t3, t4, t5⟩ := Tt
  refine vx_throw0 (names := ["java/lang/RuntimeException", "java/lang/Exception"]) hx hb t1 hown (by decide) (by decide) (hts _ xk_3) (hts _ xi_3) (vx_hat (fun w hw => hts w (xa_3 w hw)) xn_3 (fun w hw => va_Nw.use (by simp only [xws, List.mem_cons, List.not_mem_nil, or_false] at hw; rcases hw with rfl | rfl | rfl | rfl | rfl | rfl | rfl <;> rfl) (t3.1 w hw))) xg_3 t4 t5 hh.2 (hsz.trans hml.symm) d0 d3 d4 d7 (fun x hx' => (t2 x hx').elim) (by show 2 + 3 < _; omega) (by show _ + (13 * (2 + 1) + 42) ≤ _; omega) (by omega) (by omega) hlocks (fun t hvm hz hk => ?_) hh.2.2.2 (Nat.le_refl _) (Nat.le_refl _)
  have hr0 := (Option.some.inj h).symm
  refine ⟨σ, ⟨by rw [hr0]; show ¬ (3 : Int32) = 0; decide, by rw [hr0]⟩, ⟨by rw [hr0]; show _ = exn (3 : Int32); decide, hh.1.kept (fun k q hq => hk q.1 ((hh.1 k q hq).lt))⟩, Nat.le_trans hh.2.1 hz, fun q h1 h2 => ?_⟩
  rw [hk q (Nat.lt_of_lt_of_le h1 hh.2.1)]
  exact hh.2.2.1 q h1 h2
theorem thr_4 (C : Cx p s m args meth c cc nL RX7 rt D cA ad A o) (Tt : Tx l s c A) (hh : HH D cA ad A o s σ H locs) (hsz : ls.size = nL) (h : some ((4 : Int32), (0 : Int32), σ) = some r) (d0 : decode cc pc = .ok (.new 129, 3)) (d3 : decode cc (pc + 3) = .ok (.dup, 1)) (d4 : decode cc (pc + 4) = .ok (.invokespecial 131, 3)) (d7 : decode cc (pc + 7) = .ok (.athrow, 1)) (hR : 6 ≤ R.frames ∧ (rest.map fun v => v.category).sum + 81 ≤ R.locals ∧ 1 ≤ R.cells ∧ 6 ≤ R.slots) : W p l e R s m args below meth c H locs 0 0 (vx_MQ below Qc (XT D cA ad o A r) args s 1 6 A) (F0 m pc ls rest) := by
  obtain ⟨⟨hx, hb, hml, hown, hts⟩, hK, hN, hD, hr, hlocks⟩ := C
  obtain ⟨t1, t2, t3, t4, t5⟩ := Tt
  refine vx_throw0 (names := ["java/lang/RuntimeException", "java/lang/Exception"]) hx hb t1 hown (by decide) (by decide) (hts _ xk_4) (hts _ xi_4) (vx_hat (fun w hw => hts w (xa_4 w hw)) xn_4 (fun w hw => va_Nw.use (by simp only [xws, List.mem_cons, List.not_mem_nil, or_false] at hw; rcases hw with rfl | rfl | rfl | rfl | rfl | rfl | rfl <;> rfl) (t3.1 w hw))) xg_4 t4 t5 hh.2 (hsz.trans hml.symm) d0 d3 d4 d7 (fun x hx' => (t2 x hx').elim) (by show 2 + 3 < _; omega) (by show _ + (13 * (2 + 1) + 42) ≤ _; omega) (by omega) (by omega) hlocks (fun t hvm hz hk => ?_) hh.2.2.2 (Nat.le_refl _) (Nat.le_refl _)
  have hr0 := (Option.some.inj h).symm
  refine ⟨σ, ⟨by rw [hr0]; show ¬ (4 : Int32) = 0; decide, by rw [hr0]⟩, ⟨by rw [hr0]; show _ = exn (4 : Int32); decide, hh.1.kept (fun k q hq => hk q.1 ((hh.1 k q hq).lt))⟩, Nat.le_trans hh.2.1 hz, fun q h1 h2 => ?_⟩
  rw [hk q (Nat.lt_of_lt_of_le h1 hh.2.1)]
  exact hh.2.2.1 q h1 h2
theorem metX {y : MethodName} {bytes : ByteArray} {maxL : Nat} {ret : Option FieldType} {rm : Room} {avs : List Value} (hy : plainName y.cls = true) (hn : (lg_sl avs).length ≤ maxL) (hD : ∀ σ, va_D A (wW cA ad σ o)) (hl0 : l.stackTraces = false)
    (body : ∀ {p : Program} {e : Env} {s : State} {m : MethodId} {args : Array Value} {below : List Frame} {meth : Method} {c : Code}, Cx p s m args meth c bytes maxL y.cls ret D cA ad A o → Tx l s c A → ∀ {ls : Array Slot}, HH D cA ad A o s σ s.heap [] → lv_has ls maxL (lv_args 0 avs) → W p l e rm s m args below meth c s.heap [] 0 0 (vx_MQ below Qc XC args s 1 6 A) (F0 m 0 ls [])) :
    vx_Met l y (wsG y bytes maxL ret) rm (va_Pc avs (IX D cA ad A o σ)) Qc XC 1 6 A := by
  refine vx_ofW (cc := bytes) (maxL := maxL) (ret := ret) hy rfl ?_
  intro p e s m args below meth c s₁ B hml htb hv
  obtain ⟨rfl, ⟨hP, hK, hN⟩, hX, hZ⟩ := hv
  have hts := atoms_spec (ws := wsG y bytes maxL ret) B.pre
  have hl := lv_entry avs (n := maxL) hn
  rw [lg_entry_eq]
  exact body ⟨⟨B.exec, B.bytes, hml, findClass_of_methodNamed B.named, fun w hw => hts w (List.mem_cons_of_mem _ hw)⟩, hK, hN, hD, B.returns, B.notSynchronized⟩ ⟨hl0, htb, hX, hZ⟩ ⟨hP, va_S.rf⟩ hl
end TW
