theorem MX_init : Cond.initialized "java/lang/Math" ∈ Gw := gwm 87 (by decide +kernel) (by decide +kernel)
theorem MX_sys : Cond.initialized "java/lang/System" ∈ Gw := gwm 89 (by decide +kernel) (by decide +kernel)
theorem LC_6_43 : Cond.constant RX6 43 (-2147483648 : Int32) ∈ Gw := gwm 182 (by decide +kernel) (by decide +kernel)
theorem LX_1_123 : Cond.methodLink RX1 123 Lib.Math.max.name ∈ Gw := gwm 403 (by decide +kernel) (by decide +kernel)
theorem MX_static_max : Cond.static Lib.Math.max.name ∈ Gw := gwm 404 (by decide +kernel) (by decide +kernel)
theorem MX_code_max : Cond.code Lib.Math.max.name Lib.Math.max.code 2 (some .int) ∈ Gw := gwm 405 (by decide +kernel) (by decide +kernel)
theorem LX_1_110 : Cond.methodLink RX1 110 Lib.Math.min.name ∈ Gw := gwm 410 (by decide +kernel) (by decide +kernel)
theorem MX_static_min : Cond.static Lib.Math.min.name ∈ Gw := gwm 411 (by decide +kernel) (by decide +kernel)
theorem MX_code_min : Cond.code Lib.Math.min.name Lib.Math.min.code 2 (some .int) ∈ Gw := gwm 412 (by decide +kernel) (by decide +kernel)
theorem LX_0_23 : Cond.methodLink RX0 23 arraycopyName ∈ Gw := gwm 642 (by decide +kernel) (by decide +kernel)
theorem MX_ast : Cond.static arraycopyName ∈ Gw := gwm 643 (by decide +kernel) (by decide +kernel)
theorem MX_anat : Cond.native arraycopyName ∈ Gw := gwm 644 (by decide +kernel) (by decide +kernel)
theorem LX_6_147 : Cond.methodLink RX6 147 Lib.Math.max.name ∈ Gw := gwm 729 (by decide +kernel) (by decide +kernel)
theorem LC_8_273 : Cond.constantLong RX8 273 (255 : Int64) ∈ Gw := gwm 1186 (by decide +kernel) (by decide +kernel)
theorem acopy {p : Program} {l : Launch} {e : Env} {R : Room} {s : State} {m : MethodId} {args : Array Value} {below : List Frame} {meth : Method} {c : Code} {H : Heap} {locs : List Loc} {cells slots : Nat} {Q : State → Prop} {cc : ByteArray} {nL : Nat} {own : String} {rt : Option FieldType} {D : va_G} {cA : Nat → ClassId} {ad : Nat → Nat → Nat} {A : Nat → Prop} {o : Nat → Int64} {σ : Mem} {pc : Nat} {ls : Array Slot} {rest : List Value} {j0 j1 idx : Nat} {n : Int32}
    (C : Cx p s m args meth c cc nL own rt D cA ad A o) (hh : HH D cA ad A o s σ H locs) (hml : c.maxLocals = ls.size) (h0 : j0 < 62) (h1 : j1 < 62) (h3 : ¬ n < 0) (h4 : n.toNatClampNeg ≤ 60) (hlink : (Cond.methodLink own idx arraycopyName).before args s = true) (hfr : 1 ≤ R.frames) (hlo : (rest.map fun v => v.category).sum + (nativeFrameWords "java/lang/System" "arraycopy" 5 + 11) ≤ R.locals) (hdg : decode cc pc = .ok (.invokestatic idx, 3))
    (kk : ∀ (H1 : Heap) (locs1 : List Loc), HH D cA ad A o s (upA σ 0 j1 (va_cpy (σ 0 j0) (σ 0 j1) 0 0 n.toNatClampNeg)) H1 locs1 → W p l e R s m args below meth c H1 locs1 cells slots Q (F0 m (pc + 3) ls rest)) : W p l e R s m args below meth c H locs cells slots Q (F0 m pc ls (.int n :: .int 0 :: .ref (ad 0 j1) :: .int 0 :: .ref (ad 0 j0) :: rest)) := by
  have hts := C.1.2.2.2.2
  refine va_copyi C.1.1 C.1.2.1 hml C.1.2.2.2.1 hlink (hts _ MX_anat) (hts _ MX_ast) (hts _ MX_sys) C.2.1 hh.1 (C.2.2.2.1 σ) hh.2 (178 + j0) (178 + j1) 0 0 (wA_0 h0) (wA_0 h1) rfl rfl rfl (by decide) (by decide) h3 ?_ ?_ (fun i hi => rfl) hfr hlo hdg (fun H1 locs1 g1 _ g3 => kk H1 locs1 ⟨?_, g3⟩)
  · show (0 : Int32).toNatClampNeg + _ ≤ 60
    rw [show (0 : Int32).toNatClampNeg = 0 from rfl]; omega
  · show (0 : Int32).toNatClampNeg + _ ≤ 60
    rw [show (0 : Int32).toNatClampNeg = 0 from rfl]; omega
  · rw [← sa_0]; exact g1
