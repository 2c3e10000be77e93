abbrev rm_X0_add : Room := { frames := 0, cells := 0, slots := 0, locals := 0 }
theorem HD_X0_add : yX0_add.cls = RX0 ∧ yX0_add.cls ≠ "java/lang/invoke/MethodHandle" ∧ yX0_add.cls ≠ "java/lang/invoke/VarHandle" ∧ (parseMethodDescriptor yX0_add.desc).map (fun d => d.parameters.length) = some 1 := by decide +kernel
def f_X0_add (j0 : Nat) (x1 : Int32) (σ : Mem) : Option (Mem) := (if (60 : Int32) ≤ (σ 1 j0 0) then some σ else gd (vin (σ 1 j0 0) 60) (vl (up σ 0 j0 ((σ 1 j0 0)).toNatClampNeg (x1 &&& (255 : Int32))) (fun s3 => vl (up s3 1 j0 0 ((s3 1 j0 0) + (1 : Int32))) (fun s5 => some s5))))
set_option maxHeartbeats 4000000 in
set_option maxRecDepth 100000 in
theorem c_X0_add {l : Launch} {D : va_G} {cA : Nat → ClassId} {ad : Nat → Nat → Nat} {A : Nat → Prop} {o : Nat → Int64} (hD0 : ∀ σ, va_D A (wW cA ad σ o)) (j0 : Nat) (hj0 : j0 < 62) (x1 : Int32) (σ : Mem) {r : Mem} (h : f_X0_add j0 x1 σ = some r) : Met l yX0_add (wsG yX0_add cX0_add 2 none) rm_X0_add (va_Pc [.ref (ad 99 j0), .int x1] (IW D cA ad o σ)) (Qv D cA ad o A r) 0 0 A := by
  refine metG (by decide) (Nat.le_of_ble_eq_true rfl) hD0 ?_
  intro p e s m args below meth c C ls hh hl
  have C : Cx p s m args meth c cX0_add 2 RX0 none D cA ad A o := C
  have hl : lv_has ls 2 [(0, .ref (ad 99 j0)), (1, .int x1)] := hl
  obtain ⟨⟨hx, hb, hml, hown, hts⟩, hK, hN, hD, hr, hlocks⟩ := id C
  unfold f_X0_add at h
  refine lv_aload_n hx hb dX0_add_0 rfl (lv_at hl 0 rfl) ?_
  refine gf_0_15 C hh hj0 dX0_add_1 ?_
  refine lv_bipush (v := (60 : Int32)) hx hb dX0_add_4 (by decide) ?_
  refine lv_icmp_ge (tgt := 33) hx hb dX0_add_6 (by decide) (fun c1 => ?_) (fun c1 => ?_)
  · rw [if_pos c1] at h
    exact r_void C hh h dX0_add_33
  · rw [if_neg c1] at h
    refine lv_aload_n hx hb dX0_add_9 rfl (lv_at hl 0 rfl) ?_
    refine gf_0_9 C hh hj0 dX0_add_10 ?_
    refine lv_aload_n hx hb dX0_add_13 rfl (lv_at hl 0 rfl) ?_
    refine gf_0_15 C hh hj0 dX0_add_14 ?_
    refine lv_iload_n hx hb dX0_add_17 rfl (lv_at hl 1 rfl) ?_
    refine lv_sipush (v := (255 : Int32)) hx hb dX0_add_18 (by decide) ?_
    refine lv_iand hx hb dX0_add_21 ?_
    obtain ⟨b2, h⟩ := gd_e h
    obtain ⟨s3, e4, h⟩ := vl_e h
    refine as_0 C hh hj0 b2 dX0_add_22 (fun H locs hh => ?_)
    rw [← e4] at hh
    refine lv_aload_n hx hb dX0_add_23 rfl (lv_at hl 0 rfl) ?_
    refine lv_dup hx hb dX0_add_24 rfl ?_
    refine gf_0_15 C hh hj0 dX0_add_25 ?_
    refine lv_iconst (v := (1 : Int32)) hx hb dX0_add_28 (by decide) ?_
    refine lv_iadd hx hb dX0_add_29 ?_
    obtain ⟨s5, e6, h⟩ := vl_e h
    refine pf_0_15 C hh hj0 dX0_add_30 (fun H locs hh => ?_)
    rw [← e6] at hh
    exact r_void C hh h dX0_add_33
abbrev rm_X0_addNumber : Room := { frames := 1, cells := 0, slots := 0, locals := 21 }
theorem HD_X0_addNumber : yX0_addNumber.cls = RX0 ∧ yX0_addNumber.cls ≠ "java/lang/invoke/MethodHandle" ∧ yX0_addNumber.cls ≠ "java/lang/invoke/VarHandle" ∧ (parseMethodDescriptor yX0_addNumber.desc).map (fun d => d.parameters.length) = some 1 := by decide +kernel
def f_X0_addNumber_3 : Nat → Nat → Int32 → Int32 → Mem → Option (Mem)
  | 0, _, _, _, _ => none
  | n + 1, j0, x1, x2, σ => (if x2 < (0 : Int32) then some σ else bv (f_X0_add j0 (((x1).toUInt32 >>> ((x2).toUInt32 &&& Int32.toUInt32 31)).toInt32) σ) (fun s3 => vl (x2 + (-8 : Int32)) (fun v4 => f_X0_addNumber_3 n j0 x1 v4 s3)))
set_option maxHeartbeats 4000000 in
set_option maxRecDepth 100000 in
theorem k_X0_addNumber_3 {p : Program} {l : Launch} {e : Env} {s : State} {m : MethodId} {args : Array Value} {below : List Frame} {meth : Method} {c : Code} {D : va_G} {cA : Nat → ClassId} {ad : Nat → Nat → Nat} {A : Nat → Prop} {o : Nat → Int64} (C : Cx p s m args meth c cX0_addNumber 3 RX0 none D cA ad A o) {r : Mem} : ∀ (n : Nat) (j0 : Nat) (hj0 : j0 < 62) (x1 : Int32) (x2 : Int32) (σ : Mem) {H : Heap} {locs : List Loc} (h : f_X0_addNumber_3 n j0 x1 x2 σ = some r) (hh : HH D cA ad A o s σ H locs) {ls : Array Slot} (hl : lv_has ls 3 [(0, .ref (ad 99 j0)), (1, .int x1), (2, .int x2)]), W p l e rm_X0_addNumber s m args below meth c H locs 0 0 (MQ below (Qv D cA ad o A r) args s 0 0 A) (F0 m 3 ls []) := by
  obtain ⟨⟨hx, hb, hml, hown, hts⟩, hK, hN, hD, hr, hlocks⟩ := id C
  intro n
  induction n with
  | zero =>
    intro j0 hj0 x1 x2 σ H locs h
    rw [f_X0_addNumber_3.eq_1] at h
    cases h
  | succ n ih =>
    intro j0 hj0 x1 x2 σ H locs h hh ls hl
    rw [f_X0_addNumber_3.eq_2] at h
    refine lv_iload_n hx hb dX0_addNumber_3 rfl (lv_at hl 2 rfl) ?_
    refine lv_if_lt (tgt := 20) hx hb dX0_addNumber_4 (by decide) (fun c1 => ?_) (fun c1 => ?_)
    · rw [if_pos c1] at h
      exact r_void C hh h dX0_addNumber_20
    · rw [if_neg c1] at h
      refine lv_aload_n hx hb dX0_addNumber_7 rfl (lv_at hl 0 rfl) ?_
      refine lv_iload_n hx hb dX0_addNumber_8 rfl (lv_at hl 1 rfl) ?_
      refine lv_iload_n hx hb dX0_addNumber_9 rfl (lv_at hl 2 rfl) ?_
      refine lv_iushr (v := ((x1).toUInt32 >>> ((x2).toUInt32 &&& Int32.toUInt32 31)).toInt32) hx hb dX0_addNumber_10 rfl ?_
      obtain ⟨s3, e2, h⟩ := bv_e h
      refine c_void hh (vrun (rest := []) C hh (c_X0_add C.2.2.2.1 j0 hj0 (((x1).toUInt32 >>> ((x2).toUInt32 &&& Int32.toUInt32 31)).toInt32) σ e2) LM_0_19 IM_X0_add SL_X0_add IN_0 CD_X0_add HD_X0_add ⟨rfl, rfl, Nat.le_of_ble_eq_true rfl, Nat.le_of_ble_eq_true rfl⟩ (rv_0 C hh hj0) rfl hl.1 rfl (Nat.le_of_ble_eq_true rfl) dX0_addNumber_11 ⟨Nat.zero_le _, Nat.zero_le _⟩) (fun H locs hh => ?_)
      obtain ⟨v4, e5, h⟩ := vl_e h
      refine lv_iinc (v := v4) (lv' := [(2, .int v4), (0, .ref (ad 99 j0)), (1, .int x1)]) hx hb dX0_addNumber_14 hl (k := 2) rfl (by rw [e5]; rfl) (by decide) rfl (fun ls hl => ?_)
      refine lv_goto (tgt := 3) hx hb dX0_addNumber_17 (by decide) ?_
      exact ih j0 hj0 x1 v4 s3 h hh (lv_sub hl [1, 2, 0] rfl)
def f_X0_addNumber (j0 : Nat) (x1 : Int32) (σ : Mem) : Option (Mem) := f_X0_addNumber_3 5000 j0 x1 (24 : Int32) σ
set_option maxHeartbeats 4000000 in
set_option maxRecDepth 100000 in
theorem c_X0_addNumber {l : Launch} {D : va_G} {cA : Nat → ClassId} {ad : Nat → Nat → Nat} {A : Nat → Prop} {o : Nat → Int64} (hD0 : ∀ σ, va_D A (wW cA ad σ o)) (j0 : Nat) (hj0 : j0 < 62) (x1 : Int32) (σ : Mem) {r : Mem} (h : f_X0_addNumber j0 x1 σ = some r) : Met l yX0_addNumber (wsG yX0_addNumber cX0_addNumber 3 none) rm_X0_addNumber (va_Pc [.ref (ad 99 j0), .int x1] (IW D cA ad o σ)) (Qv D cA ad o A r) 0 0 A := by
  refine metG (by decide) (Nat.le_of_ble_eq_true rfl) hD0 ?_
  intro p e s m args below meth c C ls hh hl
  have C : Cx p s m args meth c cX0_addNumber 3 RX0 none D cA ad A o := C
  have hl : lv_has ls 3 [(0, .ref (ad 99 j0)), (1, .int x1)] := hl
  obtain ⟨⟨hx, hb, hml, hown, hts⟩, hK, hN, hD, hr, hlocks⟩ := id C
  unfold f_X0_addNumber at h
  refine lv_bipush (v := (24 : Int32)) hx hb dX0_addNumber_0 (by decide) ?_
  refine lv_istore_n (lv' := [(2, .int (24 : Int32)), (0, .ref (ad 99 j0)), (1, .int x1)]) hx hb dX0_addNumber_2 rfl hl (by decide) rfl (fun ls hl => ?_)
  exact k_X0_addNumber_3 C 5000 j0 hj0 x1 (24 : Int32) σ h hh (lv_sub hl [1, 2, 0] rfl)
abbrev rm_X2_writeOption : Room := { frames := 2, cells := 0, slots := 0, locals := 43 }
theorem HD_X2_writeOption : yX2_writeOption.cls = RX2 ∧ yX2_writeOption.cls ≠ "java/lang/invoke/MethodHandle" ∧ yX2_writeOption.cls ≠ "java/lang/invoke/VarHandle" ∧ (parseMethodDescriptor yX2_writeOption.desc).map (fun d => d.parameters.length) = some 3 := by decide +kernel
def f_X2_writeOption (j0 : Nat) (j1 : Nat) (x2 : Int32) (x3 : Int32) (σ : Mem) : Option (Mem) := (if x3 = (0 : Int32) then some σ else bv (f_X0_add j1 x2 σ) (fun s3 => bv (f_X0_add j1 (4 : Int32) s3) (fun s5 => bv (f_X0_addNumber j1 x3 s5) (fun s7 => some s7))))
set_option maxHeartbeats 4000000 in
set_option maxRecDepth 100000 in
theorem c_X2_writeOption {l : Launch} {D : va_G} {cA : Nat → ClassId} {ad : Nat → Nat → Nat} {A : Nat → Prop} {o : Nat → Int64} (hD0 : ∀ σ, va_D A (wW cA ad σ o)) (j0 : Nat) (hj0 : j0 < 2) (j1 : Nat) (hj1 : j1 < 62) (x2 : Int32) (x3 : Int32) (σ : Mem) {r : Mem} (h : f_X2_writeOption j0 j1 x2 x3 σ = some r) : Met l yX2_writeOption (wsG yX2_writeOption cX2_writeOption 4 none) rm_X2_writeOption (va_Pc [.ref (ad 299 j0), .ref (ad 99 j1), .int x2, .int x3] (IW D cA ad o σ)) (Qv D cA ad o A r) 0 0 A := by
  refine metG (by decide) (Nat.le_of_ble_eq_true rfl) hD0 ?_
  intro p e s m args below meth c C ls hh hl
  have C : Cx p s m args meth c cX2_writeOption 4 RX2 none D cA ad A o := C
  have hl : lv_has ls 4 [(0, .ref (ad 299 j0)), (1, .ref (ad 99 j1)), (2, .int x2), (3, .int x3)] := hl
  obtain ⟨⟨hx, hb, hml, hown, hts⟩, hK, hN, hD, hr, hlocks⟩ := id C
  unfold f_X2_writeOption at h
  refine lv_iload_n hx hb dX2_writeOption_0 rfl (lv_at hl 3 rfl) ?_
  refine lv_if_eq (tgt := 19) hx hb dX2_writeOption_1 (by decide) (fun c1 => ?_) (fun c1 => ?_)
  · rw [if_pos c1] at h
    exact r_void C hh h dX2_writeOption_19
  · rw [if_neg c1] at h
    refine lv_aload_n hx hb dX2_writeOption_4 rfl (lv_at hl 1 rfl) ?_
    refine lv_iload_n hx hb dX2_writeOption_5 rfl (lv_at hl 2 rfl) ?_
    obtain ⟨s3, e2, h⟩ := bv_e h
    refine c_void hh (vrun (rest := []) C hh (c_X0_add C.2.2.2.1 j1 hj1 x2 σ e2) LM_2_70 IM_X0_add SL_X0_add IN_0 CD_X0_add HD_X0_add ⟨rfl, rfl, Nat.le_of_ble_eq_true rfl, Nat.le_of_ble_eq_true rfl⟩ (rv_0 C hh hj1) rfl hl.1 rfl (Nat.le_of_ble_eq_true rfl) dX2_writeOption_6 ⟨Nat.zero_le _, Nat.zero_le _⟩) (fun H locs hh => ?_)
    refine lv_aload_n hx hb dX2_writeOption_9 rfl (lv_at hl 1 rfl) ?_
    refine lv_iconst (v := (4 : Int32)) hx hb dX2_writeOption_10 (by decide) ?_
    obtain ⟨s5, e4, h⟩ := bv_e h
    refine c_void hh (vrun (rest := []) C hh (c_X0_add C.2.2.2.1 j1 hj1 (4 : Int32) s3 e4) LM_2_70 IM_X0_add SL_X0_add IN_0 CD_X0_add HD_X0_add ⟨rfl, rfl, Nat.le_of_ble_eq_true rfl, Nat.le_of_ble_eq_true rfl⟩ (rv_0 C hh hj1) rfl hl.1 rfl (Nat.le_of_ble_eq_true rfl) dX2_writeOption_11 ⟨Nat.zero_le _, Nat.zero_le _⟩) (fun H locs hh => ?_)
    refine lv_aload_n hx hb dX2_writeOption_14 rfl (lv_at hl 1 rfl) ?_
    refine lv_iload_n hx hb dX2_writeOption_15 rfl (lv_at hl 3 rfl) ?_
    obtain ⟨s7, e6, h⟩ := bv_e h
    refine c_void hh (vrun (rest := []) C hh (c_X0_addNumber C.2.2.2.1 j1 hj1 x3 s5 e6) LM_2_74 IM_X0_addNumber SL_X0_addNumber IN_0 CD_X0_addNumber HD_X0_addNumber ⟨rfl, rfl, Nat.le_of_ble_eq_true rfl, Nat.le_of_ble_eq_true rfl⟩ (rv_0 C hh hj1) rfl hl.1 rfl (Nat.le_of_ble_eq_true rfl) dX2_writeOption_16 ⟨Nat.zero_le _, Nat.zero_le _⟩) (fun H locs hh => ?_)
    exact r_void C hh h dX2_writeOption_19
abbrev rm_X2_write : Room := { frames := 3, cells := 0, slots := 0, locals := 66 }
theorem HD_X2_write : yX2_write.cls = RX2 ∧ yX2_write.cls ≠ "java/lang/invoke/MethodHandle" ∧ yX2_write.cls ≠ "java/lang/invoke/VarHandle" ∧ (parseMethodDescriptor yX2_write.desc).map (fun d => d.parameters.length) = some 1 := by decide +kernel
def f_X2_write (j0 : Nat) (j1 : Nat) (σ : Mem) : Option (Mem) := vl (up σ 1 j1 0 (0 : Int32)) (fun s1 => bv (f_X0_add j1 (s1 200 j0 0) s1) (fun s4 => bv (f_X0_add j1 (s4 201 j0 0) s4) (fun s6 => bv (f_X0_addNumber j1 (s6 202 j0 0) s6) (fun s8 => bv (f_X0_addNumber j1 (s8 203 j0 0) s8) (fun s10 => bv (f_X0_addNumber j1 (s10 204 j0 0) s10) (fun s12 => bv (f_X0_addNumber j1 (s12 205 j0 0) s12) (fun s14 => bv (f_X0_add j1 (s14 206 j0 0) s14) (fun s16 => bv (f_X0_add j1 (53 : Int32) s16) (fun s18 => bv (f_X0_add j1 (1 : Int32) s18) (fun s20 => bv (f_X0_add j1 (s20 207 j0 0) s20) (fun s22 => bv (f_X2_writeOption j0 j1 (50 : Int32) (s22 208 j0 0) s22) (fun s24 => bv (f_X2_writeOption j0 j1 (51 : Int32) (s24 209 j0 0) s24) (fun s26 => bv (f_X2_writeOption j0 j1 (54 : Int32) (s26 210 j0 0) s26) (fun s28 => bv (f_X0_add j1 (255 : Int32) s28) (fun s30 => some s30)))))))))))))))
set_option maxHeartbeats 4000000 in
set_option maxRecDepth 100000 in
theorem c_X2_write {l : Launch} {D : va_G} {cA : Nat → ClassId} {ad : Nat → Nat → Nat} {A : Nat → Prop} {o : Nat → Int64} (hD0 : ∀ σ, va_D A (wW cA ad σ o)) (j0 : Nat) (hj0 : j0 < 2) (j1 : Nat) (hj1 : j1 < 62) (σ : Mem) {r : Mem} (h : f_X2_write j0 j1 σ = some r) : Met l yX2_write (wsG yX2_write cX2_write 2 none) rm_X2_write (va_Pc [.ref (ad 299 j0), .ref (ad 99 j1)] (IW D cA ad o σ)) (Qv D cA ad o A r) 0 0 A := by
  refine metG (by decide) (Nat.le_of_ble_eq_true rfl) hD0 ?_
  intro p e s m args below meth c C ls hh hl
  have C : Cx p s m args meth c cX2_write 2 RX2 none D cA ad A o := C
  have hl : lv_has ls 2 [(0, .ref (ad 299 j0)), (1, .ref (ad 99 j1))] := hl
  obtain ⟨⟨hx, hb, hml, hown, hts⟩, hK, hN, hD, hr, hlocks⟩ := id C
  unfold f_X2_write at h
  refine lv_aload_n hx hb dX2_write_0 rfl (lv_at hl 1 rfl) ?_
  refine lv_iconst (v := (0 : Int32)) hx hb dX2_write_1 (by decide) ?_
  obtain ⟨s1, e2, h⟩ := vl_e h
  refine pf_2_45 C hh hj1 dX2_write_2 (fun H locs hh => ?_)
  rw [← e2] at hh
  refine lv_aload_n hx hb dX2_write_5 rfl (lv_at hl 1 rfl) ?_
  refine lv_aload_n hx hb dX2_write_6 rfl (lv_at hl 0 rfl) ?_
  refine gf_2_9 C hh hj0 dX2_write_7 ?_
  obtain ⟨s4, e3, h⟩ := bv_e h
  refine c_void hh (vrun (rest := []) C hh (c_X0_add C.2.2.2.1 j1 hj1 (s1 200 j0 0) s1 e3) LM_2_70 IM_X0_add SL_X0_add IN_0 CD_X0_add HD_X0_add ⟨rfl, rfl, Nat.le_of_ble_eq_true rfl, Nat.le_of_ble_eq_true rfl⟩ (rv_0 C hh hj1) rfl hl.1 rfl (Nat.le_of_ble_eq_true rfl) dX2_write_10 ⟨Nat.zero_le _, Nat.zero_le _⟩) (fun H locs hh => ?_)
  refine lv_aload_n hx hb dX2_write_13 rfl (lv_at hl 1 rfl) ?_
  refine lv_aload_n hx hb dX2_write_14 rfl (lv_at hl 0 rfl) ?_
  refine gf_2_15 C hh hj0 dX2_write_15 ?_
  obtain ⟨s6, e5, h⟩ := bv_e h
  refine c_void hh (vrun (rest := []) C hh (c_X0_add C.2.2.2.1 j1 hj1 (s4 201 j0 0) s4 e5) LM_2_70 IM_X0_add SL_X0_add IN_0 CD_X0_add HD_X0_add ⟨rfl, rfl, Nat.le_of_ble_eq_true rfl, Nat.le_of_ble_eq_true rfl⟩ (rv_0 C hh hj1) rfl hl.1 rfl (Nat.le_of_ble_eq_true rfl) dX2_write_18 ⟨Nat.zero_le _, Nat.zero_le _⟩) (fun H locs hh => ?_)
  refine lv_aload_n hx hb dX2_write_21 rfl (lv_at hl 1 rfl) ?_
  refine lv_aload_n hx hb dX2_write_22 rfl (lv_at hl 0 rfl) ?_
  refine gf_2_18 C hh hj0 dX2_write_23 ?_
  obtain ⟨s8, e7, h⟩ := bv_e h
  refine c_void hh (vrun (rest := []) C hh (c_X0_addNumber C.2.2.2.1 j1 hj1 (s6 202 j0 0) s6 e7) LM_2_74 IM_X0_addNumber SL_X0_addNumber IN_0 CD_X0_addNumber HD_X0_addNumber ⟨rfl, rfl, Nat.le_of_ble_eq_true rfl, Nat.le_of_ble_eq_true rfl⟩ (rv_0 C hh hj1) rfl hl.1 rfl (Nat.le_of_ble_eq_true rfl) dX2_write_26 ⟨Nat.zero_le _, Nat.zero_le _⟩) (fun H locs hh => ?_)
  refine lv_aload_n hx hb dX2_write_29 rfl (lv_at hl 1 rfl) ?_
  refine lv_aload_n hx hb dX2_write_30 rfl (lv_at hl 0 rfl) ?_
  refine gf_2_21 C hh hj0 dX2_write_31 ?_
  obtain ⟨s10, e9, h⟩ := bv_e h
  refine c_void hh (vrun (rest := []) C hh (c_X0_addNumber C.2.2.2.1 j1 hj1 (s8 203 j0 0) s8 e9) LM_2_74 IM_X0_addNumber SL_X0_addNumber IN_0 CD_X0_addNumber HD_X0_addNumber ⟨rfl, rfl, Nat.le_of_ble_eq_true rfl, Nat.le_of_ble_eq_true rfl⟩ (rv_0 C hh hj1) rfl hl.1 rfl (Nat.le_of_ble_eq_true rfl) dX2_write_34 ⟨Nat.zero_le _, Nat.zero_le _⟩) (fun H locs hh => ?_)
  refine lv_aload_n hx hb dX2_write_37 rfl (lv_at hl 1 rfl) ?_
  refine lv_aload_n hx hb dX2_write_38 rfl (lv_at hl 0 rfl) ?_
  refine gf_2_24 C hh hj0 dX2_write_39 ?_
  obtain ⟨s12, e11, h⟩ := bv_e h
  refine c_void hh (vrun (rest := []) C hh (c_X0_addNumber C.2.2.2.1 j1 hj1 (s10 204 j0 0) s10 e11) LM_2_74 IM_X0_addNumber SL_X0_addNumber IN_0 CD_X0_addNumber HD_X0_addNumber ⟨rfl, rfl, Nat.le_of_ble_eq_true rfl, Nat.le_of_ble_eq_true rfl⟩ (rv_0 C hh hj1) rfl hl.1 rfl (Nat.le_of_ble_eq_true rfl) dX2_write_42 ⟨Nat.zero_le _, Nat.zero_le _⟩) (fun H locs hh => ?_)
  refine lv_aload_n hx hb dX2_write_45 rfl (lv_at hl 1 rfl) ?_
  refine lv_aload_n hx hb dX2_write_46 rfl (lv_at hl 0 rfl) ?_
  refine gf_2_27 C hh hj0 dX2_write_47 ?_
  obtain ⟨s14, e13, h⟩ := bv_e h
  refine c_void hh (vrun (rest := []) C hh (c_X0_addNumber C.2.2.2.1 j1 hj1 (s12 205 j0 0) s12 e13) LM_2_74 IM_X0_addNumber SL_X0_addNumber IN_0 CD_X0_addNumber HD_X0_addNumber ⟨rfl, rfl, Nat.le_of_ble_eq_true rfl, Nat.le_of_ble_eq_true rfl⟩ (rv_0 C hh hj1) rfl hl.1 rfl (Nat.le_of_ble_eq_true rfl) dX2_write_50 ⟨Nat.zero_le _, Nat.zero_le _⟩) (fun H locs hh => ?_)
  refine lv_aload_n hx hb dX2_write_53 rfl (lv_at hl 1 rfl) ?_
  refine lv_aload_n hx hb dX2_write_54 rfl (lv_at hl 0 rfl) ?_
  refine gf_2_30 C hh hj0 dX2_write_55 ?_
  obtain ⟨s16, e15, h⟩ := bv_e h
  refine c_void hh (vrun (rest := []) C hh (c_X0_add C.2.2.2.1 j1 hj1 (s14 206 j0 0) s14 e15) LM_2_70 IM_X0_add SL_X0_add IN_0 CD_X0_add HD_X0_add ⟨rfl, rfl, Nat.le_of_ble_eq_true rfl, Nat.le_of_ble_eq_true rfl⟩ (rv_0 C hh hj1) rfl hl.1 rfl (Nat.le_of_ble_eq_true rfl) dX2_write_58 ⟨Nat.zero_le _, Nat.zero_le _⟩) (fun H locs hh => ?_)
  refine lv_aload_n hx hb dX2_write_61 rfl (lv_at hl 1 rfl) ?_
  refine lv_bipush (v := (53 : Int32)) hx hb dX2_write_62 (by decide) ?_
  obtain ⟨s18, e17, h⟩ := bv_e h
  refine c_void hh (vrun (rest := []) C hh (c_X0_add C.2.2.2.1 j1 hj1 (53 : Int32) s16 e17) LM_2_70 IM_X0_add SL_X0_add IN_0 CD_X0_add HD_X0_add ⟨rfl, rfl, Nat.le_of_ble_eq_true rfl, Nat.le_of_ble_eq_true rfl⟩ (rv_0 C hh hj1) rfl hl.1 rfl (Nat.le_of_ble_eq_true rfl) dX2_write_64 ⟨Nat.zero_le _, Nat.zero_le _⟩) (fun H locs hh => ?_)
  refine lv_aload_n hx hb dX2_write_67 rfl (lv_at hl 1 rfl) ?_
  refine lv_iconst (v := (1 : Int32)) hx hb dX2_write_68 (by decide) ?_
  obtain ⟨s20, e19, h⟩ := bv_e h
  refine c_void hh (vrun (rest := []) C hh (c_X0_add C.2.2.2.1 j1 hj1 (1 : Int32) s18 e19) LM_2_70 IM_X0_add SL_X0_add IN_0 CD_X0_add HD_X0_add ⟨rfl, rfl, Nat.le_of_ble_eq_true rfl, Nat.le_of_ble_eq_true rfl⟩ (rv_0 C hh hj1) rfl hl.1 rfl (Nat.le_of_ble_eq_true rfl) dX2_write_69 ⟨Nat.zero_le _, Nat.zero_le _⟩) (fun H locs hh => ?_)
  refine lv_aload_n hx hb dX2_write_72 rfl (lv_at hl 1 rfl) ?_
  refine lv_aload_n hx hb dX2_write_73 rfl (lv_at hl 0 rfl) ?_
  refine gf_2_33 C hh hj0 dX2_write_74 ?_
  obtain ⟨s22, e21, h⟩ := bv_e h
  refine c_void hh (vrun (rest := []) C hh (c_X0_add C.2.2.2.1 j1 hj1 (s20 207 j0 0) s20 e21) LM_2_70 IM_X0_add SL_X0_add IN_0 CD_X0_add HD_X0_add ⟨rfl, rfl, Nat.le_of_ble_eq_true rfl, Nat.le_of_ble_eq_true rfl⟩ (rv_0 C hh hj1) rfl hl.1 rfl (Nat.le_of_ble_eq_true rfl) dX2_write_77 ⟨Nat.zero_le _, Nat.zero_le _⟩) (fun H locs hh => ?_)
  refine lv_aload_n hx hb dX2_write_80 rfl (lv_at hl 0 rfl) ?_
  refine lv_aload_n hx hb dX2_write_81 rfl (lv_at hl 1 rfl) ?_
  refine lv_bipush (v := (50 : Int32)) hx hb dX2_write_82 (by decide) ?_
  refine lv_aload_n hx hb dX2_write_84 rfl (lv_at hl 0 rfl) ?_
  refine gf_2_36 C hh hj0 dX2_write_85 ?_
  obtain ⟨s24, e23, h⟩ := bv_e h
  refine c_void hh (vrun (rest := []) C hh (c_X2_writeOption C.2.2.2.1 j0 hj0 j1 hj1 (50 : Int32) (s22 208 j0 0) s22 e23) LM_2_77 IM_X2_writeOption SL_X2_writeOption IN_2 CD_X2_writeOption HD_X2_writeOption ⟨rfl, rfl, Nat.le_of_ble_eq_true rfl, Nat.le_of_ble_eq_true rfl⟩ (rv_2 C hh hj0) rfl hl.1 rfl (Nat.le_of_ble_eq_true rfl) dX2_write_88 ⟨Nat.zero_le _, Nat.zero_le _⟩) (fun H locs hh => ?_)
  refine lv_aload_n hx hb dX2_write_91 rfl (lv_at hl 0 rfl) ?_
  refine lv_aload_n hx hb dX2_write_92 rfl (lv_at hl 1 rfl) ?_
  refine lv_bipush (v := (51 : Int32)) hx hb dX2_write_93 (by decide) ?_
  refine lv_aload_n hx hb dX2_write_95 rfl (lv_at hl 0 rfl) ?_
  refine gf_2_39 C hh hj0 dX2_write_96 ?_
  obtain ⟨s26, e25, h⟩ := bv_e h
  refine c_void hh (vrun (rest := []) C hh (c_X2_writeOption C.2.2.2.1 j0 hj0 j1 hj1 (51 : Int32) (s24 209 j0 0) s24 e25) LM_2_77 IM_X2_writeOption SL_X2_writeOption IN_2 CD_X2_writeOption HD_X2_writeOption ⟨rfl, rfl, Nat.le_of_ble_eq_true rfl, Nat.le_of_ble_eq_true rfl⟩ (rv_2 C hh hj0) rfl hl.1 rfl (Nat.le_of_ble_eq_true rfl) dX2_write_99 ⟨Nat.zero_le _, Nat.zero_le _⟩) (fun H locs hh => ?_)
  refine lv_aload_n hx hb dX2_write_102 rfl (lv_at hl 0 rfl) ?_
  refine lv_aload_n hx hb dX2_write_103 rfl (lv_at hl 1 rfl) ?_
  refine lv_bipush (v := (54 : Int32)) hx hb dX2_write_104 (by decide) ?_
  refine lv_aload_n hx hb dX2_write_106 rfl (lv_at hl 0 rfl) ?_
  refine gf_2_42 C hh hj0 dX2_write_107 ?_
  obtain ⟨s28, e27, h⟩ := bv_e h
  refine c_void hh (vrun (rest := []) C hh (c_X2_writeOption C.2.2.2.1 j0 hj0 j1 hj1 (54 : Int32) (s26 210 j0 0) s26 e27) LM_2_77 IM_X2_writeOption SL_X2_writeOption IN_2 CD_X2_writeOption HD_X2_writeOption ⟨rfl, rfl, Nat.le_of_ble_eq_true rfl, Nat.le_of_ble_eq_true rfl⟩ (rv_2 C hh hj0) rfl hl.1 rfl (Nat.le_of_ble_eq_true rfl) dX2_write_110 ⟨Nat.zero_le _, Nat.zero_le _⟩) (fun H locs hh => ?_)
  refine lv_aload_n hx hb dX2_write_113 rfl (lv_at hl 1 rfl) ?_
  refine lv_sipush (v := (255 : Int32)) hx hb dX2_write_114 (by decide) ?_
  obtain ⟨s30, e29, h⟩ := bv_e h
  refine c_void hh (vrun (rest := []) C hh (c_X0_add C.2.2.2.1 j1 hj1 (255 : Int32) s28 e29) LM_2_70 IM_X0_add SL_X0_add IN_0 CD_X0_add HD_X0_add ⟨rfl, rfl, Nat.le_of_ble_eq_true rfl, Nat.le_of_ble_eq_true rfl⟩ (rv_0 C hh hj1) rfl hl.1 rfl (Nat.le_of_ble_eq_true rfl) dX2_write_117 ⟨Nat.zero_le _, Nat.zero_le _⟩) (fun H locs hh => ?_)
  exact r_void C hh h dX2_write_120
abbrev rm_X5_grow : Room := { frames := 0, cells := 0, slots := 0, locals := 0 }
theorem HD_X5_grow : yX5_grow.cls = RX5 ∧ yX5_grow.cls ≠ "java/lang/invoke/MethodHandle" ∧ yX5_grow.cls ≠ "java/lang/invoke/VarHandle" ∧ (parseMethodDescriptor yX5_grow.desc).map (fun d => d.parameters.length) = some 1 := by decide +kernel
def f_X5_grow (x1 : Int32) (σ : Mem) : Option (Int32 × Mem) := (if (σ 501 0 0) < (60 : Int32) then gd (vin (σ 501 0 0) 60) (gd (decide ((σ 500 0 ((σ 501 0 0)).toNatClampNeg).toNatClampNeg < 60)) (vl (up σ 301 ((σ 500 0 ((σ 501 0 0)).toNatClampNeg).toNatClampNeg) 0 x1) (fun s4 => vl (up s4 501 0 0 ((s4 501 0 0) + (1 : Int32))) (fun s6 => some ((1 : Int32), s6))))) else vl (up σ 502 0 0 ((σ 502 0 0) + (1 : Int32))) (fun s8 => some ((0 : Int32), s8)))
set_option maxHeartbeats 4000000 in
set_option maxRecDepth 100000 in
theorem c_X5_grow {l : Launch} {D : va_G} {cA : Nat → ClassId} {ad : Nat → Nat → Nat} {A : Nat → Prop} {o : Nat → Int64} (hD0 : ∀ σ, va_D A (wW cA ad σ o)) (x1 : Int32) (σ : Mem) {r : Int32 × Mem} (h : f_X5_grow x1 σ = some r) : Met l yX5_grow (wsG yX5_grow cX5_grow 2 (some .boolean)) rm_X5_grow (va_Pc [.ref (ad 599 0), .int x1] (IW D cA ad o σ)) (Qi D cA ad o A r) 0 0 A := by
  refine metG (by decide) (Nat.le_of_ble_eq_true rfl) hD0 ?_
  intro p e s m args below meth c C ls hh hl
  have C : Cx p s m args meth c cX5_grow 2 RX5 (some .boolean) D cA ad A o := C
  have hl : lv_has ls 2 [(0, .ref (ad 599 0)), (1, .int x1)] := hl
  obtain ⟨⟨hx, hb, hml, hown, hts⟩, hK, hN, hD, hr, hlocks⟩ := id C
  unfold f_X5_grow at h
  refine lv_aload_n hx hb dX5_grow_0 rfl (lv_at hl 0 rfl) ?_
  refine gf_5_17 C hh dX5_grow_1 ?_
  refine lv_bipush (v := (60 : Int32)) hx hb dX5_grow_4 (by decide) ?_
  refine lv_icmp_lt (tgt := 21) hx hb dX5_grow_6 (by decide) (fun c1 => ?_) (fun c1 => ?_)
  · rw [if_pos c1] at h
    refine lv_aload_n hx hb dX5_grow_21 rfl (lv_at hl 0 rfl) ?_
    refine gf_5_11 C hh dX5_grow_22 ?_
    refine lv_aload_n hx hb dX5_grow_25 rfl (lv_at hl 0 rfl) ?_
    refine gf_5_17 C hh dX5_grow_26 ?_
    obtain ⟨b2, h⟩ := gd_e h
    refine al_500 C hh b2 dX5_grow_29 ?_
    obtain ⟨b3, h⟩ := gd_e h
    refine lv_iload_n hx hb dX5_grow_30 rfl (lv_at hl 1 rfl) ?_
    obtain ⟨s4, e5, h⟩ := vl_e h
    refine pf_5_44 C hh (bl_lt b3) dX5_grow_31 (fun H locs hh => ?_)
    rw [← e5] at hh
    refine lv_aload_n hx hb dX5_grow_34 rfl (lv_at hl 0 rfl) ?_
    refine lv_dup hx hb dX5_grow_35 rfl ?_
    refine gf_5_17 C hh dX5_grow_36 ?_
    refine lv_iconst (v := (1 : Int32)) hx hb dX5_grow_39 (by decide) ?_
    refine lv_iadd hx hb dX5_grow_40 ?_
    obtain ⟨s6, e7, h⟩ := vl_e h
    refine pf_5_17 C hh dX5_grow_41 (fun H locs hh => ?_)
    rw [← e7] at hh
    refine lv_iconst (v := (1 : Int32)) hx hb dX5_grow_44 (by decide) ?_
    exact r_bool C hh (by decide) h dX5_grow_45
  · rw [if_neg c1] at h
    refine lv_aload_n hx hb dX5_grow_9 rfl (lv_at hl 0 rfl) ?_
    refine lv_dup hx hb dX5_grow_10 rfl ?_
    refine gf_5_21 C hh dX5_grow_11 ?_
    refine lv_iconst (v := (1 : Int32)) hx hb dX5_grow_14 (by decide) ?_
    refine lv_iadd hx hb dX5_grow_15 ?_
    obtain ⟨s8, e9, h⟩ := vl_e h
    refine pf_5_21 C hh dX5_grow_16 (fun H locs hh => ?_)
    rw [← e9] at hh
    refine lv_iconst (v := (0 : Int32)) hx hb dX5_grow_19 (by decide) ?_
    exact r_bool C hh (by decide) h dX5_grow_20
abbrev rm_X5_post : Room := { frames := 4, cells := 0, slots := 0, locals := 87 }
theorem HD_X5_post : yX5_post.cls = RX5 ∧ yX5_post.cls ≠ "java/lang/invoke/MethodHandle" ∧ yX5_post.cls ≠ "java/lang/invoke/VarHandle" ∧ (parseMethodDescriptor yX5_post.desc).map (fun d => d.parameters.length) = some 2 := by decide +kernel
def f_X5_post (x1 : Int32) (j2 : Nat) (σ : Mem) : Option (Mem) := (if x1 = (-1 : Int32) then some σ else bn (f_X5_grow x1 σ) (fun r4 s3 => (if r4 = (0 : Int32) then some s3 else gd (vin ((s3 501 0 0) - (1 : Int32)) 60) (gd (decide ((s3 500 0 (((s3 501 0 0) - (1 : Int32))).toNatClampNeg).toNatClampNeg < 60)) (bv (f_X2_write j2 ((s3 500 0 (((s3 501 0 0) - (1 : Int32))).toNatClampNeg).toNatClampNeg) s3) (fun s9 => some s9))))))
set_option maxHeartbeats 4000000 in
set_option maxRecDepth 100000 in
theorem c_X5_post {l : Launch} {D : va_G} {cA : Nat → ClassId} {ad : Nat → Nat → Nat} {A : Nat → Prop} {o : Nat → Int64} (hD0 : ∀ σ, va_D A (wW cA ad σ o)) (x1 : Int32) (j2 : Nat) (hj2 : j2 < 2) (σ : Mem) {r : Mem} (h : f_X5_post x1 j2 σ = some r) : Met l yX5_post (wsG yX5_post cX5_post 3 none) rm_X5_post (va_Pc [.ref (ad 599 0), .int x1, .ref (ad 299 j2)] (IW D cA ad o σ)) (Qv D cA ad o A r) 0 0 A := by
  refine metG (by decide) (Nat.le_of_ble_eq_true rfl) hD0 ?_
  intro p e s m args below meth c C ls hh hl
  have C : Cx p s m args meth c cX5_post 3 RX5 none D cA ad A o := C
  have hl : lv_has ls 3 [(0, .ref (ad 599 0)), (1, .int x1), (2, .ref (ad 299 j2))] := hl
  obtain ⟨⟨hx, hb, hml, hown, hts⟩, hK, hN, hD, hr, hlocks⟩ := id C
  unfold f_X5_post at h
  refine lv_iload_n hx hb dX5_post_0 rfl (lv_at hl 1 rfl) ?_
  refine lv_iconst (v := (-1 : Int32)) hx hb dX5_post_1 (by decide) ?_
  refine lv_icmp_eq (tgt := 31) hx hb dX5_post_2 (by decide) (fun c1 => ?_) (fun c1 => ?_)
  · rw [if_pos c1] at h
    exact r_void C hh h dX5_post_31
  · rw [if_neg c1] at h
    refine lv_aload_n hx hb dX5_post_5 rfl (lv_at hl 0 rfl) ?_
    refine lv_iload_n hx hb dX5_post_6 rfl (lv_at hl 1 rfl) ?_
    obtain ⟨r4, s3, e2, h⟩ := bn_e h
    refine c_int hh (vrun (rest := []) C hh (c_X5_grow C.2.2.2.1 x1 σ e2) LM_5_25 IM_X5_grow SL_X5_grow IN_5 CD_X5_grow HD_X5_grow ⟨rfl, rfl, Nat.le_of_ble_eq_true rfl, Nat.le_of_ble_eq_true rfl⟩ (rv_5 C hh) rfl hl.1 rfl (Nat.le_of_ble_eq_true rfl) dX5_post_7 ⟨Nat.zero_le _, Nat.zero_le _⟩) (fun H locs hh => ?_)
    refine lv_if_eq (tgt := 31) hx hb dX5_post_10 (by decide) (fun c5 => ?_) (fun c5 => ?_)
    · rw [if_pos c5] at h
      exact r_void C hh h dX5_post_31
    · rw [if_neg c5] at h
      refine lv_aload_n hx hb dX5_post_13 rfl (lv_at hl 2 rfl) ?_
      refine lv_aload_n hx hb dX5_post_14 rfl (lv_at hl 0 rfl) ?_
      refine gf_5_11 C hh dX5_post_15 ?_
      refine lv_aload_n hx hb dX5_post_18 rfl (lv_at hl 0 rfl) ?_
      refine gf_5_17 C hh dX5_post_19 ?_
      refine lv_iconst (v := (1 : Int32)) hx hb dX5_post_22 (by decide) ?_
      refine lv_isub hx hb dX5_post_23 ?_
      obtain ⟨b6, h⟩ := gd_e h
      refine al_500 C hh b6 dX5_post_24 ?_
      obtain ⟨b7, h⟩ := gd_e h
      refine gf_5_29 C hh (bl_lt b7) dX5_post_25 ?_
      obtain ⟨s9, e8, h⟩ := bv_e h
      refine c_void hh (vrun (rest := []) C hh (c_X2_write C.2.2.2.1 j2 hj2 ((s3 500 0 (((s3 501 0 0) - (1 : Int32))).toNatClampNeg).toNatClampNeg) (Nat.lt_trans (bl_lt b7) (by decide)) s3 e8) LM_5_33 IM_X2_write SL_X2_write IN_2 CD_X2_write HD_X2_write ⟨rfl, rfl, Nat.le_of_ble_eq_true rfl, Nat.le_of_ble_eq_true rfl⟩ (rv_2 C hh hj2) rfl hl.1 rfl (Nat.le_of_ble_eq_true rfl) dX5_post_28 ⟨Nat.zero_le _, Nat.zero_le _⟩) (fun H locs hh => ?_)
      exact r_void C hh h dX5_post_31
abbrev rm_X7_tick : Room := { frames := 6, cells := 0, slots := 0, locals := 135 }
theorem HD_X7_tick : yX7_tick.cls = RX7 ∧ yX7_tick.cls ≠ "java/lang/invoke/MethodHandle" ∧ yX7_tick.cls ≠ "java/lang/invoke/VarHandle" ∧ (parseMethodDescriptor yX7_tick.desc).map (fun d => d.parameters.length) = some 0 := by decide +kernel
def f_X7_tick_12 : Nat → Int32 → Mem → Option (Int32 × Mem)
  | 0, _, _ => none
  | n + 1, x1, σ => (if (12 : Int32) ≤ x1 then some ((σ 708 0 0), σ) else gd (vin x1 12) (bn (f_X1_passTime ((x1).toNatClampNeg) (σ 708 0 0) 1 σ) (fun r5 s4 => bv (f_X5_post r5 1 s4) (fun s7 => vl (x1 + (1 : Int32)) (fun v8 => f_X7_tick_12 n v8 s7)))))
set_option maxHeartbeats 4000000 in
set_option maxRecDepth 100000 in
theorem k_X7_tick_12 {p : Program} {l : Launch} {e : Env} {s : State} {m : MethodId} {args : Array Value} {below : List Frame} {meth : Method} {c : Code} {D : va_G} {cA : Nat → ClassId} {ad : Nat → Nat → Nat} {A : Nat → Prop} {o : Nat → Int64} (C : Cx p s m args meth c cX7_tick 2 RX7 (some .int) D cA ad A o) {r : Int32 × Mem} : ∀ (n : Nat) (x1 : Int32) (σ : Mem) {H : Heap} {locs : List Loc} (h : f_X7_tick_12 n x1 σ = some r) (hh : HH D cA ad A o s σ H locs) {ls : Array Slot} (hl : lv_has ls 2 [(0, .ref (ad 799 0)), (1, .int x1)]), W p l e rm_X7_tick s m args below meth c H locs 0 0 (MQ below (Qi D cA ad o A r) args s 0 0 A) (F0 m 12 ls []) := by
  obtain ⟨⟨hx, hb, hml, hown, hts⟩, hK, hN, hD, hr, hlocks⟩ := id C
  intro n
  induction n with
  | zero =>
    intro x1 σ H locs h
    rw [f_X7_tick_12.eq_1] at h
    cases h
  | succ n ih =>
    intro x1 σ H locs h hh ls hl
    rw [f_X7_tick_12.eq_2] at h
    refine lv_iload_n hx hb dX7_tick_12 rfl (lv_at hl 1 rfl) ?_
    refine lv_bipush (v := (12 : Int32)) hx hb dX7_tick_13 (by decide) ?_
    refine lv_icmp_ge (tgt := 52) hx hb dX7_tick_15 (by decide) (fun c1 => ?_) (fun c1 => ?_)
    · rw [if_pos c1] at h
      refine lv_aload_n hx hb dX7_tick_52 rfl (lv_at hl 0 rfl) ?_
      refine gf_7_53 C hh dX7_tick_53 ?_
      exact r_int C hh h dX7_tick_56
    · rw [if_neg c1] at h
      refine lv_aload_n hx hb dX7_tick_18 rfl (lv_at hl 0 rfl) ?_
      refine gf_7_10 C hh dX7_tick_19 ?_
      refine lv_aload_n hx hb dX7_tick_22 rfl (lv_at hl 0 rfl) ?_
      refine gf_7_25 C hh dX7_tick_23 ?_
      refine lv_iload_n hx hb dX7_tick_26 rfl (lv_at hl 1 rfl) ?_
      obtain ⟨b2, h⟩ := gd_e h
      refine al_702 C hh b2 dX7_tick_27 ?_
      refine lv_aload_n hx hb dX7_tick_28 rfl (lv_at hl 0 rfl) ?_
      refine gf_7_53 C hh dX7_tick_29 ?_
      refine lv_aload_n hx hb dX7_tick_32 rfl (lv_at hl 0 rfl) ?_
      refine gf_7_50 C hh dX7_tick_33 ?_
      obtain ⟨r5, s4, e3, h⟩ := bn_e h
      refine c_int hh (vrun (rest := [.ref (ad 599 0)]) C hh (c_X1_passTime C.2.2.2.1 ((x1).toNatClampNeg) (vin_l b2) (σ 708 0 0) 1 (by decide) σ e3) LM_7_108 IM_X1_passTime SL_X1_passTime IN_1 CD_X1_passTime HD_X1_passTime ⟨rfl, rfl, Nat.le_of_ble_eq_true rfl, Nat.le_of_ble_eq_true rfl⟩ (rv_1 C hh (vin_l b2)) rfl hl.1 rfl (Nat.le_of_ble_eq_true rfl) dX7_tick_36 ⟨Nat.zero_le _, Nat.zero_le _⟩) (fun H locs hh => ?_)
      refine lv_aload_n hx hb dX7_tick_39 rfl (lv_at hl 0 rfl) ?_
      refine gf_7_50 C hh dX7_tick_40 ?_
      obtain ⟨s7, e6, h⟩ := bv_e h
      refine c_void hh (vrun (rest := []) C hh (c_X5_post C.2.2.2.1 r5 1 (by decide) s4 e6) LM_7_93 IM_X5_post SL_X5_post IN_5 CD_X5_post HD_X5_post ⟨rfl, rfl, Nat.le_of_ble_eq_true rfl, Nat.le_of_ble_eq_true rfl⟩ (rv_5 C hh) rfl hl.1 rfl (Nat.le_of_ble_eq_true rfl) dX7_tick_43 ⟨Nat.zero_le _, Nat.zero_le _⟩) (fun H locs hh => ?_)
      obtain ⟨v8, e9, h⟩ := vl_e h
      refine lv_iinc (v := v8) (lv' := [(1, .int v8), (0, .ref (ad 799 0))]) hx hb dX7_tick_46 hl (k := 1) rfl (by rw [e9]; rfl) (by decide) rfl (fun ls hl => ?_)
      refine lv_goto (tgt := 12) hx hb dX7_tick_49 (by decide) ?_
      exact ih v8 s7 h hh (lv_sub hl [1, 0] rfl)
def f_X7_tick (σ : Mem) : Option (Int32 × Mem) := vl (up σ 708 0 0 ((σ 708 0 0) + (1 : Int32))) (fun s1 => f_X7_tick_12 5000 (0 : Int32) s1)
set_option maxHeartbeats 4000000 in
set_option maxRecDepth 100000 in
theorem c_X7_tick {l : Launch} {D : va_G} {cA : Nat → ClassId} {ad : Nat → Nat → Nat} {A : Nat → Prop} {o : Nat → Int64} (hD0 : ∀ σ, va_D A (wW cA ad σ o)) (σ : Mem) {r : Int32 × Mem} (h : f_X7_tick σ = some r) : Met l yX7_tick (wsG yX7_tick cX7_tick 2 (some .int)) rm_X7_tick (va_Pc [.ref (ad 799 0)] (IW D cA ad o σ)) (Qi D cA ad o A r) 0 0 A := by
  refine metG (by decide) (Nat.le_of_ble_eq_true rfl) hD0 ?_
  intro p e s m args below meth c C ls hh hl
  have C : Cx p s m args meth c cX7_tick 2 RX7 (some .int) D cA ad A o := C
  have hl : lv_has ls 2 [(0, .ref (ad 799 0))] := hl
  obtain ⟨⟨hx, hb, hml, hown, hts⟩, hK, hN, hD, hr, hlocks⟩ := id C
  unfold f_X7_tick at h
  refine lv_aload_n hx hb dX7_tick_0 rfl (lv_at hl 0 rfl) ?_
  refine lv_dup hx hb dX7_tick_1 rfl ?_
  refine gf_7_53 C hh dX7_tick_2 ?_
  refine lv_iconst (v := (1 : Int32)) hx hb dX7_tick_5 (by decide) ?_
  refine lv_iadd hx hb dX7_tick_6 ?_
  obtain ⟨s1, e2, h⟩ := vl_e h
  refine pf_7_53 C hh dX7_tick_7 (fun H locs hh => ?_)
  rw [← e2] at hh
  refine lv_iconst (v := (0 : Int32)) hx hb dX7_tick_10 (by decide) ?_
  refine lv_istore_n (lv' := [(1, .int (0 : Int32)), (0, .ref (ad 799 0))]) hx hb dX7_tick_11 rfl hl (by decide) rfl (fun ls hl => ?_)
  exact k_X7_tick_12 C 5000 (0 : Int32) s1 h hh (lv_sub hl [1, 0] rfl)
abbrev rm_X7_packets : Room := { frames := 0, cells := 0, slots := 0, locals := 0 }
theorem HD_X7_packets : yX7_packets.cls = RX7 ∧ yX7_packets.cls ≠ "java/lang/invoke/MethodHandle" ∧ yX7_packets.cls ≠ "java/lang/invoke/VarHandle" ∧ (parseMethodDescriptor yX7_packets.desc).map (fun d => d.parameters.length) = some 0 := by decide +kernel
def f_X7_packets (σ : Mem) : Option (Int32 × Mem) := some ((σ 501 0 0), σ)
set_option maxHeartbeats 4000000 in
set_option maxRecDepth 100000 in
theorem c_X7_packets {l : Launch} {D : va_G} {cA : Nat → ClassId} {ad : Nat → Nat → Nat} {A : Nat → Prop} {o : Nat → Int64} (hD0 : ∀ σ, va_D A (wW cA ad σ o)) (σ : Mem) {r : Int32 × Mem} (h : f_X7_packets σ = some r) : Met l yX7_packets (wsG yX7_packets cX7_packets 1 (some .int)) rm_X7_packets (va_Pc [.ref (ad 799 0)] (IW D cA ad o σ)) (Qi D cA ad o A r) 0 0 A := by
  refine metG (by decide) (Nat.le_of_ble_eq_true rfl) hD0 ?_
  intro p e s m args below meth c C ls hh hl
  have C : Cx p s m args meth c cX7_packets 1 RX7 (some .int) D cA ad A o := C
  have hl : lv_has ls 1 [(0, .ref (ad 799 0))] := hl
  obtain ⟨⟨hx, hb, hml, hown, hts⟩, hK, hN, hD, hr, hlocks⟩ := id C
  unfold f_X7_packets at h
  refine lv_aload_n hx hb dX7_packets_0 rfl (lv_at hl 0 rfl) ?_
  refine gf_7_10 C hh dX7_packets_1 ?_
  refine gf_7_111 C hh dX7_packets_4 ?_
  exact r_int C hh h dX7_packets_7
abbrev rm_X7_type : Room := { frames := 1, cells := 0, slots := 0, locals := 21 }
theorem HD_X7_type : yX7_type.cls = RX7 ∧ yX7_type.cls ≠ "java/lang/invoke/MethodHandle" ∧ yX7_type.cls ≠ "java/lang/invoke/VarHandle" ∧ (parseMethodDescriptor yX7_type.desc).map (fun d => d.parameters.length) = some 2 := by decide +kernel
def f_X7_type_30 : Nat → Int64 → Int32 → Int32 → Mem → Option (Int32 × Mem)
  | 0, _, _, _, _ => none
  | n + 1, w1, x3, x4, σ => (if x3 ≤ x4 then some ((1 : Int32), σ) else bv (f_X0_add 60 (((((w1).toUInt64 >>> ((((8 : Int32) * x4)).toInt64.toUInt64 &&& Int64.toUInt64 63)).toInt64)).toInt32) σ) (fun s3 => vl (x4 + (1 : Int32)) (fun v4 => f_X7_type_30 n w1 x3 v4 s3)))
set_option maxHeartbeats 4000000 in
set_option maxRecDepth 100000 in
theorem k_X7_type_30 {p : Program} {l : Launch} {e : Env} {s : State} {m : MethodId} {args : Array Value} {below : List Frame} {meth : Method} {c : Code} {D : va_G} {cA : Nat → ClassId} {ad : Nat → Nat → Nat} {A : Nat → Prop} {o : Nat → Int64} (C : Cx p s m args meth c cX7_type 5 RX7 (some .boolean) D cA ad A o) {r : Int32 × Mem} : ∀ (n : Nat) (w1 : Int64) (x3 : Int32) (x4 : Int32) (σ : Mem) {H : Heap} {locs : List Loc} (h : f_X7_type_30 n w1 x3 x4 σ = some r) (hh : HH D cA ad A o s σ H locs) {ls : Array Slot} (hl : lv_has ls 5 [(0, .ref (ad 799 0)), (1, .long w1), (3, .int x3), (4, .int x4)]), W p l e rm_X7_type s m args below meth c H locs 0 0 (MQ below (Qi D cA ad o A r) args s 0 0 A) (F0 m 30 ls []) := by
  obtain ⟨⟨hx, hb, hml, hown, hts⟩, hK, hN, hD, hr, hlocks⟩ := id C
  intro n
  induction n with
  | zero =>
    intro w1 x3 x4 σ H locs h
    rw [f_X7_type_30.eq_1] at h
    cases h
  | succ n ih =>
    intro w1 x3 x4 σ H locs h hh ls hl
    rw [f_X7_type_30.eq_2] at h
    refine lv_iload hx hb dX7_type_30 (lv_at hl 3 rfl) ?_
    refine lv_iload_n hx hb dX7_type_32 rfl (lv_at hl 2 rfl) ?_
    refine lv_icmp_ge (tgt := 57) hx hb dX7_type_33 (by decide) (fun c1 => ?_) (fun c1 => ?_)
    · rw [if_pos c1] at h
      refine lv_iconst (v := (1 : Int32)) hx hb dX7_type_57 (by decide) ?_
      exact r_bool C hh (by decide) h dX7_type_58
    · rw [if_neg c1] at h
      refine lv_aload_n hx hb dX7_type_36 rfl (lv_at hl 0 rfl) ?_
      refine gf_7_36 C hh dX7_type_37 ?_
      refine lv_lload_n hx hb dX7_type_40 rfl (lv_at hl 1 rfl) ?_
      refine lv_bipush (v := (8 : Int32)) hx hb dX7_type_41 (by decide) ?_
      refine lv_iload hx hb dX7_type_43 (lv_at hl 3 rfl) ?_
      refine lv_imul hx hb dX7_type_45 ?_
      refine lv_lushr (v := ((w1).toUInt64 >>> ((((8 : Int32) * x4)).toInt64.toUInt64 &&& Int64.toUInt64 63)).toInt64) hx hb dX7_type_46 rfl ?_
      refine lv_l2i (v := ((((w1).toUInt64 >>> ((((8 : Int32) * x4)).toInt64.toUInt64 &&& Int64.toUInt64 63)).toInt64)).toInt32) hx hb dX7_type_47 rfl ?_
      obtain ⟨s3, e2, h⟩ := bv_e h
      refine c_void hh (vrun (rest := []) C hh (c_X0_add C.2.2.2.1 60 (by decide) (((((w1).toUInt64 >>> ((((8 : Int32) * x4)).toInt64.toUInt64 &&& Int64.toUInt64 63)).toInt64)).toInt32) σ e2) LM_7_146 IM_X0_add SL_X0_add IN_0 CD_X0_add HD_X0_add ⟨rfl, rfl, Nat.le_of_ble_eq_true rfl, Nat.le_of_ble_eq_true rfl⟩ (rv_0 C hh (by decide)) rfl hl.1 rfl (Nat.le_of_ble_eq_true rfl) dX7_type_48 ⟨Nat.zero_le _, Nat.zero_le _⟩) (fun H locs hh => ?_)
      obtain ⟨v4, e5, h⟩ := vl_e h
      refine lv_iinc (v := v4) (lv' := [(4, .int v4), (0, .ref (ad 799 0)), (1, .long w1), (3, .int x3)]) hx hb dX7_type_51 hl (k := 3) rfl (by rw [e5]; rfl) (by decide) rfl (fun ls hl => ?_)
      refine lv_goto (tgt := 30) hx hb dX7_type_54 (by decide) ?_
      exact ih w1 x3 v4 s3 h hh (lv_sub hl [1, 2, 3, 0] rfl)
def f_X7_type (w1 : Int64) (x3 : Int32) (σ : Mem) : Option (Int32 × Mem) := (if x3 < (1 : Int32) then some ((0 : Int32), σ) else (if (8 : Int32) < x3 then some ((0 : Int32), σ) else (if ((σ 1 60 0) + x3) ≤ (60 : Int32) then f_X7_type_30 5000 w1 x3 (0 : Int32) σ else some ((0 : Int32), σ))))
set_option maxHeartbeats 4000000 in
set_option maxRecDepth 100000 in
theorem c_X7_type {l : Launch} {D : va_G} {cA : Nat → ClassId} {ad : Nat → Nat → Nat} {A : Nat → Prop} {o : Nat → Int64} (hD0 : ∀ σ, va_D A (wW cA ad σ o)) (w1 : Int64) (x3 : Int32) (σ : Mem) {r : Int32 × Mem} (h : f_X7_type w1 x3 σ = some r) : Met l yX7_type (wsG yX7_type cX7_type 5 (some .boolean)) rm_X7_type (va_Pc [.ref (ad 799 0), .long w1, .int x3] (IW D cA ad o σ)) (Qi D cA ad o A r) 0 0 A := by
  refine metG (by decide) (Nat.le_of_ble_eq_true rfl) hD0 ?_
  intro p e s m args below meth c C ls hh hl
  have C : Cx p s m args meth c cX7_type 5 RX7 (some .boolean) D cA ad A o := C
  have hl : lv_has ls 5 [(0, .ref (ad 799 0)), (1, .long w1), (3, .int x3)] := hl
  obtain ⟨⟨hx, hb, hml, hown, hts⟩, hK, hN, hD, hr, hlocks⟩ := id C
  unfold f_X7_type at h
  refine lv_iload_n hx hb dX7_type_0 rfl (lv_at hl 2 rfl) ?_
  refine lv_iconst (v := (1 : Int32)) hx hb dX7_type_1 (by decide) ?_
  refine lv_icmp_lt (tgt := 25) hx hb dX7_type_2 (by decide) (fun c1 => ?_) (fun c1 => ?_)
  · rw [if_pos c1] at h
    refine lv_iconst (v := (0 : Int32)) hx hb dX7_type_25 (by decide) ?_
    exact r_bool C hh (by decide) h dX7_type_26
  · rw [if_neg c1] at h
    refine lv_iload_n hx hb dX7_type_5 rfl (lv_at hl 2 rfl) ?_
    refine lv_bipush (v := (8 : Int32)) hx hb dX7_type_6 (by decide) ?_
    refine lv_icmp_gt (tgt := 25) hx hb dX7_type_8 (by decide) (fun c2 => ?_) (fun c2 => ?_)
    · rw [if_pos c2] at h
      refine lv_iconst (v := (0 : Int32)) hx hb dX7_type_25 (by decide) ?_
      exact r_bool C hh (by decide) h dX7_type_26
    · rw [if_neg c2] at h
      refine lv_aload_n hx hb dX7_type_11 rfl (lv_at hl 0 rfl) ?_
      refine gf_7_36 C hh dX7_type_12 ?_
      refine gf_7_126 C hh (by decide) dX7_type_15 ?_
      refine lv_iload_n hx hb dX7_type_18 rfl (lv_at hl 2 rfl) ?_
      refine lv_iadd hx hb dX7_type_19 ?_
      refine lv_bipush (v := (60 : Int32)) hx hb dX7_type_20 (by decide) ?_
      refine lv_icmp_le (tgt := 27) hx hb dX7_type_22 (by decide) (fun c3 => ?_) (fun c3 => ?_)
      · rw [if_pos c3] at h
        refine lv_iconst (v := (0 : Int32)) hx hb dX7_type_27 (by decide) ?_
        refine lv_istore (lv' := [(4, .int (0 : Int32)), (0, .ref (ad 799 0)), (1, .long w1), (3, .int x3)]) hx hb dX7_type_28 hl (by decide) rfl (fun ls hl => ?_)
        exact k_X7_type_30 C 5000 w1 x3 (0 : Int32) σ h hh (lv_sub hl [1, 2, 3, 0] rfl)
      · rw [if_neg c3] at h
        refine lv_iconst (v := (0 : Int32)) hx hb dX7_type_25 (by decide) ?_
        exact r_bool C hh (by decide) h dX7_type_26
abbrev rm_X7_isClient : Room := { frames := 0, cells := 0, slots := 0, locals := 0 }
theorem HD_X7_isClient : yX7_isClient.cls = RX7 ∧ yX7_isClient.cls ≠ "java/lang/invoke/MethodHandle" ∧ yX7_isClient.cls ≠ "java/lang/invoke/VarHandle" ∧ (parseMethodDescriptor yX7_isClient.desc).map (fun d => d.parameters.length) = some 1 := by decide +kernel
def f_X7_isClient (x0 : Int32) (σ : Mem) : Option (Int32 × Mem) := (if x0 < (0 : Int32) then some ((0 : Int32), σ) else (if (12 : Int32) ≤ x0 then some ((0 : Int32), σ) else some ((1 : Int32), σ)))
set_option maxHeartbeats 4000000 in
set_option maxRecDepth 100000 in
theorem c_X7_isClient {l : Launch} {D : va_G} {cA : Nat → ClassId} {ad : Nat → Nat → Nat} {A : Nat → Prop} {o : Nat → Int64} (hD0 : ∀ σ, va_D A (wW cA ad σ o)) (x0 : Int32) (σ : Mem) {r : Int32 × Mem} (h : f_X7_isClient x0 σ = some r) : Met l yX7_isClient (wsG yX7_isClient cX7_isClient 1 (some .boolean)) rm_X7_isClient (va_Pc [.int x0] (IW D cA ad o σ)) (Qi D cA ad o A r) 0 0 A := by
  refine metG (by decide) (Nat.le_of_ble_eq_true rfl) hD0 ?_
  intro p e s m args below meth c C ls hh hl
  have C : Cx p s m args meth c cX7_isClient 1 RX7 (some .boolean) D cA ad A o := C
  have hl : lv_has ls 1 [(0, .int x0)] := hl
  obtain ⟨⟨hx, hb, hml, hown, hts⟩, hK, hN, hD, hr, hlocks⟩ := id C
  unfold f_X7_isClient at h
  refine lv_iload_n hx hb dX7_isClient_0 rfl (lv_at hl 0 rfl) ?_
  refine lv_if_lt (tgt := 14) hx hb dX7_isClient_1 (by decide) (fun c1 => ?_) (fun c1 => ?_)
  · rw [if_pos c1] at h
    refine lv_iconst (v := (0 : Int32)) hx hb dX7_isClient_14 (by decide) ?_
    exact r_bool C hh (by decide) h dX7_isClient_15
  · rw [if_neg c1] at h
    refine lv_iload_n hx hb dX7_isClient_4 rfl (lv_at hl 0 rfl) ?_
    refine lv_bipush (v := (12 : Int32)) hx hb dX7_isClient_5 (by decide) ?_
    refine lv_icmp_ge (tgt := 14) hx hb dX7_isClient_7 (by decide) (fun c2 => ?_) (fun c2 => ?_)
    · rw [if_pos c2] at h
      refine lv_iconst (v := (0 : Int32)) hx hb dX7_isClient_14 (by decide) ?_
      exact r_bool C hh (by decide) h dX7_isClient_15
    · rw [if_neg c2] at h
      refine lv_iconst (v := (1 : Int32)) hx hb dX7_isClient_10 (by decide) ?_
      refine lv_goto (tgt := 15) hx hb dX7_isClient_11 (by decide) ?_
      exact r_bool C hh (by decide) h dX7_isClient_15
abbrev rm_X7_isSubnet : Room := { frames := 0, cells := 0, slots := 0, locals := 0 }
theorem HD_X7_isSubnet : yX7_isSubnet.cls = RX7 ∧ yX7_isSubnet.cls ≠ "java/lang/invoke/MethodHandle" ∧ yX7_isSubnet.cls ≠ "java/lang/invoke/VarHandle" ∧ (parseMethodDescriptor yX7_isSubnet.desc).map (fun d => d.parameters.length) = some 1 := by decide +kernel
def f_X7_isSubnet (x0 : Int32) (σ : Mem) : Option (Int32 × Mem) := (if x0 < (0 : Int32) then some ((0 : Int32), σ) else (if (4 : Int32) ≤ x0 then some ((0 : Int32), σ) else some ((1 : Int32), σ)))
set_option maxHeartbeats 4000000 in
set_option maxRecDepth 100000 in
theorem c_X7_isSubnet {l : Launch} {D : va_G} {cA : Nat → ClassId} {ad : Nat → Nat → Nat} {A : Nat → Prop} {o : Nat → Int64} (hD0 : ∀ σ, va_D A (wW cA ad σ o)) (x0 : Int32) (σ : Mem) {r : Int32 × Mem} (h : f_X7_isSubnet x0 σ = some r) : Met l yX7_isSubnet (wsG yX7_isSubnet cX7_isSubnet 1 (some .boolean)) rm_X7_isSubnet (va_Pc [.int x0] (IW D cA ad o σ)) (Qi D cA ad o A r) 0 0 A := by
  refine metG (by decide) (Nat.le_of_ble_eq_true rfl) hD0 ?_
  intro p e s m args below meth c C ls hh hl
  have C : Cx p s m args meth c cX7_isSubnet 1 RX7 (some .boolean) D cA ad A o := C
  have hl : lv_has ls 1 [(0, .int x0)] := hl
  obtain ⟨⟨hx, hb, hml, hown, hts⟩, hK, hN, hD, hr, hlocks⟩ := id C
  unfold f_X7_isSubnet at h
  refine lv_iload_n hx hb dX7_isSubnet_0 rfl (lv_at hl 0 rfl) ?_
  refine lv_if_lt (tgt := 13) hx hb dX7_isSubnet_1 (by decide) (fun c1 => ?_) (fun c1 => ?_)
  · rw [if_pos c1] at h
    refine lv_iconst (v := (0 : Int32)) hx hb dX7_isSubnet_13 (by decide) ?_
    exact r_bool C hh (by decide) h dX7_isSubnet_14
  · rw [if_neg c1] at h
    refine lv_iload_n hx hb dX7_isSubnet_4 rfl (lv_at hl 0 rfl) ?_
    refine lv_iconst (v := (4 : Int32)) hx hb dX7_isSubnet_5 (by decide) ?_
    refine lv_icmp_ge (tgt := 13) hx hb dX7_isSubnet_6 (by decide) (fun c2 => ?_) (fun c2 => ?_)
    · rw [if_pos c2] at h
      refine lv_iconst (v := (0 : Int32)) hx hb dX7_isSubnet_13 (by decide) ?_
      exact r_bool C hh (by decide) h dX7_isSubnet_14
    · rw [if_neg c2] at h
      refine lv_iconst (v := (1 : Int32)) hx hb dX7_isSubnet_9 (by decide) ?_
      refine lv_goto (tgt := 14) hx hb dX7_isSubnet_10 (by decide) ?_
      exact r_bool C hh (by decide) h dX7_isSubnet_14
abbrev rm_X7_isAddress : Room := { frames := 0, cells := 0, slots := 0, locals := 0 }
theorem HD_X7_isAddress : yX7_isAddress.cls = RX7 ∧ yX7_isAddress.cls ≠ "java/lang/invoke/MethodHandle" ∧ yX7_isAddress.cls ≠ "java/lang/invoke/VarHandle" ∧ (parseMethodDescriptor yX7_isAddress.desc).map (fun d => d.parameters.length) = some 1 := by decide +kernel
def f_X7_isAddress (x0 : Int32) (σ : Mem) : Option (Int32 × Mem) := (if x0 ≤ (0 : Int32) then some ((0 : Int32), σ) else (if (1024 : Int32) ≤ x0 then some ((0 : Int32), σ) else some ((1 : Int32), σ)))
set_option maxHeartbeats 4000000 in
set_option maxRecDepth 100000 in
theorem c_X7_isAddress {l : Launch} {D : va_G} {cA : Nat → ClassId} {ad : Nat → Nat → Nat} {A : Nat → Prop} {o : Nat → Int64} (hD0 : ∀ σ, va_D A (wW cA ad σ o)) (x0 : Int32) (σ : Mem) {r : Int32 × Mem} (h : f_X7_isAddress x0 σ = some r) : Met l yX7_isAddress (wsG yX7_isAddress cX7_isAddress 1 (some .boolean)) rm_X7_isAddress (va_Pc [.int x0] (IW D cA ad o σ)) (Qi D cA ad o A r) 0 0 A := by
  refine metG (by decide) (Nat.le_of_ble_eq_true rfl) hD0 ?_
  intro p e s m args below meth c C ls hh hl
  have C : Cx p s m args meth c cX7_isAddress 1 RX7 (some .boolean) D cA ad A o := C
  have hl : lv_has ls 1 [(0, .int x0)] := hl
  obtain ⟨⟨hx, hb, hml, hown, hts⟩, hK, hN, hD, hr, hlocks⟩ := id C
  unfold f_X7_isAddress at h
  refine lv_iload_n hx hb dX7_isAddress_0 rfl (lv_at hl 0 rfl) ?_
  refine lv_if_le (tgt := 15) hx hb dX7_isAddress_1 (by decide) (fun c1 => ?_) (fun c1 => ?_)
  · rw [if_pos c1] at h
    refine lv_iconst (v := (0 : Int32)) hx hb dX7_isAddress_15 (by decide) ?_
    exact r_bool C hh (by decide) h dX7_isAddress_16
  · rw [if_neg c1] at h
    refine lv_iload_n hx hb dX7_isAddress_4 rfl (lv_at hl 0 rfl) ?_
    refine lv_sipush (v := (1024 : Int32)) hx hb dX7_isAddress_5 (by decide) ?_
    refine lv_icmp_ge (tgt := 15) hx hb dX7_isAddress_8 (by decide) (fun c2 => ?_) (fun c2 => ?_)
    · rw [if_pos c2] at h
      refine lv_iconst (v := (0 : Int32)) hx hb dX7_isAddress_15 (by decide) ?_
      exact r_bool C hh (by decide) h dX7_isAddress_16
    · rw [if_neg c2] at h
      refine lv_iconst (v := (1 : Int32)) hx hb dX7_isAddress_11 (by decide) ?_
      refine lv_goto (tgt := 16) hx hb dX7_isAddress_12 (by decide) ?_
      exact r_bool C hh (by decide) h dX7_isAddress_16
abbrev rm_X7_isPlace : Room := { frames := 0, cells := 0, slots := 0, locals := 0 }
theorem HD_X7_isPlace : yX7_isPlace.cls = RX7 ∧ yX7_isPlace.cls ≠ "java/lang/invoke/MethodHandle" ∧ yX7_isPlace.cls ≠ "java/lang/invoke/VarHandle" ∧ (parseMethodDescriptor yX7_isPlace.desc).map (fun d => d.parameters.length) = some 1 := by decide +kernel
def f_X7_isPlace (x0 : Int32) (σ : Mem) : Option (Int32 × Mem) := (if x0 < (0 : Int32) then some ((0 : Int32), σ) else (if (16 : Int32) < x0 then some ((0 : Int32), σ) else (if x0 = (12 : Int32) then some ((0 : Int32), σ) else some ((1 : Int32), σ))))
set_option maxHeartbeats 4000000 in
set_option maxRecDepth 100000 in
theorem c_X7_isPlace {l : Launch} {D : va_G} {cA : Nat → ClassId} {ad : Nat → Nat → Nat} {A : Nat → Prop} {o : Nat → Int64} (hD0 : ∀ σ, va_D A (wW cA ad σ o)) (x0 : Int32) (σ : Mem) {r : Int32 × Mem} (h : f_X7_isPlace x0 σ = some r) : Met l yX7_isPlace (wsG yX7_isPlace cX7_isPlace 1 (some .boolean)) rm_X7_isPlace (va_Pc [.int x0] (IW D cA ad o σ)) (Qi D cA ad o A r) 0 0 A := by
  refine metG (by decide) (Nat.le_of_ble_eq_true rfl) hD0 ?_
  intro p e s m args below meth c C ls hh hl
  have C : Cx p s m args meth c cX7_isPlace 1 RX7 (some .boolean) D cA ad A o := C
  have hl : lv_has ls 1 [(0, .int x0)] := hl
  obtain ⟨⟨hx, hb, hml, hown, hts⟩, hK, hN, hD, hr, hlocks⟩ := id C
  unfold f_X7_isPlace at h
  refine lv_iload_n hx hb dX7_isPlace_0 rfl (lv_at hl 0 rfl) ?_
  refine lv_if_lt (tgt := 20) hx hb dX7_isPlace_1 (by decide) (fun c1 => ?_) (fun c1 => ?_)
  · rw [if_pos c1] at h
    refine lv_iconst (v := (0 : Int32)) hx hb dX7_isPlace_20 (by decide) ?_
    exact r_bool C hh (by decide) h dX7_isPlace_21
  · rw [if_neg c1] at h
    refine lv_iload_n hx hb dX7_isPlace_4 rfl (lv_at hl 0 rfl) ?_
    refine lv_bipush (v := (16 : Int32)) hx hb dX7_isPlace_5 (by decide) ?_
    refine lv_icmp_gt (tgt := 20) hx hb dX7_isPlace_7 (by decide) (fun c2 => ?_) (fun c2 => ?_)
    · rw [if_pos c2] at h
      refine lv_iconst (v := (0 : Int32)) hx hb dX7_isPlace_20 (by decide) ?_
      exact r_bool C hh (by decide) h dX7_isPlace_21
    · rw [if_neg c2] at h
      refine lv_iload_n hx hb dX7_isPlace_10 rfl (lv_at hl 0 rfl) ?_
      refine lv_bipush (v := (12 : Int32)) hx hb dX7_isPlace_11 (by decide) ?_
      refine lv_icmp_eq (tgt := 20) hx hb dX7_isPlace_13 (by decide) (fun c3 => ?_) (fun c3 => ?_)
      · rw [if_pos c3] at h
        refine lv_iconst (v := (0 : Int32)) hx hb dX7_isPlace_20 (by decide) ?_
        exact r_bool C hh (by decide) h dX7_isPlace_21
      · rw [if_neg c3] at h
        refine lv_iconst (v := (1 : Int32)) hx hb dX7_isPlace_16 (by decide) ?_
        refine lv_goto (tgt := 21) hx hb dX7_isPlace_17 (by decide) ?_
        exact r_bool C hh (by decide) h dX7_isPlace_21
abbrev rm_X0_setNumber : Room := { frames := 0, cells := 0, slots := 0, locals := 0 }
theorem HD_X0_setNumber : yX0_setNumber.cls = RX0 ∧ yX0_setNumber.cls ≠ "java/lang/invoke/MethodHandle" ∧ yX0_setNumber.cls ≠ "java/lang/invoke/VarHandle" ∧ (parseMethodDescriptor yX0_setNumber.desc).map (fun d => d.parameters.length) = some 2 := by decide +kernel
def f_X0_setNumber_2 : Nat → Nat → Int32 → Int32 → Int32 → Mem → Option (Mem)
  | 0, _, _, _, _, _ => none
  | n + 1, j0, x1, x2, x3, σ => (if (4 : Int32) ≤ x3 then some σ else (if (60 : Int32) ≤ (x1 + x3) then some σ else gd (vin (x1 + x3) 60) (vl (up σ 0 j0 ((x1 + x3)).toNatClampNeg ((((x2).toUInt32 >>> ((((24 : Int32) - ((8 : Int32) * x3))).toUInt32 &&& Int32.toUInt32 31)).toInt32) &&& (255 : Int32))) (fun s4 => vl (x3 + (1 : Int32)) (fun v6 => f_X0_setNumber_2 n j0 x1 x2 v6 s4)))))
set_option maxHeartbeats 4000000 in
set_option maxRecDepth 100000 in
theorem k_X0_setNumber_2 {p : Program} {l : Launch} {e : Env} {s : State} {m : MethodId} {args : Array Value} {below : List Frame} {meth : Method} {c : Code} {D : va_G} {cA : Nat → ClassId} {ad : Nat → Nat → Nat} {A : Nat → Prop} {o : Nat → Int64} (C : Cx p s m args meth c cX0_setNumber 4 RX0 none D cA ad A o) {r : Mem} : ∀ (n : Nat) (j0 : Nat) (hj0 : j0 < 62) (x1 : Int32) (x2 : Int32) (x3 : Int32) (σ : Mem) {H : Heap} {locs : List Loc} (h : f_X0_setNumber_2 n j0 x1 x2 x3 σ = some r) (hh : HH D cA ad A o s σ H locs) {ls : Array Slot} (hl : lv_has ls 4 [(0, .ref (ad 99 j0)), (1, .int x1), (2, .int x2), (3, .int x3)]), W p l e rm_X0_setNumber s m args below meth c H locs 0 0 (MQ below (Qv D cA ad o A r) args s 0 0 A) (F0 m 2 ls []) := by
  obtain ⟨⟨hx, hb, hml, hown, hts⟩, hK, hN, hD, hr, hlocks⟩ := id C
  intro n
  induction n with
  | zero =>
    intro j0 hj0 x1 x2 x3 σ H locs h
    rw [f_X0_setNumber_2.eq_1] at h
    cases h
  | succ n ih =>
    intro j0 hj0 x1 x2 x3 σ H locs h hh ls hl
    rw [f_X0_setNumber_2.eq_2] at h
    refine lv_iload_n hx hb dX0_setNumber_2 rfl (lv_at hl 3 rfl) ?_
    refine lv_iconst (v := (4 : Int32)) hx hb dX0_setNumber_3 (by decide) ?_
    refine lv_icmp_ge (tgt := 42) hx hb dX0_setNumber_4 (by decide) (fun c1 => ?_) (fun c1 => ?_)
    · rw [if_pos c1] at h
      exact r_void C hh h dX0_setNumber_42
    · rw [if_neg c1] at h
      refine lv_iload_n hx hb dX0_setNumber_7 rfl (lv_at hl 1 rfl) ?_
      refine lv_iload_n hx hb dX0_setNumber_8 rfl (lv_at hl 3 rfl) ?_
      refine lv_iadd hx hb dX0_setNumber_9 ?_
      refine lv_bipush (v := (60 : Int32)) hx hb dX0_setNumber_10 (by decide) ?_
      refine lv_icmp_ge (tgt := 42) hx hb dX0_setNumber_12 (by decide) (fun c2 => ?_) (fun c2 => ?_)
      · rw [if_pos c2] at h
        exact r_void C hh h dX0_setNumber_42
      · rw [if_neg c2] at h
        refine lv_aload_n hx hb dX0_setNumber_15 rfl (lv_at hl 0 rfl) ?_
        refine gf_0_9 C hh hj0 dX0_setNumber_16 ?_
        refine lv_iload_n hx hb dX0_setNumber_19 rfl (lv_at hl 1 rfl) ?_
        refine lv_iload_n hx hb dX0_setNumber_20 rfl (lv_at hl 3 rfl) ?_
        refine lv_iadd hx hb dX0_setNumber_21 ?_
        refine lv_iload_n hx hb dX0_setNumber_22 rfl (lv_at hl 2 rfl) ?_
        refine lv_bipush (v := (24 : Int32)) hx hb dX0_setNumber_23 (by decide) ?_
        refine lv_bipush (v := (8 : Int32)) hx hb dX0_setNumber_25 (by decide) ?_
        refine lv_iload_n hx hb dX0_setNumber_27 rfl (lv_at hl 3 rfl) ?_
        refine lv_imul hx hb dX0_setNumber_28 ?_
        refine lv_isub hx hb dX0_setNumber_29 ?_
        refine lv_iushr (v := ((x2).toUInt32 >>> ((((24 : Int32) - ((8 : Int32) * x3))).toUInt32 &&& Int32.toUInt32 31)).toInt32) hx hb dX0_setNumber_30 rfl ?_
        refine lv_sipush (v := (255 : Int32)) hx hb dX0_setNumber_31 (by decide) ?_
        refine lv_iand hx hb dX0_setNumber_34 ?_
        obtain ⟨b3, h⟩ := gd_e h
        obtain ⟨s4, e5, h⟩ := vl_e h
        refine as_0 C hh hj0 b3 dX0_setNumber_35 (fun H locs hh => ?_)
        rw [← e5] at hh
        obtain ⟨v6, e7, h⟩ := vl_e h
        refine lv_iinc (v := v6) (lv' := [(3, .int v6), (0, .ref (ad 99 j0)), (1, .int x1), (2, .int x2)]) hx hb dX0_setNumber_36 hl (k := 3) rfl (by rw [e7]; rfl) (by decide) rfl (fun ls hl => ?_)
        refine lv_goto (tgt := 2) hx hb dX0_setNumber_39 (by decide) ?_
        exact ih j0 hj0 x1 x2 v6 s4 h hh (lv_sub hl [1, 2, 3, 0] rfl)
def f_X0_setNumber (j0 : Nat) (x1 : Int32) (x2 : Int32) (σ : Mem) : Option (Mem) := f_X0_setNumber_2 5000 j0 x1 x2 (0 : Int32) σ
set_option maxHeartbeats 4000000 in
set_option maxRecDepth 100000 in
theorem c_X0_setNumber {l : Launch} {D : va_G} {cA : Nat → ClassId} {ad : Nat → Nat → Nat} {A : Nat → Prop} {o : Nat → Int64} (hD0 : ∀ σ, va_D A (wW cA ad σ o)) (j0 : Nat) (hj0 : j0 < 62) (x1 : Int32) (x2 : Int32) (σ : Mem) {r : Mem} (h : f_X0_setNumber j0 x1 x2 σ = some r) : Met l yX0_setNumber (wsG yX0_setNumber cX0_setNumber 4 none) rm_X0_setNumber (va_Pc [.ref (ad 99 j0), .int x1, .int x2] (IW D cA ad o σ)) (Qv D cA ad o A r) 0 0 A := by
  refine metG (by decide) (Nat.le_of_ble_eq_true rfl) hD0 ?_
  intro p e s m args below meth c C ls hh hl
  have C : Cx p s m args meth c cX0_setNumber 4 RX0 none D cA ad A o := C
  have hl : lv_has ls 4 [(0, .ref (ad 99 j0)), (1, .int x1), (2, .int x2)] := hl
  obtain ⟨⟨hx, hb, hml, hown, hts⟩, hK, hN, hD, hr, hlocks⟩ := id C
  unfold f_X0_setNumber at h
  refine lv_iconst (v := (0 : Int32)) hx hb dX0_setNumber_0 (by decide) ?_
  refine lv_istore_n (lv' := [(3, .int (0 : Int32)), (0, .ref (ad 99 j0)), (1, .int x1), (2, .int x2)]) hx hb dX0_setNumber_1 rfl hl (by decide) rfl (fun ls hl => ?_)
  exact k_X0_setNumber_2 C 5000 j0 hj0 x1 x2 (0 : Int32) σ h hh (lv_sub hl [1, 2, 3, 0] rfl)
abbrev rm_X0_copy : Room := { frames := 1, cells := 0, slots := 0, locals := 90 }
theorem HD_X0_copy : yX0_copy.cls = RX0 ∧ yX0_copy.cls ≠ "java/lang/invoke/MethodHandle" ∧ yX0_copy.cls ≠ "java/lang/invoke/VarHandle" ∧ (parseMethodDescriptor yX0_copy.desc).map (fun d => d.parameters.length) = some 1 := by decide +kernel
def f_X0_copy (j0 : Nat) (j1 : Nat) (σ : Mem) : Option (Mem) := gd (decide (¬ (σ 1 j1 0) < 0)) (gd (decide (((σ 1 j1 0)).toNatClampNeg ≤ 60)) (vl (upA σ 0 j0 (va_cpy (σ 0 j1) (σ 0 j0) 0 0 ((σ 1 j1 0)).toNatClampNeg)) (fun s3 => vl (up s3 1 j0 0 (s3 1 j1 0)) (fun s5 => some s5))))
set_option maxHeartbeats 4000000 in
set_option maxRecDepth 100000 in
theorem c_X0_copy {l : Launch} {D : va_G} {cA : Nat → ClassId} {ad : Nat → Nat → Nat} {A : Nat → Prop} {o : Nat → Int64} (hD0 : ∀ σ, va_D A (wW cA ad σ o)) (j0 : Nat) (hj0 : j0 < 62) (j1 : Nat) (hj1 : j1 < 62) (σ : Mem) {r : Mem} (h : f_X0_copy j0 j1 σ = some r) : Met l yX0_copy (wsG yX0_copy cX0_copy 2 none) rm_X0_copy (va_Pc [.ref (ad 99 j0), .ref (ad 99 j1)] (IW D cA ad o σ)) (Qv D cA ad o A r) 0 0 A := by
  refine metG (by decide) (Nat.le_of_ble_eq_true rfl) hD0 ?_
  intro p e s m args below meth c C ls hh hl
  have C : Cx p s m args meth c cX0_copy 2 RX0 none D cA ad A o := C
  have hl : lv_has ls 2 [(0, .ref (ad 99 j0)), (1, .ref (ad 99 j1))] := hl
  obtain ⟨⟨hx, hb, hml, hown, hts⟩, hK, hN, hD, hr, hlocks⟩ := id C
  unfold f_X0_copy at h
  refine lv_aload_n hx hb dX0_copy_0 rfl (lv_at hl 1 rfl) ?_
  refine gf_0_9 C hh hj1 dX0_copy_1 ?_
  refine lv_iconst (v := (0 : Int32)) hx hb dX0_copy_4 (by decide) ?_
  refine lv_aload_n hx hb dX0_copy_5 rfl (lv_at hl 0 rfl) ?_
  refine gf_0_9 C hh hj0 dX0_copy_6 ?_
  refine lv_iconst (v := (0 : Int32)) hx hb dX0_copy_9 (by decide) ?_
  refine lv_aload_n hx hb dX0_copy_10 rfl (lv_at hl 1 rfl) ?_
  refine gf_0_15 C hh hj1 dX0_copy_11 ?_
  obtain ⟨b1, h⟩ := gd_e h
  obtain ⟨b2, h⟩ := gd_e h
  obtain ⟨s3, e4, h⟩ := vl_e h
  refine acopy C hh (hml.trans hl.1.symm) hj1 hj0 (of_decide_eq_true b1) (of_decide_eq_true b2) (hts _ LX_0_23) (Nat.le_of_ble_eq_true rfl) (by decide) dX0_copy_14 (fun H locs hh => ?_)
  rw [← e4] at hh
  refine lv_aload_n hx hb dX0_copy_17 rfl (lv_at hl 0 rfl) ?_
  refine lv_aload_n hx hb dX0_copy_18 rfl (lv_at hl 1 rfl) ?_
  refine gf_0_15 C hh hj1 dX0_copy_19 ?_
  obtain ⟨s5, e6, h⟩ := vl_e h
  refine pf_0_15 C hh hj0 dX0_copy_22 (fun H locs hh => ?_)
  rw [← e6] at hh
  exact r_void C hh h dX0_copy_25
abbrev rm_X5_postBytes : Room := { frames := 2, cells := 0, slots := 0, locals := 111 }
theorem HD_X5_postBytes : yX5_postBytes.cls = RX5 ∧ yX5_postBytes.cls ≠ "java/lang/invoke/MethodHandle" ∧ yX5_postBytes.cls ≠ "java/lang/invoke/VarHandle" ∧ (parseMethodDescriptor yX5_postBytes.desc).map (fun d => d.parameters.length) = some 2 := by decide +kernel
def f_X5_postBytes (x1 : Int32) (j2 : Nat) (σ : Mem) : Option (Mem) := bn (f_X5_grow x1 σ) (fun r3 s2 => (if r3 = (0 : Int32) then some s2 else gd (vin ((s2 501 0 0) - (1 : Int32)) 60) (gd (decide ((s2 500 0 (((s2 501 0 0) - (1 : Int32))).toNatClampNeg).toNatClampNeg < 60)) (bv (f_X0_copy ((s2 500 0 (((s2 501 0 0) - (1 : Int32))).toNatClampNeg).toNatClampNeg) j2 s2) (fun s8 => some s8)))))
set_option maxHeartbeats 4000000 in
set_option maxRecDepth 100000 in
theorem c_X5_postBytes {l : Launch} {D : va_G} {cA : Nat → ClassId} {ad : Nat → Nat → Nat} {A : Nat → Prop} {o : Nat → Int64} (hD0 : ∀ σ, va_D A (wW cA ad σ o)) (x1 : Int32) (j2 : Nat) (hj2 : j2 < 62) (σ : Mem) {r : Mem} (h : f_X5_postBytes x1 j2 σ = some r) : Met l yX5_postBytes (wsG yX5_postBytes cX5_postBytes 3 none) rm_X5_postBytes (va_Pc [.ref (ad 599 0), .int x1, .ref (ad 99 j2)] (IW D cA ad o σ)) (Qv D cA ad o A r) 0 0 A := by
  refine metG (by decide) (Nat.le_of_ble_eq_true rfl) hD0 ?_
  intro p e s m args below meth c C ls hh hl
  have C : Cx p s m args meth c cX5_postBytes 3 RX5 none D cA ad A o := C
  have hl : lv_has ls 3 [(0, .ref (ad 599 0)), (1, .int x1), (2, .ref (ad 99 j2))] := hl
  obtain ⟨⟨hx, hb, hml, hown, hts⟩, hK, hN, hD, hr, hlocks⟩ := id C
  unfold f_X5_postBytes at h
  refine lv_aload_n hx hb dX5_postBytes_0 rfl (lv_at hl 0 rfl) ?_
  refine lv_iload_n hx hb dX5_postBytes_1 rfl (lv_at hl 1 rfl) ?_
  obtain ⟨r3, s2, e1, h⟩ := bn_e h
  refine c_int hh (vrun (rest := []) C hh (c_X5_grow C.2.2.2.1 x1 σ e1) LM_5_25 IM_X5_grow SL_X5_grow IN_5 CD_X5_grow HD_X5_grow ⟨rfl, rfl, Nat.le_of_ble_eq_true rfl, Nat.le_of_ble_eq_true rfl⟩ (rv_5 C hh) rfl hl.1 rfl (Nat.le_of_ble_eq_true rfl) dX5_postBytes_2 ⟨Nat.zero_le _, Nat.zero_le _⟩) (fun H locs hh => ?_)
  refine lv_if_eq (tgt := 26) hx hb dX5_postBytes_5 (by decide) (fun c4 => ?_) (fun c4 => ?_)
  · rw [if_pos c4] at h
    exact r_void C hh h dX5_postBytes_26
  · rw [if_neg c4] at h
    refine lv_aload_n hx hb dX5_postBytes_8 rfl (lv_at hl 0 rfl) ?_
    refine gf_5_11 C hh dX5_postBytes_9 ?_
    refine lv_aload_n hx hb dX5_postBytes_12 rfl (lv_at hl 0 rfl) ?_
    refine gf_5_17 C hh dX5_postBytes_13 ?_
    refine lv_iconst (v := (1 : Int32)) hx hb dX5_postBytes_16 (by decide) ?_
    refine lv_isub hx hb dX5_postBytes_17 ?_
    obtain ⟨b5, h⟩ := gd_e h
    refine al_500 C hh b5 dX5_postBytes_18 ?_
    obtain ⟨b6, h⟩ := gd_e h
    refine gf_5_29 C hh (bl_lt b6) dX5_postBytes_19 ?_
    refine lv_aload_n hx hb dX5_postBytes_22 rfl (lv_at hl 2 rfl) ?_
    obtain ⟨s8, e7, h⟩ := bv_e h
    refine c_void hh (vrun (rest := []) C hh (c_X0_copy C.2.2.2.1 ((s2 500 0 (((s2 501 0 0) - (1 : Int32))).toNatClampNeg).toNatClampNeg) (Nat.lt_trans (bl_lt b6) (by decide)) j2 hj2 s2 e7) LM_5_39 IM_X0_copy SL_X0_copy IN_0 CD_X0_copy HD_X0_copy ⟨rfl, rfl, Nat.le_of_ble_eq_true rfl, Nat.le_of_ble_eq_true rfl⟩ (rv_0 C hh (Nat.lt_trans (bl_lt b6) (by decide))) rfl hl.1 rfl (Nat.le_of_ble_eq_true rfl) dX5_postBytes_23 ⟨Nat.zero_le _, Nat.zero_le _⟩) (fun H locs hh => ?_)
    exact r_void C hh h dX5_postBytes_26
