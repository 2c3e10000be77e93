abbrev rm_X8_takeMessage : Room := { frames := 0, cells := 0, slots := 0, locals := 0 }
theorem HD_X8_takeMessage : yX8_takeMessage.cls = RX8 ∧ yX8_takeMessage.cls ≠ "java/lang/invoke/MethodHandle" ∧ yX8_takeMessage.cls ≠ "java/lang/invoke/VarHandle" ∧ (parseMethodDescriptor yX8_takeMessage.desc).map (fun d => d.parameters.length) = some 1 := by decide +kernel
def f_X8_takeMessage_12 : Nat → Int32 → Int32 → Mem → Option (Mem)
  | 0, _, _, _ => none
  | n + 1, x1, x2, σ => (if (σ 828 0 0) ≤ x2 then some σ else gd (vin (((64 : Int32) * x1) + x2) 3840) (gd (vin x2 64) (vl (up σ 829 0 (x2).toNatClampNeg (σ 827 0 ((((64 : Int32) * x1) + x2)).toNatClampNeg)) (fun s4 => vl (x2 + (1 : Int32)) (fun v6 => f_X8_takeMessage_12 n x1 v6 s4)))))
set_option maxHeartbeats 4000000 in
set_option maxRecDepth 100000 in
theorem k_X8_takeMessage_12 {p : Program} {l : Launch} {e : Env} {s : State} {m : MethodId} {args : Array Value} {below : List Frame} {meth : Method} {c : Code} {D : va_G} {cA : Nat → ClassId} {ad : Nat → Nat → Nat} {A : Nat → Prop} {o : Nat → Int64} (C : Cx p s m args meth c cX8_takeMessage 3 RX8 none D cA ad A o) {r : Mem} : ∀ (n : Nat) (x1 : Int32) (x2 : Int32) (σ : Mem) {H : Heap} {locs : List Loc} (h : f_X8_takeMessage_12 n x1 x2 σ = some r) (hh : HH D cA ad A o s σ H locs) {ls : Array Slot} (hl : lv_has ls 3 [(0, .ref (ad 899 0)), (1, .int x1), (2, .int x2)]), W p l e rm_X8_takeMessage s m args below meth c H locs 0 0 (MQ below (Qv D cA ad o A r) args s 0 0 A) (F0 m 12 ls []) := by
  obtain ⟨⟨hx, hb, hml, hown, hts⟩, hK, hN, hD, hr, hlocks⟩ := id C
  intro n
  induction n with
  | zero =>
    intro x1 x2 σ H locs h
    rw [f_X8_takeMessage_12.eq_1] at h
    cases h
  | succ n ih =>
    intro x1 x2 σ H locs h hh ls hl
    rw [f_X8_takeMessage_12.eq_2] at h
    refine lv_iload_n hx hb dX8_takeMessage_12 rfl (lv_at hl 2 rfl) ?_
    refine lv_aload_n hx hb dX8_takeMessage_13 rfl (lv_at hl 0 rfl) ?_
    refine gf_8_110 C hh dX8_takeMessage_14 ?_
    refine lv_icmp_ge (tgt := 43) hx hb dX8_takeMessage_17 (by decide) (fun c1 => ?_) (fun c1 => ?_)
    · rw [if_pos c1] at h
      exact r_void C hh h dX8_takeMessage_43
    · rw [if_neg c1] at h
      refine lv_aload_n hx hb dX8_takeMessage_20 rfl (lv_at hl 0 rfl) ?_
      refine gf_8_80 C hh dX8_takeMessage_21 ?_
      refine lv_iload_n hx hb dX8_takeMessage_24 rfl (lv_at hl 2 rfl) ?_
      refine lv_aload_n hx hb dX8_takeMessage_25 rfl (lv_at hl 0 rfl) ?_
      refine gf_8_77 C hh dX8_takeMessage_26 ?_
      refine lv_bipush (v := (64 : Int32)) hx hb dX8_takeMessage_29 (by decide) ?_
      refine lv_iload_n hx hb dX8_takeMessage_31 rfl (lv_at hl 1 rfl) ?_
      refine lv_imul hx hb dX8_takeMessage_32 ?_
      refine lv_iload_n hx hb dX8_takeMessage_33 rfl (lv_at hl 2 rfl) ?_
      refine lv_iadd hx hb dX8_takeMessage_34 ?_
      obtain ⟨b2, h⟩ := gd_e h
      refine al_827 C hh b2 dX8_takeMessage_35 ?_
      obtain ⟨b3, h⟩ := gd_e h
      obtain ⟨s4, e5, h⟩ := vl_e h
      refine as_829 C hh b3 dX8_takeMessage_36 (fun H locs hh => ?_)
      rw [← e5] at hh
      obtain ⟨v6, e7, h⟩ := vl_e h
      refine lv_iinc (v := v6) (lv' := [(2, .int v6), (0, .ref (ad 899 0)), (1, .int x1)]) hx hb dX8_takeMessage_37 hl (k := 2) rfl (by rw [e7]; rfl) (by decide) rfl (fun ls hl => ?_)
      refine lv_goto (tgt := 12) hx hb dX8_takeMessage_40 (by decide) ?_
      exact ih x1 v6 s4 h hh (lv_sub hl [1, 2, 0] rfl)
def f_X8_takeMessage (x1 : Int32) (σ : Mem) : Option (Mem) := gd (vin x1 60) (vl (up σ 828 0 0 (σ 826 0 (x1).toNatClampNeg)) (fun s2 => f_X8_takeMessage_12 5000 x1 (0 : Int32) s2))
set_option maxHeartbeats 4000000 in
set_option maxRecDepth 100000 in
theorem c_X8_takeMessage {l : Launch} {D : va_G} {cA : Nat → ClassId} {ad : Nat → Nat → Nat} {A : Nat → Prop} {o : Nat → Int64} (hD0 : ∀ σ, va_D A (wW cA ad σ o)) (x1 : Int32) (σ : Mem) {r : Mem} (h : f_X8_takeMessage x1 σ = some r) : Met l yX8_takeMessage (wsG yX8_takeMessage cX8_takeMessage 3 none) rm_X8_takeMessage (va_Pc [.ref (ad 899 0), .int x1] (IW D cA ad o σ)) (Qv D cA ad o A r) 0 0 A := by
  refine metG (by decide) (Nat.le_of_ble_eq_true rfl) hD0 ?_
  intro p e s m args below meth c C ls hh hl
  have C : Cx p s m args meth c cX8_takeMessage 3 RX8 none D cA ad A o := C
  have hl : lv_has ls 3 [(0, .ref (ad 899 0)), (1, .int x1)] := hl
  obtain ⟨⟨hx, hb, hml, hown, hts⟩, hK, hN, hD, hr, hlocks⟩ := id C
  unfold f_X8_takeMessage at h
  refine lv_aload_n hx hb dX8_takeMessage_0 rfl (lv_at hl 0 rfl) ?_
  refine lv_aload_n hx hb dX8_takeMessage_1 rfl (lv_at hl 0 rfl) ?_
  refine gf_8_74 C hh dX8_takeMessage_2 ?_
  refine lv_iload_n hx hb dX8_takeMessage_5 rfl (lv_at hl 1 rfl) ?_
  obtain ⟨b1, h⟩ := gd_e h
  refine al_826 C hh b1 dX8_takeMessage_6 ?_
  obtain ⟨s2, e3, h⟩ := vl_e h
  refine pf_8_110 C hh dX8_takeMessage_7 (fun H locs hh => ?_)
  rw [← e3] at hh
  refine lv_iconst (v := (0 : Int32)) hx hb dX8_takeMessage_10 (by decide) ?_
  refine lv_istore_n (lv' := [(2, .int (0 : Int32)), (0, .ref (ad 899 0)), (1, .int x1)]) hx hb dX8_takeMessage_11 rfl hl (by decide) rfl (fun ls hl => ?_)
  exact k_X8_takeMessage_12 C 5000 x1 (0 : Int32) s2 h hh (lv_sub hl [1, 2, 0] rfl)
abbrev rm_X8_come : Room := { frames := 6, cells := 0, slots := 0, locals := 136 }
theorem HD_X8_come : yX8_come.cls = RX8 ∧ yX8_come.cls ≠ "java/lang/invoke/MethodHandle" ∧ yX8_come.cls ≠ "java/lang/invoke/VarHandle" ∧ (parseMethodDescriptor yX8_come.desc).map (fun d => d.parameters.length) = some 1 := by decide +kernel
def f_X8_come (x1 : Int32) (σ : Mem) : Option (Mem) := bv (f_X8_look σ) (fun s2 => (if (s2 832 0 0) = (0 : Int32) then (if x1 = (16 : Int32) then bv (f_X8_serve s2) (fun s11 => some s11) else (if x1 ≤ (12 : Int32) then bv (f_X8_hear x1 s2) (fun s7 => some s7) else bv (f_X8_relay x1 s2) (fun s9 => some s9))) else some s2))
set_option maxHeartbeats 4000000 in
set_option maxRecDepth 100000 in
theorem c_X8_come {l : Launch} {D : va_G} {cA : Nat → ClassId} {ad : Nat → Nat → Nat} {A : Nat → Prop} {o : Nat → Int64} (hD0 : ∀ σ, va_D A (wW cA ad σ o)) (x1 : Int32) (σ : Mem) {r : Mem} (h : f_X8_come x1 σ = some r) : Met l yX8_come (wsG yX8_come cX8_come 2 none) rm_X8_come (va_Pc [.ref (ad 899 0), .int x1] (IW D cA ad o σ)) (Qv D cA ad o A r) 0 0 A := by
  refine metG (by decide) (Nat.le_of_ble_eq_true rfl) hD0 ?_
  intro p e s m args below meth c C ls hh hl
  have C : Cx p s m args meth c cX8_come 2 RX8 none D cA ad A o := C
  have hl : lv_has ls 2 [(0, .ref (ad 899 0)), (1, .int x1)] := hl
  obtain ⟨⟨hx, hb, hml, hown, hts⟩, hK, hN, hD, hr, hlocks⟩ := id C
  unfold f_X8_come at h
  refine lv_aload_n hx hb dX8_come_0 rfl (lv_at hl 0 rfl) ?_
  obtain ⟨s2, e1, h⟩ := bv_e h
  refine c_void hh (vrun (rest := []) C hh (c_X8_look C.2.2.2.1 σ e1) LM_8_246 IM_X8_look SL_X8_look IN_8 CD_X8_look HD_X8_look ⟨rfl, rfl, Nat.le_of_ble_eq_true rfl, Nat.le_of_ble_eq_true rfl⟩ (rv_8 C hh) rfl hl.1 rfl (Nat.le_of_ble_eq_true rfl) dX8_come_1 ⟨Nat.zero_le _, Nat.zero_le _⟩) (fun H locs hh => ?_)
  refine lv_aload_n hx hb dX8_come_4 rfl (lv_at hl 0 rfl) ?_
  refine gf_8_113 C hh dX8_come_5 ?_
  refine lv_if_eq (tgt := 12) hx hb dX8_come_8 (by decide) (fun c3 => ?_) (fun c3 => ?_)
  · rw [if_pos c3] at h
    refine lv_iload_n hx hb dX8_come_12 rfl (lv_at hl 1 rfl) ?_
    refine lv_bipush (v := (16 : Int32)) hx hb dX8_come_13 (by decide) ?_
    refine lv_icmp_ne (tgt := 25) hx hb dX8_come_15 (by decide) (fun c4 => ?_) (fun c4 => ?_)
    · rw [if_neg c4] at h
      refine lv_iload_n hx hb dX8_come_25 rfl (lv_at hl 1 rfl) ?_
      refine lv_bipush (v := (12 : Int32)) hx hb dX8_come_26 (by decide) ?_
      refine lv_icmp_le (tgt := 39) hx hb dX8_come_28 (by decide) (fun c5 => ?_) (fun c5 => ?_)
      · rw [if_pos c5] at h
        refine lv_aload_n hx hb dX8_come_39 rfl (lv_at hl 0 rfl) ?_
        refine lv_iload_n hx hb dX8_come_40 rfl (lv_at hl 1 rfl) ?_
        obtain ⟨s7, e6, h⟩ := bv_e h
        refine c_void hh (vrun (rest := []) C hh (c_X8_hear C.2.2.2.1 x1 s2 e6) LM_8_255 IM_X8_hear SL_X8_hear IN_8 CD_X8_hear HD_X8_hear ⟨rfl, rfl, Nat.le_of_ble_eq_true rfl, Nat.le_of_ble_eq_true rfl⟩ (rv_8 C hh) rfl hl.1 rfl (Nat.le_of_ble_eq_true rfl) dX8_come_41 ⟨Nat.zero_le _, Nat.zero_le _⟩) (fun H locs hh => ?_)
        exact r_void C hh h dX8_come_44
      · rw [if_neg c5] at h
        refine lv_aload_n hx hb dX8_come_31 rfl (lv_at hl 0 rfl) ?_
        refine lv_iload_n hx hb dX8_come_32 rfl (lv_at hl 1 rfl) ?_
        obtain ⟨s9, e8, h⟩ := bv_e h
        refine c_void hh (vrun (rest := []) C hh (c_X8_relay C.2.2.2.1 x1 s2 e8) LM_8_252 IM_X8_relay SL_X8_relay IN_8 CD_X8_relay HD_X8_relay ⟨rfl, rfl, Nat.le_of_ble_eq_true rfl, Nat.le_of_ble_eq_true rfl⟩ (rv_8 C hh) rfl hl.1 rfl (Nat.le_of_ble_eq_true rfl) dX8_come_33 ⟨Nat.zero_le _, Nat.zero_le _⟩) (fun H locs hh => ?_)
        refine lv_goto (tgt := 44) hx hb dX8_come_36 (by decide) ?_
        exact r_void C hh h dX8_come_44
    · rw [if_pos c4] at h
      refine lv_aload_n hx hb dX8_come_18 rfl (lv_at hl 0 rfl) ?_
      obtain ⟨s11, e10, h⟩ := bv_e h
      refine c_void hh (vrun (rest := []) C hh (c_X8_serve C.2.2.2.1 s2 e10) LM_8_249 IM_X8_serve SL_X8_serve IN_8 CD_X8_serve HD_X8_serve ⟨rfl, rfl, Nat.le_of_ble_eq_true rfl, Nat.le_of_ble_eq_true rfl⟩ (rv_8 C hh) rfl hl.1 rfl (Nat.le_of_ble_eq_true rfl) dX8_come_19 ⟨Nat.zero_le _, Nat.zero_le _⟩) (fun H locs hh => ?_)
      refine lv_goto (tgt := 44) hx hb dX8_come_22 (by decide) ?_
      exact r_void C hh h dX8_come_44
  · rw [if_neg c3] at h
    exact r_void C hh h dX8_come_11
abbrev rm_X8_carryOne : Room := { frames := 7, cells := 0, slots := 0, locals := 157 }
theorem HD_X8_carryOne : yX8_carryOne.cls = RX8 ∧ yX8_carryOne.cls ≠ "java/lang/invoke/MethodHandle" ∧ yX8_carryOne.cls ≠ "java/lang/invoke/VarHandle" ∧ (parseMethodDescriptor yX8_carryOne.desc).map (fun d => d.parameters.length) = some 1 := by decide +kernel
def f_X8_carryOne (x1 : Int32) (σ : Mem) : Option (Int32 × Mem) := gd (vin x1 60) (bv (f_X8_takeMessage x1 σ) (fun s3 => bv (f_X8_remove x1 s3) (fun s5 => bv (f_X8_come (σ 825 0 (x1).toNatClampNeg) s5) (fun s7 => some ((σ 825 0 (x1).toNatClampNeg), s7)))))
set_option maxHeartbeats 4000000 in
set_option maxRecDepth 100000 in
theorem c_X8_carryOne {l : Launch} {D : va_G} {cA : Nat → ClassId} {ad : Nat → Nat → Nat} {A : Nat → Prop} {o : Nat → Int64} (hD0 : ∀ σ, va_D A (wW cA ad σ o)) (x1 : Int32) (σ : Mem) {r : Int32 × Mem} (h : f_X8_carryOne x1 σ = some r) : Met l yX8_carryOne (wsG yX8_carryOne cX8_carryOne 3 (some .int)) rm_X8_carryOne (va_Pc [.ref (ad 899 0), .int x1] (IW D cA ad o σ)) (Qi D cA ad o A r) 0 0 A := by
  refine metG (by decide) (Nat.le_of_ble_eq_true rfl) hD0 ?_
  intro p e s m args below meth c C ls hh hl
  have C : Cx p s m args meth c cX8_carryOne 3 RX8 (some .int) D cA ad A o := C
  have hl : lv_has ls 3 [(0, .ref (ad 899 0)), (1, .int x1)] := hl
  obtain ⟨⟨hx, hb, hml, hown, hts⟩, hK, hN, hD, hr, hlocks⟩ := id C
  unfold f_X8_carryOne at h
  refine lv_aload_n hx hb dX8_carryOne_0 rfl (lv_at hl 0 rfl) ?_
  refine gf_8_71 C hh dX8_carryOne_1 ?_
  refine lv_iload_n hx hb dX8_carryOne_4 rfl (lv_at hl 1 rfl) ?_
  obtain ⟨b1, h⟩ := gd_e h
  refine al_825 C hh b1 dX8_carryOne_5 ?_
  refine lv_istore_n (lv' := [(2, .int (σ 825 0 (x1).toNatClampNeg)), (0, .ref (ad 899 0)), (1, .int x1)]) hx hb dX8_carryOne_6 rfl hl (by decide) rfl (fun ls hl => ?_)
  refine lv_aload_n hx hb dX8_carryOne_7 rfl (lv_at hl 1 rfl) ?_
  refine lv_iload_n hx hb dX8_carryOne_8 rfl (lv_at hl 2 rfl) ?_
  obtain ⟨s3, e2, h⟩ := bv_e h
  refine c_void hh (vrun (rest := []) C hh (c_X8_takeMessage C.2.2.2.1 x1 σ e2) LM_8_258 IM_X8_takeMessage SL_X8_takeMessage IN_8 CD_X8_takeMessage HD_X8_takeMessage ⟨rfl, rfl, Nat.le_of_ble_eq_true rfl, Nat.le_of_ble_eq_true rfl⟩ (rv_8 C hh) rfl hl.1 rfl (Nat.le_of_ble_eq_true rfl) dX8_carryOne_9 ⟨Nat.zero_le _, Nat.zero_le _⟩) (fun H locs hh => ?_)
  refine lv_aload_n hx hb dX8_carryOne_12 rfl (lv_at hl 1 rfl) ?_
  refine lv_iload_n hx hb dX8_carryOne_13 rfl (lv_at hl 2 rfl) ?_
  obtain ⟨s5, e4, h⟩ := bv_e h
  refine c_void hh (vrun (rest := []) C hh (c_X8_remove C.2.2.2.1 x1 s3 e4) LM_8_261 IM_X8_remove SL_X8_remove IN_8 CD_X8_remove HD_X8_remove ⟨rfl, rfl, Nat.le_of_ble_eq_true rfl, Nat.le_of_ble_eq_true rfl⟩ (rv_8 C hh) rfl hl.1 rfl (Nat.le_of_ble_eq_true rfl) dX8_carryOne_14 ⟨Nat.zero_le _, Nat.zero_le _⟩) (fun H locs hh => ?_)
  refine lv_aload_n hx hb dX8_carryOne_17 rfl (lv_at hl 1 rfl) ?_
  refine lv_iload_n hx hb dX8_carryOne_18 rfl (lv_at hl 0 rfl) ?_
  obtain ⟨s7, e6, h⟩ := bv_e h
  refine c_void hh (vrun (rest := []) C hh (c_X8_come C.2.2.2.1 (σ 825 0 (x1).toNatClampNeg) s5 e6) LM_8_264 IM_X8_come SL_X8_come IN_8 CD_X8_come HD_X8_come ⟨rfl, rfl, Nat.le_of_ble_eq_true rfl, Nat.le_of_ble_eq_true rfl⟩ (rv_8 C hh) rfl hl.1 rfl (Nat.le_of_ble_eq_true rfl) dX8_carryOne_19 ⟨Nat.zero_le _, Nat.zero_le _⟩) (fun H locs hh => ?_)
  refine lv_iload_n hx hb dX8_carryOne_22 rfl (lv_at hl 0 rfl) ?_
  exact r_int C hh h dX8_carryOne_23
abbrev rm_X8_carry : Room := { frames := 8, cells := 0, slots := 0, locals := 179 }
theorem HD_X8_carry : yX8_carry.cls = RX8 ∧ yX8_carry.cls ≠ "java/lang/invoke/MethodHandle" ∧ yX8_carry.cls ≠ "java/lang/invoke/VarHandle" ∧ (parseMethodDescriptor yX8_carry.desc).map (fun d => d.parameters.length) = some 1 := by decide +kernel
def f_X8_carry_14 (x1 : Int32) (xs0 : Int32) (σ : Mem) : Option (Int32 × Mem) := vl (up σ 800 0 0 xs0) (fun s1 => (if (s1 800 0 0) ≤ (0 : Int32) then bn (f_X8_carryOne x1 s1) (fun r6 s5 => some (r6, s5)) else some ((0 : Int32), s1)))
set_option maxHeartbeats 4000000 in
set_option maxRecDepth 100000 in
theorem k_X8_carry_14 {p : Program} {l : Launch} {e : Env} {s : State} {m : MethodId} {args : Array Value} {below : List Frame} {meth : Method} {c : Code} {D : va_G} {cA : Nat → ClassId} {ad : Nat → Nat → Nat} {A : Nat → Prop} {o : Nat → Int64} (C : Cx p s m args meth c cX8_carry 2 RX8 (some .int) D cA ad A o) {r : Int32 × Mem} (x1 : Int32) (xs0 : Int32) (σ : Mem) {H : Heap} {locs : List Loc} (h : f_X8_carry_14 x1 xs0 σ = some r) (hh : HH D cA ad A o s σ H locs) {ls : Array Slot} (hl : lv_has ls 2 [(0, .ref (ad 899 0)), (1, .int x1)]) : W p l e rm_X8_carry s m args below meth c H locs 0 0 (MQ below (Qi D cA ad o A r) args s 0 0 A) (F0 m 14 ls [.int xs0, .ref (ad 899 0)]) := by
  obtain ⟨⟨hx, hb, hml, hown, hts⟩, hK, hN, hD, hr, hlocks⟩ := id C
  unfold f_X8_carry_14 at h
  obtain ⟨s1, e2, h⟩ := vl_e h
  refine pf_8_86 C hh dX8_carry_14 (fun H locs hh => ?_)
  rw [← e2] at hh
  refine lv_aload_n hx hb dX8_carry_17 rfl (lv_at hl 0 rfl) ?_
  refine gf_8_86 C hh dX8_carry_18 ?_
  refine lv_if_le (tgt := 28) hx hb dX8_carry_21 (by decide) (fun c3 => ?_) (fun c3 => ?_)
  · rw [if_pos c3] at h
    refine lv_aload_n hx hb dX8_carry_28 rfl (lv_at hl 0 rfl) ?_
    refine lv_iload_n hx hb dX8_carry_29 rfl (lv_at hl 1 rfl) ?_
    obtain ⟨r6, s5, e4, h⟩ := bn_e h
    refine c_int hh (vrun (rest := []) C hh (c_X8_carryOne C.2.2.2.1 x1 s1 e4) LM_8_267 IM_X8_carryOne SL_X8_carryOne IN_8 CD_X8_carryOne HD_X8_carryOne ⟨rfl, rfl, Nat.le_of_ble_eq_true rfl, Nat.le_of_ble_eq_true rfl⟩ (rv_8 C hh) rfl hl.1 rfl (Nat.le_of_ble_eq_true rfl) dX8_carry_30 ⟨Nat.zero_le _, Nat.zero_le _⟩) (fun H locs hh => ?_)
    exact r_int C hh h dX8_carry_33
  · rw [if_neg c3] at h
    refine lv_iconst (v := (0 : Int32)) hx hb dX8_carry_24 (by decide) ?_
    refine lv_goto (tgt := 33) hx hb dX8_carry_25 (by decide) ?_
    exact r_int C hh h dX8_carry_33
def f_X8_carry (x1 : Int32) (σ : Mem) : Option (Int32 × Mem) := bn (f_X8_isPacket x1 σ) (fun r3 s2 => (if r3 = (0 : Int32) then f_X8_carry_14 x1 (1 : Int32) s2 else f_X8_carry_14 x1 (0 : Int32) s2))
set_option maxHeartbeats 4000000 in
set_option maxRecDepth 100000 in
theorem c_X8_carry {l : Launch} {D : va_G} {cA : Nat → ClassId} {ad : Nat → Nat → Nat} {A : Nat → Prop} {o : Nat → Int64} (hD0 : ∀ σ, va_D A (wW cA ad σ o)) (x1 : Int32) (σ : Mem) {r : Int32 × Mem} (h : f_X8_carry x1 σ = some r) : Met l yX8_carry (wsG yX8_carry cX8_carry 2 (some .int)) rm_X8_carry (va_Pc [.ref (ad 899 0), .int x1] (IW D cA ad o σ)) (Qi D cA ad o A r) 0 0 A := by
  refine metG (by decide) (Nat.le_of_ble_eq_true rfl) hD0 ?_
  intro p e s m args below meth c C ls hh hl
  have C : Cx p s m args meth c cX8_carry 2 RX8 (some .int) D cA ad A o := C
  have hl : lv_has ls 2 [(0, .ref (ad 899 0)), (1, .int x1)] := hl
  obtain ⟨⟨hx, hb, hml, hown, hts⟩, hK, hN, hD, hr, hlocks⟩ := id C
  unfold f_X8_carry at h
  refine lv_aload_n hx hb dX8_carry_0 rfl (lv_at hl 0 rfl) ?_
  refine lv_aload_n hx hb dX8_carry_1 rfl (lv_at hl 0 rfl) ?_
  refine lv_iload_n hx hb dX8_carry_2 rfl (lv_at hl 1 rfl) ?_
  obtain ⟨r3, s2, e1, h⟩ := bn_e h
  refine c_int hh (vrun (rest := [.ref (ad 899 0)]) C hh (c_X8_isPacket C.2.2.2.1 x1 σ e1) LM_8_243 IM_X8_isPacket SL_X8_isPacket IN_8 CD_X8_isPacket HD_X8_isPacket ⟨rfl, rfl, Nat.le_of_ble_eq_true rfl, Nat.le_of_ble_eq_true rfl⟩ (rv_8 C hh) rfl hl.1 rfl (Nat.le_of_ble_eq_true rfl) dX8_carry_3 ⟨Nat.zero_le _, Nat.zero_le _⟩) (fun H locs hh => ?_)
  refine lv_if_eq (tgt := 13) hx hb dX8_carry_6 (by decide) (fun c4 => ?_) (fun c4 => ?_)
  · rw [if_pos c4] at h
    refine lv_iconst (v := (1 : Int32)) hx hb dX8_carry_13 (by decide) ?_
    exact k_X8_carry_14 C x1 (1 : Int32) s2 h hh (lv_sub hl [0, 1] rfl)
  · rw [if_neg c4] at h
    refine lv_iconst (v := (0 : Int32)) hx hb dX8_carry_9 (by decide) ?_
    refine lv_goto (tgt := 14) hx hb dX8_carry_10 (by decide) ?_
    exact k_X8_carry_14 C x1 (0 : Int32) s2 h hh (lv_sub hl [0, 1] rfl)
abbrev rm_X8_twice : Room := { frames := 7, cells := 0, slots := 0, locals := 157 }
theorem HD_X8_twice : yX8_twice.cls = RX8 ∧ yX8_twice.cls ≠ "java/lang/invoke/MethodHandle" ∧ yX8_twice.cls ≠ "java/lang/invoke/VarHandle" ∧ (parseMethodDescriptor yX8_twice.desc).map (fun d => d.parameters.length) = some 1 := by decide +kernel
def f_X8_twice_14 (x1 : Int32) (xs0 : Int32) (σ : Mem) : Option (Mem) := vl (up σ 800 0 0 xs0) (fun s1 => (if (s1 800 0 0) = (0 : Int32) then bv (f_X8_takeMessage x1 s1) (fun s5 => gd (vin x1 60) (bv (f_X8_come (s5 825 0 (x1).toNatClampNeg) s5) (fun s8 => some s8))) else some s1))
set_option maxHeartbeats 4000000 in
set_option maxRecDepth 100000 in
theorem k_X8_twice_14 {p : Program} {l : Launch} {e : Env} {s : State} {m : MethodId} {args : Array Value} {below : List Frame} {meth : Method} {c : Code} {D : va_G} {cA : Nat → ClassId} {ad : Nat → Nat → Nat} {A : Nat → Prop} {o : Nat → Int64} (C : Cx p s m args meth c cX8_twice 2 RX8 none D cA ad A o) {r : Mem} (x1 : Int32) (xs0 : Int32) (σ : Mem) {H : Heap} {locs : List Loc} (h : f_X8_twice_14 x1 xs0 σ = some r) (hh : HH D cA ad A o s σ H locs) {ls : Array Slot} (hl : lv_has ls 2 [(0, .ref (ad 899 0)), (1, .int x1)]) : W p l e rm_X8_twice s m args below meth c H locs 0 0 (MQ below (Qv D cA ad o A r) args s 0 0 A) (F0 m 14 ls [.int xs0, .ref (ad 899 0)]) := by
  obtain ⟨⟨hx, hb, hml, hown, hts⟩, hK, hN, hD, hr, hlocks⟩ := id C
  unfold f_X8_twice_14 at h
  obtain ⟨s1, e2, h⟩ := vl_e h
  refine pf_8_86 C hh dX8_twice_14 (fun H locs hh => ?_)
  rw [← e2] at hh
  refine lv_aload_n hx hb dX8_twice_17 rfl (lv_at hl 0 rfl) ?_
  refine gf_8_86 C hh dX8_twice_18 ?_
  refine lv_if_ne (tgt := 39) hx hb dX8_twice_21 (by decide) (fun c3 => ?_) (fun c3 => ?_)
  · rw [if_neg c3] at h
    exact r_void C hh h dX8_twice_39
  · rw [if_pos c3] at h
    refine lv_aload_n hx hb dX8_twice_24 rfl (lv_at hl 0 rfl) ?_
    refine lv_iload_n hx hb dX8_twice_25 rfl (lv_at hl 1 rfl) ?_
    obtain ⟨s5, e4, h⟩ := bv_e h
    refine c_void hh (vrun (rest := []) C hh (c_X8_takeMessage C.2.2.2.1 x1 s1 e4) LM_8_258 IM_X8_takeMessage SL_X8_takeMessage IN_8 CD_X8_takeMessage HD_X8_takeMessage ⟨rfl, rfl, Nat.le_of_ble_eq_true rfl, Nat.le_of_ble_eq_true rfl⟩ (rv_8 C hh) rfl hl.1 rfl (Nat.le_of_ble_eq_true rfl) dX8_twice_26 ⟨Nat.zero_le _, Nat.zero_le _⟩) (fun H locs hh => ?_)
    refine lv_aload_n hx hb dX8_twice_29 rfl (lv_at hl 0 rfl) ?_
    refine lv_aload_n hx hb dX8_twice_30 rfl (lv_at hl 0 rfl) ?_
    refine gf_8_71 C hh dX8_twice_31 ?_
    refine lv_iload_n hx hb dX8_twice_34 rfl (lv_at hl 1 rfl) ?_
    obtain ⟨b6, h⟩ := gd_e h
    refine al_825 C hh b6 dX8_twice_35 ?_
    obtain ⟨s8, e7, h⟩ := bv_e h
    refine c_void hh (vrun (rest := []) C hh (c_X8_come C.2.2.2.1 (s5 825 0 (x1).toNatClampNeg) s5 e7) LM_8_264 IM_X8_come SL_X8_come IN_8 CD_X8_come HD_X8_come ⟨rfl, rfl, Nat.le_of_ble_eq_true rfl, Nat.le_of_ble_eq_true rfl⟩ (rv_8 C hh) rfl hl.1 rfl (Nat.le_of_ble_eq_true rfl) dX8_twice_36 ⟨Nat.zero_le _, Nat.zero_le _⟩) (fun H locs hh => ?_)
    exact r_void C hh h dX8_twice_39
def f_X8_twice (x1 : Int32) (σ : Mem) : Option (Mem) := bn (f_X8_isPacket x1 σ) (fun r3 s2 => (if r3 = (0 : Int32) then f_X8_twice_14 x1 (1 : Int32) s2 else f_X8_twice_14 x1 (0 : Int32) s2))
set_option maxHeartbeats 4000000 in
set_option maxRecDepth 100000 in
theorem c_X8_twice {l : Launch} {D : va_G} {cA : Nat → ClassId} {ad : Nat → Nat → Nat} {A : Nat → Prop} {o : Nat → Int64} (hD0 : ∀ σ, va_D A (wW cA ad σ o)) (x1 : Int32) (σ : Mem) {r : Mem} (h : f_X8_twice x1 σ = some r) : Met l yX8_twice (wsG yX8_twice cX8_twice 2 none) rm_X8_twice (va_Pc [.ref (ad 899 0), .int x1] (IW D cA ad o σ)) (Qv D cA ad o A r) 0 0 A := by
  refine metG (by decide) (Nat.le_of_ble_eq_true rfl) hD0 ?_
  intro p e s m args below meth c C ls hh hl
  have C : Cx p s m args meth c cX8_twice 2 RX8 none D cA ad A o := C
  have hl : lv_has ls 2 [(0, .ref (ad 899 0)), (1, .int x1)] := hl
  obtain ⟨⟨hx, hb, hml, hown, hts⟩, hK, hN, hD, hr, hlocks⟩ := id C
  unfold f_X8_twice at h
  refine lv_aload_n hx hb dX8_twice_0 rfl (lv_at hl 0 rfl) ?_
  refine lv_aload_n hx hb dX8_twice_1 rfl (lv_at hl 0 rfl) ?_
  refine lv_iload_n hx hb dX8_twice_2 rfl (lv_at hl 1 rfl) ?_
  obtain ⟨r3, s2, e1, h⟩ := bn_e h
  refine c_int hh (vrun (rest := [.ref (ad 899 0)]) C hh (c_X8_isPacket C.2.2.2.1 x1 σ e1) LM_8_243 IM_X8_isPacket SL_X8_isPacket IN_8 CD_X8_isPacket HD_X8_isPacket ⟨rfl, rfl, Nat.le_of_ble_eq_true rfl, Nat.le_of_ble_eq_true rfl⟩ (rv_8 C hh) rfl hl.1 rfl (Nat.le_of_ble_eq_true rfl) dX8_twice_3 ⟨Nat.zero_le _, Nat.zero_le _⟩) (fun H locs hh => ?_)
  refine lv_if_eq (tgt := 13) hx hb dX8_twice_6 (by decide) (fun c4 => ?_) (fun c4 => ?_)
  · rw [if_pos c4] at h
    refine lv_iconst (v := (1 : Int32)) hx hb dX8_twice_13 (by decide) ?_
    exact k_X8_twice_14 C x1 (1 : Int32) s2 h hh (lv_sub hl [0, 1] rfl)
  · rw [if_neg c4] at h
    refine lv_iconst (v := (0 : Int32)) hx hb dX8_twice_9 (by decide) ?_
    refine lv_goto (tgt := 14) hx hb dX8_twice_10 (by decide) ?_
    exact k_X8_twice_14 C x1 (0 : Int32) s2 h hh (lv_sub hl [0, 1] rfl)
abbrev rm_X8_drop : Room := { frames := 1, cells := 0, slots := 0, locals := 22 }
theorem HD_X8_drop : yX8_drop.cls = RX8 ∧ yX8_drop.cls ≠ "java/lang/invoke/MethodHandle" ∧ yX8_drop.cls ≠ "java/lang/invoke/VarHandle" ∧ (parseMethodDescriptor yX8_drop.desc).map (fun d => d.parameters.length) = some 1 := by decide +kernel
def f_X8_drop_14 (x1 : Int32) (xs0 : Int32) (σ : Mem) : Option (Mem) := vl (up σ 800 0 0 xs0) (fun s1 => (if (s1 800 0 0) = (0 : Int32) then bv (f_X8_remove x1 s1) (fun s5 => some s5) else some s1))
set_option maxHeartbeats 4000000 in
set_option maxRecDepth 100000 in
theorem k_X8_drop_14 {p : Program} {l : Launch} {e : Env} {s : State} {m : MethodId} {args : Array Value} {below : List Frame} {meth : Method} {c : Code} {D : va_G} {cA : Nat → ClassId} {ad : Nat → Nat → Nat} {A : Nat → Prop} {o : Nat → Int64} (C : Cx p s m args meth c cX8_drop 2 RX8 none D cA ad A o) {r : Mem} (x1 : Int32) (xs0 : Int32) (σ : Mem) {H : Heap} {locs : List Loc} (h : f_X8_drop_14 x1 xs0 σ = some r) (hh : HH D cA ad A o s σ H locs) {ls : Array Slot} (hl : lv_has ls 2 [(0, .ref (ad 899 0)), (1, .int x1)]) : W p l e rm_X8_drop s m args below meth c H locs 0 0 (MQ below (Qv D cA ad o A r) args s 0 0 A) (F0 m 14 ls [.int xs0, .ref (ad 899 0)]) := by
  obtain ⟨⟨hx, hb, hml, hown, hts⟩, hK, hN, hD, hr, hlocks⟩ := id C
  unfold f_X8_drop_14 at h
  obtain ⟨s1, e2, h⟩ := vl_e h
  refine pf_8_86 C hh dX8_drop_14 (fun H locs hh => ?_)
  rw [← e2] at hh
  refine lv_aload_n hx hb dX8_drop_17 rfl (lv_at hl 0 rfl) ?_
  refine gf_8_86 C hh dX8_drop_18 ?_
  refine lv_if_ne (tgt := 29) hx hb dX8_drop_21 (by decide) (fun c3 => ?_) (fun c3 => ?_)
  · rw [if_neg c3] at h
    exact r_void C hh h dX8_drop_29
  · rw [if_pos c3] at h
    refine lv_aload_n hx hb dX8_drop_24 rfl (lv_at hl 0 rfl) ?_
    refine lv_iload_n hx hb dX8_drop_25 rfl (lv_at hl 1 rfl) ?_
    obtain ⟨s5, e4, h⟩ := bv_e h
    refine c_void hh (vrun (rest := []) C hh (c_X8_remove C.2.2.2.1 x1 s1 e4) LM_8_261 IM_X8_remove SL_X8_remove IN_8 CD_X8_remove HD_X8_remove ⟨rfl, rfl, Nat.le_of_ble_eq_true rfl, Nat.le_of_ble_eq_true rfl⟩ (rv_8 C hh) rfl hl.1 rfl (Nat.le_of_ble_eq_true rfl) dX8_drop_26 ⟨Nat.zero_le _, Nat.zero_le _⟩) (fun H locs hh => ?_)
    exact r_void C hh h dX8_drop_29
def f_X8_drop (x1 : Int32) (σ : Mem) : Option (Mem) := bn (f_X8_isPacket x1 σ) (fun r3 s2 => (if r3 = (0 : Int32) then f_X8_drop_14 x1 (1 : Int32) s2 else f_X8_drop_14 x1 (0 : Int32) s2))
set_option maxHeartbeats 4000000 in
set_option maxRecDepth 100000 in
theorem c_X8_drop {l : Launch} {D : va_G} {cA : Nat → ClassId} {ad : Nat → Nat → Nat} {A : Nat → Prop} {o : Nat → Int64} (hD0 : ∀ σ, va_D A (wW cA ad σ o)) (x1 : Int32) (σ : Mem) {r : Mem} (h : f_X8_drop x1 σ = some r) : Met l yX8_drop (wsG yX8_drop cX8_drop 2 none) rm_X8_drop (va_Pc [.ref (ad 899 0), .int x1] (IW D cA ad o σ)) (Qv D cA ad o A r) 0 0 A := by
  refine metG (by decide) (Nat.le_of_ble_eq_true rfl) hD0 ?_
  intro p e s m args below meth c C ls hh hl
  have C : Cx p s m args meth c cX8_drop 2 RX8 none D cA ad A o := C
  have hl : lv_has ls 2 [(0, .ref (ad 899 0)), (1, .int x1)] := hl
  obtain ⟨⟨hx, hb, hml, hown, hts⟩, hK, hN, hD, hr, hlocks⟩ := id C
  unfold f_X8_drop at h
  refine lv_aload_n hx hb dX8_drop_0 rfl (lv_at hl 0 rfl) ?_
  refine lv_aload_n hx hb dX8_drop_1 rfl (lv_at hl 0 rfl) ?_
  refine lv_iload_n hx hb dX8_drop_2 rfl (lv_at hl 1 rfl) ?_
  obtain ⟨r3, s2, e1, h⟩ := bn_e h
  refine c_int hh (vrun (rest := [.ref (ad 899 0)]) C hh (c_X8_isPacket C.2.2.2.1 x1 σ e1) LM_8_243 IM_X8_isPacket SL_X8_isPacket IN_8 CD_X8_isPacket HD_X8_isPacket ⟨rfl, rfl, Nat.le_of_ble_eq_true rfl, Nat.le_of_ble_eq_true rfl⟩ (rv_8 C hh) rfl hl.1 rfl (Nat.le_of_ble_eq_true rfl) dX8_drop_3 ⟨Nat.zero_le _, Nat.zero_le _⟩) (fun H locs hh => ?_)
  refine lv_if_eq (tgt := 13) hx hb dX8_drop_6 (by decide) (fun c4 => ?_) (fun c4 => ?_)
  · rw [if_pos c4] at h
    refine lv_iconst (v := (1 : Int32)) hx hb dX8_drop_13 (by decide) ?_
    exact k_X8_drop_14 C x1 (1 : Int32) s2 h hh (lv_sub hl [0, 1] rfl)
  · rw [if_neg c4] at h
    refine lv_iconst (v := (0 : Int32)) hx hb dX8_drop_9 (by decide) ?_
    refine lv_goto (tgt := 14) hx hb dX8_drop_10 (by decide) ?_
    exact k_X8_drop_14 C x1 (0 : Int32) s2 h hh (lv_sub hl [0, 1] rfl)
abbrev rm_X8_run : Room := { frames := 8, cells := 0, slots := 0, locals := 179 }
theorem HD_X8_run : yX8_run.cls = RX8 ∧ yX8_run.cls ≠ "java/lang/invoke/MethodHandle" ∧ yX8_run.cls ≠ "java/lang/invoke/VarHandle" ∧ (parseMethodDescriptor yX8_run.desc).map (fun d => d.parameters.length) = some 1 := by decide +kernel
def f_X8_run_22 : Nat → Int32 → Int32 → Mem → Option (Int32 × Mem)
  | 0, _, _, _ => none
  | n + 1, x1, x2, σ => (if (σ 800 0 0) = (0 : Int32) then (if x1 ≤ x2 then some (x2, σ) else (if (σ 823 0 0) ≤ (0 : Int32) then some (x2, σ) else bn (f_X8_carryOne (0 : Int32) σ) (fun r6 s5 => vl (x2 + (1 : Int32)) (fun v7 => f_X8_run_22 n x1 v7 s5)))) else some (x2, σ))
set_option maxHeartbeats 4000000 in
set_option maxRecDepth 100000 in
theorem k_X8_run_22 {p : Program} {l : Launch} {e : Env} {s : State} {m : MethodId} {args : Array Value} {below : List Frame} {meth : Method} {c : Code} {D : va_G} {cA : Nat → ClassId} {ad : Nat → Nat → Nat} {A : Nat → Prop} {o : Nat → Int64} (C : Cx p s m args meth c cX8_run 4 RX8 (some .int) D cA ad A o) {r : Int32 × Mem} : ∀ (n : Nat) (x1 : Int32) (x2 : Int32) (σ : Mem) {H : Heap} {locs : List Loc} (h : f_X8_run_22 n x1 x2 σ = some r) (hh : HH D cA ad A o s σ H locs) {ls : Array Slot} (hl : lv_has ls 4 [(0, .ref (ad 899 0)), (1, .int x1), (2, .int x2)]), W p l e rm_X8_run s m args below meth c H locs 0 0 (MQ below (Qi D cA ad o A r) args s 0 0 A) (F0 m 22 ls []) := by
  obtain ⟨⟨hx, hb, hml, hown, hts⟩, hK, hN, hD, hr, hlocks⟩ := id C
  intro n
  induction n with
  | zero =>
    intro x1 x2 σ H locs h
    rw [f_X8_run_22.eq_1] at h
    cases h
  | succ n ih =>
    intro x1 x2 σ H locs h hh ls hl
    rw [f_X8_run_22.eq_2] at h
    refine lv_aload_n hx hb dX8_run_22 rfl (lv_at hl 0 rfl) ?_
    refine gf_8_86 C hh dX8_run_23 ?_
    refine lv_if_ne (tgt := 53) hx hb dX8_run_26 (by decide) (fun c1 => ?_) (fun c1 => ?_)
    · rw [if_neg c1] at h
      refine lv_iload_n hx hb dX8_run_53 rfl (lv_at hl 2 rfl) ?_
      exact r_int C hh h dX8_run_54
    · rw [if_pos c1] at h
      refine lv_iload_n hx hb dX8_run_29 rfl (lv_at hl 2 rfl) ?_
      refine lv_iload_n hx hb dX8_run_30 rfl (lv_at hl 1 rfl) ?_
      refine lv_icmp_ge (tgt := 53) hx hb dX8_run_31 (by decide) (fun c2 => ?_) (fun c2 => ?_)
      · rw [if_pos c2] at h
        refine lv_iload_n hx hb dX8_run_53 rfl (lv_at hl 2 rfl) ?_
        exact r_int C hh h dX8_run_54
      · rw [if_neg c2] at h
        refine lv_aload_n hx hb dX8_run_34 rfl (lv_at hl 0 rfl) ?_
        refine gf_8_121 C hh dX8_run_35 ?_
        refine lv_if_le (tgt := 53) hx hb dX8_run_38 (by decide) (fun c3 => ?_) (fun c3 => ?_)
        · rw [if_pos c3] at h
          refine lv_iload_n hx hb dX8_run_53 rfl (lv_at hl 2 rfl) ?_
          exact r_int C hh h dX8_run_54
        · rw [if_neg c3] at h
          refine lv_aload_n hx hb dX8_run_41 rfl (lv_at hl 0 rfl) ?_
          refine lv_iconst (v := (0 : Int32)) hx hb dX8_run_42 (by decide) ?_
          obtain ⟨r6, s5, e4, h⟩ := bn_e h
          refine c_int hh (vrun (rest := []) C hh (c_X8_carryOne C.2.2.2.1 (0 : Int32) σ e4) LM_8_267 IM_X8_carryOne SL_X8_carryOne IN_8 CD_X8_carryOne HD_X8_carryOne ⟨rfl, rfl, Nat.le_of_ble_eq_true rfl, Nat.le_of_ble_eq_true rfl⟩ (rv_8 C hh) rfl hl.1 rfl (Nat.le_of_ble_eq_true rfl) dX8_run_43 ⟨Nat.zero_le _, Nat.zero_le _⟩) (fun H locs hh => ?_)
          refine lv_istore_n (lv' := [(3, .int r6), (0, .ref (ad 899 0)), (1, .int x1), (2, .int x2)]) hx hb dX8_run_46 rfl hl (by decide) rfl (fun ls hl => ?_)
          obtain ⟨v7, e8, h⟩ := vl_e h
          refine lv_iinc (v := v7) (lv' := [(2, .int v7), (3, .int r6), (0, .ref (ad 899 0)), (1, .int x1)]) hx hb dX8_run_47 hl (k := 3) rfl (by rw [e8]; rfl) (by decide) rfl (fun ls hl => ?_)
          refine lv_goto (tgt := 22) hx hb dX8_run_50 (by decide) ?_
          exact ih x1 v7 s5 h hh (lv_sub hl [2, 3, 0] rfl)
def f_X8_run_17 (x1 : Int32) (xs0 : Int32) (σ : Mem) : Option (Int32 × Mem) := vl (up σ 800 0 0 xs0) (fun s1 => f_X8_run_22 5000 x1 (0 : Int32) s1)
set_option maxHeartbeats 4000000 in
set_option maxRecDepth 100000 in
theorem k_X8_run_17 {p : Program} {l : Launch} {e : Env} {s : State} {m : MethodId} {args : Array Value} {below : List Frame} {meth : Method} {c : Code} {D : va_G} {cA : Nat → ClassId} {ad : Nat → Nat → Nat} {A : Nat → Prop} {o : Nat → Int64} (C : Cx p s m args meth c cX8_run 4 RX8 (some .int) D cA ad A o) {r : Int32 × Mem} (x1 : Int32) (xs0 : Int32) (σ : Mem) {H : Heap} {locs : List Loc} (h : f_X8_run_17 x1 xs0 σ = some r) (hh : HH D cA ad A o s σ H locs) {ls : Array Slot} (hl : lv_has ls 4 [(0, .ref (ad 899 0)), (1, .int x1)]) : W p l e rm_X8_run s m args below meth c H locs 0 0 (MQ below (Qi D cA ad o A r) args s 0 0 A) (F0 m 17 ls [.int xs0, .ref (ad 899 0)]) := by
  obtain ⟨⟨hx, hb, hml, hown, hts⟩, hK, hN, hD, hr, hlocks⟩ := id C
  unfold f_X8_run_17 at h
  obtain ⟨s1, e2, h⟩ := vl_e h
  refine pf_8_86 C hh dX8_run_17 (fun H locs hh => ?_)
  rw [← e2] at hh
  refine lv_iconst (v := (0 : Int32)) hx hb dX8_run_20 (by decide) ?_
  refine lv_istore_n (lv' := [(2, .int (0 : Int32)), (0, .ref (ad 899 0)), (1, .int x1)]) hx hb dX8_run_21 rfl hl (by decide) rfl (fun ls hl => ?_)
  exact k_X8_run_22 C 5000 x1 (0 : Int32) s1 h hh (lv_sub hl [1, 2, 0] rfl)
def f_X8_run_12 (x1 : Int32) (σ : Mem) : Option (Int32 × Mem) := f_X8_run_17 x1 (1 : Int32) σ
set_option maxHeartbeats 4000000 in
set_option maxRecDepth 100000 in
theorem k_X8_run_12 {p : Program} {l : Launch} {e : Env} {s : State} {m : MethodId} {args : Array Value} {below : List Frame} {meth : Method} {c : Code} {D : va_G} {cA : Nat → ClassId} {ad : Nat → Nat → Nat} {A : Nat → Prop} {o : Nat → Int64} (C : Cx p s m args meth c cX8_run 4 RX8 (some .int) D cA ad A o) {r : Int32 × Mem} (x1 : Int32) (σ : Mem) {H : Heap} {locs : List Loc} (h : f_X8_run_12 x1 σ = some r) (hh : HH D cA ad A o s σ H locs) {ls : Array Slot} (hl : lv_has ls 4 [(0, .ref (ad 899 0)), (1, .int x1)]) : W p l e rm_X8_run s m args below meth c H locs 0 0 (MQ below (Qi D cA ad o A r) args s 0 0 A) (F0 m 12 ls [.ref (ad 899 0)]) := by
  obtain ⟨⟨hx, hb, hml, hown, hts⟩, hK, hN, hD, hr, hlocks⟩ := id C
  unfold f_X8_run_12 at h
  refine lv_iconst (v := (1 : Int32)) hx hb dX8_run_12 (by decide) ?_
  refine lv_goto (tgt := 17) hx hb dX8_run_13 (by decide) ?_
  exact k_X8_run_17 C x1 (1 : Int32) σ h hh (lv_sub hl [0, 1] rfl)
def f_X8_run (x1 : Int32) (σ : Mem) : Option (Int32 × Mem) := (if x1 < (0 : Int32) then f_X8_run_12 x1 σ else (if x1 ≤ (200 : Int32) then f_X8_run_17 x1 (0 : Int32) σ else f_X8_run_12 x1 σ))
set_option maxHeartbeats 4000000 in
set_option maxRecDepth 100000 in
theorem c_X8_run {l : Launch} {D : va_G} {cA : Nat → ClassId} {ad : Nat → Nat → Nat} {A : Nat → Prop} {o : Nat → Int64} (hD0 : ∀ σ, va_D A (wW cA ad σ o)) (x1 : Int32) (σ : Mem) {r : Int32 × Mem} (h : f_X8_run x1 σ = some r) : Met l yX8_run (wsG yX8_run cX8_run 4 (some .int)) rm_X8_run (va_Pc [.ref (ad 899 0), .int x1] (IW D cA ad o σ)) (Qi D cA ad o A r) 0 0 A := by
  refine metG (by decide) (Nat.le_of_ble_eq_true rfl) hD0 ?_
  intro p e s m args below meth c C ls hh hl
  have C : Cx p s m args meth c cX8_run 4 RX8 (some .int) D cA ad A o := C
  have hl : lv_has ls 4 [(0, .ref (ad 899 0)), (1, .int x1)] := hl
  obtain ⟨⟨hx, hb, hml, hown, hts⟩, hK, hN, hD, hr, hlocks⟩ := id C
  unfold f_X8_run at h
  refine lv_aload_n hx hb dX8_run_0 rfl (lv_at hl 0 rfl) ?_
  refine lv_iload_n hx hb dX8_run_1 rfl (lv_at hl 1 rfl) ?_
  refine lv_if_lt (tgt := 12) hx hb dX8_run_2 (by decide) (fun c1 => ?_) (fun c1 => ?_)
  · rw [if_pos c1] at h
    exact k_X8_run_12 C x1 σ h hh (lv_sub hl [0, 1] rfl)
  · rw [if_neg c1] at h
    refine lv_iload_n hx hb dX8_run_5 rfl (lv_at hl 1 rfl) ?_
    refine lv_sipush (v := (200 : Int32)) hx hb dX8_run_6 (by decide) ?_
    refine lv_icmp_le (tgt := 16) hx hb dX8_run_9 (by decide) (fun c2 => ?_) (fun c2 => ?_)
    · rw [if_pos c2] at h
      refine lv_iconst (v := (0 : Int32)) hx hb dX8_run_16 (by decide) ?_
      exact k_X8_run_17 C x1 (0 : Int32) σ h hh (lv_sub hl [0, 1] rfl)
    · rw [if_neg c2] at h
      exact k_X8_run_12 C x1 σ h hh (lv_sub hl [0, 1] rfl)
abbrev rm_X8_type : Room := { frames := 0, cells := 0, slots := 0, locals := 0 }
theorem HD_X8_type : yX8_type.cls = RX8 ∧ yX8_type.cls ≠ "java/lang/invoke/MethodHandle" ∧ yX8_type.cls ≠ "java/lang/invoke/VarHandle" ∧ (parseMethodDescriptor yX8_type.desc).map (fun d => d.parameters.length) = some 2 := by decide +kernel
def f_X8_type_32 : Nat → Int64 → Int32 → Int32 → Mem → Option (Int32 × Mem)
  | 0, _, _, _, _ => none
  | n + 1, w1, x3, x4, σ => (if x3 ≤ x4 then some ((1 : Int32), σ) else gd (vin (σ 830 0 0) 60) (vl (up σ 831 0 ((σ 830 0 0)).toNatClampNeg ((((w1 >>> ((((8 : Int32) * x4)).toInt64 &&& 63)) &&& (255 : Int64))).toInt32)) (fun s3 => vl (up s3 830 0 0 ((s3 830 0 0) + (1 : Int32))) (fun s5 => vl (x4 + (1 : Int32)) (fun v7 => f_X8_type_32 n w1 x3 v7 s5)))))
set_option maxHeartbeats 4000000 in
set_option maxRecDepth 100000 in
theorem k_X8_type_32 {p : Program} {l : Launch} {e : Env} {s : State} {m : MethodId} {args : Array Value} {below : List Frame} {meth : Method} {c : Code} {D : va_G} {cA : Nat → ClassId} {ad : Nat → Nat → Nat} {A : Nat → Prop} {o : Nat → Int64} (C : Cx p s m args meth c cX8_type 5 RX8 (some .boolean) D cA ad A o) {r : Int32 × Mem} : ∀ (n : Nat) (w1 : Int64) (x3 : Int32) (x4 : Int32) (σ : Mem) {H : Heap} {locs : List Loc} (h : f_X8_type_32 n w1 x3 x4 σ = some r) (hh : HH D cA ad A o s σ H locs) {ls : Array Slot} (hl : lv_has ls 5 [(0, .ref (ad 899 0)), (1, .long w1), (3, .int x3), (4, .int x4)]), W p l e rm_X8_type s m args below meth c H locs 0 0 (MQ below (Qi D cA ad o A r) args s 0 0 A) (F0 m 32 ls []) := by
  obtain ⟨⟨hx, hb, hml, hown, hts⟩, hK, hN, hD, hr, hlocks⟩ := id C
  intro n
  induction n with
  | zero =>
    intro w1 x3 x4 σ H locs h
    rw [f_X8_type_32.eq_1] at h
    cases h
  | succ n ih =>
    intro w1 x3 x4 σ H locs h hh ls hl
    rw [f_X8_type_32.eq_2] at h
    refine lv_iload hx hb dX8_type_32 (lv_at hl 3 rfl) ?_
    refine lv_iload_n hx hb dX8_type_34 rfl (lv_at hl 2 rfl) ?_
    refine lv_icmp_ge (tgt := 75) hx hb dX8_type_35 (by decide) (fun c1 => ?_) (fun c1 => ?_)
    · rw [if_pos c1] at h
      refine lv_iconst (v := (1 : Int32)) hx hb dX8_type_75 (by decide) ?_
      exact r_bool C hh (by decide) h dX8_type_76
    · rw [if_neg c1] at h
      refine lv_aload_n hx hb dX8_type_38 rfl (lv_at hl 0 rfl) ?_
      refine gf_8_83 C hh dX8_type_39 ?_
      refine lv_aload_n hx hb dX8_type_42 rfl (lv_at hl 0 rfl) ?_
      refine gf_8_270 C hh dX8_type_43 ?_
      refine lv_lload_n hx hb dX8_type_46 rfl (lv_at hl 1 rfl) ?_
      refine lv_bipush (v := (8 : Int32)) hx hb dX8_type_47 (by decide) ?_
      refine lv_iload hx hb dX8_type_49 (lv_at hl 3 rfl) ?_
      refine lv_imul hx hb dX8_type_51 ?_
      refine lv_lshr (v := w1 >>> ((((8 : Int32) * x4)).toInt64 &&& 63)) hx hb dX8_type_52 rfl ?_
      refine lv_ldc2 (v := (255 : Int64)) hx hb hown (hts _ LC_8_273) dX8_type_53 ?_
      refine lv_land hx hb dX8_type_56 ?_
      refine lv_l2i (v := (((w1 >>> ((((8 : Int32) * x4)).toInt64 &&& 63)) &&& (255 : Int64))).toInt32) hx hb dX8_type_57 rfl ?_
      obtain ⟨b2, h⟩ := gd_e h
      obtain ⟨s3, e4, h⟩ := vl_e h
      refine as_831 C hh b2 dX8_type_58 (fun H locs hh => ?_)
      rw [← e4] at hh
      refine lv_aload_n hx hb dX8_type_59 rfl (lv_at hl 0 rfl) ?_
      refine lv_dup hx hb dX8_type_60 rfl ?_
      refine gf_8_270 C hh dX8_type_61 ?_
      refine lv_iconst (v := (1 : Int32)) hx hb dX8_type_64 (by decide) ?_
      refine lv_iadd hx hb dX8_type_65 ?_
      obtain ⟨s5, e6, h⟩ := vl_e h
      refine pf_8_270 C hh dX8_type_66 (fun H locs hh => ?_)
      rw [← e6] at hh
      obtain ⟨v7, e8, h⟩ := vl_e h
      refine lv_iinc (v := v7) (lv' := [(4, .int v7), (0, .ref (ad 899 0)), (1, .long w1), (3, .int x3)]) hx hb dX8_type_69 hl (k := 3) rfl (by rw [e8]; rfl) (by decide) rfl (fun ls hl => ?_)
      refine lv_goto (tgt := 32) hx hb dX8_type_72 (by decide) ?_
      exact ih w1 x3 v7 s5 h hh (lv_sub hl [1, 2, 3, 0] rfl)
def f_X8_type (w1 : Int64) (x3 : Int32) (σ : Mem) : Option (Int32 × Mem) := vl (up σ 800 0 0 (0 : Int32)) (fun s1 => (if x3 < (1 : Int32) then some ((0 : Int32), s1) else (if (8 : Int32) < x3 then some ((0 : Int32), s1) else (if ((s1 830 0 0) + x3) ≤ (60 : Int32) then f_X8_type_32 5000 w1 x3 (0 : Int32) s1 else some ((0 : Int32), s1)))))
set_option maxHeartbeats 4000000 in
set_option maxRecDepth 100000 in
theorem c_X8_type {l : Launch} {D : va_G} {cA : Nat → ClassId} {ad : Nat → Nat → Nat} {A : Nat → Prop} {o : Nat → Int64} (hD0 : ∀ σ, va_D A (wW cA ad σ o)) (w1 : Int64) (x3 : Int32) (σ : Mem) {r : Int32 × Mem} (h : f_X8_type w1 x3 σ = some r) : Met l yX8_type (wsG yX8_type cX8_type 5 (some .boolean)) rm_X8_type (va_Pc [.ref (ad 899 0), .long w1, .int x3] (IW D cA ad o σ)) (Qi D cA ad o A r) 0 0 A := by
  refine metG (by decide) (Nat.le_of_ble_eq_true rfl) hD0 ?_
  intro p e s m args below meth c C ls hh hl
  have C : Cx p s m args meth c cX8_type 5 RX8 (some .boolean) D cA ad A o := C
  have hl : lv_has ls 5 [(0, .ref (ad 899 0)), (1, .long w1), (3, .int x3)] := hl
  obtain ⟨⟨hx, hb, hml, hown, hts⟩, hK, hN, hD, hr, hlocks⟩ := id C
  unfold f_X8_type at h
  refine lv_aload_n hx hb dX8_type_0 rfl (lv_at hl 0 rfl) ?_
  refine lv_iconst (v := (0 : Int32)) hx hb dX8_type_1 (by decide) ?_
  obtain ⟨s1, e2, h⟩ := vl_e h
  refine pf_8_86 C hh dX8_type_2 (fun H locs hh => ?_)
  rw [← e2] at hh
  refine lv_iload_n hx hb dX8_type_5 rfl (lv_at hl 2 rfl) ?_
  refine lv_iconst (v := (1 : Int32)) hx hb dX8_type_6 (by decide) ?_
  refine lv_icmp_lt (tgt := 27) hx hb dX8_type_7 (by decide) (fun c3 => ?_) (fun c3 => ?_)
  · rw [if_pos c3] at h
    refine lv_iconst (v := (0 : Int32)) hx hb dX8_type_27 (by decide) ?_
    exact r_bool C hh (by decide) h dX8_type_28
  · rw [if_neg c3] at h
    refine lv_iload_n hx hb dX8_type_10 rfl (lv_at hl 2 rfl) ?_
    refine lv_bipush (v := (8 : Int32)) hx hb dX8_type_11 (by decide) ?_
    refine lv_icmp_gt (tgt := 27) hx hb dX8_type_13 (by decide) (fun c4 => ?_) (fun c4 => ?_)
    · rw [if_pos c4] at h
      refine lv_iconst (v := (0 : Int32)) hx hb dX8_type_27 (by decide) ?_
      exact r_bool C hh (by decide) h dX8_type_28
    · rw [if_neg c4] at h
      refine lv_aload_n hx hb dX8_type_16 rfl (lv_at hl 0 rfl) ?_
      refine gf_8_270 C hh dX8_type_17 ?_
      refine lv_iload_n hx hb dX8_type_20 rfl (lv_at hl 2 rfl) ?_
      refine lv_iadd hx hb dX8_type_21 ?_
      refine lv_bipush (v := (60 : Int32)) hx hb dX8_type_22 (by decide) ?_
      refine lv_icmp_le (tgt := 29) hx hb dX8_type_24 (by decide) (fun c5 => ?_) (fun c5 => ?_)
      · rw [if_pos c5] at h
        refine lv_iconst (v := (0 : Int32)) hx hb dX8_type_29 (by decide) ?_
        refine lv_istore (lv' := [(4, .int (0 : Int32)), (0, .ref (ad 899 0)), (1, .long w1), (3, .int x3)]) hx hb dX8_type_30 hl (by decide) rfl (fun ls hl => ?_)
        exact k_X8_type_32 C 5000 w1 x3 (0 : Int32) s1 h hh (lv_sub hl [1, 2, 3, 0] rfl)
      · rw [if_neg c5] at h
        refine lv_iconst (v := (0 : Int32)) hx hb dX8_type_27 (by decide) ?_
        exact r_bool C hh (by decide) h dX8_type_28
abbrev rm_X8_takeTape : Room := { frames := 0, cells := 0, slots := 0, locals := 0 }
theorem HD_X8_takeTape : yX8_takeTape.cls = RX8 ∧ yX8_takeTape.cls ≠ "java/lang/invoke/MethodHandle" ∧ yX8_takeTape.cls ≠ "java/lang/invoke/VarHandle" ∧ (parseMethodDescriptor yX8_takeTape.desc).map (fun d => d.parameters.length) = some 0 := by decide +kernel
def f_X8_takeTape_10 : Nat → Int32 → Mem → Option (Mem)
  | 0, _, _ => none
  | n + 1, x1, σ => (if (σ 830 0 0) ≤ x1 then some σ else gd (vin x1 60) (gd (vin x1 64) (vl (up σ 829 0 (x1).toNatClampNeg (σ 831 0 (x1).toNatClampNeg)) (fun s4 => vl (x1 + (1 : Int32)) (fun v6 => f_X8_takeTape_10 n v6 s4)))))
set_option maxHeartbeats 4000000 in
set_option maxRecDepth 100000 in
theorem k_X8_takeTape_10 {p : Program} {l : Launch} {e : Env} {s : State} {m : MethodId} {args : Array Value} {below : List Frame} {meth : Method} {c : Code} {D : va_G} {cA : Nat → ClassId} {ad : Nat → Nat → Nat} {A : Nat → Prop} {o : Nat → Int64} (C : Cx p s m args meth c cX8_takeTape 2 RX8 none D cA ad A o) {r : Mem} : ∀ (n : Nat) (x1 : Int32) (σ : Mem) {H : Heap} {locs : List Loc} (h : f_X8_takeTape_10 n x1 σ = some r) (hh : HH D cA ad A o s σ H locs) {ls : Array Slot} (hl : lv_has ls 2 [(0, .ref (ad 899 0)), (1, .int x1)]), W p l e rm_X8_takeTape s m args below meth c H locs 0 0 (MQ below (Qv D cA ad o A r) args s 0 0 A) (F0 m 10 ls []) := by
  obtain ⟨⟨hx, hb, hml, hown, hts⟩, hK, hN, hD, hr, hlocks⟩ := id C
  intro n
  induction n with
  | zero =>
    intro x1 σ H locs h
    rw [f_X8_takeTape_10.eq_1] at h
    cases h
  | succ n ih =>
    intro x1 σ H locs h hh ls hl
    rw [f_X8_takeTape_10.eq_2] at h
    refine lv_iload_n hx hb dX8_takeTape_10 rfl (lv_at hl 1 rfl) ?_
    refine lv_aload_n hx hb dX8_takeTape_11 rfl (lv_at hl 0 rfl) ?_
    refine gf_8_270 C hh dX8_takeTape_12 ?_
    refine lv_icmp_ge (tgt := 36) hx hb dX8_takeTape_15 (by decide) (fun c1 => ?_) (fun c1 => ?_)
    · rw [if_pos c1] at h
      exact r_void C hh h dX8_takeTape_36
    · rw [if_neg c1] at h
      refine lv_aload_n hx hb dX8_takeTape_18 rfl (lv_at hl 0 rfl) ?_
      refine gf_8_80 C hh dX8_takeTape_19 ?_
      refine lv_iload_n hx hb dX8_takeTape_22 rfl (lv_at hl 1 rfl) ?_
      refine lv_aload_n hx hb dX8_takeTape_23 rfl (lv_at hl 0 rfl) ?_
      refine gf_8_83 C hh dX8_takeTape_24 ?_
      refine lv_iload_n hx hb dX8_takeTape_27 rfl (lv_at hl 1 rfl) ?_
      obtain ⟨b2, h⟩ := gd_e h
      refine al_831 C hh b2 dX8_takeTape_28 ?_
      obtain ⟨b3, h⟩ := gd_e h
      obtain ⟨s4, e5, h⟩ := vl_e h
      refine as_829 C hh b3 dX8_takeTape_29 (fun H locs hh => ?_)
      rw [← e5] at hh
      obtain ⟨v6, e7, h⟩ := vl_e h
      refine lv_iinc (v := v6) (lv' := [(1, .int v6), (0, .ref (ad 899 0))]) hx hb dX8_takeTape_30 hl (k := 1) rfl (by rw [e7]; rfl) (by decide) rfl (fun ls hl => ?_)
      refine lv_goto (tgt := 10) hx hb dX8_takeTape_33 (by decide) ?_
      exact ih v6 s4 h hh (lv_sub hl [1, 0] rfl)
def f_X8_takeTape (σ : Mem) : Option (Mem) := vl (up σ 828 0 0 (σ 830 0 0)) (fun s1 => f_X8_takeTape_10 5000 (0 : Int32) s1)
set_option maxHeartbeats 4000000 in
set_option maxRecDepth 100000 in
theorem c_X8_takeTape {l : Launch} {D : va_G} {cA : Nat → ClassId} {ad : Nat → Nat → Nat} {A : Nat → Prop} {o : Nat → Int64} (hD0 : ∀ σ, va_D A (wW cA ad σ o)) (σ : Mem) {r : Mem} (h : f_X8_takeTape σ = some r) : Met l yX8_takeTape (wsG yX8_takeTape cX8_takeTape 2 none) rm_X8_takeTape (va_Pc [.ref (ad 899 0)] (IW D cA ad o σ)) (Qv D cA ad o A r) 0 0 A := by
  refine metG (by decide) (Nat.le_of_ble_eq_true rfl) hD0 ?_
  intro p e s m args below meth c C ls hh hl
  have C : Cx p s m args meth c cX8_takeTape 2 RX8 none D cA ad A o := C
  have hl : lv_has ls 2 [(0, .ref (ad 899 0))] := hl
  obtain ⟨⟨hx, hb, hml, hown, hts⟩, hK, hN, hD, hr, hlocks⟩ := id C
  unfold f_X8_takeTape at h
  refine lv_aload_n hx hb dX8_takeTape_0 rfl (lv_at hl 0 rfl) ?_
  refine lv_aload_n hx hb dX8_takeTape_1 rfl (lv_at hl 0 rfl) ?_
  refine gf_8_270 C hh dX8_takeTape_2 ?_
  obtain ⟨s1, e2, h⟩ := vl_e h
  refine pf_8_110 C hh dX8_takeTape_5 (fun H locs hh => ?_)
  rw [← e2] at hh
  refine lv_iconst (v := (0 : Int32)) hx hb dX8_takeTape_8 (by decide) ?_
  refine lv_istore_n (lv' := [(1, .int (0 : Int32)), (0, .ref (ad 899 0))]) hx hb dX8_takeTape_9 rfl hl (by decide) rfl (fun ls hl => ?_)
  exact k_X8_takeTape_10 C 5000 (0 : Int32) s1 h hh (lv_sub hl [1, 0] rfl)
abbrev rm_X8_told : Room := { frames := 3, cells := 0, slots := 0, locals := 68 }
theorem HD_X8_told : yX8_told.cls = RX8 ∧ yX8_told.cls ≠ "java/lang/invoke/MethodHandle" ∧ yX8_told.cls ≠ "java/lang/invoke/VarHandle" ∧ (parseMethodDescriptor yX8_told.desc).map (fun d => d.parameters.length) = some 1 := by decide +kernel
def f_X8_told_45 (x1 : Int32) (xs0 : Int32) (σ : Mem) : Option (Int32 × Mem) := vl (up σ 800 0 0 xs0) (fun s1 => (if (s1 800 0 0) ≤ (0 : Int32) then (if (2 : Int32) ≤ x1 then (if (6 : Int32) ≤ x1 then (if x1 = (6 : Int32) then gd (vin (18 : Int32) 64) (some ((s1 829 0 ((18 : Int32)).toNatClampNeg), s1)) else (if x1 = (7 : Int32) then some ((s1 833 0 0), s1) else (if x1 = (8 : Int32) then some ((s1 834 0 0), s1) else (if x1 = (9 : Int32) then some ((s1 835 0 0), s1) else some ((s1 836 0 0), s1))))) else (if x1 = (2 : Int32) then bn (f_X8_xidOf s1) (fun r25 s24 => some (r25, s24)) else (if x1 = (3 : Int32) then bn (f_X8_ciaddr s1) (fun r22 s21 => some (r22, s21)) else (if x1 = (4 : Int32) then bn (f_X8_yiaddr s1) (fun r19 s18 => some (r19, s18)) else bn (f_X8_giaddr s1) (fun r16 s15 => some (r16, s15)))))) else gd (vin x1 64) (some ((s1 829 0 (x1).toNatClampNeg), s1))) else some ((0 : Int32), s1)))
set_option maxHeartbeats 4000000 in
set_option maxRecDepth 100000 in
theorem k_X8_told_45 {p : Program} {l : Launch} {e : Env} {s : State} {m : MethodId} {args : Array Value} {below : List Frame} {meth : Method} {c : Code} {D : va_G} {cA : Nat → ClassId} {ad : Nat → Nat → Nat} {A : Nat → Prop} {o : Nat → Int64} (C : Cx p s m args meth c cX8_told 3 RX8 (some .int) D cA ad A o) {r : Int32 × Mem} (x1 : Int32) (xs0 : Int32) (σ : Mem) {H : Heap} {locs : List Loc} (h : f_X8_told_45 x1 xs0 σ = some r) (hh : HH D cA ad A o s σ H locs) {ls : Array Slot} (hl : lv_has ls 3 [(0, .ref (ad 899 0)), (1, .int x1)]) : W p l e rm_X8_told s m args below meth c H locs 0 0 (MQ below (Qi D cA ad o A r) args s 0 0 A) (F0 m 45 ls [.int xs0, .ref (ad 899 0)]) := by
  obtain ⟨⟨hx, hb, hml, hown, hts⟩, hK, hN, hD, hr, hlocks⟩ := id C
  unfold f_X8_told_45 at h
  obtain ⟨s1, e2, h⟩ := vl_e h
  refine pf_8_86 C hh dX8_told_45 (fun H locs hh => ?_)
  rw [← e2] at hh
  refine lv_aload_n hx hb dX8_told_48 rfl (lv_at hl 0 rfl) ?_
  refine gf_8_86 C hh dX8_told_49 ?_
  refine lv_if_le (tgt := 57) hx hb dX8_told_52 (by decide) (fun c3 => ?_) (fun c3 => ?_)
  · rw [if_pos c3] at h
    refine lv_iload_n hx hb dX8_told_57 rfl (lv_at hl 1 rfl) ?_
    refine lv_iconst (v := (2 : Int32)) hx hb dX8_told_58 (by decide) ?_
    refine lv_icmp_ge (tgt := 69) hx hb dX8_told_59 (by decide) (fun c4 => ?_) (fun c4 => ?_)
    · rw [if_pos c4] at h
      refine lv_iload_n hx hb dX8_told_69 rfl (lv_at hl 1 rfl) ?_
      refine lv_bipush (v := (6 : Int32)) hx hb dX8_told_70 (by decide) ?_
      refine lv_icmp_ge (tgt := 116) hx hb dX8_told_72 (by decide) (fun c5 => ?_) (fun c5 => ?_)
      · rw [if_pos c5] at h
        refine lv_iload_n hx hb dX8_told_116 rfl (lv_at hl 1 rfl) ?_
        refine lv_bipush (v := (6 : Int32)) hx hb dX8_told_117 (by decide) ?_
        refine lv_icmp_ne (tgt := 132) hx hb dX8_told_119 (by decide) (fun c6 => ?_) (fun c6 => ?_)
        · rw [if_neg c6] at h
          refine lv_iload_n hx hb dX8_told_132 rfl (lv_at hl 1 rfl) ?_
          refine lv_bipush (v := (7 : Int32)) hx hb dX8_told_133 (by decide) ?_
          refine lv_icmp_ne (tgt := 145) hx hb dX8_told_135 (by decide) (fun c7 => ?_) (fun c7 => ?_)
          · rw [if_neg c7] at h
            refine lv_iload_n hx hb dX8_told_145 rfl (lv_at hl 1 rfl) ?_
            refine lv_bipush (v := (8 : Int32)) hx hb dX8_told_146 (by decide) ?_
            refine lv_icmp_ne (tgt := 158) hx hb dX8_told_148 (by decide) (fun c8 => ?_) (fun c8 => ?_)
            · rw [if_neg c8] at h
              refine lv_iload_n hx hb dX8_told_158 rfl (lv_at hl 1 rfl) ?_
              refine lv_bipush (v := (9 : Int32)) hx hb dX8_told_159 (by decide) ?_
              refine lv_icmp_ne (tgt := 171) hx hb dX8_told_161 (by decide) (fun c9 => ?_) (fun c9 => ?_)
              · rw [if_neg c9] at h
                refine lv_aload_n hx hb dX8_told_171 rfl (lv_at hl 0 rfl) ?_
                refine gf_8_107 C hh dX8_told_172 ?_
                exact r_int C hh h dX8_told_175
              · rw [if_pos c9] at h
                refine lv_aload_n hx hb dX8_told_164 rfl (lv_at hl 0 rfl) ?_
                refine gf_8_104 C hh dX8_told_165 ?_
                refine lv_goto (tgt := 175) hx hb dX8_told_168 (by decide) ?_
                exact r_int C hh h dX8_told_175
            · rw [if_pos c8] at h
              refine lv_aload_n hx hb dX8_told_151 rfl (lv_at hl 0 rfl) ?_
              refine gf_8_101 C hh dX8_told_152 ?_
              refine lv_goto (tgt := 175) hx hb dX8_told_155 (by decide) ?_
              exact r_int C hh h dX8_told_175
          · rw [if_pos c7] at h
            refine lv_aload_n hx hb dX8_told_138 rfl (lv_at hl 0 rfl) ?_
            refine gf_8_98 C hh dX8_told_139 ?_
            refine lv_goto (tgt := 175) hx hb dX8_told_142 (by decide) ?_
            exact r_int C hh h dX8_told_175
        · rw [if_pos c6] at h
          refine lv_aload_n hx hb dX8_told_122 rfl (lv_at hl 0 rfl) ?_
          refine gf_8_80 C hh dX8_told_123 ?_
          refine lv_bipush (v := (18 : Int32)) hx hb dX8_told_126 (by decide) ?_
          obtain ⟨b10, h⟩ := gd_e h
          refine al_829 C hh b10 dX8_told_128 ?_
          refine lv_goto (tgt := 175) hx hb dX8_told_129 (by decide) ?_
          exact r_int C hh h dX8_told_175
      · rw [if_neg c5] at h
        refine lv_iload_n hx hb dX8_told_75 rfl (lv_at hl 1 rfl) ?_
        refine lv_iconst (v := (2 : Int32)) hx hb dX8_told_76 (by decide) ?_
        refine lv_icmp_ne (tgt := 87) hx hb dX8_told_77 (by decide) (fun c11 => ?_) (fun c11 => ?_)
        · rw [if_neg c11] at h
          refine lv_iload_n hx hb dX8_told_87 rfl (lv_at hl 1 rfl) ?_
          refine lv_iconst (v := (3 : Int32)) hx hb dX8_told_88 (by decide) ?_
          refine lv_icmp_ne (tgt := 99) hx hb dX8_told_89 (by decide) (fun c12 => ?_) (fun c12 => ?_)
          · rw [if_neg c12] at h
            refine lv_iload_n hx hb dX8_told_99 rfl (lv_at hl 1 rfl) ?_
            refine lv_iconst (v := (4 : Int32)) hx hb dX8_told_100 (by decide) ?_
            refine lv_icmp_ne (tgt := 111) hx hb dX8_told_101 (by decide) (fun c13 => ?_) (fun c13 => ?_)
            · rw [if_neg c13] at h
              refine lv_aload_n hx hb dX8_told_111 rfl (lv_at hl 0 rfl) ?_
              obtain ⟨r16, s15, e14, h⟩ := bn_e h
              refine c_int hh (vrun (rest := []) C hh (c_X8_giaddr C.2.2.2.1 s1 e14) LM_8_180 IM_X8_giaddr SL_X8_giaddr IN_8 CD_X8_giaddr HD_X8_giaddr ⟨rfl, rfl, Nat.le_of_ble_eq_true rfl, Nat.le_of_ble_eq_true rfl⟩ (rv_8 C hh) rfl hl.1 rfl (Nat.le_of_ble_eq_true rfl) dX8_told_112 ⟨Nat.zero_le _, Nat.zero_le _⟩) (fun H locs hh => ?_)
              exact r_int C hh h dX8_told_115
            · rw [if_pos c13] at h
              refine lv_aload_n hx hb dX8_told_104 rfl (lv_at hl 0 rfl) ?_
              obtain ⟨r19, s18, e17, h⟩ := bn_e h
              refine c_int hh (vrun (rest := []) C hh (c_X8_yiaddr C.2.2.2.1 s1 e17) LM_8_213 IM_X8_yiaddr SL_X8_yiaddr IN_8 CD_X8_yiaddr HD_X8_yiaddr ⟨rfl, rfl, Nat.le_of_ble_eq_true rfl, Nat.le_of_ble_eq_true rfl⟩ (rv_8 C hh) rfl hl.1 rfl (Nat.le_of_ble_eq_true rfl) dX8_told_105 ⟨Nat.zero_le _, Nat.zero_le _⟩) (fun H locs hh => ?_)
              refine lv_goto (tgt := 115) hx hb dX8_told_108 (by decide) ?_
              exact r_int C hh h dX8_told_115
          · rw [if_pos c12] at h
            refine lv_aload_n hx hb dX8_told_92 rfl (lv_at hl 0 rfl) ?_
            obtain ⟨r22, s21, e20, h⟩ := bn_e h
            refine c_int hh (vrun (rest := []) C hh (c_X8_ciaddr C.2.2.2.1 s1 e20) LM_8_176 IM_X8_ciaddr SL_X8_ciaddr IN_8 CD_X8_ciaddr HD_X8_ciaddr ⟨rfl, rfl, Nat.le_of_ble_eq_true rfl, Nat.le_of_ble_eq_true rfl⟩ (rv_8 C hh) rfl hl.1 rfl (Nat.le_of_ble_eq_true rfl) dX8_told_93 ⟨Nat.zero_le _, Nat.zero_le _⟩) (fun H locs hh => ?_)
            refine lv_goto (tgt := 115) hx hb dX8_told_96 (by decide) ?_
            exact r_int C hh h dX8_told_115
        · rw [if_pos c11] at h
          refine lv_aload_n hx hb dX8_told_80 rfl (lv_at hl 0 rfl) ?_
          obtain ⟨r25, s24, e23, h⟩ := bn_e h
          refine c_int hh (vrun (rest := []) C hh (c_X8_xidOf C.2.2.2.1 s1 e23) LM_8_183 IM_X8_xidOf SL_X8_xidOf IN_8 CD_X8_xidOf HD_X8_xidOf ⟨rfl, rfl, Nat.le_of_ble_eq_true rfl, Nat.le_of_ble_eq_true rfl⟩ (rv_8 C hh) rfl hl.1 rfl (Nat.le_of_ble_eq_true rfl) dX8_told_81 ⟨Nat.zero_le _, Nat.zero_le _⟩) (fun H locs hh => ?_)
          refine lv_goto (tgt := 115) hx hb dX8_told_84 (by decide) ?_
          exact r_int C hh h dX8_told_115
    · rw [if_neg c4] at h
      refine lv_aload_n hx hb dX8_told_62 rfl (lv_at hl 0 rfl) ?_
      refine gf_8_80 C hh dX8_told_63 ?_
      refine lv_iload_n hx hb dX8_told_66 rfl (lv_at hl 1 rfl) ?_
      obtain ⟨b26, h⟩ := gd_e h
      refine al_829 C hh b26 dX8_told_67 ?_
      exact r_int C hh h dX8_told_68
  · rw [if_neg c3] at h
    refine lv_iconst (v := (0 : Int32)) hx hb dX8_told_55 (by decide) ?_
    exact r_int C hh h dX8_told_56
def f_X8_told_15 (x1 : Int32) (xs0 : Int32) (σ : Mem) : Option (Int32 × Mem) := bv (f_X8_takeTape σ) (fun s2 => bv (f_X8_look s2) (fun s4 => (if xs0 = (0 : Int32) then f_X8_told_45 x1 (1 : Int32) s4 else (if (s4 832 0 0) = (0 : Int32) then f_X8_told_45 x1 (0 : Int32) s4 else f_X8_told_45 x1 (2 : Int32) s4))))
set_option maxHeartbeats 4000000 in
set_option maxRecDepth 100000 in
theorem k_X8_told_15 {p : Program} {l : Launch} {e : Env} {s : State} {m : MethodId} {args : Array Value} {below : List Frame} {meth : Method} {c : Code} {D : va_G} {cA : Nat → ClassId} {ad : Nat → Nat → Nat} {A : Nat → Prop} {o : Nat → Int64} (C : Cx p s m args meth c cX8_told 3 RX8 (some .int) D cA ad A o) {r : Int32 × Mem} (x1 : Int32) (xs0 : Int32) (σ : Mem) {H : Heap} {locs : List Loc} (h : f_X8_told_15 x1 xs0 σ = some r) (hh : HH D cA ad A o s σ H locs) {ls : Array Slot} (hl : lv_has ls 3 [(0, .ref (ad 899 0)), (1, .int x1)]) : W p l e rm_X8_told s m args below meth c H locs 0 0 (MQ below (Qi D cA ad o A r) args s 0 0 A) (F0 m 15 ls [.int xs0]) := by
  obtain ⟨⟨hx, hb, hml, hown, hts⟩, hK, hN, hD, hr, hlocks⟩ := id C
  unfold f_X8_told_15 at h
  refine lv_istore_n (lv' := [(2, .int xs0), (0, .ref (ad 899 0)), (1, .int x1)]) hx hb dX8_told_15 rfl hl (by decide) rfl (fun ls hl => ?_)
  refine lv_aload_n hx hb dX8_told_16 rfl (lv_at hl 1 rfl) ?_
  obtain ⟨s2, e1, h⟩ := bv_e h
  refine c_void hh (vrun (rest := []) C hh (c_X8_takeTape C.2.2.2.1 σ e1) LM_8_275 IM_X8_takeTape SL_X8_takeTape IN_8 CD_X8_takeTape HD_X8_takeTape ⟨rfl, rfl, Nat.le_of_ble_eq_true rfl, Nat.le_of_ble_eq_true rfl⟩ (rv_8 C hh) rfl hl.1 rfl (Nat.le_of_ble_eq_true rfl) dX8_told_17 ⟨Nat.zero_le _, Nat.zero_le _⟩) (fun H locs hh => ?_)
  refine lv_aload_n hx hb dX8_told_20 rfl (lv_at hl 1 rfl) ?_
  obtain ⟨s4, e3, h⟩ := bv_e h
  refine c_void hh (vrun (rest := []) C hh (c_X8_look C.2.2.2.1 s2 e3) LM_8_246 IM_X8_look SL_X8_look IN_8 CD_X8_look HD_X8_look ⟨rfl, rfl, Nat.le_of_ble_eq_true rfl, Nat.le_of_ble_eq_true rfl⟩ (rv_8 C hh) rfl hl.1 rfl (Nat.le_of_ble_eq_true rfl) dX8_told_21 ⟨Nat.zero_le _, Nat.zero_le _⟩) (fun H locs hh => ?_)
  refine lv_aload_n hx hb dX8_told_24 rfl (lv_at hl 1 rfl) ?_
  refine lv_iload_n hx hb dX8_told_25 rfl (lv_at hl 0 rfl) ?_
  refine lv_if_ne (tgt := 33) hx hb dX8_told_26 (by decide) (fun c5 => ?_) (fun c5 => ?_)
  · rw [if_neg c5] at h
    refine lv_aload_n hx hb dX8_told_33 rfl (lv_at hl 1 rfl) ?_
    refine gf_8_113 C hh dX8_told_34 ?_
    refine lv_if_eq (tgt := 44) hx hb dX8_told_37 (by decide) (fun c6 => ?_) (fun c6 => ?_)
    · rw [if_pos c6] at h
      refine lv_iconst (v := (0 : Int32)) hx hb dX8_told_44 (by decide) ?_
      exact k_X8_told_45 C x1 (0 : Int32) s4 h hh (lv_sub hl [1, 2] rfl)
    · rw [if_neg c6] at h
      refine lv_iconst (v := (2 : Int32)) hx hb dX8_told_40 (by decide) ?_
      refine lv_goto (tgt := 45) hx hb dX8_told_41 (by decide) ?_
      exact k_X8_told_45 C x1 (2 : Int32) s4 h hh (lv_sub hl [1, 2] rfl)
  · rw [if_pos c5] at h
    refine lv_iconst (v := (1 : Int32)) hx hb dX8_told_29 (by decide) ?_
    refine lv_goto (tgt := 45) hx hb dX8_told_30 (by decide) ?_
    exact k_X8_told_45 C x1 (1 : Int32) s4 h hh (lv_sub hl [1, 2] rfl)
def f_X8_told_14 (x1 : Int32) (σ : Mem) : Option (Int32 × Mem) := f_X8_told_15 x1 (0 : Int32) σ
set_option maxHeartbeats 4000000 in
set_option maxRecDepth 100000 in
theorem k_X8_told_14 {p : Program} {l : Launch} {e : Env} {s : State} {m : MethodId} {args : Array Value} {below : List Frame} {meth : Method} {c : Code} {D : va_G} {cA : Nat → ClassId} {ad : Nat → Nat → Nat} {A : Nat → Prop} {o : Nat → Int64} (C : Cx p s m args meth c cX8_told 3 RX8 (some .int) D cA ad A o) {r : Int32 × Mem} (x1 : Int32) (σ : Mem) {H : Heap} {locs : List Loc} (h : f_X8_told_14 x1 σ = some r) (hh : HH D cA ad A o s σ H locs) {ls : Array Slot} (hl : lv_has ls 3 [(0, .ref (ad 899 0)), (1, .int x1)]) : W p l e rm_X8_told s m args below meth c H locs 0 0 (MQ below (Qi D cA ad o A r) args s 0 0 A) (F0 m 14 ls []) := by
  obtain ⟨⟨hx, hb, hml, hown, hts⟩, hK, hN, hD, hr, hlocks⟩ := id C
  unfold f_X8_told_14 at h
  refine lv_iconst (v := (0 : Int32)) hx hb dX8_told_14 (by decide) ?_
  exact k_X8_told_15 C x1 (0 : Int32) σ h hh (lv_sub hl [0, 1] rfl)
def f_X8_told (x1 : Int32) (σ : Mem) : Option (Int32 × Mem) := (if x1 < (0 : Int32) then f_X8_told_14 x1 σ else (if (10 : Int32) < x1 then f_X8_told_14 x1 σ else f_X8_told_15 x1 (1 : Int32) σ))
set_option maxHeartbeats 4000000 in
set_option maxRecDepth 100000 in
theorem c_X8_told {l : Launch} {D : va_G} {cA : Nat → ClassId} {ad : Nat → Nat → Nat} {A : Nat → Prop} {o : Nat → Int64} (hD0 : ∀ σ, va_D A (wW cA ad σ o)) (x1 : Int32) (σ : Mem) {r : Int32 × Mem} (h : f_X8_told x1 σ = some r) : Met l yX8_told (wsG yX8_told cX8_told 3 (some .int)) rm_X8_told (va_Pc [.ref (ad 899 0), .int x1] (IW D cA ad o σ)) (Qi D cA ad o A r) 0 0 A := by
  refine metG (by decide) (Nat.le_of_ble_eq_true rfl) hD0 ?_
  intro p e s m args below meth c C ls hh hl
  have C : Cx p s m args meth c cX8_told 3 RX8 (some .int) D cA ad A o := C
  have hl : lv_has ls 3 [(0, .ref (ad 899 0)), (1, .int x1)] := hl
  obtain ⟨⟨hx, hb, hml, hown, hts⟩, hK, hN, hD, hr, hlocks⟩ := id C
  unfold f_X8_told at h
  refine lv_iload_n hx hb dX8_told_0 rfl (lv_at hl 1 rfl) ?_
  refine lv_if_lt (tgt := 14) hx hb dX8_told_1 (by decide) (fun c1 => ?_) (fun c1 => ?_)
  · rw [if_pos c1] at h
    exact k_X8_told_14 C x1 σ h hh (lv_sub hl [0, 1] rfl)
  · rw [if_neg c1] at h
    refine lv_iload_n hx hb dX8_told_4 rfl (lv_at hl 1 rfl) ?_
    refine lv_bipush (v := (10 : Int32)) hx hb dX8_told_5 (by decide) ?_
    refine lv_icmp_gt (tgt := 14) hx hb dX8_told_7 (by decide) (fun c2 => ?_) (fun c2 => ?_)
    · rw [if_pos c2] at h
      exact k_X8_told_14 C x1 σ h hh (lv_sub hl [0, 1] rfl)
    · rw [if_neg c2] at h
      refine lv_iconst (v := (1 : Int32)) hx hb dX8_told_10 (by decide) ?_
      refine lv_goto (tgt := 15) hx hb dX8_told_11 (by decide) ?_
      exact k_X8_told_15 C x1 (1 : Int32) σ h hh (lv_sub hl [0, 1] rfl)
