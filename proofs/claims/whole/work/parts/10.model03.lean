abbrev rm_X8_relay : Room := { frames := 2, cells := 0, slots := 0, locals := 41 }
theorem HD_X8_relay : yX8_relay.cls = RX8 ∧ yX8_relay.cls ≠ "java/lang/invoke/MethodHandle" ∧ yX8_relay.cls ≠ "java/lang/invoke/VarHandle" ∧ (parseMethodDescriptor yX8_relay.desc).map (fun d => d.parameters.length) = some 1 := by decide +kernel
def f_X8_relay_83 (σ : Mem) : Option (Mem) := bv (f_X8_send (16 : Int32) σ) (fun s2 => some s2)
set_option maxHeartbeats 4000000 in
set_option maxRecDepth 100000 in
theorem k_X8_relay_83 {p : Program} {l : Launch} {e : Env} {s : State} {m : MethodId} {args : Array Value} {below : List Frame} {meth : Method} {c : Code} {D : va_G} {cA : Nat → ClassId} {ad : Nat → Nat → Nat} {A : Nat → Prop} {o : Nat → Int64} (C : Cx p s m args meth c cX8_relay 2 RX8 none D cA ad A o) {r : Mem} (σ : Mem) {H : Heap} {locs : List Loc} (h : f_X8_relay_83 σ = some r) (hh : HH D cA ad A o s σ H locs) {ls : Array Slot} (hl : lv_has ls 2 [(0, .ref (ad 899 0))]) : W p l e rm_X8_relay s m args below meth c H locs 0 0 (MQ below (Qv D cA ad o A r) args s 0 0 A) (F0 m 83 ls []) := by
  obtain ⟨⟨hx, hb, hml, hown, hts⟩, hK, hN, hD, hr, hlocks⟩ := id C
  unfold f_X8_relay_83 at h
  refine lv_aload_n hx hb dX8_relay_83 rfl (lv_at hl 0 rfl) ?_
  refine lv_bipush (v := (16 : Int32)) hx hb dX8_relay_84 (by decide) ?_
  obtain ⟨s2, e1, h⟩ := bv_e h
  refine c_void hh (vrun (rest := []) C hh (c_X8_send C.2.2.2.1 (16 : Int32) σ e1) LM_8_161 IM_X8_send SL_X8_send IN_8 CD_X8_send HD_X8_send ⟨rfl, rfl, Nat.le_of_ble_eq_true rfl, Nat.le_of_ble_eq_true rfl⟩ (rv_8 C hh) rfl hl.1 rfl (Nat.le_of_ble_eq_true rfl) dX8_relay_86 ⟨Nat.zero_le _, Nat.zero_le _⟩) (fun H locs hh => ?_)
  exact r_void C hh h dX8_relay_89
def f_X8_relay (x1 : Int32) (σ : Mem) : Option (Mem) := gd (vin (0 : Int32) 64) ((if (σ 829 0 ((0 : Int32)).toNatClampNeg) = (2 : Int32) then gd (vin (18 : Int32) 64) (bn (f_X8_isClient (σ 829 0 ((18 : Int32)).toNatClampNeg) σ) (fun r18 s17 => (if r18 = (0 : Int32) then some s17 else gd (vin (18 : Int32) 64) (bv (f_X8_send (s17 829 0 ((18 : Int32)).toNatClampNeg) s17) (fun s22 => some s22))))) else gd (vin (1 : Int32) 64) ((if (σ 829 0 ((1 : Int32)).toNatClampNeg) < (4 : Int32) then gd (vin (1 : Int32) 64) (gd (vin (1 : Int32) 64) (vl (up σ 829 0 ((1 : Int32)).toNatClampNeg ((σ 829 0 ((1 : Int32)).toNatClampNeg) + (1 : Int32))) (fun s7 => bn (f_X8_giaddr s7) (fun r11 s10 => (if r11 = (0 : Int32) then bv (f_X8_putFour (14 : Int32) (((256 : Int32) * (x1 - (12 : Int32))) + (1 : Int32)) s10) (fun s14 => f_X8_relay_83 s14) else f_X8_relay_83 s10))))) else some σ))))
set_option maxHeartbeats 4000000 in
set_option maxRecDepth 100000 in
theorem c_X8_relay {l : Launch} {D : va_G} {cA : Nat → ClassId} {ad : Nat → Nat → Nat} {A : Nat → Prop} {o : Nat → Int64} (hD0 : ∀ σ, va_D A (wW cA ad σ o)) (x1 : Int32) (σ : Mem) {r : Mem} (h : f_X8_relay x1 σ = some r) : Met l yX8_relay (wsG yX8_relay cX8_relay 2 none) rm_X8_relay (va_Pc [.ref (ad 899 0), .int x1] (IW D cA ad o σ)) (Qv D cA ad o A r) 0 0 A := by
  refine metG (by decide) (Nat.le_of_ble_eq_true rfl) hD0 ?_
  intro p e s m args below meth c C ls hh hl
  have C : Cx p s m args meth c cX8_relay 2 RX8 none D cA ad A o := C
  have hl : lv_has ls 2 [(0, .ref (ad 899 0)), (1, .int x1)] := hl
  obtain ⟨⟨hx, hb, hml, hown, hts⟩, hK, hN, hD, hr, hlocks⟩ := id C
  unfold f_X8_relay at h
  refine lv_aload_n hx hb dX8_relay_0 rfl (lv_at hl 0 rfl) ?_
  refine gf_8_80 C hh dX8_relay_1 ?_
  refine lv_iconst (v := (0 : Int32)) hx hb dX8_relay_4 (by decide) ?_
  obtain ⟨b1, h⟩ := gd_e h
  refine al_829 C hh b1 dX8_relay_5 ?_
  refine lv_iconst (v := (2 : Int32)) hx hb dX8_relay_6 (by decide) ?_
  refine lv_icmp_ne (tgt := 35) hx hb dX8_relay_7 (by decide) (fun c2 => ?_) (fun c2 => ?_)
  · rw [if_neg c2] at h
    refine lv_aload_n hx hb dX8_relay_35 rfl (lv_at hl 0 rfl) ?_
    refine gf_8_80 C hh dX8_relay_36 ?_
    refine lv_iconst (v := (1 : Int32)) hx hb dX8_relay_39 (by decide) ?_
    obtain ⟨b3, h⟩ := gd_e h
    refine al_829 C hh b3 dX8_relay_40 ?_
    refine lv_iconst (v := (4 : Int32)) hx hb dX8_relay_41 (by decide) ?_
    refine lv_icmp_lt (tgt := 46) hx hb dX8_relay_42 (by decide) (fun c4 => ?_) (fun c4 => ?_)
    · rw [if_pos c4] at h
      refine lv_aload_n hx hb dX8_relay_46 rfl (lv_at hl 0 rfl) ?_
      refine gf_8_80 C hh dX8_relay_47 ?_
      refine lv_iconst (v := (1 : Int32)) hx hb dX8_relay_50 (by decide) ?_
      refine lv_aload_n hx hb dX8_relay_51 rfl (lv_at hl 0 rfl) ?_
      refine gf_8_80 C hh dX8_relay_52 ?_
      refine lv_iconst (v := (1 : Int32)) hx hb dX8_relay_55 (by decide) ?_
      obtain ⟨b5, h⟩ := gd_e h
      refine al_829 C hh b5 dX8_relay_56 ?_
      refine lv_iconst (v := (1 : Int32)) hx hb dX8_relay_57 (by decide) ?_
      refine lv_iadd hx hb dX8_relay_58 ?_
      obtain ⟨b6, h⟩ := gd_e h
      obtain ⟨s7, e8, h⟩ := vl_e h
      refine as_829 C hh b6 dX8_relay_59 (fun H locs hh => ?_)
      rw [← e8] at hh
      refine lv_aload_n hx hb dX8_relay_60 rfl (lv_at hl 0 rfl) ?_
      obtain ⟨r11, s10, e9, h⟩ := bn_e h
      refine c_int hh (vrun (rest := []) C hh (c_X8_giaddr C.2.2.2.1 s7 e9) LM_8_180 IM_X8_giaddr SL_X8_giaddr IN_8 CD_X8_giaddr HD_X8_giaddr ⟨rfl, rfl, Nat.le_of_ble_eq_true rfl, Nat.le_of_ble_eq_true rfl⟩ (rv_8 C hh) rfl hl.1 rfl (Nat.le_of_ble_eq_true rfl) dX8_relay_61 ⟨Nat.zero_le _, Nat.zero_le _⟩) (fun H locs hh => ?_)
      refine lv_if_ne (tgt := 83) hx hb dX8_relay_64 (by decide) (fun c12 => ?_) (fun c12 => ?_)
      · rw [if_neg c12] at h
        exact k_X8_relay_83 C s10 h hh (lv_sub hl [0] rfl)
      · rw [if_pos c12] at h
        refine lv_aload_n hx hb dX8_relay_67 rfl (lv_at hl 0 rfl) ?_
        refine lv_bipush (v := (14 : Int32)) hx hb dX8_relay_68 (by decide) ?_
        refine lv_sipush (v := (256 : Int32)) hx hb dX8_relay_70 (by decide) ?_
        refine lv_iload_n hx hb dX8_relay_73 rfl (lv_at hl 1 rfl) ?_
        refine lv_bipush (v := (12 : Int32)) hx hb dX8_relay_74 (by decide) ?_
        refine lv_isub hx hb dX8_relay_76 ?_
        refine lv_imul hx hb dX8_relay_77 ?_
        refine lv_iconst (v := (1 : Int32)) hx hb dX8_relay_78 (by decide) ?_
        refine lv_iadd hx hb dX8_relay_79 ?_
        obtain ⟨s14, e13, h⟩ := bv_e h
        refine c_void hh (vrun (rest := []) C hh (c_X8_putFour C.2.2.2.1 (14 : Int32) (((256 : Int32) * (x1 - (12 : Int32))) + (1 : Int32)) s10 e13) LM_8_127 IM_X8_putFour SL_X8_putFour IN_8 CD_X8_putFour HD_X8_putFour ⟨rfl, rfl, Nat.le_of_ble_eq_true rfl, Nat.le_of_ble_eq_true rfl⟩ (rv_8 C hh) rfl hl.1 rfl (Nat.le_of_ble_eq_true rfl) dX8_relay_80 ⟨Nat.zero_le _, Nat.zero_le _⟩) (fun H locs hh => ?_)
        exact k_X8_relay_83 C s14 h hh (lv_sub hl [0] rfl)
    · rw [if_neg c4] at h
      exact r_void C hh h dX8_relay_45
  · rw [if_pos c2] at h
    refine lv_aload_n hx hb dX8_relay_10 rfl (lv_at hl 0 rfl) ?_
    refine gf_8_80 C hh dX8_relay_11 ?_
    refine lv_bipush (v := (18 : Int32)) hx hb dX8_relay_14 (by decide) ?_
    obtain ⟨b15, h⟩ := gd_e h
    refine al_829 C hh b15 dX8_relay_16 ?_
    obtain ⟨r18, s17, e16, h⟩ := bn_e h
    refine c_int hh (srun (rest := []) C hh (c_X8_isClient C.2.2.2.1 (σ 829 0 ((18 : Int32)).toNatClampNeg) σ e16) LM_8_90 ST_X8_isClient IN_8 CD_X8_isClient HD_X8_isClient ⟨rfl, rfl, Nat.le_of_ble_eq_true rfl, Nat.le_of_ble_eq_true rfl⟩ rfl hl.1 rfl (Nat.le_of_ble_eq_true rfl) dX8_relay_17 ⟨Nat.zero_le _, Nat.zero_le _⟩) (fun H locs hh => ?_)
    refine lv_if_eq (tgt := 34) hx hb dX8_relay_20 (by decide) (fun c19 => ?_) (fun c19 => ?_)
    · rw [if_pos c19] at h
      exact r_void C hh h dX8_relay_34
    · rw [if_neg c19] at h
      refine lv_aload_n hx hb dX8_relay_23 rfl (lv_at hl 0 rfl) ?_
      refine lv_aload_n hx hb dX8_relay_24 rfl (lv_at hl 0 rfl) ?_
      refine gf_8_80 C hh dX8_relay_25 ?_
      refine lv_bipush (v := (18 : Int32)) hx hb dX8_relay_28 (by decide) ?_
      obtain ⟨b20, h⟩ := gd_e h
      refine al_829 C hh b20 dX8_relay_30 ?_
      obtain ⟨s22, e21, h⟩ := bv_e h
      refine c_void hh (vrun (rest := []) C hh (c_X8_send C.2.2.2.1 (s17 829 0 ((18 : Int32)).toNatClampNeg) s17 e21) LM_8_161 IM_X8_send SL_X8_send IN_8 CD_X8_send HD_X8_send ⟨rfl, rfl, Nat.le_of_ble_eq_true rfl, Nat.le_of_ble_eq_true rfl⟩ (rv_8 C hh) rfl hl.1 rfl (Nat.le_of_ble_eq_true rfl) dX8_relay_31 ⟨Nat.zero_le _, Nat.zero_le _⟩) (fun H locs hh => ?_)
      exact r_void C hh h dX8_relay_34
abbrev rm_X8_broadcast : Room := { frames := 1, cells := 0, slots := 0, locals := 22 }
theorem HD_X8_broadcast : yX8_broadcast.cls = RX8 ∧ yX8_broadcast.cls ≠ "java/lang/invoke/MethodHandle" ∧ yX8_broadcast.cls ≠ "java/lang/invoke/VarHandle" ∧ (parseMethodDescriptor yX8_broadcast.desc).map (fun d => d.parameters.length) = some 1 := by decide +kernel
def f_X8_broadcast_24 (xs0 : Int32) (σ : Mem) : Option (Mem) := bv (f_X8_send xs0 σ) (fun s2 => some s2)
set_option maxHeartbeats 4000000 in
set_option maxRecDepth 100000 in
theorem k_X8_broadcast_24 {p : Program} {l : Launch} {e : Env} {s : State} {m : MethodId} {args : Array Value} {below : List Frame} {meth : Method} {c : Code} {D : va_G} {cA : Nat → ClassId} {ad : Nat → Nat → Nat} {A : Nat → Prop} {o : Nat → Int64} (C : Cx p s m args meth c cX8_broadcast 2 RX8 none D cA ad A o) {r : Mem} (xs0 : Int32) (σ : Mem) {H : Heap} {locs : List Loc} (h : f_X8_broadcast_24 xs0 σ = some r) (hh : HH D cA ad A o s σ H locs) {ls : Array Slot} (hl : lv_has ls 2 []) : W p l e rm_X8_broadcast s m args below meth c H locs 0 0 (MQ below (Qv D cA ad o A r) args s 0 0 A) (F0 m 24 ls [.int xs0, .ref (ad 899 0)]) := by
  obtain ⟨⟨hx, hb, hml, hown, hts⟩, hK, hN, hD, hr, hlocks⟩ := id C
  unfold f_X8_broadcast_24 at h
  obtain ⟨s2, e1, h⟩ := bv_e h
  refine c_void hh (vrun (rest := []) C hh (c_X8_send C.2.2.2.1 xs0 σ e1) LM_8_161 IM_X8_send SL_X8_send IN_8 CD_X8_send HD_X8_send ⟨rfl, rfl, Nat.le_of_ble_eq_true rfl, Nat.le_of_ble_eq_true rfl⟩ (rv_8 C hh) rfl hl.1 rfl (Nat.le_of_ble_eq_true rfl) dX8_broadcast_24 ⟨Nat.zero_le _, Nat.zero_le _⟩) (fun H locs hh => ?_)
  exact r_void C hh h dX8_broadcast_27
def f_X8_broadcast (x1 : Int32) (σ : Mem) : Option (Mem) := gd (vin x1 12) ((if (σ 813 0 (x1).toNatClampNeg) = (0 : Int32) then f_X8_broadcast_24 (16 : Int32) σ else gd (vin x1 12) (f_X8_broadcast_24 ((12 : Int32) + (σ 813 0 (x1).toNatClampNeg)) σ)))
set_option maxHeartbeats 4000000 in
set_option maxRecDepth 100000 in
theorem c_X8_broadcast {l : Launch} {D : va_G} {cA : Nat → ClassId} {ad : Nat → Nat → Nat} {A : Nat → Prop} {o : Nat → Int64} (hD0 : ∀ σ, va_D A (wW cA ad σ o)) (x1 : Int32) (σ : Mem) {r : Mem} (h : f_X8_broadcast x1 σ = some r) : Met l yX8_broadcast (wsG yX8_broadcast cX8_broadcast 2 none) rm_X8_broadcast (va_Pc [.ref (ad 899 0), .int x1] (IW D cA ad o σ)) (Qv D cA ad o A r) 0 0 A := by
  refine metG (by decide) (Nat.le_of_ble_eq_true rfl) hD0 ?_
  intro p e s m args below meth c C ls hh hl
  have C : Cx p s m args meth c cX8_broadcast 2 RX8 none D cA ad A o := C
  have hl : lv_has ls 2 [(0, .ref (ad 899 0)), (1, .int x1)] := hl
  obtain ⟨⟨hx, hb, hml, hown, hts⟩, hK, hN, hD, hr, hlocks⟩ := id C
  unfold f_X8_broadcast at h
  refine lv_aload_n hx hb dX8_broadcast_0 rfl (lv_at hl 0 rfl) ?_
  refine lv_aload_n hx hb dX8_broadcast_1 rfl (lv_at hl 0 rfl) ?_
  refine gf_8_41 C hh dX8_broadcast_2 ?_
  refine lv_iload_n hx hb dX8_broadcast_5 rfl (lv_at hl 1 rfl) ?_
  obtain ⟨b1, h⟩ := gd_e h
  refine al_813 C hh b1 dX8_broadcast_6 ?_
  refine lv_if_ne (tgt := 15) hx hb dX8_broadcast_7 (by decide) (fun c2 => ?_) (fun c2 => ?_)
  · rw [if_neg c2] at h
    refine lv_bipush (v := (12 : Int32)) hx hb dX8_broadcast_15 (by decide) ?_
    refine lv_aload_n hx hb dX8_broadcast_17 rfl (lv_at hl 0 rfl) ?_
    refine gf_8_41 C hh dX8_broadcast_18 ?_
    refine lv_iload_n hx hb dX8_broadcast_21 rfl (lv_at hl 1 rfl) ?_
    obtain ⟨b3, h⟩ := gd_e h
    refine al_813 C hh b3 dX8_broadcast_22 ?_
    refine lv_iadd hx hb dX8_broadcast_23 ?_
    exact k_X8_broadcast_24 C ((12 : Int32) + (σ 813 0 (x1).toNatClampNeg)) σ h hh (lv_sub hl [] rfl)
  · rw [if_pos c2] at h
    refine lv_bipush (v := (16 : Int32)) hx hb dX8_broadcast_10 (by decide) ?_
    refine lv_goto (tgt := 24) hx hb dX8_broadcast_12 (by decide) ?_
    exact k_X8_broadcast_24 C (16 : Int32) σ h hh (lv_sub hl [] rfl)
abbrev rm_X8_say : Room := { frames := 2, cells := 0, slots := 0, locals := 49 }
theorem HD_X8_say : yX8_say.cls = RX8 ∧ yX8_say.cls ≠ "java/lang/invoke/MethodHandle" ∧ yX8_say.cls ≠ "java/lang/invoke/VarHandle" ∧ (parseMethodDescriptor yX8_say.desc).map (fun d => d.parameters.length) = some 3 := by decide +kernel
def f_X8_say (x1 : Int32) (x2 : Int32) (x3 : Int32) (σ : Mem) : Option (Mem) := gd (vin x1 12) (gd (vin x1 12) (vl (up σ 818 0 (x1).toNatClampNeg ((σ 818 0 (x1).toNatClampNeg) + (1 : Int32))) (fun s3 => gd (vin x1 12) (vl (up s3 819 0 (x1).toNatClampNeg (s3 801 0 0)) (fun s6 => gd (vin x1 12) (bv (f_X8_make (1 : Int32) (s6 818 0 (x1).toNatClampNeg) x3 (0 : Int32) (0 : Int32) x1 x2 s6) (fun s10 => some s10)))))))
set_option maxHeartbeats 4000000 in
set_option maxRecDepth 100000 in
theorem c_X8_say {l : Launch} {D : va_G} {cA : Nat → ClassId} {ad : Nat → Nat → Nat} {A : Nat → Prop} {o : Nat → Int64} (hD0 : ∀ σ, va_D A (wW cA ad σ o)) (x1 : Int32) (x2 : Int32) (x3 : Int32) (σ : Mem) {r : Mem} (h : f_X8_say x1 x2 x3 σ = some r) : Met l yX8_say (wsG yX8_say cX8_say 4 none) rm_X8_say (va_Pc [.ref (ad 899 0), .int x1, .int x2, .int x3] (IW D cA ad o σ)) (Qv D cA ad o A r) 0 0 A := by
  refine metG (by decide) (Nat.le_of_ble_eq_true rfl) hD0 ?_
  intro p e s m args below meth c C ls hh hl
  have C : Cx p s m args meth c cX8_say 4 RX8 none D cA ad A o := C
  have hl : lv_has ls 4 [(0, .ref (ad 899 0)), (1, .int x1), (2, .int x2), (3, .int x3)] := hl
  obtain ⟨⟨hx, hb, hml, hown, hts⟩, hK, hN, hD, hr, hlocks⟩ := id C
  unfold f_X8_say at h
  refine lv_aload_n hx hb dX8_say_0 rfl (lv_at hl 0 rfl) ?_
  refine gf_8_56 C hh dX8_say_1 ?_
  refine lv_iload_n hx hb dX8_say_4 rfl (lv_at hl 1 rfl) ?_
  refine lv_dup2_11 hx hb dX8_say_5 rfl rfl ?_
  obtain ⟨b1, h⟩ := gd_e h
  refine al_818 C hh b1 dX8_say_6 ?_
  refine lv_iconst (v := (1 : Int32)) hx hb dX8_say_7 (by decide) ?_
  refine lv_iadd hx hb dX8_say_8 ?_
  obtain ⟨b2, h⟩ := gd_e h
  obtain ⟨s3, e4, h⟩ := vl_e h
  refine as_818 C hh b2 dX8_say_9 (fun H locs hh => ?_)
  rw [← e4] at hh
  refine lv_aload_n hx hb dX8_say_10 rfl (lv_at hl 0 rfl) ?_
  refine gf_8_59 C hh dX8_say_11 ?_
  refine lv_iload_n hx hb dX8_say_14 rfl (lv_at hl 1 rfl) ?_
  refine lv_aload_n hx hb dX8_say_15 rfl (lv_at hl 0 rfl) ?_
  refine gf_8_130 C hh dX8_say_16 ?_
  obtain ⟨b5, h⟩ := gd_e h
  obtain ⟨s6, e7, h⟩ := vl_e h
  refine as_819 C hh b5 dX8_say_19 (fun H locs hh => ?_)
  rw [← e7] at hh
  refine lv_aload_n hx hb dX8_say_20 rfl (lv_at hl 0 rfl) ?_
  refine lv_iconst (v := (1 : Int32)) hx hb dX8_say_21 (by decide) ?_
  refine lv_aload_n hx hb dX8_say_22 rfl (lv_at hl 0 rfl) ?_
  refine gf_8_56 C hh dX8_say_23 ?_
  refine lv_iload_n hx hb dX8_say_26 rfl (lv_at hl 1 rfl) ?_
  obtain ⟨b8, h⟩ := gd_e h
  refine al_818 C hh b8 dX8_say_27 ?_
  refine lv_iload_n hx hb dX8_say_28 rfl (lv_at hl 3 rfl) ?_
  refine lv_iconst (v := (0 : Int32)) hx hb dX8_say_29 (by decide) ?_
  refine lv_iconst (v := (0 : Int32)) hx hb dX8_say_30 (by decide) ?_
  refine lv_iload_n hx hb dX8_say_31 rfl (lv_at hl 1 rfl) ?_
  refine lv_iload_n hx hb dX8_say_32 rfl (lv_at hl 2 rfl) ?_
  obtain ⟨s10, e9, h⟩ := bv_e h
  refine c_void hh (vrun (rest := []) C hh (c_X8_make C.2.2.2.1 (1 : Int32) (s6 818 0 (x1).toNatClampNeg) x3 (0 : Int32) (0 : Int32) x1 x2 s6 e9) LM_8_151 IM_X8_make SL_X8_make IN_8 CD_X8_make HD_X8_make ⟨rfl, rfl, Nat.le_of_ble_eq_true rfl, Nat.le_of_ble_eq_true rfl⟩ (rv_8 C hh) rfl hl.1 rfl (Nat.le_of_ble_eq_true rfl) dX8_say_33 ⟨Nat.zero_le _, Nat.zero_le _⟩) (fun H locs hh => ?_)
  exact r_void C hh h dX8_say_36
abbrev rm_X8_sayDiscover : Room := { frames := 3, cells := 0, slots := 0, locals := 72 }
theorem HD_X8_sayDiscover : yX8_sayDiscover.cls = RX8 ∧ yX8_sayDiscover.cls ≠ "java/lang/invoke/MethodHandle" ∧ yX8_sayDiscover.cls ≠ "java/lang/invoke/VarHandle" ∧ (parseMethodDescriptor yX8_sayDiscover.desc).map (fun d => d.parameters.length) = some 1 := by decide +kernel
def f_X8_sayDiscover (x1 : Int32) (σ : Mem) : Option (Mem) := bv (f_X8_say x1 (1 : Int32) (0 : Int32) σ) (fun s2 => bv (f_X8_finish s2) (fun s4 => bv (f_X8_broadcast x1 s4) (fun s6 => some s6)))
set_option maxHeartbeats 4000000 in
set_option maxRecDepth 100000 in
theorem c_X8_sayDiscover {l : Launch} {D : va_G} {cA : Nat → ClassId} {ad : Nat → Nat → Nat} {A : Nat → Prop} {o : Nat → Int64} (hD0 : ∀ σ, va_D A (wW cA ad σ o)) (x1 : Int32) (σ : Mem) {r : Mem} (h : f_X8_sayDiscover x1 σ = some r) : Met l yX8_sayDiscover (wsG yX8_sayDiscover cX8_sayDiscover 2 none) rm_X8_sayDiscover (va_Pc [.ref (ad 899 0), .int x1] (IW D cA ad o σ)) (Qv D cA ad o A r) 0 0 A := by
  refine metG (by decide) (Nat.le_of_ble_eq_true rfl) hD0 ?_
  intro p e s m args below meth c C ls hh hl
  have C : Cx p s m args meth c cX8_sayDiscover 2 RX8 none D cA ad A o := C
  have hl : lv_has ls 2 [(0, .ref (ad 899 0)), (1, .int x1)] := hl
  obtain ⟨⟨hx, hb, hml, hown, hts⟩, hK, hN, hD, hr, hlocks⟩ := id C
  unfold f_X8_sayDiscover at h
  refine lv_aload_n hx hb dX8_sayDiscover_0 rfl (lv_at hl 0 rfl) ?_
  refine lv_iload_n hx hb dX8_sayDiscover_1 rfl (lv_at hl 1 rfl) ?_
  refine lv_iconst (v := (1 : Int32)) hx hb dX8_sayDiscover_2 (by decide) ?_
  refine lv_iconst (v := (0 : Int32)) hx hb dX8_sayDiscover_3 (by decide) ?_
  obtain ⟨s2, e1, h⟩ := bv_e h
  refine c_void hh (vrun (rest := []) C hh (c_X8_say C.2.2.2.1 x1 (1 : Int32) (0 : Int32) σ e1) LM_8_201 IM_X8_say SL_X8_say IN_8 CD_X8_say HD_X8_say ⟨rfl, rfl, Nat.le_of_ble_eq_true rfl, Nat.le_of_ble_eq_true rfl⟩ (rv_8 C hh) rfl hl.1 rfl (Nat.le_of_ble_eq_true rfl) dX8_sayDiscover_4 ⟨Nat.zero_le _, Nat.zero_le _⟩) (fun H locs hh => ?_)
  refine lv_aload_n hx hb dX8_sayDiscover_7 rfl (lv_at hl 0 rfl) ?_
  obtain ⟨s4, e3, h⟩ := bv_e h
  refine c_void hh (vrun (rest := []) C hh (c_X8_finish C.2.2.2.1 s2 e3) LM_8_158 IM_X8_finish SL_X8_finish IN_8 CD_X8_finish HD_X8_finish ⟨rfl, rfl, Nat.le_of_ble_eq_true rfl, Nat.le_of_ble_eq_true rfl⟩ (rv_8 C hh) rfl hl.1 rfl (Nat.le_of_ble_eq_true rfl) dX8_sayDiscover_8 ⟨Nat.zero_le _, Nat.zero_le _⟩) (fun H locs hh => ?_)
  refine lv_aload_n hx hb dX8_sayDiscover_11 rfl (lv_at hl 0 rfl) ?_
  refine lv_iload_n hx hb dX8_sayDiscover_12 rfl (lv_at hl 1 rfl) ?_
  obtain ⟨s6, e5, h⟩ := bv_e h
  refine c_void hh (vrun (rest := []) C hh (c_X8_broadcast C.2.2.2.1 x1 s4 e5) LM_8_204 IM_X8_broadcast SL_X8_broadcast IN_8 CD_X8_broadcast HD_X8_broadcast ⟨rfl, rfl, Nat.le_of_ble_eq_true rfl, Nat.le_of_ble_eq_true rfl⟩ (rv_8 C hh) rfl hl.1 rfl (Nat.le_of_ble_eq_true rfl) dX8_sayDiscover_13 ⟨Nat.zero_le _, Nat.zero_le _⟩) (fun H locs hh => ?_)
  exact r_void C hh h dX8_sayDiscover_16
abbrev rm_X8_sayRequest : Room := { frames := 3, cells := 0, slots := 0, locals := 72 }
theorem HD_X8_sayRequest : yX8_sayRequest.cls = RX8 ∧ yX8_sayRequest.cls ≠ "java/lang/invoke/MethodHandle" ∧ yX8_sayRequest.cls ≠ "java/lang/invoke/VarHandle" ∧ (parseMethodDescriptor yX8_sayRequest.desc).map (fun d => d.parameters.length) = some 1 := by decide +kernel
def f_X8_sayRequest (x1 : Int32) (σ : Mem) : Option (Mem) := bv (f_X8_say x1 (3 : Int32) (0 : Int32) σ) (fun s2 => gd (vin x1 12) (bv (f_X8_option (50 : Int32) (s2 821 0 (x1).toNatClampNeg) s2) (fun s5 => gd (vin x1 12) (bv (f_X8_option (54 : Int32) (s5 822 0 (x1).toNatClampNeg) s5) (fun s8 => bv (f_X8_finish s8) (fun s10 => bv (f_X8_broadcast x1 s10) (fun s12 => some s12)))))))
set_option maxHeartbeats 4000000 in
set_option maxRecDepth 100000 in
theorem c_X8_sayRequest {l : Launch} {D : va_G} {cA : Nat → ClassId} {ad : Nat → Nat → Nat} {A : Nat → Prop} {o : Nat → Int64} (hD0 : ∀ σ, va_D A (wW cA ad σ o)) (x1 : Int32) (σ : Mem) {r : Mem} (h : f_X8_sayRequest x1 σ = some r) : Met l yX8_sayRequest (wsG yX8_sayRequest cX8_sayRequest 2 none) rm_X8_sayRequest (va_Pc [.ref (ad 899 0), .int x1] (IW D cA ad o σ)) (Qv D cA ad o A r) 0 0 A := by
  refine metG (by decide) (Nat.le_of_ble_eq_true rfl) hD0 ?_
  intro p e s m args below meth c C ls hh hl
  have C : Cx p s m args meth c cX8_sayRequest 2 RX8 none D cA ad A o := C
  have hl : lv_has ls 2 [(0, .ref (ad 899 0)), (1, .int x1)] := hl
  obtain ⟨⟨hx, hb, hml, hown, hts⟩, hK, hN, hD, hr, hlocks⟩ := id C
  unfold f_X8_sayRequest at h
  refine lv_aload_n hx hb dX8_sayRequest_0 rfl (lv_at hl 0 rfl) ?_
  refine lv_iload_n hx hb dX8_sayRequest_1 rfl (lv_at hl 1 rfl) ?_
  refine lv_iconst (v := (3 : Int32)) hx hb dX8_sayRequest_2 (by decide) ?_
  refine lv_iconst (v := (0 : Int32)) hx hb dX8_sayRequest_3 (by decide) ?_
  obtain ⟨s2, e1, h⟩ := bv_e h
  refine c_void hh (vrun (rest := []) C hh (c_X8_say C.2.2.2.1 x1 (3 : Int32) (0 : Int32) σ e1) LM_8_201 IM_X8_say SL_X8_say IN_8 CD_X8_say HD_X8_say ⟨rfl, rfl, Nat.le_of_ble_eq_true rfl, Nat.le_of_ble_eq_true rfl⟩ (rv_8 C hh) rfl hl.1 rfl (Nat.le_of_ble_eq_true rfl) dX8_sayRequest_4 ⟨Nat.zero_le _, Nat.zero_le _⟩) (fun H locs hh => ?_)
  refine lv_aload_n hx hb dX8_sayRequest_7 rfl (lv_at hl 0 rfl) ?_
  refine lv_bipush (v := (50 : Int32)) hx hb dX8_sayRequest_8 (by decide) ?_
  refine lv_aload_n hx hb dX8_sayRequest_10 rfl (lv_at hl 0 rfl) ?_
  refine gf_8_65 C hh dX8_sayRequest_11 ?_
  refine lv_iload_n hx hb dX8_sayRequest_14 rfl (lv_at hl 1 rfl) ?_
  obtain ⟨b3, h⟩ := gd_e h
  refine al_821 C hh b3 dX8_sayRequest_15 ?_
  obtain ⟨s5, e4, h⟩ := bv_e h
  refine c_void hh (vrun (rest := []) C hh (c_X8_option C.2.2.2.1 (50 : Int32) (s2 821 0 (x1).toNatClampNeg) s2 e4) LM_8_155 IM_X8_option SL_X8_option IN_8 CD_X8_option HD_X8_option ⟨rfl, rfl, Nat.le_of_ble_eq_true rfl, Nat.le_of_ble_eq_true rfl⟩ (rv_8 C hh) rfl hl.1 rfl (Nat.le_of_ble_eq_true rfl) dX8_sayRequest_16 ⟨Nat.zero_le _, Nat.zero_le _⟩) (fun H locs hh => ?_)
  refine lv_aload_n hx hb dX8_sayRequest_19 rfl (lv_at hl 0 rfl) ?_
  refine lv_bipush (v := (54 : Int32)) hx hb dX8_sayRequest_20 (by decide) ?_
  refine lv_aload_n hx hb dX8_sayRequest_22 rfl (lv_at hl 0 rfl) ?_
  refine gf_8_68 C hh dX8_sayRequest_23 ?_
  refine lv_iload_n hx hb dX8_sayRequest_26 rfl (lv_at hl 1 rfl) ?_
  obtain ⟨b6, h⟩ := gd_e h
  refine al_822 C hh b6 dX8_sayRequest_27 ?_
  obtain ⟨s8, e7, h⟩ := bv_e h
  refine c_void hh (vrun (rest := []) C hh (c_X8_option C.2.2.2.1 (54 : Int32) (s5 822 0 (x1).toNatClampNeg) s5 e7) LM_8_155 IM_X8_option SL_X8_option IN_8 CD_X8_option HD_X8_option ⟨rfl, rfl, Nat.le_of_ble_eq_true rfl, Nat.le_of_ble_eq_true rfl⟩ (rv_8 C hh) rfl hl.1 rfl (Nat.le_of_ble_eq_true rfl) dX8_sayRequest_28 ⟨Nat.zero_le _, Nat.zero_le _⟩) (fun H locs hh => ?_)
  refine lv_aload_n hx hb dX8_sayRequest_31 rfl (lv_at hl 0 rfl) ?_
  obtain ⟨s10, e9, h⟩ := bv_e h
  refine c_void hh (vrun (rest := []) C hh (c_X8_finish C.2.2.2.1 s8 e9) LM_8_158 IM_X8_finish SL_X8_finish IN_8 CD_X8_finish HD_X8_finish ⟨rfl, rfl, Nat.le_of_ble_eq_true rfl, Nat.le_of_ble_eq_true rfl⟩ (rv_8 C hh) rfl hl.1 rfl (Nat.le_of_ble_eq_true rfl) dX8_sayRequest_32 ⟨Nat.zero_le _, Nat.zero_le _⟩) (fun H locs hh => ?_)
  refine lv_aload_n hx hb dX8_sayRequest_35 rfl (lv_at hl 0 rfl) ?_
  refine lv_iload_n hx hb dX8_sayRequest_36 rfl (lv_at hl 1 rfl) ?_
  obtain ⟨s12, e11, h⟩ := bv_e h
  refine c_void hh (vrun (rest := []) C hh (c_X8_broadcast C.2.2.2.1 x1 s10 e11) LM_8_204 IM_X8_broadcast SL_X8_broadcast IN_8 CD_X8_broadcast HD_X8_broadcast ⟨rfl, rfl, Nat.le_of_ble_eq_true rfl, Nat.le_of_ble_eq_true rfl⟩ (rv_8 C hh) rfl hl.1 rfl (Nat.le_of_ble_eq_true rfl) dX8_sayRequest_37 ⟨Nat.zero_le _, Nat.zero_le _⟩) (fun H locs hh => ?_)
  exact r_void C hh h dX8_sayRequest_40
abbrev rm_X8_sayReboot : Room := { frames := 3, cells := 0, slots := 0, locals := 72 }
theorem HD_X8_sayReboot : yX8_sayReboot.cls = RX8 ∧ yX8_sayReboot.cls ≠ "java/lang/invoke/MethodHandle" ∧ yX8_sayReboot.cls ≠ "java/lang/invoke/VarHandle" ∧ (parseMethodDescriptor yX8_sayReboot.desc).map (fun d => d.parameters.length) = some 1 := by decide +kernel
def f_X8_sayReboot (x1 : Int32) (σ : Mem) : Option (Mem) := bv (f_X8_say x1 (3 : Int32) (0 : Int32) σ) (fun s2 => gd (vin x1 12) (bv (f_X8_option (50 : Int32) (s2 814 0 (x1).toNatClampNeg) s2) (fun s5 => bv (f_X8_finish s5) (fun s7 => bv (f_X8_broadcast x1 s7) (fun s9 => some s9)))))
set_option maxHeartbeats 4000000 in
set_option maxRecDepth 100000 in
theorem c_X8_sayReboot {l : Launch} {D : va_G} {cA : Nat → ClassId} {ad : Nat → Nat → Nat} {A : Nat → Prop} {o : Nat → Int64} (hD0 : ∀ σ, va_D A (wW cA ad σ o)) (x1 : Int32) (σ : Mem) {r : Mem} (h : f_X8_sayReboot x1 σ = some r) : Met l yX8_sayReboot (wsG yX8_sayReboot cX8_sayReboot 2 none) rm_X8_sayReboot (va_Pc [.ref (ad 899 0), .int x1] (IW D cA ad o σ)) (Qv D cA ad o A r) 0 0 A := by
  refine metG (by decide) (Nat.le_of_ble_eq_true rfl) hD0 ?_
  intro p e s m args below meth c C ls hh hl
  have C : Cx p s m args meth c cX8_sayReboot 2 RX8 none D cA ad A o := C
  have hl : lv_has ls 2 [(0, .ref (ad 899 0)), (1, .int x1)] := hl
  obtain ⟨⟨hx, hb, hml, hown, hts⟩, hK, hN, hD, hr, hlocks⟩ := id C
  unfold f_X8_sayReboot at h
  refine lv_aload_n hx hb dX8_sayReboot_0 rfl (lv_at hl 0 rfl) ?_
  refine lv_iload_n hx hb dX8_sayReboot_1 rfl (lv_at hl 1 rfl) ?_
  refine lv_iconst (v := (3 : Int32)) hx hb dX8_sayReboot_2 (by decide) ?_
  refine lv_iconst (v := (0 : Int32)) hx hb dX8_sayReboot_3 (by decide) ?_
  obtain ⟨s2, e1, h⟩ := bv_e h
  refine c_void hh (vrun (rest := []) C hh (c_X8_say C.2.2.2.1 x1 (3 : Int32) (0 : Int32) σ e1) LM_8_201 IM_X8_say SL_X8_say IN_8 CD_X8_say HD_X8_say ⟨rfl, rfl, Nat.le_of_ble_eq_true rfl, Nat.le_of_ble_eq_true rfl⟩ (rv_8 C hh) rfl hl.1 rfl (Nat.le_of_ble_eq_true rfl) dX8_sayReboot_4 ⟨Nat.zero_le _, Nat.zero_le _⟩) (fun H locs hh => ?_)
  refine lv_aload_n hx hb dX8_sayReboot_7 rfl (lv_at hl 0 rfl) ?_
  refine lv_bipush (v := (50 : Int32)) hx hb dX8_sayReboot_8 (by decide) ?_
  refine lv_aload_n hx hb dX8_sayReboot_10 rfl (lv_at hl 0 rfl) ?_
  refine gf_8_44 C hh dX8_sayReboot_11 ?_
  refine lv_iload_n hx hb dX8_sayReboot_14 rfl (lv_at hl 1 rfl) ?_
  obtain ⟨b3, h⟩ := gd_e h
  refine al_814 C hh b3 dX8_sayReboot_15 ?_
  obtain ⟨s5, e4, h⟩ := bv_e h
  refine c_void hh (vrun (rest := []) C hh (c_X8_option C.2.2.2.1 (50 : Int32) (s2 814 0 (x1).toNatClampNeg) s2 e4) LM_8_155 IM_X8_option SL_X8_option IN_8 CD_X8_option HD_X8_option ⟨rfl, rfl, Nat.le_of_ble_eq_true rfl, Nat.le_of_ble_eq_true rfl⟩ (rv_8 C hh) rfl hl.1 rfl (Nat.le_of_ble_eq_true rfl) dX8_sayReboot_16 ⟨Nat.zero_le _, Nat.zero_le _⟩) (fun H locs hh => ?_)
  refine lv_aload_n hx hb dX8_sayReboot_19 rfl (lv_at hl 0 rfl) ?_
  obtain ⟨s7, e6, h⟩ := bv_e h
  refine c_void hh (vrun (rest := []) C hh (c_X8_finish C.2.2.2.1 s5 e6) LM_8_158 IM_X8_finish SL_X8_finish IN_8 CD_X8_finish HD_X8_finish ⟨rfl, rfl, Nat.le_of_ble_eq_true rfl, Nat.le_of_ble_eq_true rfl⟩ (rv_8 C hh) rfl hl.1 rfl (Nat.le_of_ble_eq_true rfl) dX8_sayReboot_20 ⟨Nat.zero_le _, Nat.zero_le _⟩) (fun H locs hh => ?_)
  refine lv_aload_n hx hb dX8_sayReboot_23 rfl (lv_at hl 0 rfl) ?_
  refine lv_iload_n hx hb dX8_sayReboot_24 rfl (lv_at hl 1 rfl) ?_
  obtain ⟨s9, e8, h⟩ := bv_e h
  refine c_void hh (vrun (rest := []) C hh (c_X8_broadcast C.2.2.2.1 x1 s7 e8) LM_8_204 IM_X8_broadcast SL_X8_broadcast IN_8 CD_X8_broadcast HD_X8_broadcast ⟨rfl, rfl, Nat.le_of_ble_eq_true rfl, Nat.le_of_ble_eq_true rfl⟩ (rv_8 C hh) rfl hl.1 rfl (Nat.le_of_ble_eq_true rfl) dX8_sayReboot_25 ⟨Nat.zero_le _, Nat.zero_le _⟩) (fun H locs hh => ?_)
  exact r_void C hh h dX8_sayReboot_28
abbrev rm_X8_sayRenew : Room := { frames := 3, cells := 0, slots := 0, locals := 72 }
theorem HD_X8_sayRenew : yX8_sayRenew.cls = RX8 ∧ yX8_sayRenew.cls ≠ "java/lang/invoke/MethodHandle" ∧ yX8_sayRenew.cls ≠ "java/lang/invoke/VarHandle" ∧ (parseMethodDescriptor yX8_sayRenew.desc).map (fun d => d.parameters.length) = some 1 := by decide +kernel
def f_X8_sayRenew (x1 : Int32) (σ : Mem) : Option (Mem) := gd (vin x1 12) (bv (f_X8_say x1 (3 : Int32) (σ 814 0 (x1).toNatClampNeg) σ) (fun s3 => bv (f_X8_finish s3) (fun s5 => gd (vin x1 12) ((if (s5 812 0 (x1).toNatClampNeg) = (4 : Int32) then bv (f_X8_send (16 : Int32) s5) (fun s11 => some s11) else bv (f_X8_broadcast x1 s5) (fun s9 => some s9))))))
set_option maxHeartbeats 4000000 in
set_option maxRecDepth 100000 in
theorem c_X8_sayRenew {l : Launch} {D : va_G} {cA : Nat → ClassId} {ad : Nat → Nat → Nat} {A : Nat → Prop} {o : Nat → Int64} (hD0 : ∀ σ, va_D A (wW cA ad σ o)) (x1 : Int32) (σ : Mem) {r : Mem} (h : f_X8_sayRenew x1 σ = some r) : Met l yX8_sayRenew (wsG yX8_sayRenew cX8_sayRenew 2 none) rm_X8_sayRenew (va_Pc [.ref (ad 899 0), .int x1] (IW D cA ad o σ)) (Qv D cA ad o A r) 0 0 A := by
  refine metG (by decide) (Nat.le_of_ble_eq_true rfl) hD0 ?_
  intro p e s m args below meth c C ls hh hl
  have C : Cx p s m args meth c cX8_sayRenew 2 RX8 none D cA ad A o := C
  have hl : lv_has ls 2 [(0, .ref (ad 899 0)), (1, .int x1)] := hl
  obtain ⟨⟨hx, hb, hml, hown, hts⟩, hK, hN, hD, hr, hlocks⟩ := id C
  unfold f_X8_sayRenew at h
  refine lv_aload_n hx hb dX8_sayRenew_0 rfl (lv_at hl 0 rfl) ?_
  refine lv_iload_n hx hb dX8_sayRenew_1 rfl (lv_at hl 1 rfl) ?_
  refine lv_iconst (v := (3 : Int32)) hx hb dX8_sayRenew_2 (by decide) ?_
  refine lv_aload_n hx hb dX8_sayRenew_3 rfl (lv_at hl 0 rfl) ?_
  refine gf_8_44 C hh dX8_sayRenew_4 ?_
  refine lv_iload_n hx hb dX8_sayRenew_7 rfl (lv_at hl 1 rfl) ?_
  obtain ⟨b1, h⟩ := gd_e h
  refine al_814 C hh b1 dX8_sayRenew_8 ?_
  obtain ⟨s3, e2, h⟩ := bv_e h
  refine c_void hh (vrun (rest := []) C hh (c_X8_say C.2.2.2.1 x1 (3 : Int32) (σ 814 0 (x1).toNatClampNeg) σ e2) LM_8_201 IM_X8_say SL_X8_say IN_8 CD_X8_say HD_X8_say ⟨rfl, rfl, Nat.le_of_ble_eq_true rfl, Nat.le_of_ble_eq_true rfl⟩ (rv_8 C hh) rfl hl.1 rfl (Nat.le_of_ble_eq_true rfl) dX8_sayRenew_9 ⟨Nat.zero_le _, Nat.zero_le _⟩) (fun H locs hh => ?_)
  refine lv_aload_n hx hb dX8_sayRenew_12 rfl (lv_at hl 0 rfl) ?_
  obtain ⟨s5, e4, h⟩ := bv_e h
  refine c_void hh (vrun (rest := []) C hh (c_X8_finish C.2.2.2.1 s3 e4) LM_8_158 IM_X8_finish SL_X8_finish IN_8 CD_X8_finish HD_X8_finish ⟨rfl, rfl, Nat.le_of_ble_eq_true rfl, Nat.le_of_ble_eq_true rfl⟩ (rv_8 C hh) rfl hl.1 rfl (Nat.le_of_ble_eq_true rfl) dX8_sayRenew_13 ⟨Nat.zero_le _, Nat.zero_le _⟩) (fun H locs hh => ?_)
  refine lv_aload_n hx hb dX8_sayRenew_16 rfl (lv_at hl 0 rfl) ?_
  refine gf_8_38 C hh dX8_sayRenew_17 ?_
  refine lv_iload_n hx hb dX8_sayRenew_20 rfl (lv_at hl 1 rfl) ?_
  obtain ⟨b6, h⟩ := gd_e h
  refine al_812 C hh b6 dX8_sayRenew_21 ?_
  refine lv_iconst (v := (4 : Int32)) hx hb dX8_sayRenew_22 (by decide) ?_
  refine lv_icmp_ne (tgt := 35) hx hb dX8_sayRenew_23 (by decide) (fun c7 => ?_) (fun c7 => ?_)
  · rw [if_neg c7] at h
    refine lv_aload_n hx hb dX8_sayRenew_35 rfl (lv_at hl 0 rfl) ?_
    refine lv_iload_n hx hb dX8_sayRenew_36 rfl (lv_at hl 1 rfl) ?_
    obtain ⟨s9, e8, h⟩ := bv_e h
    refine c_void hh (vrun (rest := []) C hh (c_X8_broadcast C.2.2.2.1 x1 s5 e8) LM_8_204 IM_X8_broadcast SL_X8_broadcast IN_8 CD_X8_broadcast HD_X8_broadcast ⟨rfl, rfl, Nat.le_of_ble_eq_true rfl, Nat.le_of_ble_eq_true rfl⟩ (rv_8 C hh) rfl hl.1 rfl (Nat.le_of_ble_eq_true rfl) dX8_sayRenew_37 ⟨Nat.zero_le _, Nat.zero_le _⟩) (fun H locs hh => ?_)
    exact r_void C hh h dX8_sayRenew_40
  · rw [if_pos c7] at h
    refine lv_aload_n hx hb dX8_sayRenew_26 rfl (lv_at hl 0 rfl) ?_
    refine lv_bipush (v := (16 : Int32)) hx hb dX8_sayRenew_27 (by decide) ?_
    obtain ⟨s11, e10, h⟩ := bv_e h
    refine c_void hh (vrun (rest := []) C hh (c_X8_send C.2.2.2.1 (16 : Int32) s5 e10) LM_8_161 IM_X8_send SL_X8_send IN_8 CD_X8_send HD_X8_send ⟨rfl, rfl, Nat.le_of_ble_eq_true rfl, Nat.le_of_ble_eq_true rfl⟩ (rv_8 C hh) rfl hl.1 rfl (Nat.le_of_ble_eq_true rfl) dX8_sayRenew_29 ⟨Nat.zero_le _, Nat.zero_le _⟩) (fun H locs hh => ?_)
    refine lv_goto (tgt := 40) hx hb dX8_sayRenew_32 (by decide) ?_
    exact r_void C hh h dX8_sayRenew_40
abbrev rm_X8_loseAddress : Room := { frames := 0, cells := 0, slots := 0, locals := 0 }
theorem HD_X8_loseAddress : yX8_loseAddress.cls = RX8 ∧ yX8_loseAddress.cls ≠ "java/lang/invoke/MethodHandle" ∧ yX8_loseAddress.cls ≠ "java/lang/invoke/VarHandle" ∧ (parseMethodDescriptor yX8_loseAddress.desc).map (fun d => d.parameters.length) = some 1 := by decide +kernel
def f_X8_loseAddress (x1 : Int32) (σ : Mem) : Option (Mem) := gd (vin x1 12) (vl (up σ 814 0 (x1).toNatClampNeg (0 : Int32)) (fun s2 => gd (vin x1 12) (vl (up s2 815 0 (x1).toNatClampNeg (0 : Int32)) (fun s5 => some s5))))
set_option maxHeartbeats 4000000 in
set_option maxRecDepth 100000 in
theorem c_X8_loseAddress {l : Launch} {D : va_G} {cA : Nat → ClassId} {ad : Nat → Nat → Nat} {A : Nat → Prop} {o : Nat → Int64} (hD0 : ∀ σ, va_D A (wW cA ad σ o)) (x1 : Int32) (σ : Mem) {r : Mem} (h : f_X8_loseAddress x1 σ = some r) : Met l yX8_loseAddress (wsG yX8_loseAddress cX8_loseAddress 2 none) rm_X8_loseAddress (va_Pc [.ref (ad 899 0), .int x1] (IW D cA ad o σ)) (Qv D cA ad o A r) 0 0 A := by
  refine metG (by decide) (Nat.le_of_ble_eq_true rfl) hD0 ?_
  intro p e s m args below meth c C ls hh hl
  have C : Cx p s m args meth c cX8_loseAddress 2 RX8 none D cA ad A o := C
  have hl : lv_has ls 2 [(0, .ref (ad 899 0)), (1, .int x1)] := hl
  obtain ⟨⟨hx, hb, hml, hown, hts⟩, hK, hN, hD, hr, hlocks⟩ := id C
  unfold f_X8_loseAddress at h
  refine lv_aload_n hx hb dX8_loseAddress_0 rfl (lv_at hl 0 rfl) ?_
  refine gf_8_44 C hh dX8_loseAddress_1 ?_
  refine lv_iload_n hx hb dX8_loseAddress_4 rfl (lv_at hl 1 rfl) ?_
  refine lv_iconst (v := (0 : Int32)) hx hb dX8_loseAddress_5 (by decide) ?_
  obtain ⟨b1, h⟩ := gd_e h
  obtain ⟨s2, e3, h⟩ := vl_e h
  refine as_814 C hh b1 dX8_loseAddress_6 (fun H locs hh => ?_)
  rw [← e3] at hh
  refine lv_aload_n hx hb dX8_loseAddress_7 rfl (lv_at hl 0 rfl) ?_
  refine gf_8_47 C hh dX8_loseAddress_8 ?_
  refine lv_iload_n hx hb dX8_loseAddress_11 rfl (lv_at hl 1 rfl) ?_
  refine lv_iconst (v := (0 : Int32)) hx hb dX8_loseAddress_12 (by decide) ?_
  obtain ⟨b4, h⟩ := gd_e h
  obtain ⟨s5, e6, h⟩ := vl_e h
  refine as_815 C hh b4 dX8_loseAddress_13 (fun H locs hh => ?_)
  rw [← e6] at hh
  exact r_void C hh h dX8_loseAddress_14
abbrev rm_X8_begin : Room := { frames := 4, cells := 0, slots := 0, locals := 93 }
theorem HD_X8_begin : yX8_begin.cls = RX8 ∧ yX8_begin.cls ≠ "java/lang/invoke/MethodHandle" ∧ yX8_begin.cls ≠ "java/lang/invoke/VarHandle" ∧ (parseMethodDescriptor yX8_begin.desc).map (fun d => d.parameters.length) = some 1 := by decide +kernel
def f_X8_begin (x1 : Int32) (σ : Mem) : Option (Mem) := bv (f_X8_loseAddress x1 σ) (fun s2 => gd (vin x1 12) (vl (up s2 812 0 (x1).toNatClampNeg (1 : Int32)) (fun s4 => gd (vin x1 12) (vl (up s4 820 0 (x1).toNatClampNeg (1 : Int32)) (fun s7 => bv (f_X8_sayDiscover x1 s7) (fun s10 => some s10))))))
set_option maxHeartbeats 4000000 in
set_option maxRecDepth 100000 in
theorem c_X8_begin {l : Launch} {D : va_G} {cA : Nat → ClassId} {ad : Nat → Nat → Nat} {A : Nat → Prop} {o : Nat → Int64} (hD0 : ∀ σ, va_D A (wW cA ad σ o)) (x1 : Int32) (σ : Mem) {r : Mem} (h : f_X8_begin x1 σ = some r) : Met l yX8_begin (wsG yX8_begin cX8_begin 2 none) rm_X8_begin (va_Pc [.ref (ad 899 0), .int x1] (IW D cA ad o σ)) (Qv D cA ad o A r) 0 0 A := by
  refine metG (by decide) (Nat.le_of_ble_eq_true rfl) hD0 ?_
  intro p e s m args below meth c C ls hh hl
  have C : Cx p s m args meth c cX8_begin 2 RX8 none D cA ad A o := C
  have hl : lv_has ls 2 [(0, .ref (ad 899 0)), (1, .int x1)] := hl
  obtain ⟨⟨hx, hb, hml, hown, hts⟩, hK, hN, hD, hr, hlocks⟩ := id C
  unfold f_X8_begin at h
  refine lv_aload_n hx hb dX8_begin_0 rfl (lv_at hl 0 rfl) ?_
  refine lv_iload_n hx hb dX8_begin_1 rfl (lv_at hl 1 rfl) ?_
  obtain ⟨s2, e1, h⟩ := bv_e h
  refine c_void hh (vrun (rest := []) C hh (c_X8_loseAddress C.2.2.2.1 x1 σ e1) LM_8_207 IM_X8_loseAddress SL_X8_loseAddress IN_8 CD_X8_loseAddress HD_X8_loseAddress ⟨rfl, rfl, Nat.le_of_ble_eq_true rfl, Nat.le_of_ble_eq_true rfl⟩ (rv_8 C hh) rfl hl.1 rfl (Nat.le_of_ble_eq_true rfl) dX8_begin_2 ⟨Nat.zero_le _, Nat.zero_le _⟩) (fun H locs hh => ?_)
  refine lv_aload_n hx hb dX8_begin_5 rfl (lv_at hl 0 rfl) ?_
  refine gf_8_38 C hh dX8_begin_6 ?_
  refine lv_iload_n hx hb dX8_begin_9 rfl (lv_at hl 1 rfl) ?_
  refine lv_iconst (v := (1 : Int32)) hx hb dX8_begin_10 (by decide) ?_
  obtain ⟨b3, h⟩ := gd_e h
  obtain ⟨s4, e5, h⟩ := vl_e h
  refine as_812 C hh b3 dX8_begin_11 (fun H locs hh => ?_)
  rw [← e5] at hh
  refine lv_aload_n hx hb dX8_begin_12 rfl (lv_at hl 0 rfl) ?_
  refine gf_8_62 C hh dX8_begin_13 ?_
  refine lv_iload_n hx hb dX8_begin_16 rfl (lv_at hl 1 rfl) ?_
  refine lv_iconst (v := (1 : Int32)) hx hb dX8_begin_17 (by decide) ?_
  obtain ⟨b6, h⟩ := gd_e h
  obtain ⟨s7, e8, h⟩ := vl_e h
  refine as_820 C hh b6 dX8_begin_18 (fun H locs hh => ?_)
  rw [← e8] at hh
  refine lv_aload_n hx hb dX8_begin_19 rfl (lv_at hl 0 rfl) ?_
  refine lv_iload_n hx hb dX8_begin_20 rfl (lv_at hl 1 rfl) ?_
  obtain ⟨s10, e9, h⟩ := bv_e h
  refine c_void hh (vrun (rest := []) C hh (c_X8_sayDiscover C.2.2.2.1 x1 s7 e9) LM_8_210 IM_X8_sayDiscover SL_X8_sayDiscover IN_8 CD_X8_sayDiscover HD_X8_sayDiscover ⟨rfl, rfl, Nat.le_of_ble_eq_true rfl, Nat.le_of_ble_eq_true rfl⟩ (rv_8 C hh) rfl hl.1 rfl (Nat.le_of_ble_eq_true rfl) dX8_begin_21 ⟨Nat.zero_le _, Nat.zero_le _⟩) (fun H locs hh => ?_)
  exact r_void C hh h dX8_begin_24
abbrev rm_X8_acknowledged : Room := { frames := 3, cells := 0, slots := 0, locals := 72 }
theorem HD_X8_acknowledged : yX8_acknowledged.cls = RX8 ∧ yX8_acknowledged.cls ≠ "java/lang/invoke/MethodHandle" ∧ yX8_acknowledged.cls ≠ "java/lang/invoke/VarHandle" ∧ (parseMethodDescriptor yX8_acknowledged.desc).map (fun d => d.parameters.length) = some 1 := by decide +kernel
def f_X8_acknowledged_136 (x1 : Int32) (x2 : Int32) (x3 : Int32) (σ : Mem) : Option (Mem) := gd (vin x1 12) (vl (up σ 812 0 (x1).toNatClampNeg (3 : Int32)) (fun s2 => gd (vin x1 12) (vl (up s2 814 0 (x1).toNatClampNeg x2) (fun s5 => gd (vin x1 12) (gd (vin x1 12) (vl (up s5 815 0 (x1).toNatClampNeg ((s5 819 0 (x1).toNatClampNeg) + x3)) (fun s9 => gd (vin x1 12) (gd (vin x1 12) (vl (up s9 816 0 (x1).toNatClampNeg ((s9 819 0 (x1).toNatClampNeg) + (x3 / (2 : Int32)))) (fun s13 => gd (vin x1 12) (gd (vin x1 12) (vl (up s13 817 0 (x1).toNatClampNeg (((s13 819 0 (x1).toNatClampNeg) + x3) - (x3 / (8 : Int32)))) (fun s17 => some s17)))))))))))))
set_option maxHeartbeats 4000000 in
set_option maxRecDepth 100000 in
theorem k_X8_acknowledged_136 {p : Program} {l : Launch} {e : Env} {s : State} {m : MethodId} {args : Array Value} {below : List Frame} {meth : Method} {c : Code} {D : va_G} {cA : Nat → ClassId} {ad : Nat → Nat → Nat} {A : Nat → Prop} {o : Nat → Int64} (C : Cx p s m args meth c cX8_acknowledged 5 RX8 none D cA ad A o) {r : Mem} (x1 : Int32) (x2 : Int32) (x3 : Int32) (σ : Mem) {H : Heap} {locs : List Loc} (h : f_X8_acknowledged_136 x1 x2 x3 σ = some r) (hh : HH D cA ad A o s σ H locs) {ls : Array Slot} (hl : lv_has ls 5 [(0, .ref (ad 899 0)), (1, .int x1), (2, .int x2), (3, .int x3)]) : W p l e rm_X8_acknowledged s m args below meth c H locs 0 0 (MQ below (Qv D cA ad o A r) args s 0 0 A) (F0 m 136 ls []) := by
  obtain ⟨⟨hx, hb, hml, hown, hts⟩, hK, hN, hD, hr, hlocks⟩ := id C
  unfold f_X8_acknowledged_136 at h
  refine lv_aload_n hx hb dX8_acknowledged_136 rfl (lv_at hl 0 rfl) ?_
  refine gf_8_38 C hh dX8_acknowledged_137 ?_
  refine lv_iload_n hx hb dX8_acknowledged_140 rfl (lv_at hl 1 rfl) ?_
  refine lv_iconst (v := (3 : Int32)) hx hb dX8_acknowledged_141 (by decide) ?_
  obtain ⟨b1, h⟩ := gd_e h
  obtain ⟨s2, e3, h⟩ := vl_e h
  refine as_812 C hh b1 dX8_acknowledged_142 (fun H locs hh => ?_)
  rw [← e3] at hh
  refine lv_aload_n hx hb dX8_acknowledged_143 rfl (lv_at hl 0 rfl) ?_
  refine gf_8_44 C hh dX8_acknowledged_144 ?_
  refine lv_iload_n hx hb dX8_acknowledged_147 rfl (lv_at hl 1 rfl) ?_
  refine lv_iload_n hx hb dX8_acknowledged_148 rfl (lv_at hl 2 rfl) ?_
  obtain ⟨b4, h⟩ := gd_e h
  obtain ⟨s5, e6, h⟩ := vl_e h
  refine as_814 C hh b4 dX8_acknowledged_149 (fun H locs hh => ?_)
  rw [← e6] at hh
  refine lv_aload_n hx hb dX8_acknowledged_150 rfl (lv_at hl 0 rfl) ?_
  refine gf_8_47 C hh dX8_acknowledged_151 ?_
  refine lv_iload_n hx hb dX8_acknowledged_154 rfl (lv_at hl 1 rfl) ?_
  refine lv_aload_n hx hb dX8_acknowledged_155 rfl (lv_at hl 0 rfl) ?_
  refine gf_8_59 C hh dX8_acknowledged_156 ?_
  refine lv_iload_n hx hb dX8_acknowledged_159 rfl (lv_at hl 1 rfl) ?_
  obtain ⟨b7, h⟩ := gd_e h
  refine al_819 C hh b7 dX8_acknowledged_160 ?_
  refine lv_iload_n hx hb dX8_acknowledged_161 rfl (lv_at hl 3 rfl) ?_
  refine lv_iadd hx hb dX8_acknowledged_162 ?_
  obtain ⟨b8, h⟩ := gd_e h
  obtain ⟨s9, e10, h⟩ := vl_e h
  refine as_815 C hh b8 dX8_acknowledged_163 (fun H locs hh => ?_)
  rw [← e10] at hh
  refine lv_aload_n hx hb dX8_acknowledged_164 rfl (lv_at hl 0 rfl) ?_
  refine gf_8_50 C hh dX8_acknowledged_165 ?_
  refine lv_iload_n hx hb dX8_acknowledged_168 rfl (lv_at hl 1 rfl) ?_
  refine lv_aload_n hx hb dX8_acknowledged_169 rfl (lv_at hl 0 rfl) ?_
  refine gf_8_59 C hh dX8_acknowledged_170 ?_
  refine lv_iload_n hx hb dX8_acknowledged_173 rfl (lv_at hl 1 rfl) ?_
  obtain ⟨b11, h⟩ := gd_e h
  refine al_819 C hh b11 dX8_acknowledged_174 ?_
  refine lv_iload_n hx hb dX8_acknowledged_175 rfl (lv_at hl 3 rfl) ?_
  refine lv_iconst (v := (2 : Int32)) hx hb dX8_acknowledged_176 (by decide) ?_
  refine lv_idiv hx hb dX8_acknowledged_177 (by decide) ?_
  refine lv_iadd hx hb dX8_acknowledged_178 ?_
  obtain ⟨b12, h⟩ := gd_e h
  obtain ⟨s13, e14, h⟩ := vl_e h
  refine as_816 C hh b12 dX8_acknowledged_179 (fun H locs hh => ?_)
  rw [← e14] at hh
  refine lv_aload_n hx hb dX8_acknowledged_180 rfl (lv_at hl 0 rfl) ?_
  refine gf_8_53 C hh dX8_acknowledged_181 ?_
  refine lv_iload_n hx hb dX8_acknowledged_184 rfl (lv_at hl 1 rfl) ?_
  refine lv_aload_n hx hb dX8_acknowledged_185 rfl (lv_at hl 0 rfl) ?_
  refine gf_8_59 C hh dX8_acknowledged_186 ?_
  refine lv_iload_n hx hb dX8_acknowledged_189 rfl (lv_at hl 1 rfl) ?_
  obtain ⟨b15, h⟩ := gd_e h
  refine al_819 C hh b15 dX8_acknowledged_190 ?_
  refine lv_iload_n hx hb dX8_acknowledged_191 rfl (lv_at hl 3 rfl) ?_
  refine lv_iadd hx hb dX8_acknowledged_192 ?_
  refine lv_iload_n hx hb dX8_acknowledged_193 rfl (lv_at hl 3 rfl) ?_
  refine lv_bipush (v := (8 : Int32)) hx hb dX8_acknowledged_194 (by decide) ?_
  refine lv_idiv hx hb dX8_acknowledged_196 (by decide) ?_
  refine lv_isub hx hb dX8_acknowledged_197 ?_
  obtain ⟨b16, h⟩ := gd_e h
  obtain ⟨s17, e18, h⟩ := vl_e h
  refine as_817 C hh b16 dX8_acknowledged_198 (fun H locs hh => ?_)
  rw [← e18] at hh
  exact r_void C hh h dX8_acknowledged_199
def f_X8_acknowledged_76 (x1 : Int32) (x2 : Int32) (x3 : Int32) (xs0 : Int32) (σ : Mem) : Option (Mem) := (if xs0 = (0 : Int32) then f_X8_acknowledged_136 x1 x2 x3 σ else bn (f_X8_isAddress x2 σ) (fun r4 s3 => (if r4 = (0 : Int32) then f_X8_acknowledged_136 x1 x2 x3 s3 else gd (vin x2 1024) ((if (s3 805 0 (x2).toNatClampNeg) = (0 : Int32) then f_X8_acknowledged_136 x1 x2 x3 s3 else bv (f_X8_say x1 (4 : Int32) (0 : Int32) s3) (fun s9 => bv (f_X8_option (50 : Int32) x2 s9) (fun s11 => bv (f_X8_finish s11) (fun s13 => bv (f_X8_broadcast x1 s13) (fun s15 => bv (f_X8_loseAddress x1 s15) (fun s17 => gd (vin x1 12) (vl (up s17 812 0 (x1).toNatClampNeg (7 : Int32)) (fun s19 => some s19))))))))))))
set_option maxHeartbeats 4000000 in
set_option maxRecDepth 100000 in
theorem k_X8_acknowledged_76 {p : Program} {l : Launch} {e : Env} {s : State} {m : MethodId} {args : Array Value} {below : List Frame} {meth : Method} {c : Code} {D : va_G} {cA : Nat → ClassId} {ad : Nat → Nat → Nat} {A : Nat → Prop} {o : Nat → Int64} (C : Cx p s m args meth c cX8_acknowledged 5 RX8 none D cA ad A o) {r : Mem} (x1 : Int32) (x2 : Int32) (x3 : Int32) (xs0 : Int32) (σ : Mem) {H : Heap} {locs : List Loc} (h : f_X8_acknowledged_76 x1 x2 x3 xs0 σ = some r) (hh : HH D cA ad A o s σ H locs) {ls : Array Slot} (hl : lv_has ls 5 [(0, .ref (ad 899 0)), (1, .int x1), (2, .int x2), (3, .int x3)]) : W p l e rm_X8_acknowledged s m args below meth c H locs 0 0 (MQ below (Qv D cA ad o A r) args s 0 0 A) (F0 m 76 ls [.int xs0]) := by
  obtain ⟨⟨hx, hb, hml, hown, hts⟩, hK, hN, hD, hr, hlocks⟩ := id C
  unfold f_X8_acknowledged_76 at h
  refine lv_istore (lv' := [(4, .int xs0), (0, .ref (ad 899 0)), (1, .int x1), (2, .int x2), (3, .int x3)]) hx hb dX8_acknowledged_76 hl (by decide) rfl (fun ls hl => ?_)
  refine lv_iload hx hb dX8_acknowledged_78 (lv_at hl 0 rfl) ?_
  refine lv_if_eq (tgt := 136) hx hb dX8_acknowledged_80 (by decide) (fun c1 => ?_) (fun c1 => ?_)
  · rw [if_pos c1] at h
    exact k_X8_acknowledged_136 C x1 x2 x3 σ h hh (lv_sub hl [1, 2, 3, 4] rfl)
  · rw [if_neg c1] at h
    refine lv_iload_n hx hb dX8_acknowledged_83 rfl (lv_at hl 3 rfl) ?_
    obtain ⟨r4, s3, e2, h⟩ := bn_e h
    refine c_int hh (srun (rest := []) C hh (c_X8_isAddress C.2.2.2.1 x2 σ e2) LM_8_198 ST_X8_isAddress IN_8 CD_X8_isAddress HD_X8_isAddress ⟨rfl, rfl, Nat.le_of_ble_eq_true rfl, Nat.le_of_ble_eq_true rfl⟩ rfl hl.1 rfl (Nat.le_of_ble_eq_true rfl) dX8_acknowledged_84 ⟨Nat.zero_le _, Nat.zero_le _⟩) (fun H locs hh => ?_)
    refine lv_if_eq (tgt := 136) hx hb dX8_acknowledged_87 (by decide) (fun c5 => ?_) (fun c5 => ?_)
    · rw [if_pos c5] at h
      exact k_X8_acknowledged_136 C x1 x2 x3 s3 h hh (lv_sub hl [1, 2, 3, 4] rfl)
    · rw [if_neg c5] at h
      refine lv_aload_n hx hb dX8_acknowledged_90 rfl (lv_at hl 1 rfl) ?_
      refine gf_8_19 C hh dX8_acknowledged_91 ?_
      refine lv_iload_n hx hb dX8_acknowledged_94 rfl (lv_at hl 3 rfl) ?_
      obtain ⟨b6, h⟩ := gd_e h
      refine al_805 C hh b6 dX8_acknowledged_95 ?_
      refine lv_if_eq (tgt := 136) hx hb dX8_acknowledged_96 (by decide) (fun c7 => ?_) (fun c7 => ?_)
      · rw [if_pos c7] at h
        exact k_X8_acknowledged_136 C x1 x2 x3 s3 h hh (lv_sub hl [1, 2, 3, 4] rfl)
      · rw [if_neg c7] at h
        refine lv_aload_n hx hb dX8_acknowledged_99 rfl (lv_at hl 1 rfl) ?_
        refine lv_iload_n hx hb dX8_acknowledged_100 rfl (lv_at hl 2 rfl) ?_
        refine lv_iconst (v := (4 : Int32)) hx hb dX8_acknowledged_101 (by decide) ?_
        refine lv_iconst (v := (0 : Int32)) hx hb dX8_acknowledged_102 (by decide) ?_
        obtain ⟨s9, e8, h⟩ := bv_e h
        refine c_void hh (vrun (rest := []) C hh (c_X8_say C.2.2.2.1 x1 (4 : Int32) (0 : Int32) s3 e8) LM_8_201 IM_X8_say SL_X8_say IN_8 CD_X8_say HD_X8_say ⟨rfl, rfl, Nat.le_of_ble_eq_true rfl, Nat.le_of_ble_eq_true rfl⟩ (rv_8 C hh) rfl hl.1 rfl (Nat.le_of_ble_eq_true rfl) dX8_acknowledged_103 ⟨Nat.zero_le _, Nat.zero_le _⟩) (fun H locs hh => ?_)
        refine lv_aload_n hx hb dX8_acknowledged_106 rfl (lv_at hl 1 rfl) ?_
        refine lv_bipush (v := (50 : Int32)) hx hb dX8_acknowledged_107 (by decide) ?_
        refine lv_iload_n hx hb dX8_acknowledged_109 rfl (lv_at hl 3 rfl) ?_
        obtain ⟨s11, e10, h⟩ := bv_e h
        refine c_void hh (vrun (rest := []) C hh (c_X8_option C.2.2.2.1 (50 : Int32) x2 s9 e10) LM_8_155 IM_X8_option SL_X8_option IN_8 CD_X8_option HD_X8_option ⟨rfl, rfl, Nat.le_of_ble_eq_true rfl, Nat.le_of_ble_eq_true rfl⟩ (rv_8 C hh) rfl hl.1 rfl (Nat.le_of_ble_eq_true rfl) dX8_acknowledged_110 ⟨Nat.zero_le _, Nat.zero_le _⟩) (fun H locs hh => ?_)
        refine lv_aload_n hx hb dX8_acknowledged_113 rfl (lv_at hl 1 rfl) ?_
        obtain ⟨s13, e12, h⟩ := bv_e h
        refine c_void hh (vrun (rest := []) C hh (c_X8_finish C.2.2.2.1 s11 e12) LM_8_158 IM_X8_finish SL_X8_finish IN_8 CD_X8_finish HD_X8_finish ⟨rfl, rfl, Nat.le_of_ble_eq_true rfl, Nat.le_of_ble_eq_true rfl⟩ (rv_8 C hh) rfl hl.1 rfl (Nat.le_of_ble_eq_true rfl) dX8_acknowledged_114 ⟨Nat.zero_le _, Nat.zero_le _⟩) (fun H locs hh => ?_)
        refine lv_aload_n hx hb dX8_acknowledged_117 rfl (lv_at hl 1 rfl) ?_
        refine lv_iload_n hx hb dX8_acknowledged_118 rfl (lv_at hl 2 rfl) ?_
        obtain ⟨s15, e14, h⟩ := bv_e h
        refine c_void hh (vrun (rest := []) C hh (c_X8_broadcast C.2.2.2.1 x1 s13 e14) LM_8_204 IM_X8_broadcast SL_X8_broadcast IN_8 CD_X8_broadcast HD_X8_broadcast ⟨rfl, rfl, Nat.le_of_ble_eq_true rfl, Nat.le_of_ble_eq_true rfl⟩ (rv_8 C hh) rfl hl.1 rfl (Nat.le_of_ble_eq_true rfl) dX8_acknowledged_119 ⟨Nat.zero_le _, Nat.zero_le _⟩) (fun H locs hh => ?_)
        refine lv_aload_n hx hb dX8_acknowledged_122 rfl (lv_at hl 1 rfl) ?_
        refine lv_iload_n hx hb dX8_acknowledged_123 rfl (lv_at hl 2 rfl) ?_
        obtain ⟨s17, e16, h⟩ := bv_e h
        refine c_void hh (vrun (rest := []) C hh (c_X8_loseAddress C.2.2.2.1 x1 s15 e16) LM_8_207 IM_X8_loseAddress SL_X8_loseAddress IN_8 CD_X8_loseAddress HD_X8_loseAddress ⟨rfl, rfl, Nat.le_of_ble_eq_true rfl, Nat.le_of_ble_eq_true rfl⟩ (rv_8 C hh) rfl hl.1 rfl (Nat.le_of_ble_eq_true rfl) dX8_acknowledged_124 ⟨Nat.zero_le _, Nat.zero_le _⟩) (fun H locs hh => ?_)
        refine lv_aload_n hx hb dX8_acknowledged_127 rfl (lv_at hl 1 rfl) ?_
        refine gf_8_38 C hh dX8_acknowledged_128 ?_
        refine lv_iload_n hx hb dX8_acknowledged_131 rfl (lv_at hl 2 rfl) ?_
        refine lv_bipush (v := (7 : Int32)) hx hb dX8_acknowledged_132 (by decide) ?_
        obtain ⟨b18, h⟩ := gd_e h
        obtain ⟨s19, e20, h⟩ := vl_e h
        refine as_812 C hh b18 dX8_acknowledged_134 (fun H locs hh => ?_)
        rw [← e20] at hh
        exact r_void C hh h dX8_acknowledged_135
def f_X8_acknowledged_71 (x1 : Int32) (x2 : Int32) (x3 : Int32) (σ : Mem) : Option (Mem) := f_X8_acknowledged_76 x1 x2 x3 (1 : Int32) σ
set_option maxHeartbeats 4000000 in
set_option maxRecDepth 100000 in
theorem k_X8_acknowledged_71 {p : Program} {l : Launch} {e : Env} {s : State} {m : MethodId} {args : Array Value} {below : List Frame} {meth : Method} {c : Code} {D : va_G} {cA : Nat → ClassId} {ad : Nat → Nat → Nat} {A : Nat → Prop} {o : Nat → Int64} (C : Cx p s m args meth c cX8_acknowledged 5 RX8 none D cA ad A o) {r : Mem} (x1 : Int32) (x2 : Int32) (x3 : Int32) (σ : Mem) {H : Heap} {locs : List Loc} (h : f_X8_acknowledged_71 x1 x2 x3 σ = some r) (hh : HH D cA ad A o s σ H locs) {ls : Array Slot} (hl : lv_has ls 5 [(0, .ref (ad 899 0)), (1, .int x1), (2, .int x2), (3, .int x3)]) : W p l e rm_X8_acknowledged s m args below meth c H locs 0 0 (MQ below (Qv D cA ad o A r) args s 0 0 A) (F0 m 71 ls []) := by
  obtain ⟨⟨hx, hb, hml, hown, hts⟩, hK, hN, hD, hr, hlocks⟩ := id C
  unfold f_X8_acknowledged_71 at h
  refine lv_iconst (v := (1 : Int32)) hx hb dX8_acknowledged_71 (by decide) ?_
  refine lv_goto (tgt := 76) hx hb dX8_acknowledged_72 (by decide) ?_
  exact k_X8_acknowledged_76 C x1 x2 x3 (1 : Int32) σ h hh (lv_sub hl [0, 1, 2, 3] rfl)
def f_X8_acknowledged_25 (x1 : Int32) (x2 : Int32) (xs0 : Int32) (σ : Mem) : Option (Mem) := (if x2 = (0 : Int32) then some σ else (if xs0 ≤ (0 : Int32) then some σ else gd (vin x1 12) ((if (σ 801 0 0) < ((σ 819 0 (x1).toNatClampNeg) + xs0) then gd (vin x1 12) ((if (σ 812 0 (x1).toNatClampNeg) = (2 : Int32) then f_X8_acknowledged_71 x1 x2 xs0 σ else gd (vin x1 12) ((if (σ 812 0 (x1).toNatClampNeg) = (6 : Int32) then f_X8_acknowledged_71 x1 x2 xs0 σ else f_X8_acknowledged_76 x1 x2 xs0 (0 : Int32) σ)))) else some σ))))
set_option maxHeartbeats 4000000 in
set_option maxRecDepth 100000 in
theorem k_X8_acknowledged_25 {p : Program} {l : Launch} {e : Env} {s : State} {m : MethodId} {args : Array Value} {below : List Frame} {meth : Method} {c : Code} {D : va_G} {cA : Nat → ClassId} {ad : Nat → Nat → Nat} {A : Nat → Prop} {o : Nat → Int64} (C : Cx p s m args meth c cX8_acknowledged 5 RX8 none D cA ad A o) {r : Mem} (x1 : Int32) (x2 : Int32) (xs0 : Int32) (σ : Mem) {H : Heap} {locs : List Loc} (h : f_X8_acknowledged_25 x1 x2 xs0 σ = some r) (hh : HH D cA ad A o s σ H locs) {ls : Array Slot} (hl : lv_has ls 5 [(0, .ref (ad 899 0)), (1, .int x1), (2, .int x2)]) : W p l e rm_X8_acknowledged s m args below meth c H locs 0 0 (MQ below (Qv D cA ad o A r) args s 0 0 A) (F0 m 25 ls [.int xs0]) := by
  obtain ⟨⟨hx, hb, hml, hown, hts⟩, hK, hN, hD, hr, hlocks⟩ := id C
  unfold f_X8_acknowledged_25 at h
  refine lv_istore_n (lv' := [(3, .int xs0), (0, .ref (ad 899 0)), (1, .int x1), (2, .int x2)]) hx hb dX8_acknowledged_25 rfl hl (by decide) rfl (fun ls hl => ?_)
  refine lv_iload_n hx hb dX8_acknowledged_26 rfl (lv_at hl 3 rfl) ?_
  refine lv_if_eq (tgt := 49) hx hb dX8_acknowledged_27 (by decide) (fun c1 => ?_) (fun c1 => ?_)
  · rw [if_pos c1] at h
    exact r_void C hh h dX8_acknowledged_49
  · rw [if_neg c1] at h
    refine lv_iload_n hx hb dX8_acknowledged_30 rfl (lv_at hl 0 rfl) ?_
    refine lv_if_le (tgt := 49) hx hb dX8_acknowledged_31 (by decide) (fun c2 => ?_) (fun c2 => ?_)
    · rw [if_pos c2] at h
      exact r_void C hh h dX8_acknowledged_49
    · rw [if_neg c2] at h
      refine lv_aload_n hx hb dX8_acknowledged_34 rfl (lv_at hl 1 rfl) ?_
      refine gf_8_59 C hh dX8_acknowledged_35 ?_
      refine lv_iload_n hx hb dX8_acknowledged_38 rfl (lv_at hl 2 rfl) ?_
      obtain ⟨b3, h⟩ := gd_e h
      refine al_819 C hh b3 dX8_acknowledged_39 ?_
      refine lv_iload_n hx hb dX8_acknowledged_40 rfl (lv_at hl 0 rfl) ?_
      refine lv_iadd hx hb dX8_acknowledged_41 ?_
      refine lv_aload_n hx hb dX8_acknowledged_42 rfl (lv_at hl 1 rfl) ?_
      refine gf_8_130 C hh dX8_acknowledged_43 ?_
      refine lv_icmp_gt (tgt := 50) hx hb dX8_acknowledged_46 (by decide) (fun c4 => ?_) (fun c4 => ?_)
      · rw [if_pos c4] at h
        refine lv_aload_n hx hb dX8_acknowledged_50 rfl (lv_at hl 1 rfl) ?_
        refine gf_8_38 C hh dX8_acknowledged_51 ?_
        refine lv_iload_n hx hb dX8_acknowledged_54 rfl (lv_at hl 2 rfl) ?_
        obtain ⟨b5, h⟩ := gd_e h
        refine al_812 C hh b5 dX8_acknowledged_55 ?_
        refine lv_iconst (v := (2 : Int32)) hx hb dX8_acknowledged_56 (by decide) ?_
        refine lv_icmp_eq (tgt := 71) hx hb dX8_acknowledged_57 (by decide) (fun c6 => ?_) (fun c6 => ?_)
        · rw [if_pos c6] at h
          exact k_X8_acknowledged_71 C x1 x2 xs0 σ h hh (lv_sub hl [1, 2, 3, 0] rfl)
        · rw [if_neg c6] at h
          refine lv_aload_n hx hb dX8_acknowledged_60 rfl (lv_at hl 1 rfl) ?_
          refine gf_8_38 C hh dX8_acknowledged_61 ?_
          refine lv_iload_n hx hb dX8_acknowledged_64 rfl (lv_at hl 2 rfl) ?_
          obtain ⟨b7, h⟩ := gd_e h
          refine al_812 C hh b7 dX8_acknowledged_65 ?_
          refine lv_bipush (v := (6 : Int32)) hx hb dX8_acknowledged_66 (by decide) ?_
          refine lv_icmp_ne (tgt := 75) hx hb dX8_acknowledged_68 (by decide) (fun c8 => ?_) (fun c8 => ?_)
          · rw [if_neg c8] at h
            refine lv_iconst (v := (0 : Int32)) hx hb dX8_acknowledged_75 (by decide) ?_
            exact k_X8_acknowledged_76 C x1 x2 xs0 (0 : Int32) σ h hh (lv_sub hl [1, 2, 3, 0] rfl)
          · rw [if_pos c8] at h
            exact k_X8_acknowledged_71 C x1 x2 xs0 σ h hh (lv_sub hl [1, 2, 3, 0] rfl)
      · rw [if_neg c4] at h
        exact r_void C hh h dX8_acknowledged_49
def f_X8_acknowledged (x1 : Int32) (σ : Mem) : Option (Mem) := bn (f_X8_yiaddr σ) (fun r3 s2 => (if (s2 835 0 0) ≤ (10000 : Int32) then f_X8_acknowledged_25 x1 r3 (s2 835 0 0) s2 else f_X8_acknowledged_25 x1 r3 (10000 : Int32) s2))
set_option maxHeartbeats 4000000 in
set_option maxRecDepth 100000 in
theorem c_X8_acknowledged {l : Launch} {D : va_G} {cA : Nat → ClassId} {ad : Nat → Nat → Nat} {A : Nat → Prop} {o : Nat → Int64} (hD0 : ∀ σ, va_D A (wW cA ad σ o)) (x1 : Int32) (σ : Mem) {r : Mem} (h : f_X8_acknowledged x1 σ = some r) : Met l yX8_acknowledged (wsG yX8_acknowledged cX8_acknowledged 5 none) rm_X8_acknowledged (va_Pc [.ref (ad 899 0), .int x1] (IW D cA ad o σ)) (Qv D cA ad o A r) 0 0 A := by
  refine metG (by decide) (Nat.le_of_ble_eq_true rfl) hD0 ?_
  intro p e s m args below meth c C ls hh hl
  have C : Cx p s m args meth c cX8_acknowledged 5 RX8 none D cA ad A o := C
  have hl : lv_has ls 5 [(0, .ref (ad 899 0)), (1, .int x1)] := hl
  obtain ⟨⟨hx, hb, hml, hown, hts⟩, hK, hN, hD, hr, hlocks⟩ := id C
  unfold f_X8_acknowledged at h
  refine lv_aload_n hx hb dX8_acknowledged_0 rfl (lv_at hl 0 rfl) ?_
  obtain ⟨r3, s2, e1, h⟩ := bn_e h
  refine c_int hh (vrun (rest := []) C hh (c_X8_yiaddr C.2.2.2.1 σ e1) LM_8_213 IM_X8_yiaddr SL_X8_yiaddr IN_8 CD_X8_yiaddr HD_X8_yiaddr ⟨rfl, rfl, Nat.le_of_ble_eq_true rfl, Nat.le_of_ble_eq_true rfl⟩ (rv_8 C hh) rfl hl.1 rfl (Nat.le_of_ble_eq_true rfl) dX8_acknowledged_1 ⟨Nat.zero_le _, Nat.zero_le _⟩) (fun H locs hh => ?_)
  refine lv_istore_n (lv' := [(2, .int r3), (0, .ref (ad 899 0)), (1, .int x1)]) hx hb dX8_acknowledged_4 rfl hl (by decide) rfl (fun ls hl => ?_)
  refine lv_aload_n hx hb dX8_acknowledged_5 rfl (lv_at hl 1 rfl) ?_
  refine gf_8_104 C hh dX8_acknowledged_6 ?_
  refine lv_sipush (v := (10000 : Int32)) hx hb dX8_acknowledged_9 (by decide) ?_
  refine lv_icmp_le (tgt := 21) hx hb dX8_acknowledged_12 (by decide) (fun c4 => ?_) (fun c4 => ?_)
  · rw [if_pos c4] at h
    refine lv_aload_n hx hb dX8_acknowledged_21 rfl (lv_at hl 1 rfl) ?_
    refine gf_8_104 C hh dX8_acknowledged_22 ?_
    exact k_X8_acknowledged_25 C x1 r3 (s2 835 0 0) s2 h hh (lv_sub hl [1, 2, 0] rfl)
  · rw [if_neg c4] at h
    refine lv_sipush (v := (10000 : Int32)) hx hb dX8_acknowledged_15 (by decide) ?_
    refine lv_goto (tgt := 25) hx hb dX8_acknowledged_18 (by decide) ?_
    exact k_X8_acknowledged_25 C x1 r3 (10000 : Int32) s2 h hh (lv_sub hl [1, 2, 0] rfl)
