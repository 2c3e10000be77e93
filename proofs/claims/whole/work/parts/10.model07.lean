abbrev rm_X8_inject : Room := { frames := 2, cells := 0, slots := 0, locals := 40 }
theorem HD_X8_inject : yX8_inject.cls = RX8 ∧ yX8_inject.cls ≠ "java/lang/invoke/MethodHandle" ∧ yX8_inject.cls ≠ "java/lang/invoke/VarHandle" ∧ (parseMethodDescriptor yX8_inject.desc).map (fun d => d.parameters.length) = some 1 := by decide +kernel
def f_X8_inject_20 (x1 : Int32) (xs0 : Int32) (σ : Mem) : Option (Mem) := vl (up σ 800 0 0 xs0) (fun s1 => (if (s1 800 0 0) = (0 : Int32) then bv (f_X8_takeTape s1) (fun s5 => vl (up s5 830 0 0 (0 : Int32)) (fun s6 => bv (f_X8_send x1 s6) (fun s9 => some s9))) else some s1))
set_option maxHeartbeats 4000000 in
set_option maxRecDepth 100000 in
theorem k_X8_inject_20 {p : Program} {l : Launch} {e : Env} {s : State} {m : MethodId} {args : Array Value} {below : List Frame} {meth : Method} {c : Code} {D : va_G} {cA : Nat → ClassId} {ad : Nat → Nat → Nat} {A : Nat → Prop} {o : Nat → Int64} (C : Cx p s m args meth c cX8_inject 2 RX8 none D cA ad A o) {r : Mem} (x1 : Int32) (xs0 : Int32) (σ : Mem) {H : Heap} {locs : List Loc} (h : f_X8_inject_20 x1 xs0 σ = some r) (hh : HH D cA ad A o s σ H locs) {ls : Array Slot} (hl : lv_has ls 2 [(0, .ref (ad 899 0)), (1, .int x1)]) : W p l e rm_X8_inject s m args below meth c H locs 0 0 (MQ below (Qv D cA ad o A r) args s 0 0 A) (F0 m 20 ls [.int xs0, .ref (ad 899 0)]) := by
  obtain ⟨⟨hx, hb, hml, hown, hts⟩, hK, hN, hD, hr, hlocks⟩ := id C
  unfold f_X8_inject_20 at h
  obtain ⟨s1, e2, h⟩ := vl_e h
  refine pf_8_86 C hh dX8_inject_20 (fun H locs hh => ?_)
  rw [← e2] at hh
  refine lv_aload_n hx hb dX8_inject_23 rfl (lv_at hl 0 rfl) ?_
  refine gf_8_86 C hh dX8_inject_24 ?_
  refine lv_if_ne (tgt := 44) hx hb dX8_inject_27 (by decide) (fun c3 => ?_) (fun c3 => ?_)
  · rw [if_neg c3] at h
    exact r_void C hh h dX8_inject_44
  · rw [if_pos c3] at h
    refine lv_aload_n hx hb dX8_inject_30 rfl (lv_at hl 0 rfl) ?_
    obtain ⟨s5, e4, h⟩ := bv_e h
    refine c_void hh (vrun (rest := []) C hh (c_X8_takeTape C.2.2.2.1 s1 e4) LM_8_275 IM_X8_takeTape SL_X8_takeTape IN_8 CD_X8_takeTape HD_X8_takeTape ⟨rfl, rfl, Nat.le_of_ble_eq_true rfl, Nat.le_of_ble_eq_true rfl⟩ (rv_8 C hh) rfl hl.1 rfl (Nat.le_of_ble_eq_true rfl) dX8_inject_31 ⟨Nat.zero_le _, Nat.zero_le _⟩) (fun H locs hh => ?_)
    refine lv_aload_n hx hb dX8_inject_34 rfl (lv_at hl 0 rfl) ?_
    refine lv_iconst (v := (0 : Int32)) hx hb dX8_inject_35 (by decide) ?_
    obtain ⟨s6, e7, h⟩ := vl_e h
    refine pf_8_270 C hh dX8_inject_36 (fun H locs hh => ?_)
    rw [← e7] at hh
    refine lv_aload_n hx hb dX8_inject_39 rfl (lv_at hl 0 rfl) ?_
    refine lv_iload_n hx hb dX8_inject_40 rfl (lv_at hl 1 rfl) ?_
    obtain ⟨s9, e8, h⟩ := bv_e h
    refine c_void hh (vrun (rest := []) C hh (c_X8_send C.2.2.2.1 x1 s6 e8) LM_8_161 IM_X8_send SL_X8_send IN_8 CD_X8_send HD_X8_send ⟨rfl, rfl, Nat.le_of_ble_eq_true rfl, Nat.le_of_ble_eq_true rfl⟩ (rv_8 C hh) rfl hl.1 rfl (Nat.le_of_ble_eq_true rfl) dX8_inject_41 ⟨Nat.zero_le _, Nat.zero_le _⟩) (fun H locs hh => ?_)
    exact r_void C hh h dX8_inject_44
def f_X8_inject_15 (x1 : Int32) (σ : Mem) : Option (Mem) := f_X8_inject_20 x1 (1 : Int32) σ
set_option maxHeartbeats 4000000 in
set_option maxRecDepth 100000 in
theorem k_X8_inject_15 {p : Program} {l : Launch} {e : Env} {s : State} {m : MethodId} {args : Array Value} {below : List Frame} {meth : Method} {c : Code} {D : va_G} {cA : Nat → ClassId} {ad : Nat → Nat → Nat} {A : Nat → Prop} {o : Nat → Int64} (C : Cx p s m args meth c cX8_inject 2 RX8 none D cA ad A o) {r : Mem} (x1 : Int32) (σ : Mem) {H : Heap} {locs : List Loc} (h : f_X8_inject_15 x1 σ = some r) (hh : HH D cA ad A o s σ H locs) {ls : Array Slot} (hl : lv_has ls 2 [(0, .ref (ad 899 0)), (1, .int x1)]) : W p l e rm_X8_inject s m args below meth c H locs 0 0 (MQ below (Qv D cA ad o A r) args s 0 0 A) (F0 m 15 ls [.ref (ad 899 0)]) := by
  obtain ⟨⟨hx, hb, hml, hown, hts⟩, hK, hN, hD, hr, hlocks⟩ := id C
  unfold f_X8_inject_15 at h
  refine lv_iconst (v := (1 : Int32)) hx hb dX8_inject_15 (by decide) ?_
  refine lv_goto (tgt := 20) hx hb dX8_inject_16 (by decide) ?_
  exact k_X8_inject_20 C x1 (1 : Int32) σ h hh (lv_sub hl [0, 1] rfl)
def f_X8_inject (x1 : Int32) (σ : Mem) : Option (Mem) := bn (f_X8_isPlace x1 σ) (fun r3 s2 => (if r3 = (0 : Int32) then f_X8_inject_15 x1 s2 else (if (s2 830 0 0) = (0 : Int32) then f_X8_inject_15 x1 s2 else f_X8_inject_20 x1 (0 : Int32) s2)))
set_option maxHeartbeats 4000000 in
set_option maxRecDepth 100000 in
theorem c_X8_inject {l : Launch} {D : va_G} {cA : Nat → ClassId} {ad : Nat → Nat → Nat} {A : Nat → Prop} {o : Nat → Int64} (hD0 : ∀ σ, va_D A (wW cA ad σ o)) (x1 : Int32) (σ : Mem) {r : Mem} (h : f_X8_inject x1 σ = some r) : Met l yX8_inject (wsG yX8_inject cX8_inject 2 none) rm_X8_inject (va_Pc [.ref (ad 899 0), .int x1] (IW D cA ad o σ)) (Qv D cA ad o A r) 0 0 A := by
  refine metG (by decide) (Nat.le_of_ble_eq_true rfl) hD0 ?_
  intro p e s m args below meth c C ls hh hl
  have C : Cx p s m args meth c cX8_inject 2 RX8 none D cA ad A o := C
  have hl : lv_has ls 2 [(0, .ref (ad 899 0)), (1, .int x1)] := hl
  obtain ⟨⟨hx, hb, hml, hown, hts⟩, hK, hN, hD, hr, hlocks⟩ := id C
  unfold f_X8_inject at h
  refine lv_aload_n hx hb dX8_inject_0 rfl (lv_at hl 0 rfl) ?_
  refine lv_iload_n hx hb dX8_inject_1 rfl (lv_at hl 1 rfl) ?_
  obtain ⟨r3, s2, e1, h⟩ := bn_e h
  refine c_int hh (srun (rest := [.ref (ad 899 0)]) C hh (c_X8_isPlace C.2.2.2.1 x1 σ e1) LM_8_278 ST_X8_isPlace IN_8 CD_X8_isPlace HD_X8_isPlace ⟨rfl, rfl, Nat.le_of_ble_eq_true rfl, Nat.le_of_ble_eq_true rfl⟩ rfl hl.1 rfl (Nat.le_of_ble_eq_true rfl) dX8_inject_2 ⟨Nat.zero_le _, Nat.zero_le _⟩) (fun H locs hh => ?_)
  refine lv_if_eq (tgt := 15) hx hb dX8_inject_5 (by decide) (fun c4 => ?_) (fun c4 => ?_)
  · rw [if_pos c4] at h
    exact k_X8_inject_15 C x1 s2 h hh (lv_sub hl [0, 1] rfl)
  · rw [if_neg c4] at h
    refine lv_aload_n hx hb dX8_inject_8 rfl (lv_at hl 0 rfl) ?_
    refine gf_8_270 C hh dX8_inject_9 ?_
    refine lv_if_ne (tgt := 19) hx hb dX8_inject_12 (by decide) (fun c5 => ?_) (fun c5 => ?_)
    · rw [if_neg c5] at h
      refine lv_iconst (v := (0 : Int32)) hx hb dX8_inject_19 (by decide) ?_
      exact k_X8_inject_20 C x1 (0 : Int32) s2 h hh (lv_sub hl [0, 1] rfl)
    · rw [if_pos c5] at h
      exact k_X8_inject_15 C x1 s2 h hh (lv_sub hl [0, 1] rfl)
abbrev rm_X8_client : Room := { frames := 1, cells := 0, slots := 0, locals := 21 }
theorem HD_X8_client : yX8_client.cls = RX8 ∧ yX8_client.cls ≠ "java/lang/invoke/MethodHandle" ∧ yX8_client.cls ≠ "java/lang/invoke/VarHandle" ∧ (parseMethodDescriptor yX8_client.desc).map (fun d => d.parameters.length) = some 2 := by decide +kernel
def f_X8_client_27 (x1 : Int32) (x2 : Int32) (xs0 : Int32) (σ : Mem) : Option (Int32 × Mem) := vl (up σ 800 0 0 xs0) (fun s1 => (if (s1 800 0 0) ≤ (0 : Int32) then (if (4 : Int32) ≤ x2 then (if x2 = (4 : Int32) then gd (vin x1 12) (some ((s1 818 0 (x1).toNatClampNeg), s1)) else (if x2 = (5 : Int32) then gd (vin x1 12) (some ((s1 820 0 (x1).toNatClampNeg), s1)) else gd (vin x1 12) (some ((s1 813 0 (x1).toNatClampNeg), s1)))) else (if x2 = (0 : Int32) then gd (vin x1 12) (some ((s1 812 0 (x1).toNatClampNeg), s1)) else (if x2 = (1 : Int32) then gd (vin x1 12) (some ((s1 814 0 (x1).toNatClampNeg), s1)) else (if x2 = (2 : Int32) then gd (vin x1 12) (some ((s1 815 0 (x1).toNatClampNeg), s1)) else bn (f_X8_usesAddress x1 s1) (fun r15 s14 => (if r15 = (0 : Int32) then some ((0 : Int32), s14) else gd (vin x1 12) (some ((s14 814 0 (x1).toNatClampNeg), s14)))))))) else some ((0 : Int32), s1)))
set_option maxHeartbeats 4000000 in
set_option maxRecDepth 100000 in
theorem k_X8_client_27 {p : Program} {l : Launch} {e : Env} {s : State} {m : MethodId} {args : Array Value} {below : List Frame} {meth : Method} {c : Code} {D : va_G} {cA : Nat → ClassId} {ad : Nat → Nat → Nat} {A : Nat → Prop} {o : Nat → Int64} (C : Cx p s m args meth c cX8_client 3 RX8 (some .int) D cA ad A o) {r : Int32 × Mem} (x1 : Int32) (x2 : Int32) (xs0 : Int32) (σ : Mem) {H : Heap} {locs : List Loc} (h : f_X8_client_27 x1 x2 xs0 σ = some r) (hh : HH D cA ad A o s σ H locs) {ls : Array Slot} (hl : lv_has ls 3 [(0, .ref (ad 899 0)), (1, .int x1), (2, .int x2)]) : W p l e rm_X8_client s m args below meth c H locs 0 0 (MQ below (Qi D cA ad o A r) args s 0 0 A) (F0 m 27 ls [.int xs0, .ref (ad 899 0)]) := by
  obtain ⟨⟨hx, hb, hml, hown, hts⟩, hK, hN, hD, hr, hlocks⟩ := id C
  unfold f_X8_client_27 at h
  obtain ⟨s1, e2, h⟩ := vl_e h
  refine pf_8_86 C hh dX8_client_27 (fun H locs hh => ?_)
  rw [← e2] at hh
  refine lv_aload_n hx hb dX8_client_30 rfl (lv_at hl 0 rfl) ?_
  refine gf_8_86 C hh dX8_client_31 ?_
  refine lv_if_le (tgt := 39) hx hb dX8_client_34 (by decide) (fun c3 => ?_) (fun c3 => ?_)
  · rw [if_pos c3] at h
    refine lv_iload_n hx hb dX8_client_39 rfl (lv_at hl 2 rfl) ?_
    refine lv_iconst (v := (4 : Int32)) hx hb dX8_client_40 (by decide) ?_
    refine lv_icmp_ge (tgt := 104) hx hb dX8_client_41 (by decide) (fun c4 => ?_) (fun c4 => ?_)
    · rw [if_pos c4] at h
      refine lv_iload_n hx hb dX8_client_104 rfl (lv_at hl 2 rfl) ?_
      refine lv_iconst (v := (4 : Int32)) hx hb dX8_client_105 (by decide) ?_
      refine lv_icmp_ne (tgt := 118) hx hb dX8_client_106 (by decide) (fun c5 => ?_) (fun c5 => ?_)
      · rw [if_neg c5] at h
        refine lv_iload_n hx hb dX8_client_118 rfl (lv_at hl 2 rfl) ?_
        refine lv_iconst (v := (5 : Int32)) hx hb dX8_client_119 (by decide) ?_
        refine lv_icmp_ne (tgt := 132) hx hb dX8_client_120 (by decide) (fun c6 => ?_) (fun c6 => ?_)
        · rw [if_neg c6] at h
          refine lv_aload_n hx hb dX8_client_132 rfl (lv_at hl 0 rfl) ?_
          refine gf_8_41 C hh dX8_client_133 ?_
          refine lv_iload_n hx hb dX8_client_136 rfl (lv_at hl 1 rfl) ?_
          obtain ⟨b7, h⟩ := gd_e h
          refine al_813 C hh b7 dX8_client_137 ?_
          exact r_int C hh h dX8_client_138
        · rw [if_pos c6] at h
          refine lv_aload_n hx hb dX8_client_123 rfl (lv_at hl 0 rfl) ?_
          refine gf_8_62 C hh dX8_client_124 ?_
          refine lv_iload_n hx hb dX8_client_127 rfl (lv_at hl 1 rfl) ?_
          obtain ⟨b8, h⟩ := gd_e h
          refine al_820 C hh b8 dX8_client_128 ?_
          refine lv_goto (tgt := 138) hx hb dX8_client_129 (by decide) ?_
          exact r_int C hh h dX8_client_138
      · rw [if_pos c5] at h
        refine lv_aload_n hx hb dX8_client_109 rfl (lv_at hl 0 rfl) ?_
        refine gf_8_56 C hh dX8_client_110 ?_
        refine lv_iload_n hx hb dX8_client_113 rfl (lv_at hl 1 rfl) ?_
        obtain ⟨b9, h⟩ := gd_e h
        refine al_818 C hh b9 dX8_client_114 ?_
        refine lv_goto (tgt := 138) hx hb dX8_client_115 (by decide) ?_
        exact r_int C hh h dX8_client_138
    · rw [if_neg c4] at h
      refine lv_iload_n hx hb dX8_client_44 rfl (lv_at hl 2 rfl) ?_
      refine lv_if_ne (tgt := 57) hx hb dX8_client_45 (by decide) (fun c10 => ?_) (fun c10 => ?_)
      · rw [if_neg c10] at h
        refine lv_iload_n hx hb dX8_client_57 rfl (lv_at hl 2 rfl) ?_
        refine lv_iconst (v := (1 : Int32)) hx hb dX8_client_58 (by decide) ?_
        refine lv_icmp_ne (tgt := 71) hx hb dX8_client_59 (by decide) (fun c11 => ?_) (fun c11 => ?_)
        · rw [if_neg c11] at h
          refine lv_iload_n hx hb dX8_client_71 rfl (lv_at hl 2 rfl) ?_
          refine lv_iconst (v := (2 : Int32)) hx hb dX8_client_72 (by decide) ?_
          refine lv_icmp_ne (tgt := 85) hx hb dX8_client_73 (by decide) (fun c12 => ?_) (fun c12 => ?_)
          · rw [if_neg c12] at h
            refine lv_aload_n hx hb dX8_client_85 rfl (lv_at hl 0 rfl) ?_
            refine lv_iload_n hx hb dX8_client_86 rfl (lv_at hl 1 rfl) ?_
            obtain ⟨r15, s14, e13, h⟩ := bn_e h
            refine c_int hh (vrun (rest := []) C hh (c_X8_usesAddress C.2.2.2.1 x1 s1 e13) LM_8_237 IM_X8_usesAddress SL_X8_usesAddress IN_8 CD_X8_usesAddress HD_X8_usesAddress ⟨rfl, rfl, Nat.le_of_ble_eq_true rfl, Nat.le_of_ble_eq_true rfl⟩ (rv_8 C hh) rfl hl.1 rfl (Nat.le_of_ble_eq_true rfl) dX8_client_87 ⟨Nat.zero_le _, Nat.zero_le _⟩) (fun H locs hh => ?_)
            refine lv_if_eq (tgt := 102) hx hb dX8_client_90 (by decide) (fun c16 => ?_) (fun c16 => ?_)
            · rw [if_pos c16] at h
              refine lv_iconst (v := (0 : Int32)) hx hb dX8_client_102 (by decide) ?_
              exact r_int C hh h dX8_client_103
            · rw [if_neg c16] at h
              refine lv_aload_n hx hb dX8_client_93 rfl (lv_at hl 0 rfl) ?_
              refine gf_8_44 C hh dX8_client_94 ?_
              refine lv_iload_n hx hb dX8_client_97 rfl (lv_at hl 1 rfl) ?_
              obtain ⟨b17, h⟩ := gd_e h
              refine al_814 C hh b17 dX8_client_98 ?_
              refine lv_goto (tgt := 103) hx hb dX8_client_99 (by decide) ?_
              exact r_int C hh h dX8_client_103
          · rw [if_pos c12] at h
            refine lv_aload_n hx hb dX8_client_76 rfl (lv_at hl 0 rfl) ?_
            refine gf_8_47 C hh dX8_client_77 ?_
            refine lv_iload_n hx hb dX8_client_80 rfl (lv_at hl 1 rfl) ?_
            obtain ⟨b18, h⟩ := gd_e h
            refine al_815 C hh b18 dX8_client_81 ?_
            refine lv_goto (tgt := 103) hx hb dX8_client_82 (by decide) ?_
            exact r_int C hh h dX8_client_103
        · rw [if_pos c11] at h
          refine lv_aload_n hx hb dX8_client_62 rfl (lv_at hl 0 rfl) ?_
          refine gf_8_44 C hh dX8_client_63 ?_
          refine lv_iload_n hx hb dX8_client_66 rfl (lv_at hl 1 rfl) ?_
          obtain ⟨b19, h⟩ := gd_e h
          refine al_814 C hh b19 dX8_client_67 ?_
          refine lv_goto (tgt := 103) hx hb dX8_client_68 (by decide) ?_
          exact r_int C hh h dX8_client_103
      · rw [if_pos c10] at h
        refine lv_aload_n hx hb dX8_client_48 rfl (lv_at hl 0 rfl) ?_
        refine gf_8_38 C hh dX8_client_49 ?_
        refine lv_iload_n hx hb dX8_client_52 rfl (lv_at hl 1 rfl) ?_
        obtain ⟨b20, h⟩ := gd_e h
        refine al_812 C hh b20 dX8_client_53 ?_
        refine lv_goto (tgt := 103) hx hb dX8_client_54 (by decide) ?_
        exact r_int C hh h dX8_client_103
  · rw [if_neg c3] at h
    refine lv_iconst (v := (0 : Int32)) hx hb dX8_client_37 (by decide) ?_
    exact r_int C hh h dX8_client_38
def f_X8_client_22 (x1 : Int32) (x2 : Int32) (σ : Mem) : Option (Int32 × Mem) := f_X8_client_27 x1 x2 (2 : Int32) σ
set_option maxHeartbeats 4000000 in
set_option maxRecDepth 100000 in
theorem k_X8_client_22 {p : Program} {l : Launch} {e : Env} {s : State} {m : MethodId} {args : Array Value} {below : List Frame} {meth : Method} {c : Code} {D : va_G} {cA : Nat → ClassId} {ad : Nat → Nat → Nat} {A : Nat → Prop} {o : Nat → Int64} (C : Cx p s m args meth c cX8_client 3 RX8 (some .int) D cA ad A o) {r : Int32 × Mem} (x1 : Int32) (x2 : Int32) (σ : Mem) {H : Heap} {locs : List Loc} (h : f_X8_client_22 x1 x2 σ = some r) (hh : HH D cA ad A o s σ H locs) {ls : Array Slot} (hl : lv_has ls 3 [(0, .ref (ad 899 0)), (1, .int x1), (2, .int x2)]) : W p l e rm_X8_client s m args below meth c H locs 0 0 (MQ below (Qi D cA ad o A r) args s 0 0 A) (F0 m 22 ls [.ref (ad 899 0)]) := by
  obtain ⟨⟨hx, hb, hml, hown, hts⟩, hK, hN, hD, hr, hlocks⟩ := id C
  unfold f_X8_client_22 at h
  refine lv_iconst (v := (2 : Int32)) hx hb dX8_client_22 (by decide) ?_
  refine lv_goto (tgt := 27) hx hb dX8_client_23 (by decide) ?_
  exact k_X8_client_27 C x1 x2 (2 : Int32) σ h hh (lv_sub hl [0, 1, 2] rfl)
def f_X8_client (x1 : Int32) (x2 : Int32) (σ : Mem) : Option (Int32 × Mem) := bn (f_X8_isClient x1 σ) (fun r3 s2 => (if r3 = (0 : Int32) then f_X8_client_27 x1 x2 (1 : Int32) s2 else (if x2 < (0 : Int32) then f_X8_client_22 x1 x2 s2 else (if x2 ≤ (6 : Int32) then f_X8_client_27 x1 x2 (0 : Int32) s2 else f_X8_client_22 x1 x2 s2))))
set_option maxHeartbeats 4000000 in
set_option maxRecDepth 100000 in
theorem c_X8_client {l : Launch} {D : va_G} {cA : Nat → ClassId} {ad : Nat → Nat → Nat} {A : Nat → Prop} {o : Nat → Int64} (hD0 : ∀ σ, va_D A (wW cA ad σ o)) (x1 : Int32) (x2 : Int32) (σ : Mem) {r : Int32 × Mem} (h : f_X8_client x1 x2 σ = some r) : Met l yX8_client (wsG yX8_client cX8_client 3 (some .int)) rm_X8_client (va_Pc [.ref (ad 899 0), .int x1, .int x2] (IW D cA ad o σ)) (Qi D cA ad o A r) 0 0 A := by
  refine metG (by decide) (Nat.le_of_ble_eq_true rfl) hD0 ?_
  intro p e s m args below meth c C ls hh hl
  have C : Cx p s m args meth c cX8_client 3 RX8 (some .int) D cA ad A o := C
  have hl : lv_has ls 3 [(0, .ref (ad 899 0)), (1, .int x1), (2, .int x2)] := hl
  obtain ⟨⟨hx, hb, hml, hown, hts⟩, hK, hN, hD, hr, hlocks⟩ := id C
  unfold f_X8_client at h
  refine lv_aload_n hx hb dX8_client_0 rfl (lv_at hl 0 rfl) ?_
  refine lv_iload_n hx hb dX8_client_1 rfl (lv_at hl 1 rfl) ?_
  obtain ⟨r3, s2, e1, h⟩ := bn_e h
  refine c_int hh (srun (rest := [.ref (ad 899 0)]) C hh (c_X8_isClient C.2.2.2.1 x1 σ e1) LM_8_90 ST_X8_isClient IN_8 CD_X8_isClient HD_X8_isClient ⟨rfl, rfl, Nat.le_of_ble_eq_true rfl, Nat.le_of_ble_eq_true rfl⟩ rfl hl.1 rfl (Nat.le_of_ble_eq_true rfl) dX8_client_2 ⟨Nat.zero_le _, Nat.zero_le _⟩) (fun H locs hh => ?_)
  refine lv_if_ne (tgt := 12) hx hb dX8_client_5 (by decide) (fun c4 => ?_) (fun c4 => ?_)
  · rw [if_neg c4] at h
    refine lv_iload_n hx hb dX8_client_12 rfl (lv_at hl 2 rfl) ?_
    refine lv_if_lt (tgt := 22) hx hb dX8_client_13 (by decide) (fun c5 => ?_) (fun c5 => ?_)
    · rw [if_pos c5] at h
      exact k_X8_client_22 C x1 x2 s2 h hh (lv_sub hl [0, 1, 2] rfl)
    · rw [if_neg c5] at h
      refine lv_iload_n hx hb dX8_client_16 rfl (lv_at hl 2 rfl) ?_
      refine lv_bipush (v := (6 : Int32)) hx hb dX8_client_17 (by decide) ?_
      refine lv_icmp_le (tgt := 26) hx hb dX8_client_19 (by decide) (fun c6 => ?_) (fun c6 => ?_)
      · rw [if_pos c6] at h
        refine lv_iconst (v := (0 : Int32)) hx hb dX8_client_26 (by decide) ?_
        exact k_X8_client_27 C x1 x2 (0 : Int32) s2 h hh (lv_sub hl [0, 1, 2] rfl)
      · rw [if_neg c6] at h
        exact k_X8_client_22 C x1 x2 s2 h hh (lv_sub hl [0, 1, 2] rfl)
  · rw [if_pos c4] at h
    refine lv_iconst (v := (1 : Int32)) hx hb dX8_client_8 (by decide) ?_
    refine lv_goto (tgt := 27) hx hb dX8_client_9 (by decide) ?_
    exact k_X8_client_27 C x1 x2 (1 : Int32) s2 h hh (lv_sub hl [0, 1, 2] rfl)
abbrev rm_X8_record : Room := { frames := 1, cells := 0, slots := 0, locals := 20 }
theorem HD_X8_record : yX8_record.cls = RX8 ∧ yX8_record.cls ≠ "java/lang/invoke/MethodHandle" ∧ yX8_record.cls ≠ "java/lang/invoke/VarHandle" ∧ (parseMethodDescriptor yX8_record.desc).map (fun d => d.parameters.length) = some 2 := by decide +kernel
def f_X8_record_72 (x1 : Int32) (σ : Mem) : Option (Int32 × Mem) := gd (vin x1 1024) (some ((σ 808 0 (x1).toNatClampNeg), σ))
set_option maxHeartbeats 4000000 in
set_option maxRecDepth 100000 in
theorem k_X8_record_72 {p : Program} {l : Launch} {e : Env} {s : State} {m : MethodId} {args : Array Value} {below : List Frame} {meth : Method} {c : Code} {D : va_G} {cA : Nat → ClassId} {ad : Nat → Nat → Nat} {A : Nat → Prop} {o : Nat → Int64} (C : Cx p s m args meth c cX8_record 3 RX8 (some .int) D cA ad A o) {r : Int32 × Mem} (x1 : Int32) (σ : Mem) {H : Heap} {locs : List Loc} (h : f_X8_record_72 x1 σ = some r) (hh : HH D cA ad A o s σ H locs) {ls : Array Slot} (hl : lv_has ls 3 [(0, .ref (ad 899 0)), (1, .int x1)]) : W p l e rm_X8_record s m args below meth c H locs 0 0 (MQ below (Qi D cA ad o A r) args s 0 0 A) (F0 m 72 ls []) := by
  obtain ⟨⟨hx, hb, hml, hown, hts⟩, hK, hN, hD, hr, hlocks⟩ := id C
  unfold f_X8_record_72 at h
  refine lv_aload_n hx hb dX8_record_72 rfl (lv_at hl 0 rfl) ?_
  refine gf_8_26 C hh dX8_record_73 ?_
  refine lv_iload_n hx hb dX8_record_76 rfl (lv_at hl 1 rfl) ?_
  obtain ⟨b1, h⟩ := gd_e h
  refine al_808 C hh b1 dX8_record_77 ?_
  refine lv_goto (tgt := 91) hx hb dX8_record_78 (by decide) ?_
  exact r_int C hh h dX8_record_91
def f_X8_record_22 (x1 : Int32) (x2 : Int32) (xs0 : Int32) (σ : Mem) : Option (Int32 × Mem) := vl (up σ 800 0 0 xs0) (fun s1 => (if (s1 800 0 0) ≤ (0 : Int32) then (if x2 = (0 : Int32) then gd (vin x1 1024) (some ((s1 807 0 (x1).toNatClampNeg), s1)) else (if x2 = (1 : Int32) then gd (vin x1 1024) ((if (s1 807 0 (x1).toNatClampNeg) = (1 : Int32) then f_X8_record_72 x1 s1 else gd (vin x1 1024) ((if (s1 807 0 (x1).toNatClampNeg) = (2 : Int32) then f_X8_record_72 x1 s1 else some ((-1 : Int32), s1))))) else gd (vin x1 1024) (some ((s1 809 0 (x1).toNatClampNeg), s1)))) else some ((0 : Int32), s1)))
set_option maxHeartbeats 4000000 in
set_option maxRecDepth 100000 in
theorem k_X8_record_22 {p : Program} {l : Launch} {e : Env} {s : State} {m : MethodId} {args : Array Value} {below : List Frame} {meth : Method} {c : Code} {D : va_G} {cA : Nat → ClassId} {ad : Nat → Nat → Nat} {A : Nat → Prop} {o : Nat → Int64} (C : Cx p s m args meth c cX8_record 3 RX8 (some .int) D cA ad A o) {r : Int32 × Mem} (x1 : Int32) (x2 : Int32) (xs0 : Int32) (σ : Mem) {H : Heap} {locs : List Loc} (h : f_X8_record_22 x1 x2 xs0 σ = some r) (hh : HH D cA ad A o s σ H locs) {ls : Array Slot} (hl : lv_has ls 3 [(0, .ref (ad 899 0)), (1, .int x1), (2, .int x2)]) : W p l e rm_X8_record s m args below meth c H locs 0 0 (MQ below (Qi D cA ad o A r) args s 0 0 A) (F0 m 22 ls [.int xs0, .ref (ad 899 0)]) := by
  obtain ⟨⟨hx, hb, hml, hown, hts⟩, hK, hN, hD, hr, hlocks⟩ := id C
  unfold f_X8_record_22 at h
  obtain ⟨s1, e2, h⟩ := vl_e h
  refine pf_8_86 C hh dX8_record_22 (fun H locs hh => ?_)
  rw [← e2] at hh
  refine lv_aload_n hx hb dX8_record_25 rfl (lv_at hl 0 rfl) ?_
  refine gf_8_86 C hh dX8_record_26 ?_
  refine lv_if_le (tgt := 34) hx hb dX8_record_29 (by decide) (fun c3 => ?_) (fun c3 => ?_)
  · rw [if_pos c3] at h
    refine lv_iload_n hx hb dX8_record_34 rfl (lv_at hl 2 rfl) ?_
    refine lv_if_ne (tgt := 47) hx hb dX8_record_35 (by decide) (fun c4 => ?_) (fun c4 => ?_)
    · rw [if_neg c4] at h
      refine lv_iload_n hx hb dX8_record_47 rfl (lv_at hl 2 rfl) ?_
      refine lv_iconst (v := (1 : Int32)) hx hb dX8_record_48 (by decide) ?_
      refine lv_icmp_ne (tgt := 85) hx hb dX8_record_49 (by decide) (fun c5 => ?_) (fun c5 => ?_)
      · rw [if_neg c5] at h
        refine lv_aload_n hx hb dX8_record_85 rfl (lv_at hl 0 rfl) ?_
        refine gf_8_29 C hh dX8_record_86 ?_
        refine lv_iload_n hx hb dX8_record_89 rfl (lv_at hl 1 rfl) ?_
        obtain ⟨b6, h⟩ := gd_e h
        refine al_809 C hh b6 dX8_record_90 ?_
        exact r_int C hh h dX8_record_91
      · rw [if_pos c5] at h
        refine lv_aload_n hx hb dX8_record_52 rfl (lv_at hl 0 rfl) ?_
        refine gf_8_23 C hh dX8_record_53 ?_
        refine lv_iload_n hx hb dX8_record_56 rfl (lv_at hl 1 rfl) ?_
        obtain ⟨b7, h⟩ := gd_e h
        refine al_807 C hh b7 dX8_record_57 ?_
        refine lv_iconst (v := (1 : Int32)) hx hb dX8_record_58 (by decide) ?_
        refine lv_icmp_eq (tgt := 72) hx hb dX8_record_59 (by decide) (fun c8 => ?_) (fun c8 => ?_)
        · rw [if_pos c8] at h
          exact k_X8_record_72 C x1 s1 h hh (lv_sub hl [0, 1] rfl)
        · rw [if_neg c8] at h
          refine lv_aload_n hx hb dX8_record_62 rfl (lv_at hl 0 rfl) ?_
          refine gf_8_23 C hh dX8_record_63 ?_
          refine lv_iload_n hx hb dX8_record_66 rfl (lv_at hl 1 rfl) ?_
          obtain ⟨b9, h⟩ := gd_e h
          refine al_807 C hh b9 dX8_record_67 ?_
          refine lv_iconst (v := (2 : Int32)) hx hb dX8_record_68 (by decide) ?_
          refine lv_icmp_ne (tgt := 81) hx hb dX8_record_69 (by decide) (fun c10 => ?_) (fun c10 => ?_)
          · rw [if_neg c10] at h
            refine lv_iconst (v := (-1 : Int32)) hx hb dX8_record_81 (by decide) ?_
            refine lv_goto (tgt := 91) hx hb dX8_record_82 (by decide) ?_
            exact r_int C hh h dX8_record_91
          · rw [if_pos c10] at h
            exact k_X8_record_72 C x1 s1 h hh (lv_sub hl [0, 1] rfl)
    · rw [if_pos c4] at h
      refine lv_aload_n hx hb dX8_record_38 rfl (lv_at hl 0 rfl) ?_
      refine gf_8_23 C hh dX8_record_39 ?_
      refine lv_iload_n hx hb dX8_record_42 rfl (lv_at hl 1 rfl) ?_
      obtain ⟨b11, h⟩ := gd_e h
      refine al_807 C hh b11 dX8_record_43 ?_
      refine lv_goto (tgt := 91) hx hb dX8_record_44 (by decide) ?_
      exact r_int C hh h dX8_record_91
  · rw [if_neg c3] at h
    refine lv_iconst (v := (0 : Int32)) hx hb dX8_record_32 (by decide) ?_
    exact r_int C hh h dX8_record_33
def f_X8_record_17 (x1 : Int32) (x2 : Int32) (σ : Mem) : Option (Int32 × Mem) := f_X8_record_22 x1 x2 (1 : Int32) σ
set_option maxHeartbeats 4000000 in
set_option maxRecDepth 100000 in
theorem k_X8_record_17 {p : Program} {l : Launch} {e : Env} {s : State} {m : MethodId} {args : Array Value} {below : List Frame} {meth : Method} {c : Code} {D : va_G} {cA : Nat → ClassId} {ad : Nat → Nat → Nat} {A : Nat → Prop} {o : Nat → Int64} (C : Cx p s m args meth c cX8_record 3 RX8 (some .int) D cA ad A o) {r : Int32 × Mem} (x1 : Int32) (x2 : Int32) (σ : Mem) {H : Heap} {locs : List Loc} (h : f_X8_record_17 x1 x2 σ = some r) (hh : HH D cA ad A o s σ H locs) {ls : Array Slot} (hl : lv_has ls 3 [(0, .ref (ad 899 0)), (1, .int x1), (2, .int x2)]) : W p l e rm_X8_record s m args below meth c H locs 0 0 (MQ below (Qi D cA ad o A r) args s 0 0 A) (F0 m 17 ls [.ref (ad 899 0)]) := by
  obtain ⟨⟨hx, hb, hml, hown, hts⟩, hK, hN, hD, hr, hlocks⟩ := id C
  unfold f_X8_record_17 at h
  refine lv_iconst (v := (1 : Int32)) hx hb dX8_record_17 (by decide) ?_
  refine lv_goto (tgt := 22) hx hb dX8_record_18 (by decide) ?_
  exact k_X8_record_22 C x1 x2 (1 : Int32) σ h hh (lv_sub hl [0, 1, 2] rfl)
def f_X8_record (x1 : Int32) (x2 : Int32) (σ : Mem) : Option (Int32 × Mem) := bn (f_X8_isAddress x1 σ) (fun r3 s2 => (if r3 = (0 : Int32) then f_X8_record_17 x1 x2 s2 else (if x2 < (0 : Int32) then f_X8_record_17 x1 x2 s2 else (if x2 ≤ (2 : Int32) then f_X8_record_22 x1 x2 (0 : Int32) s2 else f_X8_record_17 x1 x2 s2))))
set_option maxHeartbeats 4000000 in
set_option maxRecDepth 100000 in
theorem c_X8_record {l : Launch} {D : va_G} {cA : Nat → ClassId} {ad : Nat → Nat → Nat} {A : Nat → Prop} {o : Nat → Int64} (hD0 : ∀ σ, va_D A (wW cA ad σ o)) (x1 : Int32) (x2 : Int32) (σ : Mem) {r : Int32 × Mem} (h : f_X8_record x1 x2 σ = some r) : Met l yX8_record (wsG yX8_record cX8_record 3 (some .int)) rm_X8_record (va_Pc [.ref (ad 899 0), .int x1, .int x2] (IW D cA ad o σ)) (Qi D cA ad o A r) 0 0 A := by
  refine metG (by decide) (Nat.le_of_ble_eq_true rfl) hD0 ?_
  intro p e s m args below meth c C ls hh hl
  have C : Cx p s m args meth c cX8_record 3 RX8 (some .int) D cA ad A o := C
  have hl : lv_has ls 3 [(0, .ref (ad 899 0)), (1, .int x1), (2, .int x2)] := hl
  obtain ⟨⟨hx, hb, hml, hown, hts⟩, hK, hN, hD, hr, hlocks⟩ := id C
  unfold f_X8_record at h
  refine lv_aload_n hx hb dX8_record_0 rfl (lv_at hl 0 rfl) ?_
  refine lv_iload_n hx hb dX8_record_1 rfl (lv_at hl 1 rfl) ?_
  obtain ⟨r3, s2, e1, h⟩ := bn_e h
  refine c_int hh (srun (rest := [.ref (ad 899 0)]) C hh (c_X8_isAddress C.2.2.2.1 x1 σ e1) LM_8_198 ST_X8_isAddress IN_8 CD_X8_isAddress HD_X8_isAddress ⟨rfl, rfl, Nat.le_of_ble_eq_true rfl, Nat.le_of_ble_eq_true rfl⟩ rfl hl.1 rfl (Nat.le_of_ble_eq_true rfl) dX8_record_2 ⟨Nat.zero_le _, Nat.zero_le _⟩) (fun H locs hh => ?_)
  refine lv_if_eq (tgt := 17) hx hb dX8_record_5 (by decide) (fun c4 => ?_) (fun c4 => ?_)
  · rw [if_pos c4] at h
    exact k_X8_record_17 C x1 x2 s2 h hh (lv_sub hl [0, 1, 2] rfl)
  · rw [if_neg c4] at h
    refine lv_iload_n hx hb dX8_record_8 rfl (lv_at hl 2 rfl) ?_
    refine lv_if_lt (tgt := 17) hx hb dX8_record_9 (by decide) (fun c5 => ?_) (fun c5 => ?_)
    · rw [if_pos c5] at h
      exact k_X8_record_17 C x1 x2 s2 h hh (lv_sub hl [0, 1, 2] rfl)
    · rw [if_neg c5] at h
      refine lv_iload_n hx hb dX8_record_12 rfl (lv_at hl 2 rfl) ?_
      refine lv_iconst (v := (2 : Int32)) hx hb dX8_record_13 (by decide) ?_
      refine lv_icmp_le (tgt := 21) hx hb dX8_record_14 (by decide) (fun c6 => ?_) (fun c6 => ?_)
      · rw [if_pos c6] at h
        refine lv_iconst (v := (0 : Int32)) hx hb dX8_record_21 (by decide) ?_
        exact k_X8_record_22 C x1 x2 (0 : Int32) s2 h hh (lv_sub hl [0, 1, 2] rfl)
      · rw [if_neg c6] at h
        exact k_X8_record_17 C x1 x2 s2 h hh (lv_sub hl [0, 1, 2] rfl)
abbrev rm_X8_count : Room := { frames := 1, cells := 0, slots := 0, locals := 23 }
theorem HD_X8_count : yX8_count.cls = RX8 ∧ yX8_count.cls ≠ "java/lang/invoke/MethodHandle" ∧ yX8_count.cls ≠ "java/lang/invoke/VarHandle" ∧ (parseMethodDescriptor yX8_count.desc).map (fun d => d.parameters.length) = some 1 := by decide +kernel
def f_X8_count_125 (K70 : Int32 → Int32 → Int32 → Mem → Option (Int32 × Mem)) (x1 : Int32) (x3 : Int32) (xs0 : Int32) (xs1 : Int32) (σ : Mem) : Option (Int32 × Mem) := vl ((xs1 + xs0)) (fun v1 => vl (x3 + (1 : Int32)) (fun v3 => K70 x1 v1 v3 σ))
set_option maxHeartbeats 4000000 in
set_option maxRecDepth 100000 in
theorem k_X8_count_125 {p : Program} {l : Launch} {e : Env} {s : State} {m : MethodId} {args : Array Value} {below : List Frame} {meth : Method} {c : Code} {D : va_G} {cA : Nat → ClassId} {ad : Nat → Nat → Nat} {A : Nat → Prop} {o : Nat → Int64} (C : Cx p s m args meth c cX8_count 4 RX8 (some .int) D cA ad A o) {K70 : Int32 → Int32 → Int32 → Mem → Option (Int32 × Mem)} {r : Int32 × Mem} (hK70 : ∀ (x1 : Int32) (x2 : Int32) (x3 : Int32) (σ : Mem) {H : Heap} {locs : List Loc}, K70 x1 x2 x3 σ = some r → HH D cA ad A o s σ H locs → ∀ {ls : Array Slot}, lv_has ls 4 [(0, .ref (ad 899 0)), (1, .int x1), (2, .int x2), (3, .int x3)] → W p l e rm_X8_count s m args below meth c H locs 0 0 (MQ below (Qi D cA ad o A r) args s 0 0 A) (F0 m 70 ls [])) (x1 : Int32) (x3 : Int32) (xs0 : Int32) (xs1 : Int32) (σ : Mem) {H : Heap} {locs : List Loc} (h : f_X8_count_125 K70 x1 x3 xs0 xs1 σ = some r) (hh : HH D cA ad A o s σ H locs) {ls : Array Slot} (hl : lv_has ls 4 [(0, .ref (ad 899 0)), (1, .int x1), (3, .int x3)]) : W p l e rm_X8_count s m args below meth c H locs 0 0 (MQ below (Qi D cA ad o A r) args s 0 0 A) (F0 m 125 ls [.int xs0, .int xs1]) := by
  obtain ⟨⟨hx, hb, hml, hown, hts⟩, hK, hN, hD, hr, hlocks⟩ := id C
  unfold f_X8_count_125 at h
  refine lv_iadd hx hb dX8_count_125 ?_
  obtain ⟨v1, e2, h⟩ := vl_e h
  refine lv_nm e2 ?_
  refine lv_istore_n (lv' := [(2, .int v1), (0, .ref (ad 899 0)), (1, .int x1), (3, .int x3)]) hx hb dX8_count_126 rfl hl (by decide) rfl (fun ls hl => ?_)
  obtain ⟨v3, e4, h⟩ := vl_e h
  refine lv_iinc (v := v3) (lv' := [(3, .int v3), (2, .int v1), (0, .ref (ad 899 0)), (1, .int x1)]) hx hb dX8_count_127 hl (k := 3) rfl (by rw [e4]; rfl) (by decide) rfl (fun ls hl => ?_)
  refine lv_goto (tgt := 70) hx hb dX8_count_130 (by decide) ?_
  exact hK70 x1 v1 v3 σ h hh (lv_sub hl [2, 3, 1, 0] rfl)
def f_X8_count_124 (K70 : Int32 → Int32 → Int32 → Mem → Option (Int32 × Mem)) (x1 : Int32) (x3 : Int32) (xs0 : Int32) (σ : Mem) : Option (Int32 × Mem) := f_X8_count_125 K70 x1 x3 (0 : Int32) xs0 σ
set_option maxHeartbeats 4000000 in
set_option maxRecDepth 100000 in
theorem k_X8_count_124 {p : Program} {l : Launch} {e : Env} {s : State} {m : MethodId} {args : Array Value} {below : List Frame} {meth : Method} {c : Code} {D : va_G} {cA : Nat → ClassId} {ad : Nat → Nat → Nat} {A : Nat → Prop} {o : Nat → Int64} (C : Cx p s m args meth c cX8_count 4 RX8 (some .int) D cA ad A o) {K70 : Int32 → Int32 → Int32 → Mem → Option (Int32 × Mem)} {r : Int32 × Mem} (hK70 : ∀ (x1 : Int32) (x2 : Int32) (x3 : Int32) (σ : Mem) {H : Heap} {locs : List Loc}, K70 x1 x2 x3 σ = some r → HH D cA ad A o s σ H locs → ∀ {ls : Array Slot}, lv_has ls 4 [(0, .ref (ad 899 0)), (1, .int x1), (2, .int x2), (3, .int x3)] → W p l e rm_X8_count s m args below meth c H locs 0 0 (MQ below (Qi D cA ad o A r) args s 0 0 A) (F0 m 70 ls [])) (x1 : Int32) (x3 : Int32) (xs0 : Int32) (σ : Mem) {H : Heap} {locs : List Loc} (h : f_X8_count_124 K70 x1 x3 xs0 σ = some r) (hh : HH D cA ad A o s σ H locs) {ls : Array Slot} (hl : lv_has ls 4 [(0, .ref (ad 899 0)), (1, .int x1), (3, .int x3)]) : W p l e rm_X8_count s m args below meth c H locs 0 0 (MQ below (Qi D cA ad o A r) args s 0 0 A) (F0 m 124 ls [.int xs0]) := by
  obtain ⟨⟨hx, hb, hml, hown, hts⟩, hK, hN, hD, hr, hlocks⟩ := id C
  unfold f_X8_count_124 at h
  refine lv_iconst (v := (0 : Int32)) hx hb dX8_count_124 (by decide) ?_
  exact k_X8_count_125 C hK70 x1 x3 (0 : Int32) xs0 σ h hh (lv_sub hl [0, 1, 2] rfl)
def f_X8_count_70 : Nat → Int32 → Int32 → Int32 → Mem → Option (Int32 × Mem)
  | 0, _, _, _, _ => none
  | n + 1, x1, x2, x3, σ => (if (1024 : Int32) ≤ x3 then some (x2, σ) else (if x1 = (2 : Int32) then gd (vin x3 1024) ((if (σ 807 0 (x3).toNatClampNeg) ≤ (0 : Int32) then f_X8_count_125 (f_X8_count_70 n) x1 x3 (0 : Int32) x2 σ else f_X8_count_125 (f_X8_count_70 n) x1 x3 (1 : Int32) x2 σ)) else bn (f_X8_isInPool (x3 >>> ((8 : Int32) &&& 31)) x3 σ) (fun r5 s4 => (if r5 = (0 : Int32) then f_X8_count_124 (f_X8_count_70 n) x1 x3 x2 s4 else bn (f_X8_isFree x3 s4) (fun r9 s8 => (if r9 = (0 : Int32) then f_X8_count_124 (f_X8_count_70 n) x1 x3 x2 s8 else f_X8_count_125 (f_X8_count_70 n) x1 x3 (1 : Int32) x2 s8))))))
set_option maxHeartbeats 4000000 in
set_option maxRecDepth 100000 in
theorem k_X8_count_70 {p : Program} {l : Launch} {e : Env} {s : State} {m : MethodId} {args : Array Value} {below : List Frame} {meth : Method} {c : Code} {D : va_G} {cA : Nat → ClassId} {ad : Nat → Nat → Nat} {A : Nat → Prop} {o : Nat → Int64} (C : Cx p s m args meth c cX8_count 4 RX8 (some .int) D cA ad A o) {r : Int32 × Mem} : ∀ (n : Nat) (x1 : Int32) (x2 : Int32) (x3 : Int32) (σ : Mem) {H : Heap} {locs : List Loc} (h : f_X8_count_70 n x1 x2 x3 σ = some r) (hh : HH D cA ad A o s σ H locs) {ls : Array Slot} (hl : lv_has ls 4 [(0, .ref (ad 899 0)), (1, .int x1), (2, .int x2), (3, .int x3)]), W p l e rm_X8_count s m args below meth c H locs 0 0 (MQ below (Qi D cA ad o A r) args s 0 0 A) (F0 m 70 ls []) := by
  obtain ⟨⟨hx, hb, hml, hown, hts⟩, hK, hN, hD, hr, hlocks⟩ := id C
  intro n
  induction n with
  | zero =>
    intro x1 x2 x3 σ H locs h
    rw [f_X8_count_70.eq_1] at h
    cases h
  | succ n ih =>
    intro x1 x2 x3 σ H locs h hh ls hl
    rw [f_X8_count_70.eq_2] at h
    refine lv_iload_n hx hb dX8_count_70 rfl (lv_at hl 3 rfl) ?_
    refine lv_sipush (v := (1024 : Int32)) hx hb dX8_count_71 (by decide) ?_
    refine lv_icmp_ge (tgt := 133) hx hb dX8_count_74 (by decide) (fun c1 => ?_) (fun c1 => ?_)
    · rw [if_pos c1] at h
      refine lv_iload_n hx hb dX8_count_133 rfl (lv_at hl 2 rfl) ?_
      exact r_int C hh h dX8_count_134
    · rw [if_neg c1] at h
      refine lv_iload_n hx hb dX8_count_77 rfl (lv_at hl 2 rfl) ?_
      refine lv_iload_n hx hb dX8_count_78 rfl (lv_at hl 1 rfl) ?_
      refine lv_iconst (v := (2 : Int32)) hx hb dX8_count_79 (by decide) ?_
      refine lv_icmp_ne (tgt := 100) hx hb dX8_count_80 (by decide) (fun c2 => ?_) (fun c2 => ?_)
      · rw [if_neg c2] at h
        refine lv_aload_n hx hb dX8_count_100 rfl (lv_at hl 0 rfl) ?_
        refine lv_iload_n hx hb dX8_count_101 rfl (lv_at hl 3 rfl) ?_
        refine lv_bipush (v := (8 : Int32)) hx hb dX8_count_102 (by decide) ?_
        refine lv_ishr hx hb dX8_count_104 ?_
        refine lv_iload_n hx hb dX8_count_105 rfl (lv_at hl 3 rfl) ?_
        obtain ⟨r5, s4, e3, h⟩ := bn_e h
        refine c_int hh (vrun (rest := [.int x2]) C hh (c_X8_isInPool C.2.2.2.1 (x3 >>> ((8 : Int32) &&& 31)) x3 σ e3) LM_8_141 IM_X8_isInPool SL_X8_isInPool IN_8 CD_X8_isInPool HD_X8_isInPool ⟨rfl, rfl, Nat.le_of_ble_eq_true rfl, Nat.le_of_ble_eq_true rfl⟩ (rv_8 C hh) rfl hl.1 rfl (Nat.le_of_ble_eq_true rfl) dX8_count_106 ⟨Nat.zero_le _, Nat.zero_le _⟩) (fun H locs hh => ?_)
        refine lv_if_eq (tgt := 124) hx hb dX8_count_109 (by decide) (fun c6 => ?_) (fun c6 => ?_)
        · rw [if_pos c6] at h
          exact k_X8_count_124 C ih x1 x3 x2 s4 h hh (lv_sub hl [0, 1, 3] rfl)
        · rw [if_neg c6] at h
          refine lv_aload_n hx hb dX8_count_112 rfl (lv_at hl 0 rfl) ?_
          refine lv_iload_n hx hb dX8_count_113 rfl (lv_at hl 3 rfl) ?_
          obtain ⟨r9, s8, e7, h⟩ := bn_e h
          refine c_int hh (vrun (rest := [.int x2]) C hh (c_X8_isFree C.2.2.2.1 x3 s4 e7) LM_8_144 IM_X8_isFree SL_X8_isFree IN_8 CD_X8_isFree HD_X8_isFree ⟨rfl, rfl, Nat.le_of_ble_eq_true rfl, Nat.le_of_ble_eq_true rfl⟩ (rv_8 C hh) rfl hl.1 rfl (Nat.le_of_ble_eq_true rfl) dX8_count_114 ⟨Nat.zero_le _, Nat.zero_le _⟩) (fun H locs hh => ?_)
          refine lv_if_eq (tgt := 124) hx hb dX8_count_117 (by decide) (fun c10 => ?_) (fun c10 => ?_)
          · rw [if_pos c10] at h
            exact k_X8_count_124 C ih x1 x3 x2 s8 h hh (lv_sub hl [0, 1, 3] rfl)
          · rw [if_neg c10] at h
            refine lv_iconst (v := (1 : Int32)) hx hb dX8_count_120 (by decide) ?_
            refine lv_goto (tgt := 125) hx hb dX8_count_121 (by decide) ?_
            exact k_X8_count_125 C ih x1 x3 (1 : Int32) x2 s8 h hh (lv_sub hl [0, 1, 3] rfl)
      · rw [if_pos c2] at h
        refine lv_aload_n hx hb dX8_count_83 rfl (lv_at hl 0 rfl) ?_
        refine gf_8_23 C hh dX8_count_84 ?_
        refine lv_iload_n hx hb dX8_count_87 rfl (lv_at hl 3 rfl) ?_
        obtain ⟨b11, h⟩ := gd_e h
        refine al_807 C hh b11 dX8_count_88 ?_
        refine lv_if_le (tgt := 96) hx hb dX8_count_89 (by decide) (fun c12 => ?_) (fun c12 => ?_)
        · rw [if_pos c12] at h
          refine lv_iconst (v := (0 : Int32)) hx hb dX8_count_96 (by decide) ?_
          refine lv_goto (tgt := 125) hx hb dX8_count_97 (by decide) ?_
          exact k_X8_count_125 C ih x1 x3 (0 : Int32) x2 σ h hh (lv_sub hl [0, 1, 3] rfl)
        · rw [if_neg c12] at h
          refine lv_iconst (v := (1 : Int32)) hx hb dX8_count_92 (by decide) ?_
          refine lv_goto (tgt := 125) hx hb dX8_count_93 (by decide) ?_
          exact k_X8_count_125 C ih x1 x3 (1 : Int32) x2 σ h hh (lv_sub hl [0, 1, 3] rfl)
def f_X8_count_15 (x1 : Int32) (xs0 : Int32) (σ : Mem) : Option (Int32 × Mem) := vl (up σ 800 0 0 xs0) (fun s1 => (if (s1 800 0 0) ≤ (0 : Int32) then (if (2 : Int32) ≤ x1 then (if x1 = (3 : Int32) then (if (s1 806 0 0) = (0 : Int32) then some ((1 : Int32), s1) else some ((0 : Int32), s1)) else f_X8_count_70 5000 x1 (0 : Int32) (1 : Int32) s1) else (if x1 = (0 : Int32) then some ((s1 801 0 0), s1) else some ((s1 824 0 0), s1))) else some ((0 : Int32), s1)))
set_option maxHeartbeats 4000000 in
set_option maxRecDepth 100000 in
theorem k_X8_count_15 {p : Program} {l : Launch} {e : Env} {s : State} {m : MethodId} {args : Array Value} {below : List Frame} {meth : Method} {c : Code} {D : va_G} {cA : Nat → ClassId} {ad : Nat → Nat → Nat} {A : Nat → Prop} {o : Nat → Int64} (C : Cx p s m args meth c cX8_count 4 RX8 (some .int) D cA ad A o) {r : Int32 × Mem} (x1 : Int32) (xs0 : Int32) (σ : Mem) {H : Heap} {locs : List Loc} (h : f_X8_count_15 x1 xs0 σ = some r) (hh : HH D cA ad A o s σ H locs) {ls : Array Slot} (hl : lv_has ls 4 [(0, .ref (ad 899 0)), (1, .int x1)]) : W p l e rm_X8_count s m args below meth c H locs 0 0 (MQ below (Qi D cA ad o A r) args s 0 0 A) (F0 m 15 ls [.int xs0, .ref (ad 899 0)]) := by
  obtain ⟨⟨hx, hb, hml, hown, hts⟩, hK, hN, hD, hr, hlocks⟩ := id C
  unfold f_X8_count_15 at h
  obtain ⟨s1, e2, h⟩ := vl_e h
  refine pf_8_86 C hh dX8_count_15 (fun H locs hh => ?_)
  rw [← e2] at hh
  refine lv_aload_n hx hb dX8_count_18 rfl (lv_at hl 0 rfl) ?_
  refine gf_8_86 C hh dX8_count_19 ?_
  refine lv_if_le (tgt := 27) hx hb dX8_count_22 (by decide) (fun c3 => ?_) (fun c3 => ?_)
  · rw [if_pos c3] at h
    refine lv_iload_n hx hb dX8_count_27 rfl (lv_at hl 1 rfl) ?_
    refine lv_iconst (v := (2 : Int32)) hx hb dX8_count_28 (by decide) ?_
    refine lv_icmp_ge (tgt := 48) hx hb dX8_count_29 (by decide) (fun c4 => ?_) (fun c4 => ?_)
    · rw [if_pos c4] at h
      refine lv_iload_n hx hb dX8_count_48 rfl (lv_at hl 1 rfl) ?_
      refine lv_iconst (v := (3 : Int32)) hx hb dX8_count_49 (by decide) ?_
      refine lv_icmp_ne (tgt := 66) hx hb dX8_count_50 (by decide) (fun c5 => ?_) (fun c5 => ?_)
      · rw [if_neg c5] at h
        refine lv_iconst (v := (0 : Int32)) hx hb dX8_count_66 (by decide) ?_
        refine lv_istore_n (lv' := [(2, .int (0 : Int32)), (0, .ref (ad 899 0)), (1, .int x1)]) hx hb dX8_count_67 rfl hl (by decide) rfl (fun ls hl => ?_)
        refine lv_iconst (v := (1 : Int32)) hx hb dX8_count_68 (by decide) ?_
        refine lv_istore_n (lv' := [(3, .int (1 : Int32)), (2, .int (0 : Int32)), (0, .ref (ad 899 0)), (1, .int x1)]) hx hb dX8_count_69 rfl hl (by decide) rfl (fun ls hl => ?_)
        exact k_X8_count_70 C 5000 x1 (0 : Int32) (1 : Int32) s1 h hh (lv_sub hl [2, 3, 1, 0] rfl)
      · rw [if_pos c5] at h
        refine lv_aload_n hx hb dX8_count_53 rfl (lv_at hl 0 rfl) ?_
        refine gf_8_186 C hh dX8_count_54 ?_
        refine lv_if_eq (tgt := 64) hx hb dX8_count_57 (by decide) (fun c6 => ?_) (fun c6 => ?_)
        · rw [if_pos c6] at h
          refine lv_iconst (v := (1 : Int32)) hx hb dX8_count_64 (by decide) ?_
          exact r_int C hh h dX8_count_65
        · rw [if_neg c6] at h
          refine lv_iconst (v := (0 : Int32)) hx hb dX8_count_60 (by decide) ?_
          refine lv_goto (tgt := 65) hx hb dX8_count_61 (by decide) ?_
          exact r_int C hh h dX8_count_65
    · rw [if_neg c4] at h
      refine lv_iload_n hx hb dX8_count_32 rfl (lv_at hl 1 rfl) ?_
      refine lv_if_ne (tgt := 43) hx hb dX8_count_33 (by decide) (fun c7 => ?_) (fun c7 => ?_)
      · rw [if_neg c7] at h
        refine lv_aload_n hx hb dX8_count_43 rfl (lv_at hl 0 rfl) ?_
        refine gf_8_124 C hh dX8_count_44 ?_
        exact r_int C hh h dX8_count_47
      · rw [if_pos c7] at h
        refine lv_aload_n hx hb dX8_count_36 rfl (lv_at hl 0 rfl) ?_
        refine gf_8_130 C hh dX8_count_37 ?_
        refine lv_goto (tgt := 47) hx hb dX8_count_40 (by decide) ?_
        exact r_int C hh h dX8_count_47
  · rw [if_neg c3] at h
    refine lv_iconst (v := (0 : Int32)) hx hb dX8_count_25 (by decide) ?_
    exact r_int C hh h dX8_count_26
def f_X8_count_10 (x1 : Int32) (σ : Mem) : Option (Int32 × Mem) := f_X8_count_15 x1 (1 : Int32) σ
set_option maxHeartbeats 4000000 in
set_option maxRecDepth 100000 in
theorem k_X8_count_10 {p : Program} {l : Launch} {e : Env} {s : State} {m : MethodId} {args : Array Value} {below : List Frame} {meth : Method} {c : Code} {D : va_G} {cA : Nat → ClassId} {ad : Nat → Nat → Nat} {A : Nat → Prop} {o : Nat → Int64} (C : Cx p s m args meth c cX8_count 4 RX8 (some .int) D cA ad A o) {r : Int32 × Mem} (x1 : Int32) (σ : Mem) {H : Heap} {locs : List Loc} (h : f_X8_count_10 x1 σ = some r) (hh : HH D cA ad A o s σ H locs) {ls : Array Slot} (hl : lv_has ls 4 [(0, .ref (ad 899 0)), (1, .int x1)]) : W p l e rm_X8_count s m args below meth c H locs 0 0 (MQ below (Qi D cA ad o A r) args s 0 0 A) (F0 m 10 ls [.ref (ad 899 0)]) := by
  obtain ⟨⟨hx, hb, hml, hown, hts⟩, hK, hN, hD, hr, hlocks⟩ := id C
  unfold f_X8_count_10 at h
  refine lv_iconst (v := (1 : Int32)) hx hb dX8_count_10 (by decide) ?_
  refine lv_goto (tgt := 15) hx hb dX8_count_11 (by decide) ?_
  exact k_X8_count_15 C x1 (1 : Int32) σ h hh (lv_sub hl [0, 1] rfl)
def f_X8_count (x1 : Int32) (σ : Mem) : Option (Int32 × Mem) := (if x1 < (0 : Int32) then f_X8_count_10 x1 σ else (if x1 ≤ (4 : Int32) then f_X8_count_15 x1 (0 : Int32) σ else f_X8_count_10 x1 σ))
set_option maxHeartbeats 4000000 in
set_option maxRecDepth 100000 in
theorem c_X8_count {l : Launch} {D : va_G} {cA : Nat → ClassId} {ad : Nat → Nat → Nat} {A : Nat → Prop} {o : Nat → Int64} (hD0 : ∀ σ, va_D A (wW cA ad σ o)) (x1 : Int32) (σ : Mem) {r : Int32 × Mem} (h : f_X8_count x1 σ = some r) : Met l yX8_count (wsG yX8_count cX8_count 4 (some .int)) rm_X8_count (va_Pc [.ref (ad 899 0), .int x1] (IW D cA ad o σ)) (Qi D cA ad o A r) 0 0 A := by
  refine metG (by decide) (Nat.le_of_ble_eq_true rfl) hD0 ?_
  intro p e s m args below meth c C ls hh hl
  have C : Cx p s m args meth c cX8_count 4 RX8 (some .int) D cA ad A o := C
  have hl : lv_has ls 4 [(0, .ref (ad 899 0)), (1, .int x1)] := hl
  obtain ⟨⟨hx, hb, hml, hown, hts⟩, hK, hN, hD, hr, hlocks⟩ := id C
  unfold f_X8_count at h
  refine lv_aload_n hx hb dX8_count_0 rfl (lv_at hl 0 rfl) ?_
  refine lv_iload_n hx hb dX8_count_1 rfl (lv_at hl 1 rfl) ?_
  refine lv_if_lt (tgt := 10) hx hb dX8_count_2 (by decide) (fun c1 => ?_) (fun c1 => ?_)
  · rw [if_pos c1] at h
    exact k_X8_count_10 C x1 σ h hh (lv_sub hl [0, 1] rfl)
  · rw [if_neg c1] at h
    refine lv_iload_n hx hb dX8_count_5 rfl (lv_at hl 1 rfl) ?_
    refine lv_iconst (v := (4 : Int32)) hx hb dX8_count_6 (by decide) ?_
    refine lv_icmp_le (tgt := 14) hx hb dX8_count_7 (by decide) (fun c2 => ?_) (fun c2 => ?_)
    · rw [if_pos c2] at h
      refine lv_iconst (v := (0 : Int32)) hx hb dX8_count_14 (by decide) ?_
      exact k_X8_count_15 C x1 (0 : Int32) σ h hh (lv_sub hl [0, 1] rfl)
    · rw [if_neg c2] at h
      exact k_X8_count_10 C x1 σ h hh (lv_sub hl [0, 1] rfl)
