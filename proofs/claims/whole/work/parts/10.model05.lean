abbrev rm_X8_pool : Room := { frames := 1, cells := 0, slots := 0, locals := 20 }
theorem HD_X8_pool : yX8_pool.cls = RX8 ∧ yX8_pool.cls ≠ "java/lang/invoke/MethodHandle" ∧ yX8_pool.cls ≠ "java/lang/invoke/VarHandle" ∧ (parseMethodDescriptor yX8_pool.desc).map (fun d => d.parameters.length) = some 4 := by decide +kernel
def f_X8_pool_49 (x1 : Int32) (x2 : Int32) (x3 : Int32) (x4 : Int32) (xs0 : Int32) (σ : Mem) : Option (Mem) := vl (up σ 800 0 0 xs0) (fun s1 => (if (s1 800 0 0) = (0 : Int32) then gd (vin x1 4) (vl (up s1 802 0 (x1).toNatClampNeg x2) (fun s5 => gd (vin x1 4) (vl (up s5 803 0 (x1).toNatClampNeg x3) (fun s8 => gd (vin x1 4) (vl (up s8 804 0 (x1).toNatClampNeg x4) (fun s11 => some s11)))))) else some s1))
set_option maxHeartbeats 4000000 in
set_option maxRecDepth 100000 in
theorem k_X8_pool_49 {p : Program} {l : Launch} {e : Env} {s : State} {m : MethodId} {args : Array Value} {below : List Frame} {meth : Method} {c : Code} {D : va_G} {cA : Nat → ClassId} {ad : Nat → Nat → Nat} {A : Nat → Prop} {o : Nat → Int64} (C : Cx p s m args meth c cX8_pool 5 RX8 none D cA ad A o) {r : Mem} (x1 : Int32) (x2 : Int32) (x3 : Int32) (x4 : Int32) (xs0 : Int32) (σ : Mem) {H : Heap} {locs : List Loc} (h : f_X8_pool_49 x1 x2 x3 x4 xs0 σ = some r) (hh : HH D cA ad A o s σ H locs) {ls : Array Slot} (hl : lv_has ls 5 [(0, .ref (ad 899 0)), (1, .int x1), (2, .int x2), (3, .int x3), (4, .int x4)]) : W p l e rm_X8_pool s m args below meth c H locs 0 0 (MQ below (Qv D cA ad o A r) args s 0 0 A) (F0 m 49 ls [.int xs0, .ref (ad 899 0)]) := by
  obtain ⟨⟨hx, hb, hml, hown, hts⟩, hK, hN, hD, hr, hlocks⟩ := id C
  unfold f_X8_pool_49 at h
  obtain ⟨s1, e2, h⟩ := vl_e h
  refine pf_8_86 C hh dX8_pool_49 (fun H locs hh => ?_)
  rw [← e2] at hh
  refine lv_aload_n hx hb dX8_pool_52 rfl (lv_at hl 0 rfl) ?_
  refine gf_8_86 C hh dX8_pool_53 ?_
  refine lv_if_ne (tgt := 81) hx hb dX8_pool_56 (by decide) (fun c3 => ?_) (fun c3 => ?_)
  · rw [if_neg c3] at h
    exact r_void C hh h dX8_pool_81
  · rw [if_pos c3] at h
    refine lv_aload_n hx hb dX8_pool_59 rfl (lv_at hl 0 rfl) ?_
    refine gf_8_7 C hh dX8_pool_60 ?_
    refine lv_iload_n hx hb dX8_pool_63 rfl (lv_at hl 1 rfl) ?_
    refine lv_iload_n hx hb dX8_pool_64 rfl (lv_at hl 2 rfl) ?_
    obtain ⟨b4, h⟩ := gd_e h
    obtain ⟨s5, e6, h⟩ := vl_e h
    refine as_802 C hh b4 dX8_pool_65 (fun H locs hh => ?_)
    rw [← e6] at hh
    refine lv_aload_n hx hb dX8_pool_66 rfl (lv_at hl 0 rfl) ?_
    refine gf_8_13 C hh dX8_pool_67 ?_
    refine lv_iload_n hx hb dX8_pool_70 rfl (lv_at hl 1 rfl) ?_
    refine lv_iload_n hx hb dX8_pool_71 rfl (lv_at hl 3 rfl) ?_
    obtain ⟨b7, h⟩ := gd_e h
    obtain ⟨s8, e9, h⟩ := vl_e h
    refine as_803 C hh b7 dX8_pool_72 (fun H locs hh => ?_)
    rw [← e9] at hh
    refine lv_aload_n hx hb dX8_pool_73 rfl (lv_at hl 0 rfl) ?_
    refine gf_8_16 C hh dX8_pool_74 ?_
    refine lv_iload_n hx hb dX8_pool_77 rfl (lv_at hl 1 rfl) ?_
    refine lv_iload hx hb dX8_pool_78 (lv_at hl 4 rfl) ?_
    obtain ⟨b10, h⟩ := gd_e h
    obtain ⟨s11, e12, h⟩ := vl_e h
    refine as_804 C hh b10 dX8_pool_80 (fun H locs hh => ?_)
    rw [← e12] at hh
    exact r_void C hh h dX8_pool_81
def f_X8_pool_44 (x1 : Int32) (x2 : Int32) (x3 : Int32) (x4 : Int32) (σ : Mem) : Option (Mem) := f_X8_pool_49 x1 x2 x3 x4 (2 : Int32) σ
set_option maxHeartbeats 4000000 in
set_option maxRecDepth 100000 in
theorem k_X8_pool_44 {p : Program} {l : Launch} {e : Env} {s : State} {m : MethodId} {args : Array Value} {below : List Frame} {meth : Method} {c : Code} {D : va_G} {cA : Nat → ClassId} {ad : Nat → Nat → Nat} {A : Nat → Prop} {o : Nat → Int64} (C : Cx p s m args meth c cX8_pool 5 RX8 none D cA ad A o) {r : Mem} (x1 : Int32) (x2 : Int32) (x3 : Int32) (x4 : Int32) (σ : Mem) {H : Heap} {locs : List Loc} (h : f_X8_pool_44 x1 x2 x3 x4 σ = some r) (hh : HH D cA ad A o s σ H locs) {ls : Array Slot} (hl : lv_has ls 5 [(0, .ref (ad 899 0)), (1, .int x1), (2, .int x2), (3, .int x3), (4, .int x4)]) : W p l e rm_X8_pool s m args below meth c H locs 0 0 (MQ below (Qv D cA ad o A r) args s 0 0 A) (F0 m 44 ls [.ref (ad 899 0)]) := by
  obtain ⟨⟨hx, hb, hml, hown, hts⟩, hK, hN, hD, hr, hlocks⟩ := id C
  unfold f_X8_pool_44 at h
  refine lv_iconst (v := (2 : Int32)) hx hb dX8_pool_44 (by decide) ?_
  refine lv_goto (tgt := 49) hx hb dX8_pool_45 (by decide) ?_
  exact k_X8_pool_49 C x1 x2 x3 x4 (2 : Int32) σ h hh (lv_sub hl [0, 1, 2, 3, 4] rfl)
def f_X8_pool (x1 : Int32) (x2 : Int32) (x3 : Int32) (x4 : Int32) (σ : Mem) : Option (Mem) := bn (f_X8_isSubnet x1 σ) (fun r3 s2 => (if r3 = (0 : Int32) then f_X8_pool_49 x1 x2 x3 x4 (1 : Int32) s2 else (if x2 < (2 : Int32) then f_X8_pool_44 x1 x2 x3 x4 s2 else (if x3 < x2 then f_X8_pool_44 x1 x2 x3 x4 s2 else (if (250 : Int32) < x3 then f_X8_pool_44 x1 x2 x3 x4 s2 else (if x4 < (8 : Int32) then f_X8_pool_44 x1 x2 x3 x4 s2 else (if x4 ≤ (10000 : Int32) then f_X8_pool_49 x1 x2 x3 x4 (0 : Int32) s2 else f_X8_pool_44 x1 x2 x3 x4 s2)))))))
set_option maxHeartbeats 4000000 in
set_option maxRecDepth 100000 in
theorem c_X8_pool {l : Launch} {D : va_G} {cA : Nat → ClassId} {ad : Nat → Nat → Nat} {A : Nat → Prop} {o : Nat → Int64} (hD0 : ∀ σ, va_D A (wW cA ad σ o)) (x1 : Int32) (x2 : Int32) (x3 : Int32) (x4 : Int32) (σ : Mem) {r : Mem} (h : f_X8_pool x1 x2 x3 x4 σ = some r) : Met l yX8_pool (wsG yX8_pool cX8_pool 5 none) rm_X8_pool (va_Pc [.ref (ad 899 0), .int x1, .int x2, .int x3, .int x4] (IW D cA ad o σ)) (Qv D cA ad o A r) 0 0 A := by
  refine metG (by decide) (Nat.le_of_ble_eq_true rfl) hD0 ?_
  intro p e s m args below meth c C ls hh hl
  have C : Cx p s m args meth c cX8_pool 5 RX8 none D cA ad A o := C
  have hl : lv_has ls 5 [(0, .ref (ad 899 0)), (1, .int x1), (2, .int x2), (3, .int x3), (4, .int x4)] := hl
  obtain ⟨⟨hx, hb, hml, hown, hts⟩, hK, hN, hD, hr, hlocks⟩ := id C
  unfold f_X8_pool at h
  refine lv_aload_n hx hb dX8_pool_0 rfl (lv_at hl 0 rfl) ?_
  refine lv_iload_n hx hb dX8_pool_1 rfl (lv_at hl 1 rfl) ?_
  obtain ⟨r3, s2, e1, h⟩ := bn_e h
  refine c_int hh (srun (rest := [.ref (ad 899 0)]) C hh (c_X8_isSubnet C.2.2.2.1 x1 σ e1) LM_8_189 ST_X8_isSubnet IN_8 CD_X8_isSubnet HD_X8_isSubnet ⟨rfl, rfl, Nat.le_of_ble_eq_true rfl, Nat.le_of_ble_eq_true rfl⟩ rfl hl.1 rfl (Nat.le_of_ble_eq_true rfl) dX8_pool_2 ⟨Nat.zero_le _, Nat.zero_le _⟩) (fun H locs hh => ?_)
  refine lv_if_ne (tgt := 12) hx hb dX8_pool_5 (by decide) (fun c4 => ?_) (fun c4 => ?_)
  · rw [if_neg c4] at h
    refine lv_iload_n hx hb dX8_pool_12 rfl (lv_at hl 2 rfl) ?_
    refine lv_iconst (v := (2 : Int32)) hx hb dX8_pool_13 (by decide) ?_
    refine lv_icmp_lt (tgt := 44) hx hb dX8_pool_14 (by decide) (fun c5 => ?_) (fun c5 => ?_)
    · rw [if_pos c5] at h
      exact k_X8_pool_44 C x1 x2 x3 x4 s2 h hh (lv_sub hl [0, 1, 2, 3, 4] rfl)
    · rw [if_neg c5] at h
      refine lv_iload_n hx hb dX8_pool_17 rfl (lv_at hl 2 rfl) ?_
      refine lv_iload_n hx hb dX8_pool_18 rfl (lv_at hl 3 rfl) ?_
      refine lv_icmp_gt (tgt := 44) hx hb dX8_pool_19 (by decide) (fun c6 => ?_) (fun c6 => ?_)
      · rw [if_pos c6] at h
        exact k_X8_pool_44 C x1 x2 x3 x4 s2 h hh (lv_sub hl [0, 1, 2, 3, 4] rfl)
      · rw [if_neg c6] at h
        refine lv_iload_n hx hb dX8_pool_22 rfl (lv_at hl 3 rfl) ?_
        refine lv_sipush (v := (250 : Int32)) hx hb dX8_pool_23 (by decide) ?_
        refine lv_icmp_gt (tgt := 44) hx hb dX8_pool_26 (by decide) (fun c7 => ?_) (fun c7 => ?_)
        · rw [if_pos c7] at h
          exact k_X8_pool_44 C x1 x2 x3 x4 s2 h hh (lv_sub hl [0, 1, 2, 3, 4] rfl)
        · rw [if_neg c7] at h
          refine lv_iload hx hb dX8_pool_29 (lv_at hl 4 rfl) ?_
          refine lv_bipush (v := (8 : Int32)) hx hb dX8_pool_31 (by decide) ?_
          refine lv_icmp_lt (tgt := 44) hx hb dX8_pool_33 (by decide) (fun c8 => ?_) (fun c8 => ?_)
          · rw [if_pos c8] at h
            exact k_X8_pool_44 C x1 x2 x3 x4 s2 h hh (lv_sub hl [0, 1, 2, 3, 4] rfl)
          · rw [if_neg c8] at h
            refine lv_iload hx hb dX8_pool_36 (lv_at hl 4 rfl) ?_
            refine lv_sipush (v := (10000 : Int32)) hx hb dX8_pool_38 (by decide) ?_
            refine lv_icmp_le (tgt := 48) hx hb dX8_pool_41 (by decide) (fun c9 => ?_) (fun c9 => ?_)
            · rw [if_pos c9] at h
              refine lv_iconst (v := (0 : Int32)) hx hb dX8_pool_48 (by decide) ?_
              exact k_X8_pool_49 C x1 x2 x3 x4 (0 : Int32) s2 h hh (lv_sub hl [0, 1, 2, 3, 4] rfl)
            · rw [if_neg c9] at h
              exact k_X8_pool_44 C x1 x2 x3 x4 s2 h hh (lv_sub hl [0, 1, 2, 3, 4] rfl)
  · rw [if_pos c4] at h
    refine lv_iconst (v := (1 : Int32)) hx hb dX8_pool_8 (by decide) ?_
    refine lv_goto (tgt := 49) hx hb dX8_pool_9 (by decide) ?_
    exact k_X8_pool_49 C x1 x2 x3 x4 (1 : Int32) s2 h hh (lv_sub hl [0, 1, 2, 3, 4] rfl)
abbrev rm_X8_join : Room := { frames := 5, cells := 0, slots := 0, locals := 114 }
theorem HD_X8_join : yX8_join.cls = RX8 ∧ yX8_join.cls ≠ "java/lang/invoke/MethodHandle" ∧ yX8_join.cls ≠ "java/lang/invoke/VarHandle" ∧ (parseMethodDescriptor yX8_join.desc).map (fun d => d.parameters.length) = some 2 := by decide +kernel
def f_X8_join_96 (x1 : Int32) (σ : Mem) : Option (Mem) := bv (f_X8_begin x1 σ) (fun s2 => some s2)
set_option maxHeartbeats 4000000 in
set_option maxRecDepth 100000 in
theorem k_X8_join_96 {p : Program} {l : Launch} {e : Env} {s : State} {m : MethodId} {args : Array Value} {below : List Frame} {meth : Method} {c : Code} {D : va_G} {cA : Nat → ClassId} {ad : Nat → Nat → Nat} {A : Nat → Prop} {o : Nat → Int64} (C : Cx p s m args meth c cX8_join 3 RX8 none D cA ad A o) {r : Mem} (x1 : Int32) (σ : Mem) {H : Heap} {locs : List Loc} (h : f_X8_join_96 x1 σ = some r) (hh : HH D cA ad A o s σ H locs) {ls : Array Slot} (hl : lv_has ls 3 [(0, .ref (ad 899 0)), (1, .int x1)]) : W p l e rm_X8_join s m args below meth c H locs 0 0 (MQ below (Qv D cA ad o A r) args s 0 0 A) (F0 m 96 ls []) := by
  obtain ⟨⟨hx, hb, hml, hown, hts⟩, hK, hN, hD, hr, hlocks⟩ := id C
  unfold f_X8_join_96 at h
  refine lv_aload_n hx hb dX8_join_96 rfl (lv_at hl 0 rfl) ?_
  refine lv_iload_n hx hb dX8_join_97 rfl (lv_at hl 1 rfl) ?_
  obtain ⟨s2, e1, h⟩ := bv_e h
  refine c_void hh (vrun (rest := []) C hh (c_X8_begin C.2.2.2.1 x1 σ e1) LM_8_222 IM_X8_begin SL_X8_begin IN_8 CD_X8_begin HD_X8_begin ⟨rfl, rfl, Nat.le_of_ble_eq_true rfl, Nat.le_of_ble_eq_true rfl⟩ (rv_8 C hh) rfl hl.1 rfl (Nat.le_of_ble_eq_true rfl) dX8_join_98 ⟨Nat.zero_le _, Nat.zero_le _⟩) (fun H locs hh => ?_)
  exact r_void C hh h dX8_join_101
def f_X8_join_33 (x1 : Int32) (x2 : Int32) (xs0 : Int32) (σ : Mem) : Option (Mem) := vl (up σ 800 0 0 xs0) (fun s1 => (if (s1 800 0 0) ≤ (0 : Int32) then gd (vin x1 12) (vl (up s1 813 0 (x1).toNatClampNeg x2) (fun s5 => gd (vin x1 12) ((if (s5 814 0 (x1).toNatClampNeg) = (0 : Int32) then f_X8_join_96 x1 s5 else gd (vin x1 12) ((if (s5 815 0 (x1).toNatClampNeg) ≤ (s5 801 0 0) then f_X8_join_96 x1 s5 else gd (vin x1 12) (vl (up s5 812 0 (x1).toNatClampNeg (6 : Int32)) (fun s12 => gd (vin x1 12) (vl (up s12 820 0 (x1).toNatClampNeg (1 : Int32)) (fun s15 => bv (f_X8_sayReboot x1 s15) (fun s18 => some s18))))))))))) else some s1))
set_option maxHeartbeats 4000000 in
set_option maxRecDepth 100000 in
theorem k_X8_join_33 {p : Program} {l : Launch} {e : Env} {s : State} {m : MethodId} {args : Array Value} {below : List Frame} {meth : Method} {c : Code} {D : va_G} {cA : Nat → ClassId} {ad : Nat → Nat → Nat} {A : Nat → Prop} {o : Nat → Int64} (C : Cx p s m args meth c cX8_join 3 RX8 none D cA ad A o) {r : Mem} (x1 : Int32) (x2 : Int32) (xs0 : Int32) (σ : Mem) {H : Heap} {locs : List Loc} (h : f_X8_join_33 x1 x2 xs0 σ = some r) (hh : HH D cA ad A o s σ H locs) {ls : Array Slot} (hl : lv_has ls 3 [(0, .ref (ad 899 0)), (1, .int x1), (2, .int x2)]) : W p l e rm_X8_join s m args below meth c H locs 0 0 (MQ below (Qv D cA ad o A r) args s 0 0 A) (F0 m 33 ls [.int xs0, .ref (ad 899 0)]) := by
  obtain ⟨⟨hx, hb, hml, hown, hts⟩, hK, hN, hD, hr, hlocks⟩ := id C
  unfold f_X8_join_33 at h
  obtain ⟨s1, e2, h⟩ := vl_e h
  refine pf_8_86 C hh dX8_join_33 (fun H locs hh => ?_)
  rw [← e2] at hh
  refine lv_aload_n hx hb dX8_join_36 rfl (lv_at hl 0 rfl) ?_
  refine gf_8_86 C hh dX8_join_37 ?_
  refine lv_if_le (tgt := 44) hx hb dX8_join_40 (by decide) (fun c3 => ?_) (fun c3 => ?_)
  · rw [if_pos c3] at h
    refine lv_aload_n hx hb dX8_join_44 rfl (lv_at hl 0 rfl) ?_
    refine gf_8_41 C hh dX8_join_45 ?_
    refine lv_iload_n hx hb dX8_join_48 rfl (lv_at hl 1 rfl) ?_
    refine lv_iload_n hx hb dX8_join_49 rfl (lv_at hl 2 rfl) ?_
    obtain ⟨b4, h⟩ := gd_e h
    obtain ⟨s5, e6, h⟩ := vl_e h
    refine as_813 C hh b4 dX8_join_50 (fun H locs hh => ?_)
    rw [← e6] at hh
    refine lv_aload_n hx hb dX8_join_51 rfl (lv_at hl 0 rfl) ?_
    refine gf_8_44 C hh dX8_join_52 ?_
    refine lv_iload_n hx hb dX8_join_55 rfl (lv_at hl 1 rfl) ?_
    obtain ⟨b7, h⟩ := gd_e h
    refine al_814 C hh b7 dX8_join_56 ?_
    refine lv_if_eq (tgt := 96) hx hb dX8_join_57 (by decide) (fun c8 => ?_) (fun c8 => ?_)
    · rw [if_pos c8] at h
      exact k_X8_join_96 C x1 s5 h hh (lv_sub hl [0, 1] rfl)
    · rw [if_neg c8] at h
      refine lv_aload_n hx hb dX8_join_60 rfl (lv_at hl 0 rfl) ?_
      refine gf_8_47 C hh dX8_join_61 ?_
      refine lv_iload_n hx hb dX8_join_64 rfl (lv_at hl 1 rfl) ?_
      obtain ⟨b9, h⟩ := gd_e h
      refine al_815 C hh b9 dX8_join_65 ?_
      refine lv_aload_n hx hb dX8_join_66 rfl (lv_at hl 0 rfl) ?_
      refine gf_8_130 C hh dX8_join_67 ?_
      refine lv_icmp_le (tgt := 96) hx hb dX8_join_70 (by decide) (fun c10 => ?_) (fun c10 => ?_)
      · rw [if_pos c10] at h
        exact k_X8_join_96 C x1 s5 h hh (lv_sub hl [0, 1] rfl)
      · rw [if_neg c10] at h
        refine lv_aload_n hx hb dX8_join_73 rfl (lv_at hl 0 rfl) ?_
        refine gf_8_38 C hh dX8_join_74 ?_
        refine lv_iload_n hx hb dX8_join_77 rfl (lv_at hl 1 rfl) ?_
        refine lv_bipush (v := (6 : Int32)) hx hb dX8_join_78 (by decide) ?_
        obtain ⟨b11, h⟩ := gd_e h
        obtain ⟨s12, e13, h⟩ := vl_e h
        refine as_812 C hh b11 dX8_join_80 (fun H locs hh => ?_)
        rw [← e13] at hh
        refine lv_aload_n hx hb dX8_join_81 rfl (lv_at hl 0 rfl) ?_
        refine gf_8_62 C hh dX8_join_82 ?_
        refine lv_iload_n hx hb dX8_join_85 rfl (lv_at hl 1 rfl) ?_
        refine lv_iconst (v := (1 : Int32)) hx hb dX8_join_86 (by decide) ?_
        obtain ⟨b14, h⟩ := gd_e h
        obtain ⟨s15, e16, h⟩ := vl_e h
        refine as_820 C hh b14 dX8_join_87 (fun H locs hh => ?_)
        rw [← e16] at hh
        refine lv_aload_n hx hb dX8_join_88 rfl (lv_at hl 0 rfl) ?_
        refine lv_iload_n hx hb dX8_join_89 rfl (lv_at hl 1 rfl) ?_
        obtain ⟨s18, e17, h⟩ := bv_e h
        refine c_void hh (vrun (rest := []) C hh (c_X8_sayReboot C.2.2.2.1 x1 s15 e17) LM_8_225 IM_X8_sayReboot SL_X8_sayReboot IN_8 CD_X8_sayReboot HD_X8_sayReboot ⟨rfl, rfl, Nat.le_of_ble_eq_true rfl, Nat.le_of_ble_eq_true rfl⟩ (rv_8 C hh) rfl hl.1 rfl (Nat.le_of_ble_eq_true rfl) dX8_join_90 ⟨Nat.zero_le _, Nat.zero_le _⟩) (fun H locs hh => ?_)
        refine lv_goto (tgt := 101) hx hb dX8_join_93 (by decide) ?_
        exact r_void C hh h dX8_join_101
  · rw [if_neg c3] at h
    exact r_void C hh h dX8_join_43
def f_X8_join_15 (x1 : Int32) (x2 : Int32) (σ : Mem) : Option (Mem) := f_X8_join_33 x1 x2 (1 : Int32) σ
set_option maxHeartbeats 4000000 in
set_option maxRecDepth 100000 in
theorem k_X8_join_15 {p : Program} {l : Launch} {e : Env} {s : State} {m : MethodId} {args : Array Value} {below : List Frame} {meth : Method} {c : Code} {D : va_G} {cA : Nat → ClassId} {ad : Nat → Nat → Nat} {A : Nat → Prop} {o : Nat → Int64} (C : Cx p s m args meth c cX8_join 3 RX8 none D cA ad A o) {r : Mem} (x1 : Int32) (x2 : Int32) (σ : Mem) {H : Heap} {locs : List Loc} (h : f_X8_join_15 x1 x2 σ = some r) (hh : HH D cA ad A o s σ H locs) {ls : Array Slot} (hl : lv_has ls 3 [(0, .ref (ad 899 0)), (1, .int x1), (2, .int x2)]) : W p l e rm_X8_join s m args below meth c H locs 0 0 (MQ below (Qv D cA ad o A r) args s 0 0 A) (F0 m 15 ls [.ref (ad 899 0)]) := by
  obtain ⟨⟨hx, hb, hml, hown, hts⟩, hK, hN, hD, hr, hlocks⟩ := id C
  unfold f_X8_join_15 at h
  refine lv_iconst (v := (1 : Int32)) hx hb dX8_join_15 (by decide) ?_
  refine lv_goto (tgt := 33) hx hb dX8_join_16 (by decide) ?_
  exact k_X8_join_33 C x1 x2 (1 : Int32) σ h hh (lv_sub hl [0, 1, 2] rfl)
def f_X8_join (x1 : Int32) (x2 : Int32) (σ : Mem) : Option (Mem) := bn (f_X8_isClient x1 σ) (fun r3 s2 => (if r3 = (0 : Int32) then f_X8_join_15 x1 x2 s2 else bn (f_X8_isSubnet x2 s2) (fun r7 s6 => (if r7 = (0 : Int32) then f_X8_join_15 x1 x2 s6 else gd (vin x1 12) ((if (s6 812 0 (x1).toNatClampNeg) = (0 : Int32) then f_X8_join_33 x1 x2 (0 : Int32) s6 else f_X8_join_33 x1 x2 (2 : Int32) s6))))))
set_option maxHeartbeats 4000000 in
set_option maxRecDepth 100000 in
theorem c_X8_join {l : Launch} {D : va_G} {cA : Nat → ClassId} {ad : Nat → Nat → Nat} {A : Nat → Prop} {o : Nat → Int64} (hD0 : ∀ σ, va_D A (wW cA ad σ o)) (x1 : Int32) (x2 : Int32) (σ : Mem) {r : Mem} (h : f_X8_join x1 x2 σ = some r) : Met l yX8_join (wsG yX8_join cX8_join 3 none) rm_X8_join (va_Pc [.ref (ad 899 0), .int x1, .int x2] (IW D cA ad o σ)) (Qv D cA ad o A r) 0 0 A := by
  refine metG (by decide) (Nat.le_of_ble_eq_true rfl) hD0 ?_
  intro p e s m args below meth c C ls hh hl
  have C : Cx p s m args meth c cX8_join 3 RX8 none D cA ad A o := C
  have hl : lv_has ls 3 [(0, .ref (ad 899 0)), (1, .int x1), (2, .int x2)] := hl
  obtain ⟨⟨hx, hb, hml, hown, hts⟩, hK, hN, hD, hr, hlocks⟩ := id C
  unfold f_X8_join at h
  refine lv_aload_n hx hb dX8_join_0 rfl (lv_at hl 0 rfl) ?_
  refine lv_iload_n hx hb dX8_join_1 rfl (lv_at hl 1 rfl) ?_
  obtain ⟨r3, s2, e1, h⟩ := bn_e h
  refine c_int hh (srun (rest := [.ref (ad 899 0)]) C hh (c_X8_isClient C.2.2.2.1 x1 σ e1) LM_8_90 ST_X8_isClient IN_8 CD_X8_isClient HD_X8_isClient ⟨rfl, rfl, Nat.le_of_ble_eq_true rfl, Nat.le_of_ble_eq_true rfl⟩ rfl hl.1 rfl (Nat.le_of_ble_eq_true rfl) dX8_join_2 ⟨Nat.zero_le _, Nat.zero_le _⟩) (fun H locs hh => ?_)
  refine lv_if_eq (tgt := 15) hx hb dX8_join_5 (by decide) (fun c4 => ?_) (fun c4 => ?_)
  · rw [if_pos c4] at h
    exact k_X8_join_15 C x1 x2 s2 h hh (lv_sub hl [0, 1, 2] rfl)
  · rw [if_neg c4] at h
    refine lv_iload_n hx hb dX8_join_8 rfl (lv_at hl 2 rfl) ?_
    obtain ⟨r7, s6, e5, h⟩ := bn_e h
    refine c_int hh (srun (rest := [.ref (ad 899 0)]) C hh (c_X8_isSubnet C.2.2.2.1 x2 s2 e5) LM_8_189 ST_X8_isSubnet IN_8 CD_X8_isSubnet HD_X8_isSubnet ⟨rfl, rfl, Nat.le_of_ble_eq_true rfl, Nat.le_of_ble_eq_true rfl⟩ rfl hl.1 rfl (Nat.le_of_ble_eq_true rfl) dX8_join_9 ⟨Nat.zero_le _, Nat.zero_le _⟩) (fun H locs hh => ?_)
    refine lv_if_ne (tgt := 19) hx hb dX8_join_12 (by decide) (fun c8 => ?_) (fun c8 => ?_)
    · rw [if_neg c8] at h
      refine lv_aload_n hx hb dX8_join_19 rfl (lv_at hl 0 rfl) ?_
      refine gf_8_38 C hh dX8_join_20 ?_
      refine lv_iload_n hx hb dX8_join_23 rfl (lv_at hl 1 rfl) ?_
      obtain ⟨b9, h⟩ := gd_e h
      refine al_812 C hh b9 dX8_join_24 ?_
      refine lv_if_eq (tgt := 32) hx hb dX8_join_25 (by decide) (fun c10 => ?_) (fun c10 => ?_)
      · rw [if_pos c10] at h
        refine lv_iconst (v := (0 : Int32)) hx hb dX8_join_32 (by decide) ?_
        exact k_X8_join_33 C x1 x2 (0 : Int32) s6 h hh (lv_sub hl [0, 1, 2] rfl)
      · rw [if_neg c10] at h
        refine lv_iconst (v := (2 : Int32)) hx hb dX8_join_28 (by decide) ?_
        refine lv_goto (tgt := 33) hx hb dX8_join_29 (by decide) ?_
        exact k_X8_join_33 C x1 x2 (2 : Int32) s6 h hh (lv_sub hl [0, 1, 2] rfl)
    · rw [if_pos c8] at h
      exact k_X8_join_15 C x1 x2 s6 h hh (lv_sub hl [0, 1, 2] rfl)
abbrev rm_X8_off : Room := { frames := 1, cells := 0, slots := 0, locals := 20 }
theorem HD_X8_off : yX8_off.cls = RX8 ∧ yX8_off.cls ≠ "java/lang/invoke/MethodHandle" ∧ yX8_off.cls ≠ "java/lang/invoke/VarHandle" ∧ (parseMethodDescriptor yX8_off.desc).map (fun d => d.parameters.length) = some 1 := by decide +kernel
def f_X8_off_26 (x1 : Int32) (xs0 : Int32) (σ : Mem) : Option (Mem) := vl (up σ 800 0 0 xs0) (fun s1 => (if (s1 800 0 0) = (0 : Int32) then gd (vin x1 12) (vl (up s1 812 0 (x1).toNatClampNeg (0 : Int32)) (fun s5 => some s5)) else some s1))
set_option maxHeartbeats 4000000 in
set_option maxRecDepth 100000 in
theorem k_X8_off_26 {p : Program} {l : Launch} {e : Env} {s : State} {m : MethodId} {args : Array Value} {below : List Frame} {meth : Method} {c : Code} {D : va_G} {cA : Nat → ClassId} {ad : Nat → Nat → Nat} {A : Nat → Prop} {o : Nat → Int64} (C : Cx p s m args meth c cX8_off 2 RX8 none D cA ad A o) {r : Mem} (x1 : Int32) (xs0 : Int32) (σ : Mem) {H : Heap} {locs : List Loc} (h : f_X8_off_26 x1 xs0 σ = some r) (hh : HH D cA ad A o s σ H locs) {ls : Array Slot} (hl : lv_has ls 2 [(0, .ref (ad 899 0)), (1, .int x1)]) : W p l e rm_X8_off s m args below meth c H locs 0 0 (MQ below (Qv D cA ad o A r) args s 0 0 A) (F0 m 26 ls [.int xs0, .ref (ad 899 0)]) := by
  obtain ⟨⟨hx, hb, hml, hown, hts⟩, hK, hN, hD, hr, hlocks⟩ := id C
  unfold f_X8_off_26 at h
  obtain ⟨s1, e2, h⟩ := vl_e h
  refine pf_8_86 C hh dX8_off_26 (fun H locs hh => ?_)
  rw [← e2] at hh
  refine lv_aload_n hx hb dX8_off_29 rfl (lv_at hl 0 rfl) ?_
  refine gf_8_86 C hh dX8_off_30 ?_
  refine lv_if_ne (tgt := 43) hx hb dX8_off_33 (by decide) (fun c3 => ?_) (fun c3 => ?_)
  · rw [if_neg c3] at h
    exact r_void C hh h dX8_off_43
  · rw [if_pos c3] at h
    refine lv_aload_n hx hb dX8_off_36 rfl (lv_at hl 0 rfl) ?_
    refine gf_8_38 C hh dX8_off_37 ?_
    refine lv_iload_n hx hb dX8_off_40 rfl (lv_at hl 1 rfl) ?_
    refine lv_iconst (v := (0 : Int32)) hx hb dX8_off_41 (by decide) ?_
    obtain ⟨b4, h⟩ := gd_e h
    obtain ⟨s5, e6, h⟩ := vl_e h
    refine as_812 C hh b4 dX8_off_42 (fun H locs hh => ?_)
    rw [← e6] at hh
    exact r_void C hh h dX8_off_43
def f_X8_off (x1 : Int32) (σ : Mem) : Option (Mem) := bn (f_X8_isClient x1 σ) (fun r3 s2 => (if r3 = (0 : Int32) then f_X8_off_26 x1 (1 : Int32) s2 else gd (vin x1 12) ((if (s2 812 0 (x1).toNatClampNeg) = (0 : Int32) then f_X8_off_26 x1 (2 : Int32) s2 else f_X8_off_26 x1 (0 : Int32) s2))))
set_option maxHeartbeats 4000000 in
set_option maxRecDepth 100000 in
theorem c_X8_off {l : Launch} {D : va_G} {cA : Nat → ClassId} {ad : Nat → Nat → Nat} {A : Nat → Prop} {o : Nat → Int64} (hD0 : ∀ σ, va_D A (wW cA ad σ o)) (x1 : Int32) (σ : Mem) {r : Mem} (h : f_X8_off x1 σ = some r) : Met l yX8_off (wsG yX8_off cX8_off 2 none) rm_X8_off (va_Pc [.ref (ad 899 0), .int x1] (IW D cA ad o σ)) (Qv D cA ad o A r) 0 0 A := by
  refine metG (by decide) (Nat.le_of_ble_eq_true rfl) hD0 ?_
  intro p e s m args below meth c C ls hh hl
  have C : Cx p s m args meth c cX8_off 2 RX8 none D cA ad A o := C
  have hl : lv_has ls 2 [(0, .ref (ad 899 0)), (1, .int x1)] := hl
  obtain ⟨⟨hx, hb, hml, hown, hts⟩, hK, hN, hD, hr, hlocks⟩ := id C
  unfold f_X8_off at h
  refine lv_aload_n hx hb dX8_off_0 rfl (lv_at hl 0 rfl) ?_
  refine lv_iload_n hx hb dX8_off_1 rfl (lv_at hl 1 rfl) ?_
  obtain ⟨r3, s2, e1, h⟩ := bn_e h
  refine c_int hh (srun (rest := [.ref (ad 899 0)]) C hh (c_X8_isClient C.2.2.2.1 x1 σ e1) LM_8_90 ST_X8_isClient IN_8 CD_X8_isClient HD_X8_isClient ⟨rfl, rfl, Nat.le_of_ble_eq_true rfl, Nat.le_of_ble_eq_true rfl⟩ rfl hl.1 rfl (Nat.le_of_ble_eq_true rfl) dX8_off_2 ⟨Nat.zero_le _, Nat.zero_le _⟩) (fun H locs hh => ?_)
  refine lv_if_ne (tgt := 12) hx hb dX8_off_5 (by decide) (fun c4 => ?_) (fun c4 => ?_)
  · rw [if_neg c4] at h
    refine lv_aload_n hx hb dX8_off_12 rfl (lv_at hl 0 rfl) ?_
    refine gf_8_38 C hh dX8_off_13 ?_
    refine lv_iload_n hx hb dX8_off_16 rfl (lv_at hl 1 rfl) ?_
    obtain ⟨b5, h⟩ := gd_e h
    refine al_812 C hh b5 dX8_off_17 ?_
    refine lv_if_ne (tgt := 25) hx hb dX8_off_18 (by decide) (fun c6 => ?_) (fun c6 => ?_)
    · rw [if_neg c6] at h
      refine lv_iconst (v := (0 : Int32)) hx hb dX8_off_25 (by decide) ?_
      exact k_X8_off_26 C x1 (0 : Int32) s2 h hh (lv_sub hl [0, 1] rfl)
    · rw [if_pos c6] at h
      refine lv_iconst (v := (2 : Int32)) hx hb dX8_off_21 (by decide) ?_
      refine lv_goto (tgt := 26) hx hb dX8_off_22 (by decide) ?_
      exact k_X8_off_26 C x1 (2 : Int32) s2 h hh (lv_sub hl [0, 1] rfl)
  · rw [if_pos c4] at h
    refine lv_iconst (v := (1 : Int32)) hx hb dX8_off_8 (by decide) ?_
    refine lv_goto (tgt := 26) hx hb dX8_off_9 (by decide) ?_
    exact k_X8_off_26 C x1 (1 : Int32) s2 h hh (lv_sub hl [0, 1] rfl)
abbrev rm_X8_usesAddress : Room := { frames := 0, cells := 0, slots := 0, locals := 0 }
theorem HD_X8_usesAddress : yX8_usesAddress.cls = RX8 ∧ yX8_usesAddress.cls ≠ "java/lang/invoke/MethodHandle" ∧ yX8_usesAddress.cls ≠ "java/lang/invoke/VarHandle" ∧ (parseMethodDescriptor yX8_usesAddress.desc).map (fun d => d.parameters.length) = some 1 := by decide +kernel
def f_X8_usesAddress (x1 : Int32) (σ : Mem) : Option (Int32 × Mem) := gd (vin x1 12) ((if (σ 812 0 (x1).toNatClampNeg) < (3 : Int32) then some ((0 : Int32), σ) else gd (vin x1 12) ((if (5 : Int32) < (σ 812 0 (x1).toNatClampNeg) then some ((0 : Int32), σ) else some ((1 : Int32), σ)))))
set_option maxHeartbeats 4000000 in
set_option maxRecDepth 100000 in
theorem c_X8_usesAddress {l : Launch} {D : va_G} {cA : Nat → ClassId} {ad : Nat → Nat → Nat} {A : Nat → Prop} {o : Nat → Int64} (hD0 : ∀ σ, va_D A (wW cA ad σ o)) (x1 : Int32) (σ : Mem) {r : Int32 × Mem} (h : f_X8_usesAddress x1 σ = some r) : Met l yX8_usesAddress (wsG yX8_usesAddress cX8_usesAddress 2 (some .boolean)) rm_X8_usesAddress (va_Pc [.ref (ad 899 0), .int x1] (IW D cA ad o σ)) (Qi D cA ad o A r) 0 0 A := by
  refine metG (by decide) (Nat.le_of_ble_eq_true rfl) hD0 ?_
  intro p e s m args below meth c C ls hh hl
  have C : Cx p s m args meth c cX8_usesAddress 2 RX8 (some .boolean) D cA ad A o := C
  have hl : lv_has ls 2 [(0, .ref (ad 899 0)), (1, .int x1)] := hl
  obtain ⟨⟨hx, hb, hml, hown, hts⟩, hK, hN, hD, hr, hlocks⟩ := id C
  unfold f_X8_usesAddress at h
  refine lv_aload_n hx hb dX8_usesAddress_0 rfl (lv_at hl 0 rfl) ?_
  refine gf_8_38 C hh dX8_usesAddress_1 ?_
  refine lv_iload_n hx hb dX8_usesAddress_4 rfl (lv_at hl 1 rfl) ?_
  obtain ⟨b1, h⟩ := gd_e h
  refine al_812 C hh b1 dX8_usesAddress_5 ?_
  refine lv_iconst (v := (3 : Int32)) hx hb dX8_usesAddress_6 (by decide) ?_
  refine lv_icmp_lt (tgt := 24) hx hb dX8_usesAddress_7 (by decide) (fun c2 => ?_) (fun c2 => ?_)
  · rw [if_pos c2] at h
    refine lv_iconst (v := (0 : Int32)) hx hb dX8_usesAddress_24 (by decide) ?_
    exact r_bool C hh (by decide) h dX8_usesAddress_25
  · rw [if_neg c2] at h
    refine lv_aload_n hx hb dX8_usesAddress_10 rfl (lv_at hl 0 rfl) ?_
    refine gf_8_38 C hh dX8_usesAddress_11 ?_
    refine lv_iload_n hx hb dX8_usesAddress_14 rfl (lv_at hl 1 rfl) ?_
    obtain ⟨b3, h⟩ := gd_e h
    refine al_812 C hh b3 dX8_usesAddress_15 ?_
    refine lv_iconst (v := (5 : Int32)) hx hb dX8_usesAddress_16 (by decide) ?_
    refine lv_icmp_gt (tgt := 24) hx hb dX8_usesAddress_17 (by decide) (fun c4 => ?_) (fun c4 => ?_)
    · rw [if_pos c4] at h
      refine lv_iconst (v := (0 : Int32)) hx hb dX8_usesAddress_24 (by decide) ?_
      exact r_bool C hh (by decide) h dX8_usesAddress_25
    · rw [if_neg c4] at h
      refine lv_iconst (v := (1 : Int32)) hx hb dX8_usesAddress_20 (by decide) ?_
      refine lv_goto (tgt := 25) hx hb dX8_usesAddress_21 (by decide) ?_
      exact r_bool C hh (by decide) h dX8_usesAddress_25
abbrev rm_X8_leave : Room := { frames := 3, cells := 0, slots := 0, locals := 72 }
theorem HD_X8_leave : yX8_leave.cls = RX8 ∧ yX8_leave.cls ≠ "java/lang/invoke/MethodHandle" ∧ yX8_leave.cls ≠ "java/lang/invoke/VarHandle" ∧ (parseMethodDescriptor yX8_leave.desc).map (fun d => d.parameters.length) = some 1 := by decide +kernel
def f_X8_leave_68 (x1 : Int32) (σ : Mem) : Option (Mem) := bv (f_X8_loseAddress x1 σ) (fun s2 => gd (vin x1 12) (vl (up s2 812 0 (x1).toNatClampNeg (0 : Int32)) (fun s4 => some s4)))
set_option maxHeartbeats 4000000 in
set_option maxRecDepth 100000 in
theorem k_X8_leave_68 {p : Program} {l : Launch} {e : Env} {s : State} {m : MethodId} {args : Array Value} {below : List Frame} {meth : Method} {c : Code} {D : va_G} {cA : Nat → ClassId} {ad : Nat → Nat → Nat} {A : Nat → Prop} {o : Nat → Int64} (C : Cx p s m args meth c cX8_leave 2 RX8 none D cA ad A o) {r : Mem} (x1 : Int32) (σ : Mem) {H : Heap} {locs : List Loc} (h : f_X8_leave_68 x1 σ = some r) (hh : HH D cA ad A o s σ H locs) {ls : Array Slot} (hl : lv_has ls 2 [(0, .ref (ad 899 0)), (1, .int x1)]) : W p l e rm_X8_leave s m args below meth c H locs 0 0 (MQ below (Qv D cA ad o A r) args s 0 0 A) (F0 m 68 ls []) := by
  obtain ⟨⟨hx, hb, hml, hown, hts⟩, hK, hN, hD, hr, hlocks⟩ := id C
  unfold f_X8_leave_68 at h
  refine lv_aload_n hx hb dX8_leave_68 rfl (lv_at hl 0 rfl) ?_
  refine lv_iload_n hx hb dX8_leave_69 rfl (lv_at hl 1 rfl) ?_
  obtain ⟨s2, e1, h⟩ := bv_e h
  refine c_void hh (vrun (rest := []) C hh (c_X8_loseAddress C.2.2.2.1 x1 σ e1) LM_8_207 IM_X8_loseAddress SL_X8_loseAddress IN_8 CD_X8_loseAddress HD_X8_loseAddress ⟨rfl, rfl, Nat.le_of_ble_eq_true rfl, Nat.le_of_ble_eq_true rfl⟩ (rv_8 C hh) rfl hl.1 rfl (Nat.le_of_ble_eq_true rfl) dX8_leave_70 ⟨Nat.zero_le _, Nat.zero_le _⟩) (fun H locs hh => ?_)
  refine lv_aload_n hx hb dX8_leave_73 rfl (lv_at hl 0 rfl) ?_
  refine gf_8_38 C hh dX8_leave_74 ?_
  refine lv_iload_n hx hb dX8_leave_77 rfl (lv_at hl 1 rfl) ?_
  refine lv_iconst (v := (0 : Int32)) hx hb dX8_leave_78 (by decide) ?_
  obtain ⟨b3, h⟩ := gd_e h
  obtain ⟨s4, e5, h⟩ := vl_e h
  refine as_812 C hh b3 dX8_leave_79 (fun H locs hh => ?_)
  rw [← e5] at hh
  exact r_void C hh h dX8_leave_80
def f_X8_leave_26 (x1 : Int32) (xs0 : Int32) (σ : Mem) : Option (Mem) := vl (up σ 800 0 0 xs0) (fun s1 => (if (s1 800 0 0) ≤ (0 : Int32) then bn (f_X8_usesAddress x1 s1) (fun r6 s5 => (if r6 = (0 : Int32) then f_X8_leave_68 x1 s5 else gd (vin x1 12) (bv (f_X8_say x1 (7 : Int32) (s5 814 0 (x1).toNatClampNeg) s5) (fun s10 => bv (f_X8_finish s10) (fun s12 => bv (f_X8_send (16 : Int32) s12) (fun s14 => f_X8_leave_68 x1 s14)))))) else some s1))
set_option maxHeartbeats 4000000 in
set_option maxRecDepth 100000 in
theorem k_X8_leave_26 {p : Program} {l : Launch} {e : Env} {s : State} {m : MethodId} {args : Array Value} {below : List Frame} {meth : Method} {c : Code} {D : va_G} {cA : Nat → ClassId} {ad : Nat → Nat → Nat} {A : Nat → Prop} {o : Nat → Int64} (C : Cx p s m args meth c cX8_leave 2 RX8 none D cA ad A o) {r : Mem} (x1 : Int32) (xs0 : Int32) (σ : Mem) {H : Heap} {locs : List Loc} (h : f_X8_leave_26 x1 xs0 σ = some r) (hh : HH D cA ad A o s σ H locs) {ls : Array Slot} (hl : lv_has ls 2 [(0, .ref (ad 899 0)), (1, .int x1)]) : W p l e rm_X8_leave s m args below meth c H locs 0 0 (MQ below (Qv D cA ad o A r) args s 0 0 A) (F0 m 26 ls [.int xs0, .ref (ad 899 0)]) := by
  obtain ⟨⟨hx, hb, hml, hown, hts⟩, hK, hN, hD, hr, hlocks⟩ := id C
  unfold f_X8_leave_26 at h
  obtain ⟨s1, e2, h⟩ := vl_e h
  refine pf_8_86 C hh dX8_leave_26 (fun H locs hh => ?_)
  rw [← e2] at hh
  refine lv_aload_n hx hb dX8_leave_29 rfl (lv_at hl 0 rfl) ?_
  refine gf_8_86 C hh dX8_leave_30 ?_
  refine lv_if_le (tgt := 37) hx hb dX8_leave_33 (by decide) (fun c3 => ?_) (fun c3 => ?_)
  · rw [if_pos c3] at h
    refine lv_aload_n hx hb dX8_leave_37 rfl (lv_at hl 0 rfl) ?_
    refine lv_iload_n hx hb dX8_leave_38 rfl (lv_at hl 1 rfl) ?_
    obtain ⟨r6, s5, e4, h⟩ := bn_e h
    refine c_int hh (vrun (rest := []) C hh (c_X8_usesAddress C.2.2.2.1 x1 s1 e4) LM_8_237 IM_X8_usesAddress SL_X8_usesAddress IN_8 CD_X8_usesAddress HD_X8_usesAddress ⟨rfl, rfl, Nat.le_of_ble_eq_true rfl, Nat.le_of_ble_eq_true rfl⟩ (rv_8 C hh) rfl hl.1 rfl (Nat.le_of_ble_eq_true rfl) dX8_leave_39 ⟨Nat.zero_le _, Nat.zero_le _⟩) (fun H locs hh => ?_)
    refine lv_if_eq (tgt := 68) hx hb dX8_leave_42 (by decide) (fun c7 => ?_) (fun c7 => ?_)
    · rw [if_pos c7] at h
      exact k_X8_leave_68 C x1 s5 h hh (lv_sub hl [0, 1] rfl)
    · rw [if_neg c7] at h
      refine lv_aload_n hx hb dX8_leave_45 rfl (lv_at hl 0 rfl) ?_
      refine lv_iload_n hx hb dX8_leave_46 rfl (lv_at hl 1 rfl) ?_
      refine lv_bipush (v := (7 : Int32)) hx hb dX8_leave_47 (by decide) ?_
      refine lv_aload_n hx hb dX8_leave_49 rfl (lv_at hl 0 rfl) ?_
      refine gf_8_44 C hh dX8_leave_50 ?_
      refine lv_iload_n hx hb dX8_leave_53 rfl (lv_at hl 1 rfl) ?_
      obtain ⟨b8, h⟩ := gd_e h
      refine al_814 C hh b8 dX8_leave_54 ?_
      obtain ⟨s10, e9, h⟩ := bv_e h
      refine c_void hh (vrun (rest := []) C hh (c_X8_say C.2.2.2.1 x1 (7 : Int32) (s5 814 0 (x1).toNatClampNeg) s5 e9) LM_8_201 IM_X8_say SL_X8_say IN_8 CD_X8_say HD_X8_say ⟨rfl, rfl, Nat.le_of_ble_eq_true rfl, Nat.le_of_ble_eq_true rfl⟩ (rv_8 C hh) rfl hl.1 rfl (Nat.le_of_ble_eq_true rfl) dX8_leave_55 ⟨Nat.zero_le _, Nat.zero_le _⟩) (fun H locs hh => ?_)
      refine lv_aload_n hx hb dX8_leave_58 rfl (lv_at hl 0 rfl) ?_
      obtain ⟨s12, e11, h⟩ := bv_e h
      refine c_void hh (vrun (rest := []) C hh (c_X8_finish C.2.2.2.1 s10 e11) LM_8_158 IM_X8_finish SL_X8_finish IN_8 CD_X8_finish HD_X8_finish ⟨rfl, rfl, Nat.le_of_ble_eq_true rfl, Nat.le_of_ble_eq_true rfl⟩ (rv_8 C hh) rfl hl.1 rfl (Nat.le_of_ble_eq_true rfl) dX8_leave_59 ⟨Nat.zero_le _, Nat.zero_le _⟩) (fun H locs hh => ?_)
      refine lv_aload_n hx hb dX8_leave_62 rfl (lv_at hl 0 rfl) ?_
      refine lv_bipush (v := (16 : Int32)) hx hb dX8_leave_63 (by decide) ?_
      obtain ⟨s14, e13, h⟩ := bv_e h
      refine c_void hh (vrun (rest := []) C hh (c_X8_send C.2.2.2.1 (16 : Int32) s12 e13) LM_8_161 IM_X8_send SL_X8_send IN_8 CD_X8_send HD_X8_send ⟨rfl, rfl, Nat.le_of_ble_eq_true rfl, Nat.le_of_ble_eq_true rfl⟩ (rv_8 C hh) rfl hl.1 rfl (Nat.le_of_ble_eq_true rfl) dX8_leave_65 ⟨Nat.zero_le _, Nat.zero_le _⟩) (fun H locs hh => ?_)
      exact k_X8_leave_68 C x1 s14 h hh (lv_sub hl [0, 1] rfl)
  · rw [if_neg c3] at h
    exact r_void C hh h dX8_leave_36
def f_X8_leave (x1 : Int32) (σ : Mem) : Option (Mem) := bn (f_X8_isClient x1 σ) (fun r3 s2 => (if r3 = (0 : Int32) then f_X8_leave_26 x1 (1 : Int32) s2 else gd (vin x1 12) ((if (s2 812 0 (x1).toNatClampNeg) = (0 : Int32) then f_X8_leave_26 x1 (2 : Int32) s2 else f_X8_leave_26 x1 (0 : Int32) s2))))
set_option maxHeartbeats 4000000 in
set_option maxRecDepth 100000 in
theorem c_X8_leave {l : Launch} {D : va_G} {cA : Nat → ClassId} {ad : Nat → Nat → Nat} {A : Nat → Prop} {o : Nat → Int64} (hD0 : ∀ σ, va_D A (wW cA ad σ o)) (x1 : Int32) (σ : Mem) {r : Mem} (h : f_X8_leave x1 σ = some r) : Met l yX8_leave (wsG yX8_leave cX8_leave 2 none) rm_X8_leave (va_Pc [.ref (ad 899 0), .int x1] (IW D cA ad o σ)) (Qv D cA ad o A r) 0 0 A := by
  refine metG (by decide) (Nat.le_of_ble_eq_true rfl) hD0 ?_
  intro p e s m args below meth c C ls hh hl
  have C : Cx p s m args meth c cX8_leave 2 RX8 none D cA ad A o := C
  have hl : lv_has ls 2 [(0, .ref (ad 899 0)), (1, .int x1)] := hl
  obtain ⟨⟨hx, hb, hml, hown, hts⟩, hK, hN, hD, hr, hlocks⟩ := id C
  unfold f_X8_leave at h
  refine lv_aload_n hx hb dX8_leave_0 rfl (lv_at hl 0 rfl) ?_
  refine lv_iload_n hx hb dX8_leave_1 rfl (lv_at hl 1 rfl) ?_
  obtain ⟨r3, s2, e1, h⟩ := bn_e h
  refine c_int hh (srun (rest := [.ref (ad 899 0)]) C hh (c_X8_isClient C.2.2.2.1 x1 σ e1) LM_8_90 ST_X8_isClient IN_8 CD_X8_isClient HD_X8_isClient ⟨rfl, rfl, Nat.le_of_ble_eq_true rfl, Nat.le_of_ble_eq_true rfl⟩ rfl hl.1 rfl (Nat.le_of_ble_eq_true rfl) dX8_leave_2 ⟨Nat.zero_le _, Nat.zero_le _⟩) (fun H locs hh => ?_)
  refine lv_if_ne (tgt := 12) hx hb dX8_leave_5 (by decide) (fun c4 => ?_) (fun c4 => ?_)
  · rw [if_neg c4] at h
    refine lv_aload_n hx hb dX8_leave_12 rfl (lv_at hl 0 rfl) ?_
    refine gf_8_38 C hh dX8_leave_13 ?_
    refine lv_iload_n hx hb dX8_leave_16 rfl (lv_at hl 1 rfl) ?_
    obtain ⟨b5, h⟩ := gd_e h
    refine al_812 C hh b5 dX8_leave_17 ?_
    refine lv_if_ne (tgt := 25) hx hb dX8_leave_18 (by decide) (fun c6 => ?_) (fun c6 => ?_)
    · rw [if_neg c6] at h
      refine lv_iconst (v := (0 : Int32)) hx hb dX8_leave_25 (by decide) ?_
      exact k_X8_leave_26 C x1 (0 : Int32) s2 h hh (lv_sub hl [0, 1] rfl)
    · rw [if_pos c6] at h
      refine lv_iconst (v := (2 : Int32)) hx hb dX8_leave_21 (by decide) ?_
      refine lv_goto (tgt := 26) hx hb dX8_leave_22 (by decide) ?_
      exact k_X8_leave_26 C x1 (2 : Int32) s2 h hh (lv_sub hl [0, 1] rfl)
  · rw [if_pos c4] at h
    refine lv_iconst (v := (1 : Int32)) hx hb dX8_leave_8 (by decide) ?_
    refine lv_goto (tgt := 26) hx hb dX8_leave_9 (by decide) ?_
    exact k_X8_leave_26 C x1 (1 : Int32) s2 h hh (lv_sub hl [0, 1] rfl)
abbrev rm_X8_strange : Room := { frames := 1, cells := 0, slots := 0, locals := 20 }
theorem HD_X8_strange : yX8_strange.cls = RX8 ∧ yX8_strange.cls ≠ "java/lang/invoke/MethodHandle" ∧ yX8_strange.cls ≠ "java/lang/invoke/VarHandle" ∧ (parseMethodDescriptor yX8_strange.desc).map (fun d => d.parameters.length) = some 2 := by decide +kernel
def f_X8_strange_13 (x1 : Int32) (x2 : Int32) (xs0 : Int32) (σ : Mem) : Option (Mem) := vl (up σ 800 0 0 xs0) (fun s1 => (if (s1 800 0 0) = (0 : Int32) then gd (vin x1 1024) (vl (up s1 805 0 (x1).toNatClampNeg (vp_nar .boolean x2)) (fun s5 => some s5)) else some s1))
set_option maxHeartbeats 4000000 in
set_option maxRecDepth 100000 in
theorem k_X8_strange_13 {p : Program} {l : Launch} {e : Env} {s : State} {m : MethodId} {args : Array Value} {below : List Frame} {meth : Method} {c : Code} {D : va_G} {cA : Nat → ClassId} {ad : Nat → Nat → Nat} {A : Nat → Prop} {o : Nat → Int64} (C : Cx p s m args meth c cX8_strange 3 RX8 none D cA ad A o) {r : Mem} (x1 : Int32) (x2 : Int32) (xs0 : Int32) (σ : Mem) {H : Heap} {locs : List Loc} (h : f_X8_strange_13 x1 x2 xs0 σ = some r) (hh : HH D cA ad A o s σ H locs) {ls : Array Slot} (hl : lv_has ls 3 [(0, .ref (ad 899 0)), (1, .int x1), (2, .int x2)]) : W p l e rm_X8_strange s m args below meth c H locs 0 0 (MQ below (Qv D cA ad o A r) args s 0 0 A) (F0 m 13 ls [.int xs0, .ref (ad 899 0)]) := by
  obtain ⟨⟨hx, hb, hml, hown, hts⟩, hK, hN, hD, hr, hlocks⟩ := id C
  unfold f_X8_strange_13 at h
  obtain ⟨s1, e2, h⟩ := vl_e h
  refine pf_8_86 C hh dX8_strange_13 (fun H locs hh => ?_)
  rw [← e2] at hh
  refine lv_aload_n hx hb dX8_strange_16 rfl (lv_at hl 0 rfl) ?_
  refine gf_8_86 C hh dX8_strange_17 ?_
  refine lv_if_ne (tgt := 30) hx hb dX8_strange_20 (by decide) (fun c3 => ?_) (fun c3 => ?_)
  · rw [if_neg c3] at h
    exact r_void C hh h dX8_strange_30
  · rw [if_pos c3] at h
    refine lv_aload_n hx hb dX8_strange_23 rfl (lv_at hl 0 rfl) ?_
    refine gf_8_19 C hh dX8_strange_24 ?_
    refine lv_iload_n hx hb dX8_strange_27 rfl (lv_at hl 1 rfl) ?_
    refine lv_iload_n hx hb dX8_strange_28 rfl (lv_at hl 2 rfl) ?_
    obtain ⟨b4, h⟩ := gd_e h
    obtain ⟨s5, e6, h⟩ := vl_e h
    refine as_805 C hh b4 dX8_strange_29 (fun H locs hh => ?_)
    rw [← e6] at hh
    exact r_void C hh h dX8_strange_30
def f_X8_strange (x1 : Int32) (x2 : Int32) (σ : Mem) : Option (Mem) := bn (f_X8_isAddress x1 σ) (fun r3 s2 => (if r3 = (0 : Int32) then f_X8_strange_13 x1 x2 (1 : Int32) s2 else f_X8_strange_13 x1 x2 (0 : Int32) s2))
set_option maxHeartbeats 4000000 in
set_option maxRecDepth 100000 in
theorem c_X8_strange {l : Launch} {D : va_G} {cA : Nat → ClassId} {ad : Nat → Nat → Nat} {A : Nat → Prop} {o : Nat → Int64} (hD0 : ∀ σ, va_D A (wW cA ad σ o)) (x1 : Int32) (x2 : Int32) (σ : Mem) {r : Mem} (h : f_X8_strange x1 x2 σ = some r) : Met l yX8_strange (wsG yX8_strange cX8_strange 3 none) rm_X8_strange (va_Pc [.ref (ad 899 0), .int x1, .int x2] (IW D cA ad o σ)) (Qv D cA ad o A r) 0 0 A := by
  refine metG (by decide) (Nat.le_of_ble_eq_true rfl) hD0 ?_
  intro p e s m args below meth c C ls hh hl
  have C : Cx p s m args meth c cX8_strange 3 RX8 none D cA ad A o := C
  have hl : lv_has ls 3 [(0, .ref (ad 899 0)), (1, .int x1), (2, .int x2)] := hl
  obtain ⟨⟨hx, hb, hml, hown, hts⟩, hK, hN, hD, hr, hlocks⟩ := id C
  unfold f_X8_strange at h
  refine lv_aload_n hx hb dX8_strange_0 rfl (lv_at hl 0 rfl) ?_
  refine lv_iload_n hx hb dX8_strange_1 rfl (lv_at hl 1 rfl) ?_
  obtain ⟨r3, s2, e1, h⟩ := bn_e h
  refine c_int hh (srun (rest := [.ref (ad 899 0)]) C hh (c_X8_isAddress C.2.2.2.1 x1 σ e1) LM_8_198 ST_X8_isAddress IN_8 CD_X8_isAddress HD_X8_isAddress ⟨rfl, rfl, Nat.le_of_ble_eq_true rfl, Nat.le_of_ble_eq_true rfl⟩ rfl hl.1 rfl (Nat.le_of_ble_eq_true rfl) dX8_strange_2 ⟨Nat.zero_le _, Nat.zero_le _⟩) (fun H locs hh => ?_)
  refine lv_if_eq (tgt := 12) hx hb dX8_strange_5 (by decide) (fun c4 => ?_) (fun c4 => ?_)
  · rw [if_pos c4] at h
    refine lv_iconst (v := (1 : Int32)) hx hb dX8_strange_12 (by decide) ?_
    exact k_X8_strange_13 C x1 x2 (1 : Int32) s2 h hh (lv_sub hl [0, 1, 2] rfl)
  · rw [if_neg c4] at h
    refine lv_iconst (v := (0 : Int32)) hx hb dX8_strange_8 (by decide) ?_
    refine lv_goto (tgt := 13) hx hb dX8_strange_9 (by decide) ?_
    exact k_X8_strange_13 C x1 x2 (0 : Int32) s2 h hh (lv_sub hl [0, 1, 2] rfl)
abbrev rm_X8_down : Room := { frames := 0, cells := 0, slots := 0, locals := 0 }
theorem HD_X8_down : yX8_down.cls = RX8 ∧ yX8_down.cls ≠ "java/lang/invoke/MethodHandle" ∧ yX8_down.cls ≠ "java/lang/invoke/VarHandle" ∧ (parseMethodDescriptor yX8_down.desc).map (fun d => d.parameters.length) = some 1 := by decide +kernel
def f_X8_down (x1 : Int32) (σ : Mem) : Option (Mem) := vl (up σ 800 0 0 (0 : Int32)) (fun s1 => gd (zo x1) (vl (up s1 806 0 0 x1) (fun s4 => some s4)))
set_option maxHeartbeats 4000000 in
set_option maxRecDepth 100000 in
theorem c_X8_down {l : Launch} {D : va_G} {cA : Nat → ClassId} {ad : Nat → Nat → Nat} {A : Nat → Prop} {o : Nat → Int64} (hD0 : ∀ σ, va_D A (wW cA ad σ o)) (x1 : Int32) (σ : Mem) {r : Mem} (h : f_X8_down x1 σ = some r) : Met l yX8_down (wsG yX8_down cX8_down 2 none) rm_X8_down (va_Pc [.ref (ad 899 0), .int x1] (IW D cA ad o σ)) (Qv D cA ad o A r) 0 0 A := by
  refine metG (by decide) (Nat.le_of_ble_eq_true rfl) hD0 ?_
  intro p e s m args below meth c C ls hh hl
  have C : Cx p s m args meth c cX8_down 2 RX8 none D cA ad A o := C
  have hl : lv_has ls 2 [(0, .ref (ad 899 0)), (1, .int x1)] := hl
  obtain ⟨⟨hx, hb, hml, hown, hts⟩, hK, hN, hD, hr, hlocks⟩ := id C
  unfold f_X8_down at h
  refine lv_aload_n hx hb dX8_down_0 rfl (lv_at hl 0 rfl) ?_
  refine lv_iconst (v := (0 : Int32)) hx hb dX8_down_1 (by decide) ?_
  obtain ⟨s1, e2, h⟩ := vl_e h
  refine pf_8_86 C hh dX8_down_2 (fun H locs hh => ?_)
  rw [← e2] at hh
  refine lv_aload_n hx hb dX8_down_5 rfl (lv_at hl 0 rfl) ?_
  refine lv_iload_n hx hb dX8_down_6 rfl (lv_at hl 1 rfl) ?_
  obtain ⟨b3, h⟩ := gd_e h
  obtain ⟨s4, e5, h⟩ := vl_e h
  refine pf_8_186 C hh b3 dX8_down_7 (fun H locs hh => ?_)
  rw [← e5] at hh
  exact r_void C hh h dX8_down_10
abbrev rm_X8_tick : Room := { frames := 7, cells := 0, slots := 0, locals := 160 }
theorem HD_X8_tick : yX8_tick.cls = RX8 ∧ yX8_tick.cls ≠ "java/lang/invoke/MethodHandle" ∧ yX8_tick.cls ≠ "java/lang/invoke/VarHandle" ∧ (parseMethodDescriptor yX8_tick.desc).map (fun d => d.parameters.length) = some 0 := by decide +kernel
def f_X8_tick_17 : Nat → Int32 → Mem → Option (Int32 × Mem)
  | 0, _, _ => none
  | n + 1, x1, σ => (if (12 : Int32) ≤ x1 then some ((σ 801 0 0), σ) else bv (f_X8_tickOf x1 σ) (fun s3 => vl (x1 + (1 : Int32)) (fun v4 => f_X8_tick_17 n v4 s3)))
set_option maxHeartbeats 4000000 in
set_option maxRecDepth 100000 in
theorem k_X8_tick_17 {p : Program} {l : Launch} {e : Env} {s : State} {m : MethodId} {args : Array Value} {below : List Frame} {meth : Method} {c : Code} {D : va_G} {cA : Nat → ClassId} {ad : Nat → Nat → Nat} {A : Nat → Prop} {o : Nat → Int64} (C : Cx p s m args meth c cX8_tick 2 RX8 (some .int) D cA ad A o) {r : Int32 × Mem} : ∀ (n : Nat) (x1 : Int32) (σ : Mem) {H : Heap} {locs : List Loc} (h : f_X8_tick_17 n x1 σ = some r) (hh : HH D cA ad A o s σ H locs) {ls : Array Slot} (hl : lv_has ls 2 [(0, .ref (ad 899 0)), (1, .int x1)]), W p l e rm_X8_tick s m args below meth c H locs 0 0 (MQ below (Qi D cA ad o A r) args s 0 0 A) (F0 m 17 ls []) := by
  obtain ⟨⟨hx, hb, hml, hown, hts⟩, hK, hN, hD, hr, hlocks⟩ := id C
  intro n
  induction n with
  | zero =>
    intro x1 σ H locs h
    rw [f_X8_tick_17.eq_1] at h
    cases h
  | succ n ih =>
    intro x1 σ H locs h hh ls hl
    rw [f_X8_tick_17.eq_2] at h
    refine lv_iload_n hx hb dX8_tick_17 rfl (lv_at hl 1 rfl) ?_
    refine lv_bipush (v := (12 : Int32)) hx hb dX8_tick_18 (by decide) ?_
    refine lv_icmp_ge (tgt := 34) hx hb dX8_tick_20 (by decide) (fun c1 => ?_) (fun c1 => ?_)
    · rw [if_pos c1] at h
      refine lv_aload_n hx hb dX8_tick_34 rfl (lv_at hl 0 rfl) ?_
      refine gf_8_130 C hh dX8_tick_35 ?_
      exact r_int C hh h dX8_tick_38
    · rw [if_neg c1] at h
      refine lv_aload_n hx hb dX8_tick_23 rfl (lv_at hl 0 rfl) ?_
      refine lv_iload_n hx hb dX8_tick_24 rfl (lv_at hl 1 rfl) ?_
      obtain ⟨s3, e2, h⟩ := bv_e h
      refine c_void hh (vrun (rest := []) C hh (c_X8_tickOf C.2.2.2.1 x1 σ e2) LM_8_240 IM_X8_tickOf SL_X8_tickOf IN_8 CD_X8_tickOf HD_X8_tickOf ⟨rfl, rfl, Nat.le_of_ble_eq_true rfl, Nat.le_of_ble_eq_true rfl⟩ (rv_8 C hh) rfl hl.1 rfl (Nat.le_of_ble_eq_true rfl) dX8_tick_25 ⟨Nat.zero_le _, Nat.zero_le _⟩) (fun H locs hh => ?_)
      obtain ⟨v4, e5, h⟩ := vl_e h
      refine lv_iinc (v := v4) (lv' := [(1, .int v4), (0, .ref (ad 899 0))]) hx hb dX8_tick_28 hl (k := 1) rfl (by rw [e5]; rfl) (by decide) rfl (fun ls hl => ?_)
      refine lv_goto (tgt := 17) hx hb dX8_tick_31 (by decide) ?_
      exact ih v4 s3 h hh (lv_sub hl [1, 0] rfl)
def f_X8_tick (σ : Mem) : Option (Int32 × Mem) := vl (up σ 800 0 0 (0 : Int32)) (fun s1 => vl (up s1 801 0 0 ((s1 801 0 0) + (1 : Int32))) (fun s3 => f_X8_tick_17 5000 (0 : Int32) s3))
set_option maxHeartbeats 4000000 in
set_option maxRecDepth 100000 in
theorem c_X8_tick {l : Launch} {D : va_G} {cA : Nat → ClassId} {ad : Nat → Nat → Nat} {A : Nat → Prop} {o : Nat → Int64} (hD0 : ∀ σ, va_D A (wW cA ad σ o)) (σ : Mem) {r : Int32 × Mem} (h : f_X8_tick σ = some r) : Met l yX8_tick (wsG yX8_tick cX8_tick 2 (some .int)) rm_X8_tick (va_Pc [.ref (ad 899 0)] (IW D cA ad o σ)) (Qi D cA ad o A r) 0 0 A := by
  refine metG (by decide) (Nat.le_of_ble_eq_true rfl) hD0 ?_
  intro p e s m args below meth c C ls hh hl
  have C : Cx p s m args meth c cX8_tick 2 RX8 (some .int) D cA ad A o := C
  have hl : lv_has ls 2 [(0, .ref (ad 899 0))] := hl
  obtain ⟨⟨hx, hb, hml, hown, hts⟩, hK, hN, hD, hr, hlocks⟩ := id C
  unfold f_X8_tick at h
  refine lv_aload_n hx hb dX8_tick_0 rfl (lv_at hl 0 rfl) ?_
  refine lv_iconst (v := (0 : Int32)) hx hb dX8_tick_1 (by decide) ?_
  obtain ⟨s1, e2, h⟩ := vl_e h
  refine pf_8_86 C hh dX8_tick_2 (fun H locs hh => ?_)
  rw [← e2] at hh
  refine lv_aload_n hx hb dX8_tick_5 rfl (lv_at hl 0 rfl) ?_
  refine lv_dup hx hb dX8_tick_6 rfl ?_
  refine gf_8_130 C hh dX8_tick_7 ?_
  refine lv_iconst (v := (1 : Int32)) hx hb dX8_tick_10 (by decide) ?_
  refine lv_iadd hx hb dX8_tick_11 ?_
  obtain ⟨s3, e4, h⟩ := vl_e h
  refine pf_8_130 C hh dX8_tick_12 (fun H locs hh => ?_)
  rw [← e4] at hh
  refine lv_iconst (v := (0 : Int32)) hx hb dX8_tick_15 (by decide) ?_
  refine lv_istore_n (lv' := [(1, .int (0 : Int32)), (0, .ref (ad 899 0))]) hx hb dX8_tick_16 rfl hl (by decide) rfl (fun ls hl => ?_)
  exact k_X8_tick_17 C 5000 (0 : Int32) s3 h hh (lv_sub hl [1, 0] rfl)
abbrev rm_X8_packets : Room := { frames := 0, cells := 0, slots := 0, locals := 0 }
theorem HD_X8_packets : yX8_packets.cls = RX8 ∧ yX8_packets.cls ≠ "java/lang/invoke/MethodHandle" ∧ yX8_packets.cls ≠ "java/lang/invoke/VarHandle" ∧ (parseMethodDescriptor yX8_packets.desc).map (fun d => d.parameters.length) = some 0 := by decide +kernel
def f_X8_packets (σ : Mem) : Option (Int32 × Mem) := vl (up σ 800 0 0 (0 : Int32)) (fun s1 => some ((s1 823 0 0), s1))
set_option maxHeartbeats 4000000 in
set_option maxRecDepth 100000 in
theorem c_X8_packets {l : Launch} {D : va_G} {cA : Nat → ClassId} {ad : Nat → Nat → Nat} {A : Nat → Prop} {o : Nat → Int64} (hD0 : ∀ σ, va_D A (wW cA ad σ o)) (σ : Mem) {r : Int32 × Mem} (h : f_X8_packets σ = some r) : Met l yX8_packets (wsG yX8_packets cX8_packets 1 (some .int)) rm_X8_packets (va_Pc [.ref (ad 899 0)] (IW D cA ad o σ)) (Qi D cA ad o A r) 0 0 A := by
  refine metG (by decide) (Nat.le_of_ble_eq_true rfl) hD0 ?_
  intro p e s m args below meth c C ls hh hl
  have C : Cx p s m args meth c cX8_packets 1 RX8 (some .int) D cA ad A o := C
  have hl : lv_has ls 1 [(0, .ref (ad 899 0))] := hl
  obtain ⟨⟨hx, hb, hml, hown, hts⟩, hK, hN, hD, hr, hlocks⟩ := id C
  unfold f_X8_packets at h
  refine lv_aload_n hx hb dX8_packets_0 rfl (lv_at hl 0 rfl) ?_
  refine lv_iconst (v := (0 : Int32)) hx hb dX8_packets_1 (by decide) ?_
  obtain ⟨s1, e2, h⟩ := vl_e h
  refine pf_8_86 C hh dX8_packets_2 (fun H locs hh => ?_)
  rw [← e2] at hh
  refine lv_aload_n hx hb dX8_packets_5 rfl (lv_at hl 0 rfl) ?_
  refine gf_8_121 C hh dX8_packets_6 ?_
  exact r_int C hh h dX8_packets_9
abbrev rm_X8_isPacket : Room := { frames := 0, cells := 0, slots := 0, locals := 0 }
theorem HD_X8_isPacket : yX8_isPacket.cls = RX8 ∧ yX8_isPacket.cls ≠ "java/lang/invoke/MethodHandle" ∧ yX8_isPacket.cls ≠ "java/lang/invoke/VarHandle" ∧ (parseMethodDescriptor yX8_isPacket.desc).map (fun d => d.parameters.length) = some 1 := by decide +kernel
def f_X8_isPacket (x1 : Int32) (σ : Mem) : Option (Int32 × Mem) := (if x1 < (0 : Int32) then some ((0 : Int32), σ) else (if (σ 823 0 0) ≤ x1 then some ((0 : Int32), σ) else some ((1 : Int32), σ)))
set_option maxHeartbeats 4000000 in
set_option maxRecDepth 100000 in
theorem c_X8_isPacket {l : Launch} {D : va_G} {cA : Nat → ClassId} {ad : Nat → Nat → Nat} {A : Nat → Prop} {o : Nat → Int64} (hD0 : ∀ σ, va_D A (wW cA ad σ o)) (x1 : Int32) (σ : Mem) {r : Int32 × Mem} (h : f_X8_isPacket x1 σ = some r) : Met l yX8_isPacket (wsG yX8_isPacket cX8_isPacket 2 (some .boolean)) rm_X8_isPacket (va_Pc [.ref (ad 899 0), .int x1] (IW D cA ad o σ)) (Qi D cA ad o A r) 0 0 A := by
  refine metG (by decide) (Nat.le_of_ble_eq_true rfl) hD0 ?_
  intro p e s m args below meth c C ls hh hl
  have C : Cx p s m args meth c cX8_isPacket 2 RX8 (some .boolean) D cA ad A o := C
  have hl : lv_has ls 2 [(0, .ref (ad 899 0)), (1, .int x1)] := hl
  obtain ⟨⟨hx, hb, hml, hown, hts⟩, hK, hN, hD, hr, hlocks⟩ := id C
  unfold f_X8_isPacket at h
  refine lv_iload_n hx hb dX8_isPacket_0 rfl (lv_at hl 1 rfl) ?_
  refine lv_if_lt (tgt := 16) hx hb dX8_isPacket_1 (by decide) (fun c1 => ?_) (fun c1 => ?_)
  · rw [if_pos c1] at h
    refine lv_iconst (v := (0 : Int32)) hx hb dX8_isPacket_16 (by decide) ?_
    exact r_bool C hh (by decide) h dX8_isPacket_17
  · rw [if_neg c1] at h
    refine lv_iload_n hx hb dX8_isPacket_4 rfl (lv_at hl 1 rfl) ?_
    refine lv_aload_n hx hb dX8_isPacket_5 rfl (lv_at hl 0 rfl) ?_
    refine gf_8_121 C hh dX8_isPacket_6 ?_
    refine lv_icmp_ge (tgt := 16) hx hb dX8_isPacket_9 (by decide) (fun c2 => ?_) (fun c2 => ?_)
    · rw [if_pos c2] at h
      refine lv_iconst (v := (0 : Int32)) hx hb dX8_isPacket_16 (by decide) ?_
      exact r_bool C hh (by decide) h dX8_isPacket_17
    · rw [if_neg c2] at h
      refine lv_iconst (v := (1 : Int32)) hx hb dX8_isPacket_12 (by decide) ?_
      refine lv_goto (tgt := 17) hx hb dX8_isPacket_13 (by decide) ?_
      exact r_bool C hh (by decide) h dX8_isPacket_17
abbrev rm_X8_packet : Room := { frames := 1, cells := 0, slots := 0, locals := 21 }
theorem HD_X8_packet : yX8_packet.cls = RX8 ∧ yX8_packet.cls ≠ "java/lang/invoke/MethodHandle" ∧ yX8_packet.cls ≠ "java/lang/invoke/VarHandle" ∧ (parseMethodDescriptor yX8_packet.desc).map (fun d => d.parameters.length) = some 2 := by decide +kernel
def f_X8_packet_34 (x1 : Int32) (x2 : Int32) (xs0 : Int32) (σ : Mem) : Option (Int32 × Mem) := vl (up σ 800 0 0 xs0) (fun s1 => (if (s1 800 0 0) ≤ (0 : Int32) then (if x2 = (-1 : Int32) then gd (vin x1 60) (some ((s1 825 0 (x1).toNatClampNeg), s1)) else (if x2 = (-2 : Int32) then gd (vin x1 60) (some ((s1 826 0 (x1).toNatClampNeg), s1)) else gd (vin (((64 : Int32) * x1) + x2) 3840) (some ((s1 827 0 ((((64 : Int32) * x1) + x2)).toNatClampNeg), s1)))) else some ((0 : Int32), s1)))
set_option maxHeartbeats 4000000 in
set_option maxRecDepth 100000 in
theorem k_X8_packet_34 {p : Program} {l : Launch} {e : Env} {s : State} {m : MethodId} {args : Array Value} {below : List Frame} {meth : Method} {c : Code} {D : va_G} {cA : Nat → ClassId} {ad : Nat → Nat → Nat} {A : Nat → Prop} {o : Nat → Int64} (C : Cx p s m args meth c cX8_packet 3 RX8 (some .int) D cA ad A o) {r : Int32 × Mem} (x1 : Int32) (x2 : Int32) (xs0 : Int32) (σ : Mem) {H : Heap} {locs : List Loc} (h : f_X8_packet_34 x1 x2 xs0 σ = some r) (hh : HH D cA ad A o s σ H locs) {ls : Array Slot} (hl : lv_has ls 3 [(0, .ref (ad 899 0)), (1, .int x1), (2, .int x2)]) : W p l e rm_X8_packet s m args below meth c H locs 0 0 (MQ below (Qi D cA ad o A r) args s 0 0 A) (F0 m 34 ls [.int xs0, .ref (ad 899 0)]) := by
  obtain ⟨⟨hx, hb, hml, hown, hts⟩, hK, hN, hD, hr, hlocks⟩ := id C
  unfold f_X8_packet_34 at h
  obtain ⟨s1, e2, h⟩ := vl_e h
  refine pf_8_86 C hh dX8_packet_34 (fun H locs hh => ?_)
  rw [← e2] at hh
  refine lv_aload_n hx hb dX8_packet_37 rfl (lv_at hl 0 rfl) ?_
  refine gf_8_86 C hh dX8_packet_38 ?_
  refine lv_if_le (tgt := 46) hx hb dX8_packet_41 (by decide) (fun c3 => ?_) (fun c3 => ?_)
  · rw [if_pos c3] at h
    refine lv_iload_n hx hb dX8_packet_46 rfl (lv_at hl 2 rfl) ?_
    refine lv_iconst (v := (-1 : Int32)) hx hb dX8_packet_47 (by decide) ?_
    refine lv_icmp_ne (tgt := 60) hx hb dX8_packet_48 (by decide) (fun c4 => ?_) (fun c4 => ?_)
    · rw [if_neg c4] at h
      refine lv_iload_n hx hb dX8_packet_60 rfl (lv_at hl 2 rfl) ?_
      refine lv_bipush (v := (-2 : Int32)) hx hb dX8_packet_61 (by decide) ?_
      refine lv_icmp_ne (tgt := 75) hx hb dX8_packet_63 (by decide) (fun c5 => ?_) (fun c5 => ?_)
      · rw [if_neg c5] at h
        refine lv_aload_n hx hb dX8_packet_75 rfl (lv_at hl 0 rfl) ?_
        refine gf_8_77 C hh dX8_packet_76 ?_
        refine lv_bipush (v := (64 : Int32)) hx hb dX8_packet_79 (by decide) ?_
        refine lv_iload_n hx hb dX8_packet_81 rfl (lv_at hl 1 rfl) ?_
        refine lv_imul hx hb dX8_packet_82 ?_
        refine lv_iload_n hx hb dX8_packet_83 rfl (lv_at hl 2 rfl) ?_
        refine lv_iadd hx hb dX8_packet_84 ?_
        obtain ⟨b6, h⟩ := gd_e h
        refine al_827 C hh b6 dX8_packet_85 ?_
        exact r_int C hh h dX8_packet_86
      · rw [if_pos c5] at h
        refine lv_aload_n hx hb dX8_packet_66 rfl (lv_at hl 0 rfl) ?_
        refine gf_8_74 C hh dX8_packet_67 ?_
        refine lv_iload_n hx hb dX8_packet_70 rfl (lv_at hl 1 rfl) ?_
        obtain ⟨b7, h⟩ := gd_e h
        refine al_826 C hh b7 dX8_packet_71 ?_
        refine lv_goto (tgt := 86) hx hb dX8_packet_72 (by decide) ?_
        exact r_int C hh h dX8_packet_86
    · rw [if_pos c4] at h
      refine lv_aload_n hx hb dX8_packet_51 rfl (lv_at hl 0 rfl) ?_
      refine gf_8_71 C hh dX8_packet_52 ?_
      refine lv_iload_n hx hb dX8_packet_55 rfl (lv_at hl 1 rfl) ?_
      obtain ⟨b8, h⟩ := gd_e h
      refine al_825 C hh b8 dX8_packet_56 ?_
      refine lv_goto (tgt := 86) hx hb dX8_packet_57 (by decide) ?_
      exact r_int C hh h dX8_packet_86
  · rw [if_neg c3] at h
    refine lv_iconst (v := (0 : Int32)) hx hb dX8_packet_44 (by decide) ?_
    exact r_int C hh h dX8_packet_45
def f_X8_packet_29 (x1 : Int32) (x2 : Int32) (σ : Mem) : Option (Int32 × Mem) := f_X8_packet_34 x1 x2 (2 : Int32) σ
set_option maxHeartbeats 4000000 in
set_option maxRecDepth 100000 in
theorem k_X8_packet_29 {p : Program} {l : Launch} {e : Env} {s : State} {m : MethodId} {args : Array Value} {below : List Frame} {meth : Method} {c : Code} {D : va_G} {cA : Nat → ClassId} {ad : Nat → Nat → Nat} {A : Nat → Prop} {o : Nat → Int64} (C : Cx p s m args meth c cX8_packet 3 RX8 (some .int) D cA ad A o) {r : Int32 × Mem} (x1 : Int32) (x2 : Int32) (σ : Mem) {H : Heap} {locs : List Loc} (h : f_X8_packet_29 x1 x2 σ = some r) (hh : HH D cA ad A o s σ H locs) {ls : Array Slot} (hl : lv_has ls 3 [(0, .ref (ad 899 0)), (1, .int x1), (2, .int x2)]) : W p l e rm_X8_packet s m args below meth c H locs 0 0 (MQ below (Qi D cA ad o A r) args s 0 0 A) (F0 m 29 ls [.ref (ad 899 0)]) := by
  obtain ⟨⟨hx, hb, hml, hown, hts⟩, hK, hN, hD, hr, hlocks⟩ := id C
  unfold f_X8_packet_29 at h
  refine lv_iconst (v := (2 : Int32)) hx hb dX8_packet_29 (by decide) ?_
  refine lv_goto (tgt := 34) hx hb dX8_packet_30 (by decide) ?_
  exact k_X8_packet_34 C x1 x2 (2 : Int32) σ h hh (lv_sub hl [0, 1, 2] rfl)
def f_X8_packet (x1 : Int32) (x2 : Int32) (σ : Mem) : Option (Int32 × Mem) := bn (f_X8_isPacket x1 σ) (fun r3 s2 => (if r3 = (0 : Int32) then f_X8_packet_34 x1 x2 (1 : Int32) s2 else (if x2 < (-2 : Int32) then f_X8_packet_29 x1 x2 s2 else gd (vin x1 60) ((if x2 < (s2 826 0 (x1).toNatClampNeg) then f_X8_packet_34 x1 x2 (0 : Int32) s2 else f_X8_packet_29 x1 x2 s2)))))
set_option maxHeartbeats 4000000 in
set_option maxRecDepth 100000 in
theorem c_X8_packet {l : Launch} {D : va_G} {cA : Nat → ClassId} {ad : Nat → Nat → Nat} {A : Nat → Prop} {o : Nat → Int64} (hD0 : ∀ σ, va_D A (wW cA ad σ o)) (x1 : Int32) (x2 : Int32) (σ : Mem) {r : Int32 × Mem} (h : f_X8_packet x1 x2 σ = some r) : Met l yX8_packet (wsG yX8_packet cX8_packet 3 (some .int)) rm_X8_packet (va_Pc [.ref (ad 899 0), .int x1, .int x2] (IW D cA ad o σ)) (Qi D cA ad o A r) 0 0 A := by
  refine metG (by decide) (Nat.le_of_ble_eq_true rfl) hD0 ?_
  intro p e s m args below meth c C ls hh hl
  have C : Cx p s m args meth c cX8_packet 3 RX8 (some .int) D cA ad A o := C
  have hl : lv_has ls 3 [(0, .ref (ad 899 0)), (1, .int x1), (2, .int x2)] := hl
  obtain ⟨⟨hx, hb, hml, hown, hts⟩, hK, hN, hD, hr, hlocks⟩ := id C
  unfold f_X8_packet at h
  refine lv_aload_n hx hb dX8_packet_0 rfl (lv_at hl 0 rfl) ?_
  refine lv_aload_n hx hb dX8_packet_1 rfl (lv_at hl 0 rfl) ?_
  refine lv_iload_n hx hb dX8_packet_2 rfl (lv_at hl 1 rfl) ?_
  obtain ⟨r3, s2, e1, h⟩ := bn_e h
  refine c_int hh (vrun (rest := [.ref (ad 899 0)]) C hh (c_X8_isPacket C.2.2.2.1 x1 σ e1) LM_8_243 IM_X8_isPacket SL_X8_isPacket IN_8 CD_X8_isPacket HD_X8_isPacket ⟨rfl, rfl, Nat.le_of_ble_eq_true rfl, Nat.le_of_ble_eq_true rfl⟩ (rv_8 C hh) rfl hl.1 rfl (Nat.le_of_ble_eq_true rfl) dX8_packet_3 ⟨Nat.zero_le _, Nat.zero_le _⟩) (fun H locs hh => ?_)
  refine lv_if_ne (tgt := 13) hx hb dX8_packet_6 (by decide) (fun c4 => ?_) (fun c4 => ?_)
  · rw [if_neg c4] at h
    refine lv_iload_n hx hb dX8_packet_13 rfl (lv_at hl 2 rfl) ?_
    refine lv_bipush (v := (-2 : Int32)) hx hb dX8_packet_14 (by decide) ?_
    refine lv_icmp_lt (tgt := 29) hx hb dX8_packet_16 (by decide) (fun c5 => ?_) (fun c5 => ?_)
    · rw [if_pos c5] at h
      exact k_X8_packet_29 C x1 x2 s2 h hh (lv_sub hl [0, 1, 2] rfl)
    · rw [if_neg c5] at h
      refine lv_iload_n hx hb dX8_packet_19 rfl (lv_at hl 2 rfl) ?_
      refine lv_aload_n hx hb dX8_packet_20 rfl (lv_at hl 0 rfl) ?_
      refine gf_8_74 C hh dX8_packet_21 ?_
      refine lv_iload_n hx hb dX8_packet_24 rfl (lv_at hl 1 rfl) ?_
      obtain ⟨b6, h⟩ := gd_e h
      refine al_826 C hh b6 dX8_packet_25 ?_
      refine lv_icmp_lt (tgt := 33) hx hb dX8_packet_26 (by decide) (fun c7 => ?_) (fun c7 => ?_)
      · rw [if_pos c7] at h
        refine lv_iconst (v := (0 : Int32)) hx hb dX8_packet_33 (by decide) ?_
        exact k_X8_packet_34 C x1 x2 (0 : Int32) s2 h hh (lv_sub hl [0, 1, 2] rfl)
      · rw [if_neg c7] at h
        exact k_X8_packet_29 C x1 x2 s2 h hh (lv_sub hl [0, 1, 2] rfl)
  · rw [if_pos c4] at h
    refine lv_iconst (v := (1 : Int32)) hx hb dX8_packet_9 (by decide) ?_
    refine lv_goto (tgt := 34) hx hb dX8_packet_10 (by decide) ?_
    exact k_X8_packet_34 C x1 x2 (1 : Int32) s2 h hh (lv_sub hl [0, 1, 2] rfl)
abbrev rm_X8_remove : Room := { frames := 0, cells := 0, slots := 0, locals := 0 }
theorem HD_X8_remove : yX8_remove.cls = RX8 ∧ yX8_remove.cls ≠ "java/lang/invoke/MethodHandle" ∧ yX8_remove.cls ≠ "java/lang/invoke/VarHandle" ∧ (parseMethodDescriptor yX8_remove.desc).map (fun d => d.parameters.length) = some 1 := by decide +kernel
def f_X8_remove_59 : Nat → Int32 → Mem → Option (Mem)
  | 0, _, _ => none
  | n + 1, x2, σ => (if ((64 : Int32) * (σ 823 0 0)) ≤ x2 then some σ else gd (vin (x2 + (64 : Int32)) 3840) (gd (vin x2 3840) (vl (up σ 827 0 (x2).toNatClampNeg (σ 827 0 ((x2 + (64 : Int32))).toNatClampNeg)) (fun s4 => vl (x2 + (1 : Int32)) (fun v6 => f_X8_remove_59 n v6 s4)))))
set_option maxHeartbeats 4000000 in
set_option maxRecDepth 100000 in
theorem k_X8_remove_59 {p : Program} {l : Launch} {e : Env} {s : State} {m : MethodId} {args : Array Value} {below : List Frame} {meth : Method} {c : Code} {D : va_G} {cA : Nat → ClassId} {ad : Nat → Nat → Nat} {A : Nat → Prop} {o : Nat → Int64} (C : Cx p s m args meth c cX8_remove 3 RX8 none D cA ad A o) {r : Mem} : ∀ (n : Nat) (x2 : Int32) (σ : Mem) {H : Heap} {locs : List Loc} (h : f_X8_remove_59 n x2 σ = some r) (hh : HH D cA ad A o s σ H locs) {ls : Array Slot} (hl : lv_has ls 3 [(0, .ref (ad 899 0)), (2, .int x2)]), W p l e rm_X8_remove s m args below meth c H locs 0 0 (MQ below (Qv D cA ad o A r) args s 0 0 A) (F0 m 59 ls []) := by
  obtain ⟨⟨hx, hb, hml, hown, hts⟩, hK, hN, hD, hr, hlocks⟩ := id C
  intro n
  induction n with
  | zero =>
    intro x2 σ H locs h
    rw [f_X8_remove_59.eq_1] at h
    cases h
  | succ n ih =>
    intro x2 σ H locs h hh ls hl
    rw [f_X8_remove_59.eq_2] at h
    refine lv_iload_n hx hb dX8_remove_59 rfl (lv_at hl 1 rfl) ?_
    refine lv_bipush (v := (64 : Int32)) hx hb dX8_remove_60 (by decide) ?_
    refine lv_aload_n hx hb dX8_remove_62 rfl (lv_at hl 0 rfl) ?_
    refine gf_8_121 C hh dX8_remove_63 ?_
    refine lv_imul hx hb dX8_remove_66 ?_
    refine lv_icmp_ge (tgt := 91) hx hb dX8_remove_67 (by decide) (fun c1 => ?_) (fun c1 => ?_)
    · rw [if_pos c1] at h
      exact r_void C hh h dX8_remove_91
    · rw [if_neg c1] at h
      refine lv_aload_n hx hb dX8_remove_70 rfl (lv_at hl 0 rfl) ?_
      refine gf_8_77 C hh dX8_remove_71 ?_
      refine lv_iload_n hx hb dX8_remove_74 rfl (lv_at hl 1 rfl) ?_
      refine lv_aload_n hx hb dX8_remove_75 rfl (lv_at hl 0 rfl) ?_
      refine gf_8_77 C hh dX8_remove_76 ?_
      refine lv_iload_n hx hb dX8_remove_79 rfl (lv_at hl 1 rfl) ?_
      refine lv_bipush (v := (64 : Int32)) hx hb dX8_remove_80 (by decide) ?_
      refine lv_iadd hx hb dX8_remove_82 ?_
      obtain ⟨b2, h⟩ := gd_e h
      refine al_827 C hh b2 dX8_remove_83 ?_
      obtain ⟨b3, h⟩ := gd_e h
      obtain ⟨s4, e5, h⟩ := vl_e h
      refine as_827 C hh b3 dX8_remove_84 (fun H locs hh => ?_)
      rw [← e5] at hh
      obtain ⟨v6, e7, h⟩ := vl_e h
      refine lv_iinc (v := v6) (lv' := [(2, .int v6), (0, .ref (ad 899 0))]) hx hb dX8_remove_85 hl (k := 1) rfl (by rw [e7]; rfl) (by decide) rfl (fun ls hl => ?_)
      refine lv_goto (tgt := 59) hx hb dX8_remove_88 (by decide) ?_
      exact ih v6 s4 h hh (lv_sub hl [1, 0] rfl)
def f_X8_remove_12 : Nat → Int32 → Int32 → Mem → Option (Mem)
  | 0, _, _, _ => none
  | n + 1, x1, x2, σ => (if (σ 823 0 0) ≤ x2 then vl (((64 : Int32) * x1)) (fun v2 => f_X8_remove_59 5000 v2 σ) else gd (vin (x2 + (1 : Int32)) 60) (gd (vin x2 60) (vl (up σ 825 0 (x2).toNatClampNeg (σ 825 0 ((x2 + (1 : Int32))).toNatClampNeg)) (fun s6 => gd (vin (x2 + (1 : Int32)) 60) (gd (vin x2 60) (vl (up s6 826 0 (x2).toNatClampNeg (s6 826 0 ((x2 + (1 : Int32))).toNatClampNeg)) (fun s10 => vl (x2 + (1 : Int32)) (fun v12 => f_X8_remove_12 n x1 v12 s10))))))))
set_option maxHeartbeats 4000000 in
set_option maxRecDepth 100000 in
theorem k_X8_remove_12 {p : Program} {l : Launch} {e : Env} {s : State} {m : MethodId} {args : Array Value} {below : List Frame} {meth : Method} {c : Code} {D : va_G} {cA : Nat → ClassId} {ad : Nat → Nat → Nat} {A : Nat → Prop} {o : Nat → Int64} (C : Cx p s m args meth c cX8_remove 3 RX8 none D cA ad A o) {r : Mem} : ∀ (n : Nat) (x1 : Int32) (x2 : Int32) (σ : Mem) {H : Heap} {locs : List Loc} (h : f_X8_remove_12 n x1 x2 σ = some r) (hh : HH D cA ad A o s σ H locs) {ls : Array Slot} (hl : lv_has ls 3 [(0, .ref (ad 899 0)), (1, .int x1), (2, .int x2)]), W p l e rm_X8_remove s m args below meth c H locs 0 0 (MQ below (Qv D cA ad o A r) args s 0 0 A) (F0 m 12 ls []) := by
  obtain ⟨⟨hx, hb, hml, hown, hts⟩, hK, hN, hD, hr, hlocks⟩ := id C
  intro n
  induction n with
  | zero =>
    intro x1 x2 σ H locs h
    rw [f_X8_remove_12.eq_1] at h
    cases h
  | succ n ih =>
    intro x1 x2 σ H locs h hh ls hl
    rw [f_X8_remove_12.eq_2] at h
    refine lv_iload_n hx hb dX8_remove_12 rfl (lv_at hl 2 rfl) ?_
    refine lv_aload_n hx hb dX8_remove_13 rfl (lv_at hl 0 rfl) ?_
    refine gf_8_121 C hh dX8_remove_14 ?_
    refine lv_icmp_ge (tgt := 54) hx hb dX8_remove_17 (by decide) (fun c1 => ?_) (fun c1 => ?_)
    · rw [if_pos c1] at h
      refine lv_bipush (v := (64 : Int32)) hx hb dX8_remove_54 (by decide) ?_
      refine lv_iload_n hx hb dX8_remove_56 rfl (lv_at hl 1 rfl) ?_
      refine lv_imul hx hb dX8_remove_57 ?_
      obtain ⟨v2, e3, h⟩ := vl_e h
      refine lv_nm e3 ?_
      refine lv_istore_n (lv' := [(2, .int v2), (0, .ref (ad 899 0)), (1, .int x1)]) hx hb dX8_remove_58 rfl hl (by decide) rfl (fun ls hl => ?_)
      exact k_X8_remove_59 C 5000 v2 σ h hh (lv_sub hl [1, 0] rfl)
    · rw [if_neg c1] at h
      refine lv_aload_n hx hb dX8_remove_20 rfl (lv_at hl 0 rfl) ?_
      refine gf_8_71 C hh dX8_remove_21 ?_
      refine lv_iload_n hx hb dX8_remove_24 rfl (lv_at hl 2 rfl) ?_
      refine lv_aload_n hx hb dX8_remove_25 rfl (lv_at hl 0 rfl) ?_
      refine gf_8_71 C hh dX8_remove_26 ?_
      refine lv_iload_n hx hb dX8_remove_29 rfl (lv_at hl 2 rfl) ?_
      refine lv_iconst (v := (1 : Int32)) hx hb dX8_remove_30 (by decide) ?_
      refine lv_iadd hx hb dX8_remove_31 ?_
      obtain ⟨b4, h⟩ := gd_e h
      refine al_825 C hh b4 dX8_remove_32 ?_
      obtain ⟨b5, h⟩ := gd_e h
      obtain ⟨s6, e7, h⟩ := vl_e h
      refine as_825 C hh b5 dX8_remove_33 (fun H locs hh => ?_)
      rw [← e7] at hh
      refine lv_aload_n hx hb dX8_remove_34 rfl (lv_at hl 0 rfl) ?_
      refine gf_8_74 C hh dX8_remove_35 ?_
      refine lv_iload_n hx hb dX8_remove_38 rfl (lv_at hl 2 rfl) ?_
      refine lv_aload_n hx hb dX8_remove_39 rfl (lv_at hl 0 rfl) ?_
      refine gf_8_74 C hh dX8_remove_40 ?_
      refine lv_iload_n hx hb dX8_remove_43 rfl (lv_at hl 2 rfl) ?_
      refine lv_iconst (v := (1 : Int32)) hx hb dX8_remove_44 (by decide) ?_
      refine lv_iadd hx hb dX8_remove_45 ?_
      obtain ⟨b8, h⟩ := gd_e h
      refine al_826 C hh b8 dX8_remove_46 ?_
      obtain ⟨b9, h⟩ := gd_e h
      obtain ⟨s10, e11, h⟩ := vl_e h
      refine as_826 C hh b9 dX8_remove_47 (fun H locs hh => ?_)
      rw [← e11] at hh
      obtain ⟨v12, e13, h⟩ := vl_e h
      refine lv_iinc (v := v12) (lv' := [(2, .int v12), (0, .ref (ad 899 0)), (1, .int x1)]) hx hb dX8_remove_48 hl (k := 2) rfl (by rw [e13]; rfl) (by decide) rfl (fun ls hl => ?_)
      refine lv_goto (tgt := 12) hx hb dX8_remove_51 (by decide) ?_
      exact ih x1 v12 s10 h hh (lv_sub hl [1, 2, 0] rfl)
def f_X8_remove (x1 : Int32) (σ : Mem) : Option (Mem) := vl (up σ 823 0 0 ((σ 823 0 0) - (1 : Int32))) (fun s1 => f_X8_remove_12 5000 x1 x1 s1)
set_option maxHeartbeats 4000000 in
set_option maxRecDepth 100000 in
theorem c_X8_remove {l : Launch} {D : va_G} {cA : Nat → ClassId} {ad : Nat → Nat → Nat} {A : Nat → Prop} {o : Nat → Int64} (hD0 : ∀ σ, va_D A (wW cA ad σ o)) (x1 : Int32) (σ : Mem) {r : Mem} (h : f_X8_remove x1 σ = some r) : Met l yX8_remove (wsG yX8_remove cX8_remove 3 none) rm_X8_remove (va_Pc [.ref (ad 899 0), .int x1] (IW D cA ad o σ)) (Qv D cA ad o A r) 0 0 A := by
  refine metG (by decide) (Nat.le_of_ble_eq_true rfl) hD0 ?_
  intro p e s m args below meth c C ls hh hl
  have C : Cx p s m args meth c cX8_remove 3 RX8 none D cA ad A o := C
  have hl : lv_has ls 3 [(0, .ref (ad 899 0)), (1, .int x1)] := hl
  obtain ⟨⟨hx, hb, hml, hown, hts⟩, hK, hN, hD, hr, hlocks⟩ := id C
  unfold f_X8_remove at h
  refine lv_aload_n hx hb dX8_remove_0 rfl (lv_at hl 0 rfl) ?_
  refine lv_dup hx hb dX8_remove_1 rfl ?_
  refine gf_8_121 C hh dX8_remove_2 ?_
  refine lv_iconst (v := (1 : Int32)) hx hb dX8_remove_5 (by decide) ?_
  refine lv_isub hx hb dX8_remove_6 ?_
  obtain ⟨s1, e2, h⟩ := vl_e h
  refine pf_8_121 C hh dX8_remove_7 (fun H locs hh => ?_)
  rw [← e2] at hh
  refine lv_iload_n hx hb dX8_remove_10 rfl (lv_at hl 1 rfl) ?_
  refine lv_istore_n (lv' := [(2, .int x1), (0, .ref (ad 899 0)), (1, .int x1)]) hx hb dX8_remove_11 rfl hl (by decide) rfl (fun ls hl => ?_)
  exact k_X8_remove_12 C 5000 x1 x1 s1 h hh (lv_sub hl [1, 2, 0] rfl)
