abbrev rm_X8_make : Room := { frames := 1, cells := 0, slots := 0, locals := 22 }
theorem HD_X8_make : yX8_make.cls = RX8 ∧ yX8_make.cls ≠ "java/lang/invoke/MethodHandle" ∧ yX8_make.cls ≠ "java/lang/invoke/VarHandle" ∧ (parseMethodDescriptor yX8_make.desc).map (fun d => d.parameters.length) = some 7 := by decide +kernel
def f_X8_make (x1 : Int32) (x2 : Int32) (x3 : Int32) (x4 : Int32) (x5 : Int32) (x6 : Int32) (x7 : Int32) (σ : Mem) : Option (Mem) := gd (vin (0 : Int32) 64) (vl (up σ 829 0 ((0 : Int32)).toNatClampNeg x1) (fun s2 => gd (vin (1 : Int32) 64) (vl (up s2 829 0 ((1 : Int32)).toNatClampNeg (0 : Int32)) (fun s5 => bv (f_X8_putFour (2 : Int32) x2 s5) (fun s8 => bv (f_X8_putFour (6 : Int32) x3 s8) (fun s10 => bv (f_X8_putFour (10 : Int32) x4 s10) (fun s12 => bv (f_X8_putFour (14 : Int32) x5 s12) (fun s14 => gd (vin (18 : Int32) 64) (vl (up s14 829 0 ((18 : Int32)).toNatClampNeg x6) (fun s16 => gd (vin (19 : Int32) 64) (vl (up s16 829 0 ((19 : Int32)).toNatClampNeg (53 : Int32)) (fun s19 => gd (vin (20 : Int32) 64) (vl (up s19 829 0 ((20 : Int32)).toNatClampNeg (1 : Int32)) (fun s22 => gd (vin (21 : Int32) 64) (vl (up s22 829 0 ((21 : Int32)).toNatClampNeg x7) (fun s25 => vl (up s25 828 0 0 (22 : Int32)) (fun s27 => some s27)))))))))))))))))
set_option maxHeartbeats 4000000 in
set_option maxRecDepth 100000 in
theorem c_X8_make {l : Launch} {D : va_G} {cA : Nat → ClassId} {ad : Nat → Nat → Nat} {A : Nat → Prop} {o : Nat → Int64} (hD0 : ∀ σ, va_D A (wW cA ad σ o)) (x1 : Int32) (x2 : Int32) (x3 : Int32) (x4 : Int32) (x5 : Int32) (x6 : Int32) (x7 : Int32) (σ : Mem) {r : Mem} (h : f_X8_make x1 x2 x3 x4 x5 x6 x7 σ = some r) : Met l yX8_make (wsG yX8_make cX8_make 8 none) rm_X8_make (va_Pc [.ref (ad 899 0), .int x1, .int x2, .int x3, .int x4, .int x5, .int x6, .int x7] (IW D cA ad o σ)) (Qv D cA ad o A r) 0 0 A := by
  refine metG (by decide) (Nat.le_of_ble_eq_true rfl) hD0 ?_
  intro p e s m args below meth c C ls hh hl
  have C : Cx p s m args meth c cX8_make 8 RX8 none D cA ad A o := C
  have hl : lv_has ls 8 [(0, .ref (ad 899 0)), (1, .int x1), (2, .int x2), (3, .int x3), (4, .int x4), (5, .int x5), (6, .int x6), (7, .int x7)] := hl
  obtain ⟨⟨hx, hb, hml, hown, hts⟩, hK, hN, hD, hr, hlocks⟩ := id C
  unfold f_X8_make at h
  refine lv_aload_n hx hb dX8_make_0 rfl (lv_at hl 0 rfl) ?_
  refine gf_8_80 C hh dX8_make_1 ?_
  refine lv_iconst (v := (0 : Int32)) hx hb dX8_make_4 (by decide) ?_
  refine lv_iload_n hx hb dX8_make_5 rfl (lv_at hl 1 rfl) ?_
  obtain ⟨b1, h⟩ := gd_e h
  obtain ⟨s2, e3, h⟩ := vl_e h
  refine as_829 C hh b1 dX8_make_6 (fun H locs hh => ?_)
  rw [← e3] at hh
  refine lv_aload_n hx hb dX8_make_7 rfl (lv_at hl 0 rfl) ?_
  refine gf_8_80 C hh dX8_make_8 ?_
  refine lv_iconst (v := (1 : Int32)) hx hb dX8_make_11 (by decide) ?_
  refine lv_iconst (v := (0 : Int32)) hx hb dX8_make_12 (by decide) ?_
  obtain ⟨b4, h⟩ := gd_e h
  obtain ⟨s5, e6, h⟩ := vl_e h
  refine as_829 C hh b4 dX8_make_13 (fun H locs hh => ?_)
  rw [← e6] at hh
  refine lv_aload_n hx hb dX8_make_14 rfl (lv_at hl 0 rfl) ?_
  refine lv_iconst (v := (2 : Int32)) hx hb dX8_make_15 (by decide) ?_
  refine lv_iload_n hx hb dX8_make_16 rfl (lv_at hl 2 rfl) ?_
  obtain ⟨s8, e7, h⟩ := bv_e h
  refine c_void hh (vrun (rest := []) C hh (c_X8_putFour C.2.2.2.1 (2 : Int32) x2 s5 e7) LM_8_127 IM_X8_putFour SL_X8_putFour IN_8 CD_X8_putFour HD_X8_putFour ⟨rfl, rfl, Nat.le_of_ble_eq_true rfl, Nat.le_of_ble_eq_true rfl⟩ (rv_8 C hh) rfl hl.1 rfl (Nat.le_of_ble_eq_true rfl) dX8_make_17 ⟨Nat.zero_le _, Nat.zero_le _⟩) (fun H locs hh => ?_)
  refine lv_aload_n hx hb dX8_make_20 rfl (lv_at hl 0 rfl) ?_
  refine lv_bipush (v := (6 : Int32)) hx hb dX8_make_21 (by decide) ?_
  refine lv_iload_n hx hb dX8_make_23 rfl (lv_at hl 3 rfl) ?_
  obtain ⟨s10, e9, h⟩ := bv_e h
  refine c_void hh (vrun (rest := []) C hh (c_X8_putFour C.2.2.2.1 (6 : Int32) x3 s8 e9) LM_8_127 IM_X8_putFour SL_X8_putFour IN_8 CD_X8_putFour HD_X8_putFour ⟨rfl, rfl, Nat.le_of_ble_eq_true rfl, Nat.le_of_ble_eq_true rfl⟩ (rv_8 C hh) rfl hl.1 rfl (Nat.le_of_ble_eq_true rfl) dX8_make_24 ⟨Nat.zero_le _, Nat.zero_le _⟩) (fun H locs hh => ?_)
  refine lv_aload_n hx hb dX8_make_27 rfl (lv_at hl 0 rfl) ?_
  refine lv_bipush (v := (10 : Int32)) hx hb dX8_make_28 (by decide) ?_
  refine lv_iload hx hb dX8_make_30 (lv_at hl 4 rfl) ?_
  obtain ⟨s12, e11, h⟩ := bv_e h
  refine c_void hh (vrun (rest := []) C hh (c_X8_putFour C.2.2.2.1 (10 : Int32) x4 s10 e11) LM_8_127 IM_X8_putFour SL_X8_putFour IN_8 CD_X8_putFour HD_X8_putFour ⟨rfl, rfl, Nat.le_of_ble_eq_true rfl, Nat.le_of_ble_eq_true rfl⟩ (rv_8 C hh) rfl hl.1 rfl (Nat.le_of_ble_eq_true rfl) dX8_make_32 ⟨Nat.zero_le _, Nat.zero_le _⟩) (fun H locs hh => ?_)
  refine lv_aload_n hx hb dX8_make_35 rfl (lv_at hl 0 rfl) ?_
  refine lv_bipush (v := (14 : Int32)) hx hb dX8_make_36 (by decide) ?_
  refine lv_iload hx hb dX8_make_38 (lv_at hl 5 rfl) ?_
  obtain ⟨s14, e13, h⟩ := bv_e h
  refine c_void hh (vrun (rest := []) C hh (c_X8_putFour C.2.2.2.1 (14 : Int32) x5 s12 e13) LM_8_127 IM_X8_putFour SL_X8_putFour IN_8 CD_X8_putFour HD_X8_putFour ⟨rfl, rfl, Nat.le_of_ble_eq_true rfl, Nat.le_of_ble_eq_true rfl⟩ (rv_8 C hh) rfl hl.1 rfl (Nat.le_of_ble_eq_true rfl) dX8_make_40 ⟨Nat.zero_le _, Nat.zero_le _⟩) (fun H locs hh => ?_)
  refine lv_aload_n hx hb dX8_make_43 rfl (lv_at hl 0 rfl) ?_
  refine gf_8_80 C hh dX8_make_44 ?_
  refine lv_bipush (v := (18 : Int32)) hx hb dX8_make_47 (by decide) ?_
  refine lv_iload hx hb dX8_make_49 (lv_at hl 6 rfl) ?_
  obtain ⟨b15, h⟩ := gd_e h
  obtain ⟨s16, e17, h⟩ := vl_e h
  refine as_829 C hh b15 dX8_make_51 (fun H locs hh => ?_)
  rw [← e17] at hh
  refine lv_aload_n hx hb dX8_make_52 rfl (lv_at hl 0 rfl) ?_
  refine gf_8_80 C hh dX8_make_53 ?_
  refine lv_bipush (v := (19 : Int32)) hx hb dX8_make_56 (by decide) ?_
  refine lv_bipush (v := (53 : Int32)) hx hb dX8_make_58 (by decide) ?_
  obtain ⟨b18, h⟩ := gd_e h
  obtain ⟨s19, e20, h⟩ := vl_e h
  refine as_829 C hh b18 dX8_make_60 (fun H locs hh => ?_)
  rw [← e20] at hh
  refine lv_aload_n hx hb dX8_make_61 rfl (lv_at hl 0 rfl) ?_
  refine gf_8_80 C hh dX8_make_62 ?_
  refine lv_bipush (v := (20 : Int32)) hx hb dX8_make_65 (by decide) ?_
  refine lv_iconst (v := (1 : Int32)) hx hb dX8_make_67 (by decide) ?_
  obtain ⟨b21, h⟩ := gd_e h
  obtain ⟨s22, e23, h⟩ := vl_e h
  refine as_829 C hh b21 dX8_make_68 (fun H locs hh => ?_)
  rw [← e23] at hh
  refine lv_aload_n hx hb dX8_make_69 rfl (lv_at hl 0 rfl) ?_
  refine gf_8_80 C hh dX8_make_70 ?_
  refine lv_bipush (v := (21 : Int32)) hx hb dX8_make_73 (by decide) ?_
  refine lv_iload hx hb dX8_make_75 (lv_at hl 7 rfl) ?_
  obtain ⟨b24, h⟩ := gd_e h
  obtain ⟨s25, e26, h⟩ := vl_e h
  refine as_829 C hh b24 dX8_make_77 (fun H locs hh => ?_)
  rw [← e26] at hh
  refine lv_aload_n hx hb dX8_make_78 rfl (lv_at hl 0 rfl) ?_
  refine lv_bipush (v := (22 : Int32)) hx hb dX8_make_79 (by decide) ?_
  obtain ⟨s27, e28, h⟩ := vl_e h
  refine pf_8_110 C hh dX8_make_81 (fun H locs hh => ?_)
  rw [← e28] at hh
  exact r_void C hh h dX8_make_84
abbrev rm_X8_option : Room := { frames := 1, cells := 0, slots := 0, locals := 22 }
theorem HD_X8_option : yX8_option.cls = RX8 ∧ yX8_option.cls ≠ "java/lang/invoke/MethodHandle" ∧ yX8_option.cls ≠ "java/lang/invoke/VarHandle" ∧ (parseMethodDescriptor yX8_option.desc).map (fun d => d.parameters.length) = some 2 := by decide +kernel
def f_X8_option (x1 : Int32) (x2 : Int32) (σ : Mem) : Option (Mem) := gd (vin (σ 828 0 0) 64) (vl (up σ 829 0 ((σ 828 0 0)).toNatClampNeg x1) (fun s2 => gd (vin ((s2 828 0 0) + (1 : Int32)) 64) (vl (up s2 829 0 (((s2 828 0 0) + (1 : Int32))).toNatClampNeg (4 : Int32)) (fun s5 => bv (f_X8_putFour ((s5 828 0 0) + (2 : Int32)) x2 s5) (fun s8 => vl (up s8 828 0 0 ((s8 828 0 0) + (6 : Int32))) (fun s9 => some s9))))))
set_option maxHeartbeats 4000000 in
set_option maxRecDepth 100000 in
theorem c_X8_option {l : Launch} {D : va_G} {cA : Nat → ClassId} {ad : Nat → Nat → Nat} {A : Nat → Prop} {o : Nat → Int64} (hD0 : ∀ σ, va_D A (wW cA ad σ o)) (x1 : Int32) (x2 : Int32) (σ : Mem) {r : Mem} (h : f_X8_option x1 x2 σ = some r) : Met l yX8_option (wsG yX8_option cX8_option 3 none) rm_X8_option (va_Pc [.ref (ad 899 0), .int x1, .int x2] (IW D cA ad o σ)) (Qv D cA ad o A r) 0 0 A := by
  refine metG (by decide) (Nat.le_of_ble_eq_true rfl) hD0 ?_
  intro p e s m args below meth c C ls hh hl
  have C : Cx p s m args meth c cX8_option 3 RX8 none D cA ad A o := C
  have hl : lv_has ls 3 [(0, .ref (ad 899 0)), (1, .int x1), (2, .int x2)] := hl
  obtain ⟨⟨hx, hb, hml, hown, hts⟩, hK, hN, hD, hr, hlocks⟩ := id C
  unfold f_X8_option at h
  refine lv_aload_n hx hb dX8_option_0 rfl (lv_at hl 0 rfl) ?_
  refine gf_8_80 C hh dX8_option_1 ?_
  refine lv_aload_n hx hb dX8_option_4 rfl (lv_at hl 0 rfl) ?_
  refine gf_8_110 C hh dX8_option_5 ?_
  refine lv_iload_n hx hb dX8_option_8 rfl (lv_at hl 1 rfl) ?_
  obtain ⟨b1, h⟩ := gd_e h
  obtain ⟨s2, e3, h⟩ := vl_e h
  refine as_829 C hh b1 dX8_option_9 (fun H locs hh => ?_)
  rw [← e3] at hh
  refine lv_aload_n hx hb dX8_option_10 rfl (lv_at hl 0 rfl) ?_
  refine gf_8_80 C hh dX8_option_11 ?_
  refine lv_aload_n hx hb dX8_option_14 rfl (lv_at hl 0 rfl) ?_
  refine gf_8_110 C hh dX8_option_15 ?_
  refine lv_iconst (v := (1 : Int32)) hx hb dX8_option_18 (by decide) ?_
  refine lv_iadd hx hb dX8_option_19 ?_
  refine lv_iconst (v := (4 : Int32)) hx hb dX8_option_20 (by decide) ?_
  obtain ⟨b4, h⟩ := gd_e h
  obtain ⟨s5, e6, h⟩ := vl_e h
  refine as_829 C hh b4 dX8_option_21 (fun H locs hh => ?_)
  rw [← e6] at hh
  refine lv_aload_n hx hb dX8_option_22 rfl (lv_at hl 0 rfl) ?_
  refine lv_aload_n hx hb dX8_option_23 rfl (lv_at hl 0 rfl) ?_
  refine gf_8_110 C hh dX8_option_24 ?_
  refine lv_iconst (v := (2 : Int32)) hx hb dX8_option_27 (by decide) ?_
  refine lv_iadd hx hb dX8_option_28 ?_
  refine lv_iload_n hx hb dX8_option_29 rfl (lv_at hl 2 rfl) ?_
  obtain ⟨s8, e7, h⟩ := bv_e h
  refine c_void hh (vrun (rest := []) C hh (c_X8_putFour C.2.2.2.1 ((s5 828 0 0) + (2 : Int32)) x2 s5 e7) LM_8_127 IM_X8_putFour SL_X8_putFour IN_8 CD_X8_putFour HD_X8_putFour ⟨rfl, rfl, Nat.le_of_ble_eq_true rfl, Nat.le_of_ble_eq_true rfl⟩ (rv_8 C hh) rfl hl.1 rfl (Nat.le_of_ble_eq_true rfl) dX8_option_30 ⟨Nat.zero_le _, Nat.zero_le _⟩) (fun H locs hh => ?_)
  refine lv_aload_n hx hb dX8_option_33 rfl (lv_at hl 0 rfl) ?_
  refine lv_aload_n hx hb dX8_option_34 rfl (lv_at hl 0 rfl) ?_
  refine gf_8_110 C hh dX8_option_35 ?_
  refine lv_bipush (v := (6 : Int32)) hx hb dX8_option_38 (by decide) ?_
  refine lv_iadd hx hb dX8_option_40 ?_
  obtain ⟨s9, e10, h⟩ := vl_e h
  refine pf_8_110 C hh dX8_option_41 (fun H locs hh => ?_)
  rw [← e10] at hh
  exact r_void C hh h dX8_option_44
abbrev rm_X8_finish : Room := { frames := 0, cells := 0, slots := 0, locals := 0 }
theorem HD_X8_finish : yX8_finish.cls = RX8 ∧ yX8_finish.cls ≠ "java/lang/invoke/MethodHandle" ∧ yX8_finish.cls ≠ "java/lang/invoke/VarHandle" ∧ (parseMethodDescriptor yX8_finish.desc).map (fun d => d.parameters.length) = some 0 := by decide +kernel
def f_X8_finish (σ : Mem) : Option (Mem) := gd (vin (σ 828 0 0) 64) (vl (up σ 829 0 ((σ 828 0 0)).toNatClampNeg (255 : Int32)) (fun s2 => vl (up s2 828 0 0 ((s2 828 0 0) + (1 : Int32))) (fun s4 => some s4)))
set_option maxHeartbeats 4000000 in
set_option maxRecDepth 100000 in
theorem c_X8_finish {l : Launch} {D : va_G} {cA : Nat → ClassId} {ad : Nat → Nat → Nat} {A : Nat → Prop} {o : Nat → Int64} (hD0 : ∀ σ, va_D A (wW cA ad σ o)) (σ : Mem) {r : Mem} (h : f_X8_finish σ = some r) : Met l yX8_finish (wsG yX8_finish cX8_finish 1 none) rm_X8_finish (va_Pc [.ref (ad 899 0)] (IW D cA ad o σ)) (Qv D cA ad o A r) 0 0 A := by
  refine metG (by decide) (Nat.le_of_ble_eq_true rfl) hD0 ?_
  intro p e s m args below meth c C ls hh hl
  have C : Cx p s m args meth c cX8_finish 1 RX8 none D cA ad A o := C
  have hl : lv_has ls 1 [(0, .ref (ad 899 0))] := hl
  obtain ⟨⟨hx, hb, hml, hown, hts⟩, hK, hN, hD, hr, hlocks⟩ := id C
  unfold f_X8_finish at h
  refine lv_aload_n hx hb dX8_finish_0 rfl (lv_at hl 0 rfl) ?_
  refine gf_8_80 C hh dX8_finish_1 ?_
  refine lv_aload_n hx hb dX8_finish_4 rfl (lv_at hl 0 rfl) ?_
  refine gf_8_110 C hh dX8_finish_5 ?_
  refine lv_sipush (v := (255 : Int32)) hx hb dX8_finish_8 (by decide) ?_
  obtain ⟨b1, h⟩ := gd_e h
  obtain ⟨s2, e3, h⟩ := vl_e h
  refine as_829 C hh b1 dX8_finish_11 (fun H locs hh => ?_)
  rw [← e3] at hh
  refine lv_aload_n hx hb dX8_finish_12 rfl (lv_at hl 0 rfl) ?_
  refine lv_dup hx hb dX8_finish_13 rfl ?_
  refine gf_8_110 C hh dX8_finish_14 ?_
  refine lv_iconst (v := (1 : Int32)) hx hb dX8_finish_17 (by decide) ?_
  refine lv_iadd hx hb dX8_finish_18 ?_
  obtain ⟨s4, e5, h⟩ := vl_e h
  refine pf_8_110 C hh dX8_finish_19 (fun H locs hh => ?_)
  rw [← e5] at hh
  exact r_void C hh h dX8_finish_22
abbrev rm_X8_isInPool : Room := { frames := 0, cells := 0, slots := 0, locals := 0 }
theorem HD_X8_isInPool : yX8_isInPool.cls = RX8 ∧ yX8_isInPool.cls ≠ "java/lang/invoke/MethodHandle" ∧ yX8_isInPool.cls ≠ "java/lang/invoke/VarHandle" ∧ (parseMethodDescriptor yX8_isInPool.desc).map (fun d => d.parameters.length) = some 2 := by decide +kernel
def f_X8_isInPool (x1 : Int32) (x2 : Int32) (σ : Mem) : Option (Int32 × Mem) := vl ((x2 - ((256 : Int32) * x1))) (fun v1 => gd (vin x1 4) ((if (σ 803 0 (x1).toNatClampNeg) ≤ (0 : Int32) then some ((0 : Int32), σ) else gd (vin x1 4) ((if v1 < (σ 802 0 (x1).toNatClampNeg) then some ((0 : Int32), σ) else gd (vin x1 4) ((if (σ 803 0 (x1).toNatClampNeg) < v1 then some ((0 : Int32), σ) else some ((1 : Int32), σ))))))))
set_option maxHeartbeats 4000000 in
set_option maxRecDepth 100000 in
theorem c_X8_isInPool {l : Launch} {D : va_G} {cA : Nat → ClassId} {ad : Nat → Nat → Nat} {A : Nat → Prop} {o : Nat → Int64} (hD0 : ∀ σ, va_D A (wW cA ad σ o)) (x1 : Int32) (x2 : Int32) (σ : Mem) {r : Int32 × Mem} (h : f_X8_isInPool x1 x2 σ = some r) : Met l yX8_isInPool (wsG yX8_isInPool cX8_isInPool 4 (some .boolean)) rm_X8_isInPool (va_Pc [.ref (ad 899 0), .int x1, .int x2] (IW D cA ad o σ)) (Qi D cA ad o A r) 0 0 A := by
  refine metG (by decide) (Nat.le_of_ble_eq_true rfl) hD0 ?_
  intro p e s m args below meth c C ls hh hl
  have C : Cx p s m args meth c cX8_isInPool 4 RX8 (some .boolean) D cA ad A o := C
  have hl : lv_has ls 4 [(0, .ref (ad 899 0)), (1, .int x1), (2, .int x2)] := hl
  obtain ⟨⟨hx, hb, hml, hown, hts⟩, hK, hN, hD, hr, hlocks⟩ := id C
  unfold f_X8_isInPool at h
  refine lv_iload_n hx hb dX8_isInPool_0 rfl (lv_at hl 2 rfl) ?_
  refine lv_sipush (v := (256 : Int32)) hx hb dX8_isInPool_1 (by decide) ?_
  refine lv_iload_n hx hb dX8_isInPool_4 rfl (lv_at hl 1 rfl) ?_
  refine lv_imul hx hb dX8_isInPool_5 ?_
  refine lv_isub hx hb dX8_isInPool_6 ?_
  obtain ⟨v1, e2, h⟩ := vl_e h
  refine lv_nm e2 ?_
  refine lv_istore_n (lv' := [(3, .int v1), (0, .ref (ad 899 0)), (1, .int x1), (2, .int x2)]) hx hb dX8_isInPool_7 rfl hl (by decide) rfl (fun ls hl => ?_)
  refine lv_aload_n hx hb dX8_isInPool_8 rfl (lv_at hl 1 rfl) ?_
  refine gf_8_13 C hh dX8_isInPool_9 ?_
  refine lv_iload_n hx hb dX8_isInPool_12 rfl (lv_at hl 2 rfl) ?_
  obtain ⟨b3, h⟩ := gd_e h
  refine al_803 C hh b3 dX8_isInPool_13 ?_
  refine lv_if_le (tgt := 41) hx hb dX8_isInPool_14 (by decide) (fun c4 => ?_) (fun c4 => ?_)
  · rw [if_pos c4] at h
    refine lv_iconst (v := (0 : Int32)) hx hb dX8_isInPool_41 (by decide) ?_
    exact r_bool C hh (by decide) h dX8_isInPool_42
  · rw [if_neg c4] at h
    refine lv_iload_n hx hb dX8_isInPool_17 rfl (lv_at hl 0 rfl) ?_
    refine lv_aload_n hx hb dX8_isInPool_18 rfl (lv_at hl 1 rfl) ?_
    refine gf_8_7 C hh dX8_isInPool_19 ?_
    refine lv_iload_n hx hb dX8_isInPool_22 rfl (lv_at hl 2 rfl) ?_
    obtain ⟨b5, h⟩ := gd_e h
    refine al_802 C hh b5 dX8_isInPool_23 ?_
    refine lv_icmp_lt (tgt := 41) hx hb dX8_isInPool_24 (by decide) (fun c6 => ?_) (fun c6 => ?_)
    · rw [if_pos c6] at h
      refine lv_iconst (v := (0 : Int32)) hx hb dX8_isInPool_41 (by decide) ?_
      exact r_bool C hh (by decide) h dX8_isInPool_42
    · rw [if_neg c6] at h
      refine lv_iload_n hx hb dX8_isInPool_27 rfl (lv_at hl 0 rfl) ?_
      refine lv_aload_n hx hb dX8_isInPool_28 rfl (lv_at hl 1 rfl) ?_
      refine gf_8_13 C hh dX8_isInPool_29 ?_
      refine lv_iload_n hx hb dX8_isInPool_32 rfl (lv_at hl 2 rfl) ?_
      obtain ⟨b7, h⟩ := gd_e h
      refine al_803 C hh b7 dX8_isInPool_33 ?_
      refine lv_icmp_gt (tgt := 41) hx hb dX8_isInPool_34 (by decide) (fun c8 => ?_) (fun c8 => ?_)
      · rw [if_pos c8] at h
        refine lv_iconst (v := (0 : Int32)) hx hb dX8_isInPool_41 (by decide) ?_
        exact r_bool C hh (by decide) h dX8_isInPool_42
      · rw [if_neg c8] at h
        refine lv_iconst (v := (1 : Int32)) hx hb dX8_isInPool_37 (by decide) ?_
        refine lv_goto (tgt := 42) hx hb dX8_isInPool_38 (by decide) ?_
        exact r_bool C hh (by decide) h dX8_isInPool_42
abbrev rm_X8_isFree : Room := { frames := 0, cells := 0, slots := 0, locals := 0 }
theorem HD_X8_isFree : yX8_isFree.cls = RX8 ∧ yX8_isFree.cls ≠ "java/lang/invoke/MethodHandle" ∧ yX8_isFree.cls ≠ "java/lang/invoke/VarHandle" ∧ (parseMethodDescriptor yX8_isFree.desc).map (fun d => d.parameters.length) = some 1 := by decide +kernel
def f_X8_isFree_22 (σ : Mem) : Option (Int32 × Mem) := some ((1 : Int32), σ)
set_option maxHeartbeats 4000000 in
set_option maxRecDepth 100000 in
theorem k_X8_isFree_22 {p : Program} {l : Launch} {e : Env} {s : State} {m : MethodId} {args : Array Value} {below : List Frame} {meth : Method} {c : Code} {D : va_G} {cA : Nat → ClassId} {ad : Nat → Nat → Nat} {A : Nat → Prop} {o : Nat → Int64} (C : Cx p s m args meth c cX8_isFree 2 RX8 (some .boolean) D cA ad A o) {r : Int32 × Mem} (σ : Mem) {H : Heap} {locs : List Loc} (h : f_X8_isFree_22 σ = some r) (hh : HH D cA ad A o s σ H locs) {ls : Array Slot} (hl : lv_has ls 2 []) : W p l e rm_X8_isFree s m args below meth c H locs 0 0 (MQ below (Qi D cA ad o A r) args s 0 0 A) (F0 m 22 ls []) := by
  obtain ⟨⟨hx, hb, hml, hown, hts⟩, hK, hN, hD, hr, hlocks⟩ := id C
  unfold f_X8_isFree_22 at h
  refine lv_iconst (v := (1 : Int32)) hx hb dX8_isFree_22 (by decide) ?_
  refine lv_goto (tgt := 27) hx hb dX8_isFree_23 (by decide) ?_
  exact r_bool C hh (by decide) h dX8_isFree_27
def f_X8_isFree (x1 : Int32) (σ : Mem) : Option (Int32 × Mem) := gd (vin x1 1024) ((if (σ 807 0 (x1).toNatClampNeg) = (0 : Int32) then f_X8_isFree_22 σ else gd (vin x1 1024) ((if (σ 801 0 0) < (σ 809 0 (x1).toNatClampNeg) then some ((0 : Int32), σ) else f_X8_isFree_22 σ))))
set_option maxHeartbeats 4000000 in
set_option maxRecDepth 100000 in
theorem c_X8_isFree {l : Launch} {D : va_G} {cA : Nat → ClassId} {ad : Nat → Nat → Nat} {A : Nat → Prop} {o : Nat → Int64} (hD0 : ∀ σ, va_D A (wW cA ad σ o)) (x1 : Int32) (σ : Mem) {r : Int32 × Mem} (h : f_X8_isFree x1 σ = some r) : Met l yX8_isFree (wsG yX8_isFree cX8_isFree 2 (some .boolean)) rm_X8_isFree (va_Pc [.ref (ad 899 0), .int x1] (IW D cA ad o σ)) (Qi D cA ad o A r) 0 0 A := by
  refine metG (by decide) (Nat.le_of_ble_eq_true rfl) hD0 ?_
  intro p e s m args below meth c C ls hh hl
  have C : Cx p s m args meth c cX8_isFree 2 RX8 (some .boolean) D cA ad A o := C
  have hl : lv_has ls 2 [(0, .ref (ad 899 0)), (1, .int x1)] := hl
  obtain ⟨⟨hx, hb, hml, hown, hts⟩, hK, hN, hD, hr, hlocks⟩ := id C
  unfold f_X8_isFree at h
  refine lv_aload_n hx hb dX8_isFree_0 rfl (lv_at hl 0 rfl) ?_
  refine gf_8_23 C hh dX8_isFree_1 ?_
  refine lv_iload_n hx hb dX8_isFree_4 rfl (lv_at hl 1 rfl) ?_
  obtain ⟨b1, h⟩ := gd_e h
  refine al_807 C hh b1 dX8_isFree_5 ?_
  refine lv_if_eq (tgt := 22) hx hb dX8_isFree_6 (by decide) (fun c2 => ?_) (fun c2 => ?_)
  · rw [if_pos c2] at h
    exact k_X8_isFree_22 C σ h hh (lv_sub hl [] rfl)
  · rw [if_neg c2] at h
    refine lv_aload_n hx hb dX8_isFree_9 rfl (lv_at hl 0 rfl) ?_
    refine gf_8_29 C hh dX8_isFree_10 ?_
    refine lv_iload_n hx hb dX8_isFree_13 rfl (lv_at hl 1 rfl) ?_
    obtain ⟨b3, h⟩ := gd_e h
    refine al_809 C hh b3 dX8_isFree_14 ?_
    refine lv_aload_n hx hb dX8_isFree_15 rfl (lv_at hl 0 rfl) ?_
    refine gf_8_130 C hh dX8_isFree_16 ?_
    refine lv_icmp_gt (tgt := 26) hx hb dX8_isFree_19 (by decide) (fun c4 => ?_) (fun c4 => ?_)
    · rw [if_pos c4] at h
      refine lv_iconst (v := (0 : Int32)) hx hb dX8_isFree_26 (by decide) ?_
      exact r_bool C hh (by decide) h dX8_isFree_27
    · rw [if_neg c4] at h
      exact k_X8_isFree_22 C σ h hh (lv_sub hl [] rfl)
abbrev rm_X8_isOf : Room := { frames := 0, cells := 0, slots := 0, locals := 0 }
theorem HD_X8_isOf : yX8_isOf.cls = RX8 ∧ yX8_isOf.cls ≠ "java/lang/invoke/MethodHandle" ∧ yX8_isOf.cls ≠ "java/lang/invoke/VarHandle" ∧ (parseMethodDescriptor yX8_isOf.desc).map (fun d => d.parameters.length) = some 2 := by decide +kernel
def f_X8_isOf (x1 : Int32) (x2 : Int32) (σ : Mem) : Option (Int32 × Mem) := gd (vin x1 1024) ((if (σ 807 0 (x1).toNatClampNeg) ≤ (0 : Int32) then some ((0 : Int32), σ) else gd (vin x1 1024) ((if (3 : Int32) ≤ (σ 807 0 (x1).toNatClampNeg) then some ((0 : Int32), σ) else gd (vin x1 1024) ((if (σ 808 0 (x1).toNatClampNeg) = x2 then some ((1 : Int32), σ) else some ((0 : Int32), σ)))))))
set_option maxHeartbeats 4000000 in
set_option maxRecDepth 100000 in
theorem c_X8_isOf {l : Launch} {D : va_G} {cA : Nat → ClassId} {ad : Nat → Nat → Nat} {A : Nat → Prop} {o : Nat → Int64} (hD0 : ∀ σ, va_D A (wW cA ad σ o)) (x1 : Int32) (x2 : Int32) (σ : Mem) {r : Int32 × Mem} (h : f_X8_isOf x1 x2 σ = some r) : Met l yX8_isOf (wsG yX8_isOf cX8_isOf 3 (some .boolean)) rm_X8_isOf (va_Pc [.ref (ad 899 0), .int x1, .int x2] (IW D cA ad o σ)) (Qi D cA ad o A r) 0 0 A := by
  refine metG (by decide) (Nat.le_of_ble_eq_true rfl) hD0 ?_
  intro p e s m args below meth c C ls hh hl
  have C : Cx p s m args meth c cX8_isOf 3 RX8 (some .boolean) D cA ad A o := C
  have hl : lv_has ls 3 [(0, .ref (ad 899 0)), (1, .int x1), (2, .int x2)] := hl
  obtain ⟨⟨hx, hb, hml, hown, hts⟩, hK, hN, hD, hr, hlocks⟩ := id C
  unfold f_X8_isOf at h
  refine lv_aload_n hx hb dX8_isOf_0 rfl (lv_at hl 0 rfl) ?_
  refine gf_8_23 C hh dX8_isOf_1 ?_
  refine lv_iload_n hx hb dX8_isOf_4 rfl (lv_at hl 1 rfl) ?_
  obtain ⟨b1, h⟩ := gd_e h
  refine al_807 C hh b1 dX8_isOf_5 ?_
  refine lv_if_le (tgt := 33) hx hb dX8_isOf_6 (by decide) (fun c2 => ?_) (fun c2 => ?_)
  · rw [if_pos c2] at h
    refine lv_iconst (v := (0 : Int32)) hx hb dX8_isOf_33 (by decide) ?_
    exact r_bool C hh (by decide) h dX8_isOf_34
  · rw [if_neg c2] at h
    refine lv_aload_n hx hb dX8_isOf_9 rfl (lv_at hl 0 rfl) ?_
    refine gf_8_23 C hh dX8_isOf_10 ?_
    refine lv_iload_n hx hb dX8_isOf_13 rfl (lv_at hl 1 rfl) ?_
    obtain ⟨b3, h⟩ := gd_e h
    refine al_807 C hh b3 dX8_isOf_14 ?_
    refine lv_iconst (v := (3 : Int32)) hx hb dX8_isOf_15 (by decide) ?_
    refine lv_icmp_ge (tgt := 33) hx hb dX8_isOf_16 (by decide) (fun c4 => ?_) (fun c4 => ?_)
    · rw [if_pos c4] at h
      refine lv_iconst (v := (0 : Int32)) hx hb dX8_isOf_33 (by decide) ?_
      exact r_bool C hh (by decide) h dX8_isOf_34
    · rw [if_neg c4] at h
      refine lv_aload_n hx hb dX8_isOf_19 rfl (lv_at hl 0 rfl) ?_
      refine gf_8_26 C hh dX8_isOf_20 ?_
      refine lv_iload_n hx hb dX8_isOf_23 rfl (lv_at hl 1 rfl) ?_
      obtain ⟨b5, h⟩ := gd_e h
      refine al_808 C hh b5 dX8_isOf_24 ?_
      refine lv_iload_n hx hb dX8_isOf_25 rfl (lv_at hl 2 rfl) ?_
      refine lv_icmp_ne (tgt := 33) hx hb dX8_isOf_26 (by decide) (fun c6 => ?_) (fun c6 => ?_)
      · rw [if_neg c6] at h
        refine lv_iconst (v := (0 : Int32)) hx hb dX8_isOf_33 (by decide) ?_
        exact r_bool C hh (by decide) h dX8_isOf_34
      · rw [if_pos c6] at h
        refine lv_iconst (v := (1 : Int32)) hx hb dX8_isOf_29 (by decide) ?_
        refine lv_goto (tgt := 34) hx hb dX8_isOf_30 (by decide) ?_
        exact r_bool C hh (by decide) h dX8_isOf_34
abbrev rm_X8_leastOf : Room := { frames := 1, cells := 0, slots := 0, locals := 22 }
theorem HD_X8_leastOf : yX8_leastOf.cls = RX8 ∧ yX8_leastOf.cls ≠ "java/lang/invoke/MethodHandle" ∧ yX8_leastOf.cls ≠ "java/lang/invoke/VarHandle" ∧ (parseMethodDescriptor yX8_leastOf.desc).map (fun d => d.parameters.length) = some 2 := by decide +kernel
def f_X8_leastOf_54 (K10 : Int32 → Int32 → Int32 → Int32 → Mem → Option (Int32 × Mem)) (x1 : Int32) (x2 : Int32) (x4 : Int32) (xs0 : Int32) (σ : Mem) : Option (Int32 × Mem) := vl (x4 + (-1 : Int32)) (fun v1 => K10 x1 x2 xs0 v1 σ)
set_option maxHeartbeats 4000000 in
set_option maxRecDepth 100000 in
theorem k_X8_leastOf_54 {p : Program} {l : Launch} {e : Env} {s : State} {m : MethodId} {args : Array Value} {below : List Frame} {meth : Method} {c : Code} {D : va_G} {cA : Nat → ClassId} {ad : Nat → Nat → Nat} {A : Nat → Prop} {o : Nat → Int64} (C : Cx p s m args meth c cX8_leastOf 5 RX8 (some .int) D cA ad A o) {K10 : Int32 → Int32 → Int32 → Int32 → Mem → Option (Int32 × Mem)} {r : Int32 × Mem} (hK10 : ∀ (x1 : Int32) (x2 : Int32) (x3 : Int32) (x4 : Int32) (σ : Mem) {H : Heap} {locs : List Loc}, K10 x1 x2 x3 x4 σ = some r → HH D cA ad A o s σ H locs → ∀ {ls : Array Slot}, lv_has ls 5 [(0, .ref (ad 899 0)), (1, .int x1), (2, .int x2), (3, .int x3), (4, .int x4)] → W p l e rm_X8_leastOf s m args below meth c H locs 0 0 (MQ below (Qi D cA ad o A r) args s 0 0 A) (F0 m 10 ls [])) (x1 : Int32) (x2 : Int32) (x4 : Int32) (xs0 : Int32) (σ : Mem) {H : Heap} {locs : List Loc} (h : f_X8_leastOf_54 K10 x1 x2 x4 xs0 σ = some r) (hh : HH D cA ad A o s σ H locs) {ls : Array Slot} (hl : lv_has ls 5 [(0, .ref (ad 899 0)), (1, .int x1), (2, .int x2), (4, .int x4)]) : W p l e rm_X8_leastOf s m args below meth c H locs 0 0 (MQ below (Qi D cA ad o A r) args s 0 0 A) (F0 m 54 ls [.int xs0]) := by
  obtain ⟨⟨hx, hb, hml, hown, hts⟩, hK, hN, hD, hr, hlocks⟩ := id C
  unfold f_X8_leastOf_54 at h
  refine lv_istore_n (lv' := [(3, .int xs0), (0, .ref (ad 899 0)), (1, .int x1), (2, .int x2), (4, .int x4)]) hx hb dX8_leastOf_54 rfl hl (by decide) rfl (fun ls hl => ?_)
  obtain ⟨v1, e2, h⟩ := vl_e h
  refine lv_iinc (v := v1) (lv' := [(4, .int v1), (3, .int xs0), (0, .ref (ad 899 0)), (1, .int x1), (2, .int x2)]) hx hb dX8_leastOf_55 hl (k := 4) rfl (by rw [e2]; rfl) (by decide) rfl (fun ls hl => ?_)
  refine lv_goto (tgt := 10) hx hb dX8_leastOf_58 (by decide) ?_
  exact hK10 x1 x2 xs0 v1 σ h hh (lv_sub hl [2, 3, 4, 1, 0] rfl)
def f_X8_leastOf_10 : Nat → Int32 → Int32 → Int32 → Int32 → Mem → Option (Int32 × Mem)
  | 0, _, _, _, _, _ => none
  | n + 1, x1, x2, x3, x4, σ => gd (vin x1 4) ((if x4 < (σ 802 0 (x1).toNatClampNeg) then some (x3, σ) else (if x4 ≤ (0 : Int32) then some (x3, σ) else bn (f_X8_isOf (((256 : Int32) * x1) + x4) x2 σ) (fun r6 s5 => (if r6 = (0 : Int32) then f_X8_leastOf_54 (f_X8_leastOf_10 n) x1 x2 x4 x3 s5 else f_X8_leastOf_54 (f_X8_leastOf_10 n) x1 x2 x4 (((256 : Int32) * x1) + x4) s5)))))
set_option maxHeartbeats 4000000 in
set_option maxRecDepth 100000 in
theorem k_X8_leastOf_10 {p : Program} {l : Launch} {e : Env} {s : State} {m : MethodId} {args : Array Value} {below : List Frame} {meth : Method} {c : Code} {D : va_G} {cA : Nat → ClassId} {ad : Nat → Nat → Nat} {A : Nat → Prop} {o : Nat → Int64} (C : Cx p s m args meth c cX8_leastOf 5 RX8 (some .int) D cA ad A o) {r : Int32 × Mem} : ∀ (n : Nat) (x1 : Int32) (x2 : Int32) (x3 : Int32) (x4 : Int32) (σ : Mem) {H : Heap} {locs : List Loc} (h : f_X8_leastOf_10 n x1 x2 x3 x4 σ = some r) (hh : HH D cA ad A o s σ H locs) {ls : Array Slot} (hl : lv_has ls 5 [(0, .ref (ad 899 0)), (1, .int x1), (2, .int x2), (3, .int x3), (4, .int x4)]), W p l e rm_X8_leastOf s m args below meth c H locs 0 0 (MQ below (Qi D cA ad o A r) args s 0 0 A) (F0 m 10 ls []) := by
  obtain ⟨⟨hx, hb, hml, hown, hts⟩, hK, hN, hD, hr, hlocks⟩ := id C
  intro n
  induction n with
  | zero =>
    intro x1 x2 x3 x4 σ H locs h
    rw [f_X8_leastOf_10.eq_1] at h
    cases h
  | succ n ih =>
    intro x1 x2 x3 x4 σ H locs h hh ls hl
    rw [f_X8_leastOf_10.eq_2] at h
    refine lv_iload hx hb dX8_leastOf_10 (lv_at hl 4 rfl) ?_
    refine lv_aload_n hx hb dX8_leastOf_12 rfl (lv_at hl 0 rfl) ?_
    refine gf_8_7 C hh dX8_leastOf_13 ?_
    refine lv_iload_n hx hb dX8_leastOf_16 rfl (lv_at hl 1 rfl) ?_
    obtain ⟨b1, h⟩ := gd_e h
    refine al_802 C hh b1 dX8_leastOf_17 ?_
    refine lv_icmp_lt (tgt := 61) hx hb dX8_leastOf_18 (by decide) (fun c2 => ?_) (fun c2 => ?_)
    · rw [if_pos c2] at h
      refine lv_iload_n hx hb dX8_leastOf_61 rfl (lv_at hl 3 rfl) ?_
      exact r_int C hh h dX8_leastOf_62
    · rw [if_neg c2] at h
      refine lv_iload hx hb dX8_leastOf_21 (lv_at hl 4 rfl) ?_
      refine lv_if_le (tgt := 61) hx hb dX8_leastOf_23 (by decide) (fun c3 => ?_) (fun c3 => ?_)
      · rw [if_pos c3] at h
        refine lv_iload_n hx hb dX8_leastOf_61 rfl (lv_at hl 3 rfl) ?_
        exact r_int C hh h dX8_leastOf_62
      · rw [if_neg c3] at h
        refine lv_aload_n hx hb dX8_leastOf_26 rfl (lv_at hl 0 rfl) ?_
        refine lv_sipush (v := (256 : Int32)) hx hb dX8_leastOf_27 (by decide) ?_
        refine lv_iload_n hx hb dX8_leastOf_30 rfl (lv_at hl 1 rfl) ?_
        refine lv_imul hx hb dX8_leastOf_31 ?_
        refine lv_iload hx hb dX8_leastOf_32 (lv_at hl 4 rfl) ?_
        refine lv_iadd hx hb dX8_leastOf_34 ?_
        refine lv_iload_n hx hb dX8_leastOf_35 rfl (lv_at hl 2 rfl) ?_
        obtain ⟨r6, s5, e4, h⟩ := bn_e h
        refine c_int hh (vrun (rest := []) C hh (c_X8_isOf C.2.2.2.1 (((256 : Int32) * x1) + x4) x2 σ e4) LM_8_133 IM_X8_isOf SL_X8_isOf IN_8 CD_X8_isOf HD_X8_isOf ⟨rfl, rfl, Nat.le_of_ble_eq_true rfl, Nat.le_of_ble_eq_true rfl⟩ (rv_8 C hh) rfl hl.1 rfl (Nat.le_of_ble_eq_true rfl) dX8_leastOf_36 ⟨Nat.zero_le _, Nat.zero_le _⟩) (fun H locs hh => ?_)
        refine lv_if_eq (tgt := 53) hx hb dX8_leastOf_39 (by decide) (fun c7 => ?_) (fun c7 => ?_)
        · rw [if_pos c7] at h
          refine lv_iload_n hx hb dX8_leastOf_53 rfl (lv_at hl 3 rfl) ?_
          exact k_X8_leastOf_54 C ih x1 x2 x4 x3 s5 h hh (lv_sub hl [0, 1, 2, 4] rfl)
        · rw [if_neg c7] at h
          refine lv_sipush (v := (256 : Int32)) hx hb dX8_leastOf_42 (by decide) ?_
          refine lv_iload_n hx hb dX8_leastOf_45 rfl (lv_at hl 1 rfl) ?_
          refine lv_imul hx hb dX8_leastOf_46 ?_
          refine lv_iload hx hb dX8_leastOf_47 (lv_at hl 4 rfl) ?_
          refine lv_iadd hx hb dX8_leastOf_49 ?_
          refine lv_goto (tgt := 54) hx hb dX8_leastOf_50 (by decide) ?_
          exact k_X8_leastOf_54 C ih x1 x2 x4 (((256 : Int32) * x1) + x4) s5 h hh (lv_sub hl [0, 1, 2, 4] rfl)
def f_X8_leastOf (x1 : Int32) (x2 : Int32) (σ : Mem) : Option (Int32 × Mem) := gd (vin x1 4) (f_X8_leastOf_10 5000 x1 x2 (0 : Int32) (σ 803 0 (x1).toNatClampNeg) σ)
set_option maxHeartbeats 4000000 in
set_option maxRecDepth 100000 in
theorem c_X8_leastOf {l : Launch} {D : va_G} {cA : Nat → ClassId} {ad : Nat → Nat → Nat} {A : Nat → Prop} {o : Nat → Int64} (hD0 : ∀ σ, va_D A (wW cA ad σ o)) (x1 : Int32) (x2 : Int32) (σ : Mem) {r : Int32 × Mem} (h : f_X8_leastOf x1 x2 σ = some r) : Met l yX8_leastOf (wsG yX8_leastOf cX8_leastOf 5 (some .int)) rm_X8_leastOf (va_Pc [.ref (ad 899 0), .int x1, .int x2] (IW D cA ad o σ)) (Qi D cA ad o A r) 0 0 A := by
  refine metG (by decide) (Nat.le_of_ble_eq_true rfl) hD0 ?_
  intro p e s m args below meth c C ls hh hl
  have C : Cx p s m args meth c cX8_leastOf 5 RX8 (some .int) D cA ad A o := C
  have hl : lv_has ls 5 [(0, .ref (ad 899 0)), (1, .int x1), (2, .int x2)] := hl
  obtain ⟨⟨hx, hb, hml, hown, hts⟩, hK, hN, hD, hr, hlocks⟩ := id C
  unfold f_X8_leastOf at h
  refine lv_iconst (v := (0 : Int32)) hx hb dX8_leastOf_0 (by decide) ?_
  refine lv_istore_n (lv' := [(3, .int (0 : Int32)), (0, .ref (ad 899 0)), (1, .int x1), (2, .int x2)]) hx hb dX8_leastOf_1 rfl hl (by decide) rfl (fun ls hl => ?_)
  refine lv_aload_n hx hb dX8_leastOf_2 rfl (lv_at hl 1 rfl) ?_
  refine gf_8_13 C hh dX8_leastOf_3 ?_
  refine lv_iload_n hx hb dX8_leastOf_6 rfl (lv_at hl 2 rfl) ?_
  obtain ⟨b1, h⟩ := gd_e h
  refine al_803 C hh b1 dX8_leastOf_7 ?_
  refine lv_istore (lv' := [(4, .int (σ 803 0 (x1).toNatClampNeg)), (3, .int (0 : Int32)), (0, .ref (ad 899 0)), (1, .int x1), (2, .int x2)]) hx hb dX8_leastOf_8 hl (by decide) rfl (fun ls hl => ?_)
  exact k_X8_leastOf_10 C 5000 x1 x2 (0 : Int32) (σ 803 0 (x1).toNatClampNeg) σ h hh (lv_sub hl [2, 3, 4, 1, 0] rfl)
abbrev rm_X8_choose : Room := { frames := 2, cells := 0, slots := 0, locals := 46 }
theorem HD_X8_choose : yX8_choose.cls = RX8 ∧ yX8_choose.cls ≠ "java/lang/invoke/MethodHandle" ∧ yX8_choose.cls ≠ "java/lang/invoke/VarHandle" ∧ (parseMethodDescriptor yX8_choose.desc).map (fun d => d.parameters.length) = some 2 := by decide +kernel
def f_X8_choose_146 (x4 : Int32) (x5 : Int32) (σ : Mem) : Option (Int32 × Mem) := (if x4 ≤ (0 : Int32) then some (x5, σ) else some (x4, σ))
set_option maxHeartbeats 4000000 in
set_option maxRecDepth 100000 in
theorem k_X8_choose_146 {p : Program} {l : Launch} {e : Env} {s : State} {m : MethodId} {args : Array Value} {below : List Frame} {meth : Method} {c : Code} {D : va_G} {cA : Nat → ClassId} {ad : Nat → Nat → Nat} {A : Nat → Prop} {o : Nat → Int64} (C : Cx p s m args meth c cX8_choose 8 RX8 (some .int) D cA ad A o) {r : Int32 × Mem} (x4 : Int32) (x5 : Int32) (σ : Mem) {H : Heap} {locs : List Loc} (h : f_X8_choose_146 x4 x5 σ = some r) (hh : HH D cA ad A o s σ H locs) {ls : Array Slot} (hl : lv_has ls 8 [(4, .int x4), (5, .int x5)]) : W p l e rm_X8_choose s m args below meth c H locs 0 0 (MQ below (Qi D cA ad o A r) args s 0 0 A) (F0 m 146 ls []) := by
  obtain ⟨⟨hx, hb, hml, hown, hts⟩, hK, hN, hD, hr, hlocks⟩ := id C
  unfold f_X8_choose_146 at h
  refine lv_iload hx hb dX8_choose_146 (lv_at hl 0 rfl) ?_
  refine lv_if_le (tgt := 156) hx hb dX8_choose_148 (by decide) (fun c1 => ?_) (fun c1 => ?_)
  · rw [if_pos c1] at h
    refine lv_iload hx hb dX8_choose_156 (lv_at hl 1 rfl) ?_
    exact r_int C hh h dX8_choose_158
  · rw [if_neg c1] at h
    refine lv_iload hx hb dX8_choose_151 (lv_at hl 0 rfl) ?_
    refine lv_goto (tgt := 158) hx hb dX8_choose_153 (by decide) ?_
    exact r_int C hh h dX8_choose_158
def f_X8_choose_138 (K55 : Int32 → Int32 → Int32 → Int32 → Mem → Option (Int32 × Mem)) (x1 : Int32) (x4 : Int32) (x6 : Int32) (xs0 : Int32) (σ : Mem) : Option (Int32 × Mem) := vl (x6 + (-1 : Int32)) (fun v1 => K55 x1 x4 xs0 v1 σ)
set_option maxHeartbeats 4000000 in
set_option maxRecDepth 100000 in
theorem k_X8_choose_138 {p : Program} {l : Launch} {e : Env} {s : State} {m : MethodId} {args : Array Value} {below : List Frame} {meth : Method} {c : Code} {D : va_G} {cA : Nat → ClassId} {ad : Nat → Nat → Nat} {A : Nat → Prop} {o : Nat → Int64} (C : Cx p s m args meth c cX8_choose 8 RX8 (some .int) D cA ad A o) {K55 : Int32 → Int32 → Int32 → Int32 → Mem → Option (Int32 × Mem)} {r : Int32 × Mem} (hK55 : ∀ (x1 : Int32) (x4 : Int32) (x5 : Int32) (x6 : Int32) (σ : Mem) {H : Heap} {locs : List Loc}, K55 x1 x4 x5 x6 σ = some r → HH D cA ad A o s σ H locs → ∀ {ls : Array Slot}, lv_has ls 8 [(0, .ref (ad 899 0)), (1, .int x1), (4, .int x4), (5, .int x5), (6, .int x6)] → W p l e rm_X8_choose s m args below meth c H locs 0 0 (MQ below (Qi D cA ad o A r) args s 0 0 A) (F0 m 55 ls [])) (x1 : Int32) (x4 : Int32) (x6 : Int32) (xs0 : Int32) (σ : Mem) {H : Heap} {locs : List Loc} (h : f_X8_choose_138 K55 x1 x4 x6 xs0 σ = some r) (hh : HH D cA ad A o s σ H locs) {ls : Array Slot} (hl : lv_has ls 8 [(0, .ref (ad 899 0)), (1, .int x1), (4, .int x4), (6, .int x6)]) : W p l e rm_X8_choose s m args below meth c H locs 0 0 (MQ below (Qi D cA ad o A r) args s 0 0 A) (F0 m 138 ls [.int xs0]) := by
  obtain ⟨⟨hx, hb, hml, hown, hts⟩, hK, hN, hD, hr, hlocks⟩ := id C
  unfold f_X8_choose_138 at h
  refine lv_istore (lv' := [(5, .int xs0), (0, .ref (ad 899 0)), (1, .int x1), (4, .int x4), (6, .int x6)]) hx hb dX8_choose_138 hl (by decide) rfl (fun ls hl => ?_)
  obtain ⟨v1, e2, h⟩ := vl_e h
  refine lv_iinc (v := v1) (lv' := [(6, .int v1), (5, .int xs0), (0, .ref (ad 899 0)), (1, .int x1), (4, .int x4)]) hx hb dX8_choose_140 hl (k := 4) rfl (by rw [e2]; rfl) (by decide) rfl (fun ls hl => ?_)
  refine lv_goto (tgt := 55) hx hb dX8_choose_143 (by decide) ?_
  exact hK55 x1 x4 xs0 v1 σ h hh (lv_sub hl [2, 3, 4, 1, 0] rfl)
def f_X8_choose_136 (K55 : Int32 → Int32 → Int32 → Int32 → Mem → Option (Int32 × Mem)) (x1 : Int32) (x4 : Int32) (x5 : Int32) (x6 : Int32) (σ : Mem) : Option (Int32 × Mem) := f_X8_choose_138 K55 x1 x4 x6 x5 σ
set_option maxHeartbeats 4000000 in
set_option maxRecDepth 100000 in
theorem k_X8_choose_136 {p : Program} {l : Launch} {e : Env} {s : State} {m : MethodId} {args : Array Value} {below : List Frame} {meth : Method} {c : Code} {D : va_G} {cA : Nat → ClassId} {ad : Nat → Nat → Nat} {A : Nat → Prop} {o : Nat → Int64} (C : Cx p s m args meth c cX8_choose 8 RX8 (some .int) D cA ad A o) {K55 : Int32 → Int32 → Int32 → Int32 → Mem → Option (Int32 × Mem)} {r : Int32 × Mem} (hK55 : ∀ (x1 : Int32) (x4 : Int32) (x5 : Int32) (x6 : Int32) (σ : Mem) {H : Heap} {locs : List Loc}, K55 x1 x4 x5 x6 σ = some r → HH D cA ad A o s σ H locs → ∀ {ls : Array Slot}, lv_has ls 8 [(0, .ref (ad 899 0)), (1, .int x1), (4, .int x4), (5, .int x5), (6, .int x6)] → W p l e rm_X8_choose s m args below meth c H locs 0 0 (MQ below (Qi D cA ad o A r) args s 0 0 A) (F0 m 55 ls [])) (x1 : Int32) (x4 : Int32) (x5 : Int32) (x6 : Int32) (σ : Mem) {H : Heap} {locs : List Loc} (h : f_X8_choose_136 K55 x1 x4 x5 x6 σ = some r) (hh : HH D cA ad A o s σ H locs) {ls : Array Slot} (hl : lv_has ls 8 [(0, .ref (ad 899 0)), (1, .int x1), (4, .int x4), (5, .int x5), (6, .int x6)]) : W p l e rm_X8_choose s m args below meth c H locs 0 0 (MQ below (Qi D cA ad o A r) args s 0 0 A) (F0 m 136 ls []) := by
  obtain ⟨⟨hx, hb, hml, hown, hts⟩, hK, hN, hD, hr, hlocks⟩ := id C
  unfold f_X8_choose_136 at h
  refine lv_iload hx hb dX8_choose_136 (lv_at hl 3 rfl) ?_
  exact k_X8_choose_138 C hK55 x1 x4 x6 x5 σ h hh (lv_sub hl [0, 1, 2, 4] rfl)
def f_X8_choose_131 (K55 : Int32 → Int32 → Int32 → Int32 → Mem → Option (Int32 × Mem)) (x1 : Int32) (x4 : Int32) (x6 : Int32) (x7 : Int32) (σ : Mem) : Option (Int32 × Mem) := f_X8_choose_138 K55 x1 x4 x6 x7 σ
set_option maxHeartbeats 4000000 in
set_option maxRecDepth 100000 in
theorem k_X8_choose_131 {p : Program} {l : Launch} {e : Env} {s : State} {m : MethodId} {args : Array Value} {below : List Frame} {meth : Method} {c : Code} {D : va_G} {cA : Nat → ClassId} {ad : Nat → Nat → Nat} {A : Nat → Prop} {o : Nat → Int64} (C : Cx p s m args meth c cX8_choose 8 RX8 (some .int) D cA ad A o) {K55 : Int32 → Int32 → Int32 → Int32 → Mem → Option (Int32 × Mem)} {r : Int32 × Mem} (hK55 : ∀ (x1 : Int32) (x4 : Int32) (x5 : Int32) (x6 : Int32) (σ : Mem) {H : Heap} {locs : List Loc}, K55 x1 x4 x5 x6 σ = some r → HH D cA ad A o s σ H locs → ∀ {ls : Array Slot}, lv_has ls 8 [(0, .ref (ad 899 0)), (1, .int x1), (4, .int x4), (5, .int x5), (6, .int x6)] → W p l e rm_X8_choose s m args below meth c H locs 0 0 (MQ below (Qi D cA ad o A r) args s 0 0 A) (F0 m 55 ls [])) (x1 : Int32) (x4 : Int32) (x6 : Int32) (x7 : Int32) (σ : Mem) {H : Heap} {locs : List Loc} (h : f_X8_choose_131 K55 x1 x4 x6 x7 σ = some r) (hh : HH D cA ad A o s σ H locs) {ls : Array Slot} (hl : lv_has ls 8 [(0, .ref (ad 899 0)), (1, .int x1), (4, .int x4), (6, .int x6), (7, .int x7)]) : W p l e rm_X8_choose s m args below meth c H locs 0 0 (MQ below (Qi D cA ad o A r) args s 0 0 A) (F0 m 131 ls []) := by
  obtain ⟨⟨hx, hb, hml, hown, hts⟩, hK, hN, hD, hr, hlocks⟩ := id C
  unfold f_X8_choose_131 at h
  refine lv_iload hx hb dX8_choose_131 (lv_at hl 4 rfl) ?_
  refine lv_goto (tgt := 138) hx hb dX8_choose_133 (by decide) ?_
  exact k_X8_choose_138 C hK55 x1 x4 x6 x7 σ h hh (lv_sub hl [0, 1, 2, 3] rfl)
def f_X8_choose_98 (K55 : Int32 → Int32 → Int32 → Int32 → Mem → Option (Int32 × Mem)) (x1 : Int32) (x5 : Int32) (x6 : Int32) (x7 : Int32) (xs0 : Int32) (σ : Mem) : Option (Int32 × Mem) := bn (f_X8_isFree x7 σ) (fun r3 s2 => (if r3 = (0 : Int32) then f_X8_choose_136 K55 x1 xs0 x5 x6 s2 else (if x5 = (0 : Int32) then f_X8_choose_131 K55 x1 xs0 x6 x7 s2 else gd (vin x7 1024) (gd (vin x5 1024) ((if (s2 809 0 (x5).toNatClampNeg) < (s2 809 0 (x7).toNatClampNeg) then f_X8_choose_136 K55 x1 xs0 x5 x6 s2 else f_X8_choose_131 K55 x1 xs0 x6 x7 s2))))))
set_option maxHeartbeats 4000000 in
set_option maxRecDepth 100000 in
theorem k_X8_choose_98 {p : Program} {l : Launch} {e : Env} {s : State} {m : MethodId} {args : Array Value} {below : List Frame} {meth : Method} {c : Code} {D : va_G} {cA : Nat → ClassId} {ad : Nat → Nat → Nat} {A : Nat → Prop} {o : Nat → Int64} (C : Cx p s m args meth c cX8_choose 8 RX8 (some .int) D cA ad A o) {K55 : Int32 → Int32 → Int32 → Int32 → Mem → Option (Int32 × Mem)} {r : Int32 × Mem} (hK55 : ∀ (x1 : Int32) (x4 : Int32) (x5 : Int32) (x6 : Int32) (σ : Mem) {H : Heap} {locs : List Loc}, K55 x1 x4 x5 x6 σ = some r → HH D cA ad A o s σ H locs → ∀ {ls : Array Slot}, lv_has ls 8 [(0, .ref (ad 899 0)), (1, .int x1), (4, .int x4), (5, .int x5), (6, .int x6)] → W p l e rm_X8_choose s m args below meth c H locs 0 0 (MQ below (Qi D cA ad o A r) args s 0 0 A) (F0 m 55 ls [])) (x1 : Int32) (x5 : Int32) (x6 : Int32) (x7 : Int32) (xs0 : Int32) (σ : Mem) {H : Heap} {locs : List Loc} (h : f_X8_choose_98 K55 x1 x5 x6 x7 xs0 σ = some r) (hh : HH D cA ad A o s σ H locs) {ls : Array Slot} (hl : lv_has ls 8 [(0, .ref (ad 899 0)), (1, .int x1), (5, .int x5), (6, .int x6), (7, .int x7)]) : W p l e rm_X8_choose s m args below meth c H locs 0 0 (MQ below (Qi D cA ad o A r) args s 0 0 A) (F0 m 98 ls [.int xs0]) := by
  obtain ⟨⟨hx, hb, hml, hown, hts⟩, hK, hN, hD, hr, hlocks⟩ := id C
  unfold f_X8_choose_98 at h
  refine lv_istore (lv' := [(4, .int xs0), (0, .ref (ad 899 0)), (1, .int x1), (5, .int x5), (6, .int x6), (7, .int x7)]) hx hb dX8_choose_98 hl (by decide) rfl (fun ls hl => ?_)
  refine lv_aload_n hx hb dX8_choose_100 rfl (lv_at hl 1 rfl) ?_
  refine lv_iload hx hb dX8_choose_101 (lv_at hl 5 rfl) ?_
  obtain ⟨r3, s2, e1, h⟩ := bn_e h
  refine c_int hh (vrun (rest := []) C hh (c_X8_isFree C.2.2.2.1 x7 σ e1) LM_8_144 IM_X8_isFree SL_X8_isFree IN_8 CD_X8_isFree HD_X8_isFree ⟨rfl, rfl, Nat.le_of_ble_eq_true rfl, Nat.le_of_ble_eq_true rfl⟩ (rv_8 C hh) rfl hl.1 rfl (Nat.le_of_ble_eq_true rfl) dX8_choose_103 ⟨Nat.zero_le _, Nat.zero_le _⟩) (fun H locs hh => ?_)
  refine lv_if_eq (tgt := 136) hx hb dX8_choose_106 (by decide) (fun c4 => ?_) (fun c4 => ?_)
  · rw [if_pos c4] at h
    exact k_X8_choose_136 C hK55 x1 xs0 x5 x6 s2 h hh (lv_sub hl [1, 2, 0, 3, 4] rfl)
  · rw [if_neg c4] at h
    refine lv_iload hx hb dX8_choose_109 (lv_at hl 3 rfl) ?_
    refine lv_if_eq (tgt := 131) hx hb dX8_choose_111 (by decide) (fun c5 => ?_) (fun c5 => ?_)
    · rw [if_pos c5] at h
      exact k_X8_choose_131 C hK55 x1 xs0 x6 x7 s2 h hh (lv_sub hl [1, 2, 0, 4, 5] rfl)
    · rw [if_neg c5] at h
      refine lv_aload_n hx hb dX8_choose_114 rfl (lv_at hl 1 rfl) ?_
      refine gf_8_29 C hh dX8_choose_115 ?_
      refine lv_iload hx hb dX8_choose_118 (lv_at hl 5 rfl) ?_
      obtain ⟨b6, h⟩ := gd_e h
      refine al_809 C hh b6 dX8_choose_120 ?_
      refine lv_aload_n hx hb dX8_choose_121 rfl (lv_at hl 1 rfl) ?_
      refine gf_8_29 C hh dX8_choose_122 ?_
      refine lv_iload hx hb dX8_choose_125 (lv_at hl 3 rfl) ?_
      obtain ⟨b7, h⟩ := gd_e h
      refine al_809 C hh b7 dX8_choose_127 ?_
      refine lv_icmp_gt (tgt := 136) hx hb dX8_choose_128 (by decide) (fun c8 => ?_) (fun c8 => ?_)
      · rw [if_pos c8] at h
        exact k_X8_choose_136 C hK55 x1 xs0 x5 x6 s2 h hh (lv_sub hl [1, 2, 0, 3, 4] rfl)
      · rw [if_neg c8] at h
        exact k_X8_choose_131 C hK55 x1 xs0 x6 x7 s2 h hh (lv_sub hl [1, 2, 0, 4, 5] rfl)
def f_X8_choose_55 : Nat → Int32 → Int32 → Int32 → Int32 → Mem → Option (Int32 × Mem)
  | 0, _, _, _, _, _ => none
  | n + 1, x1, x4, x5, x6, σ => gd (vin x1 4) ((if x6 < (σ 802 0 (x1).toNatClampNeg) then f_X8_choose_146 x4 x5 σ else (if x6 ≤ (0 : Int32) then f_X8_choose_146 x4 x5 σ else vl ((((256 : Int32) * x1) + x6)) (fun v4 => gd (vin v4 1024) ((if (σ 807 0 (v4).toNatClampNeg) = (0 : Int32) then f_X8_choose_98 (f_X8_choose_55 n) x1 x5 x6 v4 v4 σ else f_X8_choose_98 (f_X8_choose_55 n) x1 x5 x6 v4 x4 σ))))))
set_option maxHeartbeats 4000000 in
set_option maxRecDepth 100000 in
theorem k_X8_choose_55 {p : Program} {l : Launch} {e : Env} {s : State} {m : MethodId} {args : Array Value} {below : List Frame} {meth : Method} {c : Code} {D : va_G} {cA : Nat → ClassId} {ad : Nat → Nat → Nat} {A : Nat → Prop} {o : Nat → Int64} (C : Cx p s m args meth c cX8_choose 8 RX8 (some .int) D cA ad A o) {r : Int32 × Mem} : ∀ (n : Nat) (x1 : Int32) (x4 : Int32) (x5 : Int32) (x6 : Int32) (σ : Mem) {H : Heap} {locs : List Loc} (h : f_X8_choose_55 n x1 x4 x5 x6 σ = some r) (hh : HH D cA ad A o s σ H locs) {ls : Array Slot} (hl : lv_has ls 8 [(0, .ref (ad 899 0)), (1, .int x1), (4, .int x4), (5, .int x5), (6, .int x6)]), W p l e rm_X8_choose s m args below meth c H locs 0 0 (MQ below (Qi D cA ad o A r) args s 0 0 A) (F0 m 55 ls []) := by
  obtain ⟨⟨hx, hb, hml, hown, hts⟩, hK, hN, hD, hr, hlocks⟩ := id C
  intro n
  induction n with
  | zero =>
    intro x1 x4 x5 x6 σ H locs h
    rw [f_X8_choose_55.eq_1] at h
    cases h
  | succ n ih =>
    intro x1 x4 x5 x6 σ H locs h hh ls hl
    rw [f_X8_choose_55.eq_2] at h
    refine lv_iload hx hb dX8_choose_55 (lv_at hl 4 rfl) ?_
    refine lv_aload_n hx hb dX8_choose_57 rfl (lv_at hl 0 rfl) ?_
    refine gf_8_7 C hh dX8_choose_58 ?_
    refine lv_iload_n hx hb dX8_choose_61 rfl (lv_at hl 1 rfl) ?_
    obtain ⟨b1, h⟩ := gd_e h
    refine al_802 C hh b1 dX8_choose_62 ?_
    refine lv_icmp_lt (tgt := 146) hx hb dX8_choose_63 (by decide) (fun c2 => ?_) (fun c2 => ?_)
    · rw [if_pos c2] at h
      exact k_X8_choose_146 C x4 x5 σ h hh (lv_sub hl [2, 3] rfl)
    · rw [if_neg c2] at h
      refine lv_iload hx hb dX8_choose_66 (lv_at hl 4 rfl) ?_
      refine lv_if_le (tgt := 146) hx hb dX8_choose_68 (by decide) (fun c3 => ?_) (fun c3 => ?_)
      · rw [if_pos c3] at h
        exact k_X8_choose_146 C x4 x5 σ h hh (lv_sub hl [2, 3] rfl)
      · rw [if_neg c3] at h
        refine lv_sipush (v := (256 : Int32)) hx hb dX8_choose_71 (by decide) ?_
        refine lv_iload_n hx hb dX8_choose_74 rfl (lv_at hl 1 rfl) ?_
        refine lv_imul hx hb dX8_choose_75 ?_
        refine lv_iload hx hb dX8_choose_76 (lv_at hl 4 rfl) ?_
        refine lv_iadd hx hb dX8_choose_78 ?_
        obtain ⟨v4, e5, h⟩ := vl_e h
        refine lv_nm e5 ?_
        refine lv_istore (lv' := [(7, .int v4), (0, .ref (ad 899 0)), (1, .int x1), (4, .int x4), (5, .int x5), (6, .int x6)]) hx hb dX8_choose_79 hl (by decide) rfl (fun ls hl => ?_)
        refine lv_aload_n hx hb dX8_choose_81 rfl (lv_at hl 1 rfl) ?_
        refine gf_8_23 C hh dX8_choose_82 ?_
        refine lv_iload hx hb dX8_choose_85 (lv_at hl 0 rfl) ?_
        obtain ⟨b6, h⟩ := gd_e h
        refine al_807 C hh b6 dX8_choose_87 ?_
        refine lv_if_ne (tgt := 96) hx hb dX8_choose_88 (by decide) (fun c7 => ?_) (fun c7 => ?_)
        · rw [if_neg c7] at h
          refine lv_iload hx hb dX8_choose_96 (lv_at hl 3 rfl) ?_
          exact k_X8_choose_98 C ih x1 x5 x6 v4 x4 σ h hh (lv_sub hl [1, 2, 4, 5, 0] rfl)
        · rw [if_pos c7] at h
          refine lv_iload hx hb dX8_choose_91 (lv_at hl 0 rfl) ?_
          refine lv_goto (tgt := 98) hx hb dX8_choose_93 (by decide) ?_
          exact k_X8_choose_98 C ih x1 x5 x6 v4 v4 σ h hh (lv_sub hl [1, 2, 4, 5, 0] rfl)
def f_X8_choose_41 (x1 : Int32) (σ : Mem) : Option (Int32 × Mem) := gd (vin x1 4) (f_X8_choose_55 5000 x1 (0 : Int32) (0 : Int32) (σ 803 0 (x1).toNatClampNeg) σ)
set_option maxHeartbeats 4000000 in
set_option maxRecDepth 100000 in
theorem k_X8_choose_41 {p : Program} {l : Launch} {e : Env} {s : State} {m : MethodId} {args : Array Value} {below : List Frame} {meth : Method} {c : Code} {D : va_G} {cA : Nat → ClassId} {ad : Nat → Nat → Nat} {A : Nat → Prop} {o : Nat → Int64} (C : Cx p s m args meth c cX8_choose 8 RX8 (some .int) D cA ad A o) {r : Int32 × Mem} (x1 : Int32) (σ : Mem) {H : Heap} {locs : List Loc} (h : f_X8_choose_41 x1 σ = some r) (hh : HH D cA ad A o s σ H locs) {ls : Array Slot} (hl : lv_has ls 8 [(0, .ref (ad 899 0)), (1, .int x1)]) : W p l e rm_X8_choose s m args below meth c H locs 0 0 (MQ below (Qi D cA ad o A r) args s 0 0 A) (F0 m 41 ls []) := by
  obtain ⟨⟨hx, hb, hml, hown, hts⟩, hK, hN, hD, hr, hlocks⟩ := id C
  unfold f_X8_choose_41 at h
  refine lv_iconst (v := (0 : Int32)) hx hb dX8_choose_41 (by decide) ?_
  refine lv_istore (lv' := [(4, .int (0 : Int32)), (0, .ref (ad 899 0)), (1, .int x1)]) hx hb dX8_choose_42 hl (by decide) rfl (fun ls hl => ?_)
  refine lv_iconst (v := (0 : Int32)) hx hb dX8_choose_44 (by decide) ?_
  refine lv_istore (lv' := [(5, .int (0 : Int32)), (4, .int (0 : Int32)), (0, .ref (ad 899 0)), (1, .int x1)]) hx hb dX8_choose_45 hl (by decide) rfl (fun ls hl => ?_)
  refine lv_aload_n hx hb dX8_choose_47 rfl (lv_at hl 2 rfl) ?_
  refine gf_8_13 C hh dX8_choose_48 ?_
  refine lv_iload_n hx hb dX8_choose_51 rfl (lv_at hl 3 rfl) ?_
  obtain ⟨b1, h⟩ := gd_e h
  refine al_803 C hh b1 dX8_choose_52 ?_
  refine lv_istore (lv' := [(6, .int (σ 803 0 (x1).toNatClampNeg)), (5, .int (0 : Int32)), (4, .int (0 : Int32)), (0, .ref (ad 899 0)), (1, .int x1)]) hx hb dX8_choose_53 hl (by decide) rfl (fun ls hl => ?_)
  exact k_X8_choose_55 C 5000 x1 (0 : Int32) (0 : Int32) (σ 803 0 (x1).toNatClampNeg) σ h hh (lv_sub hl [3, 4, 2, 1, 0] rfl)
def f_X8_choose (x1 : Int32) (x2 : Int32) (σ : Mem) : Option (Int32 × Mem) := bn (f_X8_leastOf x1 x2 σ) (fun r3 s2 => (if r3 ≤ (0 : Int32) then bn (f_X8_isInPool x1 (s2 834 0 0) s2) (fun r7 s6 => (if r7 = (0 : Int32) then f_X8_choose_41 x1 s6 else bn (f_X8_isFree (s6 834 0 0) s6) (fun r11 s10 => (if r11 = (0 : Int32) then f_X8_choose_41 x1 s10 else some ((s10 834 0 0), s10))))) else some (r3, s2)))
set_option maxHeartbeats 4000000 in
set_option maxRecDepth 100000 in
theorem c_X8_choose {l : Launch} {D : va_G} {cA : Nat → ClassId} {ad : Nat → Nat → Nat} {A : Nat → Prop} {o : Nat → Int64} (hD0 : ∀ σ, va_D A (wW cA ad σ o)) (x1 : Int32) (x2 : Int32) (σ : Mem) {r : Int32 × Mem} (h : f_X8_choose x1 x2 σ = some r) : Met l yX8_choose (wsG yX8_choose cX8_choose 8 (some .int)) rm_X8_choose (va_Pc [.ref (ad 899 0), .int x1, .int x2] (IW D cA ad o σ)) (Qi D cA ad o A r) 0 0 A := by
  refine metG (by decide) (Nat.le_of_ble_eq_true rfl) hD0 ?_
  intro p e s m args below meth c C ls hh hl
  have C : Cx p s m args meth c cX8_choose 8 RX8 (some .int) D cA ad A o := C
  have hl : lv_has ls 8 [(0, .ref (ad 899 0)), (1, .int x1), (2, .int x2)] := hl
  obtain ⟨⟨hx, hb, hml, hown, hts⟩, hK, hN, hD, hr, hlocks⟩ := id C
  unfold f_X8_choose at h
  refine lv_aload_n hx hb dX8_choose_0 rfl (lv_at hl 0 rfl) ?_
  refine lv_iload_n hx hb dX8_choose_1 rfl (lv_at hl 1 rfl) ?_
  refine lv_iload_n hx hb dX8_choose_2 rfl (lv_at hl 2 rfl) ?_
  obtain ⟨r3, s2, e1, h⟩ := bn_e h
  refine c_int hh (vrun (rest := []) C hh (c_X8_leastOf C.2.2.2.1 x1 x2 σ e1) LM_8_137 IM_X8_leastOf SL_X8_leastOf IN_8 CD_X8_leastOf HD_X8_leastOf ⟨rfl, rfl, Nat.le_of_ble_eq_true rfl, Nat.le_of_ble_eq_true rfl⟩ (rv_8 C hh) rfl hl.1 rfl (Nat.le_of_ble_eq_true rfl) dX8_choose_3 ⟨Nat.zero_le _, Nat.zero_le _⟩) (fun H locs hh => ?_)
  refine lv_istore_n (lv' := [(3, .int r3), (0, .ref (ad 899 0)), (1, .int x1), (2, .int x2)]) hx hb dX8_choose_6 rfl hl (by decide) rfl (fun ls hl => ?_)
  refine lv_iload_n hx hb dX8_choose_7 rfl (lv_at hl 0 rfl) ?_
  refine lv_if_le (tgt := 13) hx hb dX8_choose_8 (by decide) (fun c4 => ?_) (fun c4 => ?_)
  · rw [if_pos c4] at h
    refine lv_aload_n hx hb dX8_choose_13 rfl (lv_at hl 1 rfl) ?_
    refine lv_iload_n hx hb dX8_choose_14 rfl (lv_at hl 2 rfl) ?_
    refine lv_aload_n hx hb dX8_choose_15 rfl (lv_at hl 1 rfl) ?_
    refine gf_8_101 C hh dX8_choose_16 ?_
    obtain ⟨r7, s6, e5, h⟩ := bn_e h
    refine c_int hh (vrun (rest := []) C hh (c_X8_isInPool C.2.2.2.1 x1 (s2 834 0 0) s2 e5) LM_8_141 IM_X8_isInPool SL_X8_isInPool IN_8 CD_X8_isInPool HD_X8_isInPool ⟨rfl, rfl, Nat.le_of_ble_eq_true rfl, Nat.le_of_ble_eq_true rfl⟩ (rv_8 C hh) rfl hl.1 rfl (Nat.le_of_ble_eq_true rfl) dX8_choose_19 ⟨Nat.zero_le _, Nat.zero_le _⟩) (fun H locs hh => ?_)
    refine lv_if_eq (tgt := 41) hx hb dX8_choose_22 (by decide) (fun c8 => ?_) (fun c8 => ?_)
    · rw [if_pos c8] at h
      exact k_X8_choose_41 C x1 s6 h hh (lv_sub hl [1, 2] rfl)
    · rw [if_neg c8] at h
      refine lv_aload_n hx hb dX8_choose_25 rfl (lv_at hl 1 rfl) ?_
      refine lv_aload_n hx hb dX8_choose_26 rfl (lv_at hl 1 rfl) ?_
      refine gf_8_101 C hh dX8_choose_27 ?_
      obtain ⟨r11, s10, e9, h⟩ := bn_e h
      refine c_int hh (vrun (rest := []) C hh (c_X8_isFree C.2.2.2.1 (s6 834 0 0) s6 e9) LM_8_144 IM_X8_isFree SL_X8_isFree IN_8 CD_X8_isFree HD_X8_isFree ⟨rfl, rfl, Nat.le_of_ble_eq_true rfl, Nat.le_of_ble_eq_true rfl⟩ (rv_8 C hh) rfl hl.1 rfl (Nat.le_of_ble_eq_true rfl) dX8_choose_30 ⟨Nat.zero_le _, Nat.zero_le _⟩) (fun H locs hh => ?_)
      refine lv_if_eq (tgt := 41) hx hb dX8_choose_33 (by decide) (fun c12 => ?_) (fun c12 => ?_)
      · rw [if_pos c12] at h
        exact k_X8_choose_41 C x1 s10 h hh (lv_sub hl [1, 2] rfl)
      · rw [if_neg c12] at h
        refine lv_aload_n hx hb dX8_choose_36 rfl (lv_at hl 1 rfl) ?_
        refine gf_8_101 C hh dX8_choose_37 ?_
        exact r_int C hh h dX8_choose_40
  · rw [if_neg c4] at h
    refine lv_iload_n hx hb dX8_choose_11 rfl (lv_at hl 0 rfl) ?_
    exact r_int C hh h dX8_choose_12
abbrev rm_X8_setRecord : Room := { frames := 0, cells := 0, slots := 0, locals := 0 }
theorem HD_X8_setRecord : yX8_setRecord.cls = RX8 ∧ yX8_setRecord.cls ≠ "java/lang/invoke/MethodHandle" ∧ yX8_setRecord.cls ≠ "java/lang/invoke/VarHandle" ∧ (parseMethodDescriptor yX8_setRecord.desc).map (fun d => d.parameters.length) = some 4 := by decide +kernel
def f_X8_setRecord (x1 : Int32) (x2 : Int32) (x3 : Int32) (x4 : Int32) (σ : Mem) : Option (Mem) := gd (vin x1 1024) (vl (up σ 807 0 (x1).toNatClampNeg x2) (fun s2 => gd (vin x1 1024) (vl (up s2 808 0 (x1).toNatClampNeg x3) (fun s5 => gd (vin x1 1024) (vl (up s5 809 0 (x1).toNatClampNeg x4) (fun s8 => some s8))))))
set_option maxHeartbeats 4000000 in
set_option maxRecDepth 100000 in
theorem c_X8_setRecord {l : Launch} {D : va_G} {cA : Nat → ClassId} {ad : Nat → Nat → Nat} {A : Nat → Prop} {o : Nat → Int64} (hD0 : ∀ σ, va_D A (wW cA ad σ o)) (x1 : Int32) (x2 : Int32) (x3 : Int32) (x4 : Int32) (σ : Mem) {r : Mem} (h : f_X8_setRecord x1 x2 x3 x4 σ = some r) : Met l yX8_setRecord (wsG yX8_setRecord cX8_setRecord 5 none) rm_X8_setRecord (va_Pc [.ref (ad 899 0), .int x1, .int x2, .int x3, .int x4] (IW D cA ad o σ)) (Qv D cA ad o A r) 0 0 A := by
  refine metG (by decide) (Nat.le_of_ble_eq_true rfl) hD0 ?_
  intro p e s m args below meth c C ls hh hl
  have C : Cx p s m args meth c cX8_setRecord 5 RX8 none D cA ad A o := C
  have hl : lv_has ls 5 [(0, .ref (ad 899 0)), (1, .int x1), (2, .int x2), (3, .int x3), (4, .int x4)] := hl
  obtain ⟨⟨hx, hb, hml, hown, hts⟩, hK, hN, hD, hr, hlocks⟩ := id C
  unfold f_X8_setRecord at h
  refine lv_aload_n hx hb dX8_setRecord_0 rfl (lv_at hl 0 rfl) ?_
  refine gf_8_23 C hh dX8_setRecord_1 ?_
  refine lv_iload_n hx hb dX8_setRecord_4 rfl (lv_at hl 1 rfl) ?_
  refine lv_iload_n hx hb dX8_setRecord_5 rfl (lv_at hl 2 rfl) ?_
  obtain ⟨b1, h⟩ := gd_e h
  obtain ⟨s2, e3, h⟩ := vl_e h
  refine as_807 C hh b1 dX8_setRecord_6 (fun H locs hh => ?_)
  rw [← e3] at hh
  refine lv_aload_n hx hb dX8_setRecord_7 rfl (lv_at hl 0 rfl) ?_
  refine gf_8_26 C hh dX8_setRecord_8 ?_
  refine lv_iload_n hx hb dX8_setRecord_11 rfl (lv_at hl 1 rfl) ?_
  refine lv_iload_n hx hb dX8_setRecord_12 rfl (lv_at hl 3 rfl) ?_
  obtain ⟨b4, h⟩ := gd_e h
  obtain ⟨s5, e6, h⟩ := vl_e h
  refine as_808 C hh b4 dX8_setRecord_13 (fun H locs hh => ?_)
  rw [← e6] at hh
  refine lv_aload_n hx hb dX8_setRecord_14 rfl (lv_at hl 0 rfl) ?_
  refine gf_8_29 C hh dX8_setRecord_15 ?_
  refine lv_iload_n hx hb dX8_setRecord_18 rfl (lv_at hl 1 rfl) ?_
  refine lv_iload hx hb dX8_setRecord_19 (lv_at hl 4 rfl) ?_
  obtain ⟨b7, h⟩ := gd_e h
  obtain ⟨s8, e9, h⟩ := vl_e h
  refine as_809 C hh b7 dX8_setRecord_21 (fun H locs hh => ?_)
  rw [← e9] at hh
  exact r_void C hh h dX8_setRecord_22
abbrev rm_X8_leaseTo : Room := { frames := 1, cells := 0, slots := 0, locals := 24 }
theorem HD_X8_leaseTo : yX8_leaseTo.cls = RX8 ∧ yX8_leaseTo.cls ≠ "java/lang/invoke/MethodHandle" ∧ yX8_leaseTo.cls ≠ "java/lang/invoke/VarHandle" ∧ (parseMethodDescriptor yX8_leaseTo.desc).map (fun d => d.parameters.length) = some 3 := by decide +kernel
def f_X8_leaseTo_45 (x2 : Int32) (x3 : Int32) (xs0 : Int32) (σ : Mem) : Option (Mem) := bv (f_X8_setRecord x3 (2 : Int32) x2 xs0 σ) (fun s2 => some s2)
set_option maxHeartbeats 4000000 in
set_option maxRecDepth 100000 in
theorem k_X8_leaseTo_45 {p : Program} {l : Launch} {e : Env} {s : State} {m : MethodId} {args : Array Value} {below : List Frame} {meth : Method} {c : Code} {D : va_G} {cA : Nat → ClassId} {ad : Nat → Nat → Nat} {A : Nat → Prop} {o : Nat → Int64} (C : Cx p s m args meth c cX8_leaseTo 5 RX8 none D cA ad A o) {r : Mem} (x2 : Int32) (x3 : Int32) (xs0 : Int32) (σ : Mem) {H : Heap} {locs : List Loc} (h : f_X8_leaseTo_45 x2 x3 xs0 σ = some r) (hh : HH D cA ad A o s σ H locs) {ls : Array Slot} (hl : lv_has ls 5 [(0, .ref (ad 899 0)), (2, .int x2), (3, .int x3)]) : W p l e rm_X8_leaseTo s m args below meth c H locs 0 0 (MQ below (Qv D cA ad o A r) args s 0 0 A) (F0 m 45 ls [.int xs0]) := by
  obtain ⟨⟨hx, hb, hml, hown, hts⟩, hK, hN, hD, hr, hlocks⟩ := id C
  unfold f_X8_leaseTo_45 at h
  refine lv_istore (lv' := [(4, .int xs0), (0, .ref (ad 899 0)), (2, .int x2), (3, .int x3)]) hx hb dX8_leaseTo_45 hl (by decide) rfl (fun ls hl => ?_)
  refine lv_aload_n hx hb dX8_leaseTo_47 rfl (lv_at hl 1 rfl) ?_
  refine lv_iload_n hx hb dX8_leaseTo_48 rfl (lv_at hl 3 rfl) ?_
  refine lv_iconst (v := (2 : Int32)) hx hb dX8_leaseTo_49 (by decide) ?_
  refine lv_iload_n hx hb dX8_leaseTo_50 rfl (lv_at hl 2 rfl) ?_
  refine lv_iload hx hb dX8_leaseTo_51 (lv_at hl 0 rfl) ?_
  obtain ⟨s2, e1, h⟩ := bv_e h
  refine c_void hh (vrun (rest := []) C hh (c_X8_setRecord C.2.2.2.1 x3 (2 : Int32) x2 xs0 σ e1) LM_8_147 IM_X8_setRecord SL_X8_setRecord IN_8 CD_X8_setRecord HD_X8_setRecord ⟨rfl, rfl, Nat.le_of_ble_eq_true rfl, Nat.le_of_ble_eq_true rfl⟩ (rv_8 C hh) rfl hl.1 rfl (Nat.le_of_ble_eq_true rfl) dX8_leaseTo_53 ⟨Nat.zero_le _, Nat.zero_le _⟩) (fun H locs hh => ?_)
  exact r_void C hh h dX8_leaseTo_56
def f_X8_leaseTo_43 (x2 : Int32) (x3 : Int32) (x4 : Int32) (σ : Mem) : Option (Mem) := f_X8_leaseTo_45 x2 x3 x4 σ
set_option maxHeartbeats 4000000 in
set_option maxRecDepth 100000 in
theorem k_X8_leaseTo_43 {p : Program} {l : Launch} {e : Env} {s : State} {m : MethodId} {args : Array Value} {below : List Frame} {meth : Method} {c : Code} {D : va_G} {cA : Nat → ClassId} {ad : Nat → Nat → Nat} {A : Nat → Prop} {o : Nat → Int64} (C : Cx p s m args meth c cX8_leaseTo 5 RX8 none D cA ad A o) {r : Mem} (x2 : Int32) (x3 : Int32) (x4 : Int32) (σ : Mem) {H : Heap} {locs : List Loc} (h : f_X8_leaseTo_43 x2 x3 x4 σ = some r) (hh : HH D cA ad A o s σ H locs) {ls : Array Slot} (hl : lv_has ls 5 [(0, .ref (ad 899 0)), (2, .int x2), (3, .int x3), (4, .int x4)]) : W p l e rm_X8_leaseTo s m args below meth c H locs 0 0 (MQ below (Qv D cA ad o A r) args s 0 0 A) (F0 m 43 ls []) := by
  obtain ⟨⟨hx, hb, hml, hown, hts⟩, hK, hN, hD, hr, hlocks⟩ := id C
  unfold f_X8_leaseTo_43 at h
  refine lv_iload hx hb dX8_leaseTo_43 (lv_at hl 3 rfl) ?_
  exact k_X8_leaseTo_45 C x2 x3 x4 σ h hh (lv_sub hl [0, 1, 2] rfl)
def f_X8_leaseTo (x1 : Int32) (x2 : Int32) (x3 : Int32) (σ : Mem) : Option (Mem) := gd (vin x1 4) (vl (((σ 801 0 0) + (σ 804 0 (x1).toNatClampNeg))) (fun v2 => gd (vin x3 1024) ((if (σ 807 0 (x3).toNatClampNeg) = (2 : Int32) then gd (vin x3 1024) ((if (σ 809 0 (x3).toNatClampNeg) ≤ v2 then f_X8_leaseTo_43 x2 x3 v2 σ else gd (vin x3 1024) (f_X8_leaseTo_45 x2 x3 (σ 809 0 (x3).toNatClampNeg) σ))) else f_X8_leaseTo_43 x2 x3 v2 σ))))
set_option maxHeartbeats 4000000 in
set_option maxRecDepth 100000 in
theorem c_X8_leaseTo {l : Launch} {D : va_G} {cA : Nat → ClassId} {ad : Nat → Nat → Nat} {A : Nat → Prop} {o : Nat → Int64} (hD0 : ∀ σ, va_D A (wW cA ad σ o)) (x1 : Int32) (x2 : Int32) (x3 : Int32) (σ : Mem) {r : Mem} (h : f_X8_leaseTo x1 x2 x3 σ = some r) : Met l yX8_leaseTo (wsG yX8_leaseTo cX8_leaseTo 5 none) rm_X8_leaseTo (va_Pc [.ref (ad 899 0), .int x1, .int x2, .int x3] (IW D cA ad o σ)) (Qv D cA ad o A r) 0 0 A := by
  refine metG (by decide) (Nat.le_of_ble_eq_true rfl) hD0 ?_
  intro p e s m args below meth c C ls hh hl
  have C : Cx p s m args meth c cX8_leaseTo 5 RX8 none D cA ad A o := C
  have hl : lv_has ls 5 [(0, .ref (ad 899 0)), (1, .int x1), (2, .int x2), (3, .int x3)] := hl
  obtain ⟨⟨hx, hb, hml, hown, hts⟩, hK, hN, hD, hr, hlocks⟩ := id C
  unfold f_X8_leaseTo at h
  refine lv_aload_n hx hb dX8_leaseTo_0 rfl (lv_at hl 0 rfl) ?_
  refine gf_8_130 C hh dX8_leaseTo_1 ?_
  refine lv_aload_n hx hb dX8_leaseTo_4 rfl (lv_at hl 0 rfl) ?_
  refine gf_8_16 C hh dX8_leaseTo_5 ?_
  refine lv_iload_n hx hb dX8_leaseTo_8 rfl (lv_at hl 1 rfl) ?_
  obtain ⟨b1, h⟩ := gd_e h
  refine al_804 C hh b1 dX8_leaseTo_9 ?_
  refine lv_iadd hx hb dX8_leaseTo_10 ?_
  obtain ⟨v2, e3, h⟩ := vl_e h
  refine lv_nm e3 ?_
  refine lv_istore (lv' := [(4, .int v2), (0, .ref (ad 899 0)), (1, .int x1), (2, .int x2), (3, .int x3)]) hx hb dX8_leaseTo_11 hl (by decide) rfl (fun ls hl => ?_)
  refine lv_aload_n hx hb dX8_leaseTo_13 rfl (lv_at hl 1 rfl) ?_
  refine gf_8_23 C hh dX8_leaseTo_14 ?_
  refine lv_iload_n hx hb dX8_leaseTo_17 rfl (lv_at hl 4 rfl) ?_
  obtain ⟨b4, h⟩ := gd_e h
  refine al_807 C hh b4 dX8_leaseTo_18 ?_
  refine lv_iconst (v := (2 : Int32)) hx hb dX8_leaseTo_19 (by decide) ?_
  refine lv_icmp_ne (tgt := 43) hx hb dX8_leaseTo_20 (by decide) (fun c5 => ?_) (fun c5 => ?_)
  · rw [if_neg c5] at h
    exact k_X8_leaseTo_43 C x2 x3 v2 σ h hh (lv_sub hl [1, 3, 4, 0] rfl)
  · rw [if_pos c5] at h
    refine lv_aload_n hx hb dX8_leaseTo_23 rfl (lv_at hl 1 rfl) ?_
    refine gf_8_29 C hh dX8_leaseTo_24 ?_
    refine lv_iload_n hx hb dX8_leaseTo_27 rfl (lv_at hl 4 rfl) ?_
    obtain ⟨b6, h⟩ := gd_e h
    refine al_809 C hh b6 dX8_leaseTo_28 ?_
    refine lv_iload hx hb dX8_leaseTo_29 (lv_at hl 0 rfl) ?_
    refine lv_icmp_le (tgt := 43) hx hb dX8_leaseTo_31 (by decide) (fun c7 => ?_) (fun c7 => ?_)
    · rw [if_pos c7] at h
      exact k_X8_leaseTo_43 C x2 x3 v2 σ h hh (lv_sub hl [1, 3, 4, 0] rfl)
    · rw [if_neg c7] at h
      refine lv_aload_n hx hb dX8_leaseTo_34 rfl (lv_at hl 1 rfl) ?_
      refine gf_8_29 C hh dX8_leaseTo_35 ?_
      refine lv_iload_n hx hb dX8_leaseTo_38 rfl (lv_at hl 4 rfl) ?_
      obtain ⟨b8, h⟩ := gd_e h
      refine al_809 C hh b8 dX8_leaseTo_39 ?_
      refine lv_goto (tgt := 45) hx hb dX8_leaseTo_40 (by decide) ?_
      exact k_X8_leaseTo_45 C x2 x3 (σ 809 0 (x3).toNatClampNeg) σ h hh (lv_sub hl [1, 3, 4] rfl)
