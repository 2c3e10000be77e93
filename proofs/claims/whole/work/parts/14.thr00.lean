abbrev rm_X7_pool : Room := { frames := 6, cells := 1, slots := 6, locals := 90 }
theorem HD_X7_pool : yX7_pool.cls = RX7 ∧ yX7_pool.cls ≠ "java/lang/invoke/MethodHandle" ∧ yX7_pool.cls ≠ "java/lang/invoke/VarHandle" ∧ (parseMethodDescriptor yX7_pool.desc).map (fun d => d.parameters.length) = some 4 := by decide +kernel
def f_X7_pool_47 (σ : Mem) : Option (Int32 × Int32 × Mem) := some ((2 : Int32), (0 : Int32), σ)
set_option maxHeartbeats 4000000 in
set_option maxRecDepth 100000 in
theorem k_X7_pool_47 {p : Program} {l : Launch} {e : Env} {s : State} {m : MethodId} {args : Array Value} {below : List Frame} {meth : Method} {c : Code} {D : va_G} {cA : Nat → ClassId} {ad : Nat → Nat → Nat} {A : Nat → Prop} {o : Nat → Int64} (C : Cx p s m args meth c cX7_pool 5 RX7 none D cA ad A o) (Tt : Tx l s c A) {r : Int32 × Int32 × Mem} (σ : Mem) {H : Heap} {locs : List Loc} (h : f_X7_pool_47 σ = some r) (hh : HH D cA ad A o s σ H locs) {ls : Array Slot} (hl : lv_has ls 5 []) : W p l e rm_X7_pool s m args below meth c H locs 0 0 (vx_MQ below (QTv D cA ad o A r) (XT D cA ad o A r) args s 1 6 A) (F0 m 47 ls []) := by
  obtain ⟨⟨hx, hb, hml, hown, hts⟩, hK, hN, hD, hr, hlocks⟩ := id C
  unfold f_X7_pool_47 at h
  exact thr_2 C Tt hh hl.1 h dX7_pool_47 dX7_pool_50 dX7_pool_51 dX7_pool_54 ⟨Nat.le_of_ble_eq_true rfl, Nat.le_of_ble_eq_true rfl, Nat.le_of_ble_eq_true rfl, Nat.le_of_ble_eq_true rfl⟩
def f_X7_pool (x1 : Int32) (x2 : Int32) (x3 : Int32) (x4 : Int32) (σ : Mem) : Option (Int32 × Int32 × Mem) := bn (f_X7_isSubnet x1 σ) (fun r3 s2 => (if r3 = (0 : Int32) then some ((1 : Int32), (0 : Int32), s2) else (if x2 < (2 : Int32) then f_X7_pool_47 s2 else (if x3 < x2 then f_X7_pool_47 s2 else (if (250 : Int32) < x3 then f_X7_pool_47 s2 else (if x4 < (8 : Int32) then f_X7_pool_47 s2 else (if x4 ≤ (10000 : Int32) then gd (vin x1 4) (bv (f_X4_set ((x1).toNatClampNeg) ((x1 <<< ((8 : Int32) &&& 31)) + x2) ((x1 <<< ((8 : Int32) &&& 31)) + x3) x4 s2) (fun s12 => some ((0 : Int32), (0 : Int32), s12))) else f_X7_pool_47 s2)))))))
set_option maxHeartbeats 4000000 in
set_option maxRecDepth 100000 in
theorem c_X7_pool {l : Launch} {D : va_G} {cA : Nat → ClassId} {ad : Nat → Nat → Nat} {A : Nat → Prop} {o : Nat → Int64} (hl0 : l.stackTraces = false) (hD0 : ∀ σ, va_D A (wW cA ad σ o)) (x1 : Int32) (x2 : Int32) (x3 : Int32) (x4 : Int32) (σ : Mem) {r : Int32 × Int32 × Mem} (h : f_X7_pool x1 x2 x3 x4 σ = some r) : vx_Met l yX7_pool (wsG yX7_pool cX7_pool 5 none) rm_X7_pool (va_Pc [.ref (ad 799 0), .int x1, .int x2, .int x3, .int x4] (IX D cA ad A o σ)) (QTv D cA ad o A r) (XT D cA ad o A r) 1 6 A := by
  refine metX (by decide) (Nat.le_of_ble_eq_true rfl) hD0 hl0 ?_
  intro p e s m args below meth c C Tt ls hh hl
  have C : Cx p s m args meth c cX7_pool 5 RX7 none D cA ad A o := C
  have hl : lv_has ls 5 [(0, .ref (ad 799 0)), (1, .int x1), (2, .int x2), (3, .int x3), (4, .int x4)] := hl
  obtain ⟨⟨hx, hb, hml, hown, hts⟩, hK, hN, hD, hr, hlocks⟩ := id C
  unfold f_X7_pool at h
  refine lv_iload_n hx hb dX7_pool_0 rfl (lv_at hl 1 rfl) ?_
  obtain ⟨r3, s2, e1, h⟩ := bn_e h
  refine c_int hh (srun (rest := []) C hh (c_X7_isSubnet C.2.2.2.1 x1 σ e1) LM_7_60 ST_X7_isSubnet IN_7 CD_X7_isSubnet HD_X7_isSubnet ⟨rfl, rfl, Nat.le_of_ble_eq_true rfl, Nat.le_of_ble_eq_true rfl⟩ rfl hl.1 rfl (Nat.le_of_ble_eq_true rfl) dX7_pool_1 ⟨Nat.zero_le _, Nat.zero_le _⟩) (fun H locs hh => ?_)
  refine lv_if_ne (tgt := 15) hx hb dX7_pool_4 (by decide) (fun c4 => ?_) (fun c4 => ?_)
  · rw [if_neg c4] at h
    refine lv_iload_n hx hb dX7_pool_15 rfl (lv_at hl 2 rfl) ?_
    refine lv_iconst (v := (2 : Int32)) hx hb dX7_pool_16 (by decide) ?_
    refine lv_icmp_lt (tgt := 47) hx hb dX7_pool_17 (by decide) (fun c5 => ?_) (fun c5 => ?_)
    · rw [if_pos c5] at h
      exact k_X7_pool_47 C Tt s2 h hh (lv_sub hl [] rfl)
    · rw [if_neg c5] at h
      refine lv_iload_n hx hb dX7_pool_20 rfl (lv_at hl 3 rfl) ?_
      refine lv_iload_n hx hb dX7_pool_21 rfl (lv_at hl 2 rfl) ?_
      refine lv_icmp_lt (tgt := 47) hx hb dX7_pool_22 (by decide) (fun c6 => ?_) (fun c6 => ?_)
      · rw [if_pos c6] at h
        exact k_X7_pool_47 C Tt s2 h hh (lv_sub hl [] rfl)
      · rw [if_neg c6] at h
        refine lv_iload_n hx hb dX7_pool_25 rfl (lv_at hl 3 rfl) ?_
        refine lv_sipush (v := (250 : Int32)) hx hb dX7_pool_26 (by decide) ?_
        refine lv_icmp_gt (tgt := 47) hx hb dX7_pool_29 (by decide) (fun c7 => ?_) (fun c7 => ?_)
        · rw [if_pos c7] at h
          exact k_X7_pool_47 C Tt s2 h hh (lv_sub hl [] rfl)
        · rw [if_neg c7] at h
          refine lv_iload hx hb dX7_pool_32 (lv_at hl 4 rfl) ?_
          refine lv_bipush (v := (8 : Int32)) hx hb dX7_pool_34 (by decide) ?_
          refine lv_icmp_lt (tgt := 47) hx hb dX7_pool_36 (by decide) (fun c8 => ?_) (fun c8 => ?_)
          · rw [if_pos c8] at h
            exact k_X7_pool_47 C Tt s2 h hh (lv_sub hl [] rfl)
          · rw [if_neg c8] at h
            refine lv_iload hx hb dX7_pool_39 (lv_at hl 4 rfl) ?_
            refine lv_sipush (v := (10000 : Int32)) hx hb dX7_pool_41 (by decide) ?_
            refine lv_icmp_le (tgt := 55) hx hb dX7_pool_44 (by decide) (fun c9 => ?_) (fun c9 => ?_)
            · rw [if_pos c9] at h
              refine lv_aload_n hx hb dX7_pool_55 rfl (lv_at hl 0 rfl) ?_
              refine gf_7_19 C hh dX7_pool_56 ?_
              refine gf_7_70 C hh dX7_pool_59 ?_
              refine lv_iload_n hx hb dX7_pool_62 rfl (lv_at hl 1 rfl) ?_
              obtain ⟨b10, h⟩ := gd_e h
              refine al_601 C hh b10 dX7_pool_63 ?_
              refine lv_iload_n hx hb dX7_pool_64 rfl (lv_at hl 1 rfl) ?_
              refine lv_bipush (v := (8 : Int32)) hx hb dX7_pool_65 (by decide) ?_
              refine lv_ishl hx hb dX7_pool_67 ?_
              refine lv_iload_n hx hb dX7_pool_68 rfl (lv_at hl 2 rfl) ?_
              refine lv_iadd hx hb dX7_pool_69 ?_
              refine lv_iload_n hx hb dX7_pool_70 rfl (lv_at hl 1 rfl) ?_
              refine lv_bipush (v := (8 : Int32)) hx hb dX7_pool_71 (by decide) ?_
              refine lv_ishl hx hb dX7_pool_73 ?_
              refine lv_iload_n hx hb dX7_pool_74 rfl (lv_at hl 3 rfl) ?_
              refine lv_iadd hx hb dX7_pool_75 ?_
              refine lv_iload hx hb dX7_pool_76 (lv_at hl 4 rfl) ?_
              obtain ⟨s12, e11, h⟩ := bv_e h
              refine c_void hh (vrun (rest := []) C hh (c_X4_set C.2.2.2.1 ((x1).toNatClampNeg) (vin_l b10) ((x1 <<< ((8 : Int32) &&& 31)) + x2) ((x1 <<< ((8 : Int32) &&& 31)) + x3) x4 s2 e11) LM_7_74 IM_X4_set SL_X4_set IN_4 CD_X4_set HD_X4_set ⟨rfl, rfl, Nat.le_of_ble_eq_true rfl, Nat.le_of_ble_eq_true rfl⟩ (rv_4 C hh (vin_l b10)) rfl hl.1 rfl (Nat.le_of_ble_eq_true rfl) dX7_pool_78 ⟨Nat.zero_le _, Nat.zero_le _⟩) (fun H locs hh => ?_)
              exact t_void C hh h dX7_pool_81
            · rw [if_neg c9] at h
              exact k_X7_pool_47 C Tt s2 h hh (lv_sub hl [] rfl)
  · rw [if_pos c4] at h
    exact thr_1 C Tt hh hl.1 h dX7_pool_7 dX7_pool_10 dX7_pool_11 dX7_pool_14 ⟨Nat.le_of_ble_eq_true rfl, Nat.le_of_ble_eq_true rfl, Nat.le_of_ble_eq_true rfl, Nat.le_of_ble_eq_true rfl⟩
abbrev rm_X7_join : Room := { frames := 6, cells := 1, slots := 6, locals := 113 }
theorem HD_X7_join : yX7_join.cls = RX7 ∧ yX7_join.cls ≠ "java/lang/invoke/MethodHandle" ∧ yX7_join.cls ≠ "java/lang/invoke/VarHandle" ∧ (parseMethodDescriptor yX7_join.desc).map (fun d => d.parameters.length) = some 2 := by decide +kernel
def f_X7_join_14 (σ : Mem) : Option (Int32 × Int32 × Mem) := some ((1 : Int32), (0 : Int32), σ)
set_option maxHeartbeats 4000000 in
set_option maxRecDepth 100000 in
theorem k_X7_join_14 {p : Program} {l : Launch} {e : Env} {s : State} {m : MethodId} {args : Array Value} {below : List Frame} {meth : Method} {c : Code} {D : va_G} {cA : Nat → ClassId} {ad : Nat → Nat → Nat} {A : Nat → Prop} {o : Nat → Int64} (C : Cx p s m args meth c cX7_join 3 RX7 none D cA ad A o) (Tt : Tx l s c A) {r : Int32 × Int32 × Mem} (σ : Mem) {H : Heap} {locs : List Loc} (h : f_X7_join_14 σ = some r) (hh : HH D cA ad A o s σ H locs) {ls : Array Slot} (hl : lv_has ls 3 []) : W p l e rm_X7_join s m args below meth c H locs 0 0 (vx_MQ below (QTv D cA ad o A r) (XT D cA ad o A r) args s 1 6 A) (F0 m 14 ls []) := by
  obtain ⟨⟨hx, hb, hml, hown, hts⟩, hK, hN, hD, hr, hlocks⟩ := id C
  unfold f_X7_join_14 at h
  exact thr_1 C Tt hh hl.1 h dX7_join_14 dX7_join_17 dX7_join_18 dX7_join_21 ⟨Nat.le_of_ble_eq_true rfl, Nat.le_of_ble_eq_true rfl, Nat.le_of_ble_eq_true rfl, Nat.le_of_ble_eq_true rfl⟩
def f_X7_join (x1 : Int32) (x2 : Int32) (σ : Mem) : Option (Int32 × Int32 × Mem) := bn (f_X7_isClient x1 σ) (fun r3 s2 => (if r3 = (0 : Int32) then f_X7_join_14 s2 else bn (f_X7_isSubnet x2 s2) (fun r7 s6 => (if r7 = (0 : Int32) then f_X7_join_14 s6 else gd (vin x1 12) ((if (s6 101 ((x1).toNatClampNeg) 0) = (0 : Int32) then gd (vin x1 12) (bn (f_X1_again ((x1).toNatClampNeg) x2 (s6 708 0 0) 1 s6) (fun r14 s13 => bv (f_X5_post r14 1 s13) (fun s16 => some ((0 : Int32), (0 : Int32), s16)))) else some ((3 : Int32), (0 : Int32), s6)))))))
set_option maxHeartbeats 4000000 in
set_option maxRecDepth 100000 in
theorem c_X7_join {l : Launch} {D : va_G} {cA : Nat → ClassId} {ad : Nat → Nat → Nat} {A : Nat → Prop} {o : Nat → Int64} (hl0 : l.stackTraces = false) (hD0 : ∀ σ, va_D A (wW cA ad σ o)) (x1 : Int32) (x2 : Int32) (σ : Mem) {r : Int32 × Int32 × Mem} (h : f_X7_join x1 x2 σ = some r) : vx_Met l yX7_join (wsG yX7_join cX7_join 3 none) rm_X7_join (va_Pc [.ref (ad 799 0), .int x1, .int x2] (IX D cA ad A o σ)) (QTv D cA ad o A r) (XT D cA ad o A r) 1 6 A := by
  refine metX (by decide) (Nat.le_of_ble_eq_true rfl) hD0 hl0 ?_
  intro p e s m args below meth c C Tt ls hh hl
  have C : Cx p s m args meth c cX7_join 3 RX7 none D cA ad A o := C
  have hl : lv_has ls 3 [(0, .ref (ad 799 0)), (1, .int x1), (2, .int x2)] := hl
  obtain ⟨⟨hx, hb, hml, hown, hts⟩, hK, hN, hD, hr, hlocks⟩ := id C
  unfold f_X7_join at h
  refine lv_iload_n hx hb dX7_join_0 rfl (lv_at hl 1 rfl) ?_
  obtain ⟨r3, s2, e1, h⟩ := bn_e h
  refine c_int hh (srun (rest := []) C hh (c_X7_isClient C.2.2.2.1 x1 σ e1) LM_7_80 ST_X7_isClient IN_7 CD_X7_isClient HD_X7_isClient ⟨rfl, rfl, Nat.le_of_ble_eq_true rfl, Nat.le_of_ble_eq_true rfl⟩ rfl hl.1 rfl (Nat.le_of_ble_eq_true rfl) dX7_join_1 ⟨Nat.zero_le _, Nat.zero_le _⟩) (fun H locs hh => ?_)
  refine lv_if_eq (tgt := 14) hx hb dX7_join_4 (by decide) (fun c4 => ?_) (fun c4 => ?_)
  · rw [if_pos c4] at h
    exact k_X7_join_14 C Tt s2 h hh (lv_sub hl [] rfl)
  · rw [if_neg c4] at h
    refine lv_iload_n hx hb dX7_join_7 rfl (lv_at hl 2 rfl) ?_
    obtain ⟨r7, s6, e5, h⟩ := bn_e h
    refine c_int hh (srun (rest := []) C hh (c_X7_isSubnet C.2.2.2.1 x2 s2 e5) LM_7_60 ST_X7_isSubnet IN_7 CD_X7_isSubnet HD_X7_isSubnet ⟨rfl, rfl, Nat.le_of_ble_eq_true rfl, Nat.le_of_ble_eq_true rfl⟩ rfl hl.1 rfl (Nat.le_of_ble_eq_true rfl) dX7_join_8 ⟨Nat.zero_le _, Nat.zero_le _⟩) (fun H locs hh => ?_)
    refine lv_if_ne (tgt := 22) hx hb dX7_join_11 (by decide) (fun c8 => ?_) (fun c8 => ?_)
    · rw [if_neg c8] at h
      refine lv_aload_n hx hb dX7_join_22 rfl (lv_at hl 0 rfl) ?_
      refine gf_7_25 C hh dX7_join_23 ?_
      refine lv_iload_n hx hb dX7_join_26 rfl (lv_at hl 1 rfl) ?_
      obtain ⟨b9, h⟩ := gd_e h
      refine al_702 C hh b9 dX7_join_27 ?_
      refine gf_7_83 C hh (vin_l b9) dX7_join_28 ?_
      refine lv_if_eq (tgt := 42) hx hb dX7_join_31 (by decide) (fun c10 => ?_) (fun c10 => ?_)
      · rw [if_pos c10] at h
        refine lv_aload_n hx hb dX7_join_42 rfl (lv_at hl 0 rfl) ?_
        refine gf_7_10 C hh dX7_join_43 ?_
        refine lv_aload_n hx hb dX7_join_46 rfl (lv_at hl 0 rfl) ?_
        refine gf_7_25 C hh dX7_join_47 ?_
        refine lv_iload_n hx hb dX7_join_50 rfl (lv_at hl 1 rfl) ?_
        obtain ⟨b11, h⟩ := gd_e h
        refine al_702 C hh b11 dX7_join_51 ?_
        refine lv_iload_n hx hb dX7_join_52 rfl (lv_at hl 2 rfl) ?_
        refine lv_aload_n hx hb dX7_join_53 rfl (lv_at hl 0 rfl) ?_
        refine gf_7_53 C hh dX7_join_54 ?_
        refine lv_aload_n hx hb dX7_join_57 rfl (lv_at hl 0 rfl) ?_
        refine gf_7_50 C hh dX7_join_58 ?_
        obtain ⟨r14, s13, e12, h⟩ := bn_e h
        refine c_int hh (vrun (rest := [.ref (ad 599 0)]) C hh (c_X1_again C.2.2.2.1 ((x1).toNatClampNeg) (vin_l b11) x2 (s6 708 0 0) 1 (by decide) s6 e12) LM_7_89 IM_X1_again SL_X1_again IN_1 CD_X1_again HD_X1_again ⟨rfl, rfl, Nat.le_of_ble_eq_true rfl, Nat.le_of_ble_eq_true rfl⟩ (rv_1 C hh (vin_l b11)) rfl hl.1 rfl (Nat.le_of_ble_eq_true rfl) dX7_join_61 ⟨Nat.zero_le _, Nat.zero_le _⟩) (fun H locs hh => ?_)
        refine lv_aload_n hx hb dX7_join_64 rfl (lv_at hl 0 rfl) ?_
        refine gf_7_50 C hh dX7_join_65 ?_
        obtain ⟨s16, e15, h⟩ := bv_e h
        refine c_void hh (vrun (rest := []) C hh (c_X5_post C.2.2.2.1 r14 1 (by decide) s13 e15) LM_7_93 IM_X5_post SL_X5_post IN_5 CD_X5_post HD_X5_post ⟨rfl, rfl, Nat.le_of_ble_eq_true rfl, Nat.le_of_ble_eq_true rfl⟩ (rv_5 C hh) rfl hl.1 rfl (Nat.le_of_ble_eq_true rfl) dX7_join_68 ⟨Nat.zero_le _, Nat.zero_le _⟩) (fun H locs hh => ?_)
        exact t_void C hh h dX7_join_71
      · rw [if_neg c10] at h
        exact thr_3 C Tt hh hl.1 h dX7_join_34 dX7_join_37 dX7_join_38 dX7_join_41 ⟨Nat.le_of_ble_eq_true rfl, Nat.le_of_ble_eq_true rfl, Nat.le_of_ble_eq_true rfl, Nat.le_of_ble_eq_true rfl⟩
    · rw [if_pos c8] at h
      exact k_X7_join_14 C Tt s6 h hh (lv_sub hl [] rfl)
abbrev rm_X7_off : Room := { frames := 6, cells := 1, slots := 6, locals := 90 }
theorem HD_X7_off : yX7_off.cls = RX7 ∧ yX7_off.cls ≠ "java/lang/invoke/MethodHandle" ∧ yX7_off.cls ≠ "java/lang/invoke/VarHandle" ∧ (parseMethodDescriptor yX7_off.desc).map (fun d => d.parameters.length) = some 1 := by decide +kernel
def f_X7_off (x1 : Int32) (σ : Mem) : Option (Int32 × Int32 × Mem) := bn (f_X7_isClient x1 σ) (fun r3 s2 => (if r3 = (0 : Int32) then some ((1 : Int32), (0 : Int32), s2) else gd (vin x1 12) ((if (s2 101 ((x1).toNatClampNeg) 0) = (0 : Int32) then some ((3 : Int32), (0 : Int32), s2) else gd (vin x1 12) (vl (up s2 101 ((x1).toNatClampNeg) 0 (0 : Int32)) (fun s8 => some ((0 : Int32), (0 : Int32), s8)))))))
set_option maxHeartbeats 4000000 in
set_option maxRecDepth 100000 in
theorem c_X7_off {l : Launch} {D : va_G} {cA : Nat → ClassId} {ad : Nat → Nat → Nat} {A : Nat → Prop} {o : Nat → Int64} (hl0 : l.stackTraces = false) (hD0 : ∀ σ, va_D A (wW cA ad σ o)) (x1 : Int32) (σ : Mem) {r : Int32 × Int32 × Mem} (h : f_X7_off x1 σ = some r) : vx_Met l yX7_off (wsG yX7_off cX7_off 2 none) rm_X7_off (va_Pc [.ref (ad 799 0), .int x1] (IX D cA ad A o σ)) (QTv D cA ad o A r) (XT D cA ad o A r) 1 6 A := by
  refine metX (by decide) (Nat.le_of_ble_eq_true rfl) hD0 hl0 ?_
  intro p e s m args below meth c C Tt ls hh hl
  have C : Cx p s m args meth c cX7_off 2 RX7 none D cA ad A o := C
  have hl : lv_has ls 2 [(0, .ref (ad 799 0)), (1, .int x1)] := hl
  obtain ⟨⟨hx, hb, hml, hown, hts⟩, hK, hN, hD, hr, hlocks⟩ := id C
  unfold f_X7_off at h
  refine lv_iload_n hx hb dX7_off_0 rfl (lv_at hl 1 rfl) ?_
  obtain ⟨r3, s2, e1, h⟩ := bn_e h
  refine c_int hh (srun (rest := []) C hh (c_X7_isClient C.2.2.2.1 x1 σ e1) LM_7_80 ST_X7_isClient IN_7 CD_X7_isClient HD_X7_isClient ⟨rfl, rfl, Nat.le_of_ble_eq_true rfl, Nat.le_of_ble_eq_true rfl⟩ rfl hl.1 rfl (Nat.le_of_ble_eq_true rfl) dX7_off_1 ⟨Nat.zero_le _, Nat.zero_le _⟩) (fun H locs hh => ?_)
  refine lv_if_ne (tgt := 15) hx hb dX7_off_4 (by decide) (fun c4 => ?_) (fun c4 => ?_)
  · rw [if_neg c4] at h
    refine lv_aload_n hx hb dX7_off_15 rfl (lv_at hl 0 rfl) ?_
    refine gf_7_25 C hh dX7_off_16 ?_
    refine lv_iload_n hx hb dX7_off_19 rfl (lv_at hl 1 rfl) ?_
    obtain ⟨b5, h⟩ := gd_e h
    refine al_702 C hh b5 dX7_off_20 ?_
    refine gf_7_83 C hh (vin_l b5) dX7_off_21 ?_
    refine lv_if_ne (tgt := 35) hx hb dX7_off_24 (by decide) (fun c6 => ?_) (fun c6 => ?_)
    · rw [if_neg c6] at h
      refine lv_aload_n hx hb dX7_off_35 rfl (lv_at hl 0 rfl) ?_
      refine gf_7_25 C hh dX7_off_36 ?_
      refine lv_iload_n hx hb dX7_off_39 rfl (lv_at hl 1 rfl) ?_
      obtain ⟨b7, h⟩ := gd_e h
      refine al_702 C hh b7 dX7_off_40 ?_
      refine lv_iconst (v := (0 : Int32)) hx hb dX7_off_41 (by decide) ?_
      obtain ⟨s8, e9, h⟩ := vl_e h
      refine pf_7_83 C hh (vin_l b7) dX7_off_42 (fun H locs hh => ?_)
      rw [← e9] at hh
      exact t_void C hh h dX7_off_45
    · rw [if_pos c6] at h
      exact thr_3 C Tt hh hl.1 h dX7_off_27 dX7_off_30 dX7_off_31 dX7_off_34 ⟨Nat.le_of_ble_eq_true rfl, Nat.le_of_ble_eq_true rfl, Nat.le_of_ble_eq_true rfl, Nat.le_of_ble_eq_true rfl⟩
  · rw [if_pos c4] at h
    exact thr_1 C Tt hh hl.1 h dX7_off_7 dX7_off_10 dX7_off_11 dX7_off_14 ⟨Nat.le_of_ble_eq_true rfl, Nat.le_of_ble_eq_true rfl, Nat.le_of_ble_eq_true rfl, Nat.le_of_ble_eq_true rfl⟩
abbrev rm_X7_leave : Room := { frames := 6, cells := 1, slots := 6, locals := 109 }
theorem HD_X7_leave : yX7_leave.cls = RX7 ∧ yX7_leave.cls ≠ "java/lang/invoke/MethodHandle" ∧ yX7_leave.cls ≠ "java/lang/invoke/VarHandle" ∧ (parseMethodDescriptor yX7_leave.desc).map (fun d => d.parameters.length) = some 1 := by decide +kernel
def f_X7_leave (x1 : Int32) (σ : Mem) : Option (Int32 × Int32 × Mem) := bn (f_X7_isClient x1 σ) (fun r3 s2 => (if r3 = (0 : Int32) then some ((1 : Int32), (0 : Int32), s2) else gd (vin x1 12) ((if (s2 101 ((x1).toNatClampNeg) 0) = (0 : Int32) then some ((3 : Int32), (0 : Int32), s2) else gd (vin x1 12) (bn (f_X1_goAway ((x1).toNatClampNeg) (s2 708 0 0) 1 s2) (fun r10 s9 => bv (f_X5_post r10 1 s9) (fun s12 => some ((0 : Int32), (0 : Int32), s12))))))))
set_option maxHeartbeats 4000000 in
set_option maxRecDepth 100000 in
theorem c_X7_leave {l : Launch} {D : va_G} {cA : Nat → ClassId} {ad : Nat → Nat → Nat} {A : Nat → Prop} {o : Nat → Int64} (hl0 : l.stackTraces = false) (hD0 : ∀ σ, va_D A (wW cA ad σ o)) (x1 : Int32) (σ : Mem) {r : Int32 × Int32 × Mem} (h : f_X7_leave x1 σ = some r) : vx_Met l yX7_leave (wsG yX7_leave cX7_leave 2 none) rm_X7_leave (va_Pc [.ref (ad 799 0), .int x1] (IX D cA ad A o σ)) (QTv D cA ad o A r) (XT D cA ad o A r) 1 6 A := by
  refine metX (by decide) (Nat.le_of_ble_eq_true rfl) hD0 hl0 ?_
  intro p e s m args below meth c C Tt ls hh hl
  have C : Cx p s m args meth c cX7_leave 2 RX7 none D cA ad A o := C
  have hl : lv_has ls 2 [(0, .ref (ad 799 0)), (1, .int x1)] := hl
  obtain ⟨⟨hx, hb, hml, hown, hts⟩, hK, hN, hD, hr, hlocks⟩ := id C
  unfold f_X7_leave at h
  refine lv_iload_n hx hb dX7_leave_0 rfl (lv_at hl 1 rfl) ?_
  obtain ⟨r3, s2, e1, h⟩ := bn_e h
  refine c_int hh (srun (rest := []) C hh (c_X7_isClient C.2.2.2.1 x1 σ e1) LM_7_80 ST_X7_isClient IN_7 CD_X7_isClient HD_X7_isClient ⟨rfl, rfl, Nat.le_of_ble_eq_true rfl, Nat.le_of_ble_eq_true rfl⟩ rfl hl.1 rfl (Nat.le_of_ble_eq_true rfl) dX7_leave_1 ⟨Nat.zero_le _, Nat.zero_le _⟩) (fun H locs hh => ?_)
  refine lv_if_ne (tgt := 15) hx hb dX7_leave_4 (by decide) (fun c4 => ?_) (fun c4 => ?_)
  · rw [if_neg c4] at h
    refine lv_aload_n hx hb dX7_leave_15 rfl (lv_at hl 0 rfl) ?_
    refine gf_7_25 C hh dX7_leave_16 ?_
    refine lv_iload_n hx hb dX7_leave_19 rfl (lv_at hl 1 rfl) ?_
    obtain ⟨b5, h⟩ := gd_e h
    refine al_702 C hh b5 dX7_leave_20 ?_
    refine gf_7_83 C hh (vin_l b5) dX7_leave_21 ?_
    refine lv_if_ne (tgt := 35) hx hb dX7_leave_24 (by decide) (fun c6 => ?_) (fun c6 => ?_)
    · rw [if_neg c6] at h
      refine lv_aload_n hx hb dX7_leave_35 rfl (lv_at hl 0 rfl) ?_
      refine gf_7_10 C hh dX7_leave_36 ?_
      refine lv_aload_n hx hb dX7_leave_39 rfl (lv_at hl 0 rfl) ?_
      refine gf_7_25 C hh dX7_leave_40 ?_
      refine lv_iload_n hx hb dX7_leave_43 rfl (lv_at hl 1 rfl) ?_
      obtain ⟨b7, h⟩ := gd_e h
      refine al_702 C hh b7 dX7_leave_44 ?_
      refine lv_aload_n hx hb dX7_leave_45 rfl (lv_at hl 0 rfl) ?_
      refine gf_7_53 C hh dX7_leave_46 ?_
      refine lv_aload_n hx hb dX7_leave_49 rfl (lv_at hl 0 rfl) ?_
      refine gf_7_50 C hh dX7_leave_50 ?_
      obtain ⟨r10, s9, e8, h⟩ := bn_e h
      refine c_int hh (vrun (rest := [.ref (ad 599 0)]) C hh (c_X1_goAway C.2.2.2.1 ((x1).toNatClampNeg) (vin_l b7) (s2 708 0 0) 1 (by decide) s2 e8) LM_7_97 IM_X1_goAway SL_X1_goAway IN_1 CD_X1_goAway HD_X1_goAway ⟨rfl, rfl, Nat.le_of_ble_eq_true rfl, Nat.le_of_ble_eq_true rfl⟩ (rv_1 C hh (vin_l b7)) rfl hl.1 rfl (Nat.le_of_ble_eq_true rfl) dX7_leave_53 ⟨Nat.zero_le _, Nat.zero_le _⟩) (fun H locs hh => ?_)
      refine lv_aload_n hx hb dX7_leave_56 rfl (lv_at hl 0 rfl) ?_
      refine gf_7_50 C hh dX7_leave_57 ?_
      obtain ⟨s12, e11, h⟩ := bv_e h
      refine c_void hh (vrun (rest := []) C hh (c_X5_post C.2.2.2.1 r10 1 (by decide) s9 e11) LM_7_93 IM_X5_post SL_X5_post IN_5 CD_X5_post HD_X5_post ⟨rfl, rfl, Nat.le_of_ble_eq_true rfl, Nat.le_of_ble_eq_true rfl⟩ (rv_5 C hh) rfl hl.1 rfl (Nat.le_of_ble_eq_true rfl) dX7_leave_60 ⟨Nat.zero_le _, Nat.zero_le _⟩) (fun H locs hh => ?_)
      exact t_void C hh h dX7_leave_63
    · rw [if_pos c6] at h
      exact thr_3 C Tt hh hl.1 h dX7_leave_27 dX7_leave_30 dX7_leave_31 dX7_leave_34 ⟨Nat.le_of_ble_eq_true rfl, Nat.le_of_ble_eq_true rfl, Nat.le_of_ble_eq_true rfl, Nat.le_of_ble_eq_true rfl⟩
  · rw [if_pos c4] at h
    exact thr_1 C Tt hh hl.1 h dX7_leave_7 dX7_leave_10 dX7_leave_11 dX7_leave_14 ⟨Nat.le_of_ble_eq_true rfl, Nat.le_of_ble_eq_true rfl, Nat.le_of_ble_eq_true rfl, Nat.le_of_ble_eq_true rfl⟩
abbrev rm_X7_strange : Room := { frames := 6, cells := 1, slots := 6, locals := 90 }
theorem HD_X7_strange : yX7_strange.cls = RX7 ∧ yX7_strange.cls ≠ "java/lang/invoke/MethodHandle" ∧ yX7_strange.cls ≠ "java/lang/invoke/VarHandle" ∧ (parseMethodDescriptor yX7_strange.desc).map (fun d => d.parameters.length) = some 2 := by decide +kernel
def f_X7_strange (x1 : Int32) (x2 : Int32) (σ : Mem) : Option (Int32 × Int32 × Mem) := bn (f_X7_isAddress x1 σ) (fun r3 s2 => (if r3 = (0 : Int32) then some ((2 : Int32), (0 : Int32), s2) else gd (vin x1 1024) (vl (up s2 703 0 (x1).toNatClampNeg (vp_nar .boolean x2)) (fun s6 => some ((0 : Int32), (0 : Int32), s6)))))
set_option maxHeartbeats 4000000 in
set_option maxRecDepth 100000 in
theorem c_X7_strange {l : Launch} {D : va_G} {cA : Nat → ClassId} {ad : Nat → Nat → Nat} {A : Nat → Prop} {o : Nat → Int64} (hl0 : l.stackTraces = false) (hD0 : ∀ σ, va_D A (wW cA ad σ o)) (x1 : Int32) (x2 : Int32) (σ : Mem) {r : Int32 × Int32 × Mem} (h : f_X7_strange x1 x2 σ = some r) : vx_Met l yX7_strange (wsG yX7_strange cX7_strange 3 none) rm_X7_strange (va_Pc [.ref (ad 799 0), .int x1, .int x2] (IX D cA ad A o σ)) (QTv D cA ad o A r) (XT D cA ad o A r) 1 6 A := by
  refine metX (by decide) (Nat.le_of_ble_eq_true rfl) hD0 hl0 ?_
  intro p e s m args below meth c C Tt ls hh hl
  have C : Cx p s m args meth c cX7_strange 3 RX7 none D cA ad A o := C
  have hl : lv_has ls 3 [(0, .ref (ad 799 0)), (1, .int x1), (2, .int x2)] := hl
  obtain ⟨⟨hx, hb, hml, hown, hts⟩, hK, hN, hD, hr, hlocks⟩ := id C
  unfold f_X7_strange at h
  refine lv_iload_n hx hb dX7_strange_0 rfl (lv_at hl 1 rfl) ?_
  obtain ⟨r3, s2, e1, h⟩ := bn_e h
  refine c_int hh (srun (rest := []) C hh (c_X7_isAddress C.2.2.2.1 x1 σ e1) LM_7_101 ST_X7_isAddress IN_7 CD_X7_isAddress HD_X7_isAddress ⟨rfl, rfl, Nat.le_of_ble_eq_true rfl, Nat.le_of_ble_eq_true rfl⟩ rfl hl.1 rfl (Nat.le_of_ble_eq_true rfl) dX7_strange_1 ⟨Nat.zero_le _, Nat.zero_le _⟩) (fun H locs hh => ?_)
  refine lv_if_ne (tgt := 15) hx hb dX7_strange_4 (by decide) (fun c4 => ?_) (fun c4 => ?_)
  · rw [if_neg c4] at h
    refine lv_aload_n hx hb dX7_strange_15 rfl (lv_at hl 0 rfl) ?_
    refine gf_7_29 C hh dX7_strange_16 ?_
    refine lv_iload_n hx hb dX7_strange_19 rfl (lv_at hl 1 rfl) ?_
    refine lv_iload_n hx hb dX7_strange_20 rfl (lv_at hl 2 rfl) ?_
    obtain ⟨b5, h⟩ := gd_e h
    obtain ⟨s6, e7, h⟩ := vl_e h
    refine as_703 C hh b5 dX7_strange_21 (fun H locs hh => ?_)
    rw [← e7] at hh
    exact t_void C hh h dX7_strange_22
  · rw [if_pos c4] at h
    exact thr_2 C Tt hh hl.1 h dX7_strange_7 dX7_strange_10 dX7_strange_11 dX7_strange_14 ⟨Nat.le_of_ble_eq_true rfl, Nat.le_of_ble_eq_true rfl, Nat.le_of_ble_eq_true rfl, Nat.le_of_ble_eq_true rfl⟩
abbrev rm_X7_packet : Room := { frames := 6, cells := 1, slots := 6, locals := 90 }
theorem HD_X7_packet : yX7_packet.cls = RX7 ∧ yX7_packet.cls ≠ "java/lang/invoke/MethodHandle" ∧ yX7_packet.cls ≠ "java/lang/invoke/VarHandle" ∧ (parseMethodDescriptor yX7_packet.desc).map (fun d => d.parameters.length) = some 2 := by decide +kernel
def f_X7_packet_46 (σ : Mem) : Option (Int32 × Int32 × Mem) := some ((4 : Int32), (0 : Int32), σ)
set_option maxHeartbeats 4000000 in
set_option maxRecDepth 100000 in
theorem k_X7_packet_46 {p : Program} {l : Launch} {e : Env} {s : State} {m : MethodId} {args : Array Value} {below : List Frame} {meth : Method} {c : Code} {D : va_G} {cA : Nat → ClassId} {ad : Nat → Nat → Nat} {A : Nat → Prop} {o : Nat → Int64} (C : Cx p s m args meth c cX7_packet 4 RX7 (some .int) D cA ad A o) (Tt : Tx l s c A) {r : Int32 × Int32 × Mem} (σ : Mem) {H : Heap} {locs : List Loc} (h : f_X7_packet_46 σ = some r) (hh : HH D cA ad A o s σ H locs) {ls : Array Slot} (hl : lv_has ls 4 []) : W p l e rm_X7_packet s m args below meth c H locs 0 0 (vx_MQ below (QTi D cA ad o A r) (XT D cA ad o A r) args s 1 6 A) (F0 m 46 ls []) := by
  obtain ⟨⟨hx, hb, hml, hown, hts⟩, hK, hN, hD, hr, hlocks⟩ := id C
  unfold f_X7_packet_46 at h
  exact thr_4 C Tt hh hl.1 h dX7_packet_46 dX7_packet_49 dX7_packet_50 dX7_packet_53 ⟨Nat.le_of_ble_eq_true rfl, Nat.le_of_ble_eq_true rfl, Nat.le_of_ble_eq_true rfl, Nat.le_of_ble_eq_true rfl⟩
def f_X7_packet (x1 : Int32) (x2 : Int32) (σ : Mem) : Option (Int32 × Int32 × Mem) := bn (f_X5_has x1 σ) (fun r3 s2 => (if r3 = (0 : Int32) then some ((1 : Int32), (0 : Int32), s2) else gd (vin x1 60) (gd (decide ((s2 500 0 (x1).toNatClampNeg).toNatClampNeg < 60)) ((if x2 < (-2 : Int32) then f_X7_packet_46 s2 else (if x2 < (s2 1 ((s2 500 0 (x1).toNatClampNeg).toNatClampNeg) 0) then (if x2 = (-2 : Int32) then some ((0 : Int32), (s2 1 ((s2 500 0 (x1).toNatClampNeg).toNatClampNeg) 0), s2) else (if x2 = (-1 : Int32) then some ((0 : Int32), (s2 301 ((s2 500 0 (x1).toNatClampNeg).toNatClampNeg) 0), s2) else gd (vin x2 60) (some ((0 : Int32), (s2 0 ((s2 500 0 (x1).toNatClampNeg).toNatClampNeg) (x2).toNatClampNeg), s2)))) else f_X7_packet_46 s2))))))
set_option maxHeartbeats 4000000 in
set_option maxRecDepth 100000 in
theorem c_X7_packet {l : Launch} {D : va_G} {cA : Nat → ClassId} {ad : Nat → Nat → Nat} {A : Nat → Prop} {o : Nat → Int64} (hl0 : l.stackTraces = false) (hD0 : ∀ σ, va_D A (wW cA ad σ o)) (x1 : Int32) (x2 : Int32) (σ : Mem) {r : Int32 × Int32 × Mem} (h : f_X7_packet x1 x2 σ = some r) : vx_Met l yX7_packet (wsG yX7_packet cX7_packet 4 (some .int)) rm_X7_packet (va_Pc [.ref (ad 799 0), .int x1, .int x2] (IX D cA ad A o σ)) (QTi D cA ad o A r) (XT D cA ad o A r) 1 6 A := by
  refine metX (by decide) (Nat.le_of_ble_eq_true rfl) hD0 hl0 ?_
  intro p e s m args below meth c C Tt ls hh hl
  have C : Cx p s m args meth c cX7_packet 4 RX7 (some .int) D cA ad A o := C
  have hl : lv_has ls 4 [(0, .ref (ad 799 0)), (1, .int x1), (2, .int x2)] := hl
  obtain ⟨⟨hx, hb, hml, hown, hts⟩, hK, hN, hD, hr, hlocks⟩ := id C
  unfold f_X7_packet at h
  refine lv_aload_n hx hb dX7_packet_0 rfl (lv_at hl 0 rfl) ?_
  refine gf_7_10 C hh dX7_packet_1 ?_
  refine lv_iload_n hx hb dX7_packet_4 rfl (lv_at hl 1 rfl) ?_
  obtain ⟨r3, s2, e1, h⟩ := bn_e h
  refine c_int hh (vrun (rest := []) C hh (c_X5_has C.2.2.2.1 x1 σ e1) LM_7_114 IM_X5_has SL_X5_has IN_5 CD_X5_has HD_X5_has ⟨rfl, rfl, Nat.le_of_ble_eq_true rfl, Nat.le_of_ble_eq_true rfl⟩ (rv_5 C hh) rfl hl.1 rfl (Nat.le_of_ble_eq_true rfl) dX7_packet_5 ⟨Nat.zero_le _, Nat.zero_le _⟩) (fun H locs hh => ?_)
  refine lv_if_ne (tgt := 19) hx hb dX7_packet_8 (by decide) (fun c4 => ?_) (fun c4 => ?_)
  · rw [if_neg c4] at h
    refine lv_aload_n hx hb dX7_packet_19 rfl (lv_at hl 0 rfl) ?_
    refine gf_7_10 C hh dX7_packet_20 ?_
    refine gf_7_117 C hh dX7_packet_23 ?_
    refine lv_iload_n hx hb dX7_packet_26 rfl (lv_at hl 1 rfl) ?_
    obtain ⟨b5, h⟩ := gd_e h
    refine al_500 C hh b5 dX7_packet_27 ?_
    obtain ⟨b6, h⟩ := gd_e h
    refine lv_astore_n (lv' := [(3, .ref (ad 399 ((s2 500 0 (x1).toNatClampNeg).toNatClampNeg))), (0, .ref (ad 799 0)), (1, .int x1), (2, .int x2)]) hx hb dX7_packet_28 rfl hl (by decide) rfl (fun ls hl => ?_)
    refine lv_iload_n hx hb dX7_packet_29 rfl (lv_at hl 3 rfl) ?_
    refine lv_bipush (v := (-2 : Int32)) hx hb dX7_packet_30 (by decide) ?_
    refine lv_icmp_lt (tgt := 46) hx hb dX7_packet_32 (by decide) (fun c7 => ?_) (fun c7 => ?_)
    · rw [if_pos c7] at h
      exact k_X7_packet_46 C Tt s2 h hh (lv_sub hl [] rfl)
    · rw [if_neg c7] at h
      refine lv_iload_n hx hb dX7_packet_35 rfl (lv_at hl 3 rfl) ?_
      refine lv_aload_n hx hb dX7_packet_36 rfl (lv_at hl 0 rfl) ?_
      refine gf_7_121 C hh (bl_lt b6) dX7_packet_37 ?_
      refine gf_7_126 C hh (Nat.lt_trans (bl_lt b6) (by decide)) dX7_packet_40 ?_
      refine lv_icmp_lt (tgt := 54) hx hb dX7_packet_43 (by decide) (fun c8 => ?_) (fun c8 => ?_)
      · rw [if_pos c8] at h
        refine lv_iload_n hx hb dX7_packet_54 rfl (lv_at hl 3 rfl) ?_
        refine lv_bipush (v := (-2 : Int32)) hx hb dX7_packet_55 (by decide) ?_
        refine lv_icmp_ne (tgt := 68) hx hb dX7_packet_57 (by decide) (fun c9 => ?_) (fun c9 => ?_)
        · rw [if_neg c9] at h
          refine lv_iload_n hx hb dX7_packet_68 rfl (lv_at hl 3 rfl) ?_
          refine lv_iconst (v := (-1 : Int32)) hx hb dX7_packet_69 (by decide) ?_
          refine lv_icmp_ne (tgt := 80) hx hb dX7_packet_70 (by decide) (fun c10 => ?_) (fun c10 => ?_)
          · rw [if_neg c10] at h
            refine lv_aload_n hx hb dX7_packet_80 rfl (lv_at hl 0 rfl) ?_
            refine gf_7_121 C hh (bl_lt b6) dX7_packet_81 ?_
            refine gf_7_135 C hh (Nat.lt_trans (bl_lt b6) (by decide)) dX7_packet_84 ?_
            refine lv_iload_n hx hb dX7_packet_87 rfl (lv_at hl 3 rfl) ?_
            obtain ⟨b11, h⟩ := gd_e h
            refine al_0 C hh (Nat.lt_trans (bl_lt b6) (by decide)) b11 dX7_packet_88 ?_
            exact t_int C hh h dX7_packet_89
          · rw [if_pos c10] at h
            refine lv_aload_n hx hb dX7_packet_73 rfl (lv_at hl 0 rfl) ?_
            refine gf_7_132 C hh (bl_lt b6) dX7_packet_74 ?_
            refine lv_goto (tgt := 89) hx hb dX7_packet_77 (by decide) ?_
            exact t_int C hh h dX7_packet_89
        · rw [if_pos c9] at h
          refine lv_aload_n hx hb dX7_packet_60 rfl (lv_at hl 0 rfl) ?_
          refine gf_7_121 C hh (bl_lt b6) dX7_packet_61 ?_
          refine gf_7_126 C hh (Nat.lt_trans (bl_lt b6) (by decide)) dX7_packet_64 ?_
          exact t_int C hh h dX7_packet_67
      · rw [if_neg c8] at h
        exact k_X7_packet_46 C Tt s2 h hh (lv_sub hl [] rfl)
  · rw [if_pos c4] at h
    exact thr_1 C Tt hh hl.1 h dX7_packet_11 dX7_packet_14 dX7_packet_15 dX7_packet_18 ⟨Nat.le_of_ble_eq_true rfl, Nat.le_of_ble_eq_true rfl, Nat.le_of_ble_eq_true rfl, Nat.le_of_ble_eq_true rfl⟩
abbrev rm_X7_carry : Room := { frames := 7, cells := 1, slots := 6, locals := 178 }
theorem HD_X7_carry : yX7_carry.cls = RX7 ∧ yX7_carry.cls ≠ "java/lang/invoke/MethodHandle" ∧ yX7_carry.cls ≠ "java/lang/invoke/VarHandle" ∧ (parseMethodDescriptor yX7_carry.desc).map (fun d => d.parameters.length) = some 1 := by decide +kernel
def f_X7_carry (x1 : Int32) (σ : Mem) : Option (Int32 × Int32 × Mem) := bn (f_X5_has x1 σ) (fun r3 s2 => (if r3 = (0 : Int32) then some ((1 : Int32), (0 : Int32), s2) else bn (f_X7_bring x1 (1 : Int32) s2) (fun r7 s6 => some ((0 : Int32), r7, s6))))
set_option maxHeartbeats 4000000 in
set_option maxRecDepth 100000 in
theorem c_X7_carry {l : Launch} {D : va_G} {cA : Nat → ClassId} {ad : Nat → Nat → Nat} {A : Nat → Prop} {o : Nat → Int64} (hl0 : l.stackTraces = false) (hD0 : ∀ σ, va_D A (wW cA ad σ o)) (x1 : Int32) (σ : Mem) {r : Int32 × Int32 × Mem} (h : f_X7_carry x1 σ = some r) : vx_Met l yX7_carry (wsG yX7_carry cX7_carry 2 (some .int)) rm_X7_carry (va_Pc [.ref (ad 799 0), .int x1] (IX D cA ad A o σ)) (QTi D cA ad o A r) (XT D cA ad o A r) 1 6 A := by
  refine metX (by decide) (Nat.le_of_ble_eq_true rfl) hD0 hl0 ?_
  intro p e s m args below meth c C Tt ls hh hl
  have C : Cx p s m args meth c cX7_carry 2 RX7 (some .int) D cA ad A o := C
  have hl : lv_has ls 2 [(0, .ref (ad 799 0)), (1, .int x1)] := hl
  obtain ⟨⟨hx, hb, hml, hown, hts⟩, hK, hN, hD, hr, hlocks⟩ := id C
  unfold f_X7_carry at h
  refine lv_aload_n hx hb dX7_carry_0 rfl (lv_at hl 0 rfl) ?_
  refine gf_7_10 C hh dX7_carry_1 ?_
  refine lv_iload_n hx hb dX7_carry_4 rfl (lv_at hl 1 rfl) ?_
  obtain ⟨r3, s2, e1, h⟩ := bn_e h
  refine c_int hh (vrun (rest := []) C hh (c_X5_has C.2.2.2.1 x1 σ e1) LM_7_114 IM_X5_has SL_X5_has IN_5 CD_X5_has HD_X5_has ⟨rfl, rfl, Nat.le_of_ble_eq_true rfl, Nat.le_of_ble_eq_true rfl⟩ (rv_5 C hh) rfl hl.1 rfl (Nat.le_of_ble_eq_true rfl) dX7_carry_5 ⟨Nat.zero_le _, Nat.zero_le _⟩) (fun H locs hh => ?_)
  refine lv_if_ne (tgt := 19) hx hb dX7_carry_8 (by decide) (fun c4 => ?_) (fun c4 => ?_)
  · rw [if_neg c4] at h
    refine lv_aload_n hx hb dX7_carry_19 rfl (lv_at hl 0 rfl) ?_
    refine lv_iload_n hx hb dX7_carry_20 rfl (lv_at hl 1 rfl) ?_
    refine lv_iconst (v := (1 : Int32)) hx hb dX7_carry_21 (by decide) ?_
    obtain ⟨r7, s6, e5, h⟩ := bn_e h
    refine c_int hh (vrun (rest := []) C hh (c_X7_bring C.2.2.2.1 x1 (1 : Int32) s2 e5) LM_7_139 IM_X7_bring SL_X7_bring IN_7 CD_X7_bring HD_X7_bring ⟨rfl, rfl, Nat.le_of_ble_eq_true rfl, Nat.le_of_ble_eq_true rfl⟩ (rv_7 C hh) rfl hl.1 rfl (Nat.le_of_ble_eq_true rfl) dX7_carry_22 ⟨Nat.zero_le _, Nat.zero_le _⟩) (fun H locs hh => ?_)
    exact t_int C hh h dX7_carry_25
  · rw [if_pos c4] at h
    exact thr_1 C Tt hh hl.1 h dX7_carry_11 dX7_carry_14 dX7_carry_15 dX7_carry_18 ⟨Nat.le_of_ble_eq_true rfl, Nat.le_of_ble_eq_true rfl, Nat.le_of_ble_eq_true rfl, Nat.le_of_ble_eq_true rfl⟩
abbrev rm_X7_twice : Room := { frames := 7, cells := 1, slots := 6, locals := 178 }
theorem HD_X7_twice : yX7_twice.cls = RX7 ∧ yX7_twice.cls ≠ "java/lang/invoke/MethodHandle" ∧ yX7_twice.cls ≠ "java/lang/invoke/VarHandle" ∧ (parseMethodDescriptor yX7_twice.desc).map (fun d => d.parameters.length) = some 1 := by decide +kernel
def f_X7_twice (x1 : Int32) (σ : Mem) : Option (Int32 × Int32 × Mem) := bn (f_X5_has x1 σ) (fun r3 s2 => (if r3 = (0 : Int32) then some ((1 : Int32), (0 : Int32), s2) else bn (f_X7_bring x1 (0 : Int32) s2) (fun r7 s6 => some ((0 : Int32), (0 : Int32), s6))))
set_option maxHeartbeats 4000000 in
set_option maxRecDepth 100000 in
theorem c_X7_twice {l : Launch} {D : va_G} {cA : Nat → ClassId} {ad : Nat → Nat → Nat} {A : Nat → Prop} {o : Nat → Int64} (hl0 : l.stackTraces = false) (hD0 : ∀ σ, va_D A (wW cA ad σ o)) (x1 : Int32) (σ : Mem) {r : Int32 × Int32 × Mem} (h : f_X7_twice x1 σ = some r) : vx_Met l yX7_twice (wsG yX7_twice cX7_twice 2 none) rm_X7_twice (va_Pc [.ref (ad 799 0), .int x1] (IX D cA ad A o σ)) (QTv D cA ad o A r) (XT D cA ad o A r) 1 6 A := by
  refine metX (by decide) (Nat.le_of_ble_eq_true rfl) hD0 hl0 ?_
  intro p e s m args below meth c C Tt ls hh hl
  have C : Cx p s m args meth c cX7_twice 2 RX7 none D cA ad A o := C
  have hl : lv_has ls 2 [(0, .ref (ad 799 0)), (1, .int x1)] := hl
  obtain ⟨⟨hx, hb, hml, hown, hts⟩, hK, hN, hD, hr, hlocks⟩ := id C
  unfold f_X7_twice at h
  refine lv_aload_n hx hb dX7_twice_0 rfl (lv_at hl 0 rfl) ?_
  refine gf_7_10 C hh dX7_twice_1 ?_
  refine lv_iload_n hx hb dX7_twice_4 rfl (lv_at hl 1 rfl) ?_
  obtain ⟨r3, s2, e1, h⟩ := bn_e h
  refine c_int hh (vrun (rest := []) C hh (c_X5_has C.2.2.2.1 x1 σ e1) LM_7_114 IM_X5_has SL_X5_has IN_5 CD_X5_has HD_X5_has ⟨rfl, rfl, Nat.le_of_ble_eq_true rfl, Nat.le_of_ble_eq_true rfl⟩ (rv_5 C hh) rfl hl.1 rfl (Nat.le_of_ble_eq_true rfl) dX7_twice_5 ⟨Nat.zero_le _, Nat.zero_le _⟩) (fun H locs hh => ?_)
  refine lv_if_ne (tgt := 19) hx hb dX7_twice_8 (by decide) (fun c4 => ?_) (fun c4 => ?_)
  · rw [if_neg c4] at h
    refine lv_aload_n hx hb dX7_twice_19 rfl (lv_at hl 0 rfl) ?_
    refine lv_iload_n hx hb dX7_twice_20 rfl (lv_at hl 1 rfl) ?_
    refine lv_iconst (v := (0 : Int32)) hx hb dX7_twice_21 (by decide) ?_
    obtain ⟨r7, s6, e5, h⟩ := bn_e h
    refine c_int hh (vrun (rest := []) C hh (c_X7_bring C.2.2.2.1 x1 (0 : Int32) s2 e5) LM_7_139 IM_X7_bring SL_X7_bring IN_7 CD_X7_bring HD_X7_bring ⟨rfl, rfl, Nat.le_of_ble_eq_true rfl, Nat.le_of_ble_eq_true rfl⟩ (rv_7 C hh) rfl hl.1 rfl (Nat.le_of_ble_eq_true rfl) dX7_twice_22 ⟨Nat.zero_le _, Nat.zero_le _⟩) (fun H locs hh => ?_)
    refine lv_pop hx hb dX7_twice_25 rfl ?_
    exact t_void C hh h dX7_twice_26
  · rw [if_pos c4] at h
    exact thr_1 C Tt hh hl.1 h dX7_twice_11 dX7_twice_14 dX7_twice_15 dX7_twice_18 ⟨Nat.le_of_ble_eq_true rfl, Nat.le_of_ble_eq_true rfl, Nat.le_of_ble_eq_true rfl, Nat.le_of_ble_eq_true rfl⟩
abbrev rm_X7_drop : Room := { frames := 6, cells := 1, slots := 6, locals := 90 }
theorem HD_X7_drop : yX7_drop.cls = RX7 ∧ yX7_drop.cls ≠ "java/lang/invoke/MethodHandle" ∧ yX7_drop.cls ≠ "java/lang/invoke/VarHandle" ∧ (parseMethodDescriptor yX7_drop.desc).map (fun d => d.parameters.length) = some 1 := by decide +kernel
def f_X7_drop (x1 : Int32) (σ : Mem) : Option (Int32 × Int32 × Mem) := bn (f_X5_has x1 σ) (fun r3 s2 => (if r3 = (0 : Int32) then some ((1 : Int32), (0 : Int32), s2) else bv (f_X5_remove x1 s2) (fun s6 => some ((0 : Int32), (0 : Int32), s6))))
set_option maxHeartbeats 4000000 in
set_option maxRecDepth 100000 in
theorem c_X7_drop {l : Launch} {D : va_G} {cA : Nat → ClassId} {ad : Nat → Nat → Nat} {A : Nat → Prop} {o : Nat → Int64} (hl0 : l.stackTraces = false) (hD0 : ∀ σ, va_D A (wW cA ad σ o)) (x1 : Int32) (σ : Mem) {r : Int32 × Int32 × Mem} (h : f_X7_drop x1 σ = some r) : vx_Met l yX7_drop (wsG yX7_drop cX7_drop 2 none) rm_X7_drop (va_Pc [.ref (ad 799 0), .int x1] (IX D cA ad A o σ)) (QTv D cA ad o A r) (XT D cA ad o A r) 1 6 A := by
  refine metX (by decide) (Nat.le_of_ble_eq_true rfl) hD0 hl0 ?_
  intro p e s m args below meth c C Tt ls hh hl
  have C : Cx p s m args meth c cX7_drop 2 RX7 none D cA ad A o := C
  have hl : lv_has ls 2 [(0, .ref (ad 799 0)), (1, .int x1)] := hl
  obtain ⟨⟨hx, hb, hml, hown, hts⟩, hK, hN, hD, hr, hlocks⟩ := id C
  unfold f_X7_drop at h
  refine lv_aload_n hx hb dX7_drop_0 rfl (lv_at hl 0 rfl) ?_
  refine gf_7_10 C hh dX7_drop_1 ?_
  refine lv_iload_n hx hb dX7_drop_4 rfl (lv_at hl 1 rfl) ?_
  obtain ⟨r3, s2, e1, h⟩ := bn_e h
  refine c_int hh (vrun (rest := []) C hh (c_X5_has C.2.2.2.1 x1 σ e1) LM_7_114 IM_X5_has SL_X5_has IN_5 CD_X5_has HD_X5_has ⟨rfl, rfl, Nat.le_of_ble_eq_true rfl, Nat.le_of_ble_eq_true rfl⟩ (rv_5 C hh) rfl hl.1 rfl (Nat.le_of_ble_eq_true rfl) dX7_drop_5 ⟨Nat.zero_le _, Nat.zero_le _⟩) (fun H locs hh => ?_)
  refine lv_if_ne (tgt := 19) hx hb dX7_drop_8 (by decide) (fun c4 => ?_) (fun c4 => ?_)
  · rw [if_neg c4] at h
    refine lv_aload_n hx hb dX7_drop_19 rfl (lv_at hl 0 rfl) ?_
    refine gf_7_10 C hh dX7_drop_20 ?_
    refine lv_iload_n hx hb dX7_drop_23 rfl (lv_at hl 1 rfl) ?_
    obtain ⟨s6, e5, h⟩ := bv_e h
    refine c_void hh (vrun (rest := []) C hh (c_X5_remove C.2.2.2.1 x1 s2 e5) LM_7_143 IM_X5_remove SL_X5_remove IN_5 CD_X5_remove HD_X5_remove ⟨rfl, rfl, Nat.le_of_ble_eq_true rfl, Nat.le_of_ble_eq_true rfl⟩ (rv_5 C hh) rfl hl.1 rfl (Nat.le_of_ble_eq_true rfl) dX7_drop_24 ⟨Nat.zero_le _, Nat.zero_le _⟩) (fun H locs hh => ?_)
    exact t_void C hh h dX7_drop_27
  · rw [if_pos c4] at h
    exact thr_1 C Tt hh hl.1 h dX7_drop_11 dX7_drop_14 dX7_drop_15 dX7_drop_18 ⟨Nat.le_of_ble_eq_true rfl, Nat.le_of_ble_eq_true rfl, Nat.le_of_ble_eq_true rfl, Nat.le_of_ble_eq_true rfl⟩
abbrev rm_X7_run : Room := { frames := 7, cells := 1, slots := 6, locals := 178 }
theorem HD_X7_run : yX7_run.cls = RX7 ∧ yX7_run.cls ≠ "java/lang/invoke/MethodHandle" ∧ yX7_run.cls ≠ "java/lang/invoke/VarHandle" ∧ (parseMethodDescriptor yX7_run.desc).map (fun d => d.parameters.length) = some 1 := by decide +kernel
def f_X7_run_21 : Nat → Int32 → Int32 → Mem → Option (Int32 × Int32 × Mem)
  | 0, _, _, _ => none
  | n + 1, x1, x2, σ => (if x1 ≤ x2 then some ((0 : Int32), x2, σ) else (if (σ 501 0 0) ≤ (0 : Int32) then some ((0 : Int32), x2, σ) else bn (f_X7_bring (0 : Int32) (1 : Int32) σ) (fun r5 s4 => vl (x2 + (1 : Int32)) (fun v6 => f_X7_run_21 n x1 v6 s4))))
set_option maxHeartbeats 4000000 in
set_option maxRecDepth 100000 in
theorem k_X7_run_21 {p : Program} {l : Launch} {e : Env} {s : State} {m : MethodId} {args : Array Value} {below : List Frame} {meth : Method} {c : Code} {D : va_G} {cA : Nat → ClassId} {ad : Nat → Nat → Nat} {A : Nat → Prop} {o : Nat → Int64} (C : Cx p s m args meth c cX7_run 3 RX7 (some .int) D cA ad A o) (Tt : Tx l s c A) {r : Int32 × Int32 × Mem} : ∀ (n : Nat) (x1 : Int32) (x2 : Int32) (σ : Mem) {H : Heap} {locs : List Loc} (h : f_X7_run_21 n x1 x2 σ = some r) (hh : HH D cA ad A o s σ H locs) {ls : Array Slot} (hl : lv_has ls 3 [(0, .ref (ad 799 0)), (1, .int x1), (2, .int x2)]), W p l e rm_X7_run s m args below meth c H locs 0 0 (vx_MQ below (QTi D cA ad o A r) (XT D cA ad o A r) args s 1 6 A) (F0 m 21 ls []) := by
  obtain ⟨⟨hx, hb, hml, hown, hts⟩, hK, hN, hD, hr, hlocks⟩ := id C
  intro n
  induction n with
  | zero =>
    intro x1 x2 σ H locs h
    rw [f_X7_run_21.eq_1] at h
    cases h
  | succ n ih =>
    intro x1 x2 σ H locs h hh ls hl
    rw [f_X7_run_21.eq_2] at h
    refine lv_iload_n hx hb dX7_run_21 rfl (lv_at hl 2 rfl) ?_
    refine lv_iload_n hx hb dX7_run_22 rfl (lv_at hl 1 rfl) ?_
    refine lv_icmp_ge (tgt := 49) hx hb dX7_run_23 (by decide) (fun c1 => ?_) (fun c1 => ?_)
    · rw [if_pos c1] at h
      refine lv_iload_n hx hb dX7_run_49 rfl (lv_at hl 2 rfl) ?_
      exact t_int C hh h dX7_run_50
    · rw [if_neg c1] at h
      refine lv_aload_n hx hb dX7_run_26 rfl (lv_at hl 0 rfl) ?_
      refine gf_7_10 C hh dX7_run_27 ?_
      refine gf_7_111 C hh dX7_run_30 ?_
      refine lv_if_le (tgt := 49) hx hb dX7_run_33 (by decide) (fun c2 => ?_) (fun c2 => ?_)
      · rw [if_pos c2] at h
        refine lv_iload_n hx hb dX7_run_49 rfl (lv_at hl 2 rfl) ?_
        exact t_int C hh h dX7_run_50
      · rw [if_neg c2] at h
        refine lv_aload_n hx hb dX7_run_36 rfl (lv_at hl 0 rfl) ?_
        refine lv_iconst (v := (0 : Int32)) hx hb dX7_run_37 (by decide) ?_
        refine lv_iconst (v := (1 : Int32)) hx hb dX7_run_38 (by decide) ?_
        obtain ⟨r5, s4, e3, h⟩ := bn_e h
        refine c_int hh (vrun (rest := []) C hh (c_X7_bring C.2.2.2.1 (0 : Int32) (1 : Int32) σ e3) LM_7_139 IM_X7_bring SL_X7_bring IN_7 CD_X7_bring HD_X7_bring ⟨rfl, rfl, Nat.le_of_ble_eq_true rfl, Nat.le_of_ble_eq_true rfl⟩ (rv_7 C hh) rfl hl.1 rfl (Nat.le_of_ble_eq_true rfl) dX7_run_39 ⟨Nat.zero_le _, Nat.zero_le _⟩) (fun H locs hh => ?_)
        refine lv_pop hx hb dX7_run_42 rfl ?_
        obtain ⟨v6, e7, h⟩ := vl_e h
        refine lv_iinc (v := v6) (lv' := [(2, .int v6), (0, .ref (ad 799 0)), (1, .int x1)]) hx hb dX7_run_43 hl (k := 2) rfl (by rw [e7]; rfl) (by decide) rfl (fun ls hl => ?_)
        refine lv_goto (tgt := 21) hx hb dX7_run_46 (by decide) ?_
        exact ih x1 v6 s4 h hh (lv_sub hl [1, 2, 0] rfl)
def f_X7_run_11 (σ : Mem) : Option (Int32 × Int32 × Mem) := some ((2 : Int32), (0 : Int32), σ)
set_option maxHeartbeats 4000000 in
set_option maxRecDepth 100000 in
theorem k_X7_run_11 {p : Program} {l : Launch} {e : Env} {s : State} {m : MethodId} {args : Array Value} {below : List Frame} {meth : Method} {c : Code} {D : va_G} {cA : Nat → ClassId} {ad : Nat → Nat → Nat} {A : Nat → Prop} {o : Nat → Int64} (C : Cx p s m args meth c cX7_run 3 RX7 (some .int) D cA ad A o) (Tt : Tx l s c A) {r : Int32 × Int32 × Mem} (σ : Mem) {H : Heap} {locs : List Loc} (h : f_X7_run_11 σ = some r) (hh : HH D cA ad A o s σ H locs) {ls : Array Slot} (hl : lv_has ls 3 []) : W p l e rm_X7_run s m args below meth c H locs 0 0 (vx_MQ below (QTi D cA ad o A r) (XT D cA ad o A r) args s 1 6 A) (F0 m 11 ls []) := by
  obtain ⟨⟨hx, hb, hml, hown, hts⟩, hK, hN, hD, hr, hlocks⟩ := id C
  unfold f_X7_run_11 at h
  exact thr_2 C Tt hh hl.1 h dX7_run_11 dX7_run_14 dX7_run_15 dX7_run_18 ⟨Nat.le_of_ble_eq_true rfl, Nat.le_of_ble_eq_true rfl, Nat.le_of_ble_eq_true rfl, Nat.le_of_ble_eq_true rfl⟩
def f_X7_run (x1 : Int32) (σ : Mem) : Option (Int32 × Int32 × Mem) := (if x1 < (0 : Int32) then f_X7_run_11 σ else (if x1 ≤ (200 : Int32) then f_X7_run_21 5000 x1 (0 : Int32) σ else f_X7_run_11 σ))
set_option maxHeartbeats 4000000 in
set_option maxRecDepth 100000 in
theorem c_X7_run {l : Launch} {D : va_G} {cA : Nat → ClassId} {ad : Nat → Nat → Nat} {A : Nat → Prop} {o : Nat → Int64} (hl0 : l.stackTraces = false) (hD0 : ∀ σ, va_D A (wW cA ad σ o)) (x1 : Int32) (σ : Mem) {r : Int32 × Int32 × Mem} (h : f_X7_run x1 σ = some r) : vx_Met l yX7_run (wsG yX7_run cX7_run 3 (some .int)) rm_X7_run (va_Pc [.ref (ad 799 0), .int x1] (IX D cA ad A o σ)) (QTi D cA ad o A r) (XT D cA ad o A r) 1 6 A := by
  refine metX (by decide) (Nat.le_of_ble_eq_true rfl) hD0 hl0 ?_
  intro p e s m args below meth c C Tt ls hh hl
  have C : Cx p s m args meth c cX7_run 3 RX7 (some .int) D cA ad A o := C
  have hl : lv_has ls 3 [(0, .ref (ad 799 0)), (1, .int x1)] := hl
  obtain ⟨⟨hx, hb, hml, hown, hts⟩, hK, hN, hD, hr, hlocks⟩ := id C
  unfold f_X7_run at h
  refine lv_iload_n hx hb dX7_run_0 rfl (lv_at hl 1 rfl) ?_
  refine lv_if_lt (tgt := 11) hx hb dX7_run_1 (by decide) (fun c1 => ?_) (fun c1 => ?_)
  · rw [if_pos c1] at h
    exact k_X7_run_11 C Tt σ h hh (lv_sub hl [] rfl)
  · rw [if_neg c1] at h
    refine lv_iload_n hx hb dX7_run_4 rfl (lv_at hl 1 rfl) ?_
    refine lv_sipush (v := (200 : Int32)) hx hb dX7_run_5 (by decide) ?_
    refine lv_icmp_le (tgt := 19) hx hb dX7_run_8 (by decide) (fun c2 => ?_) (fun c2 => ?_)
    · rw [if_pos c2] at h
      refine lv_iconst (v := (0 : Int32)) hx hb dX7_run_19 (by decide) ?_
      refine lv_istore_n (lv' := [(2, .int (0 : Int32)), (0, .ref (ad 799 0)), (1, .int x1)]) hx hb dX7_run_20 rfl hl (by decide) rfl (fun ls hl => ?_)
      exact k_X7_run_21 C Tt 5000 x1 (0 : Int32) σ h hh (lv_sub hl [1, 2, 0] rfl)
    · rw [if_neg c2] at h
      exact k_X7_run_11 C Tt σ h hh (lv_sub hl [] rfl)
abbrev rm_X7_told : Room := { frames := 6, cells := 1, slots := 6, locals := 92 }
theorem HD_X7_told : yX7_told.cls = RX7 ∧ yX7_told.cls ≠ "java/lang/invoke/MethodHandle" ∧ yX7_told.cls ≠ "java/lang/invoke/VarHandle" ∧ (parseMethodDescriptor yX7_told.desc).map (fun d => d.parameters.length) = some 1 := by decide +kernel
def f_X7_told_10 (σ : Mem) : Option (Int32 × Int32 × Mem) := some ((4 : Int32), (0 : Int32), σ)
set_option maxHeartbeats 4000000 in
set_option maxRecDepth 100000 in
theorem k_X7_told_10 {p : Program} {l : Launch} {e : Env} {s : State} {m : MethodId} {args : Array Value} {below : List Frame} {meth : Method} {c : Code} {D : va_G} {cA : Nat → ClassId} {ad : Nat → Nat → Nat} {A : Nat → Prop} {o : Nat → Int64} (C : Cx p s m args meth c cX7_told 2 RX7 (some .int) D cA ad A o) (Tt : Tx l s c A) {r : Int32 × Int32 × Mem} (σ : Mem) {H : Heap} {locs : List Loc} (h : f_X7_told_10 σ = some r) (hh : HH D cA ad A o s σ H locs) {ls : Array Slot} (hl : lv_has ls 2 []) : W p l e rm_X7_told s m args below meth c H locs 0 0 (vx_MQ below (QTi D cA ad o A r) (XT D cA ad o A r) args s 1 6 A) (F0 m 10 ls []) := by
  obtain ⟨⟨hx, hb, hml, hown, hts⟩, hK, hN, hD, hr, hlocks⟩ := id C
  unfold f_X7_told_10 at h
  exact thr_4 C Tt hh hl.1 h dX7_told_10 dX7_told_13 dX7_told_14 dX7_told_17 ⟨Nat.le_of_ble_eq_true rfl, Nat.le_of_ble_eq_true rfl, Nat.le_of_ble_eq_true rfl, Nat.le_of_ble_eq_true rfl⟩
def f_X7_told (x1 : Int32) (σ : Mem) : Option (Int32 × Int32 × Mem) := (if x1 < (0 : Int32) then f_X7_told_10 σ else (if x1 ≤ (10 : Int32) then bn (f_X2_read 0 60 σ) (fun r5 s4 => (if r5 = (0 : Int32) then some ((2 : Int32), (0 : Int32), s4) else bn (f_X2_part 0 x1 s4) (fun r9 s8 => some ((0 : Int32), r9, s8)))) else f_X7_told_10 σ))
set_option maxHeartbeats 4000000 in
set_option maxRecDepth 100000 in
theorem c_X7_told {l : Launch} {D : va_G} {cA : Nat → ClassId} {ad : Nat → Nat → Nat} {A : Nat → Prop} {o : Nat → Int64} (hl0 : l.stackTraces = false) (hD0 : ∀ σ, va_D A (wW cA ad σ o)) (x1 : Int32) (σ : Mem) {r : Int32 × Int32 × Mem} (h : f_X7_told x1 σ = some r) : vx_Met l yX7_told (wsG yX7_told cX7_told 2 (some .int)) rm_X7_told (va_Pc [.ref (ad 799 0), .int x1] (IX D cA ad A o σ)) (QTi D cA ad o A r) (XT D cA ad o A r) 1 6 A := by
  refine metX (by decide) (Nat.le_of_ble_eq_true rfl) hD0 hl0 ?_
  intro p e s m args below meth c C Tt ls hh hl
  have C : Cx p s m args meth c cX7_told 2 RX7 (some .int) D cA ad A o := C
  have hl : lv_has ls 2 [(0, .ref (ad 799 0)), (1, .int x1)] := hl
  obtain ⟨⟨hx, hb, hml, hown, hts⟩, hK, hN, hD, hr, hlocks⟩ := id C
  unfold f_X7_told at h
  refine lv_iload_n hx hb dX7_told_0 rfl (lv_at hl 1 rfl) ?_
  refine lv_if_lt (tgt := 10) hx hb dX7_told_1 (by decide) (fun c1 => ?_) (fun c1 => ?_)
  · rw [if_pos c1] at h
    exact k_X7_told_10 C Tt σ h hh (lv_sub hl [] rfl)
  · rw [if_neg c1] at h
    refine lv_iload_n hx hb dX7_told_4 rfl (lv_at hl 1 rfl) ?_
    refine lv_bipush (v := (10 : Int32)) hx hb dX7_told_5 (by decide) ?_
    refine lv_icmp_le (tgt := 18) hx hb dX7_told_7 (by decide) (fun c2 => ?_) (fun c2 => ?_)
    · rw [if_pos c2] at h
      refine lv_aload_n hx hb dX7_told_18 rfl (lv_at hl 0 rfl) ?_
      refine gf_7_46 C hh dX7_told_19 ?_
      refine lv_aload_n hx hb dX7_told_22 rfl (lv_at hl 0 rfl) ?_
      refine gf_7_36 C hh dX7_told_23 ?_
      obtain ⟨r5, s4, e3, h⟩ := bn_e h
      refine c_int hh (vrun (rest := []) C hh (c_X2_read C.2.2.2.1 0 (by decide) 60 (by decide) σ e3) LM_7_149 IM_X2_read SL_X2_read IN_2 CD_X2_read HD_X2_read ⟨rfl, rfl, Nat.le_of_ble_eq_true rfl, Nat.le_of_ble_eq_true rfl⟩ (rv_2 C hh (by decide)) rfl hl.1 rfl (Nat.le_of_ble_eq_true rfl) dX7_told_26 ⟨Nat.zero_le _, Nat.zero_le _⟩) (fun H locs hh => ?_)
      refine lv_if_ne (tgt := 40) hx hb dX7_told_29 (by decide) (fun c6 => ?_) (fun c6 => ?_)
      · rw [if_neg c6] at h
        refine lv_aload_n hx hb dX7_told_40 rfl (lv_at hl 0 rfl) ?_
        refine gf_7_46 C hh dX7_told_41 ?_
        refine lv_iload_n hx hb dX7_told_44 rfl (lv_at hl 1 rfl) ?_
        obtain ⟨r9, s8, e7, h⟩ := bn_e h
        refine c_int hh (vrun (rest := []) C hh (c_X2_part C.2.2.2.1 0 (by decide) x1 s4 e7) LM_7_153 IM_X2_part SL_X2_part IN_2 CD_X2_part HD_X2_part ⟨rfl, rfl, Nat.le_of_ble_eq_true rfl, Nat.le_of_ble_eq_true rfl⟩ (rv_2 C hh (by decide)) rfl hl.1 rfl (Nat.le_of_ble_eq_true rfl) dX7_told_45 ⟨Nat.zero_le _, Nat.zero_le _⟩) (fun H locs hh => ?_)
        exact t_int C hh h dX7_told_48
      · rw [if_pos c6] at h
        exact thr_2 C Tt hh hl.1 h dX7_told_32 dX7_told_35 dX7_told_36 dX7_told_39 ⟨Nat.le_of_ble_eq_true rfl, Nat.le_of_ble_eq_true rfl, Nat.le_of_ble_eq_true rfl, Nat.le_of_ble_eq_true rfl⟩
    · rw [if_neg c2] at h
      exact k_X7_told_10 C Tt σ h hh (lv_sub hl [] rfl)
abbrev rm_X7_inject : Room := { frames := 6, cells := 1, slots := 6, locals := 133 }
theorem HD_X7_inject : yX7_inject.cls = RX7 ∧ yX7_inject.cls ≠ "java/lang/invoke/MethodHandle" ∧ yX7_inject.cls ≠ "java/lang/invoke/VarHandle" ∧ (parseMethodDescriptor yX7_inject.desc).map (fun d => d.parameters.length) = some 1 := by decide +kernel
def f_X7_inject_17 (σ : Mem) : Option (Int32 × Int32 × Mem) := some ((2 : Int32), (0 : Int32), σ)
set_option maxHeartbeats 4000000 in
set_option maxRecDepth 100000 in
theorem k_X7_inject_17 {p : Program} {l : Launch} {e : Env} {s : State} {m : MethodId} {args : Array Value} {below : List Frame} {meth : Method} {c : Code} {D : va_G} {cA : Nat → ClassId} {ad : Nat → Nat → Nat} {A : Nat → Prop} {o : Nat → Int64} (C : Cx p s m args meth c cX7_inject 2 RX7 none D cA ad A o) (Tt : Tx l s c A) {r : Int32 × Int32 × Mem} (σ : Mem) {H : Heap} {locs : List Loc} (h : f_X7_inject_17 σ = some r) (hh : HH D cA ad A o s σ H locs) {ls : Array Slot} (hl : lv_has ls 2 []) : W p l e rm_X7_inject s m args below meth c H locs 0 0 (vx_MQ below (QTv D cA ad o A r) (XT D cA ad o A r) args s 1 6 A) (F0 m 17 ls []) := by
  obtain ⟨⟨hx, hb, hml, hown, hts⟩, hK, hN, hD, hr, hlocks⟩ := id C
  unfold f_X7_inject_17 at h
  exact thr_2 C Tt hh hl.1 h dX7_inject_17 dX7_inject_20 dX7_inject_21 dX7_inject_24 ⟨Nat.le_of_ble_eq_true rfl, Nat.le_of_ble_eq_true rfl, Nat.le_of_ble_eq_true rfl, Nat.le_of_ble_eq_true rfl⟩
def f_X7_inject (x1 : Int32) (σ : Mem) : Option (Int32 × Int32 × Mem) := bn (f_X7_isPlace x1 σ) (fun r3 s2 => (if r3 = (0 : Int32) then f_X7_inject_17 s2 else (if (s2 1 60 0) = (0 : Int32) then f_X7_inject_17 s2 else bv (f_X5_postBytes x1 60 s2) (fun s7 => vl (up s7 1 60 0 (0 : Int32)) (fun s8 => some ((0 : Int32), (0 : Int32), s8))))))
set_option maxHeartbeats 4000000 in
set_option maxRecDepth 100000 in
theorem c_X7_inject {l : Launch} {D : va_G} {cA : Nat → ClassId} {ad : Nat → Nat → Nat} {A : Nat → Prop} {o : Nat → Int64} (hl0 : l.stackTraces = false) (hD0 : ∀ σ, va_D A (wW cA ad σ o)) (x1 : Int32) (σ : Mem) {r : Int32 × Int32 × Mem} (h : f_X7_inject x1 σ = some r) : vx_Met l yX7_inject (wsG yX7_inject cX7_inject 2 none) rm_X7_inject (va_Pc [.ref (ad 799 0), .int x1] (IX D cA ad A o σ)) (QTv D cA ad o A r) (XT D cA ad o A r) 1 6 A := by
  refine metX (by decide) (Nat.le_of_ble_eq_true rfl) hD0 hl0 ?_
  intro p e s m args below meth c C Tt ls hh hl
  have C : Cx p s m args meth c cX7_inject 2 RX7 none D cA ad A o := C
  have hl : lv_has ls 2 [(0, .ref (ad 799 0)), (1, .int x1)] := hl
  obtain ⟨⟨hx, hb, hml, hown, hts⟩, hK, hN, hD, hr, hlocks⟩ := id C
  unfold f_X7_inject at h
  refine lv_iload_n hx hb dX7_inject_0 rfl (lv_at hl 1 rfl) ?_
  obtain ⟨r3, s2, e1, h⟩ := bn_e h
  refine c_int hh (srun (rest := []) C hh (c_X7_isPlace C.2.2.2.1 x1 σ e1) LM_7_157 ST_X7_isPlace IN_7 CD_X7_isPlace HD_X7_isPlace ⟨rfl, rfl, Nat.le_of_ble_eq_true rfl, Nat.le_of_ble_eq_true rfl⟩ rfl hl.1 rfl (Nat.le_of_ble_eq_true rfl) dX7_inject_1 ⟨Nat.zero_le _, Nat.zero_le _⟩) (fun H locs hh => ?_)
  refine lv_if_eq (tgt := 17) hx hb dX7_inject_4 (by decide) (fun c4 => ?_) (fun c4 => ?_)
  · rw [if_pos c4] at h
    exact k_X7_inject_17 C Tt s2 h hh (lv_sub hl [] rfl)
  · rw [if_neg c4] at h
    refine lv_aload_n hx hb dX7_inject_7 rfl (lv_at hl 0 rfl) ?_
    refine gf_7_36 C hh dX7_inject_8 ?_
    refine gf_7_126 C hh (by decide) dX7_inject_11 ?_
    refine lv_if_ne (tgt := 25) hx hb dX7_inject_14 (by decide) (fun c5 => ?_) (fun c5 => ?_)
    · rw [if_neg c5] at h
      refine lv_aload_n hx hb dX7_inject_25 rfl (lv_at hl 0 rfl) ?_
      refine gf_7_10 C hh dX7_inject_26 ?_
      refine lv_iload_n hx hb dX7_inject_29 rfl (lv_at hl 1 rfl) ?_
      refine lv_aload_n hx hb dX7_inject_30 rfl (lv_at hl 0 rfl) ?_
      refine gf_7_36 C hh dX7_inject_31 ?_
      obtain ⟨s7, e6, h⟩ := bv_e h
      refine c_void hh (vrun (rest := []) C hh (c_X5_postBytes C.2.2.2.1 x1 60 (by decide) s2 e6) LM_7_160 IM_X5_postBytes SL_X5_postBytes IN_5 CD_X5_postBytes HD_X5_postBytes ⟨rfl, rfl, Nat.le_of_ble_eq_true rfl, Nat.le_of_ble_eq_true rfl⟩ (rv_5 C hh) rfl hl.1 rfl (Nat.le_of_ble_eq_true rfl) dX7_inject_34 ⟨Nat.zero_le _, Nat.zero_le _⟩) (fun H locs hh => ?_)
      refine lv_aload_n hx hb dX7_inject_37 rfl (lv_at hl 0 rfl) ?_
      refine gf_7_36 C hh dX7_inject_38 ?_
      refine lv_iconst (v := (0 : Int32)) hx hb dX7_inject_41 (by decide) ?_
      obtain ⟨s8, e9, h⟩ := vl_e h
      refine pf_7_126 C hh (by decide) dX7_inject_42 (fun H locs hh => ?_)
      rw [← e9] at hh
      exact t_void C hh h dX7_inject_45
    · rw [if_pos c5] at h
      exact k_X7_inject_17 C Tt s2 h hh (lv_sub hl [] rfl)
