abbrev rm_X6_subnetOf : Room := { frames := 0, cells := 0, slots := 0, locals := 0 }
theorem HD_X6_subnetOf : yX6_subnetOf.cls = RX6 ∧ yX6_subnetOf.cls ≠ "java/lang/invoke/MethodHandle" ∧ yX6_subnetOf.cls ≠ "java/lang/invoke/VarHandle" ∧ (parseMethodDescriptor yX6_subnetOf.desc).map (fun d => d.parameters.length) = some 1 := by decide +kernel
def f_X6_subnetOf_18 (xs0 : Int32) (σ : Mem) : Option (Int32 × Mem) := some ((xs0 >>> ((8 : Int32) &&& 31)), σ)
set_option maxHeartbeats 4000000 in
set_option maxRecDepth 100000 in
theorem k_X6_subnetOf_18 {p : Program} {l : Launch} {e : Env} {s : State} {m : MethodId} {args : Array Value} {below : List Frame} {meth : Method} {c : Code} {D : va_G} {cA : Nat → ClassId} {ad : Nat → Nat → Nat} {A : Nat → Prop} {o : Nat → Int64} (C : Cx p s m args meth c cX6_subnetOf 2 RX6 (some .int) D cA ad A o) {r : Int32 × Mem} (xs0 : Int32) (σ : Mem) {H : Heap} {locs : List Loc} (h : f_X6_subnetOf_18 xs0 σ = some r) (hh : HH D cA ad A o s σ H locs) {ls : Array Slot} (hl : lv_has ls 2 []) : W p l e rm_X6_subnetOf s m args below meth c H locs 0 0 (MQ below (Qi D cA ad o A r) args s 0 0 A) (F0 m 18 ls [.int xs0]) := by
  obtain ⟨⟨hx, hb, hml, hown, hts⟩, hK, hN, hD, hr, hlocks⟩ := id C
  unfold f_X6_subnetOf_18 at h
  refine lv_istore_n (lv' := [(1, .int xs0)]) hx hb dX6_subnetOf_18 rfl hl (by decide) rfl (fun ls hl => ?_)
  refine lv_iload_n hx hb dX6_subnetOf_19 rfl (lv_at hl 0 rfl) ?_
  refine lv_bipush (v := (8 : Int32)) hx hb dX6_subnetOf_20 (by decide) ?_
  refine lv_ishr hx hb dX6_subnetOf_22 ?_
  exact r_int C hh h dX6_subnetOf_23
def f_X6_subnetOf (j0 : Nat) (σ : Mem) : Option (Int32 × Mem) := (if (σ 205 j0 0) = (0 : Int32) then f_X6_subnetOf_18 (σ 203 j0 0) σ else f_X6_subnetOf_18 (σ 205 j0 0) σ)
set_option maxHeartbeats 4000000 in
set_option maxRecDepth 100000 in
theorem c_X6_subnetOf {l : Launch} {D : va_G} {cA : Nat → ClassId} {ad : Nat → Nat → Nat} {A : Nat → Prop} {o : Nat → Int64} (hD0 : ∀ σ, va_D A (wW cA ad σ o)) (j0 : Nat) (hj0 : j0 < 2) (σ : Mem) {r : Int32 × Mem} (h : f_X6_subnetOf j0 σ = some r) : Met l yX6_subnetOf (wsG yX6_subnetOf cX6_subnetOf 2 (some .int)) rm_X6_subnetOf (va_Pc [.ref (ad 299 j0)] (IW D cA ad o σ)) (Qi D cA ad o A r) 0 0 A := by
  refine metG (by decide) (Nat.le_of_ble_eq_true rfl) hD0 ?_
  intro p e s m args below meth c C ls hh hl
  have C : Cx p s m args meth c cX6_subnetOf 2 RX6 (some .int) D cA ad A o := C
  have hl : lv_has ls 2 [(0, .ref (ad 299 j0))] := hl
  obtain ⟨⟨hx, hb, hml, hown, hts⟩, hK, hN, hD, hr, hlocks⟩ := id C
  unfold f_X6_subnetOf at h
  refine lv_aload_n hx hb dX6_subnetOf_0 rfl (lv_at hl 0 rfl) ?_
  refine gf_6_85 C hh hj0 dX6_subnetOf_1 ?_
  refine lv_if_eq (tgt := 14) hx hb dX6_subnetOf_4 (by decide) (fun c1 => ?_) (fun c1 => ?_)
  · rw [if_pos c1] at h
    refine lv_aload_n hx hb dX6_subnetOf_14 rfl (lv_at hl 0 rfl) ?_
    refine gf_6_99 C hh hj0 dX6_subnetOf_15 ?_
    exact k_X6_subnetOf_18 C (σ 203 j0 0) σ h hh (lv_sub hl [] rfl)
  · rw [if_neg c1] at h
    refine lv_aload_n hx hb dX6_subnetOf_7 rfl (lv_at hl 0 rfl) ?_
    refine gf_6_85 C hh hj0 dX6_subnetOf_8 ?_
    refine lv_goto (tgt := 18) hx hb dX6_subnetOf_11 (by decide) ?_
    exact k_X6_subnetOf_18 C (σ 205 j0 0) σ h hh (lv_sub hl [] rfl)
abbrev rm_X6_hear : Room := { frames := 6, cells := 0, slots := 0, locals := 140 }
theorem HD_X6_hear : yX6_hear.cls = RX6 ∧ yX6_hear.cls ≠ "java/lang/invoke/MethodHandle" ∧ yX6_hear.cls ≠ "java/lang/invoke/VarHandle" ∧ (parseMethodDescriptor yX6_hear.desc).map (fun d => d.parameters.length) = some 3 := by decide +kernel
def f_X6_hear_140 (x5 : Int32) (σ : Mem) : Option (Int32 × Mem) := some (x5, σ)
set_option maxHeartbeats 4000000 in
set_option maxRecDepth 100000 in
theorem k_X6_hear_140 {p : Program} {l : Launch} {e : Env} {s : State} {m : MethodId} {args : Array Value} {below : List Frame} {meth : Method} {c : Code} {D : va_G} {cA : Nat → ClassId} {ad : Nat → Nat → Nat} {A : Nat → Prop} {o : Nat → Int64} (C : Cx p s m args meth c cX6_hear 6 RX6 (some .int) D cA ad A o) {r : Int32 × Mem} (x5 : Int32) (σ : Mem) {H : Heap} {locs : List Loc} (h : f_X6_hear_140 x5 σ = some r) (hh : HH D cA ad A o s σ H locs) {ls : Array Slot} (hl : lv_has ls 6 [(5, .int x5)]) : W p l e rm_X6_hear s m args below meth c H locs 0 0 (MQ below (Qi D cA ad o A r) args s 0 0 A) (F0 m 140 ls []) := by
  obtain ⟨⟨hx, hb, hml, hown, hts⟩, hK, hN, hD, hr, hlocks⟩ := id C
  unfold f_X6_hear_140 at h
  refine lv_iload hx hb dX6_hear_140 (lv_at hl 0 rfl) ?_
  refine lv_goto (tgt := 150) hx hb dX6_hear_142 (by decide) ?_
  exact r_int C hh h dX6_hear_150
def f_X6_hear (j1 : Nat) (x2 : Int32) (j3 : Nat) (σ : Mem) : Option (Int32 × Mem) := (if (σ 600 0 0) = (0 : Int32) then some ((-1 : Int32), σ) else (if (σ 200 j1 0) = (1 : Int32) then bn (f_X6_subnetOf j1 σ) (fun r5 s4 => bn (f_X7_isClient (s4 206 j1 0) s4) (fun r8 s7 => (if r8 = (0 : Int32) then some ((-1 : Int32), s7) else bn (f_X7_isSubnet r5 s7) (fun r12 s11 => (if r12 = (0 : Int32) then some ((-1 : Int32), s11) else gd (vin r5 4) (bn (f_X4_exists ((r5).toNatClampNeg) s11) (fun r17 s16 => (if r17 = (0 : Int32) then some ((-1 : Int32), s16) else gd (vin (s4 206 j1 0) 12) ((if (s16 605 0 ((s4 206 j1 0)).toNatClampNeg) ≤ (s16 202 j1 0) then gd (vin (s4 206 j1 0) 12) (vl (up s16 605 0 ((s4 206 j1 0)).toNatClampNeg (s16 202 j1 0)) (fun s22 => bv (f_X2_start j3 (2 : Int32) (s22 202 j1 0) (s4 206 j1 0) s22) (fun s25 => vl (up s25 205 j3 0 (s25 205 j1 0)) (fun s26 => gd (vin r5 4) (bv (f_X6_lookAt j1 ((r5).toNatClampNeg) x2 j3 s26) (fun s30 => (if (s30 207 j3 0) = (-1 : Int32) then some ((-1 : Int32), s30) else (if (s30 205 j1 0) = (0 : Int32) then f_X6_hear_140 (s4 206 j1 0) s30 else (if r5 = (0 : Int32) then f_X6_hear_140 (s4 206 j1 0) s30 else bn (f_X7_relayOf r5 s30) (fun r36 s35 => some (r36, s35))))))))))) else some ((-1 : Int32), s16))))))))))) else some ((-1 : Int32), σ)))
set_option maxHeartbeats 4000000 in
set_option maxRecDepth 100000 in
theorem c_X6_hear {l : Launch} {D : va_G} {cA : Nat → ClassId} {ad : Nat → Nat → Nat} {A : Nat → Prop} {o : Nat → Int64} (hD0 : ∀ σ, va_D A (wW cA ad σ o)) (j1 : Nat) (hj1 : j1 < 2) (x2 : Int32) (j3 : Nat) (hj3 : j3 < 2) (σ : Mem) {r : Int32 × Mem} (h : f_X6_hear j1 x2 j3 σ = some r) : Met l yX6_hear (wsG yX6_hear cX6_hear 6 (some .int)) rm_X6_hear (va_Pc [.ref (ad 699 0), .ref (ad 299 j1), .int x2, .ref (ad 299 j3)] (IW D cA ad o σ)) (Qi D cA ad o A r) 0 0 A := by
  refine metG (by decide) (Nat.le_of_ble_eq_true rfl) hD0 ?_
  intro p e s m args below meth c C ls hh hl
  have C : Cx p s m args meth c cX6_hear 6 RX6 (some .int) D cA ad A o := C
  have hl : lv_has ls 6 [(0, .ref (ad 699 0)), (1, .ref (ad 299 j1)), (2, .int x2), (3, .ref (ad 299 j3))] := hl
  obtain ⟨⟨hx, hb, hml, hown, hts⟩, hK, hN, hD, hr, hlocks⟩ := id C
  unfold f_X6_hear at h
  refine lv_aload_n hx hb dX6_hear_0 rfl (lv_at hl 0 rfl) ?_
  refine gf_6_9 C hh dX6_hear_1 ?_
  refine lv_if_eq (tgt := 15) hx hb dX6_hear_4 (by decide) (fun c1 => ?_) (fun c1 => ?_)
  · rw [if_pos c1] at h
    refine lv_iconst (v := (-1 : Int32)) hx hb dX6_hear_15 (by decide) ?_
    exact r_int C hh h dX6_hear_16
  · rw [if_neg c1] at h
    refine lv_aload_n hx hb dX6_hear_7 rfl (lv_at hl 1 rfl) ?_
    refine gf_6_59 C hh hj1 dX6_hear_8 ?_
    refine lv_iconst (v := (1 : Int32)) hx hb dX6_hear_11 (by decide) ?_
    refine lv_icmp_eq (tgt := 17) hx hb dX6_hear_12 (by decide) (fun c2 => ?_) (fun c2 => ?_)
    · rw [if_pos c2] at h
      refine lv_aload_n hx hb dX6_hear_17 rfl (lv_at hl 1 rfl) ?_
      obtain ⟨r5, s4, e3, h⟩ := bn_e h
      refine c_int hh (srun (rest := []) C hh (c_X6_subnetOf C.2.2.2.1 j1 hj1 σ e3) LM_6_64 ST_X6_subnetOf IN_6 CD_X6_subnetOf HD_X6_subnetOf ⟨rfl, rfl, Nat.le_of_ble_eq_true rfl, Nat.le_of_ble_eq_true rfl⟩ rfl hl.1 rfl (Nat.le_of_ble_eq_true rfl) dX6_hear_18 ⟨Nat.zero_le _, Nat.zero_le _⟩) (fun H locs hh => ?_)
      refine lv_istore (lv' := [(4, .int r5), (0, .ref (ad 699 0)), (1, .ref (ad 299 j1)), (2, .int x2), (3, .ref (ad 299 j3))]) hx hb dX6_hear_21 hl (by decide) rfl (fun ls hl => ?_)
      refine lv_aload_n hx hb dX6_hear_23 rfl (lv_at hl 2 rfl) ?_
      refine gf_6_68 C hh hj1 dX6_hear_24 ?_
      refine lv_istore (lv' := [(5, .int (s4 206 j1 0)), (4, .int r5), (0, .ref (ad 699 0)), (1, .ref (ad 299 j1)), (2, .int x2), (3, .ref (ad 299 j3))]) hx hb dX6_hear_27 hl (by decide) rfl (fun ls hl => ?_)
      refine lv_iload hx hb dX6_hear_29 (lv_at hl 0 rfl) ?_
      obtain ⟨r8, s7, e6, h⟩ := bn_e h
      refine c_int hh (nrun (rest := []) C hh (c_X7_isClient C.2.2.2.1 (s4 206 j1 0) s4 e6) LN_6_71 ST_X7_isClient IN_7 CD_X7_isClient HD_X7_isClient.2 ⟨rfl, rfl, Nat.le_of_ble_eq_true rfl, Nat.le_of_ble_eq_true rfl⟩ rfl hl.1 rfl (Nat.le_of_ble_eq_true rfl) dX6_hear_31 ⟨Nat.zero_le _, Nat.zero_le _⟩) (fun H locs hh => ?_)
      refine lv_if_eq (tgt := 72) hx hb dX6_hear_34 (by decide) (fun c9 => ?_) (fun c9 => ?_)
      · rw [if_pos c9] at h
        refine lv_iconst (v := (-1 : Int32)) hx hb dX6_hear_72 (by decide) ?_
        exact r_int C hh h dX6_hear_73
      · rw [if_neg c9] at h
        refine lv_iload hx hb dX6_hear_37 (lv_at hl 1 rfl) ?_
        obtain ⟨r12, s11, e10, h⟩ := bn_e h
        refine c_int hh (nrun (rest := []) C hh (c_X7_isSubnet C.2.2.2.1 r5 s7 e10) LN_6_75 ST_X7_isSubnet IN_7 CD_X7_isSubnet HD_X7_isSubnet.2 ⟨rfl, rfl, Nat.le_of_ble_eq_true rfl, Nat.le_of_ble_eq_true rfl⟩ rfl hl.1 rfl (Nat.le_of_ble_eq_true rfl) dX6_hear_39 ⟨Nat.zero_le _, Nat.zero_le _⟩) (fun H locs hh => ?_)
        refine lv_if_eq (tgt := 72) hx hb dX6_hear_42 (by decide) (fun c13 => ?_) (fun c13 => ?_)
        · rw [if_pos c13] at h
          refine lv_iconst (v := (-1 : Int32)) hx hb dX6_hear_72 (by decide) ?_
          exact r_int C hh h dX6_hear_73
        · rw [if_neg c13] at h
          refine lv_aload_n hx hb dX6_hear_45 rfl (lv_at hl 2 rfl) ?_
          refine gf_6_17 C hh dX6_hear_46 ?_
          refine lv_iload hx hb dX6_hear_49 (lv_at hl 1 rfl) ?_
          obtain ⟨b14, h⟩ := gd_e h
          refine al_601 C hh b14 dX6_hear_51 ?_
          obtain ⟨r17, s16, e15, h⟩ := bn_e h
          refine c_int hh (vrun (rest := []) C hh (c_X4_exists C.2.2.2.1 ((r5).toNatClampNeg) (vin_l b14) s11 e15) LM_6_48 IM_X4_exists SL_X4_exists IN_4 CD_X4_exists HD_X4_exists ⟨rfl, rfl, Nat.le_of_ble_eq_true rfl, Nat.le_of_ble_eq_true rfl⟩ (rv_4 C hh (vin_l b14)) rfl hl.1 rfl (Nat.le_of_ble_eq_true rfl) dX6_hear_52 ⟨Nat.zero_le _, Nat.zero_le _⟩) (fun H locs hh => ?_)
          refine lv_if_eq (tgt := 72) hx hb dX6_hear_55 (by decide) (fun c18 => ?_) (fun c18 => ?_)
          · rw [if_pos c18] at h
            refine lv_iconst (v := (-1 : Int32)) hx hb dX6_hear_72 (by decide) ?_
            exact r_int C hh h dX6_hear_73
          · rw [if_neg c18] at h
            refine lv_aload_n hx hb dX6_hear_58 rfl (lv_at hl 3 rfl) ?_
            refine gf_6_78 C hh hj1 dX6_hear_59 ?_
            refine lv_aload_n hx hb dX6_hear_62 rfl (lv_at hl 2 rfl) ?_
            refine gf_6_31 C hh dX6_hear_63 ?_
            refine lv_iload hx hb dX6_hear_66 (lv_at hl 0 rfl) ?_
            obtain ⟨b19, h⟩ := gd_e h
            refine al_605 C hh b19 dX6_hear_68 ?_
            refine lv_icmp_ge (tgt := 74) hx hb dX6_hear_69 (by decide) (fun c20 => ?_) (fun c20 => ?_)
            · rw [if_pos c20] at h
              refine lv_aload_n hx hb dX6_hear_74 rfl (lv_at hl 2 rfl) ?_
              refine gf_6_31 C hh dX6_hear_75 ?_
              refine lv_iload hx hb dX6_hear_78 (lv_at hl 0 rfl) ?_
              refine lv_aload_n hx hb dX6_hear_80 rfl (lv_at hl 3 rfl) ?_
              refine gf_6_78 C hh hj1 dX6_hear_81 ?_
              obtain ⟨b21, h⟩ := gd_e h
              obtain ⟨s22, e23, h⟩ := vl_e h
              refine as_605 C hh b21 dX6_hear_84 (fun H locs hh => ?_)
              rw [← e23] at hh
              refine lv_aload_n hx hb dX6_hear_85 rfl (lv_at hl 5 rfl) ?_
              refine lv_iconst (v := (2 : Int32)) hx hb dX6_hear_86 (by decide) ?_
              refine lv_aload_n hx hb dX6_hear_87 rfl (lv_at hl 3 rfl) ?_
              refine gf_6_78 C hh hj1 dX6_hear_88 ?_
              refine lv_iload hx hb dX6_hear_91 (lv_at hl 0 rfl) ?_
              obtain ⟨s25, e24, h⟩ := bv_e h
              refine c_void hh (vrun (rest := []) C hh (c_X2_start C.2.2.2.1 j3 hj3 (2 : Int32) (s22 202 j1 0) (s4 206 j1 0) s22 e24) LM_6_81 IM_X2_start SL_X2_start IN_2 CD_X2_start HD_X2_start ⟨rfl, rfl, Nat.le_of_ble_eq_true rfl, Nat.le_of_ble_eq_true rfl⟩ (rv_2 C hh hj3) rfl hl.1 rfl (Nat.le_of_ble_eq_true rfl) dX6_hear_93 ⟨Nat.zero_le _, Nat.zero_le _⟩) (fun H locs hh => ?_)
              refine lv_aload_n hx hb dX6_hear_96 rfl (lv_at hl 5 rfl) ?_
              refine lv_aload_n hx hb dX6_hear_97 rfl (lv_at hl 3 rfl) ?_
              refine gf_6_85 C hh hj1 dX6_hear_98 ?_
              obtain ⟨s26, e27, h⟩ := vl_e h
              refine pf_6_85 C hh hj3 dX6_hear_101 (fun H locs hh => ?_)
              rw [← e27] at hh
              refine lv_aload_n hx hb dX6_hear_104 rfl (lv_at hl 2 rfl) ?_
              refine lv_aload_n hx hb dX6_hear_105 rfl (lv_at hl 3 rfl) ?_
              refine lv_aload_n hx hb dX6_hear_106 rfl (lv_at hl 2 rfl) ?_
              refine gf_6_17 C hh dX6_hear_107 ?_
              refine lv_iload hx hb dX6_hear_110 (lv_at hl 1 rfl) ?_
              obtain ⟨b28, h⟩ := gd_e h
              refine al_601 C hh b28 dX6_hear_112 ?_
              refine lv_iload_n hx hb dX6_hear_113 rfl (lv_at hl 4 rfl) ?_
              refine lv_aload_n hx hb dX6_hear_114 rfl (lv_at hl 5 rfl) ?_
              obtain ⟨s30, e29, h⟩ := bv_e h
              refine c_void hh (vrun (rest := []) C hh (c_X6_lookAt C.2.2.2.1 j1 hj1 ((r5).toNatClampNeg) (vin_l b28) x2 j3 hj3 s26 e29) LM_6_88 IM_X6_lookAt SL_X6_lookAt IN_6 CD_X6_lookAt HD_X6_lookAt ⟨rfl, rfl, Nat.le_of_ble_eq_true rfl, Nat.le_of_ble_eq_true rfl⟩ (rv_6 C hh) rfl hl.1 rfl (Nat.le_of_ble_eq_true rfl) dX6_hear_115 ⟨Nat.zero_le _, Nat.zero_le _⟩) (fun H locs hh => ?_)
              refine lv_aload_n hx hb dX6_hear_118 rfl (lv_at hl 5 rfl) ?_
              refine gf_6_92 C hh hj3 dX6_hear_119 ?_
              refine lv_iconst (v := (-1 : Int32)) hx hb dX6_hear_122 (by decide) ?_
              refine lv_icmp_ne (tgt := 128) hx hb dX6_hear_123 (by decide) (fun c31 => ?_) (fun c31 => ?_)
              · rw [if_neg c31] at h
                refine lv_aload_n hx hb dX6_hear_128 rfl (lv_at hl 3 rfl) ?_
                refine gf_6_85 C hh hj1 dX6_hear_129 ?_
                refine lv_if_eq (tgt := 140) hx hb dX6_hear_132 (by decide) (fun c32 => ?_) (fun c32 => ?_)
                · rw [if_pos c32] at h
                  exact k_X6_hear_140 C (s4 206 j1 0) s30 h hh (lv_sub hl [0] rfl)
                · rw [if_neg c32] at h
                  refine lv_iload hx hb dX6_hear_135 (lv_at hl 1 rfl) ?_
                  refine lv_if_ne (tgt := 145) hx hb dX6_hear_137 (by decide) (fun c33 => ?_) (fun c33 => ?_)
                  · rw [if_neg c33] at h
                    refine lv_iload hx hb dX6_hear_145 (lv_at hl 1 rfl) ?_
                    obtain ⟨r36, s35, e34, h⟩ := bn_e h
                    refine c_int hh (nrun (rest := []) C hh (c_X7_relayOf C.2.2.2.1 r5 s30 e34) LN_6_95 ST_X7_relayOf IN_7 CD_X7_relayOf HD_X7_relayOf.2 ⟨rfl, rfl, Nat.le_of_ble_eq_true rfl, Nat.le_of_ble_eq_true rfl⟩ rfl hl.1 rfl (Nat.le_of_ble_eq_true rfl) dX6_hear_147 ⟨Nat.zero_le _, Nat.zero_le _⟩) (fun H locs hh => ?_)
                    exact r_int C hh h dX6_hear_150
                  · rw [if_pos c33] at h
                    exact k_X6_hear_140 C (s4 206 j1 0) s30 h hh (lv_sub hl [0] rfl)
              · rw [if_pos c31] at h
                refine lv_iconst (v := (-1 : Int32)) hx hb dX6_hear_126 (by decide) ?_
                exact r_int C hh h dX6_hear_127
            · rw [if_neg c20] at h
              refine lv_iconst (v := (-1 : Int32)) hx hb dX6_hear_72 (by decide) ?_
              exact r_int C hh h dX6_hear_73
    · rw [if_neg c2] at h
      refine lv_iconst (v := (-1 : Int32)) hx hb dX6_hear_15 (by decide) ?_
      exact r_int C hh h dX6_hear_16
abbrev rm_X7_hearAt : Room := { frames := 7, cells := 0, slots := 0, locals := 165 }
theorem HD_X7_hearAt : yX7_hearAt.cls = RX7 ∧ yX7_hearAt.cls ≠ "java/lang/invoke/MethodHandle" ∧ yX7_hearAt.cls ≠ "java/lang/invoke/VarHandle" ∧ (parseMethodDescriptor yX7_hearAt.desc).map (fun d => d.parameters.length) = some 1 := by decide +kernel
def f_X7_hearAt_79 (x1 : Int32) (xs0 : Int32) (σ : Mem) : Option (Mem) := gd (vin x1 12) (bn (f_X1_hear ((x1).toNatClampNeg) 0 xs0 (σ 708 0 0) 1 σ) (fun r4 s3 => bv (f_X5_post r4 1 s3) (fun s6 => some s6)))
set_option maxHeartbeats 4000000 in
set_option maxRecDepth 100000 in
theorem k_X7_hearAt_79 {p : Program} {l : Launch} {e : Env} {s : State} {m : MethodId} {args : Array Value} {below : List Frame} {meth : Method} {c : Code} {D : va_G} {cA : Nat → ClassId} {ad : Nat → Nat → Nat} {A : Nat → Prop} {o : Nat → Int64} (C : Cx p s m args meth c cX7_hearAt 3 RX7 none D cA ad A o) {r : Mem} (x1 : Int32) (xs0 : Int32) (σ : Mem) {H : Heap} {locs : List Loc} (h : f_X7_hearAt_79 x1 xs0 σ = some r) (hh : HH D cA ad A o s σ H locs) {ls : Array Slot} (hl : lv_has ls 3 [(0, .ref (ad 799 0)), (1, .int x1)]) : W p l e rm_X7_hearAt s m args below meth c H locs 0 0 (MQ below (Qv D cA ad o A r) args s 0 0 A) (F0 m 79 ls [.int xs0]) := by
  obtain ⟨⟨hx, hb, hml, hown, hts⟩, hK, hN, hD, hr, hlocks⟩ := id C
  unfold f_X7_hearAt_79 at h
  refine lv_istore_n (lv' := [(2, .int xs0), (0, .ref (ad 799 0)), (1, .int x1)]) hx hb dX7_hearAt_79 rfl hl (by decide) rfl (fun ls hl => ?_)
  refine lv_aload_n hx hb dX7_hearAt_80 rfl (lv_at hl 1 rfl) ?_
  refine gf_7_10 C hh dX7_hearAt_81 ?_
  refine lv_aload_n hx hb dX7_hearAt_84 rfl (lv_at hl 1 rfl) ?_
  refine gf_7_25 C hh dX7_hearAt_85 ?_
  refine lv_iload_n hx hb dX7_hearAt_88 rfl (lv_at hl 2 rfl) ?_
  obtain ⟨b1, h⟩ := gd_e h
  refine al_702 C hh b1 dX7_hearAt_89 ?_
  refine lv_aload_n hx hb dX7_hearAt_90 rfl (lv_at hl 1 rfl) ?_
  refine gf_7_46 C hh dX7_hearAt_91 ?_
  refine lv_iload_n hx hb dX7_hearAt_94 rfl (lv_at hl 0 rfl) ?_
  refine lv_aload_n hx hb dX7_hearAt_95 rfl (lv_at hl 1 rfl) ?_
  refine gf_7_53 C hh dX7_hearAt_96 ?_
  refine lv_aload_n hx hb dX7_hearAt_99 rfl (lv_at hl 1 rfl) ?_
  refine gf_7_50 C hh dX7_hearAt_100 ?_
  obtain ⟨r4, s3, e2, h⟩ := bn_e h
  refine c_int hh (vrun (rest := [.ref (ad 599 0)]) C hh (c_X1_hear C.2.2.2.1 ((x1).toNatClampNeg) (vin_l b1) 0 (by decide) xs0 (σ 708 0 0) 1 (by decide) σ e2) LM_7_216 IM_X1_hear SL_X1_hear IN_1 CD_X1_hear HD_X1_hear ⟨rfl, rfl, Nat.le_of_ble_eq_true rfl, Nat.le_of_ble_eq_true rfl⟩ (rv_1 C hh (vin_l b1)) rfl hl.1 rfl (Nat.le_of_ble_eq_true rfl) dX7_hearAt_103 ⟨Nat.zero_le _, Nat.zero_le _⟩) (fun H locs hh => ?_)
  refine lv_aload_n hx hb dX7_hearAt_106 rfl (lv_at hl 1 rfl) ?_
  refine gf_7_50 C hh dX7_hearAt_107 ?_
  obtain ⟨s6, e5, h⟩ := bv_e h
  refine c_void hh (vrun (rest := []) C hh (c_X5_post C.2.2.2.1 r4 1 (by decide) s3 e5) LM_7_93 IM_X5_post SL_X5_post IN_5 CD_X5_post HD_X5_post ⟨rfl, rfl, Nat.le_of_ble_eq_true rfl, Nat.le_of_ble_eq_true rfl⟩ (rv_5 C hh) rfl hl.1 rfl (Nat.le_of_ble_eq_true rfl) dX7_hearAt_110 ⟨Nat.zero_le _, Nat.zero_le _⟩) (fun H locs hh => ?_)
  refine lv_goto (tgt := 124) hx hb dX7_hearAt_113 (by decide) ?_
  exact r_void C hh h dX7_hearAt_124
def f_X7_hearAt_78 (x1 : Int32) (σ : Mem) : Option (Mem) := f_X7_hearAt_79 x1 (0 : Int32) σ
set_option maxHeartbeats 4000000 in
set_option maxRecDepth 100000 in
theorem k_X7_hearAt_78 {p : Program} {l : Launch} {e : Env} {s : State} {m : MethodId} {args : Array Value} {below : List Frame} {meth : Method} {c : Code} {D : va_G} {cA : Nat → ClassId} {ad : Nat → Nat → Nat} {A : Nat → Prop} {o : Nat → Int64} (C : Cx p s m args meth c cX7_hearAt 3 RX7 none D cA ad A o) {r : Mem} (x1 : Int32) (σ : Mem) {H : Heap} {locs : List Loc} (h : f_X7_hearAt_78 x1 σ = some r) (hh : HH D cA ad A o s σ H locs) {ls : Array Slot} (hl : lv_has ls 3 [(0, .ref (ad 799 0)), (1, .int x1)]) : W p l e rm_X7_hearAt s m args below meth c H locs 0 0 (MQ below (Qv D cA ad o A r) args s 0 0 A) (F0 m 78 ls []) := by
  obtain ⟨⟨hx, hb, hml, hown, hts⟩, hK, hN, hD, hr, hlocks⟩ := id C
  unfold f_X7_hearAt_78 at h
  refine lv_iconst (v := (0 : Int32)) hx hb dX7_hearAt_78 (by decide) ?_
  exact k_X7_hearAt_79 C x1 (0 : Int32) σ h hh (lv_sub hl [0, 1] rfl)
def f_X7_hearAt (x1 : Int32) (σ : Mem) : Option (Mem) := (if x1 = (16 : Int32) then bn (f_X6_hear 0 (σ 708 0 0) 1 σ) (fun r16 s15 => bv (f_X5_post r16 1 s15) (fun s18 => some s18)) else bn (f_X7_isClient x1 σ) (fun r4 s3 => (if r4 = (0 : Int32) then bv (f_X7_passOn (x1 - (12 : Int32)) s3) (fun s7 => some s7) else bn (f_X7_isAddress (s3 204 0 0) s3) (fun r10 s9 => (if r10 = (0 : Int32) then f_X7_hearAt_78 x1 s9 else gd (vin (s9 204 0 0) 1024) ((if (s9 703 0 ((s9 204 0 0)).toNatClampNeg) = (0 : Int32) then f_X7_hearAt_78 x1 s9 else f_X7_hearAt_79 x1 (1 : Int32) s9)))))))
set_option maxHeartbeats 4000000 in
set_option maxRecDepth 100000 in
theorem c_X7_hearAt {l : Launch} {D : va_G} {cA : Nat → ClassId} {ad : Nat → Nat → Nat} {A : Nat → Prop} {o : Nat → Int64} (hD0 : ∀ σ, va_D A (wW cA ad σ o)) (x1 : Int32) (σ : Mem) {r : Mem} (h : f_X7_hearAt x1 σ = some r) : Met l yX7_hearAt (wsG yX7_hearAt cX7_hearAt 3 none) rm_X7_hearAt (va_Pc [.ref (ad 799 0), .int x1] (IW D cA ad o σ)) (Qv D cA ad o A r) 0 0 A := by
  refine metG (by decide) (Nat.le_of_ble_eq_true rfl) hD0 ?_
  intro p e s m args below meth c C ls hh hl
  have C : Cx p s m args meth c cX7_hearAt 3 RX7 none D cA ad A o := C
  have hl : lv_has ls 3 [(0, .ref (ad 799 0)), (1, .int x1)] := hl
  obtain ⟨⟨hx, hb, hml, hown, hts⟩, hK, hN, hD, hr, hlocks⟩ := id C
  unfold f_X7_hearAt at h
  refine lv_iload_n hx hb dX7_hearAt_0 rfl (lv_at hl 1 rfl) ?_
  refine lv_bipush (v := (16 : Int32)) hx hb dX7_hearAt_1 (by decide) ?_
  refine lv_icmp_ne (tgt := 39) hx hb dX7_hearAt_3 (by decide) (fun c1 => ?_) (fun c1 => ?_)
  · rw [if_neg c1] at h
    refine lv_iload_n hx hb dX7_hearAt_39 rfl (lv_at hl 1 rfl) ?_
    obtain ⟨r4, s3, e2, h⟩ := bn_e h
    refine c_int hh (srun (rest := []) C hh (c_X7_isClient C.2.2.2.1 x1 σ e2) LM_7_80 ST_X7_isClient IN_7 CD_X7_isClient HD_X7_isClient ⟨rfl, rfl, Nat.le_of_ble_eq_true rfl, Nat.le_of_ble_eq_true rfl⟩ rfl hl.1 rfl (Nat.le_of_ble_eq_true rfl) dX7_hearAt_40 ⟨Nat.zero_le _, Nat.zero_le _⟩) (fun H locs hh => ?_)
    refine lv_if_eq (tgt := 116) hx hb dX7_hearAt_43 (by decide) (fun c5 => ?_) (fun c5 => ?_)
    · rw [if_pos c5] at h
      refine lv_aload_n hx hb dX7_hearAt_116 rfl (lv_at hl 0 rfl) ?_
      refine lv_iload_n hx hb dX7_hearAt_117 rfl (lv_at hl 1 rfl) ?_
      refine lv_bipush (v := (12 : Int32)) hx hb dX7_hearAt_118 (by decide) ?_
      refine lv_isub hx hb dX7_hearAt_120 ?_
      obtain ⟨s7, e6, h⟩ := bv_e h
      refine c_void hh (vrun (rest := []) C hh (c_X7_passOn C.2.2.2.1 (x1 - (12 : Int32)) s3 e6) LM_7_219 IM_X7_passOn SL_X7_passOn IN_7 CD_X7_passOn HD_X7_passOn ⟨rfl, rfl, Nat.le_of_ble_eq_true rfl, Nat.le_of_ble_eq_true rfl⟩ (rv_7 C hh) rfl hl.1 rfl (Nat.le_of_ble_eq_true rfl) dX7_hearAt_121 ⟨Nat.zero_le _, Nat.zero_le _⟩) (fun H locs hh => ?_)
      exact r_void C hh h dX7_hearAt_124
    · rw [if_neg c5] at h
      refine lv_aload_n hx hb dX7_hearAt_46 rfl (lv_at hl 0 rfl) ?_
      refine gf_7_46 C hh dX7_hearAt_47 ?_
      refine gf_7_213 C hh (by decide) dX7_hearAt_50 ?_
      obtain ⟨r10, s9, e8, h⟩ := bn_e h
      refine c_int hh (srun (rest := []) C hh (c_X7_isAddress C.2.2.2.1 (s3 204 0 0) s3 e8) LM_7_101 ST_X7_isAddress IN_7 CD_X7_isAddress HD_X7_isAddress ⟨rfl, rfl, Nat.le_of_ble_eq_true rfl, Nat.le_of_ble_eq_true rfl⟩ rfl hl.1 rfl (Nat.le_of_ble_eq_true rfl) dX7_hearAt_53 ⟨Nat.zero_le _, Nat.zero_le _⟩) (fun H locs hh => ?_)
      refine lv_if_eq (tgt := 78) hx hb dX7_hearAt_56 (by decide) (fun c11 => ?_) (fun c11 => ?_)
      · rw [if_pos c11] at h
        exact k_X7_hearAt_78 C x1 s9 h hh (lv_sub hl [0, 1] rfl)
      · rw [if_neg c11] at h
        refine lv_aload_n hx hb dX7_hearAt_59 rfl (lv_at hl 0 rfl) ?_
        refine gf_7_29 C hh dX7_hearAt_60 ?_
        refine lv_aload_n hx hb dX7_hearAt_63 rfl (lv_at hl 0 rfl) ?_
        refine gf_7_46 C hh dX7_hearAt_64 ?_
        refine gf_7_213 C hh (by decide) dX7_hearAt_67 ?_
        obtain ⟨b12, h⟩ := gd_e h
        refine al_703 C hh b12 dX7_hearAt_70 ?_
        refine lv_if_eq (tgt := 78) hx hb dX7_hearAt_71 (by decide) (fun c13 => ?_) (fun c13 => ?_)
        · rw [if_pos c13] at h
          exact k_X7_hearAt_78 C x1 s9 h hh (lv_sub hl [0, 1] rfl)
        · rw [if_neg c13] at h
          refine lv_iconst (v := (1 : Int32)) hx hb dX7_hearAt_74 (by decide) ?_
          refine lv_goto (tgt := 79) hx hb dX7_hearAt_75 (by decide) ?_
          exact k_X7_hearAt_79 C x1 (1 : Int32) s9 h hh (lv_sub hl [0, 1] rfl)
  · rw [if_pos c1] at h
    refine lv_aload_n hx hb dX7_hearAt_6 rfl (lv_at hl 0 rfl) ?_
    refine gf_7_10 C hh dX7_hearAt_7 ?_
    refine lv_aload_n hx hb dX7_hearAt_10 rfl (lv_at hl 0 rfl) ?_
    refine gf_7_19 C hh dX7_hearAt_11 ?_
    refine lv_aload_n hx hb dX7_hearAt_14 rfl (lv_at hl 0 rfl) ?_
    refine gf_7_46 C hh dX7_hearAt_15 ?_
    refine lv_aload_n hx hb dX7_hearAt_18 rfl (lv_at hl 0 rfl) ?_
    refine gf_7_53 C hh dX7_hearAt_19 ?_
    refine lv_aload_n hx hb dX7_hearAt_22 rfl (lv_at hl 0 rfl) ?_
    refine gf_7_50 C hh dX7_hearAt_23 ?_
    obtain ⟨r16, s15, e14, h⟩ := bn_e h
    refine c_int hh (vrun (rest := [.ref (ad 599 0)]) C hh (c_X6_hear C.2.2.2.1 0 (by decide) (σ 708 0 0) 1 (by decide) σ e14) LM_7_209 IM_X6_hear SL_X6_hear IN_6 CD_X6_hear HD_X6_hear ⟨rfl, rfl, Nat.le_of_ble_eq_true rfl, Nat.le_of_ble_eq_true rfl⟩ (rv_6 C hh) rfl hl.1 rfl (Nat.le_of_ble_eq_true rfl) dX7_hearAt_26 ⟨Nat.zero_le _, Nat.zero_le _⟩) (fun H locs hh => ?_)
    refine lv_aload_n hx hb dX7_hearAt_29 rfl (lv_at hl 0 rfl) ?_
    refine gf_7_50 C hh dX7_hearAt_30 ?_
    obtain ⟨s18, e17, h⟩ := bv_e h
    refine c_void hh (vrun (rest := []) C hh (c_X5_post C.2.2.2.1 r16 1 (by decide) s15 e17) LM_7_93 IM_X5_post SL_X5_post IN_5 CD_X5_post HD_X5_post ⟨rfl, rfl, Nat.le_of_ble_eq_true rfl, Nat.le_of_ble_eq_true rfl⟩ (rv_5 C hh) rfl hl.1 rfl (Nat.le_of_ble_eq_true rfl) dX7_hearAt_33 ⟨Nat.zero_le _, Nat.zero_le _⟩) (fun H locs hh => ?_)
    refine lv_goto (tgt := 124) hx hb dX7_hearAt_36 (by decide) ?_
    exact r_void C hh h dX7_hearAt_124
abbrev rm_X0_number : Room := { frames := 0, cells := 0, slots := 0, locals := 0 }
theorem HD_X0_number : yX0_number.cls = RX0 ∧ yX0_number.cls ≠ "java/lang/invoke/MethodHandle" ∧ yX0_number.cls ≠ "java/lang/invoke/VarHandle" ∧ (parseMethodDescriptor yX0_number.desc).map (fun d => d.parameters.length) = some 1 := by decide +kernel
def f_X0_number_4 : Nat → Nat → Int32 → Int32 → Int32 → Mem → Option (Int32 × Mem)
  | 0, _, _, _, _, _ => none
  | n + 1, j0, x1, x2, x3, σ => (if (x1 + (4 : Int32)) ≤ x3 then some (x2, σ) else (if (60 : Int32) ≤ x3 then some (x2, σ) else gd (vin x3 60) (vl (((x2 <<< ((8 : Int32) &&& 31)) ||| (σ 0 j0 (x3).toNatClampNeg))) (fun v4 => vl (x3 + (1 : Int32)) (fun v6 => f_X0_number_4 n j0 x1 v4 v6 σ)))))
set_option maxHeartbeats 4000000 in
set_option maxRecDepth 100000 in
theorem k_X0_number_4 {p : Program} {l : Launch} {e : Env} {s : State} {m : MethodId} {args : Array Value} {below : List Frame} {meth : Method} {c : Code} {D : va_G} {cA : Nat → ClassId} {ad : Nat → Nat → Nat} {A : Nat → Prop} {o : Nat → Int64} (C : Cx p s m args meth c cX0_number 4 RX0 (some .int) D cA ad A o) {r : Int32 × Mem} : ∀ (n : Nat) (j0 : Nat) (hj0 : j0 < 62) (x1 : Int32) (x2 : Int32) (x3 : Int32) (σ : Mem) {H : Heap} {locs : List Loc} (h : f_X0_number_4 n j0 x1 x2 x3 σ = some r) (hh : HH D cA ad A o s σ H locs) {ls : Array Slot} (hl : lv_has ls 4 [(0, .ref (ad 99 j0)), (1, .int x1), (2, .int x2), (3, .int x3)]), W p l e rm_X0_number s m args below meth c H locs 0 0 (MQ below (Qi D cA ad o A r) args s 0 0 A) (F0 m 4 ls []) := by
  obtain ⟨⟨hx, hb, hml, hown, hts⟩, hK, hN, hD, hr, hlocks⟩ := id C
  intro n
  induction n with
  | zero =>
    intro j0 hj0 x1 x2 x3 σ H locs h
    rw [f_X0_number_4.eq_1] at h
    cases h
  | succ n ih =>
    intro j0 hj0 x1 x2 x3 σ H locs h hh ls hl
    rw [f_X0_number_4.eq_2] at h
    refine lv_iload_n hx hb dX0_number_4 rfl (lv_at hl 3 rfl) ?_
    refine lv_iload_n hx hb dX0_number_5 rfl (lv_at hl 1 rfl) ?_
    refine lv_iconst (v := (4 : Int32)) hx hb dX0_number_6 (by decide) ?_
    refine lv_iadd hx hb dX0_number_7 ?_
    refine lv_icmp_ge (tgt := 35) hx hb dX0_number_8 (by decide) (fun c1 => ?_) (fun c1 => ?_)
    · rw [if_pos c1] at h
      refine lv_iload_n hx hb dX0_number_35 rfl (lv_at hl 2 rfl) ?_
      exact r_int C hh h dX0_number_36
    · rw [if_neg c1] at h
      refine lv_iload_n hx hb dX0_number_11 rfl (lv_at hl 3 rfl) ?_
      refine lv_bipush (v := (60 : Int32)) hx hb dX0_number_12 (by decide) ?_
      refine lv_icmp_ge (tgt := 35) hx hb dX0_number_14 (by decide) (fun c2 => ?_) (fun c2 => ?_)
      · rw [if_pos c2] at h
        refine lv_iload_n hx hb dX0_number_35 rfl (lv_at hl 2 rfl) ?_
        exact r_int C hh h dX0_number_36
      · rw [if_neg c2] at h
        refine lv_iload_n hx hb dX0_number_17 rfl (lv_at hl 2 rfl) ?_
        refine lv_bipush (v := (8 : Int32)) hx hb dX0_number_18 (by decide) ?_
        refine lv_ishl hx hb dX0_number_20 ?_
        refine lv_aload_n hx hb dX0_number_21 rfl (lv_at hl 0 rfl) ?_
        refine gf_0_9 C hh hj0 dX0_number_22 ?_
        refine lv_iload_n hx hb dX0_number_25 rfl (lv_at hl 3 rfl) ?_
        obtain ⟨b3, h⟩ := gd_e h
        refine al_0 C hh hj0 b3 dX0_number_26 ?_
        refine lv_ior hx hb dX0_number_27 ?_
        obtain ⟨v4, e5, h⟩ := vl_e h
        refine lv_nm e5 ?_
        refine lv_istore_n (lv' := [(2, .int v4), (0, .ref (ad 99 j0)), (1, .int x1), (3, .int x3)]) hx hb dX0_number_28 rfl hl (by decide) rfl (fun ls hl => ?_)
        obtain ⟨v6, e7, h⟩ := vl_e h
        refine lv_iinc (v := v6) (lv' := [(3, .int v6), (2, .int v4), (0, .ref (ad 99 j0)), (1, .int x1)]) hx hb dX0_number_29 hl (k := 3) rfl (by rw [e7]; rfl) (by decide) rfl (fun ls hl => ?_)
        refine lv_goto (tgt := 4) hx hb dX0_number_32 (by decide) ?_
        exact ih j0 hj0 x1 v4 v6 σ h hh (lv_sub hl [2, 3, 1, 0] rfl)
def f_X0_number (j0 : Nat) (x1 : Int32) (σ : Mem) : Option (Int32 × Mem) := f_X0_number_4 5000 j0 x1 (0 : Int32) x1 σ
set_option maxHeartbeats 4000000 in
set_option maxRecDepth 100000 in
theorem c_X0_number {l : Launch} {D : va_G} {cA : Nat → ClassId} {ad : Nat → Nat → Nat} {A : Nat → Prop} {o : Nat → Int64} (hD0 : ∀ σ, va_D A (wW cA ad σ o)) (j0 : Nat) (hj0 : j0 < 62) (x1 : Int32) (σ : Mem) {r : Int32 × Mem} (h : f_X0_number j0 x1 σ = some r) : Met l yX0_number (wsG yX0_number cX0_number 4 (some .int)) rm_X0_number (va_Pc [.ref (ad 99 j0), .int x1] (IW D cA ad o σ)) (Qi D cA ad o A r) 0 0 A := by
  refine metG (by decide) (Nat.le_of_ble_eq_true rfl) hD0 ?_
  intro p e s m args below meth c C ls hh hl
  have C : Cx p s m args meth c cX0_number 4 RX0 (some .int) D cA ad A o := C
  have hl : lv_has ls 4 [(0, .ref (ad 99 j0)), (1, .int x1)] := hl
  obtain ⟨⟨hx, hb, hml, hown, hts⟩, hK, hN, hD, hr, hlocks⟩ := id C
  unfold f_X0_number at h
  refine lv_iconst (v := (0 : Int32)) hx hb dX0_number_0 (by decide) ?_
  refine lv_istore_n (lv' := [(2, .int (0 : Int32)), (0, .ref (ad 99 j0)), (1, .int x1)]) hx hb dX0_number_1 rfl hl (by decide) rfl (fun ls hl => ?_)
  refine lv_iload_n hx hb dX0_number_2 rfl (lv_at hl 2 rfl) ?_
  refine lv_istore_n (lv' := [(3, .int x1), (2, .int (0 : Int32)), (0, .ref (ad 99 j0)), (1, .int x1)]) hx hb dX0_number_3 rfl hl (by decide) rfl (fun ls hl => ?_)
  exact k_X0_number_4 C 5000 j0 hj0 x1 (0 : Int32) x1 σ h hh (lv_sub hl [2, 3, 1, 0] rfl)
abbrev rm_X2_readOption : Room := { frames := 1, cells := 0, slots := 0, locals := 23 }
theorem HD_X2_readOption : yX2_readOption.cls = RX2 ∧ yX2_readOption.cls ≠ "java/lang/invoke/MethodHandle" ∧ yX2_readOption.cls ≠ "java/lang/invoke/VarHandle" ∧ (parseMethodDescriptor yX2_readOption.desc).map (fun d => d.parameters.length) = some 4 := by decide +kernel
def f_X2_readOption_53 (x4 : Int32) (xs0 : Int32) (js1 : Nat) (σ : Mem) : Option (Int32 × Mem) := vl (up σ 207 js1 0 xs0) (fun s1 => (if x4 = (1 : Int32) then some ((1 : Int32), s1) else some ((0 : Int32), s1)))
set_option maxHeartbeats 4000000 in
set_option maxRecDepth 100000 in
theorem k_X2_readOption_53 {p : Program} {l : Launch} {e : Env} {s : State} {m : MethodId} {args : Array Value} {below : List Frame} {meth : Method} {c : Code} {D : va_G} {cA : Nat → ClassId} {ad : Nat → Nat → Nat} {A : Nat → Prop} {o : Nat → Int64} (C : Cx p s m args meth c cX2_readOption 5 RX2 (some .boolean) D cA ad A o) {r : Int32 × Mem} (x4 : Int32) (xs0 : Int32) (js1 : Nat) (hjs1 : js1 < 2) (σ : Mem) {H : Heap} {locs : List Loc} (h : f_X2_readOption_53 x4 xs0 js1 σ = some r) (hh : HH D cA ad A o s σ H locs) {ls : Array Slot} (hl : lv_has ls 5 [(4, .int x4)]) : W p l e rm_X2_readOption s m args below meth c H locs 0 0 (MQ below (Qi D cA ad o A r) args s 0 0 A) (F0 m 53 ls [.int xs0, .ref (ad 299 js1)]) := by
  obtain ⟨⟨hx, hb, hml, hown, hts⟩, hK, hN, hD, hr, hlocks⟩ := id C
  unfold f_X2_readOption_53 at h
  obtain ⟨s1, e2, h⟩ := vl_e h
  refine pf_2_33 C hh hjs1 dX2_readOption_53 (fun H locs hh => ?_)
  rw [← e2] at hh
  refine lv_iload hx hb dX2_readOption_56 (lv_at hl 0 rfl) ?_
  refine lv_iconst (v := (1 : Int32)) hx hb dX2_readOption_58 (by decide) ?_
  refine lv_icmp_ne (tgt := 66) hx hb dX2_readOption_59 (by decide) (fun c3 => ?_) (fun c3 => ?_)
  · rw [if_neg c3] at h
    refine lv_iconst (v := (0 : Int32)) hx hb dX2_readOption_66 (by decide) ?_
    exact r_bool C hh (by decide) h dX2_readOption_67
  · rw [if_pos c3] at h
    refine lv_iconst (v := (1 : Int32)) hx hb dX2_readOption_62 (by decide) ?_
    refine lv_goto (tgt := 67) hx hb dX2_readOption_63 (by decide) ?_
    exact r_bool C hh (by decide) h dX2_readOption_67
def f_X2_readOption (j0 : Nat) (j1 : Nat) (x2 : Int32) (x3 : Int32) (x4 : Int32) (σ : Mem) : Option (Int32 × Mem) := (if x3 = (50 : Int32) then bn (f_X0_number j1 x2 σ) (fun r4 s3 => vl (up s3 208 j0 0 r4) (fun s5 => (if x4 = (4 : Int32) then some ((1 : Int32), s5) else some ((0 : Int32), s5)))) else if x3 = (51 : Int32) then bn (f_X0_number j1 x2 σ) (fun r11 s10 => vl (up s10 209 j0 0 r11) (fun s12 => (if x4 = (4 : Int32) then some ((1 : Int32), s12) else some ((0 : Int32), s12)))) else if x3 = (52 : Int32) then some ((1 : Int32), σ) else if x3 = (53 : Int32) then (if x4 = (1 : Int32) then gd (vin x2 60) (f_X2_readOption_53 x4 (σ 0 j1 (x2).toNatClampNeg) j0 σ) else f_X2_readOption_53 x4 (-1 : Int32) j0 σ) else if x3 = (54 : Int32) then bn (f_X0_number j1 x2 σ) (fun r22 s21 => vl (up s21 210 j0 0 r22) (fun s23 => (if x4 = (4 : Int32) then some ((1 : Int32), s23) else some ((0 : Int32), s23)))) else some ((1 : Int32), σ))
set_option maxHeartbeats 4000000 in
set_option maxRecDepth 100000 in
theorem c_X2_readOption {l : Launch} {D : va_G} {cA : Nat → ClassId} {ad : Nat → Nat → Nat} {A : Nat → Prop} {o : Nat → Int64} (hD0 : ∀ σ, va_D A (wW cA ad σ o)) (j0 : Nat) (hj0 : j0 < 2) (j1 : Nat) (hj1 : j1 < 62) (x2 : Int32) (x3 : Int32) (x4 : Int32) (σ : Mem) {r : Int32 × Mem} (h : f_X2_readOption j0 j1 x2 x3 x4 σ = some r) : Met l yX2_readOption (wsG yX2_readOption cX2_readOption 5 (some .boolean)) rm_X2_readOption (va_Pc [.ref (ad 299 j0), .ref (ad 99 j1), .int x2, .int x3, .int x4] (IW D cA ad o σ)) (Qi D cA ad o A r) 0 0 A := by
  refine metG (by decide) (Nat.le_of_ble_eq_true rfl) hD0 ?_
  intro p e s m args below meth c C ls hh hl
  have C : Cx p s m args meth c cX2_readOption 5 RX2 (some .boolean) D cA ad A o := C
  have hl : lv_has ls 5 [(0, .ref (ad 299 j0)), (1, .ref (ad 99 j1)), (2, .int x2), (3, .int x3), (4, .int x4)] := hl
  obtain ⟨⟨hx, hb, hml, hown, hts⟩, hK, hN, hD, hr, hlocks⟩ := id C
  unfold f_X2_readOption at h
  refine lv_iload_n hx hb dX2_readOption_0 rfl (lv_at hl 3 rfl) ?_
  by_cases c1 : x3 = (50 : Int32)
  · rw [if_pos c1] at h
    refine lv_tableIn (tgt := 68) hx hb dX2_readOption_1 (by rw [c1]; decide) (by rw [c1]; decide) (by rw [c1]; rfl) (by decide) ?_
    refine lv_aload_n hx hb dX2_readOption_68 rfl (lv_at hl 0 rfl) ?_
    refine lv_aload_n hx hb dX2_readOption_69 rfl (lv_at hl 1 rfl) ?_
    refine lv_iload_n hx hb dX2_readOption_70 rfl (lv_at hl 2 rfl) ?_
    obtain ⟨r4, s3, e2, h⟩ := bn_e h
    refine c_int hh (vrun (rest := [.ref (ad 299 j0)]) C hh (c_X0_number C.2.2.2.1 j1 hj1 x2 σ e2) LM_2_54 IM_X0_number SL_X0_number IN_0 CD_X0_number HD_X0_number ⟨rfl, rfl, Nat.le_of_ble_eq_true rfl, Nat.le_of_ble_eq_true rfl⟩ (rv_0 C hh hj1) rfl hl.1 rfl (Nat.le_of_ble_eq_true rfl) dX2_readOption_71 ⟨Nat.zero_le _, Nat.zero_le _⟩) (fun H locs hh => ?_)
    obtain ⟨s5, e6, h⟩ := vl_e h
    refine pf_2_36 C hh hj0 dX2_readOption_74 (fun H locs hh => ?_)
    rw [← e6] at hh
    refine lv_iload hx hb dX2_readOption_77 (lv_at hl 4 rfl) ?_
    refine lv_iconst (v := (4 : Int32)) hx hb dX2_readOption_79 (by decide) ?_
    refine lv_icmp_ne (tgt := 87) hx hb dX2_readOption_80 (by decide) (fun c7 => ?_) (fun c7 => ?_)
    · rw [if_neg c7] at h
      refine lv_iconst (v := (0 : Int32)) hx hb dX2_readOption_87 (by decide) ?_
      exact r_bool C hh (by decide) h dX2_readOption_88
    · rw [if_pos c7] at h
      refine lv_iconst (v := (1 : Int32)) hx hb dX2_readOption_83 (by decide) ?_
      refine lv_goto (tgt := 88) hx hb dX2_readOption_84 (by decide) ?_
      exact r_bool C hh (by decide) h dX2_readOption_88
  · rw [if_neg c1] at h
    by_cases c8 : x3 = (51 : Int32)
    · rw [if_pos c8] at h
      refine lv_tableIn (tgt := 89) hx hb dX2_readOption_1 (by rw [c8]; decide) (by rw [c8]; decide) (by rw [c8]; rfl) (by decide) ?_
      refine lv_aload_n hx hb dX2_readOption_89 rfl (lv_at hl 0 rfl) ?_
      refine lv_aload_n hx hb dX2_readOption_90 rfl (lv_at hl 1 rfl) ?_
      refine lv_iload_n hx hb dX2_readOption_91 rfl (lv_at hl 2 rfl) ?_
      obtain ⟨r11, s10, e9, h⟩ := bn_e h
      refine c_int hh (vrun (rest := [.ref (ad 299 j0)]) C hh (c_X0_number C.2.2.2.1 j1 hj1 x2 σ e9) LM_2_54 IM_X0_number SL_X0_number IN_0 CD_X0_number HD_X0_number ⟨rfl, rfl, Nat.le_of_ble_eq_true rfl, Nat.le_of_ble_eq_true rfl⟩ (rv_0 C hh hj1) rfl hl.1 rfl (Nat.le_of_ble_eq_true rfl) dX2_readOption_92 ⟨Nat.zero_le _, Nat.zero_le _⟩) (fun H locs hh => ?_)
      obtain ⟨s12, e13, h⟩ := vl_e h
      refine pf_2_39 C hh hj0 dX2_readOption_95 (fun H locs hh => ?_)
      rw [← e13] at hh
      refine lv_iload hx hb dX2_readOption_98 (lv_at hl 4 rfl) ?_
      refine lv_iconst (v := (4 : Int32)) hx hb dX2_readOption_100 (by decide) ?_
      refine lv_icmp_ne (tgt := 108) hx hb dX2_readOption_101 (by decide) (fun c14 => ?_) (fun c14 => ?_)
      · rw [if_neg c14] at h
        refine lv_iconst (v := (0 : Int32)) hx hb dX2_readOption_108 (by decide) ?_
        exact r_bool C hh (by decide) h dX2_readOption_109
      · rw [if_pos c14] at h
        refine lv_iconst (v := (1 : Int32)) hx hb dX2_readOption_104 (by decide) ?_
        refine lv_goto (tgt := 109) hx hb dX2_readOption_105 (by decide) ?_
        exact r_bool C hh (by decide) h dX2_readOption_109
    · rw [if_neg c8] at h
      by_cases c15 : x3 = (52 : Int32)
      · rw [if_pos c15] at h
        refine lv_tableIn (tgt := 131) hx hb dX2_readOption_1 (by rw [c15]; decide) (by rw [c15]; decide) (by rw [c15]; rfl) (by decide) ?_
        refine lv_iconst (v := (1 : Int32)) hx hb dX2_readOption_131 (by decide) ?_
        exact r_bool C hh (by decide) h dX2_readOption_132
      · rw [if_neg c15] at h
        by_cases c16 : x3 = (53 : Int32)
        · rw [if_pos c16] at h
          refine lv_tableIn (tgt := 36) hx hb dX2_readOption_1 (by rw [c16]; decide) (by rw [c16]; decide) (by rw [c16]; rfl) (by decide) ?_
          refine lv_aload_n hx hb dX2_readOption_36 rfl (lv_at hl 0 rfl) ?_
          refine lv_iload hx hb dX2_readOption_37 (lv_at hl 4 rfl) ?_
          refine lv_iconst (v := (1 : Int32)) hx hb dX2_readOption_39 (by decide) ?_
          refine lv_icmp_ne (tgt := 52) hx hb dX2_readOption_40 (by decide) (fun c17 => ?_) (fun c17 => ?_)
          · rw [if_neg c17] at h
            refine lv_iconst (v := (-1 : Int32)) hx hb dX2_readOption_52 (by decide) ?_
            exact k_X2_readOption_53 C x4 (-1 : Int32) j0 hj0 σ h hh (lv_sub hl [4] rfl)
          · rw [if_pos c17] at h
            refine lv_aload_n hx hb dX2_readOption_43 rfl (lv_at hl 1 rfl) ?_
            refine gf_2_50 C hh hj1 dX2_readOption_44 ?_
            refine lv_iload_n hx hb dX2_readOption_47 rfl (lv_at hl 2 rfl) ?_
            obtain ⟨b18, h⟩ := gd_e h
            refine al_0 C hh hj1 b18 dX2_readOption_48 ?_
            refine lv_goto (tgt := 53) hx hb dX2_readOption_49 (by decide) ?_
            exact k_X2_readOption_53 C x4 (σ 0 j1 (x2).toNatClampNeg) j0 hj0 σ h hh (lv_sub hl [4] rfl)
        · rw [if_neg c16] at h
          by_cases c19 : x3 = (54 : Int32)
          · rw [if_pos c19] at h
            refine lv_tableIn (tgt := 110) hx hb dX2_readOption_1 (by rw [c19]; decide) (by rw [c19]; decide) (by rw [c19]; rfl) (by decide) ?_
            refine lv_aload_n hx hb dX2_readOption_110 rfl (lv_at hl 0 rfl) ?_
            refine lv_aload_n hx hb dX2_readOption_111 rfl (lv_at hl 1 rfl) ?_
            refine lv_iload_n hx hb dX2_readOption_112 rfl (lv_at hl 2 rfl) ?_
            obtain ⟨r22, s21, e20, h⟩ := bn_e h
            refine c_int hh (vrun (rest := [.ref (ad 299 j0)]) C hh (c_X0_number C.2.2.2.1 j1 hj1 x2 σ e20) LM_2_54 IM_X0_number SL_X0_number IN_0 CD_X0_number HD_X0_number ⟨rfl, rfl, Nat.le_of_ble_eq_true rfl, Nat.le_of_ble_eq_true rfl⟩ (rv_0 C hh hj1) rfl hl.1 rfl (Nat.le_of_ble_eq_true rfl) dX2_readOption_113 ⟨Nat.zero_le _, Nat.zero_le _⟩) (fun H locs hh => ?_)
            obtain ⟨s23, e24, h⟩ := vl_e h
            refine pf_2_42 C hh hj0 dX2_readOption_116 (fun H locs hh => ?_)
            rw [← e24] at hh
            refine lv_iload hx hb dX2_readOption_119 (lv_at hl 4 rfl) ?_
            refine lv_iconst (v := (4 : Int32)) hx hb dX2_readOption_121 (by decide) ?_
            refine lv_icmp_ne (tgt := 129) hx hb dX2_readOption_122 (by decide) (fun c25 => ?_) (fun c25 => ?_)
            · rw [if_neg c25] at h
              refine lv_iconst (v := (0 : Int32)) hx hb dX2_readOption_129 (by decide) ?_
              exact r_bool C hh (by decide) h dX2_readOption_130
            · rw [if_pos c25] at h
              refine lv_iconst (v := (1 : Int32)) hx hb dX2_readOption_125 (by decide) ?_
              refine lv_goto (tgt := 130) hx hb dX2_readOption_126 (by decide) ?_
              exact r_bool C hh (by decide) h dX2_readOption_130
          · rw [if_neg c19] at h
            have nc1 := ntI c1 (n := 50) (by decide)
            have nc8 := ntI c8 (n := 51) (by decide)
            have nc15 := ntI c15 (n := 52) (by decide)
            have nc16 := ntI c16 (n := 53) (by decide)
            have nc19 := ntI c19 (n := 54) (by decide)
            refine lv_tableOut (tgt := 131) hx hb dX2_readOption_1 (by omega) (by decide) ?_
            refine lv_iconst (v := (1 : Int32)) hx hb dX2_readOption_131 (by decide) ?_
            exact r_bool C hh (by decide) h dX2_readOption_132
abbrev rm_X2_readOptions : Room := { frames := 2, cells := 0, slots := 0, locals := 47 }
theorem HD_X2_readOptions : yX2_readOptions.cls = RX2 ∧ yX2_readOptions.cls ≠ "java/lang/invoke/MethodHandle" ∧ yX2_readOptions.cls ≠ "java/lang/invoke/VarHandle" ∧ (parseMethodDescriptor yX2_readOptions.desc).map (fun d => d.parameters.length) = some 1 := by decide +kernel
def f_X2_readOptions_3 : Nat → Nat → Nat → Int32 → Mem → Option (Int32 × Mem)
  | 0, _, _, _, _ => none
  | n + 1, j0, j1, x2, σ => (if (σ 1 j1 0) ≤ x2 then some ((0 : Int32), σ) else gd (vin x2 60) ((if (σ 0 j1 (x2).toNatClampNeg) = (255 : Int32) then some ((1 : Int32), σ) else (if (σ 0 j1 (x2).toNatClampNeg) = (0 : Int32) then vl (x2 + (1 : Int32)) (fun v14 => f_X2_readOptions_3 n j0 j1 v14 σ) else (if (x2 + (1 : Int32)) < (σ 1 j1 0) then gd (vin (x2 + (1 : Int32)) 60) ((if (σ 1 j1 0) < ((x2 + (2 : Int32)) + (σ 0 j1 ((x2 + (1 : Int32))).toNatClampNeg)) then some ((0 : Int32), σ) else bn (f_X2_readOption j0 j1 (x2 + (2 : Int32)) (σ 0 j1 (x2).toNatClampNeg) (σ 0 j1 ((x2 + (1 : Int32))).toNatClampNeg) σ) (fun r10 s9 => (if r10 = (0 : Int32) then some ((0 : Int32), s9) else vl ((x2 + ((2 : Int32) + (σ 0 j1 ((x2 + (1 : Int32))).toNatClampNeg)))) (fun v12 => f_X2_readOptions_3 n j0 j1 v12 s9))))) else some ((0 : Int32), σ))))))
set_option maxHeartbeats 4000000 in
set_option maxRecDepth 100000 in
theorem k_X2_readOptions_3 {p : Program} {l : Launch} {e : Env} {s : State} {m : MethodId} {args : Array Value} {below : List Frame} {meth : Method} {c : Code} {D : va_G} {cA : Nat → ClassId} {ad : Nat → Nat → Nat} {A : Nat → Prop} {o : Nat → Int64} (C : Cx p s m args meth c cX2_readOptions 5 RX2 (some .boolean) D cA ad A o) {r : Int32 × Mem} : ∀ (n : Nat) (j0 : Nat) (hj0 : j0 < 2) (j1 : Nat) (hj1 : j1 < 62) (x2 : Int32) (σ : Mem) {H : Heap} {locs : List Loc} (h : f_X2_readOptions_3 n j0 j1 x2 σ = some r) (hh : HH D cA ad A o s σ H locs) {ls : Array Slot} (hl : lv_has ls 5 [(0, .ref (ad 299 j0)), (1, .ref (ad 99 j1)), (2, .int x2)]), W p l e rm_X2_readOptions s m args below meth c H locs 0 0 (MQ below (Qi D cA ad o A r) args s 0 0 A) (F0 m 3 ls []) := by
  obtain ⟨⟨hx, hb, hml, hown, hts⟩, hK, hN, hD, hr, hlocks⟩ := id C
  intro n
  induction n with
  | zero =>
    intro j0 hj0 j1 hj1 x2 σ H locs h
    rw [f_X2_readOptions_3.eq_1] at h
    cases h
  | succ n ih =>
    intro j0 hj0 j1 hj1 x2 σ H locs h hh ls hl
    rw [f_X2_readOptions_3.eq_2] at h
    refine lv_iload_n hx hb dX2_readOptions_3 rfl (lv_at hl 2 rfl) ?_
    refine lv_aload_n hx hb dX2_readOptions_4 rfl (lv_at hl 1 rfl) ?_
    refine gf_2_45 C hh hj1 dX2_readOptions_5 ?_
    refine lv_icmp_ge (tgt := 98) hx hb dX2_readOptions_8 (by decide) (fun c1 => ?_) (fun c1 => ?_)
    · rw [if_pos c1] at h
      refine lv_iconst (v := (0 : Int32)) hx hb dX2_readOptions_98 (by decide) ?_
      exact r_bool C hh (by decide) h dX2_readOptions_99
    · rw [if_neg c1] at h
      refine lv_aload_n hx hb dX2_readOptions_11 rfl (lv_at hl 1 rfl) ?_
      refine gf_2_50 C hh hj1 dX2_readOptions_12 ?_
      refine lv_iload_n hx hb dX2_readOptions_15 rfl (lv_at hl 2 rfl) ?_
      obtain ⟨b2, h⟩ := gd_e h
      refine al_0 C hh hj1 b2 dX2_readOptions_16 ?_
      refine lv_istore_n (lv' := [(3, .int (σ 0 j1 (x2).toNatClampNeg)), (0, .ref (ad 299 j0)), (1, .ref (ad 99 j1)), (2, .int x2)]) hx hb dX2_readOptions_17 rfl hl (by decide) rfl (fun ls hl => ?_)
      refine lv_iload_n hx hb dX2_readOptions_18 rfl (lv_at hl 0 rfl) ?_
      refine lv_sipush (v := (255 : Int32)) hx hb dX2_readOptions_19 (by decide) ?_
      refine lv_icmp_ne (tgt := 27) hx hb dX2_readOptions_22 (by decide) (fun c3 => ?_) (fun c3 => ?_)
      · rw [if_neg c3] at h
        refine lv_iload_n hx hb dX2_readOptions_27 rfl (lv_at hl 0 rfl) ?_
        refine lv_if_ne (tgt := 37) hx hb dX2_readOptions_28 (by decide) (fun c4 => ?_) (fun c4 => ?_)
        · rw [if_neg c4] at h
          refine lv_iload_n hx hb dX2_readOptions_37 rfl (lv_at hl 3 rfl) ?_
          refine lv_iconst (v := (1 : Int32)) hx hb dX2_readOptions_38 (by decide) ?_
          refine lv_iadd hx hb dX2_readOptions_39 ?_
          refine lv_aload_n hx hb dX2_readOptions_40 rfl (lv_at hl 2 rfl) ?_
          refine gf_2_45 C hh hj1 dX2_readOptions_41 ?_
          refine lv_icmp_lt (tgt := 49) hx hb dX2_readOptions_44 (by decide) (fun c5 => ?_) (fun c5 => ?_)
          · rw [if_pos c5] at h
            refine lv_aload_n hx hb dX2_readOptions_49 rfl (lv_at hl 2 rfl) ?_
            refine gf_2_50 C hh hj1 dX2_readOptions_50 ?_
            refine lv_iload_n hx hb dX2_readOptions_53 rfl (lv_at hl 3 rfl) ?_
            refine lv_iconst (v := (1 : Int32)) hx hb dX2_readOptions_54 (by decide) ?_
            refine lv_iadd hx hb dX2_readOptions_55 ?_
            obtain ⟨b6, h⟩ := gd_e h
            refine al_0 C hh hj1 b6 dX2_readOptions_56 ?_
            refine lv_istore (lv' := [(4, .int (σ 0 j1 ((x2 + (1 : Int32))).toNatClampNeg)), (3, .int (σ 0 j1 (x2).toNatClampNeg)), (0, .ref (ad 299 j0)), (1, .ref (ad 99 j1)), (2, .int x2)]) hx hb dX2_readOptions_57 hl (by decide) rfl (fun ls hl => ?_)
            refine lv_iload_n hx hb dX2_readOptions_59 rfl (lv_at hl 4 rfl) ?_
            refine lv_iconst (v := (2 : Int32)) hx hb dX2_readOptions_60 (by decide) ?_
            refine lv_iadd hx hb dX2_readOptions_61 ?_
            refine lv_iload hx hb dX2_readOptions_62 (lv_at hl 0 rfl) ?_
            refine lv_iadd hx hb dX2_readOptions_64 ?_
            refine lv_aload_n hx hb dX2_readOptions_65 rfl (lv_at hl 3 rfl) ?_
            refine gf_2_45 C hh hj1 dX2_readOptions_66 ?_
            refine lv_icmp_gt (tgt := 86) hx hb dX2_readOptions_69 (by decide) (fun c7 => ?_) (fun c7 => ?_)
            · rw [if_pos c7] at h
              refine lv_iconst (v := (0 : Int32)) hx hb dX2_readOptions_86 (by decide) ?_
              exact r_bool C hh (by decide) h dX2_readOptions_87
            · rw [if_neg c7] at h
              refine lv_aload_n hx hb dX2_readOptions_72 rfl (lv_at hl 2 rfl) ?_
              refine lv_aload_n hx hb dX2_readOptions_73 rfl (lv_at hl 3 rfl) ?_
              refine lv_iload_n hx hb dX2_readOptions_74 rfl (lv_at hl 4 rfl) ?_
              refine lv_iconst (v := (2 : Int32)) hx hb dX2_readOptions_75 (by decide) ?_
              refine lv_iadd hx hb dX2_readOptions_76 ?_
              refine lv_iload_n hx hb dX2_readOptions_77 rfl (lv_at hl 1 rfl) ?_
              refine lv_iload hx hb dX2_readOptions_78 (lv_at hl 0 rfl) ?_
              obtain ⟨r10, s9, e8, h⟩ := bn_e h
              refine c_int hh (vrun (rest := []) C hh (c_X2_readOption C.2.2.2.1 j0 hj0 j1 hj1 (x2 + (2 : Int32)) (σ 0 j1 (x2).toNatClampNeg) (σ 0 j1 ((x2 + (1 : Int32))).toNatClampNeg) σ e8) LM_2_66 IM_X2_readOption SL_X2_readOption IN_2 CD_X2_readOption HD_X2_readOption ⟨rfl, rfl, Nat.le_of_ble_eq_true rfl, Nat.le_of_ble_eq_true rfl⟩ (rv_2 C hh hj0) rfl hl.1 rfl (Nat.le_of_ble_eq_true rfl) dX2_readOptions_80 ⟨Nat.zero_le _, Nat.zero_le _⟩) (fun H locs hh => ?_)
              refine lv_if_ne (tgt := 88) hx hb dX2_readOptions_83 (by decide) (fun c11 => ?_) (fun c11 => ?_)
              · rw [if_neg c11] at h
                refine lv_iload_n hx hb dX2_readOptions_88 rfl (lv_at hl 4 rfl) ?_
                refine lv_iconst (v := (2 : Int32)) hx hb dX2_readOptions_89 (by decide) ?_
                refine lv_iload hx hb dX2_readOptions_90 (lv_at hl 0 rfl) ?_
                refine lv_iadd hx hb dX2_readOptions_92 ?_
                refine lv_iadd hx hb dX2_readOptions_93 ?_
                obtain ⟨v12, e13, h⟩ := vl_e h
                refine lv_nm e13 ?_
                refine lv_istore_n (lv' := [(2, .int v12), (4, .int (σ 0 j1 ((x2 + (1 : Int32))).toNatClampNeg)), (3, .int (σ 0 j1 (x2).toNatClampNeg)), (0, .ref (ad 299 j0)), (1, .ref (ad 99 j1))]) hx hb dX2_readOptions_94 rfl hl (by decide) rfl (fun ls hl => ?_)
                refine lv_goto (tgt := 3) hx hb dX2_readOptions_95 (by decide) ?_
                exact ih j0 hj0 j1 hj1 v12 s9 h hh (lv_sub hl [3, 4, 0] rfl)
              · rw [if_pos c11] at h
                refine lv_iconst (v := (0 : Int32)) hx hb dX2_readOptions_86 (by decide) ?_
                exact r_bool C hh (by decide) h dX2_readOptions_87
          · rw [if_neg c5] at h
            refine lv_iconst (v := (0 : Int32)) hx hb dX2_readOptions_47 (by decide) ?_
            exact r_bool C hh (by decide) h dX2_readOptions_48
        · rw [if_pos c4] at h
          obtain ⟨v14, e15, h⟩ := vl_e h
          refine lv_iinc (v := v14) (lv' := [(2, .int v14), (3, .int (σ 0 j1 (x2).toNatClampNeg)), (0, .ref (ad 299 j0)), (1, .ref (ad 99 j1))]) hx hb dX2_readOptions_31 hl (k := 3) rfl (by rw [e15]; rfl) (by decide) rfl (fun ls hl => ?_)
          refine lv_goto (tgt := 3) hx hb dX2_readOptions_34 (by decide) ?_
          exact ih j0 hj0 j1 hj1 v14 σ h hh (lv_sub hl [2, 3, 0] rfl)
      · rw [if_pos c3] at h
        refine lv_iconst (v := (1 : Int32)) hx hb dX2_readOptions_25 (by decide) ?_
        exact r_bool C hh (by decide) h dX2_readOptions_26
def f_X2_readOptions (j0 : Nat) (j1 : Nat) (σ : Mem) : Option (Int32 × Mem) := f_X2_readOptions_3 5000 j0 j1 (19 : Int32) σ
set_option maxHeartbeats 4000000 in
set_option maxRecDepth 100000 in
theorem c_X2_readOptions {l : Launch} {D : va_G} {cA : Nat → ClassId} {ad : Nat → Nat → Nat} {A : Nat → Prop} {o : Nat → Int64} (hD0 : ∀ σ, va_D A (wW cA ad σ o)) (j0 : Nat) (hj0 : j0 < 2) (j1 : Nat) (hj1 : j1 < 62) (σ : Mem) {r : Int32 × Mem} (h : f_X2_readOptions j0 j1 σ = some r) : Met l yX2_readOptions (wsG yX2_readOptions cX2_readOptions 5 (some .boolean)) rm_X2_readOptions (va_Pc [.ref (ad 299 j0), .ref (ad 99 j1)] (IW D cA ad o σ)) (Qi D cA ad o A r) 0 0 A := by
  refine metG (by decide) (Nat.le_of_ble_eq_true rfl) hD0 ?_
  intro p e s m args below meth c C ls hh hl
  have C : Cx p s m args meth c cX2_readOptions 5 RX2 (some .boolean) D cA ad A o := C
  have hl : lv_has ls 5 [(0, .ref (ad 299 j0)), (1, .ref (ad 99 j1))] := hl
  obtain ⟨⟨hx, hb, hml, hown, hts⟩, hK, hN, hD, hr, hlocks⟩ := id C
  unfold f_X2_readOptions at h
  refine lv_bipush (v := (19 : Int32)) hx hb dX2_readOptions_0 (by decide) ?_
  refine lv_istore_n (lv' := [(2, .int (19 : Int32)), (0, .ref (ad 299 j0)), (1, .ref (ad 99 j1))]) hx hb dX2_readOptions_2 rfl hl (by decide) rfl (fun ls hl => ?_)
  exact k_X2_readOptions_3 C 5000 j0 hj0 j1 hj1 (19 : Int32) σ h hh (lv_sub hl [1, 2, 0] rfl)
abbrev rm_X2_read : Room := { frames := 3, cells := 0, slots := 0, locals := 71 }
theorem HD_X2_read : yX2_read.cls = RX2 ∧ yX2_read.cls ≠ "java/lang/invoke/MethodHandle" ∧ yX2_read.cls ≠ "java/lang/invoke/VarHandle" ∧ (parseMethodDescriptor yX2_read.desc).map (fun d => d.parameters.length) = some 1 := by decide +kernel
def f_X2_read_89 (j0 : Nat) (j1 : Nat) (σ : Mem) : Option (Int32 × Mem) := bn (f_X2_readOptions j0 j1 σ) (fun r3 s2 => (if r3 = (0 : Int32) then some ((0 : Int32), s2) else some ((1 : Int32), s2)))
set_option maxHeartbeats 4000000 in
set_option maxRecDepth 100000 in
theorem k_X2_read_89 {p : Program} {l : Launch} {e : Env} {s : State} {m : MethodId} {args : Array Value} {below : List Frame} {meth : Method} {c : Code} {D : va_G} {cA : Nat → ClassId} {ad : Nat → Nat → Nat} {A : Nat → Prop} {o : Nat → Int64} (C : Cx p s m args meth c cX2_read 2 RX2 (some .boolean) D cA ad A o) {r : Int32 × Mem} (j0 : Nat) (hj0 : j0 < 2) (j1 : Nat) (hj1 : j1 < 62) (σ : Mem) {H : Heap} {locs : List Loc} (h : f_X2_read_89 j0 j1 σ = some r) (hh : HH D cA ad A o s σ H locs) {ls : Array Slot} (hl : lv_has ls 2 [(0, .ref (ad 299 j0)), (1, .ref (ad 99 j1))]) : W p l e rm_X2_read s m args below meth c H locs 0 0 (MQ below (Qi D cA ad o A r) args s 0 0 A) (F0 m 89 ls []) := by
  obtain ⟨⟨hx, hb, hml, hown, hts⟩, hK, hN, hD, hr, hlocks⟩ := id C
  unfold f_X2_read_89 at h
  refine lv_aload_n hx hb dX2_read_89 rfl (lv_at hl 0 rfl) ?_
  refine lv_aload_n hx hb dX2_read_90 rfl (lv_at hl 1 rfl) ?_
  obtain ⟨r3, s2, e1, h⟩ := bn_e h
  refine c_int hh (vrun (rest := []) C hh (c_X2_readOptions C.2.2.2.1 j0 hj0 j1 hj1 σ e1) LM_2_62 IM_X2_readOptions SL_X2_readOptions IN_2 CD_X2_readOptions HD_X2_readOptions ⟨rfl, rfl, Nat.le_of_ble_eq_true rfl, Nat.le_of_ble_eq_true rfl⟩ (rv_2 C hh hj0) rfl hl.1 rfl (Nat.le_of_ble_eq_true rfl) dX2_read_91 ⟨Nat.zero_le _, Nat.zero_le _⟩) (fun H locs hh => ?_)
  refine lv_if_eq (tgt := 101) hx hb dX2_read_94 (by decide) (fun c4 => ?_) (fun c4 => ?_)
  · rw [if_pos c4] at h
    refine lv_iconst (v := (0 : Int32)) hx hb dX2_read_101 (by decide) ?_
    exact r_bool C hh (by decide) h dX2_read_102
  · rw [if_neg c4] at h
    refine lv_iconst (v := (1 : Int32)) hx hb dX2_read_97 (by decide) ?_
    refine lv_goto (tgt := 102) hx hb dX2_read_98 (by decide) ?_
    exact r_bool C hh (by decide) h dX2_read_102
def f_X2_read (j0 : Nat) (j1 : Nat) (σ : Mem) : Option (Int32 × Mem) := (if (19 : Int32) ≤ (σ 1 j1 0) then gd (vin (0 : Int32) 60) (bn (f_X0_number j1 (2 : Int32) σ) (fun r5 s4 => gd (vin (18 : Int32) 60) (bv (f_X2_start j0 (σ 0 j1 ((0 : Int32)).toNatClampNeg) r5 (s4 0 j1 ((18 : Int32)).toNatClampNeg) s4) (fun s8 => gd (vin (1 : Int32) 60) (vl (up s8 201 j0 0 (s8 0 j1 ((1 : Int32)).toNatClampNeg)) (fun s10 => bn (f_X0_number j1 (6 : Int32) s10) (fun r14 s13 => vl (up s13 203 j0 0 r14) (fun s15 => bn (f_X0_number j1 (10 : Int32) s15) (fun r19 s18 => vl (up s18 204 j0 0 r19) (fun s20 => bn (f_X0_number j1 (14 : Int32) s20) (fun r24 s23 => vl (up s23 205 j0 0 r24) (fun s25 => (if (s25 200 j0 0) = (1 : Int32) then f_X2_read_89 j0 j1 s25 else (if (s25 200 j0 0) = (2 : Int32) then f_X2_read_89 j0 j1 s25 else some ((0 : Int32), s25))))))))))))))) else some ((0 : Int32), σ))
set_option maxHeartbeats 4000000 in
set_option maxRecDepth 100000 in
theorem c_X2_read {l : Launch} {D : va_G} {cA : Nat → ClassId} {ad : Nat → Nat → Nat} {A : Nat → Prop} {o : Nat → Int64} (hD0 : ∀ σ, va_D A (wW cA ad σ o)) (j0 : Nat) (hj0 : j0 < 2) (j1 : Nat) (hj1 : j1 < 62) (σ : Mem) {r : Int32 × Mem} (h : f_X2_read j0 j1 σ = some r) : Met l yX2_read (wsG yX2_read cX2_read 2 (some .boolean)) rm_X2_read (va_Pc [.ref (ad 299 j0), .ref (ad 99 j1)] (IW D cA ad o σ)) (Qi D cA ad o A r) 0 0 A := by
  refine metG (by decide) (Nat.le_of_ble_eq_true rfl) hD0 ?_
  intro p e s m args below meth c C ls hh hl
  have C : Cx p s m args meth c cX2_read 2 RX2 (some .boolean) D cA ad A o := C
  have hl : lv_has ls 2 [(0, .ref (ad 299 j0)), (1, .ref (ad 99 j1))] := hl
  obtain ⟨⟨hx, hb, hml, hown, hts⟩, hK, hN, hD, hr, hlocks⟩ := id C
  unfold f_X2_read at h
  refine lv_aload_n hx hb dX2_read_0 rfl (lv_at hl 1 rfl) ?_
  refine gf_2_45 C hh hj1 dX2_read_1 ?_
  refine lv_bipush (v := (19 : Int32)) hx hb dX2_read_4 (by decide) ?_
  refine lv_icmp_ge (tgt := 11) hx hb dX2_read_6 (by decide) (fun c1 => ?_) (fun c1 => ?_)
  · rw [if_pos c1] at h
    refine lv_aload_n hx hb dX2_read_11 rfl (lv_at hl 0 rfl) ?_
    refine lv_aload_n hx hb dX2_read_12 rfl (lv_at hl 1 rfl) ?_
    refine gf_2_50 C hh hj1 dX2_read_13 ?_
    refine lv_iconst (v := (0 : Int32)) hx hb dX2_read_16 (by decide) ?_
    obtain ⟨b2, h⟩ := gd_e h
    refine al_0 C hh hj1 b2 dX2_read_17 ?_
    refine lv_aload_n hx hb dX2_read_18 rfl (lv_at hl 1 rfl) ?_
    refine lv_iconst (v := (2 : Int32)) hx hb dX2_read_19 (by decide) ?_
    obtain ⟨r5, s4, e3, h⟩ := bn_e h
    refine c_int hh (vrun (rest := [.int (σ 0 j1 ((0 : Int32)).toNatClampNeg), .ref (ad 299 j0)]) C hh (c_X0_number C.2.2.2.1 j1 hj1 (2 : Int32) σ e3) LM_2_54 IM_X0_number SL_X0_number IN_0 CD_X0_number HD_X0_number ⟨rfl, rfl, Nat.le_of_ble_eq_true rfl, Nat.le_of_ble_eq_true rfl⟩ (rv_0 C hh hj1) rfl hl.1 rfl (Nat.le_of_ble_eq_true rfl) dX2_read_20 ⟨Nat.zero_le _, Nat.zero_le _⟩) (fun H locs hh => ?_)
    refine lv_aload_n hx hb dX2_read_23 rfl (lv_at hl 1 rfl) ?_
    refine gf_2_50 C hh hj1 dX2_read_24 ?_
    refine lv_bipush (v := (18 : Int32)) hx hb dX2_read_27 (by decide) ?_
    obtain ⟨b6, h⟩ := gd_e h
    refine al_0 C hh hj1 b6 dX2_read_29 ?_
    obtain ⟨s8, e7, h⟩ := bv_e h
    refine c_void hh (vrun (rest := []) C hh (c_X2_start C.2.2.2.1 j0 hj0 (σ 0 j1 ((0 : Int32)).toNatClampNeg) r5 (s4 0 j1 ((18 : Int32)).toNatClampNeg) s4 e7) LM_2_58 IM_X2_start SL_X2_start IN_2 CD_X2_start HD_X2_start ⟨rfl, rfl, Nat.le_of_ble_eq_true rfl, Nat.le_of_ble_eq_true rfl⟩ (rv_2 C hh hj0) rfl hl.1 rfl (Nat.le_of_ble_eq_true rfl) dX2_read_30 ⟨Nat.zero_le _, Nat.zero_le _⟩) (fun H locs hh => ?_)
    refine lv_aload_n hx hb dX2_read_33 rfl (lv_at hl 0 rfl) ?_
    refine lv_aload_n hx hb dX2_read_34 rfl (lv_at hl 1 rfl) ?_
    refine gf_2_50 C hh hj1 dX2_read_35 ?_
    refine lv_iconst (v := (1 : Int32)) hx hb dX2_read_38 (by decide) ?_
    obtain ⟨b9, h⟩ := gd_e h
    refine al_0 C hh hj1 b9 dX2_read_39 ?_
    obtain ⟨s10, e11, h⟩ := vl_e h
    refine pf_2_15 C hh hj0 dX2_read_40 (fun H locs hh => ?_)
    rw [← e11] at hh
    refine lv_aload_n hx hb dX2_read_43 rfl (lv_at hl 0 rfl) ?_
    refine lv_aload_n hx hb dX2_read_44 rfl (lv_at hl 1 rfl) ?_
    refine lv_bipush (v := (6 : Int32)) hx hb dX2_read_45 (by decide) ?_
    obtain ⟨r14, s13, e12, h⟩ := bn_e h
    refine c_int hh (vrun (rest := [.ref (ad 299 j0)]) C hh (c_X0_number C.2.2.2.1 j1 hj1 (6 : Int32) s10 e12) LM_2_54 IM_X0_number SL_X0_number IN_0 CD_X0_number HD_X0_number ⟨rfl, rfl, Nat.le_of_ble_eq_true rfl, Nat.le_of_ble_eq_true rfl⟩ (rv_0 C hh hj1) rfl hl.1 rfl (Nat.le_of_ble_eq_true rfl) dX2_read_47 ⟨Nat.zero_le _, Nat.zero_le _⟩) (fun H locs hh => ?_)
    obtain ⟨s15, e16, h⟩ := vl_e h
    refine pf_2_21 C hh hj0 dX2_read_50 (fun H locs hh => ?_)
    rw [← e16] at hh
    refine lv_aload_n hx hb dX2_read_53 rfl (lv_at hl 0 rfl) ?_
    refine lv_aload_n hx hb dX2_read_54 rfl (lv_at hl 1 rfl) ?_
    refine lv_bipush (v := (10 : Int32)) hx hb dX2_read_55 (by decide) ?_
    obtain ⟨r19, s18, e17, h⟩ := bn_e h
    refine c_int hh (vrun (rest := [.ref (ad 299 j0)]) C hh (c_X0_number C.2.2.2.1 j1 hj1 (10 : Int32) s15 e17) LM_2_54 IM_X0_number SL_X0_number IN_0 CD_X0_number HD_X0_number ⟨rfl, rfl, Nat.le_of_ble_eq_true rfl, Nat.le_of_ble_eq_true rfl⟩ (rv_0 C hh hj1) rfl hl.1 rfl (Nat.le_of_ble_eq_true rfl) dX2_read_57 ⟨Nat.zero_le _, Nat.zero_le _⟩) (fun H locs hh => ?_)
    obtain ⟨s20, e21, h⟩ := vl_e h
    refine pf_2_24 C hh hj0 dX2_read_60 (fun H locs hh => ?_)
    rw [← e21] at hh
    refine lv_aload_n hx hb dX2_read_63 rfl (lv_at hl 0 rfl) ?_
    refine lv_aload_n hx hb dX2_read_64 rfl (lv_at hl 1 rfl) ?_
    refine lv_bipush (v := (14 : Int32)) hx hb dX2_read_65 (by decide) ?_
    obtain ⟨r24, s23, e22, h⟩ := bn_e h
    refine c_int hh (vrun (rest := [.ref (ad 299 j0)]) C hh (c_X0_number C.2.2.2.1 j1 hj1 (14 : Int32) s20 e22) LM_2_54 IM_X0_number SL_X0_number IN_0 CD_X0_number HD_X0_number ⟨rfl, rfl, Nat.le_of_ble_eq_true rfl, Nat.le_of_ble_eq_true rfl⟩ (rv_0 C hh hj1) rfl hl.1 rfl (Nat.le_of_ble_eq_true rfl) dX2_read_67 ⟨Nat.zero_le _, Nat.zero_le _⟩) (fun H locs hh => ?_)
    obtain ⟨s25, e26, h⟩ := vl_e h
    refine pf_2_27 C hh hj0 dX2_read_70 (fun H locs hh => ?_)
    rw [← e26] at hh
    refine lv_aload_n hx hb dX2_read_73 rfl (lv_at hl 0 rfl) ?_
    refine gf_2_9 C hh hj0 dX2_read_74 ?_
    refine lv_iconst (v := (1 : Int32)) hx hb dX2_read_77 (by decide) ?_
    refine lv_icmp_eq (tgt := 89) hx hb dX2_read_78 (by decide) (fun c27 => ?_) (fun c27 => ?_)
    · rw [if_pos c27] at h
      exact k_X2_read_89 C j0 hj0 j1 hj1 s25 h hh (lv_sub hl [0, 1] rfl)
    · rw [if_neg c27] at h
      refine lv_aload_n hx hb dX2_read_81 rfl (lv_at hl 0 rfl) ?_
      refine gf_2_9 C hh hj0 dX2_read_82 ?_
      refine lv_iconst (v := (2 : Int32)) hx hb dX2_read_85 (by decide) ?_
      refine lv_icmp_ne (tgt := 101) hx hb dX2_read_86 (by decide) (fun c28 => ?_) (fun c28 => ?_)
      · rw [if_neg c28] at h
        refine lv_iconst (v := (0 : Int32)) hx hb dX2_read_101 (by decide) ?_
        exact r_bool C hh (by decide) h dX2_read_102
      · rw [if_pos c28] at h
        exact k_X2_read_89 C j0 hj0 j1 hj1 s25 h hh (lv_sub hl [0, 1] rfl)
  · rw [if_neg c1] at h
    refine lv_iconst (v := (0 : Int32)) hx hb dX2_read_9 (by decide) ?_
    exact r_bool C hh (by decide) h dX2_read_10
