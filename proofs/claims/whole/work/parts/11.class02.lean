abbrev rm_X7_passOn : Room := { frames := 3, cells := 0, slots := 0, locals := 133 }
theorem HD_X7_passOn : yX7_passOn.cls = RX7 ∧ yX7_passOn.cls ≠ "java/lang/invoke/MethodHandle" ∧ yX7_passOn.cls ≠ "java/lang/invoke/VarHandle" ∧ (parseMethodDescriptor yX7_passOn.desc).map (fun d => d.parameters.length) = some 1 := by decide +kernel
def f_X7_passOn_98 (σ : Mem) : Option (Mem) := bv (f_X5_postBytes (16 : Int32) 61 σ) (fun s2 => some s2)
set_option maxHeartbeats 4000000 in
set_option maxRecDepth 100000 in
theorem k_X7_passOn_98 {p : Program} {l : Launch} {e : Env} {s : State} {m : MethodId} {args : Array Value} {below : List Frame} {meth : Method} {c : Code} {D : va_G} {cA : Nat → ClassId} {ad : Nat → Nat → Nat} {A : Nat → Prop} {o : Nat → Int64} (C : Cx p s m args meth c cX7_passOn 2 RX7 none D cA ad A o) {r : Mem} (σ : Mem) {H : Heap} {locs : List Loc} (h : f_X7_passOn_98 σ = some r) (hh : HH D cA ad A o s σ H locs) {ls : Array Slot} (hl : lv_has ls 2 [(0, .ref (ad 799 0))]) : W p l e rm_X7_passOn s m args below meth c H locs 0 0 (MQ below (Qv D cA ad o A r) args s 0 0 A) (F0 m 98 ls []) := by
  obtain ⟨⟨hx, hb, hml, hown, hts⟩, hK, hN, hD, hr, hlocks⟩ := id C
  unfold f_X7_passOn_98 at h
  refine lv_aload_n hx hb dX7_passOn_98 rfl (lv_at hl 0 rfl) ?_
  refine gf_7_10 C hh dX7_passOn_99 ?_
  refine lv_bipush (v := (16 : Int32)) hx hb dX7_passOn_102 (by decide) ?_
  refine lv_aload_n hx hb dX7_passOn_104 rfl (lv_at hl 0 rfl) ?_
  refine gf_7_40 C hh dX7_passOn_105 ?_
  obtain ⟨s2, e1, h⟩ := bv_e h
  refine c_void hh (vrun (rest := []) C hh (c_X5_postBytes C.2.2.2.1 (16 : Int32) 61 (by decide) σ e1) LM_7_160 IM_X5_postBytes SL_X5_postBytes IN_5 CD_X5_postBytes HD_X5_postBytes ⟨rfl, rfl, Nat.le_of_ble_eq_true rfl, Nat.le_of_ble_eq_true rfl⟩ (rv_5 C hh) rfl hl.1 rfl (Nat.le_of_ble_eq_true rfl) dX7_passOn_108 ⟨Nat.zero_le _, Nat.zero_le _⟩) (fun H locs hh => ?_)
  exact r_void C hh h dX7_passOn_111
def f_X7_passOn (x1 : Int32) (σ : Mem) : Option (Mem) := (if (σ 200 0 0) = (2 : Int32) then bn (f_X7_isClient (σ 206 0 0) σ) (fun r11 s10 => (if r11 = (0 : Int32) then some s10 else bv (f_X5_postBytes (s10 206 0 0) 61 s10) (fun s14 => some s14))) else (if (σ 201 0 0) < (4 : Int32) then gd (vin (1 : Int32) 60) (vl (up σ 0 61 ((1 : Int32)).toNatClampNeg ((σ 201 0 0) + (1 : Int32))) (fun s4 => (if (s4 205 0 0) = (0 : Int32) then bv (f_X0_setNumber 61 (14 : Int32) ((x1 <<< ((8 : Int32) &&& 31)) + (1 : Int32)) s4) (fun s8 => f_X7_passOn_98 s8) else f_X7_passOn_98 s4))) else some σ))
set_option maxHeartbeats 4000000 in
set_option maxRecDepth 100000 in
theorem c_X7_passOn {l : Launch} {D : va_G} {cA : Nat → ClassId} {ad : Nat → Nat → Nat} {A : Nat → Prop} {o : Nat → Int64} (hD0 : ∀ σ, va_D A (wW cA ad σ o)) (x1 : Int32) (σ : Mem) {r : Mem} (h : f_X7_passOn x1 σ = some r) : Met l yX7_passOn (wsG yX7_passOn cX7_passOn 2 none) rm_X7_passOn (va_Pc [.ref (ad 799 0), .int x1] (IW D cA ad o σ)) (Qv D cA ad o A r) 0 0 A := by
  refine metG (by decide) (Nat.le_of_ble_eq_true rfl) hD0 ?_
  intro p e s m args below meth c C ls hh hl
  have C : Cx p s m args meth c cX7_passOn 2 RX7 none D cA ad A o := C
  have hl : lv_has ls 2 [(0, .ref (ad 799 0)), (1, .int x1)] := hl
  obtain ⟨⟨hx, hb, hml, hown, hts⟩, hK, hN, hD, hr, hlocks⟩ := id C
  unfold f_X7_passOn at h
  refine lv_aload_n hx hb dX7_passOn_0 rfl (lv_at hl 0 rfl) ?_
  refine gf_7_46 C hh dX7_passOn_1 ?_
  refine gf_7_219 C hh (by decide) dX7_passOn_4 ?_
  refine lv_iconst (v := (2 : Int32)) hx hb dX7_passOn_7 (by decide) ?_
  refine lv_icmp_ne (tgt := 43) hx hb dX7_passOn_8 (by decide) (fun c1 => ?_) (fun c1 => ?_)
  · rw [if_neg c1] at h
    refine lv_aload_n hx hb dX7_passOn_43 rfl (lv_at hl 0 rfl) ?_
    refine gf_7_46 C hh dX7_passOn_44 ?_
    refine gf_7_225 C hh (by decide) dX7_passOn_47 ?_
    refine lv_iconst (v := (4 : Int32)) hx hb dX7_passOn_50 (by decide) ?_
    refine lv_icmp_lt (tgt := 55) hx hb dX7_passOn_51 (by decide) (fun c2 => ?_) (fun c2 => ?_)
    · rw [if_pos c2] at h
      refine lv_aload_n hx hb dX7_passOn_55 rfl (lv_at hl 0 rfl) ?_
      refine gf_7_40 C hh dX7_passOn_56 ?_
      refine gf_7_135 C hh (by decide) dX7_passOn_59 ?_
      refine lv_iconst (v := (1 : Int32)) hx hb dX7_passOn_62 (by decide) ?_
      refine lv_aload_n hx hb dX7_passOn_63 rfl (lv_at hl 0 rfl) ?_
      refine gf_7_46 C hh dX7_passOn_64 ?_
      refine gf_7_225 C hh (by decide) dX7_passOn_67 ?_
      refine lv_iconst (v := (1 : Int32)) hx hb dX7_passOn_70 (by decide) ?_
      refine lv_iadd hx hb dX7_passOn_71 ?_
      obtain ⟨b3, h⟩ := gd_e h
      obtain ⟨s4, e5, h⟩ := vl_e h
      refine as_0 C hh (by decide) b3 dX7_passOn_72 (fun H locs hh => ?_)
      rw [← e5] at hh
      refine lv_aload_n hx hb dX7_passOn_73 rfl (lv_at hl 0 rfl) ?_
      refine gf_7_46 C hh dX7_passOn_74 ?_
      refine gf_7_228 C hh (by decide) dX7_passOn_77 ?_
      refine lv_if_ne (tgt := 98) hx hb dX7_passOn_80 (by decide) (fun c6 => ?_) (fun c6 => ?_)
      · rw [if_neg c6] at h
        exact k_X7_passOn_98 C s4 h hh (lv_sub hl [0] rfl)
      · rw [if_pos c6] at h
        refine lv_aload_n hx hb dX7_passOn_83 rfl (lv_at hl 0 rfl) ?_
        refine gf_7_40 C hh dX7_passOn_84 ?_
        refine lv_bipush (v := (14 : Int32)) hx hb dX7_passOn_87 (by decide) ?_
        refine lv_iload_n hx hb dX7_passOn_89 rfl (lv_at hl 1 rfl) ?_
        refine lv_bipush (v := (8 : Int32)) hx hb dX7_passOn_90 (by decide) ?_
        refine lv_ishl hx hb dX7_passOn_92 ?_
        refine lv_iconst (v := (1 : Int32)) hx hb dX7_passOn_93 (by decide) ?_
        refine lv_iadd hx hb dX7_passOn_94 ?_
        obtain ⟨s8, e7, h⟩ := bv_e h
        refine c_void hh (vrun (rest := []) C hh (c_X0_setNumber C.2.2.2.1 61 (by decide) (14 : Int32) ((x1 <<< ((8 : Int32) &&& 31)) + (1 : Int32)) s4 e7) LM_7_231 IM_X0_setNumber SL_X0_setNumber IN_0 CD_X0_setNumber HD_X0_setNumber ⟨rfl, rfl, Nat.le_of_ble_eq_true rfl, Nat.le_of_ble_eq_true rfl⟩ (rv_0 C hh (by decide)) rfl hl.1 rfl (Nat.le_of_ble_eq_true rfl) dX7_passOn_95 ⟨Nat.zero_le _, Nat.zero_le _⟩) (fun H locs hh => ?_)
        exact k_X7_passOn_98 C s8 h hh (lv_sub hl [0] rfl)
    · rw [if_neg c2] at h
      exact r_void C hh h dX7_passOn_54
  · rw [if_pos c1] at h
    refine lv_aload_n hx hb dX7_passOn_11 rfl (lv_at hl 0 rfl) ?_
    refine gf_7_46 C hh dX7_passOn_12 ?_
    refine gf_7_222 C hh (by decide) dX7_passOn_15 ?_
    obtain ⟨r11, s10, e9, h⟩ := bn_e h
    refine c_int hh (srun (rest := []) C hh (c_X7_isClient C.2.2.2.1 (σ 206 0 0) σ e9) LM_7_80 ST_X7_isClient IN_7 CD_X7_isClient HD_X7_isClient ⟨rfl, rfl, Nat.le_of_ble_eq_true rfl, Nat.le_of_ble_eq_true rfl⟩ rfl hl.1 rfl (Nat.le_of_ble_eq_true rfl) dX7_passOn_18 ⟨Nat.zero_le _, Nat.zero_le _⟩) (fun H locs hh => ?_)
    refine lv_if_eq (tgt := 42) hx hb dX7_passOn_21 (by decide) (fun c12 => ?_) (fun c12 => ?_)
    · rw [if_pos c12] at h
      exact r_void C hh h dX7_passOn_42
    · rw [if_neg c12] at h
      refine lv_aload_n hx hb dX7_passOn_24 rfl (lv_at hl 0 rfl) ?_
      refine gf_7_10 C hh dX7_passOn_25 ?_
      refine lv_aload_n hx hb dX7_passOn_28 rfl (lv_at hl 0 rfl) ?_
      refine gf_7_46 C hh dX7_passOn_29 ?_
      refine gf_7_222 C hh (by decide) dX7_passOn_32 ?_
      refine lv_aload_n hx hb dX7_passOn_35 rfl (lv_at hl 0 rfl) ?_
      refine gf_7_40 C hh dX7_passOn_36 ?_
      obtain ⟨s14, e13, h⟩ := bv_e h
      refine c_void hh (vrun (rest := []) C hh (c_X5_postBytes C.2.2.2.1 (s10 206 0 0) 61 (by decide) s10 e13) LM_7_160 IM_X5_postBytes SL_X5_postBytes IN_5 CD_X5_postBytes HD_X5_postBytes ⟨rfl, rfl, Nat.le_of_ble_eq_true rfl, Nat.le_of_ble_eq_true rfl⟩ (rv_5 C hh) rfl hl.1 rfl (Nat.le_of_ble_eq_true rfl) dX7_passOn_39 ⟨Nat.zero_le _, Nat.zero_le _⟩) (fun H locs hh => ?_)
      exact r_void C hh h dX7_passOn_42
abbrev rm_X1_hearAck : Room := { frames := 2, cells := 0, slots := 0, locals := 46 }
theorem HD_X1_hearAck : yX1_hearAck.cls = RX1 ∧ yX1_hearAck.cls ≠ "java/lang/invoke/MethodHandle" ∧ yX1_hearAck.cls ≠ "java/lang/invoke/VarHandle" ∧ (parseMethodDescriptor yX1_hearAck.desc).map (fun d => d.parameters.length) = some 4 := by decide +kernel
def f_X1_hearAck_90 (j0 : Nat) (j1 : Nat) (x5 : Int32) (σ : Mem) : Option (Int32 × Mem) := vl (up σ 101 j0 0 (3 : Int32)) (fun s1 => vl (up s1 103 j0 0 (s1 204 j1 0)) (fun s3 => vl (up s3 104 j0 0 ((s3 109 j0 0) + x5)) (fun s5 => vl (up s5 105 j0 0 ((s5 109 j0 0) + (x5 / (2 : Int32)))) (fun s7 => vl (up s7 106 j0 0 (((s7 109 j0 0) + x5) - (x5 / (8 : Int32)))) (fun s9 => some ((-1 : Int32), s9))))))
set_option maxHeartbeats 4000000 in
set_option maxRecDepth 100000 in
theorem k_X1_hearAck_90 {p : Program} {l : Launch} {e : Env} {s : State} {m : MethodId} {args : Array Value} {below : List Frame} {meth : Method} {c : Code} {D : va_G} {cA : Nat → ClassId} {ad : Nat → Nat → Nat} {A : Nat → Prop} {o : Nat → Int64} (C : Cx p s m args meth c cX1_hearAck 6 RX1 (some .int) D cA ad A o) {r : Int32 × Mem} (j0 : Nat) (hj0 : j0 < 12) (j1 : Nat) (hj1 : j1 < 2) (x5 : Int32) (σ : Mem) {H : Heap} {locs : List Loc} (h : f_X1_hearAck_90 j0 j1 x5 σ = some r) (hh : HH D cA ad A o s σ H locs) {ls : Array Slot} (hl : lv_has ls 6 [(0, .ref (ad 199 j0)), (1, .ref (ad 299 j1)), (5, .int x5)]) : W p l e rm_X1_hearAck s m args below meth c H locs 0 0 (MQ below (Qi D cA ad o A r) args s 0 0 A) (F0 m 90 ls []) := by
  obtain ⟨⟨hx, hb, hml, hown, hts⟩, hK, hN, hD, hr, hlocks⟩ := id C
  unfold f_X1_hearAck_90 at h
  refine lv_aload_n hx hb dX1_hearAck_90 rfl (lv_at hl 0 rfl) ?_
  refine lv_iconst (v := (3 : Int32)) hx hb dX1_hearAck_91 (by decide) ?_
  obtain ⟨s1, e2, h⟩ := vl_e h
  refine pf_1_9 C hh hj0 dX1_hearAck_92 (fun H locs hh => ?_)
  rw [← e2] at hh
  refine lv_aload_n hx hb dX1_hearAck_95 rfl (lv_at hl 0 rfl) ?_
  refine lv_aload_n hx hb dX1_hearAck_96 rfl (lv_at hl 1 rfl) ?_
  refine gf_1_101 C hh hj1 dX1_hearAck_97 ?_
  obtain ⟨s3, e4, h⟩ := vl_e h
  refine pf_1_18 C hh hj0 dX1_hearAck_100 (fun H locs hh => ?_)
  rw [← e4] at hh
  refine lv_aload_n hx hb dX1_hearAck_103 rfl (lv_at hl 0 rfl) ?_
  refine lv_aload_n hx hb dX1_hearAck_104 rfl (lv_at hl 0 rfl) ?_
  refine gf_1_36 C hh hj0 dX1_hearAck_105 ?_
  refine lv_iload hx hb dX1_hearAck_108 (lv_at hl 2 rfl) ?_
  refine lv_iadd hx hb dX1_hearAck_110 ?_
  obtain ⟨s5, e6, h⟩ := vl_e h
  refine pf_1_21 C hh hj0 dX1_hearAck_111 (fun H locs hh => ?_)
  rw [← e6] at hh
  refine lv_aload_n hx hb dX1_hearAck_114 rfl (lv_at hl 0 rfl) ?_
  refine lv_aload_n hx hb dX1_hearAck_115 rfl (lv_at hl 0 rfl) ?_
  refine gf_1_36 C hh hj0 dX1_hearAck_116 ?_
  refine lv_iload hx hb dX1_hearAck_119 (lv_at hl 2 rfl) ?_
  refine lv_iconst (v := (2 : Int32)) hx hb dX1_hearAck_121 (by decide) ?_
  refine lv_idiv hx hb dX1_hearAck_122 (by decide) ?_
  refine lv_iadd hx hb dX1_hearAck_123 ?_
  obtain ⟨s7, e8, h⟩ := vl_e h
  refine pf_1_24 C hh hj0 dX1_hearAck_124 (fun H locs hh => ?_)
  rw [← e8] at hh
  refine lv_aload_n hx hb dX1_hearAck_127 rfl (lv_at hl 0 rfl) ?_
  refine lv_aload_n hx hb dX1_hearAck_128 rfl (lv_at hl 0 rfl) ?_
  refine gf_1_36 C hh hj0 dX1_hearAck_129 ?_
  refine lv_iload hx hb dX1_hearAck_132 (lv_at hl 2 rfl) ?_
  refine lv_iadd hx hb dX1_hearAck_134 ?_
  refine lv_iload hx hb dX1_hearAck_135 (lv_at hl 2 rfl) ?_
  refine lv_bipush (v := (8 : Int32)) hx hb dX1_hearAck_137 (by decide) ?_
  refine lv_idiv hx hb dX1_hearAck_139 (by decide) ?_
  refine lv_isub hx hb dX1_hearAck_140 ?_
  obtain ⟨s9, e10, h⟩ := vl_e h
  refine pf_1_27 C hh hj0 dX1_hearAck_141 (fun H locs hh => ?_)
  rw [← e10] at hh
  refine lv_iconst (v := (-1 : Int32)) hx hb dX1_hearAck_144 (by decide) ?_
  exact r_int C hh h dX1_hearAck_145
def f_X1_hearAck_58 (j0 : Nat) (j1 : Nat) (x3 : Int32) (j4 : Nat) (σ : Mem) : Option (Int32 × Mem) := bv (f_X1_prepare j0 (4 : Int32) x3 j4 σ) (fun s2 => vl (up s2 208 j4 0 (s2 204 j1 0)) (fun s3 => bv (f_X1_forget j0 s3) (fun s6 => vl (up s6 101 j0 0 (7 : Int32)) (fun s7 => bn (f_X1_broadcastPlace j0 s7) (fun r11 s10 => some (r11, s10))))))
set_option maxHeartbeats 4000000 in
set_option maxRecDepth 100000 in
theorem k_X1_hearAck_58 {p : Program} {l : Launch} {e : Env} {s : State} {m : MethodId} {args : Array Value} {below : List Frame} {meth : Method} {c : Code} {D : va_G} {cA : Nat → ClassId} {ad : Nat → Nat → Nat} {A : Nat → Prop} {o : Nat → Int64} (C : Cx p s m args meth c cX1_hearAck 6 RX1 (some .int) D cA ad A o) {r : Int32 × Mem} (j0 : Nat) (hj0 : j0 < 12) (j1 : Nat) (hj1 : j1 < 2) (x3 : Int32) (j4 : Nat) (hj4 : j4 < 2) (σ : Mem) {H : Heap} {locs : List Loc} (h : f_X1_hearAck_58 j0 j1 x3 j4 σ = some r) (hh : HH D cA ad A o s σ H locs) {ls : Array Slot} (hl : lv_has ls 6 [(0, .ref (ad 199 j0)), (1, .ref (ad 299 j1)), (3, .int x3), (4, .ref (ad 299 j4))]) : W p l e rm_X1_hearAck s m args below meth c H locs 0 0 (MQ below (Qi D cA ad o A r) args s 0 0 A) (F0 m 58 ls []) := by
  obtain ⟨⟨hx, hb, hml, hown, hts⟩, hK, hN, hD, hr, hlocks⟩ := id C
  unfold f_X1_hearAck_58 at h
  refine lv_aload_n hx hb dX1_hearAck_58 rfl (lv_at hl 0 rfl) ?_
  refine lv_iconst (v := (4 : Int32)) hx hb dX1_hearAck_59 (by decide) ?_
  refine lv_iload_n hx hb dX1_hearAck_60 rfl (lv_at hl 2 rfl) ?_
  refine lv_aload hx hb dX1_hearAck_61 (lv_at hl 3 rfl) ?_
  obtain ⟨s2, e1, h⟩ := bv_e h
  refine c_void hh (vrun (rest := []) C hh (c_X1_prepare C.2.2.2.1 j0 hj0 (4 : Int32) x3 j4 hj4 σ e1) LM_1_59 IM_X1_prepare SL_X1_prepare IN_1 CD_X1_prepare HD_X1_prepare ⟨rfl, rfl, Nat.le_of_ble_eq_true rfl, Nat.le_of_ble_eq_true rfl⟩ (rv_1 C hh hj0) rfl hl.1 rfl (Nat.le_of_ble_eq_true rfl) dX1_hearAck_63 ⟨Nat.zero_le _, Nat.zero_le _⟩) (fun H locs hh => ?_)
  refine lv_aload hx hb dX1_hearAck_66 (lv_at hl 3 rfl) ?_
  refine lv_aload_n hx hb dX1_hearAck_68 rfl (lv_at hl 1 rfl) ?_
  refine gf_1_101 C hh hj1 dX1_hearAck_69 ?_
  obtain ⟨s3, e4, h⟩ := vl_e h
  refine pf_1_116 C hh hj4 dX1_hearAck_72 (fun H locs hh => ?_)
  rw [← e4] at hh
  refine lv_aload_n hx hb dX1_hearAck_75 rfl (lv_at hl 0 rfl) ?_
  obtain ⟨s6, e5, h⟩ := bv_e h
  refine c_void hh (vrun (rest := []) C hh (c_X1_forget C.2.2.2.1 j0 hj0 s3 e5) LM_1_68 IM_X1_forget SL_X1_forget IN_1 CD_X1_forget HD_X1_forget ⟨rfl, rfl, Nat.le_of_ble_eq_true rfl, Nat.le_of_ble_eq_true rfl⟩ (rv_1 C hh hj0) rfl hl.1 rfl (Nat.le_of_ble_eq_true rfl) dX1_hearAck_76 ⟨Nat.zero_le _, Nat.zero_le _⟩) (fun H locs hh => ?_)
  refine lv_aload_n hx hb dX1_hearAck_79 rfl (lv_at hl 0 rfl) ?_
  refine lv_bipush (v := (7 : Int32)) hx hb dX1_hearAck_80 (by decide) ?_
  obtain ⟨s7, e8, h⟩ := vl_e h
  refine pf_1_9 C hh hj0 dX1_hearAck_82 (fun H locs hh => ?_)
  rw [← e8] at hh
  refine lv_aload_n hx hb dX1_hearAck_85 rfl (lv_at hl 0 rfl) ?_
  obtain ⟨r11, s10, e9, h⟩ := bn_e h
  refine c_int hh (vrun (rest := []) C hh (c_X1_broadcastPlace C.2.2.2.1 j0 hj0 s7 e9) LM_1_119 IM_X1_broadcastPlace SL_X1_broadcastPlace IN_1 CD_X1_broadcastPlace HD_X1_broadcastPlace ⟨rfl, rfl, Nat.le_of_ble_eq_true rfl, Nat.le_of_ble_eq_true rfl⟩ (rv_1 C hh hj0) rfl hl.1 rfl (Nat.le_of_ble_eq_true rfl) dX1_hearAck_86 ⟨Nat.zero_le _, Nat.zero_le _⟩) (fun H locs hh => ?_)
  exact r_int C hh h dX1_hearAck_89
def f_X1_hearAck (j0 : Nat) (j1 : Nat) (x2 : Int32) (x3 : Int32) (j4 : Nat) (σ : Mem) : Option (Int32 × Mem) := vl ((if (10000 : Int32) < (σ 209 j1 0) then (10000 : Int32) else (σ 209 j1 0))) (fun v1 => (if (σ 204 j1 0) = (0 : Int32) then some ((-1 : Int32), σ) else (if v1 ≤ (0 : Int32) then some ((-1 : Int32), σ) else (if x3 < ((σ 109 j0 0) + v1) then (if x2 = (0 : Int32) then f_X1_hearAck_90 j0 j1 v1 σ else (if (σ 101 j0 0) = (2 : Int32) then f_X1_hearAck_58 j0 j1 x3 j4 σ else (if (σ 101 j0 0) = (6 : Int32) then f_X1_hearAck_58 j0 j1 x3 j4 σ else f_X1_hearAck_90 j0 j1 v1 σ))) else some ((-1 : Int32), σ)))))
set_option maxHeartbeats 4000000 in
set_option maxRecDepth 100000 in
theorem c_X1_hearAck {l : Launch} {D : va_G} {cA : Nat → ClassId} {ad : Nat → Nat → Nat} {A : Nat → Prop} {o : Nat → Int64} (hD0 : ∀ σ, va_D A (wW cA ad σ o)) (j0 : Nat) (hj0 : j0 < 12) (j1 : Nat) (hj1 : j1 < 2) (x2 : Int32) (x3 : Int32) (j4 : Nat) (hj4 : j4 < 2) (σ : Mem) {r : Int32 × Mem} (h : f_X1_hearAck j0 j1 x2 x3 j4 σ = some r) : Met l yX1_hearAck (wsG yX1_hearAck cX1_hearAck 6 (some .int)) rm_X1_hearAck (va_Pc [.ref (ad 199 j0), .ref (ad 299 j1), .int x2, .int x3, .ref (ad 299 j4)] (IW D cA ad o σ)) (Qi D cA ad o A r) 0 0 A := by
  refine metG (by decide) (Nat.le_of_ble_eq_true rfl) hD0 ?_
  intro p e s m args below meth c C ls hh hl
  have C : Cx p s m args meth c cX1_hearAck 6 RX1 (some .int) D cA ad A o := C
  have hl : lv_has ls 6 [(0, .ref (ad 199 j0)), (1, .ref (ad 299 j1)), (2, .int x2), (3, .int x3), (4, .ref (ad 299 j4))] := hl
  obtain ⟨⟨hx, hb, hml, hown, hts⟩, hK, hN, hD, hr, hlocks⟩ := id C
  unfold f_X1_hearAck at h
  refine lv_aload_n hx hb dX1_hearAck_0 rfl (lv_at hl 1 rfl) ?_
  refine gf_1_107 C hh hj1 dX1_hearAck_1 ?_
  refine lv_sipush (v := (10000 : Int32)) hx hb dX1_hearAck_4 (by decide) ?_
  refine va_mmin hx hb (hml.trans hl.1.symm) hown (hts _ LX_1_110) (hts _ MX_static_min) (hts _ MX_init) (hts _ MX_code_min) (Nat.le_of_ble_eq_true rfl) (Nat.le_of_ble_eq_true rfl) (Nat.zero_le _) (Nat.zero_le _) dX1_hearAck_7 ?_
  obtain ⟨v1, e2, h⟩ := vl_e h
  refine lv_nm e2 ?_
  refine lv_istore (lv' := [(5, .int v1), (0, .ref (ad 199 j0)), (1, .ref (ad 299 j1)), (2, .int x2), (3, .int x3), (4, .ref (ad 299 j4))]) hx hb dX1_hearAck_10 hl (by decide) rfl (fun ls hl => ?_)
  refine lv_aload_n hx hb dX1_hearAck_12 rfl (lv_at hl 2 rfl) ?_
  refine gf_1_101 C hh hj1 dX1_hearAck_13 ?_
  refine lv_if_eq (tgt := 35) hx hb dX1_hearAck_16 (by decide) (fun c3 => ?_) (fun c3 => ?_)
  · rw [if_pos c3] at h
    refine lv_iconst (v := (-1 : Int32)) hx hb dX1_hearAck_35 (by decide) ?_
    exact r_int C hh h dX1_hearAck_36
  · rw [if_neg c3] at h
    refine lv_iload hx hb dX1_hearAck_19 (lv_at hl 0 rfl) ?_
    refine lv_if_le (tgt := 35) hx hb dX1_hearAck_21 (by decide) (fun c4 => ?_) (fun c4 => ?_)
    · rw [if_pos c4] at h
      refine lv_iconst (v := (-1 : Int32)) hx hb dX1_hearAck_35 (by decide) ?_
      exact r_int C hh h dX1_hearAck_36
    · rw [if_neg c4] at h
      refine lv_aload_n hx hb dX1_hearAck_24 rfl (lv_at hl 1 rfl) ?_
      refine gf_1_36 C hh hj0 dX1_hearAck_25 ?_
      refine lv_iload hx hb dX1_hearAck_28 (lv_at hl 0 rfl) ?_
      refine lv_iadd hx hb dX1_hearAck_30 ?_
      refine lv_iload_n hx hb dX1_hearAck_31 rfl (lv_at hl 4 rfl) ?_
      refine lv_icmp_gt (tgt := 37) hx hb dX1_hearAck_32 (by decide) (fun c5 => ?_) (fun c5 => ?_)
      · rw [if_pos c5] at h
        refine lv_iload_n hx hb dX1_hearAck_37 rfl (lv_at hl 3 rfl) ?_
        refine lv_if_eq (tgt := 90) hx hb dX1_hearAck_38 (by decide) (fun c6 => ?_) (fun c6 => ?_)
        · rw [if_pos c6] at h
          exact k_X1_hearAck_90 C j0 hj0 j1 hj1 v1 σ h hh (lv_sub hl [1, 2, 0] rfl)
        · rw [if_neg c6] at h
          refine lv_aload_n hx hb dX1_hearAck_41 rfl (lv_at hl 1 rfl) ?_
          refine gf_1_9 C hh hj0 dX1_hearAck_42 ?_
          refine lv_iconst (v := (2 : Int32)) hx hb dX1_hearAck_45 (by decide) ?_
          refine lv_icmp_eq (tgt := 58) hx hb dX1_hearAck_46 (by decide) (fun c7 => ?_) (fun c7 => ?_)
          · rw [if_pos c7] at h
            exact k_X1_hearAck_58 C j0 hj0 j1 hj1 x3 j4 hj4 σ h hh (lv_sub hl [1, 2, 4, 5] rfl)
          · rw [if_neg c7] at h
            refine lv_aload_n hx hb dX1_hearAck_49 rfl (lv_at hl 1 rfl) ?_
            refine gf_1_9 C hh hj0 dX1_hearAck_50 ?_
            refine lv_bipush (v := (6 : Int32)) hx hb dX1_hearAck_53 (by decide) ?_
            refine lv_icmp_ne (tgt := 90) hx hb dX1_hearAck_55 (by decide) (fun c8 => ?_) (fun c8 => ?_)
            · rw [if_neg c8] at h
              exact k_X1_hearAck_90 C j0 hj0 j1 hj1 v1 σ h hh (lv_sub hl [1, 2, 0] rfl)
            · rw [if_pos c8] at h
              exact k_X1_hearAck_58 C j0 hj0 j1 hj1 x3 j4 hj4 σ h hh (lv_sub hl [1, 2, 4, 5] rfl)
      · rw [if_neg c5] at h
        refine lv_iconst (v := (-1 : Int32)) hx hb dX1_hearAck_35 (by decide) ?_
        exact r_int C hh h dX1_hearAck_36
abbrev rm_X1_hearOffer : Room := { frames := 3, cells := 0, slots := 0, locals := 68 }
theorem HD_X1_hearOffer : yX1_hearOffer.cls = RX1 ∧ yX1_hearOffer.cls ≠ "java/lang/invoke/MethodHandle" ∧ yX1_hearOffer.cls ≠ "java/lang/invoke/VarHandle" ∧ (parseMethodDescriptor yX1_hearOffer.desc).map (fun d => d.parameters.length) = some 3 := by decide +kernel
def f_X1_hearOffer (j0 : Nat) (j1 : Nat) (x2 : Int32) (j3 : Nat) (σ : Mem) : Option (Int32 × Mem) := (if (σ 204 j1 0) = (0 : Int32) then some ((-1 : Int32), σ) else (if (σ 210 j1 0) = (0 : Int32) then some ((-1 : Int32), σ) else vl (up σ 110 j0 0 (σ 204 j1 0)) (fun s3 => vl (up s3 111 j0 0 (s3 210 j1 0)) (fun s5 => vl (up s5 101 j0 0 (2 : Int32)) (fun s7 => vl (up s7 108 j0 0 (1 : Int32)) (fun s9 => bn (f_X1_say j0 x2 j3 s9) (fun r13 s12 => some (r13, s12))))))))
set_option maxHeartbeats 4000000 in
set_option maxRecDepth 100000 in
theorem c_X1_hearOffer {l : Launch} {D : va_G} {cA : Nat → ClassId} {ad : Nat → Nat → Nat} {A : Nat → Prop} {o : Nat → Int64} (hD0 : ∀ σ, va_D A (wW cA ad σ o)) (j0 : Nat) (hj0 : j0 < 12) (j1 : Nat) (hj1 : j1 < 2) (x2 : Int32) (j3 : Nat) (hj3 : j3 < 2) (σ : Mem) {r : Int32 × Mem} (h : f_X1_hearOffer j0 j1 x2 j3 σ = some r) : Met l yX1_hearOffer (wsG yX1_hearOffer cX1_hearOffer 4 (some .int)) rm_X1_hearOffer (va_Pc [.ref (ad 199 j0), .ref (ad 299 j1), .int x2, .ref (ad 299 j3)] (IW D cA ad o σ)) (Qi D cA ad o A r) 0 0 A := by
  refine metG (by decide) (Nat.le_of_ble_eq_true rfl) hD0 ?_
  intro p e s m args below meth c C ls hh hl
  have C : Cx p s m args meth c cX1_hearOffer 4 RX1 (some .int) D cA ad A o := C
  have hl : lv_has ls 4 [(0, .ref (ad 199 j0)), (1, .ref (ad 299 j1)), (2, .int x2), (3, .ref (ad 299 j3))] := hl
  obtain ⟨⟨hx, hb, hml, hown, hts⟩, hK, hN, hD, hr, hlocks⟩ := id C
  unfold f_X1_hearOffer at h
  refine lv_aload_n hx hb dX1_hearOffer_0 rfl (lv_at hl 1 rfl) ?_
  refine gf_1_101 C hh hj1 dX1_hearOffer_1 ?_
  refine lv_if_eq (tgt := 14) hx hb dX1_hearOffer_4 (by decide) (fun c1 => ?_) (fun c1 => ?_)
  · rw [if_pos c1] at h
    refine lv_iconst (v := (-1 : Int32)) hx hb dX1_hearOffer_14 (by decide) ?_
    exact r_int C hh h dX1_hearOffer_15
  · rw [if_neg c1] at h
    refine lv_aload_n hx hb dX1_hearOffer_7 rfl (lv_at hl 1 rfl) ?_
    refine gf_1_104 C hh hj1 dX1_hearOffer_8 ?_
    refine lv_if_ne (tgt := 16) hx hb dX1_hearOffer_11 (by decide) (fun c2 => ?_) (fun c2 => ?_)
    · rw [if_neg c2] at h
      refine lv_aload_n hx hb dX1_hearOffer_16 rfl (lv_at hl 0 rfl) ?_
      refine lv_aload_n hx hb dX1_hearOffer_17 rfl (lv_at hl 1 rfl) ?_
      refine gf_1_101 C hh hj1 dX1_hearOffer_18 ?_
      obtain ⟨s3, e4, h⟩ := vl_e h
      refine pf_1_39 C hh hj0 dX1_hearOffer_21 (fun H locs hh => ?_)
      rw [← e4] at hh
      refine lv_aload_n hx hb dX1_hearOffer_24 rfl (lv_at hl 0 rfl) ?_
      refine lv_aload_n hx hb dX1_hearOffer_25 rfl (lv_at hl 1 rfl) ?_
      refine gf_1_104 C hh hj1 dX1_hearOffer_26 ?_
      obtain ⟨s5, e6, h⟩ := vl_e h
      refine pf_1_42 C hh hj0 dX1_hearOffer_29 (fun H locs hh => ?_)
      rw [← e6] at hh
      refine lv_aload_n hx hb dX1_hearOffer_32 rfl (lv_at hl 0 rfl) ?_
      refine lv_iconst (v := (2 : Int32)) hx hb dX1_hearOffer_33 (by decide) ?_
      obtain ⟨s7, e8, h⟩ := vl_e h
      refine pf_1_9 C hh hj0 dX1_hearOffer_34 (fun H locs hh => ?_)
      rw [← e8] at hh
      refine lv_aload_n hx hb dX1_hearOffer_37 rfl (lv_at hl 0 rfl) ?_
      refine lv_iconst (v := (1 : Int32)) hx hb dX1_hearOffer_38 (by decide) ?_
      obtain ⟨s9, e10, h⟩ := vl_e h
      refine pf_1_33 C hh hj0 dX1_hearOffer_39 (fun H locs hh => ?_)
      rw [← e10] at hh
      refine lv_aload_n hx hb dX1_hearOffer_42 rfl (lv_at hl 0 rfl) ?_
      refine lv_iload_n hx hb dX1_hearOffer_43 rfl (lv_at hl 2 rfl) ?_
      refine lv_aload_n hx hb dX1_hearOffer_44 rfl (lv_at hl 3 rfl) ?_
      obtain ⟨r13, s12, e11, h⟩ := bn_e h
      refine c_int hh (vrun (rest := []) C hh (c_X1_say C.2.2.2.1 j0 hj0 x2 j3 hj3 s9 e11) LM_1_52 IM_X1_say SL_X1_say IN_1 CD_X1_say HD_X1_say ⟨rfl, rfl, Nat.le_of_ble_eq_true rfl, Nat.le_of_ble_eq_true rfl⟩ (rv_1 C hh hj0) rfl hl.1 rfl (Nat.le_of_ble_eq_true rfl) dX1_hearOffer_45 ⟨Nat.zero_le _, Nat.zero_le _⟩) (fun H locs hh => ?_)
      exact r_int C hh h dX1_hearOffer_48
    · rw [if_pos c2] at h
      refine lv_iconst (v := (-1 : Int32)) hx hb dX1_hearOffer_14 (by decide) ?_
      exact r_int C hh h dX1_hearOffer_15
abbrev rm_X1_hear : Room := { frames := 4, cells := 0, slots := 0, locals := 91 }
theorem HD_X1_hear : yX1_hear.cls = RX1 ∧ yX1_hear.cls ≠ "java/lang/invoke/MethodHandle" ∧ yX1_hear.cls ≠ "java/lang/invoke/VarHandle" ∧ (parseMethodDescriptor yX1_hear.desc).map (fun d => d.parameters.length) = some 4 := by decide +kernel
def f_X1_hear_120 (j0 : Nat) (j1 : Nat) (x3 : Int32) (j4 : Nat) (x5 : Int32) (σ : Mem) : Option (Int32 × Mem) := (if (σ 207 j1 0) = (6 : Int32) then (if x5 = (0 : Int32) then some ((-1 : Int32), σ) else bn (f_X1_begin j0 x3 j4 σ) (fun r5 s4 => some (r5, s4))) else some ((-1 : Int32), σ))
set_option maxHeartbeats 4000000 in
set_option maxRecDepth 100000 in
theorem k_X1_hear_120 {p : Program} {l : Launch} {e : Env} {s : State} {m : MethodId} {args : Array Value} {below : List Frame} {meth : Method} {c : Code} {D : va_G} {cA : Nat → ClassId} {ad : Nat → Nat → Nat} {A : Nat → Prop} {o : Nat → Int64} (C : Cx p s m args meth c cX1_hear 6 RX1 (some .int) D cA ad A o) {r : Int32 × Mem} (j0 : Nat) (hj0 : j0 < 12) (j1 : Nat) (hj1 : j1 < 2) (x3 : Int32) (j4 : Nat) (hj4 : j4 < 2) (x5 : Int32) (σ : Mem) {H : Heap} {locs : List Loc} (h : f_X1_hear_120 j0 j1 x3 j4 x5 σ = some r) (hh : HH D cA ad A o s σ H locs) {ls : Array Slot} (hl : lv_has ls 6 [(0, .ref (ad 199 j0)), (1, .ref (ad 299 j1)), (3, .int x3), (4, .ref (ad 299 j4)), (5, .int x5)]) : W p l e rm_X1_hear s m args below meth c H locs 0 0 (MQ below (Qi D cA ad o A r) args s 0 0 A) (F0 m 120 ls []) := by
  obtain ⟨⟨hx, hb, hml, hown, hts⟩, hK, hN, hD, hr, hlocks⟩ := id C
  unfold f_X1_hear_120 at h
  refine lv_aload_n hx hb dX1_hear_120 rfl (lv_at hl 1 rfl) ?_
  refine gf_1_90 C hh hj1 dX1_hear_121 ?_
  refine lv_bipush (v := (6 : Int32)) hx hb dX1_hear_124 (by decide) ?_
  refine lv_icmp_ne (tgt := 142) hx hb dX1_hear_126 (by decide) (fun c1 => ?_) (fun c1 => ?_)
  · rw [if_neg c1] at h
    refine lv_iconst (v := (-1 : Int32)) hx hb dX1_hear_142 (by decide) ?_
    exact r_int C hh h dX1_hear_143
  · rw [if_pos c1] at h
    refine lv_iload hx hb dX1_hear_129 (lv_at hl 4 rfl) ?_
    refine lv_if_eq (tgt := 142) hx hb dX1_hear_131 (by decide) (fun c2 => ?_) (fun c2 => ?_)
    · rw [if_pos c2] at h
      refine lv_iconst (v := (-1 : Int32)) hx hb dX1_hear_142 (by decide) ?_
      exact r_int C hh h dX1_hear_143
    · rw [if_neg c2] at h
      refine lv_aload_n hx hb dX1_hear_134 rfl (lv_at hl 0 rfl) ?_
      refine lv_iload_n hx hb dX1_hear_135 rfl (lv_at hl 2 rfl) ?_
      refine lv_aload hx hb dX1_hear_136 (lv_at hl 3 rfl) ?_
      obtain ⟨r5, s4, e3, h⟩ := bn_e h
      refine c_int hh (vrun (rest := []) C hh (c_X1_begin C.2.2.2.1 j0 hj0 x3 j4 hj4 σ e3) LM_1_48 IM_X1_begin SL_X1_begin IN_1 CD_X1_begin HD_X1_begin ⟨rfl, rfl, Nat.le_of_ble_eq_true rfl, Nat.le_of_ble_eq_true rfl⟩ (rv_1 C hh hj0) rfl hl.1 rfl (Nat.le_of_ble_eq_true rfl) dX1_hear_138 ⟨Nat.zero_le _, Nat.zero_le _⟩) (fun H locs hh => ?_)
      exact r_int C hh h dX1_hear_141
def f_X1_hear_97 (j0 : Nat) (j1 : Nat) (x2 : Int32) (x3 : Int32) (j4 : Nat) (x5 : Int32) (σ : Mem) : Option (Int32 × Mem) := (if (σ 207 j1 0) = (5 : Int32) then (if x5 = (0 : Int32) then f_X1_hear_120 j0 j1 x3 j4 x5 σ else bn (f_X1_hearAck j0 j1 x2 x3 j4 σ) (fun r5 s4 => some (r5, s4))) else f_X1_hear_120 j0 j1 x3 j4 x5 σ)
set_option maxHeartbeats 4000000 in
set_option maxRecDepth 100000 in
theorem k_X1_hear_97 {p : Program} {l : Launch} {e : Env} {s : State} {m : MethodId} {args : Array Value} {below : List Frame} {meth : Method} {c : Code} {D : va_G} {cA : Nat → ClassId} {ad : Nat → Nat → Nat} {A : Nat → Prop} {o : Nat → Int64} (C : Cx p s m args meth c cX1_hear 6 RX1 (some .int) D cA ad A o) {r : Int32 × Mem} (j0 : Nat) (hj0 : j0 < 12) (j1 : Nat) (hj1 : j1 < 2) (x2 : Int32) (x3 : Int32) (j4 : Nat) (hj4 : j4 < 2) (x5 : Int32) (σ : Mem) {H : Heap} {locs : List Loc} (h : f_X1_hear_97 j0 j1 x2 x3 j4 x5 σ = some r) (hh : HH D cA ad A o s σ H locs) {ls : Array Slot} (hl : lv_has ls 6 [(0, .ref (ad 199 j0)), (1, .ref (ad 299 j1)), (2, .int x2), (3, .int x3), (4, .ref (ad 299 j4)), (5, .int x5)]) : W p l e rm_X1_hear s m args below meth c H locs 0 0 (MQ below (Qi D cA ad o A r) args s 0 0 A) (F0 m 97 ls []) := by
  obtain ⟨⟨hx, hb, hml, hown, hts⟩, hK, hN, hD, hr, hlocks⟩ := id C
  unfold f_X1_hear_97 at h
  refine lv_aload_n hx hb dX1_hear_97 rfl (lv_at hl 1 rfl) ?_
  refine gf_1_90 C hh hj1 dX1_hear_98 ?_
  refine lv_iconst (v := (5 : Int32)) hx hb dX1_hear_101 (by decide) ?_
  refine lv_icmp_ne (tgt := 120) hx hb dX1_hear_102 (by decide) (fun c1 => ?_) (fun c1 => ?_)
  · rw [if_neg c1] at h
    exact k_X1_hear_120 C j0 hj0 j1 hj1 x3 j4 hj4 x5 σ h hh (lv_sub hl [0, 1, 3, 4, 5] rfl)
  · rw [if_pos c1] at h
    refine lv_iload hx hb dX1_hear_105 (lv_at hl 5 rfl) ?_
    refine lv_if_eq (tgt := 120) hx hb dX1_hear_107 (by decide) (fun c2 => ?_) (fun c2 => ?_)
    · rw [if_pos c2] at h
      exact k_X1_hear_120 C j0 hj0 j1 hj1 x3 j4 hj4 x5 σ h hh (lv_sub hl [0, 1, 3, 4, 5] rfl)
    · rw [if_neg c2] at h
      refine lv_aload_n hx hb dX1_hear_110 rfl (lv_at hl 0 rfl) ?_
      refine lv_aload_n hx hb dX1_hear_111 rfl (lv_at hl 1 rfl) ?_
      refine lv_iload_n hx hb dX1_hear_112 rfl (lv_at hl 2 rfl) ?_
      refine lv_iload_n hx hb dX1_hear_113 rfl (lv_at hl 3 rfl) ?_
      refine lv_aload hx hb dX1_hear_114 (lv_at hl 4 rfl) ?_
      obtain ⟨r5, s4, e3, h⟩ := bn_e h
      refine c_int hh (vrun (rest := []) C hh (c_X1_hearAck C.2.2.2.1 j0 hj0 j1 hj1 x2 x3 j4 hj4 σ e3) LM_1_97 IM_X1_hearAck SL_X1_hearAck IN_1 CD_X1_hearAck HD_X1_hearAck ⟨rfl, rfl, Nat.le_of_ble_eq_true rfl, Nat.le_of_ble_eq_true rfl⟩ (rv_1 C hh hj0) rfl hl.1 rfl (Nat.le_of_ble_eq_true rfl) dX1_hear_116 ⟨Nat.zero_le _, Nat.zero_le _⟩) (fun H locs hh => ?_)
      exact r_int C hh h dX1_hear_119
def f_X1_hear_70 (j0 : Nat) (j1 : Nat) (x2 : Int32) (x3 : Int32) (j4 : Nat) (xs0 : Int32) (σ : Mem) : Option (Int32 × Mem) := (if (σ 207 j1 0) = (2 : Int32) then (if (σ 101 j0 0) = (1 : Int32) then bn (f_X1_hearOffer j0 j1 x3 j4 σ) (fun r5 s4 => some (r5, s4)) else f_X1_hear_97 j0 j1 x2 x3 j4 xs0 σ) else f_X1_hear_97 j0 j1 x2 x3 j4 xs0 σ)
set_option maxHeartbeats 4000000 in
set_option maxRecDepth 100000 in
theorem k_X1_hear_70 {p : Program} {l : Launch} {e : Env} {s : State} {m : MethodId} {args : Array Value} {below : List Frame} {meth : Method} {c : Code} {D : va_G} {cA : Nat → ClassId} {ad : Nat → Nat → Nat} {A : Nat → Prop} {o : Nat → Int64} (C : Cx p s m args meth c cX1_hear 6 RX1 (some .int) D cA ad A o) {r : Int32 × Mem} (j0 : Nat) (hj0 : j0 < 12) (j1 : Nat) (hj1 : j1 < 2) (x2 : Int32) (x3 : Int32) (j4 : Nat) (hj4 : j4 < 2) (xs0 : Int32) (σ : Mem) {H : Heap} {locs : List Loc} (h : f_X1_hear_70 j0 j1 x2 x3 j4 xs0 σ = some r) (hh : HH D cA ad A o s σ H locs) {ls : Array Slot} (hl : lv_has ls 6 [(0, .ref (ad 199 j0)), (1, .ref (ad 299 j1)), (2, .int x2), (3, .int x3), (4, .ref (ad 299 j4))]) : W p l e rm_X1_hear s m args below meth c H locs 0 0 (MQ below (Qi D cA ad o A r) args s 0 0 A) (F0 m 70 ls [.int xs0]) := by
  obtain ⟨⟨hx, hb, hml, hown, hts⟩, hK, hN, hD, hr, hlocks⟩ := id C
  unfold f_X1_hear_70 at h
  refine lv_istore (lv' := [(5, .int xs0), (0, .ref (ad 199 j0)), (1, .ref (ad 299 j1)), (2, .int x2), (3, .int x3), (4, .ref (ad 299 j4))]) hx hb dX1_hear_70 hl (by decide) rfl (fun ls hl => ?_)
  refine lv_aload_n hx hb dX1_hear_72 rfl (lv_at hl 2 rfl) ?_
  refine gf_1_90 C hh hj1 dX1_hear_73 ?_
  refine lv_iconst (v := (2 : Int32)) hx hb dX1_hear_76 (by decide) ?_
  refine lv_icmp_ne (tgt := 97) hx hb dX1_hear_77 (by decide) (fun c1 => ?_) (fun c1 => ?_)
  · rw [if_neg c1] at h
    exact k_X1_hear_97 C j0 hj0 j1 hj1 x2 x3 j4 hj4 xs0 σ h hh (lv_sub hl [1, 2, 3, 4, 5, 0] rfl)
  · rw [if_pos c1] at h
    refine lv_aload_n hx hb dX1_hear_80 rfl (lv_at hl 1 rfl) ?_
    refine gf_1_9 C hh hj0 dX1_hear_81 ?_
    refine lv_iconst (v := (1 : Int32)) hx hb dX1_hear_84 (by decide) ?_
    refine lv_icmp_ne (tgt := 97) hx hb dX1_hear_85 (by decide) (fun c2 => ?_) (fun c2 => ?_)
    · rw [if_neg c2] at h
      exact k_X1_hear_97 C j0 hj0 j1 hj1 x2 x3 j4 hj4 xs0 σ h hh (lv_sub hl [1, 2, 3, 4, 5, 0] rfl)
    · rw [if_pos c2] at h
      refine lv_aload_n hx hb dX1_hear_88 rfl (lv_at hl 1 rfl) ?_
      refine lv_aload_n hx hb dX1_hear_89 rfl (lv_at hl 2 rfl) ?_
      refine lv_iload_n hx hb dX1_hear_90 rfl (lv_at hl 4 rfl) ?_
      refine lv_aload hx hb dX1_hear_91 (lv_at hl 5 rfl) ?_
      obtain ⟨r5, s4, e3, h⟩ := bn_e h
      refine c_int hh (vrun (rest := []) C hh (c_X1_hearOffer C.2.2.2.1 j0 hj0 j1 hj1 x3 j4 hj4 σ e3) LM_1_93 IM_X1_hearOffer SL_X1_hearOffer IN_1 CD_X1_hearOffer HD_X1_hearOffer ⟨rfl, rfl, Nat.le_of_ble_eq_true rfl, Nat.le_of_ble_eq_true rfl⟩ (rv_1 C hh hj0) rfl hl.1 rfl (Nat.le_of_ble_eq_true rfl) dX1_hear_93 ⟨Nat.zero_le _, Nat.zero_le _⟩) (fun H locs hh => ?_)
      exact r_int C hh h dX1_hear_96
def f_X1_hear_65 (j0 : Nat) (j1 : Nat) (x2 : Int32) (x3 : Int32) (j4 : Nat) (σ : Mem) : Option (Int32 × Mem) := f_X1_hear_70 j0 j1 x2 x3 j4 (1 : Int32) σ
set_option maxHeartbeats 4000000 in
set_option maxRecDepth 100000 in
theorem k_X1_hear_65 {p : Program} {l : Launch} {e : Env} {s : State} {m : MethodId} {args : Array Value} {below : List Frame} {meth : Method} {c : Code} {D : va_G} {cA : Nat → ClassId} {ad : Nat → Nat → Nat} {A : Nat → Prop} {o : Nat → Int64} (C : Cx p s m args meth c cX1_hear 6 RX1 (some .int) D cA ad A o) {r : Int32 × Mem} (j0 : Nat) (hj0 : j0 < 12) (j1 : Nat) (hj1 : j1 < 2) (x2 : Int32) (x3 : Int32) (j4 : Nat) (hj4 : j4 < 2) (σ : Mem) {H : Heap} {locs : List Loc} (h : f_X1_hear_65 j0 j1 x2 x3 j4 σ = some r) (hh : HH D cA ad A o s σ H locs) {ls : Array Slot} (hl : lv_has ls 6 [(0, .ref (ad 199 j0)), (1, .ref (ad 299 j1)), (2, .int x2), (3, .int x3), (4, .ref (ad 299 j4))]) : W p l e rm_X1_hear s m args below meth c H locs 0 0 (MQ below (Qi D cA ad o A r) args s 0 0 A) (F0 m 65 ls []) := by
  obtain ⟨⟨hx, hb, hml, hown, hts⟩, hK, hN, hD, hr, hlocks⟩ := id C
  unfold f_X1_hear_65 at h
  refine lv_iconst (v := (1 : Int32)) hx hb dX1_hear_65 (by decide) ?_
  refine lv_goto (tgt := 70) hx hb dX1_hear_66 (by decide) ?_
  exact k_X1_hear_70 C j0 hj0 j1 hj1 x2 x3 j4 hj4 (1 : Int32) σ h hh (lv_sub hl [0, 1, 2, 3, 4] rfl)
def f_X1_hear (j0 : Nat) (j1 : Nat) (x2 : Int32) (x3 : Int32) (j4 : Nat) (σ : Mem) : Option (Int32 × Mem) := (if (σ 200 j1 0) = (2 : Int32) then (if (σ 206 j1 0) = (σ 100 j0 0) then (if (σ 202 j1 0) = (σ 107 j0 0) then (if (σ 101 j0 0) = (2 : Int32) then f_X1_hear_65 j0 j1 x2 x3 j4 σ else (if (σ 101 j0 0) = (4 : Int32) then f_X1_hear_65 j0 j1 x2 x3 j4 σ else (if (σ 101 j0 0) = (5 : Int32) then f_X1_hear_65 j0 j1 x2 x3 j4 σ else (if (σ 101 j0 0) = (6 : Int32) then f_X1_hear_65 j0 j1 x2 x3 j4 σ else f_X1_hear_70 j0 j1 x2 x3 j4 (0 : Int32) σ)))) else some ((-1 : Int32), σ)) else some ((-1 : Int32), σ)) else some ((-1 : Int32), σ))
set_option maxHeartbeats 4000000 in
set_option maxRecDepth 100000 in
theorem c_X1_hear {l : Launch} {D : va_G} {cA : Nat → ClassId} {ad : Nat → Nat → Nat} {A : Nat → Prop} {o : Nat → Int64} (hD0 : ∀ σ, va_D A (wW cA ad σ o)) (j0 : Nat) (hj0 : j0 < 12) (j1 : Nat) (hj1 : j1 < 2) (x2 : Int32) (x3 : Int32) (j4 : Nat) (hj4 : j4 < 2) (σ : Mem) {r : Int32 × Mem} (h : f_X1_hear j0 j1 x2 x3 j4 σ = some r) : Met l yX1_hear (wsG yX1_hear cX1_hear 6 (some .int)) rm_X1_hear (va_Pc [.ref (ad 199 j0), .ref (ad 299 j1), .int x2, .int x3, .ref (ad 299 j4)] (IW D cA ad o σ)) (Qi D cA ad o A r) 0 0 A := by
  refine metG (by decide) (Nat.le_of_ble_eq_true rfl) hD0 ?_
  intro p e s m args below meth c C ls hh hl
  have C : Cx p s m args meth c cX1_hear 6 RX1 (some .int) D cA ad A o := C
  have hl : lv_has ls 6 [(0, .ref (ad 199 j0)), (1, .ref (ad 299 j1)), (2, .int x2), (3, .int x3), (4, .ref (ad 299 j4))] := hl
  obtain ⟨⟨hx, hb, hml, hown, hts⟩, hK, hN, hD, hr, hlocks⟩ := id C
  unfold f_X1_hear at h
  refine lv_aload_n hx hb dX1_hear_0 rfl (lv_at hl 1 rfl) ?_
  refine gf_1_81 C hh hj1 dX1_hear_1 ?_
  refine lv_iconst (v := (2 : Int32)) hx hb dX1_hear_4 (by decide) ?_
  refine lv_icmp_ne (tgt := 30) hx hb dX1_hear_5 (by decide) (fun c1 => ?_) (fun c1 => ?_)
  · rw [if_neg c1] at h
    refine lv_iconst (v := (-1 : Int32)) hx hb dX1_hear_30 (by decide) ?_
    exact r_int C hh h dX1_hear_31
  · rw [if_pos c1] at h
    refine lv_aload_n hx hb dX1_hear_8 rfl (lv_at hl 1 rfl) ?_
    refine gf_1_84 C hh hj1 dX1_hear_9 ?_
    refine lv_aload_n hx hb dX1_hear_12 rfl (lv_at hl 0 rfl) ?_
    refine gf_1_45 C hh hj0 dX1_hear_13 ?_
    refine lv_icmp_ne (tgt := 30) hx hb dX1_hear_16 (by decide) (fun c2 => ?_) (fun c2 => ?_)
    · rw [if_neg c2] at h
      refine lv_iconst (v := (-1 : Int32)) hx hb dX1_hear_30 (by decide) ?_
      exact r_int C hh h dX1_hear_31
    · rw [if_pos c2] at h
      refine lv_aload_n hx hb dX1_hear_19 rfl (lv_at hl 1 rfl) ?_
      refine gf_1_87 C hh hj1 dX1_hear_20 ?_
      refine lv_aload_n hx hb dX1_hear_23 rfl (lv_at hl 0 rfl) ?_
      refine gf_1_30 C hh hj0 dX1_hear_24 ?_
      refine lv_icmp_eq (tgt := 32) hx hb dX1_hear_27 (by decide) (fun c3 => ?_) (fun c3 => ?_)
      · rw [if_pos c3] at h
        refine lv_aload_n hx hb dX1_hear_32 rfl (lv_at hl 0 rfl) ?_
        refine gf_1_9 C hh hj0 dX1_hear_33 ?_
        refine lv_iconst (v := (2 : Int32)) hx hb dX1_hear_36 (by decide) ?_
        refine lv_icmp_eq (tgt := 65) hx hb dX1_hear_37 (by decide) (fun c4 => ?_) (fun c4 => ?_)
        · rw [if_pos c4] at h
          exact k_X1_hear_65 C j0 hj0 j1 hj1 x2 x3 j4 hj4 σ h hh (lv_sub hl [0, 1, 2, 3, 4] rfl)
        · rw [if_neg c4] at h
          refine lv_aload_n hx hb dX1_hear_40 rfl (lv_at hl 0 rfl) ?_
          refine gf_1_9 C hh hj0 dX1_hear_41 ?_
          refine lv_iconst (v := (4 : Int32)) hx hb dX1_hear_44 (by decide) ?_
          refine lv_icmp_eq (tgt := 65) hx hb dX1_hear_45 (by decide) (fun c5 => ?_) (fun c5 => ?_)
          · rw [if_pos c5] at h
            exact k_X1_hear_65 C j0 hj0 j1 hj1 x2 x3 j4 hj4 σ h hh (lv_sub hl [0, 1, 2, 3, 4] rfl)
          · rw [if_neg c5] at h
            refine lv_aload_n hx hb dX1_hear_48 rfl (lv_at hl 0 rfl) ?_
            refine gf_1_9 C hh hj0 dX1_hear_49 ?_
            refine lv_iconst (v := (5 : Int32)) hx hb dX1_hear_52 (by decide) ?_
            refine lv_icmp_eq (tgt := 65) hx hb dX1_hear_53 (by decide) (fun c6 => ?_) (fun c6 => ?_)
            · rw [if_pos c6] at h
              exact k_X1_hear_65 C j0 hj0 j1 hj1 x2 x3 j4 hj4 σ h hh (lv_sub hl [0, 1, 2, 3, 4] rfl)
            · rw [if_neg c6] at h
              refine lv_aload_n hx hb dX1_hear_56 rfl (lv_at hl 0 rfl) ?_
              refine gf_1_9 C hh hj0 dX1_hear_57 ?_
              refine lv_bipush (v := (6 : Int32)) hx hb dX1_hear_60 (by decide) ?_
              refine lv_icmp_ne (tgt := 69) hx hb dX1_hear_62 (by decide) (fun c7 => ?_) (fun c7 => ?_)
              · rw [if_neg c7] at h
                refine lv_iconst (v := (0 : Int32)) hx hb dX1_hear_69 (by decide) ?_
                exact k_X1_hear_70 C j0 hj0 j1 hj1 x2 x3 j4 hj4 (0 : Int32) σ h hh (lv_sub hl [0, 1, 2, 3, 4] rfl)
              · rw [if_pos c7] at h
                exact k_X1_hear_65 C j0 hj0 j1 hj1 x2 x3 j4 hj4 σ h hh (lv_sub hl [0, 1, 2, 3, 4] rfl)
      · rw [if_neg c3] at h
        refine lv_iconst (v := (-1 : Int32)) hx hb dX1_hear_30 (by decide) ?_
        exact r_int C hh h dX1_hear_31
abbrev rm_X0_number : Room := { frames := 0, cells := 0, slots := 0, locals := 0 }
theorem HD_X0_number : yX0_number.cls = RX0 ∧ yX0_number.cls ≠ "java/lang/invoke/MethodHandle" ∧ yX0_number.cls ≠ "java/lang/invoke/VarHandle" ∧ (parseMethodDescriptor yX0_number.desc).map (fun d => d.parameters.length) = some 1 := by decide +kernel
def f_X0_number_4 : Nat → Nat → Int32 → Int32 → Int32 → Mem → Option (Int32 × Mem)
  | 0, _, _, _, _, _ => none
  | n + 1, j0, x1, x2, x3, σ => (if (x1 + (4 : Int32)) ≤ x3 then some (x2, σ) else (if (60 : Int32) ≤ x3 then some (x2, σ) else gd (vin x3 60) (vl (((x2 <<< ((8 : Int32) &&& 31)) ||| (σ 0 j0 (x3).toNatClampNeg))) (fun v4 => vl (x3 + (1 : Int32)) (fun v6 => f_X0_number_4 n j0 x1 v4 v6 σ)))))
set_option maxHeartbeats 4000000 in
set_option maxRecDepth 100000 in
theorem k_X0_number_4 {p : Program} {l : Launch} {e : Env} {s : State} {m : MethodId} {args : Array Value} {below : List Frame} {meth : Method} {c : Code} {D : va_G} {cA : Nat → ClassId} {ad : Nat → Nat → Nat} {A : Nat → Prop} {o : Nat → Int64} (C : Cx p s m args meth c cX0_number 4 RX0 (some .int) D cA ad A o) {r : Int32 × Mem} : ∀ (n : Nat) (j0 : Nat) (hj0 : j0 < 62) (x1 : Int32) (x2 : Int32) (x3 : Int32) (σ : Mem) {H : Heap} {locs : List Loc} (h : f_X0_number_4 n j0 x1 x2 x3 σ = some r) (hh : HH D cA ad A o s σ H locs) {ls : Array Slot} (hl : lv_has ls 4 [(0, .ref (ad 99 j0)), (1, .int x1), (2, .int x2), (3, .int x3)]), W p l e rm_X0_number s m args below meth c H locs 0 0 (MQ below (Qi D cA ad o A r) args s 0 0 A) (F0 m 4 ls []) := by
  obtain ⟨⟨hx, hb, hml, hown, hts⟩, hK, hN, hD, hr, hlocks⟩ := id C
  intro n
  induction n with
  | zero =>
    intro j0 hj0 x1 x2 x3 σ H locs h
    rw [f_X0_number_4.eq_1] at h
    cases h
  | succ n ih =>
    intro j0 hj0 x1 x2 x3 σ H locs h hh ls hl
    rw [f_X0_number_4.eq_2] at h
    refine lv_iload_n hx hb dX0_number_4 rfl (lv_at hl 3 rfl) ?_
    refine lv_iload_n hx hb dX0_number_5 rfl (lv_at hl 1 rfl) ?_
    refine lv_iconst (v := (4 : Int32)) hx hb dX0_number_6 (by decide) ?_
    refine lv_iadd hx hb dX0_number_7 ?_
    refine lv_icmp_ge (tgt := 35) hx hb dX0_number_8 (by decide) (fun c1 => ?_) (fun c1 => ?_)
    · rw [if_pos c1] at h
      refine lv_iload_n hx hb dX0_number_35 rfl (lv_at hl 2 rfl) ?_
      exact r_int C hh h dX0_number_36
    · rw [if_neg c1] at h
      refine lv_iload_n hx hb dX0_number_11 rfl (lv_at hl 3 rfl) ?_
      refine lv_bipush (v := (60 : Int32)) hx hb dX0_number_12 (by decide) ?_
      refine lv_icmp_ge (tgt := 35) hx hb dX0_number_14 (by decide) (fun c2 => ?_) (fun c2 => ?_)
      · rw [if_pos c2] at h
        refine lv_iload_n hx hb dX0_number_35 rfl (lv_at hl 2 rfl) ?_
        exact r_int C hh h dX0_number_36
      · rw [if_neg c2] at h
        refine lv_iload_n hx hb dX0_number_17 rfl (lv_at hl 2 rfl) ?_
        refine lv_bipush (v := (8 : Int32)) hx hb dX0_number_18 (by decide) ?_
        refine lv_ishl hx hb dX0_number_20 ?_
        refine lv_aload_n hx hb dX0_number_21 rfl (lv_at hl 0 rfl) ?_
        refine gf_0_9 C hh hj0 dX0_number_22 ?_
        refine lv_iload_n hx hb dX0_number_25 rfl (lv_at hl 3 rfl) ?_
        obtain ⟨b3, h⟩ := gd_e h
        refine al_0 C hh hj0 b3 dX0_number_26 ?_
        refine lv_ior hx hb dX0_number_27 ?_
        obtain ⟨v4, e5, h⟩ := vl_e h
        refine lv_nm e5 ?_
        refine lv_istore_n (lv' := [(2, .int v4), (0, .ref (ad 99 j0)), (1, .int x1), (3, .int x3)]) hx hb dX0_number_28 rfl hl (by decide) rfl (fun ls hl => ?_)
        obtain ⟨v6, e7, h⟩ := vl_e h
        refine lv_iinc (v := v6) (lv' := [(3, .int v6), (2, .int v4), (0, .ref (ad 99 j0)), (1, .int x1)]) hx hb dX0_number_29 hl (k := 3) rfl (by rw [e7]; rfl) (by decide) rfl (fun ls hl => ?_)
        refine lv_goto (tgt := 4) hx hb dX0_number_32 (by decide) ?_
        exact ih j0 hj0 x1 v4 v6 σ h hh (lv_sub hl [2, 3, 1, 0] rfl)
def f_X0_number (j0 : Nat) (x1 : Int32) (σ : Mem) : Option (Int32 × Mem) := f_X0_number_4 5000 j0 x1 (0 : Int32) x1 σ
set_option maxHeartbeats 4000000 in
set_option maxRecDepth 100000 in
theorem c_X0_number {l : Launch} {D : va_G} {cA : Nat → ClassId} {ad : Nat → Nat → Nat} {A : Nat → Prop} {o : Nat → Int64} (hD0 : ∀ σ, va_D A (wW cA ad σ o)) (j0 : Nat) (hj0 : j0 < 62) (x1 : Int32) (σ : Mem) {r : Int32 × Mem} (h : f_X0_number j0 x1 σ = some r) : Met l yX0_number (wsG yX0_number cX0_number 4 (some .int)) rm_X0_number (va_Pc [.ref (ad 99 j0), .int x1] (IW D cA ad o σ)) (Qi D cA ad o A r) 0 0 A := by
  refine metG (by decide) (Nat.le_of_ble_eq_true rfl) hD0 ?_
  intro p e s m args below meth c C ls hh hl
  have C : Cx p s m args meth c cX0_number 4 RX0 (some .int) D cA ad A o := C
  have hl : lv_has ls 4 [(0, .ref (ad 99 j0)), (1, .int x1)] := hl
  obtain ⟨⟨hx, hb, hml, hown, hts⟩, hK, hN, hD, hr, hlocks⟩ := id C
  unfold f_X0_number at h
  refine lv_iconst (v := (0 : Int32)) hx hb dX0_number_0 (by decide) ?_
  refine lv_istore_n (lv' := [(2, .int (0 : Int32)), (0, .ref (ad 99 j0)), (1, .int x1)]) hx hb dX0_number_1 rfl hl (by decide) rfl (fun ls hl => ?_)
  refine lv_iload_n hx hb dX0_number_2 rfl (lv_at hl 2 rfl) ?_
  refine lv_istore_n (lv' := [(3, .int x1), (2, .int (0 : Int32)), (0, .ref (ad 99 j0)), (1, .int x1)]) hx hb dX0_number_3 rfl hl (by decide) rfl (fun ls hl => ?_)
  exact k_X0_number_4 C 5000 j0 hj0 x1 (0 : Int32) x1 σ h hh (lv_sub hl [2, 3, 1, 0] rfl)
abbrev rm_X2_readOption : Room := { frames := 1, cells := 0, slots := 0, locals := 23 }
theorem HD_X2_readOption : yX2_readOption.cls = RX2 ∧ yX2_readOption.cls ≠ "java/lang/invoke/MethodHandle" ∧ yX2_readOption.cls ≠ "java/lang/invoke/VarHandle" ∧ (parseMethodDescriptor yX2_readOption.desc).map (fun d => d.parameters.length) = some 4 := by decide +kernel
def f_X2_readOption_53 (x4 : Int32) (xs0 : Int32) (js1 : Nat) (σ : Mem) : Option (Int32 × Mem) := vl (up σ 207 js1 0 xs0) (fun s1 => (if x4 = (1 : Int32) then some ((1 : Int32), s1) else some ((0 : Int32), s1)))
set_option maxHeartbeats 4000000 in
set_option maxRecDepth 100000 in
theorem k_X2_readOption_53 {p : Program} {l : Launch} {e : Env} {s : State} {m : MethodId} {args : Array Value} {below : List Frame} {meth : Method} {c : Code} {D : va_G} {cA : Nat → ClassId} {ad : Nat → Nat → Nat} {A : Nat → Prop} {o : Nat → Int64} (C : Cx p s m args meth c cX2_readOption 5 RX2 (some .boolean) D cA ad A o) {r : Int32 × Mem} (x4 : Int32) (xs0 : Int32) (js1 : Nat) (hjs1 : js1 < 2) (σ : Mem) {H : Heap} {locs : List Loc} (h : f_X2_readOption_53 x4 xs0 js1 σ = some r) (hh : HH D cA ad A o s σ H locs) {ls : Array Slot} (hl : lv_has ls 5 [(4, .int x4)]) : W p l e rm_X2_readOption s m args below meth c H locs 0 0 (MQ below (Qi D cA ad o A r) args s 0 0 A) (F0 m 53 ls [.int xs0, .ref (ad 299 js1)]) := by
  obtain ⟨⟨hx, hb, hml, hown, hts⟩, hK, hN, hD, hr, hlocks⟩ := id C
  unfold f_X2_readOption_53 at h
  obtain ⟨s1, e2, h⟩ := vl_e h
  refine pf_2_33 C hh hjs1 dX2_readOption_53 (fun H locs hh => ?_)
  rw [← e2] at hh
  refine lv_iload hx hb dX2_readOption_56 (lv_at hl 0 rfl) ?_
  refine lv_iconst (v := (1 : Int32)) hx hb dX2_readOption_58 (by decide) ?_
  refine lv_icmp_ne (tgt := 66) hx hb dX2_readOption_59 (by decide) (fun c3 => ?_) (fun c3 => ?_)
  · rw [if_neg c3] at h
    refine lv_iconst (v := (0 : Int32)) hx hb dX2_readOption_66 (by decide) ?_
    exact r_bool C hh (by decide) h dX2_readOption_67
  · rw [if_pos c3] at h
    refine lv_iconst (v := (1 : Int32)) hx hb dX2_readOption_62 (by decide) ?_
    refine lv_goto (tgt := 67) hx hb dX2_readOption_63 (by decide) ?_
    exact r_bool C hh (by decide) h dX2_readOption_67
def f_X2_readOption (j0 : Nat) (j1 : Nat) (x2 : Int32) (x3 : Int32) (x4 : Int32) (σ : Mem) : Option (Int32 × Mem) := (if x3 = (50 : Int32) then bn (f_X0_number j1 x2 σ) (fun r4 s3 => vl (up s3 208 j0 0 r4) (fun s5 => (if x4 = (4 : Int32) then some ((1 : Int32), s5) else some ((0 : Int32), s5)))) else if x3 = (51 : Int32) then bn (f_X0_number j1 x2 σ) (fun r11 s10 => vl (up s10 209 j0 0 r11) (fun s12 => (if x4 = (4 : Int32) then some ((1 : Int32), s12) else some ((0 : Int32), s12)))) else if x3 = (52 : Int32) then some ((1 : Int32), σ) else if x3 = (53 : Int32) then (if x4 = (1 : Int32) then gd (vin x2 60) (f_X2_readOption_53 x4 (σ 0 j1 (x2).toNatClampNeg) j0 σ) else f_X2_readOption_53 x4 (-1 : Int32) j0 σ) else if x3 = (54 : Int32) then bn (f_X0_number j1 x2 σ) (fun r22 s21 => vl (up s21 210 j0 0 r22) (fun s23 => (if x4 = (4 : Int32) then some ((1 : Int32), s23) else some ((0 : Int32), s23)))) else some ((1 : Int32), σ))
set_option maxHeartbeats 4000000 in
set_option maxRecDepth 100000 in
theorem c_X2_readOption {l : Launch} {D : va_G} {cA : Nat → ClassId} {ad : Nat → Nat → Nat} {A : Nat → Prop} {o : Nat → Int64} (hD0 : ∀ σ, va_D A (wW cA ad σ o)) (j0 : Nat) (hj0 : j0 < 2) (j1 : Nat) (hj1 : j1 < 62) (x2 : Int32) (x3 : Int32) (x4 : Int32) (σ : Mem) {r : Int32 × Mem} (h : f_X2_readOption j0 j1 x2 x3 x4 σ = some r) : Met l yX2_readOption (wsG yX2_readOption cX2_readOption 5 (some .boolean)) rm_X2_readOption (va_Pc [.ref (ad 299 j0), .ref (ad 99 j1), .int x2, .int x3, .int x4] (IW D cA ad o σ)) (Qi D cA ad o A r) 0 0 A := by
  refine metG (by decide) (Nat.le_of_ble_eq_true rfl) hD0 ?_
  intro p e s m args below meth c C ls hh hl
  have C : Cx p s m args meth c cX2_readOption 5 RX2 (some .boolean) D cA ad A o := C
  have hl : lv_has ls 5 [(0, .ref (ad 299 j0)), (1, .ref (ad 99 j1)), (2, .int x2), (3, .int x3), (4, .int x4)] := hl
  obtain ⟨⟨hx, hb, hml, hown, hts⟩, hK, hN, hD, hr, hlocks⟩ := id C
  unfold f_X2_readOption at h
  refine lv_iload_n hx hb dX2_readOption_0 rfl (lv_at hl 3 rfl) ?_
  by_cases c1 : x3 = (50 : Int32)
  · rw [if_pos c1] at h
    refine lv_tableIn (tgt := 68) hx hb dX2_readOption_1 (by rw [c1]; decide) (by rw [c1]; decide) (by rw [c1]; rfl) (by decide) ?_
    refine lv_aload_n hx hb dX2_readOption_68 rfl (lv_at hl 0 rfl) ?_
    refine lv_aload_n hx hb dX2_readOption_69 rfl (lv_at hl 1 rfl) ?_
    refine lv_iload_n hx hb dX2_readOption_70 rfl (lv_at hl 2 rfl) ?_
    obtain ⟨r4, s3, e2, h⟩ := bn_e h
    refine c_int hh (vrun (rest := [.ref (ad 299 j0)]) C hh (c_X0_number C.2.2.2.1 j1 hj1 x2 σ e2) LM_2_54 IM_X0_number SL_X0_number IN_0 CD_X0_number HD_X0_number ⟨rfl, rfl, Nat.le_of_ble_eq_true rfl, Nat.le_of_ble_eq_true rfl⟩ (rv_0 C hh hj1) rfl hl.1 rfl (Nat.le_of_ble_eq_true rfl) dX2_readOption_71 ⟨Nat.zero_le _, Nat.zero_le _⟩) (fun H locs hh => ?_)
    obtain ⟨s5, e6, h⟩ := vl_e h
    refine pf_2_36 C hh hj0 dX2_readOption_74 (fun H locs hh => ?_)
    rw [← e6] at hh
    refine lv_iload hx hb dX2_readOption_77 (lv_at hl 4 rfl) ?_
    refine lv_iconst (v := (4 : Int32)) hx hb dX2_readOption_79 (by decide) ?_
    refine lv_icmp_ne (tgt := 87) hx hb dX2_readOption_80 (by decide) (fun c7 => ?_) (fun c7 => ?_)
    · rw [if_neg c7] at h
      refine lv_iconst (v := (0 : Int32)) hx hb dX2_readOption_87 (by decide) ?_
      exact r_bool C hh (by decide) h dX2_readOption_88
    · rw [if_pos c7] at h
      refine lv_iconst (v := (1 : Int32)) hx hb dX2_readOption_83 (by decide) ?_
      refine lv_goto (tgt := 88) hx hb dX2_readOption_84 (by decide) ?_
      exact r_bool C hh (by decide) h dX2_readOption_88
  · rw [if_neg c1] at h
    by_cases c8 : x3 = (51 : Int32)
    · rw [if_pos c8] at h
      refine lv_tableIn (tgt := 89) hx hb dX2_readOption_1 (by rw [c8]; decide) (by rw [c8]; decide) (by rw [c8]; rfl) (by decide) ?_
      refine lv_aload_n hx hb dX2_readOption_89 rfl (lv_at hl 0 rfl) ?_
      refine lv_aload_n hx hb dX2_readOption_90 rfl (lv_at hl 1 rfl) ?_
      refine lv_iload_n hx hb dX2_readOption_91 rfl (lv_at hl 2 rfl) ?_
      obtain ⟨r11, s10, e9, h⟩ := bn_e h
      refine c_int hh (vrun (rest := [.ref (ad 299 j0)]) C hh (c_X0_number C.2.2.2.1 j1 hj1 x2 σ e9) LM_2_54 IM_X0_number SL_X0_number IN_0 CD_X0_number HD_X0_number ⟨rfl, rfl, Nat.le_of_ble_eq_true rfl, Nat.le_of_ble_eq_true rfl⟩ (rv_0 C hh hj1) rfl hl.1 rfl (Nat.le_of_ble_eq_true rfl) dX2_readOption_92 ⟨Nat.zero_le _, Nat.zero_le _⟩) (fun H locs hh => ?_)
      obtain ⟨s12, e13, h⟩ := vl_e h
      refine pf_2_39 C hh hj0 dX2_readOption_95 (fun H locs hh => ?_)
      rw [← e13] at hh
      refine lv_iload hx hb dX2_readOption_98 (lv_at hl 4 rfl) ?_
      refine lv_iconst (v := (4 : Int32)) hx hb dX2_readOption_100 (by decide) ?_
      refine lv_icmp_ne (tgt := 108) hx hb dX2_readOption_101 (by decide) (fun c14 => ?_) (fun c14 => ?_)
      · rw [if_neg c14] at h
        refine lv_iconst (v := (0 : Int32)) hx hb dX2_readOption_108 (by decide) ?_
        exact r_bool C hh (by decide) h dX2_readOption_109
      · rw [if_pos c14] at h
        refine lv_iconst (v := (1 : Int32)) hx hb dX2_readOption_104 (by decide) ?_
        refine lv_goto (tgt := 109) hx hb dX2_readOption_105 (by decide) ?_
        exact r_bool C hh (by decide) h dX2_readOption_109
    · rw [if_neg c8] at h
      by_cases c15 : x3 = (52 : Int32)
      · rw [if_pos c15] at h
        refine lv_tableIn (tgt := 131) hx hb dX2_readOption_1 (by rw [c15]; decide) (by rw [c15]; decide) (by rw [c15]; rfl) (by decide) ?_
        refine lv_iconst (v := (1 : Int32)) hx hb dX2_readOption_131 (by decide) ?_
        exact r_bool C hh (by decide) h dX2_readOption_132
      · rw [if_neg c15] at h
        by_cases c16 : x3 = (53 : Int32)
        · rw [if_pos c16] at h
          refine lv_tableIn (tgt := 36) hx hb dX2_readOption_1 (by rw [c16]; decide) (by rw [c16]; decide) (by rw [c16]; rfl) (by decide) ?_
          refine lv_aload_n hx hb dX2_readOption_36 rfl (lv_at hl 0 rfl) ?_
          refine lv_iload hx hb dX2_readOption_37 (lv_at hl 4 rfl) ?_
          refine lv_iconst (v := (1 : Int32)) hx hb dX2_readOption_39 (by decide) ?_
          refine lv_icmp_ne (tgt := 52) hx hb dX2_readOption_40 (by decide) (fun c17 => ?_) (fun c17 => ?_)
          · rw [if_neg c17] at h
            refine lv_iconst (v := (-1 : Int32)) hx hb dX2_readOption_52 (by decide) ?_
            exact k_X2_readOption_53 C x4 (-1 : Int32) j0 hj0 σ h hh (lv_sub hl [4] rfl)
          · rw [if_pos c17] at h
            refine lv_aload_n hx hb dX2_readOption_43 rfl (lv_at hl 1 rfl) ?_
            refine gf_2_50 C hh hj1 dX2_readOption_44 ?_
            refine lv_iload_n hx hb dX2_readOption_47 rfl (lv_at hl 2 rfl) ?_
            obtain ⟨b18, h⟩ := gd_e h
            refine al_0 C hh hj1 b18 dX2_readOption_48 ?_
            refine lv_goto (tgt := 53) hx hb dX2_readOption_49 (by decide) ?_
            exact k_X2_readOption_53 C x4 (σ 0 j1 (x2).toNatClampNeg) j0 hj0 σ h hh (lv_sub hl [4] rfl)
        · rw [if_neg c16] at h
          by_cases c19 : x3 = (54 : Int32)
          · rw [if_pos c19] at h
            refine lv_tableIn (tgt := 110) hx hb dX2_readOption_1 (by rw [c19]; decide) (by rw [c19]; decide) (by rw [c19]; rfl) (by decide) ?_
            refine lv_aload_n hx hb dX2_readOption_110 rfl (lv_at hl 0 rfl) ?_
            refine lv_aload_n hx hb dX2_readOption_111 rfl (lv_at hl 1 rfl) ?_
            refine lv_iload_n hx hb dX2_readOption_112 rfl (lv_at hl 2 rfl) ?_
            obtain ⟨r22, s21, e20, h⟩ := bn_e h
            refine c_int hh (vrun (rest := [.ref (ad 299 j0)]) C hh (c_X0_number C.2.2.2.1 j1 hj1 x2 σ e20) LM_2_54 IM_X0_number SL_X0_number IN_0 CD_X0_number HD_X0_number ⟨rfl, rfl, Nat.le_of_ble_eq_true rfl, Nat.le_of_ble_eq_true rfl⟩ (rv_0 C hh hj1) rfl hl.1 rfl (Nat.le_of_ble_eq_true rfl) dX2_readOption_113 ⟨Nat.zero_le _, Nat.zero_le _⟩) (fun H locs hh => ?_)
            obtain ⟨s23, e24, h⟩ := vl_e h
            refine pf_2_42 C hh hj0 dX2_readOption_116 (fun H locs hh => ?_)
            rw [← e24] at hh
            refine lv_iload hx hb dX2_readOption_119 (lv_at hl 4 rfl) ?_
            refine lv_iconst (v := (4 : Int32)) hx hb dX2_readOption_121 (by decide) ?_
            refine lv_icmp_ne (tgt := 129) hx hb dX2_readOption_122 (by decide) (fun c25 => ?_) (fun c25 => ?_)
            · rw [if_neg c25] at h
              refine lv_iconst (v := (0 : Int32)) hx hb dX2_readOption_129 (by decide) ?_
              exact r_bool C hh (by decide) h dX2_readOption_130
            · rw [if_pos c25] at h
              refine lv_iconst (v := (1 : Int32)) hx hb dX2_readOption_125 (by decide) ?_
              refine lv_goto (tgt := 130) hx hb dX2_readOption_126 (by decide) ?_
              exact r_bool C hh (by decide) h dX2_readOption_130
          · rw [if_neg c19] at h
            have nc1 := ntI c1 (n := 50) (by decide)
            have nc8 := ntI c8 (n := 51) (by decide)
            have nc15 := ntI c15 (n := 52) (by decide)
            have nc16 := ntI c16 (n := 53) (by decide)
            have nc19 := ntI c19 (n := 54) (by decide)
            refine lv_tableOut (tgt := 131) hx hb dX2_readOption_1 (by omega) (by decide) ?_
            refine lv_iconst (v := (1 : Int32)) hx hb dX2_readOption_131 (by decide) ?_
            exact r_bool C hh (by decide) h dX2_readOption_132
