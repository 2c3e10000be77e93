abbrev rm_X7_bring : Room := { frames := 6, cells := 0, slots := 0, locals := 154 }
theorem HD_X7_bring : yX7_bring.cls = RX7 ∧ yX7_bring.cls ≠ "java/lang/invoke/MethodHandle" ∧ yX7_bring.cls ≠ "java/lang/invoke/VarHandle" ∧ (parseMethodDescriptor yX7_bring.desc).map (fun d => d.parameters.length) = some 2 := by decide +kernel
def f_X7_bring_139 (x3 : Int32) (xs0 : Int32) (σ : Mem) : Option (Int32 × Mem) := gd (vin x3 12) (bn (f_X1_hear ((x3).toNatClampNeg) 0 xs0 (σ 708 0 0) 1 σ) (fun r4 s3 => bv (f_X5_post r4 1 s3) (fun s6 => some (x3, s6))))
set_option maxHeartbeats 4000000 in
set_option maxRecDepth 100000 in
theorem k_X7_bring_139 {p : Program} {l : Launch} {e : Env} {s : State} {m : MethodId} {args : Array Value} {below : List Frame} {meth : Method} {c : Code} {D : va_G} {cA : Nat → ClassId} {ad : Nat → Nat → Nat} {A : Nat → Prop} {o : Nat → Int64} (C : Cx p s m args meth c cX7_bring 5 RX7 (some .int) D cA ad A o) {r : Int32 × Mem} (x3 : Int32) (xs0 : Int32) (σ : Mem) {H : Heap} {locs : List Loc} (h : f_X7_bring_139 x3 xs0 σ = some r) (hh : HH D cA ad A o s σ H locs) {ls : Array Slot} (hl : lv_has ls 5 [(0, .ref (ad 799 0)), (3, .int x3)]) : W p l e rm_X7_bring s m args below meth c H locs 0 0 (MQ below (Qi D cA ad o A r) args s 0 0 A) (F0 m 139 ls [.int xs0]) := by
  obtain ⟨⟨hx, hb, hml, hown, hts⟩, hK, hN, hD, hr, hlocks⟩ := id C
  unfold f_X7_bring_139 at h
  refine lv_istore (lv' := [(4, .int xs0), (0, .ref (ad 799 0)), (3, .int x3)]) hx hb dX7_bring_139 hl (by decide) rfl (fun ls hl => ?_)
  refine lv_aload_n hx hb dX7_bring_141 rfl (lv_at hl 1 rfl) ?_
  refine gf_7_10 C hh dX7_bring_142 ?_
  refine lv_aload_n hx hb dX7_bring_145 rfl (lv_at hl 1 rfl) ?_
  refine gf_7_25 C hh dX7_bring_146 ?_
  refine lv_iload_n hx hb dX7_bring_149 rfl (lv_at hl 2 rfl) ?_
  obtain ⟨b1, h⟩ := gd_e h
  refine al_702 C hh b1 dX7_bring_150 ?_
  refine lv_aload_n hx hb dX7_bring_151 rfl (lv_at hl 1 rfl) ?_
  refine gf_7_46 C hh dX7_bring_152 ?_
  refine lv_iload hx hb dX7_bring_155 (lv_at hl 0 rfl) ?_
  refine lv_aload_n hx hb dX7_bring_157 rfl (lv_at hl 1 rfl) ?_
  refine gf_7_53 C hh dX7_bring_158 ?_
  refine lv_aload_n hx hb dX7_bring_161 rfl (lv_at hl 1 rfl) ?_
  refine gf_7_50 C hh dX7_bring_162 ?_
  obtain ⟨r4, s3, e2, h⟩ := bn_e h
  refine c_int hh (vrun (rest := [.ref (ad 599 0)]) C hh (c_X1_hear C.2.2.2.1 ((x3).toNatClampNeg) (vin_l b1) 0 (by decide) xs0 (σ 708 0 0) 1 (by decide) σ e2) LM_7_213 IM_X1_hear SL_X1_hear IN_1 CD_X1_hear HD_X1_hear ⟨rfl, rfl, Nat.le_of_ble_eq_true rfl, Nat.le_of_ble_eq_true rfl⟩ (rv_1 C hh (vin_l b1)) rfl hl.1 rfl (Nat.le_of_ble_eq_true rfl) dX7_bring_165 ⟨Nat.zero_le _, Nat.zero_le _⟩) (fun H locs hh => ?_)
  refine lv_aload_n hx hb dX7_bring_168 rfl (lv_at hl 1 rfl) ?_
  refine gf_7_50 C hh dX7_bring_169 ?_
  obtain ⟨s6, e5, h⟩ := bv_e h
  refine c_void hh (vrun (rest := []) C hh (c_X5_post C.2.2.2.1 r4 1 (by decide) s3 e5) LM_7_93 IM_X5_post SL_X5_post IN_5 CD_X5_post HD_X5_post ⟨rfl, rfl, Nat.le_of_ble_eq_true rfl, Nat.le_of_ble_eq_true rfl⟩ (rv_5 C hh) rfl hl.1 rfl (Nat.le_of_ble_eq_true rfl) dX7_bring_172 ⟨Nat.zero_le _, Nat.zero_le _⟩) (fun H locs hh => ?_)
  refine lv_goto (tgt := 186) hx hb dX7_bring_175 (by decide) ?_
  refine lv_iload_n hx hb dX7_bring_186 rfl (lv_at hl 2 rfl) ?_
  exact r_int C hh h dX7_bring_187
def f_X7_bring_138 (x3 : Int32) (σ : Mem) : Option (Int32 × Mem) := f_X7_bring_139 x3 (0 : Int32) σ
set_option maxHeartbeats 4000000 in
set_option maxRecDepth 100000 in
theorem k_X7_bring_138 {p : Program} {l : Launch} {e : Env} {s : State} {m : MethodId} {args : Array Value} {below : List Frame} {meth : Method} {c : Code} {D : va_G} {cA : Nat → ClassId} {ad : Nat → Nat → Nat} {A : Nat → Prop} {o : Nat → Int64} (C : Cx p s m args meth c cX7_bring 5 RX7 (some .int) D cA ad A o) {r : Int32 × Mem} (x3 : Int32) (σ : Mem) {H : Heap} {locs : List Loc} (h : f_X7_bring_138 x3 σ = some r) (hh : HH D cA ad A o s σ H locs) {ls : Array Slot} (hl : lv_has ls 5 [(0, .ref (ad 799 0)), (3, .int x3)]) : W p l e rm_X7_bring s m args below meth c H locs 0 0 (MQ below (Qi D cA ad o A r) args s 0 0 A) (F0 m 138 ls []) := by
  obtain ⟨⟨hx, hb, hml, hown, hts⟩, hK, hN, hD, hr, hlocks⟩ := id C
  unfold f_X7_bring_138 at h
  refine lv_iconst (v := (0 : Int32)) hx hb dX7_bring_138 (by decide) ?_
  exact k_X7_bring_139 C x3 (0 : Int32) σ h hh (lv_sub hl [0, 1] rfl)
def f_X7_bring_44 (x3 : Int32) (σ : Mem) : Option (Int32 × Mem) := bn (f_X2_read 0 61 σ) (fun r3 s2 => (if r3 = (0 : Int32) then some (x3, s2) else (if x3 = (16 : Int32) then bn (f_X6_hear 0 (s2 708 0 0) 1 s2) (fun r20 s19 => bv (f_X5_post r20 1 s19) (fun s22 => some (x3, s22))) else bn (f_X7_isClient x3 s2) (fun r8 s7 => (if r8 = (0 : Int32) then bv (f_X7_passOn (x3 - (12 : Int32)) s7) (fun s11 => some (x3, s11)) else bn (f_X7_isAddress (s7 204 0 0) s7) (fun r14 s13 => (if r14 = (0 : Int32) then f_X7_bring_138 x3 s13 else gd (vin (s13 204 0 0) 1024) ((if (s13 703 0 ((s13 204 0 0)).toNatClampNeg) = (0 : Int32) then f_X7_bring_138 x3 s13 else f_X7_bring_139 x3 (1 : Int32) s13)))))))))
set_option maxHeartbeats 4000000 in
set_option maxRecDepth 100000 in
theorem k_X7_bring_44 {p : Program} {l : Launch} {e : Env} {s : State} {m : MethodId} {args : Array Value} {below : List Frame} {meth : Method} {c : Code} {D : va_G} {cA : Nat → ClassId} {ad : Nat → Nat → Nat} {A : Nat → Prop} {o : Nat → Int64} (C : Cx p s m args meth c cX7_bring 5 RX7 (some .int) D cA ad A o) {r : Int32 × Mem} (x3 : Int32) (σ : Mem) {H : Heap} {locs : List Loc} (h : f_X7_bring_44 x3 σ = some r) (hh : HH D cA ad A o s σ H locs) {ls : Array Slot} (hl : lv_has ls 5 [(0, .ref (ad 799 0)), (3, .int x3)]) : W p l e rm_X7_bring s m args below meth c H locs 0 0 (MQ below (Qi D cA ad o A r) args s 0 0 A) (F0 m 44 ls []) := by
  obtain ⟨⟨hx, hb, hml, hown, hts⟩, hK, hN, hD, hr, hlocks⟩ := id C
  unfold f_X7_bring_44 at h
  refine lv_aload_n hx hb dX7_bring_44 rfl (lv_at hl 0 rfl) ?_
  refine gf_7_46 C hh dX7_bring_45 ?_
  refine lv_aload_n hx hb dX7_bring_48 rfl (lv_at hl 0 rfl) ?_
  refine gf_7_40 C hh dX7_bring_49 ?_
  obtain ⟨r3, s2, e1, h⟩ := bn_e h
  refine c_int hh (vrun (rest := []) C hh (c_X2_read C.2.2.2.1 0 (by decide) 61 (by decide) σ e1) LM_7_149 IM_X2_read SL_X2_read IN_2 CD_X2_read HD_X2_read ⟨rfl, rfl, Nat.le_of_ble_eq_true rfl, Nat.le_of_ble_eq_true rfl⟩ (rv_2 C hh (by decide)) rfl hl.1 rfl (Nat.le_of_ble_eq_true rfl) dX7_bring_52 ⟨Nat.zero_le _, Nat.zero_le _⟩) (fun H locs hh => ?_)
  refine lv_if_ne (tgt := 60) hx hb dX7_bring_55 (by decide) (fun c4 => ?_) (fun c4 => ?_)
  · rw [if_neg c4] at h
    refine lv_iload_n hx hb dX7_bring_60 rfl (lv_at hl 1 rfl) ?_
    refine lv_bipush (v := (16 : Int32)) hx hb dX7_bring_61 (by decide) ?_
    refine lv_icmp_ne (tgt := 99) hx hb dX7_bring_63 (by decide) (fun c5 => ?_) (fun c5 => ?_)
    · rw [if_neg c5] at h
      refine lv_iload_n hx hb dX7_bring_99 rfl (lv_at hl 1 rfl) ?_
      obtain ⟨r8, s7, e6, h⟩ := bn_e h
      refine c_int hh (srun (rest := []) C hh (c_X7_isClient C.2.2.2.1 x3 s2 e6) LM_7_80 ST_X7_isClient IN_7 CD_X7_isClient HD_X7_isClient ⟨rfl, rfl, Nat.le_of_ble_eq_true rfl, Nat.le_of_ble_eq_true rfl⟩ rfl hl.1 rfl (Nat.le_of_ble_eq_true rfl) dX7_bring_100 ⟨Nat.zero_le _, Nat.zero_le _⟩) (fun H locs hh => ?_)
      refine lv_if_eq (tgt := 178) hx hb dX7_bring_103 (by decide) (fun c9 => ?_) (fun c9 => ?_)
      · rw [if_pos c9] at h
        refine lv_aload_n hx hb dX7_bring_178 rfl (lv_at hl 0 rfl) ?_
        refine lv_iload_n hx hb dX7_bring_179 rfl (lv_at hl 1 rfl) ?_
        refine lv_bipush (v := (12 : Int32)) hx hb dX7_bring_180 (by decide) ?_
        refine lv_isub hx hb dX7_bring_182 ?_
        obtain ⟨s11, e10, h⟩ := bv_e h
        refine c_void hh (vrun (rest := []) C hh (c_X7_passOn C.2.2.2.1 (x3 - (12 : Int32)) s7 e10) LM_7_216 IM_X7_passOn SL_X7_passOn IN_7 CD_X7_passOn HD_X7_passOn ⟨rfl, rfl, Nat.le_of_ble_eq_true rfl, Nat.le_of_ble_eq_true rfl⟩ (rv_7 C hh) rfl hl.1 rfl (Nat.le_of_ble_eq_true rfl) dX7_bring_183 ⟨Nat.zero_le _, Nat.zero_le _⟩) (fun H locs hh => ?_)
        refine lv_iload_n hx hb dX7_bring_186 rfl (lv_at hl 1 rfl) ?_
        exact r_int C hh h dX7_bring_187
      · rw [if_neg c9] at h
        refine lv_aload_n hx hb dX7_bring_106 rfl (lv_at hl 0 rfl) ?_
        refine gf_7_46 C hh dX7_bring_107 ?_
        refine gf_7_210 C hh (by decide) dX7_bring_110 ?_
        obtain ⟨r14, s13, e12, h⟩ := bn_e h
        refine c_int hh (srun (rest := []) C hh (c_X7_isAddress C.2.2.2.1 (s7 204 0 0) s7 e12) LM_7_101 ST_X7_isAddress IN_7 CD_X7_isAddress HD_X7_isAddress ⟨rfl, rfl, Nat.le_of_ble_eq_true rfl, Nat.le_of_ble_eq_true rfl⟩ rfl hl.1 rfl (Nat.le_of_ble_eq_true rfl) dX7_bring_113 ⟨Nat.zero_le _, Nat.zero_le _⟩) (fun H locs hh => ?_)
        refine lv_if_eq (tgt := 138) hx hb dX7_bring_116 (by decide) (fun c15 => ?_) (fun c15 => ?_)
        · rw [if_pos c15] at h
          exact k_X7_bring_138 C x3 s13 h hh (lv_sub hl [0, 1] rfl)
        · rw [if_neg c15] at h
          refine lv_aload_n hx hb dX7_bring_119 rfl (lv_at hl 0 rfl) ?_
          refine gf_7_29 C hh dX7_bring_120 ?_
          refine lv_aload_n hx hb dX7_bring_123 rfl (lv_at hl 0 rfl) ?_
          refine gf_7_46 C hh dX7_bring_124 ?_
          refine gf_7_210 C hh (by decide) dX7_bring_127 ?_
          obtain ⟨b16, h⟩ := gd_e h
          refine al_703 C hh b16 dX7_bring_130 ?_
          refine lv_if_eq (tgt := 138) hx hb dX7_bring_131 (by decide) (fun c17 => ?_) (fun c17 => ?_)
          · rw [if_pos c17] at h
            exact k_X7_bring_138 C x3 s13 h hh (lv_sub hl [0, 1] rfl)
          · rw [if_neg c17] at h
            refine lv_iconst (v := (1 : Int32)) hx hb dX7_bring_134 (by decide) ?_
            refine lv_goto (tgt := 139) hx hb dX7_bring_135 (by decide) ?_
            exact k_X7_bring_139 C x3 (1 : Int32) s13 h hh (lv_sub hl [0, 1] rfl)
    · rw [if_pos c5] at h
      refine lv_aload_n hx hb dX7_bring_66 rfl (lv_at hl 0 rfl) ?_
      refine gf_7_10 C hh dX7_bring_67 ?_
      refine lv_aload_n hx hb dX7_bring_70 rfl (lv_at hl 0 rfl) ?_
      refine gf_7_19 C hh dX7_bring_71 ?_
      refine lv_aload_n hx hb dX7_bring_74 rfl (lv_at hl 0 rfl) ?_
      refine gf_7_46 C hh dX7_bring_75 ?_
      refine lv_aload_n hx hb dX7_bring_78 rfl (lv_at hl 0 rfl) ?_
      refine gf_7_53 C hh dX7_bring_79 ?_
      refine lv_aload_n hx hb dX7_bring_82 rfl (lv_at hl 0 rfl) ?_
      refine gf_7_50 C hh dX7_bring_83 ?_
      obtain ⟨r20, s19, e18, h⟩ := bn_e h
      refine c_int hh (vrun (rest := [.ref (ad 599 0)]) C hh (c_X6_hear C.2.2.2.1 0 (by decide) (s2 708 0 0) 1 (by decide) s2 e18) LM_7_206 IM_X6_hear SL_X6_hear IN_6 CD_X6_hear HD_X6_hear ⟨rfl, rfl, Nat.le_of_ble_eq_true rfl, Nat.le_of_ble_eq_true rfl⟩ (rv_6 C hh) rfl hl.1 rfl (Nat.le_of_ble_eq_true rfl) dX7_bring_86 ⟨Nat.zero_le _, Nat.zero_le _⟩) (fun H locs hh => ?_)
      refine lv_aload_n hx hb dX7_bring_89 rfl (lv_at hl 0 rfl) ?_
      refine gf_7_50 C hh dX7_bring_90 ?_
      obtain ⟨s22, e21, h⟩ := bv_e h
      refine c_void hh (vrun (rest := []) C hh (c_X5_post C.2.2.2.1 r20 1 (by decide) s19 e21) LM_7_93 IM_X5_post SL_X5_post IN_5 CD_X5_post HD_X5_post ⟨rfl, rfl, Nat.le_of_ble_eq_true rfl, Nat.le_of_ble_eq_true rfl⟩ (rv_5 C hh) rfl hl.1 rfl (Nat.le_of_ble_eq_true rfl) dX7_bring_93 ⟨Nat.zero_le _, Nat.zero_le _⟩) (fun H locs hh => ?_)
      refine lv_goto (tgt := 186) hx hb dX7_bring_96 (by decide) ?_
      refine lv_iload_n hx hb dX7_bring_186 rfl (lv_at hl 1 rfl) ?_
      exact r_int C hh h dX7_bring_187
  · rw [if_pos c4] at h
    refine lv_iload_n hx hb dX7_bring_58 rfl (lv_at hl 1 rfl) ?_
    exact r_int C hh h dX7_bring_59
def f_X7_bring (x1 : Int32) (x2 : Int32) (σ : Mem) : Option (Int32 × Mem) := gd (vin x1 60) (gd (decide ((σ 500 0 (x1).toNatClampNeg).toNatClampNeg < 60)) (gd (vin x1 60) (gd (decide ((σ 500 0 (x1).toNatClampNeg).toNatClampNeg < 60)) (bv (f_X0_copy 61 ((σ 500 0 (x1).toNatClampNeg).toNatClampNeg) σ) (fun s6 => (if x2 = (0 : Int32) then f_X7_bring_44 (σ 301 ((σ 500 0 (x1).toNatClampNeg).toNatClampNeg) 0) s6 else bv (f_X5_remove x1 s6) (fun s9 => f_X7_bring_44 (σ 301 ((σ 500 0 (x1).toNatClampNeg).toNatClampNeg) 0) s9)))))))
set_option maxHeartbeats 4000000 in
set_option maxRecDepth 100000 in
theorem c_X7_bring {l : Launch} {D : va_G} {cA : Nat → ClassId} {ad : Nat → Nat → Nat} {A : Nat → Prop} {o : Nat → Int64} (hD0 : ∀ σ, va_D A (wW cA ad σ o)) (x1 : Int32) (x2 : Int32) (σ : Mem) {r : Int32 × Mem} (h : f_X7_bring x1 x2 σ = some r) : Met l yX7_bring (wsG yX7_bring cX7_bring 5 (some .int)) rm_X7_bring (va_Pc [.ref (ad 799 0), .int x1, .int x2] (IW D cA ad o σ)) (Qi D cA ad o A r) 0 0 A := by
  refine metG (by decide) (Nat.le_of_ble_eq_true rfl) hD0 ?_
  intro p e s m args below meth c C ls hh hl
  have C : Cx p s m args meth c cX7_bring 5 RX7 (some .int) D cA ad A o := C
  have hl : lv_has ls 5 [(0, .ref (ad 799 0)), (1, .int x1), (2, .int x2)] := hl
  obtain ⟨⟨hx, hb, hml, hown, hts⟩, hK, hN, hD, hr, hlocks⟩ := id C
  unfold f_X7_bring at h
  refine lv_aload_n hx hb dX7_bring_0 rfl (lv_at hl 0 rfl) ?_
  refine gf_7_10 C hh dX7_bring_1 ?_
  refine gf_7_117 C hh dX7_bring_4 ?_
  refine lv_iload_n hx hb dX7_bring_7 rfl (lv_at hl 1 rfl) ?_
  obtain ⟨b1, h⟩ := gd_e h
  refine al_500 C hh b1 dX7_bring_8 ?_
  obtain ⟨b2, h⟩ := gd_e h
  refine gf_7_132 C hh (bl_lt b2) dX7_bring_9 ?_
  refine lv_istore_n (lv' := [(3, .int (σ 301 ((σ 500 0 (x1).toNatClampNeg).toNatClampNeg) 0)), (0, .ref (ad 799 0)), (1, .int x1), (2, .int x2)]) hx hb dX7_bring_12 rfl hl (by decide) rfl (fun ls hl => ?_)
  refine lv_aload_n hx hb dX7_bring_13 rfl (lv_at hl 1 rfl) ?_
  refine gf_7_40 C hh dX7_bring_14 ?_
  refine lv_aload_n hx hb dX7_bring_17 rfl (lv_at hl 1 rfl) ?_
  refine gf_7_10 C hh dX7_bring_18 ?_
  refine gf_7_117 C hh dX7_bring_21 ?_
  refine lv_iload_n hx hb dX7_bring_24 rfl (lv_at hl 2 rfl) ?_
  obtain ⟨b3, h⟩ := gd_e h
  refine al_500 C hh b3 dX7_bring_25 ?_
  obtain ⟨b4, h⟩ := gd_e h
  refine gf_7_121 C hh (bl_lt b4) dX7_bring_26 ?_
  obtain ⟨s6, e5, h⟩ := bv_e h
  refine c_void hh (vrun (rest := []) C hh (c_X0_copy C.2.2.2.1 61 (by decide) ((σ 500 0 (x1).toNatClampNeg).toNatClampNeg) (Nat.lt_trans (bl_lt b4) (by decide)) σ e5) LM_7_202 IM_X0_copy SL_X0_copy IN_0 CD_X0_copy HD_X0_copy ⟨rfl, rfl, Nat.le_of_ble_eq_true rfl, Nat.le_of_ble_eq_true rfl⟩ (rv_0 C hh (by decide)) rfl hl.1 rfl (Nat.le_of_ble_eq_true rfl) dX7_bring_29 ⟨Nat.zero_le _, Nat.zero_le _⟩) (fun H locs hh => ?_)
  refine lv_iload_n hx hb dX7_bring_32 rfl (lv_at hl 3 rfl) ?_
  refine lv_if_eq (tgt := 44) hx hb dX7_bring_33 (by decide) (fun c7 => ?_) (fun c7 => ?_)
  · rw [if_pos c7] at h
    exact k_X7_bring_44 C (σ 301 ((σ 500 0 (x1).toNatClampNeg).toNatClampNeg) 0) s6 h hh (lv_sub hl [1, 0] rfl)
  · rw [if_neg c7] at h
    refine lv_aload_n hx hb dX7_bring_36 rfl (lv_at hl 1 rfl) ?_
    refine gf_7_10 C hh dX7_bring_37 ?_
    refine lv_iload_n hx hb dX7_bring_40 rfl (lv_at hl 2 rfl) ?_
    obtain ⟨s9, e8, h⟩ := bv_e h
    refine c_void hh (vrun (rest := []) C hh (c_X5_remove C.2.2.2.1 x1 s6 e8) LM_7_143 IM_X5_remove SL_X5_remove IN_5 CD_X5_remove HD_X5_remove ⟨rfl, rfl, Nat.le_of_ble_eq_true rfl, Nat.le_of_ble_eq_true rfl⟩ (rv_5 C hh) rfl hl.1 rfl (Nat.le_of_ble_eq_true rfl) dX7_bring_41 ⟨Nat.zero_le _, Nat.zero_le _⟩) (fun H locs hh => ?_)
    exact k_X7_bring_44 C (σ 301 ((σ 500 0 (x1).toNatClampNeg).toNatClampNeg) 0) s9 h hh (lv_sub hl [1, 0] rfl)
abbrev rm_X1_again : Room := { frames := 4, cells := 0, slots := 0, locals := 90 }
theorem HD_X1_again : yX1_again.cls = RX1 ∧ yX1_again.cls ≠ "java/lang/invoke/MethodHandle" ∧ yX1_again.cls ≠ "java/lang/invoke/VarHandle" ∧ (parseMethodDescriptor yX1_again.desc).map (fun d => d.parameters.length) = some 3 := by decide +kernel
def f_X1_again_20 (j0 : Nat) (x2 : Int32) (j3 : Nat) (σ : Mem) : Option (Int32 × Mem) := bn (f_X1_begin j0 x2 j3 σ) (fun r3 s2 => some (r3, s2))
set_option maxHeartbeats 4000000 in
set_option maxRecDepth 100000 in
theorem k_X1_again_20 {p : Program} {l : Launch} {e : Env} {s : State} {m : MethodId} {args : Array Value} {below : List Frame} {meth : Method} {c : Code} {D : va_G} {cA : Nat → ClassId} {ad : Nat → Nat → Nat} {A : Nat → Prop} {o : Nat → Int64} (C : Cx p s m args meth c cX1_again 4 RX1 (some .int) D cA ad A o) {r : Int32 × Mem} (j0 : Nat) (hj0 : j0 < 12) (x2 : Int32) (j3 : Nat) (hj3 : j3 < 2) (σ : Mem) {H : Heap} {locs : List Loc} (h : f_X1_again_20 j0 x2 j3 σ = some r) (hh : HH D cA ad A o s σ H locs) {ls : Array Slot} (hl : lv_has ls 4 [(0, .ref (ad 199 j0)), (2, .int x2), (3, .ref (ad 299 j3))]) : W p l e rm_X1_again s m args below meth c H locs 0 0 (MQ below (Qi D cA ad o A r) args s 0 0 A) (F0 m 20 ls []) := by
  obtain ⟨⟨hx, hb, hml, hown, hts⟩, hK, hN, hD, hr, hlocks⟩ := id C
  unfold f_X1_again_20 at h
  refine lv_aload_n hx hb dX1_again_20 rfl (lv_at hl 0 rfl) ?_
  refine lv_iload_n hx hb dX1_again_21 rfl (lv_at hl 1 rfl) ?_
  refine lv_aload_n hx hb dX1_again_22 rfl (lv_at hl 2 rfl) ?_
  obtain ⟨r3, s2, e1, h⟩ := bn_e h
  refine c_int hh (vrun (rest := []) C hh (c_X1_begin C.2.2.2.1 j0 hj0 x2 j3 hj3 σ e1) LM_1_48 IM_X1_begin SL_X1_begin IN_1 CD_X1_begin HD_X1_begin ⟨rfl, rfl, Nat.le_of_ble_eq_true rfl, Nat.le_of_ble_eq_true rfl⟩ (rv_1 C hh hj0) rfl hl.1 rfl (Nat.le_of_ble_eq_true rfl) dX1_again_23 ⟨Nat.zero_le _, Nat.zero_le _⟩) (fun H locs hh => ?_)
  exact r_int C hh h dX1_again_26
def f_X1_again (j0 : Nat) (x1 : Int32) (x2 : Int32) (j3 : Nat) (σ : Mem) : Option (Int32 × Mem) := vl (up σ 102 j0 0 x1) (fun s1 => (if (s1 103 j0 0) = (0 : Int32) then f_X1_again_20 j0 x2 j3 s1 else (if x2 < (s1 104 j0 0) then vl (up s1 101 j0 0 (6 : Int32)) (fun s5 => vl (up s5 108 j0 0 (1 : Int32)) (fun s7 => bn (f_X1_say j0 x2 j3 s7) (fun r11 s10 => some (r11, s10)))) else f_X1_again_20 j0 x2 j3 s1)))
set_option maxHeartbeats 4000000 in
set_option maxRecDepth 100000 in
theorem c_X1_again {l : Launch} {D : va_G} {cA : Nat → ClassId} {ad : Nat → Nat → Nat} {A : Nat → Prop} {o : Nat → Int64} (hD0 : ∀ σ, va_D A (wW cA ad σ o)) (j0 : Nat) (hj0 : j0 < 12) (x1 : Int32) (x2 : Int32) (j3 : Nat) (hj3 : j3 < 2) (σ : Mem) {r : Int32 × Mem} (h : f_X1_again j0 x1 x2 j3 σ = some r) : Met l yX1_again (wsG yX1_again cX1_again 4 (some .int)) rm_X1_again (va_Pc [.ref (ad 199 j0), .int x1, .int x2, .ref (ad 299 j3)] (IW D cA ad o σ)) (Qi D cA ad o A r) 0 0 A := by
  refine metG (by decide) (Nat.le_of_ble_eq_true rfl) hD0 ?_
  intro p e s m args below meth c C ls hh hl
  have C : Cx p s m args meth c cX1_again 4 RX1 (some .int) D cA ad A o := C
  have hl : lv_has ls 4 [(0, .ref (ad 199 j0)), (1, .int x1), (2, .int x2), (3, .ref (ad 299 j3))] := hl
  obtain ⟨⟨hx, hb, hml, hown, hts⟩, hK, hN, hD, hr, hlocks⟩ := id C
  unfold f_X1_again at h
  refine lv_aload_n hx hb dX1_again_0 rfl (lv_at hl 0 rfl) ?_
  refine lv_iload_n hx hb dX1_again_1 rfl (lv_at hl 1 rfl) ?_
  obtain ⟨s1, e2, h⟩ := vl_e h
  refine pf_1_15 C hh hj0 dX1_again_2 (fun H locs hh => ?_)
  rw [← e2] at hh
  refine lv_aload_n hx hb dX1_again_5 rfl (lv_at hl 0 rfl) ?_
  refine gf_1_18 C hh hj0 dX1_again_6 ?_
  refine lv_if_eq (tgt := 20) hx hb dX1_again_9 (by decide) (fun c3 => ?_) (fun c3 => ?_)
  · rw [if_pos c3] at h
    exact k_X1_again_20 C j0 hj0 x2 j3 hj3 s1 h hh (lv_sub hl [0, 2, 3] rfl)
  · rw [if_neg c3] at h
    refine lv_aload_n hx hb dX1_again_12 rfl (lv_at hl 0 rfl) ?_
    refine gf_1_21 C hh hj0 dX1_again_13 ?_
    refine lv_iload_n hx hb dX1_again_16 rfl (lv_at hl 2 rfl) ?_
    refine lv_icmp_gt (tgt := 27) hx hb dX1_again_17 (by decide) (fun c4 => ?_) (fun c4 => ?_)
    · rw [if_pos c4] at h
      refine lv_aload_n hx hb dX1_again_27 rfl (lv_at hl 0 rfl) ?_
      refine lv_bipush (v := (6 : Int32)) hx hb dX1_again_28 (by decide) ?_
      obtain ⟨s5, e6, h⟩ := vl_e h
      refine pf_1_9 C hh hj0 dX1_again_30 (fun H locs hh => ?_)
      rw [← e6] at hh
      refine lv_aload_n hx hb dX1_again_33 rfl (lv_at hl 0 rfl) ?_
      refine lv_iconst (v := (1 : Int32)) hx hb dX1_again_34 (by decide) ?_
      obtain ⟨s7, e8, h⟩ := vl_e h
      refine pf_1_33 C hh hj0 dX1_again_35 (fun H locs hh => ?_)
      rw [← e8] at hh
      refine lv_aload_n hx hb dX1_again_38 rfl (lv_at hl 0 rfl) ?_
      refine lv_iload_n hx hb dX1_again_39 rfl (lv_at hl 2 rfl) ?_
      refine lv_aload_n hx hb dX1_again_40 rfl (lv_at hl 3 rfl) ?_
      obtain ⟨r11, s10, e9, h⟩ := bn_e h
      refine c_int hh (vrun (rest := []) C hh (c_X1_say C.2.2.2.1 j0 hj0 x2 j3 hj3 s7 e9) LM_1_52 IM_X1_say SL_X1_say IN_1 CD_X1_say HD_X1_say ⟨rfl, rfl, Nat.le_of_ble_eq_true rfl, Nat.le_of_ble_eq_true rfl⟩ (rv_1 C hh hj0) rfl hl.1 rfl (Nat.le_of_ble_eq_true rfl) dX1_again_41 ⟨Nat.zero_le _, Nat.zero_le _⟩) (fun H locs hh => ?_)
      exact r_int C hh h dX1_again_44
    · rw [if_neg c4] at h
      exact k_X1_again_20 C j0 hj0 x2 j3 hj3 s1 h hh (lv_sub hl [0, 2, 3] rfl)
abbrev rm_X1_goAway : Room := { frames := 2, cells := 0, slots := 0, locals := 46 }
theorem HD_X1_goAway : yX1_goAway.cls = RX1 ∧ yX1_goAway.cls ≠ "java/lang/invoke/MethodHandle" ∧ yX1_goAway.cls ≠ "java/lang/invoke/VarHandle" ∧ (parseMethodDescriptor yX1_goAway.desc).map (fun d => d.parameters.length) = some 2 := by decide +kernel
def f_X1_goAway_28 (j0 : Nat) (x3 : Int32) (σ : Mem) : Option (Int32 × Mem) := bv (f_X1_forget j0 σ) (fun s2 => vl (up s2 101 j0 0 (0 : Int32)) (fun s3 => some (x3, s3)))
set_option maxHeartbeats 4000000 in
set_option maxRecDepth 100000 in
theorem k_X1_goAway_28 {p : Program} {l : Launch} {e : Env} {s : State} {m : MethodId} {args : Array Value} {below : List Frame} {meth : Method} {c : Code} {D : va_G} {cA : Nat → ClassId} {ad : Nat → Nat → Nat} {A : Nat → Prop} {o : Nat → Int64} (C : Cx p s m args meth c cX1_goAway 4 RX1 (some .int) D cA ad A o) {r : Int32 × Mem} (j0 : Nat) (hj0 : j0 < 12) (x3 : Int32) (σ : Mem) {H : Heap} {locs : List Loc} (h : f_X1_goAway_28 j0 x3 σ = some r) (hh : HH D cA ad A o s σ H locs) {ls : Array Slot} (hl : lv_has ls 4 [(0, .ref (ad 199 j0)), (3, .int x3)]) : W p l e rm_X1_goAway s m args below meth c H locs 0 0 (MQ below (Qi D cA ad o A r) args s 0 0 A) (F0 m 28 ls []) := by
  obtain ⟨⟨hx, hb, hml, hown, hts⟩, hK, hN, hD, hr, hlocks⟩ := id C
  unfold f_X1_goAway_28 at h
  refine lv_aload_n hx hb dX1_goAway_28 rfl (lv_at hl 0 rfl) ?_
  obtain ⟨s2, e1, h⟩ := bv_e h
  refine c_void hh (vrun (rest := []) C hh (c_X1_forget C.2.2.2.1 j0 hj0 σ e1) LM_1_68 IM_X1_forget SL_X1_forget IN_1 CD_X1_forget HD_X1_forget ⟨rfl, rfl, Nat.le_of_ble_eq_true rfl, Nat.le_of_ble_eq_true rfl⟩ (rv_1 C hh hj0) rfl hl.1 rfl (Nat.le_of_ble_eq_true rfl) dX1_goAway_29 ⟨Nat.zero_le _, Nat.zero_le _⟩) (fun H locs hh => ?_)
  refine lv_aload_n hx hb dX1_goAway_32 rfl (lv_at hl 0 rfl) ?_
  refine lv_iconst (v := (0 : Int32)) hx hb dX1_goAway_33 (by decide) ?_
  obtain ⟨s3, e4, h⟩ := vl_e h
  refine pf_1_9 C hh hj0 dX1_goAway_34 (fun H locs hh => ?_)
  rw [← e4] at hh
  refine lv_iload_n hx hb dX1_goAway_37 rfl (lv_at hl 1 rfl) ?_
  exact r_int C hh h dX1_goAway_38
def f_X1_goAway (j0 : Nat) (x1 : Int32) (j2 : Nat) (σ : Mem) : Option (Int32 × Mem) := bn (f_X1_uses j0 σ) (fun r3 s2 => (if r3 = (0 : Int32) then f_X1_goAway_28 j0 (-1 : Int32) s2 else bv (f_X1_prepare j0 (7 : Int32) x1 j2 s2) (fun s6 => vl (up s6 203 j2 0 (s6 103 j0 0)) (fun s7 => f_X1_goAway_28 j0 (16 : Int32) s7))))
set_option maxHeartbeats 4000000 in
set_option maxRecDepth 100000 in
theorem c_X1_goAway {l : Launch} {D : va_G} {cA : Nat → ClassId} {ad : Nat → Nat → Nat} {A : Nat → Prop} {o : Nat → Int64} (hD0 : ∀ σ, va_D A (wW cA ad σ o)) (j0 : Nat) (hj0 : j0 < 12) (x1 : Int32) (j2 : Nat) (hj2 : j2 < 2) (σ : Mem) {r : Int32 × Mem} (h : f_X1_goAway j0 x1 j2 σ = some r) : Met l yX1_goAway (wsG yX1_goAway cX1_goAway 4 (some .int)) rm_X1_goAway (va_Pc [.ref (ad 199 j0), .int x1, .ref (ad 299 j2)] (IW D cA ad o σ)) (Qi D cA ad o A r) 0 0 A := by
  refine metG (by decide) (Nat.le_of_ble_eq_true rfl) hD0 ?_
  intro p e s m args below meth c C ls hh hl
  have C : Cx p s m args meth c cX1_goAway 4 RX1 (some .int) D cA ad A o := C
  have hl : lv_has ls 4 [(0, .ref (ad 199 j0)), (1, .int x1), (2, .ref (ad 299 j2))] := hl
  obtain ⟨⟨hx, hb, hml, hown, hts⟩, hK, hN, hD, hr, hlocks⟩ := id C
  unfold f_X1_goAway at h
  refine lv_iconst (v := (-1 : Int32)) hx hb dX1_goAway_0 (by decide) ?_
  refine lv_istore_n (lv' := [(3, .int (-1 : Int32)), (0, .ref (ad 199 j0)), (1, .int x1), (2, .ref (ad 299 j2))]) hx hb dX1_goAway_1 rfl hl (by decide) rfl (fun ls hl => ?_)
  refine lv_aload_n hx hb dX1_goAway_2 rfl (lv_at hl 1 rfl) ?_
  obtain ⟨r3, s2, e1, h⟩ := bn_e h
  refine c_int hh (vrun (rest := []) C hh (c_X1_uses C.2.2.2.1 j0 hj0 σ e1) LM_1_55 IM_X1_uses SL_X1_uses IN_1 CD_X1_uses HD_X1_uses ⟨rfl, rfl, Nat.le_of_ble_eq_true rfl, Nat.le_of_ble_eq_true rfl⟩ (rv_1 C hh hj0) rfl hl.1 rfl (Nat.le_of_ble_eq_true rfl) dX1_goAway_3 ⟨Nat.zero_le _, Nat.zero_le _⟩) (fun H locs hh => ?_)
  refine lv_if_eq (tgt := 28) hx hb dX1_goAway_6 (by decide) (fun c4 => ?_) (fun c4 => ?_)
  · rw [if_pos c4] at h
    exact k_X1_goAway_28 C j0 hj0 (-1 : Int32) s2 h hh (lv_sub hl [1, 0] rfl)
  · rw [if_neg c4] at h
    refine lv_aload_n hx hb dX1_goAway_9 rfl (lv_at hl 1 rfl) ?_
    refine lv_bipush (v := (7 : Int32)) hx hb dX1_goAway_10 (by decide) ?_
    refine lv_iload_n hx hb dX1_goAway_12 rfl (lv_at hl 2 rfl) ?_
    refine lv_aload_n hx hb dX1_goAway_13 rfl (lv_at hl 3 rfl) ?_
    obtain ⟨s6, e5, h⟩ := bv_e h
    refine c_void hh (vrun (rest := []) C hh (c_X1_prepare C.2.2.2.1 j0 hj0 (7 : Int32) x1 j2 hj2 s2 e5) LM_1_59 IM_X1_prepare SL_X1_prepare IN_1 CD_X1_prepare HD_X1_prepare ⟨rfl, rfl, Nat.le_of_ble_eq_true rfl, Nat.le_of_ble_eq_true rfl⟩ (rv_1 C hh hj0) rfl hl.1 rfl (Nat.le_of_ble_eq_true rfl) dX1_goAway_14 ⟨Nat.zero_le _, Nat.zero_le _⟩) (fun H locs hh => ?_)
    refine lv_aload_n hx hb dX1_goAway_17 rfl (lv_at hl 3 rfl) ?_
    refine lv_aload_n hx hb dX1_goAway_18 rfl (lv_at hl 1 rfl) ?_
    refine gf_1_18 C hh hj0 dX1_goAway_19 ?_
    obtain ⟨s7, e8, h⟩ := vl_e h
    refine pf_1_63 C hh hj2 dX1_goAway_22 (fun H locs hh => ?_)
    rw [← e8] at hh
    refine lv_bipush (v := (16 : Int32)) hx hb dX1_goAway_25 (by decide) ?_
    refine lv_istore_n (lv' := [(3, .int (16 : Int32)), (0, .ref (ad 199 j0)), (1, .int x1), (2, .ref (ad 299 j2))]) hx hb dX1_goAway_27 rfl hl (by decide) rfl (fun ls hl => ?_)
    exact k_X1_goAway_28 C j0 hj0 (16 : Int32) s7 h hh (lv_sub hl [1, 0] rfl)
abbrev rm_X2_part : Room := { frames := 0, cells := 0, slots := 0, locals := 0 }
theorem HD_X2_part : yX2_part.cls = RX2 ∧ yX2_part.cls ≠ "java/lang/invoke/MethodHandle" ∧ yX2_part.cls ≠ "java/lang/invoke/VarHandle" ∧ (parseMethodDescriptor yX2_part.desc).map (fun d => d.parameters.length) = some 1 := by decide +kernel
def f_X2_part (j0 : Nat) (x1 : Int32) (σ : Mem) : Option (Int32 × Mem) := (if x1 = (0 : Int32) then some ((σ 200 j0 0), σ) else if x1 = (1 : Int32) then some ((σ 201 j0 0), σ) else if x1 = (2 : Int32) then some ((σ 202 j0 0), σ) else if x1 = (3 : Int32) then some ((σ 203 j0 0), σ) else if x1 = (4 : Int32) then some ((σ 204 j0 0), σ) else if x1 = (5 : Int32) then some ((σ 205 j0 0), σ) else if x1 = (6 : Int32) then some ((σ 206 j0 0), σ) else if x1 = (7 : Int32) then some ((σ 207 j0 0), σ) else if x1 = (8 : Int32) then some ((σ 208 j0 0), σ) else if x1 = (9 : Int32) then some ((σ 209 j0 0), σ) else some ((σ 210 j0 0), σ))
set_option maxHeartbeats 4000000 in
set_option maxRecDepth 100000 in
theorem c_X2_part {l : Launch} {D : va_G} {cA : Nat → ClassId} {ad : Nat → Nat → Nat} {A : Nat → Prop} {o : Nat → Int64} (hD0 : ∀ σ, va_D A (wW cA ad σ o)) (j0 : Nat) (hj0 : j0 < 2) (x1 : Int32) (σ : Mem) {r : Int32 × Mem} (h : f_X2_part j0 x1 σ = some r) : Met l yX2_part (wsG yX2_part cX2_part 2 (some .int)) rm_X2_part (va_Pc [.ref (ad 299 j0), .int x1] (IW D cA ad o σ)) (Qi D cA ad o A r) 0 0 A := by
  refine metG (by decide) (Nat.le_of_ble_eq_true rfl) hD0 ?_
  intro p e s m args below meth c C ls hh hl
  have C : Cx p s m args meth c cX2_part 2 RX2 (some .int) D cA ad A o := C
  have hl : lv_has ls 2 [(0, .ref (ad 299 j0)), (1, .int x1)] := hl
  obtain ⟨⟨hx, hb, hml, hown, hts⟩, hK, hN, hD, hr, hlocks⟩ := id C
  unfold f_X2_part at h
  refine lv_iload_n hx hb dX2_part_0 rfl (lv_at hl 1 rfl) ?_
  by_cases c1 : x1 = (0 : Int32)
  · rw [if_pos c1] at h
    refine lv_tableIn (tgt := 56) hx hb dX2_part_1 (by rw [c1]; decide) (by rw [c1]; decide) (by rw [c1]; rfl) (by decide) ?_
    refine lv_aload_n hx hb dX2_part_56 rfl (lv_at hl 0 rfl) ?_
    refine gf_2_9 C hh hj0 dX2_part_57 ?_
    exact r_int C hh h dX2_part_60
  · rw [if_neg c1] at h
    by_cases c2 : x1 = (1 : Int32)
    · rw [if_pos c2] at h
      refine lv_tableIn (tgt := 61) hx hb dX2_part_1 (by rw [c2]; decide) (by rw [c2]; decide) (by rw [c2]; rfl) (by decide) ?_
      refine lv_aload_n hx hb dX2_part_61 rfl (lv_at hl 0 rfl) ?_
      refine gf_2_15 C hh hj0 dX2_part_62 ?_
      exact r_int C hh h dX2_part_65
    · rw [if_neg c2] at h
      by_cases c3 : x1 = (2 : Int32)
      · rw [if_pos c3] at h
        refine lv_tableIn (tgt := 66) hx hb dX2_part_1 (by rw [c3]; decide) (by rw [c3]; decide) (by rw [c3]; rfl) (by decide) ?_
        refine lv_aload_n hx hb dX2_part_66 rfl (lv_at hl 0 rfl) ?_
        refine gf_2_18 C hh hj0 dX2_part_67 ?_
        exact r_int C hh h dX2_part_70
      · rw [if_neg c3] at h
        by_cases c4 : x1 = (3 : Int32)
        · rw [if_pos c4] at h
          refine lv_tableIn (tgt := 71) hx hb dX2_part_1 (by rw [c4]; decide) (by rw [c4]; decide) (by rw [c4]; rfl) (by decide) ?_
          refine lv_aload_n hx hb dX2_part_71 rfl (lv_at hl 0 rfl) ?_
          refine gf_2_21 C hh hj0 dX2_part_72 ?_
          exact r_int C hh h dX2_part_75
        · rw [if_neg c4] at h
          by_cases c5 : x1 = (4 : Int32)
          · rw [if_pos c5] at h
            refine lv_tableIn (tgt := 76) hx hb dX2_part_1 (by rw [c5]; decide) (by rw [c5]; decide) (by rw [c5]; rfl) (by decide) ?_
            refine lv_aload_n hx hb dX2_part_76 rfl (lv_at hl 0 rfl) ?_
            refine gf_2_24 C hh hj0 dX2_part_77 ?_
            exact r_int C hh h dX2_part_80
          · rw [if_neg c5] at h
            by_cases c6 : x1 = (5 : Int32)
            · rw [if_pos c6] at h
              refine lv_tableIn (tgt := 81) hx hb dX2_part_1 (by rw [c6]; decide) (by rw [c6]; decide) (by rw [c6]; rfl) (by decide) ?_
              refine lv_aload_n hx hb dX2_part_81 rfl (lv_at hl 0 rfl) ?_
              refine gf_2_27 C hh hj0 dX2_part_82 ?_
              exact r_int C hh h dX2_part_85
            · rw [if_neg c6] at h
              by_cases c7 : x1 = (6 : Int32)
              · rw [if_pos c7] at h
                refine lv_tableIn (tgt := 86) hx hb dX2_part_1 (by rw [c7]; decide) (by rw [c7]; decide) (by rw [c7]; rfl) (by decide) ?_
                refine lv_aload_n hx hb dX2_part_86 rfl (lv_at hl 0 rfl) ?_
                refine gf_2_30 C hh hj0 dX2_part_87 ?_
                exact r_int C hh h dX2_part_90
              · rw [if_neg c7] at h
                by_cases c8 : x1 = (7 : Int32)
                · rw [if_pos c8] at h
                  refine lv_tableIn (tgt := 91) hx hb dX2_part_1 (by rw [c8]; decide) (by rw [c8]; decide) (by rw [c8]; rfl) (by decide) ?_
                  refine lv_aload_n hx hb dX2_part_91 rfl (lv_at hl 0 rfl) ?_
                  refine gf_2_33 C hh hj0 dX2_part_92 ?_
                  exact r_int C hh h dX2_part_95
                · rw [if_neg c8] at h
                  by_cases c9 : x1 = (8 : Int32)
                  · rw [if_pos c9] at h
                    refine lv_tableIn (tgt := 96) hx hb dX2_part_1 (by rw [c9]; decide) (by rw [c9]; decide) (by rw [c9]; rfl) (by decide) ?_
                    refine lv_aload_n hx hb dX2_part_96 rfl (lv_at hl 0 rfl) ?_
                    refine gf_2_36 C hh hj0 dX2_part_97 ?_
                    exact r_int C hh h dX2_part_100
                  · rw [if_neg c9] at h
                    by_cases c10 : x1 = (9 : Int32)
                    · rw [if_pos c10] at h
                      refine lv_tableIn (tgt := 101) hx hb dX2_part_1 (by rw [c10]; decide) (by rw [c10]; decide) (by rw [c10]; rfl) (by decide) ?_
                      refine lv_aload_n hx hb dX2_part_101 rfl (lv_at hl 0 rfl) ?_
                      refine gf_2_39 C hh hj0 dX2_part_102 ?_
                      exact r_int C hh h dX2_part_105
                    · rw [if_neg c10] at h
                      have nc1 := ntI c1 (n := 0) (by decide)
                      have nc2 := ntI c2 (n := 1) (by decide)
                      have nc3 := ntI c3 (n := 2) (by decide)
                      have nc4 := ntI c4 (n := 3) (by decide)
                      have nc5 := ntI c5 (n := 4) (by decide)
                      have nc6 := ntI c6 (n := 5) (by decide)
                      have nc7 := ntI c7 (n := 6) (by decide)
                      have nc8 := ntI c8 (n := 7) (by decide)
                      have nc9 := ntI c9 (n := 8) (by decide)
                      have nc10 := ntI c10 (n := 9) (by decide)
                      refine lv_tableOut (tgt := 106) hx hb dX2_part_1 (by omega) (by decide) ?_
                      refine lv_aload_n hx hb dX2_part_106 rfl (lv_at hl 0 rfl) ?_
                      refine gf_2_42 C hh hj0 dX2_part_107 ?_
                      exact r_int C hh h dX2_part_110
abbrev rm_X4_set : Room := { frames := 0, cells := 0, slots := 0, locals := 0 }
theorem HD_X4_set : yX4_set.cls = RX4 ∧ yX4_set.cls ≠ "java/lang/invoke/MethodHandle" ∧ yX4_set.cls ≠ "java/lang/invoke/VarHandle" ∧ (parseMethodDescriptor yX4_set.desc).map (fun d => d.parameters.length) = some 3 := by decide +kernel
def f_X4_set (j0 : Nat) (x1 : Int32) (x2 : Int32) (x3 : Int32) (σ : Mem) : Option (Mem) := vl (up σ 400 j0 0 x1) (fun s1 => vl (up s1 401 j0 0 x2) (fun s3 => vl (up s3 402 j0 0 x3) (fun s5 => some s5)))
set_option maxHeartbeats 4000000 in
set_option maxRecDepth 100000 in
theorem c_X4_set {l : Launch} {D : va_G} {cA : Nat → ClassId} {ad : Nat → Nat → Nat} {A : Nat → Prop} {o : Nat → Int64} (hD0 : ∀ σ, va_D A (wW cA ad σ o)) (j0 : Nat) (hj0 : j0 < 4) (x1 : Int32) (x2 : Int32) (x3 : Int32) (σ : Mem) {r : Mem} (h : f_X4_set j0 x1 x2 x3 σ = some r) : Met l yX4_set (wsG yX4_set cX4_set 4 none) rm_X4_set (va_Pc [.ref (ad 499 j0), .int x1, .int x2, .int x3] (IW D cA ad o σ)) (Qv D cA ad o A r) 0 0 A := by
  refine metG (by decide) (Nat.le_of_ble_eq_true rfl) hD0 ?_
  intro p e s m args below meth c C ls hh hl
  have C : Cx p s m args meth c cX4_set 4 RX4 none D cA ad A o := C
  have hl : lv_has ls 4 [(0, .ref (ad 499 j0)), (1, .int x1), (2, .int x2), (3, .int x3)] := hl
  obtain ⟨⟨hx, hb, hml, hown, hts⟩, hK, hN, hD, hr, hlocks⟩ := id C
  unfold f_X4_set at h
  refine lv_aload_n hx hb dX4_set_0 rfl (lv_at hl 0 rfl) ?_
  refine lv_iload_n hx hb dX4_set_1 rfl (lv_at hl 1 rfl) ?_
  obtain ⟨s1, e2, h⟩ := vl_e h
  refine pf_4_9 C hh hj0 dX4_set_2 (fun H locs hh => ?_)
  rw [← e2] at hh
  refine lv_aload_n hx hb dX4_set_5 rfl (lv_at hl 0 rfl) ?_
  refine lv_iload_n hx hb dX4_set_6 rfl (lv_at hl 2 rfl) ?_
  obtain ⟨s3, e4, h⟩ := vl_e h
  refine pf_4_15 C hh hj0 dX4_set_7 (fun H locs hh => ?_)
  rw [← e4] at hh
  refine lv_aload_n hx hb dX4_set_10 rfl (lv_at hl 0 rfl) ?_
  refine lv_iload_n hx hb dX4_set_11 rfl (lv_at hl 3 rfl) ?_
  obtain ⟨s5, e6, h⟩ := vl_e h
  refine pf_4_18 C hh hj0 dX4_set_12 (fun H locs hh => ?_)
  rw [← e6] at hh
  exact r_void C hh h dX4_set_15
abbrev rm_X5_has : Room := { frames := 0, cells := 0, slots := 0, locals := 0 }
theorem HD_X5_has : yX5_has.cls = RX5 ∧ yX5_has.cls ≠ "java/lang/invoke/MethodHandle" ∧ yX5_has.cls ≠ "java/lang/invoke/VarHandle" ∧ (parseMethodDescriptor yX5_has.desc).map (fun d => d.parameters.length) = some 1 := by decide +kernel
def f_X5_has (x1 : Int32) (σ : Mem) : Option (Int32 × Mem) := (if x1 < (0 : Int32) then some ((0 : Int32), σ) else (if (σ 501 0 0) ≤ x1 then some ((0 : Int32), σ) else some ((1 : Int32), σ)))
set_option maxHeartbeats 4000000 in
set_option maxRecDepth 100000 in
theorem c_X5_has {l : Launch} {D : va_G} {cA : Nat → ClassId} {ad : Nat → Nat → Nat} {A : Nat → Prop} {o : Nat → Int64} (hD0 : ∀ σ, va_D A (wW cA ad σ o)) (x1 : Int32) (σ : Mem) {r : Int32 × Mem} (h : f_X5_has x1 σ = some r) : Met l yX5_has (wsG yX5_has cX5_has 2 (some .boolean)) rm_X5_has (va_Pc [.ref (ad 599 0), .int x1] (IW D cA ad o σ)) (Qi D cA ad o A r) 0 0 A := by
  refine metG (by decide) (Nat.le_of_ble_eq_true rfl) hD0 ?_
  intro p e s m args below meth c C ls hh hl
  have C : Cx p s m args meth c cX5_has 2 RX5 (some .boolean) D cA ad A o := C
  have hl : lv_has ls 2 [(0, .ref (ad 599 0)), (1, .int x1)] := hl
  obtain ⟨⟨hx, hb, hml, hown, hts⟩, hK, hN, hD, hr, hlocks⟩ := id C
  unfold f_X5_has at h
  refine lv_iload_n hx hb dX5_has_0 rfl (lv_at hl 1 rfl) ?_
  refine lv_if_lt (tgt := 16) hx hb dX5_has_1 (by decide) (fun c1 => ?_) (fun c1 => ?_)
  · rw [if_pos c1] at h
    refine lv_iconst (v := (0 : Int32)) hx hb dX5_has_16 (by decide) ?_
    exact r_bool C hh (by decide) h dX5_has_17
  · rw [if_neg c1] at h
    refine lv_iload_n hx hb dX5_has_4 rfl (lv_at hl 1 rfl) ?_
    refine lv_aload_n hx hb dX5_has_5 rfl (lv_at hl 0 rfl) ?_
    refine gf_5_17 C hh dX5_has_6 ?_
    refine lv_icmp_ge (tgt := 16) hx hb dX5_has_9 (by decide) (fun c2 => ?_) (fun c2 => ?_)
    · rw [if_pos c2] at h
      refine lv_iconst (v := (0 : Int32)) hx hb dX5_has_16 (by decide) ?_
      exact r_bool C hh (by decide) h dX5_has_17
    · rw [if_neg c2] at h
      refine lv_iconst (v := (1 : Int32)) hx hb dX5_has_12 (by decide) ?_
      refine lv_goto (tgt := 17) hx hb dX5_has_13 (by decide) ?_
      exact r_bool C hh (by decide) h dX5_has_17
abbrev rm_X6_recordsKept : Room := { frames := 0, cells := 0, slots := 0, locals := 0 }
theorem HD_X6_recordsKept : yX6_recordsKept.cls = RX6 ∧ yX6_recordsKept.cls ≠ "java/lang/invoke/MethodHandle" ∧ yX6_recordsKept.cls ≠ "java/lang/invoke/VarHandle" ∧ (parseMethodDescriptor yX6_recordsKept.desc).map (fun d => d.parameters.length) = some 0 := by decide +kernel
def f_X6_recordsKept_23 (K4 : Int32 → Int32 → Mem → Option (Int32 × Mem)) (x1 : Int32) (x2 : Int32) (σ : Mem) : Option (Int32 × Mem) := vl (x2 + (1 : Int32)) (fun v1 => K4 x1 v1 σ)
set_option maxHeartbeats 4000000 in
set_option maxRecDepth 100000 in
theorem k_X6_recordsKept_23 {p : Program} {l : Launch} {e : Env} {s : State} {m : MethodId} {args : Array Value} {below : List Frame} {meth : Method} {c : Code} {D : va_G} {cA : Nat → ClassId} {ad : Nat → Nat → Nat} {A : Nat → Prop} {o : Nat → Int64} (C : Cx p s m args meth c cX6_recordsKept 3 RX6 (some .int) D cA ad A o) {K4 : Int32 → Int32 → Mem → Option (Int32 × Mem)} {r : Int32 × Mem} (hK4 : ∀ (x1 : Int32) (x2 : Int32) (σ : Mem) {H : Heap} {locs : List Loc}, K4 x1 x2 σ = some r → HH D cA ad A o s σ H locs → ∀ {ls : Array Slot}, lv_has ls 3 [(0, .ref (ad 699 0)), (1, .int x1), (2, .int x2)] → W p l e rm_X6_recordsKept s m args below meth c H locs 0 0 (MQ below (Qi D cA ad o A r) args s 0 0 A) (F0 m 4 ls [])) (x1 : Int32) (x2 : Int32) (σ : Mem) {H : Heap} {locs : List Loc} (h : f_X6_recordsKept_23 K4 x1 x2 σ = some r) (hh : HH D cA ad A o s σ H locs) {ls : Array Slot} (hl : lv_has ls 3 [(0, .ref (ad 699 0)), (1, .int x1), (2, .int x2)]) : W p l e rm_X6_recordsKept s m args below meth c H locs 0 0 (MQ below (Qi D cA ad o A r) args s 0 0 A) (F0 m 23 ls []) := by
  obtain ⟨⟨hx, hb, hml, hown, hts⟩, hK, hN, hD, hr, hlocks⟩ := id C
  unfold f_X6_recordsKept_23 at h
  obtain ⟨v1, e2, h⟩ := vl_e h
  refine lv_iinc (v := v1) (lv' := [(2, .int v1), (0, .ref (ad 699 0)), (1, .int x1)]) hx hb dX6_recordsKept_23 hl (k := 2) rfl (by rw [e2]; rfl) (by decide) rfl (fun ls hl => ?_)
  refine lv_goto (tgt := 4) hx hb dX6_recordsKept_26 (by decide) ?_
  exact hK4 x1 v1 σ h hh (lv_sub hl [1, 2, 0] rfl)
def f_X6_recordsKept_4 : Nat → Int32 → Int32 → Mem → Option (Int32 × Mem)
  | 0, _, _, _ => none
  | n + 1, x1, x2, σ => (if (1024 : Int32) ≤ x2 then some (x1, σ) else gd (vin x2 1024) ((if (σ 602 0 (x2).toNatClampNeg) = (0 : Int32) then f_X6_recordsKept_23 (f_X6_recordsKept_4 n) x1 x2 σ else vl (x1 + (1 : Int32)) (fun v4 => f_X6_recordsKept_23 (f_X6_recordsKept_4 n) v4 x2 σ))))
set_option maxHeartbeats 4000000 in
set_option maxRecDepth 100000 in
theorem k_X6_recordsKept_4 {p : Program} {l : Launch} {e : Env} {s : State} {m : MethodId} {args : Array Value} {below : List Frame} {meth : Method} {c : Code} {D : va_G} {cA : Nat → ClassId} {ad : Nat → Nat → Nat} {A : Nat → Prop} {o : Nat → Int64} (C : Cx p s m args meth c cX6_recordsKept 3 RX6 (some .int) D cA ad A o) {r : Int32 × Mem} : ∀ (n : Nat) (x1 : Int32) (x2 : Int32) (σ : Mem) {H : Heap} {locs : List Loc} (h : f_X6_recordsKept_4 n x1 x2 σ = some r) (hh : HH D cA ad A o s σ H locs) {ls : Array Slot} (hl : lv_has ls 3 [(0, .ref (ad 699 0)), (1, .int x1), (2, .int x2)]), W p l e rm_X6_recordsKept s m args below meth c H locs 0 0 (MQ below (Qi D cA ad o A r) args s 0 0 A) (F0 m 4 ls []) := by
  obtain ⟨⟨hx, hb, hml, hown, hts⟩, hK, hN, hD, hr, hlocks⟩ := id C
  intro n
  induction n with
  | zero =>
    intro x1 x2 σ H locs h
    rw [f_X6_recordsKept_4.eq_1] at h
    cases h
  | succ n ih =>
    intro x1 x2 σ H locs h hh ls hl
    rw [f_X6_recordsKept_4.eq_2] at h
    refine lv_iload_n hx hb dX6_recordsKept_4 rfl (lv_at hl 2 rfl) ?_
    refine lv_sipush (v := (1024 : Int32)) hx hb dX6_recordsKept_5 (by decide) ?_
    refine lv_icmp_ge (tgt := 29) hx hb dX6_recordsKept_8 (by decide) (fun c1 => ?_) (fun c1 => ?_)
    · rw [if_pos c1] at h
      refine lv_iload_n hx hb dX6_recordsKept_29 rfl (lv_at hl 1 rfl) ?_
      exact r_int C hh h dX6_recordsKept_30
    · rw [if_neg c1] at h
      refine lv_aload_n hx hb dX6_recordsKept_11 rfl (lv_at hl 0 rfl) ?_
      refine gf_6_21 C hh dX6_recordsKept_12 ?_
      refine lv_iload_n hx hb dX6_recordsKept_15 rfl (lv_at hl 2 rfl) ?_
      obtain ⟨b2, h⟩ := gd_e h
      refine al_602 C hh b2 dX6_recordsKept_16 ?_
      refine lv_if_eq (tgt := 23) hx hb dX6_recordsKept_17 (by decide) (fun c3 => ?_) (fun c3 => ?_)
      · rw [if_pos c3] at h
        exact k_X6_recordsKept_23 C ih x1 x2 σ h hh (lv_sub hl [0, 1, 2] rfl)
      · rw [if_neg c3] at h
        obtain ⟨v4, e5, h⟩ := vl_e h
        refine lv_iinc (v := v4) (lv' := [(1, .int v4), (0, .ref (ad 699 0)), (2, .int x2)]) hx hb dX6_recordsKept_20 hl (k := 1) rfl (by rw [e5]; rfl) (by decide) rfl (fun ls hl => ?_)
        exact k_X6_recordsKept_23 C ih v4 x2 σ h hh (lv_sub hl [1, 0, 2] rfl)
def f_X6_recordsKept (σ : Mem) : Option (Int32 × Mem) := f_X6_recordsKept_4 5000 (0 : Int32) (0 : Int32) σ
set_option maxHeartbeats 4000000 in
set_option maxRecDepth 100000 in
theorem c_X6_recordsKept {l : Launch} {D : va_G} {cA : Nat → ClassId} {ad : Nat → Nat → Nat} {A : Nat → Prop} {o : Nat → Int64} (hD0 : ∀ σ, va_D A (wW cA ad σ o)) (σ : Mem) {r : Int32 × Mem} (h : f_X6_recordsKept σ = some r) : Met l yX6_recordsKept (wsG yX6_recordsKept cX6_recordsKept 3 (some .int)) rm_X6_recordsKept (va_Pc [.ref (ad 699 0)] (IW D cA ad o σ)) (Qi D cA ad o A r) 0 0 A := by
  refine metG (by decide) (Nat.le_of_ble_eq_true rfl) hD0 ?_
  intro p e s m args below meth c C ls hh hl
  have C : Cx p s m args meth c cX6_recordsKept 3 RX6 (some .int) D cA ad A o := C
  have hl : lv_has ls 3 [(0, .ref (ad 699 0))] := hl
  obtain ⟨⟨hx, hb, hml, hown, hts⟩, hK, hN, hD, hr, hlocks⟩ := id C
  unfold f_X6_recordsKept at h
  refine lv_iconst (v := (0 : Int32)) hx hb dX6_recordsKept_0 (by decide) ?_
  refine lv_istore_n (lv' := [(1, .int (0 : Int32)), (0, .ref (ad 699 0))]) hx hb dX6_recordsKept_1 rfl hl (by decide) rfl (fun ls hl => ?_)
  refine lv_iconst (v := (0 : Int32)) hx hb dX6_recordsKept_2 (by decide) ?_
  refine lv_istore_n (lv' := [(2, .int (0 : Int32)), (1, .int (0 : Int32)), (0, .ref (ad 699 0))]) hx hb dX6_recordsKept_3 rfl hl (by decide) rfl (fun ls hl => ?_)
  exact k_X6_recordsKept_4 C 5000 (0 : Int32) (0 : Int32) σ h hh (lv_sub hl [2, 1, 0] rfl)
abbrev rm_X6_freeInPools : Room := { frames := 1, cells := 0, slots := 0, locals := 22 }
theorem HD_X6_freeInPools : yX6_freeInPools.cls = RX6 ∧ yX6_freeInPools.cls ≠ "java/lang/invoke/MethodHandle" ∧ yX6_freeInPools.cls ≠ "java/lang/invoke/VarHandle" ∧ (parseMethodDescriptor yX6_freeInPools.desc).map (fun d => d.parameters.length) = some 1 := by decide +kernel
def f_X6_freeInPools_61 (K4 : Int32 → Int32 → Int32 → Mem → Option (Int32 × Mem)) (x1 : Int32) (x2 : Int32) (x3 : Int32) (σ : Mem) : Option (Int32 × Mem) := vl (x3 + (1 : Int32)) (fun v1 => K4 x1 x2 v1 σ)
set_option maxHeartbeats 4000000 in
set_option maxRecDepth 100000 in
theorem k_X6_freeInPools_61 {p : Program} {l : Launch} {e : Env} {s : State} {m : MethodId} {args : Array Value} {below : List Frame} {meth : Method} {c : Code} {D : va_G} {cA : Nat → ClassId} {ad : Nat → Nat → Nat} {A : Nat → Prop} {o : Nat → Int64} (C : Cx p s m args meth c cX6_freeInPools 6 RX6 (some .int) D cA ad A o) {K4 : Int32 → Int32 → Int32 → Mem → Option (Int32 × Mem)} {r : Int32 × Mem} (hK4 : ∀ (x1 : Int32) (x2 : Int32) (x3 : Int32) (σ : Mem) {H : Heap} {locs : List Loc}, K4 x1 x2 x3 σ = some r → HH D cA ad A o s σ H locs → ∀ {ls : Array Slot}, lv_has ls 6 [(0, .ref (ad 699 0)), (1, .int x1), (2, .int x2), (3, .int x3)] → W p l e rm_X6_freeInPools s m args below meth c H locs 0 0 (MQ below (Qi D cA ad o A r) args s 0 0 A) (F0 m 4 ls [])) (x1 : Int32) (x2 : Int32) (x3 : Int32) (σ : Mem) {H : Heap} {locs : List Loc} (h : f_X6_freeInPools_61 K4 x1 x2 x3 σ = some r) (hh : HH D cA ad A o s σ H locs) {ls : Array Slot} (hl : lv_has ls 6 [(0, .ref (ad 699 0)), (1, .int x1), (2, .int x2), (3, .int x3)]) : W p l e rm_X6_freeInPools s m args below meth c H locs 0 0 (MQ below (Qi D cA ad o A r) args s 0 0 A) (F0 m 61 ls []) := by
  obtain ⟨⟨hx, hb, hml, hown, hts⟩, hK, hN, hD, hr, hlocks⟩ := id C
  unfold f_X6_freeInPools_61 at h
  obtain ⟨v1, e2, h⟩ := vl_e h
  refine lv_iinc (v := v1) (lv' := [(3, .int v1), (0, .ref (ad 699 0)), (1, .int x1), (2, .int x2)]) hx hb dX6_freeInPools_61 hl (k := 3) rfl (by rw [e2]; rfl) (by decide) rfl (fun ls hl => ?_)
  refine lv_goto (tgt := 4) hx hb dX6_freeInPools_64 (by decide) ?_
  exact hK4 x1 x2 v1 σ h hh (lv_sub hl [1, 2, 3, 0] rfl)
def f_X6_freeInPools_55 (K4 : Int32 → Int32 → Int32 → Mem → Option (Int32 × Mem)) (K24 : Int32 → Int32 → Int32 → Nat → Int32 → Mem → Option (Int32 × Mem)) (x1 : Int32) (x2 : Int32) (x3 : Int32) (j4 : Nat) (x5 : Int32) (σ : Mem) : Option (Int32 × Mem) := vl (x5 + (1 : Int32)) (fun v1 => K24 x1 x2 x3 j4 v1 σ)
set_option maxHeartbeats 4000000 in
set_option maxRecDepth 100000 in
theorem k_X6_freeInPools_55 {p : Program} {l : Launch} {e : Env} {s : State} {m : MethodId} {args : Array Value} {below : List Frame} {meth : Method} {c : Code} {D : va_G} {cA : Nat → ClassId} {ad : Nat → Nat → Nat} {A : Nat → Prop} {o : Nat → Int64} (C : Cx p s m args meth c cX6_freeInPools 6 RX6 (some .int) D cA ad A o) {K4 : Int32 → Int32 → Int32 → Mem → Option (Int32 × Mem)} {K24 : Int32 → Int32 → Int32 → Nat → Int32 → Mem → Option (Int32 × Mem)} {r : Int32 × Mem} (hK4 : ∀ (x1 : Int32) (x2 : Int32) (x3 : Int32) (σ : Mem) {H : Heap} {locs : List Loc}, K4 x1 x2 x3 σ = some r → HH D cA ad A o s σ H locs → ∀ {ls : Array Slot}, lv_has ls 6 [(0, .ref (ad 699 0)), (1, .int x1), (2, .int x2), (3, .int x3)] → W p l e rm_X6_freeInPools s m args below meth c H locs 0 0 (MQ below (Qi D cA ad o A r) args s 0 0 A) (F0 m 4 ls [])) (hK24 : ∀ (x1 : Int32) (x2 : Int32) (x3 : Int32) (j4 : Nat) (hj4 : j4 < 4) (x5 : Int32) (σ : Mem) {H : Heap} {locs : List Loc}, K24 x1 x2 x3 j4 x5 σ = some r → HH D cA ad A o s σ H locs → ∀ {ls : Array Slot}, lv_has ls 6 [(0, .ref (ad 699 0)), (1, .int x1), (2, .int x2), (3, .int x3), (4, .ref (ad 499 j4)), (5, .int x5)] → W p l e rm_X6_freeInPools s m args below meth c H locs 0 0 (MQ below (Qi D cA ad o A r) args s 0 0 A) (F0 m 24 ls [])) (x1 : Int32) (x2 : Int32) (x3 : Int32) (j4 : Nat) (hj4 : j4 < 4) (x5 : Int32) (σ : Mem) {H : Heap} {locs : List Loc} (h : f_X6_freeInPools_55 K4 K24 x1 x2 x3 j4 x5 σ = some r) (hh : HH D cA ad A o s σ H locs) {ls : Array Slot} (hl : lv_has ls 6 [(0, .ref (ad 699 0)), (1, .int x1), (2, .int x2), (3, .int x3), (4, .ref (ad 499 j4)), (5, .int x5)]) : W p l e rm_X6_freeInPools s m args below meth c H locs 0 0 (MQ below (Qi D cA ad o A r) args s 0 0 A) (F0 m 55 ls []) := by
  obtain ⟨⟨hx, hb, hml, hown, hts⟩, hK, hN, hD, hr, hlocks⟩ := id C
  unfold f_X6_freeInPools_55 at h
  obtain ⟨v1, e2, h⟩ := vl_e h
  refine lv_iinc (v := v1) (lv' := [(5, .int v1), (0, .ref (ad 699 0)), (1, .int x1), (2, .int x2), (3, .int x3), (4, .ref (ad 499 j4))]) hx hb dX6_freeInPools_55 hl (k := 5) rfl (by rw [e2]; rfl) (by decide) rfl (fun ls hl => ?_)
  refine lv_goto (tgt := 24) hx hb dX6_freeInPools_58 (by decide) ?_
  exact hK24 x1 x2 x3 j4 hj4 v1 σ h hh (lv_sub hl [1, 2, 3, 4, 5, 0] rfl)
def f_X6_freeInPools_24 (K4 : Int32 → Int32 → Int32 → Mem → Option (Int32 × Mem)) : Nat → Int32 → Int32 → Int32 → Nat → Int32 → Mem → Option (Int32 × Mem)
  | 0, _, _, _, _, _, _ => none
  | n + 1, x1, x2, x3, j4, x5, σ => bn (f_X4_exists j4 σ) (fun r3 s2 => (if r3 = (0 : Int32) then f_X6_freeInPools_61 K4 x1 x2 x3 s2 else (if (s2 401 j4 0) < x5 then f_X6_freeInPools_61 K4 x1 x2 x3 s2 else bn (f_X6_isFree x5 x1 s2) (fun r8 s7 => (if r8 = (0 : Int32) then f_X6_freeInPools_55 K4 (f_X6_freeInPools_24 K4 n) x1 x2 x3 j4 x5 s7 else vl (x2 + (1 : Int32)) (fun v10 => f_X6_freeInPools_55 K4 (f_X6_freeInPools_24 K4 n) x1 v10 x3 j4 x5 s7))))))
set_option maxHeartbeats 4000000 in
set_option maxRecDepth 100000 in
theorem k_X6_freeInPools_24 {p : Program} {l : Launch} {e : Env} {s : State} {m : MethodId} {args : Array Value} {below : List Frame} {meth : Method} {c : Code} {D : va_G} {cA : Nat → ClassId} {ad : Nat → Nat → Nat} {A : Nat → Prop} {o : Nat → Int64} (C : Cx p s m args meth c cX6_freeInPools 6 RX6 (some .int) D cA ad A o) {K4 : Int32 → Int32 → Int32 → Mem → Option (Int32 × Mem)} {r : Int32 × Mem} (hK4 : ∀ (x1 : Int32) (x2 : Int32) (x3 : Int32) (σ : Mem) {H : Heap} {locs : List Loc}, K4 x1 x2 x3 σ = some r → HH D cA ad A o s σ H locs → ∀ {ls : Array Slot}, lv_has ls 6 [(0, .ref (ad 699 0)), (1, .int x1), (2, .int x2), (3, .int x3)] → W p l e rm_X6_freeInPools s m args below meth c H locs 0 0 (MQ below (Qi D cA ad o A r) args s 0 0 A) (F0 m 4 ls [])) : ∀ (n : Nat) (x1 : Int32) (x2 : Int32) (x3 : Int32) (j4 : Nat) (hj4 : j4 < 4) (x5 : Int32) (σ : Mem) {H : Heap} {locs : List Loc} (h : f_X6_freeInPools_24 K4 n x1 x2 x3 j4 x5 σ = some r) (hh : HH D cA ad A o s σ H locs) {ls : Array Slot} (hl : lv_has ls 6 [(0, .ref (ad 699 0)), (1, .int x1), (2, .int x2), (3, .int x3), (4, .ref (ad 499 j4)), (5, .int x5)]), W p l e rm_X6_freeInPools s m args below meth c H locs 0 0 (MQ below (Qi D cA ad o A r) args s 0 0 A) (F0 m 24 ls []) := by
  obtain ⟨⟨hx, hb, hml, hown, hts⟩, hK, hN, hD, hr, hlocks⟩ := id C
  intro n
  induction n with
  | zero =>
    intro x1 x2 x3 j4 hj4 x5 σ H locs h
    rw [f_X6_freeInPools_24.eq_1] at h
    cases h
  | succ n ih =>
    intro x1 x2 x3 j4 hj4 x5 σ H locs h hh ls hl
    rw [f_X6_freeInPools_24.eq_2] at h
    refine lv_aload hx hb dX6_freeInPools_24 (lv_at hl 4 rfl) ?_
    obtain ⟨r3, s2, e1, h⟩ := bn_e h
    refine c_int hh (vrun (rest := []) C hh (c_X4_exists C.2.2.2.1 j4 hj4 σ e1) LM_6_48 IM_X4_exists SL_X4_exists IN_4 CD_X4_exists HD_X4_exists ⟨rfl, rfl, Nat.le_of_ble_eq_true rfl, Nat.le_of_ble_eq_true rfl⟩ (rv_4 C hh hj4) rfl hl.1 rfl (Nat.le_of_ble_eq_true rfl) dX6_freeInPools_26 ⟨Nat.zero_le _, Nat.zero_le _⟩) (fun H locs hh => ?_)
    refine lv_if_eq (tgt := 61) hx hb dX6_freeInPools_29 (by decide) (fun c4 => ?_) (fun c4 => ?_)
    · rw [if_pos c4] at h
      exact k_X6_freeInPools_61 C hK4 x1 x2 x3 s2 h hh (lv_sub hl [0, 1, 2, 3] rfl)
    · rw [if_neg c4] at h
      refine lv_iload hx hb dX6_freeInPools_32 (lv_at hl 5 rfl) ?_
      refine lv_aload hx hb dX6_freeInPools_34 (lv_at hl 4 rfl) ?_
      refine gf_6_52 C hh hj4 dX6_freeInPools_36 ?_
      refine lv_icmp_gt (tgt := 61) hx hb dX6_freeInPools_39 (by decide) (fun c5 => ?_) (fun c5 => ?_)
      · rw [if_pos c5] at h
        exact k_X6_freeInPools_61 C hK4 x1 x2 x3 s2 h hh (lv_sub hl [0, 1, 2, 3] rfl)
      · rw [if_neg c5] at h
        refine lv_aload_n hx hb dX6_freeInPools_42 rfl (lv_at hl 0 rfl) ?_
        refine lv_iload hx hb dX6_freeInPools_43 (lv_at hl 5 rfl) ?_
        refine lv_iload_n hx hb dX6_freeInPools_45 rfl (lv_at hl 1 rfl) ?_
        obtain ⟨r8, s7, e6, h⟩ := bn_e h
        refine c_int hh (vrun (rest := []) C hh (c_X6_isFree C.2.2.2.1 x5 x1 s2 e6) LM_6_55 IM_X6_isFree SL_X6_isFree IN_6 CD_X6_isFree HD_X6_isFree ⟨rfl, rfl, Nat.le_of_ble_eq_true rfl, Nat.le_of_ble_eq_true rfl⟩ (rv_6 C hh) rfl hl.1 rfl (Nat.le_of_ble_eq_true rfl) dX6_freeInPools_46 ⟨Nat.zero_le _, Nat.zero_le _⟩) (fun H locs hh => ?_)
        refine lv_if_eq (tgt := 55) hx hb dX6_freeInPools_49 (by decide) (fun c9 => ?_) (fun c9 => ?_)
        · rw [if_pos c9] at h
          exact k_X6_freeInPools_55 C hK4 ih x1 x2 x3 j4 hj4 x5 s7 h hh (lv_sub hl [0, 1, 2, 3, 4, 5] rfl)
        · rw [if_neg c9] at h
          obtain ⟨v10, e11, h⟩ := vl_e h
          refine lv_iinc (v := v10) (lv' := [(2, .int v10), (0, .ref (ad 699 0)), (1, .int x1), (3, .int x3), (4, .ref (ad 499 j4)), (5, .int x5)]) hx hb dX6_freeInPools_52 hl (k := 2) rfl (by rw [e11]; rfl) (by decide) rfl (fun ls hl => ?_)
          exact k_X6_freeInPools_55 C hK4 ih x1 v10 x3 j4 hj4 x5 s7 h hh (lv_sub hl [1, 2, 0, 3, 4, 5] rfl)
def f_X6_freeInPools_4 : Nat → Int32 → Int32 → Int32 → Mem → Option (Int32 × Mem)
  | 0, _, _, _, _ => none
  | n + 1, x1, x2, x3, σ => (if (4 : Int32) ≤ x3 then some (x2, σ) else gd (vin x3 4) (f_X6_freeInPools_24 (f_X6_freeInPools_4 n) 5000 x1 x2 x3 ((x3).toNatClampNeg) (σ 400 ((x3).toNatClampNeg) 0) σ))
set_option maxHeartbeats 4000000 in
set_option maxRecDepth 100000 in
theorem k_X6_freeInPools_4 {p : Program} {l : Launch} {e : Env} {s : State} {m : MethodId} {args : Array Value} {below : List Frame} {meth : Method} {c : Code} {D : va_G} {cA : Nat → ClassId} {ad : Nat → Nat → Nat} {A : Nat → Prop} {o : Nat → Int64} (C : Cx p s m args meth c cX6_freeInPools 6 RX6 (some .int) D cA ad A o) {r : Int32 × Mem} : ∀ (n : Nat) (x1 : Int32) (x2 : Int32) (x3 : Int32) (σ : Mem) {H : Heap} {locs : List Loc} (h : f_X6_freeInPools_4 n x1 x2 x3 σ = some r) (hh : HH D cA ad A o s σ H locs) {ls : Array Slot} (hl : lv_has ls 6 [(0, .ref (ad 699 0)), (1, .int x1), (2, .int x2), (3, .int x3)]), W p l e rm_X6_freeInPools s m args below meth c H locs 0 0 (MQ below (Qi D cA ad o A r) args s 0 0 A) (F0 m 4 ls []) := by
  obtain ⟨⟨hx, hb, hml, hown, hts⟩, hK, hN, hD, hr, hlocks⟩ := id C
  intro n
  induction n with
  | zero =>
    intro x1 x2 x3 σ H locs h
    rw [f_X6_freeInPools_4.eq_1] at h
    cases h
  | succ n ih =>
    intro x1 x2 x3 σ H locs h hh ls hl
    rw [f_X6_freeInPools_4.eq_2] at h
    refine lv_iload_n hx hb dX6_freeInPools_4 rfl (lv_at hl 3 rfl) ?_
    refine lv_iconst (v := (4 : Int32)) hx hb dX6_freeInPools_5 (by decide) ?_
    refine lv_icmp_ge (tgt := 67) hx hb dX6_freeInPools_6 (by decide) (fun c1 => ?_) (fun c1 => ?_)
    · rw [if_pos c1] at h
      refine lv_iload_n hx hb dX6_freeInPools_67 rfl (lv_at hl 2 rfl) ?_
      exact r_int C hh h dX6_freeInPools_68
    · rw [if_neg c1] at h
      refine lv_aload_n hx hb dX6_freeInPools_9 rfl (lv_at hl 0 rfl) ?_
      refine gf_6_17 C hh dX6_freeInPools_10 ?_
      refine lv_iload_n hx hb dX6_freeInPools_13 rfl (lv_at hl 3 rfl) ?_
      obtain ⟨b2, h⟩ := gd_e h
      refine al_601 C hh b2 dX6_freeInPools_14 ?_
      refine lv_astore (lv' := [(4, .ref (ad 499 ((x3).toNatClampNeg))), (0, .ref (ad 699 0)), (1, .int x1), (2, .int x2), (3, .int x3)]) hx hb dX6_freeInPools_15 hl (by decide) rfl (fun ls hl => ?_)
      refine lv_aload hx hb dX6_freeInPools_17 (lv_at hl 0 rfl) ?_
      refine gf_6_44 C hh (vin_l b2) dX6_freeInPools_19 ?_
      refine lv_istore (lv' := [(5, .int (σ 400 ((x3).toNatClampNeg) 0)), (4, .ref (ad 499 ((x3).toNatClampNeg))), (0, .ref (ad 699 0)), (1, .int x1), (2, .int x2), (3, .int x3)]) hx hb dX6_freeInPools_22 hl (by decide) rfl (fun ls hl => ?_)
      exact k_X6_freeInPools_24 C ih 5000 x1 x2 x3 ((x3).toNatClampNeg) (vin_l b2) (σ 400 ((x3).toNatClampNeg) 0) σ h hh (lv_sub hl [2, 3, 4, 5, 1, 0] rfl)
def f_X6_freeInPools (x1 : Int32) (σ : Mem) : Option (Int32 × Mem) := f_X6_freeInPools_4 5000 x1 (0 : Int32) (0 : Int32) σ
set_option maxHeartbeats 4000000 in
set_option maxRecDepth 100000 in
theorem c_X6_freeInPools {l : Launch} {D : va_G} {cA : Nat → ClassId} {ad : Nat → Nat → Nat} {A : Nat → Prop} {o : Nat → Int64} (hD0 : ∀ σ, va_D A (wW cA ad σ o)) (x1 : Int32) (σ : Mem) {r : Int32 × Mem} (h : f_X6_freeInPools x1 σ = some r) : Met l yX6_freeInPools (wsG yX6_freeInPools cX6_freeInPools 6 (some .int)) rm_X6_freeInPools (va_Pc [.ref (ad 699 0), .int x1] (IW D cA ad o σ)) (Qi D cA ad o A r) 0 0 A := by
  refine metG (by decide) (Nat.le_of_ble_eq_true rfl) hD0 ?_
  intro p e s m args below meth c C ls hh hl
  have C : Cx p s m args meth c cX6_freeInPools 6 RX6 (some .int) D cA ad A o := C
  have hl : lv_has ls 6 [(0, .ref (ad 699 0)), (1, .int x1)] := hl
  obtain ⟨⟨hx, hb, hml, hown, hts⟩, hK, hN, hD, hr, hlocks⟩ := id C
  unfold f_X6_freeInPools at h
  refine lv_iconst (v := (0 : Int32)) hx hb dX6_freeInPools_0 (by decide) ?_
  refine lv_istore_n (lv' := [(2, .int (0 : Int32)), (0, .ref (ad 699 0)), (1, .int x1)]) hx hb dX6_freeInPools_1 rfl hl (by decide) rfl (fun ls hl => ?_)
  refine lv_iconst (v := (0 : Int32)) hx hb dX6_freeInPools_2 (by decide) ?_
  refine lv_istore_n (lv' := [(3, .int (0 : Int32)), (2, .int (0 : Int32)), (0, .ref (ad 699 0)), (1, .int x1)]) hx hb dX6_freeInPools_3 rfl hl (by decide) rfl (fun ls hl => ?_)
  exact k_X6_freeInPools_4 C 5000 x1 (0 : Int32) (0 : Int32) σ h hh (lv_sub hl [2, 3, 1, 0] rfl)
