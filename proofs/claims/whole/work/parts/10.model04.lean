abbrev rm_X8_hear : Room := { frames := 5, cells := 0, slots := 0, locals := 114 }
theorem HD_X8_hear : yX8_hear.cls = RX8 ∧ yX8_hear.cls ≠ "java/lang/invoke/MethodHandle" ∧ yX8_hear.cls ≠ "java/lang/invoke/VarHandle" ∧ (parseMethodDescriptor yX8_hear.desc).map (fun d => d.parameters.length) = some 1 := by decide +kernel
def f_X8_hear_185 (x1 : Int32) (x2 : Int32) (σ : Mem) : Option (Mem) := (if (σ 833 0 0) = (6 : Int32) then (if x2 = (0 : Int32) then some σ else bv (f_X8_begin x1 σ) (fun s4 => some s4)) else some σ)
set_option maxHeartbeats 4000000 in
set_option maxRecDepth 100000 in
theorem k_X8_hear_185 {p : Program} {l : Launch} {e : Env} {s : State} {m : MethodId} {args : Array Value} {below : List Frame} {meth : Method} {c : Code} {D : va_G} {cA : Nat → ClassId} {ad : Nat → Nat → Nat} {A : Nat → Prop} {o : Nat → Int64} (C : Cx p s m args meth c cX8_hear 3 RX8 none D cA ad A o) {r : Mem} (x1 : Int32) (x2 : Int32) (σ : Mem) {H : Heap} {locs : List Loc} (h : f_X8_hear_185 x1 x2 σ = some r) (hh : HH D cA ad A o s σ H locs) {ls : Array Slot} (hl : lv_has ls 3 [(0, .ref (ad 899 0)), (1, .int x1), (2, .int x2)]) : W p l e rm_X8_hear s m args below meth c H locs 0 0 (MQ below (Qv D cA ad o A r) args s 0 0 A) (F0 m 185 ls []) := by
  obtain ⟨⟨hx, hb, hml, hown, hts⟩, hK, hN, hD, hr, hlocks⟩ := id C
  unfold f_X8_hear_185 at h
  refine lv_aload_n hx hb dX8_hear_185 rfl (lv_at hl 0 rfl) ?_
  refine gf_8_98 C hh dX8_hear_186 ?_
  refine lv_bipush (v := (6 : Int32)) hx hb dX8_hear_189 (by decide) ?_
  refine lv_icmp_ne (tgt := 203) hx hb dX8_hear_191 (by decide) (fun c1 => ?_) (fun c1 => ?_)
  · rw [if_neg c1] at h
    exact r_void C hh h dX8_hear_203
  · rw [if_pos c1] at h
    refine lv_iload_n hx hb dX8_hear_194 rfl (lv_at hl 2 rfl) ?_
    refine lv_if_eq (tgt := 203) hx hb dX8_hear_195 (by decide) (fun c2 => ?_) (fun c2 => ?_)
    · rw [if_pos c2] at h
      exact r_void C hh h dX8_hear_203
    · rw [if_neg c2] at h
      refine lv_aload_n hx hb dX8_hear_198 rfl (lv_at hl 0 rfl) ?_
      refine lv_iload_n hx hb dX8_hear_199 rfl (lv_at hl 1 rfl) ?_
      obtain ⟨s4, e3, h⟩ := bv_e h
      refine c_void hh (vrun (rest := []) C hh (c_X8_begin C.2.2.2.1 x1 σ e3) LM_8_222 IM_X8_begin SL_X8_begin IN_8 CD_X8_begin HD_X8_begin ⟨rfl, rfl, Nat.le_of_ble_eq_true rfl, Nat.le_of_ble_eq_true rfl⟩ (rv_8 C hh) rfl hl.1 rfl (Nat.le_of_ble_eq_true rfl) dX8_hear_200 ⟨Nat.zero_le _, Nat.zero_le _⟩) (fun H locs hh => ?_)
      exact r_void C hh h dX8_hear_203
def f_X8_hear_165 (x1 : Int32) (x2 : Int32) (σ : Mem) : Option (Mem) := (if (σ 833 0 0) = (5 : Int32) then (if x2 = (0 : Int32) then f_X8_hear_185 x1 x2 σ else bv (f_X8_acknowledged x1 σ) (fun s4 => some s4)) else f_X8_hear_185 x1 x2 σ)
set_option maxHeartbeats 4000000 in
set_option maxRecDepth 100000 in
theorem k_X8_hear_165 {p : Program} {l : Launch} {e : Env} {s : State} {m : MethodId} {args : Array Value} {below : List Frame} {meth : Method} {c : Code} {D : va_G} {cA : Nat → ClassId} {ad : Nat → Nat → Nat} {A : Nat → Prop} {o : Nat → Int64} (C : Cx p s m args meth c cX8_hear 3 RX8 none D cA ad A o) {r : Mem} (x1 : Int32) (x2 : Int32) (σ : Mem) {H : Heap} {locs : List Loc} (h : f_X8_hear_165 x1 x2 σ = some r) (hh : HH D cA ad A o s σ H locs) {ls : Array Slot} (hl : lv_has ls 3 [(0, .ref (ad 899 0)), (1, .int x1), (2, .int x2)]) : W p l e rm_X8_hear s m args below meth c H locs 0 0 (MQ below (Qv D cA ad o A r) args s 0 0 A) (F0 m 165 ls []) := by
  obtain ⟨⟨hx, hb, hml, hown, hts⟩, hK, hN, hD, hr, hlocks⟩ := id C
  unfold f_X8_hear_165 at h
  refine lv_aload_n hx hb dX8_hear_165 rfl (lv_at hl 0 rfl) ?_
  refine gf_8_98 C hh dX8_hear_166 ?_
  refine lv_iconst (v := (5 : Int32)) hx hb dX8_hear_169 (by decide) ?_
  refine lv_icmp_ne (tgt := 185) hx hb dX8_hear_170 (by decide) (fun c1 => ?_) (fun c1 => ?_)
  · rw [if_neg c1] at h
    exact k_X8_hear_185 C x1 x2 σ h hh (lv_sub hl [0, 1, 2] rfl)
  · rw [if_pos c1] at h
    refine lv_iload_n hx hb dX8_hear_173 rfl (lv_at hl 2 rfl) ?_
    refine lv_if_eq (tgt := 185) hx hb dX8_hear_174 (by decide) (fun c2 => ?_) (fun c2 => ?_)
    · rw [if_pos c2] at h
      exact k_X8_hear_185 C x1 x2 σ h hh (lv_sub hl [0, 1, 2] rfl)
    · rw [if_neg c2] at h
      refine lv_aload_n hx hb dX8_hear_177 rfl (lv_at hl 0 rfl) ?_
      refine lv_iload_n hx hb dX8_hear_178 rfl (lv_at hl 1 rfl) ?_
      obtain ⟨s4, e3, h⟩ := bv_e h
      refine c_void hh (vrun (rest := []) C hh (c_X8_acknowledged C.2.2.2.1 x1 σ e3) LM_8_219 IM_X8_acknowledged SL_X8_acknowledged IN_8 CD_X8_acknowledged HD_X8_acknowledged ⟨rfl, rfl, Nat.le_of_ble_eq_true rfl, Nat.le_of_ble_eq_true rfl⟩ (rv_8 C hh) rfl hl.1 rfl (Nat.le_of_ble_eq_true rfl) dX8_hear_179 ⟨Nat.zero_le _, Nat.zero_le _⟩) (fun H locs hh => ?_)
      refine lv_goto (tgt := 203) hx hb dX8_hear_182 (by decide) ?_
      exact r_void C hh h dX8_hear_203
def f_X8_hear_90 (x1 : Int32) (xs0 : Int32) (σ : Mem) : Option (Mem) := (if (σ 833 0 0) = (2 : Int32) then gd (vin x1 12) ((if (σ 812 0 (x1).toNatClampNeg) = (1 : Int32) then bn (f_X8_yiaddr σ) (fun r6 s5 => (if r6 = (0 : Int32) then f_X8_hear_165 x1 xs0 s5 else (if (s5 836 0 0) = (0 : Int32) then f_X8_hear_165 x1 xs0 s5 else bn (f_X8_yiaddr s5) (fun r11 s10 => gd (vin x1 12) (vl (up s10 821 0 (x1).toNatClampNeg r11) (fun s13 => gd (vin x1 12) (vl (up s13 822 0 (x1).toNatClampNeg (s13 836 0 0)) (fun s16 => gd (vin x1 12) (vl (up s16 812 0 (x1).toNatClampNeg (2 : Int32)) (fun s19 => gd (vin x1 12) (vl (up s19 820 0 (x1).toNatClampNeg (1 : Int32)) (fun s22 => bv (f_X8_sayRequest x1 s22) (fun s25 => some s25))))))))))))) else f_X8_hear_165 x1 xs0 σ)) else f_X8_hear_165 x1 xs0 σ)
set_option maxHeartbeats 4000000 in
set_option maxRecDepth 100000 in
theorem k_X8_hear_90 {p : Program} {l : Launch} {e : Env} {s : State} {m : MethodId} {args : Array Value} {below : List Frame} {meth : Method} {c : Code} {D : va_G} {cA : Nat → ClassId} {ad : Nat → Nat → Nat} {A : Nat → Prop} {o : Nat → Int64} (C : Cx p s m args meth c cX8_hear 3 RX8 none D cA ad A o) {r : Mem} (x1 : Int32) (xs0 : Int32) (σ : Mem) {H : Heap} {locs : List Loc} (h : f_X8_hear_90 x1 xs0 σ = some r) (hh : HH D cA ad A o s σ H locs) {ls : Array Slot} (hl : lv_has ls 3 [(0, .ref (ad 899 0)), (1, .int x1)]) : W p l e rm_X8_hear s m args below meth c H locs 0 0 (MQ below (Qv D cA ad o A r) args s 0 0 A) (F0 m 90 ls [.int xs0]) := by
  obtain ⟨⟨hx, hb, hml, hown, hts⟩, hK, hN, hD, hr, hlocks⟩ := id C
  unfold f_X8_hear_90 at h
  refine lv_istore_n (lv' := [(2, .int xs0), (0, .ref (ad 899 0)), (1, .int x1)]) hx hb dX8_hear_90 rfl hl (by decide) rfl (fun ls hl => ?_)
  refine lv_aload_n hx hb dX8_hear_91 rfl (lv_at hl 1 rfl) ?_
  refine gf_8_98 C hh dX8_hear_92 ?_
  refine lv_iconst (v := (2 : Int32)) hx hb dX8_hear_95 (by decide) ?_
  refine lv_icmp_ne (tgt := 165) hx hb dX8_hear_96 (by decide) (fun c1 => ?_) (fun c1 => ?_)
  · rw [if_neg c1] at h
    exact k_X8_hear_165 C x1 xs0 σ h hh (lv_sub hl [1, 2, 0] rfl)
  · rw [if_pos c1] at h
    refine lv_aload_n hx hb dX8_hear_99 rfl (lv_at hl 1 rfl) ?_
    refine gf_8_38 C hh dX8_hear_100 ?_
    refine lv_iload_n hx hb dX8_hear_103 rfl (lv_at hl 2 rfl) ?_
    obtain ⟨b2, h⟩ := gd_e h
    refine al_812 C hh b2 dX8_hear_104 ?_
    refine lv_iconst (v := (1 : Int32)) hx hb dX8_hear_105 (by decide) ?_
    refine lv_icmp_ne (tgt := 165) hx hb dX8_hear_106 (by decide) (fun c3 => ?_) (fun c3 => ?_)
    · rw [if_neg c3] at h
      exact k_X8_hear_165 C x1 xs0 σ h hh (lv_sub hl [1, 2, 0] rfl)
    · rw [if_pos c3] at h
      refine lv_aload_n hx hb dX8_hear_109 rfl (lv_at hl 1 rfl) ?_
      obtain ⟨r6, s5, e4, h⟩ := bn_e h
      refine c_int hh (vrun (rest := []) C hh (c_X8_yiaddr C.2.2.2.1 σ e4) LM_8_213 IM_X8_yiaddr SL_X8_yiaddr IN_8 CD_X8_yiaddr HD_X8_yiaddr ⟨rfl, rfl, Nat.le_of_ble_eq_true rfl, Nat.le_of_ble_eq_true rfl⟩ (rv_8 C hh) rfl hl.1 rfl (Nat.le_of_ble_eq_true rfl) dX8_hear_110 ⟨Nat.zero_le _, Nat.zero_le _⟩) (fun H locs hh => ?_)
      refine lv_if_eq (tgt := 165) hx hb dX8_hear_113 (by decide) (fun c7 => ?_) (fun c7 => ?_)
      · rw [if_pos c7] at h
        exact k_X8_hear_165 C x1 xs0 s5 h hh (lv_sub hl [1, 2, 0] rfl)
      · rw [if_neg c7] at h
        refine lv_aload_n hx hb dX8_hear_116 rfl (lv_at hl 1 rfl) ?_
        refine gf_8_107 C hh dX8_hear_117 ?_
        refine lv_if_eq (tgt := 165) hx hb dX8_hear_120 (by decide) (fun c8 => ?_) (fun c8 => ?_)
        · rw [if_pos c8] at h
          exact k_X8_hear_165 C x1 xs0 s5 h hh (lv_sub hl [1, 2, 0] rfl)
        · rw [if_neg c8] at h
          refine lv_aload_n hx hb dX8_hear_123 rfl (lv_at hl 1 rfl) ?_
          refine gf_8_65 C hh dX8_hear_124 ?_
          refine lv_iload_n hx hb dX8_hear_127 rfl (lv_at hl 2 rfl) ?_
          refine lv_aload_n hx hb dX8_hear_128 rfl (lv_at hl 1 rfl) ?_
          obtain ⟨r11, s10, e9, h⟩ := bn_e h
          refine c_int hh (vrun (rest := [.int x1, .ref (ad 821 0)]) C hh (c_X8_yiaddr C.2.2.2.1 s5 e9) LM_8_213 IM_X8_yiaddr SL_X8_yiaddr IN_8 CD_X8_yiaddr HD_X8_yiaddr ⟨rfl, rfl, Nat.le_of_ble_eq_true rfl, Nat.le_of_ble_eq_true rfl⟩ (rv_8 C hh) rfl hl.1 rfl (Nat.le_of_ble_eq_true rfl) dX8_hear_129 ⟨Nat.zero_le _, Nat.zero_le _⟩) (fun H locs hh => ?_)
          obtain ⟨b12, h⟩ := gd_e h
          obtain ⟨s13, e14, h⟩ := vl_e h
          refine as_821 C hh b12 dX8_hear_132 (fun H locs hh => ?_)
          rw [← e14] at hh
          refine lv_aload_n hx hb dX8_hear_133 rfl (lv_at hl 1 rfl) ?_
          refine gf_8_68 C hh dX8_hear_134 ?_
          refine lv_iload_n hx hb dX8_hear_137 rfl (lv_at hl 2 rfl) ?_
          refine lv_aload_n hx hb dX8_hear_138 rfl (lv_at hl 1 rfl) ?_
          refine gf_8_107 C hh dX8_hear_139 ?_
          obtain ⟨b15, h⟩ := gd_e h
          obtain ⟨s16, e17, h⟩ := vl_e h
          refine as_822 C hh b15 dX8_hear_142 (fun H locs hh => ?_)
          rw [← e17] at hh
          refine lv_aload_n hx hb dX8_hear_143 rfl (lv_at hl 1 rfl) ?_
          refine gf_8_38 C hh dX8_hear_144 ?_
          refine lv_iload_n hx hb dX8_hear_147 rfl (lv_at hl 2 rfl) ?_
          refine lv_iconst (v := (2 : Int32)) hx hb dX8_hear_148 (by decide) ?_
          obtain ⟨b18, h⟩ := gd_e h
          obtain ⟨s19, e20, h⟩ := vl_e h
          refine as_812 C hh b18 dX8_hear_149 (fun H locs hh => ?_)
          rw [← e20] at hh
          refine lv_aload_n hx hb dX8_hear_150 rfl (lv_at hl 1 rfl) ?_
          refine gf_8_62 C hh dX8_hear_151 ?_
          refine lv_iload_n hx hb dX8_hear_154 rfl (lv_at hl 2 rfl) ?_
          refine lv_iconst (v := (1 : Int32)) hx hb dX8_hear_155 (by decide) ?_
          obtain ⟨b21, h⟩ := gd_e h
          obtain ⟨s22, e23, h⟩ := vl_e h
          refine as_820 C hh b21 dX8_hear_156 (fun H locs hh => ?_)
          rw [← e23] at hh
          refine lv_aload_n hx hb dX8_hear_157 rfl (lv_at hl 1 rfl) ?_
          refine lv_iload_n hx hb dX8_hear_158 rfl (lv_at hl 2 rfl) ?_
          obtain ⟨s25, e24, h⟩ := bv_e h
          refine c_void hh (vrun (rest := []) C hh (c_X8_sayRequest C.2.2.2.1 x1 s22 e24) LM_8_216 IM_X8_sayRequest SL_X8_sayRequest IN_8 CD_X8_sayRequest HD_X8_sayRequest ⟨rfl, rfl, Nat.le_of_ble_eq_true rfl, Nat.le_of_ble_eq_true rfl⟩ (rv_8 C hh) rfl hl.1 rfl (Nat.le_of_ble_eq_true rfl) dX8_hear_159 ⟨Nat.zero_le _, Nat.zero_le _⟩) (fun H locs hh => ?_)
          refine lv_goto (tgt := 203) hx hb dX8_hear_162 (by decide) ?_
          exact r_void C hh h dX8_hear_203
def f_X8_hear_85 (x1 : Int32) (σ : Mem) : Option (Mem) := f_X8_hear_90 x1 (1 : Int32) σ
set_option maxHeartbeats 4000000 in
set_option maxRecDepth 100000 in
theorem k_X8_hear_85 {p : Program} {l : Launch} {e : Env} {s : State} {m : MethodId} {args : Array Value} {below : List Frame} {meth : Method} {c : Code} {D : va_G} {cA : Nat → ClassId} {ad : Nat → Nat → Nat} {A : Nat → Prop} {o : Nat → Int64} (C : Cx p s m args meth c cX8_hear 3 RX8 none D cA ad A o) {r : Mem} (x1 : Int32) (σ : Mem) {H : Heap} {locs : List Loc} (h : f_X8_hear_85 x1 σ = some r) (hh : HH D cA ad A o s σ H locs) {ls : Array Slot} (hl : lv_has ls 3 [(0, .ref (ad 899 0)), (1, .int x1)]) : W p l e rm_X8_hear s m args below meth c H locs 0 0 (MQ below (Qv D cA ad o A r) args s 0 0 A) (F0 m 85 ls []) := by
  obtain ⟨⟨hx, hb, hml, hown, hts⟩, hK, hN, hD, hr, hlocks⟩ := id C
  unfold f_X8_hear_85 at h
  refine lv_iconst (v := (1 : Int32)) hx hb dX8_hear_85 (by decide) ?_
  refine lv_goto (tgt := 90) hx hb dX8_hear_86 (by decide) ?_
  exact k_X8_hear_90 C x1 (1 : Int32) σ h hh (lv_sub hl [0, 1] rfl)
def f_X8_hear (x1 : Int32) (σ : Mem) : Option (Mem) := gd (vin x1 12) ((if (σ 812 0 (x1).toNatClampNeg) = (0 : Int32) then some σ else gd (vin (0 : Int32) 64) ((if (σ 829 0 ((0 : Int32)).toNatClampNeg) = (2 : Int32) then gd (vin (18 : Int32) 64) ((if (σ 829 0 ((18 : Int32)).toNatClampNeg) = x1 then bn (f_X8_xidOf σ) (fun r9 s8 => gd (vin x1 12) ((if r9 = (s8 818 0 (x1).toNatClampNeg) then gd (vin x1 12) ((if (s8 812 0 (x1).toNatClampNeg) = (2 : Int32) then f_X8_hear_85 x1 s8 else gd (vin x1 12) ((if (s8 812 0 (x1).toNatClampNeg) = (4 : Int32) then f_X8_hear_85 x1 s8 else gd (vin x1 12) ((if (s8 812 0 (x1).toNatClampNeg) = (5 : Int32) then f_X8_hear_85 x1 s8 else gd (vin x1 12) ((if (s8 812 0 (x1).toNatClampNeg) = (6 : Int32) then f_X8_hear_85 x1 s8 else f_X8_hear_90 x1 (0 : Int32) s8)))))))) else some s8))) else some σ)) else some σ))))
set_option maxHeartbeats 4000000 in
set_option maxRecDepth 100000 in
theorem c_X8_hear {l : Launch} {D : va_G} {cA : Nat → ClassId} {ad : Nat → Nat → Nat} {A : Nat → Prop} {o : Nat → Int64} (hD0 : ∀ σ, va_D A (wW cA ad σ o)) (x1 : Int32) (σ : Mem) {r : Mem} (h : f_X8_hear x1 σ = some r) : Met l yX8_hear (wsG yX8_hear cX8_hear 3 none) rm_X8_hear (va_Pc [.ref (ad 899 0), .int x1] (IW D cA ad o σ)) (Qv D cA ad o A r) 0 0 A := by
  refine metG (by decide) (Nat.le_of_ble_eq_true rfl) hD0 ?_
  intro p e s m args below meth c C ls hh hl
  have C : Cx p s m args meth c cX8_hear 3 RX8 none D cA ad A o := C
  have hl : lv_has ls 3 [(0, .ref (ad 899 0)), (1, .int x1)] := hl
  obtain ⟨⟨hx, hb, hml, hown, hts⟩, hK, hN, hD, hr, hlocks⟩ := id C
  unfold f_X8_hear at h
  refine lv_aload_n hx hb dX8_hear_0 rfl (lv_at hl 0 rfl) ?_
  refine gf_8_38 C hh dX8_hear_1 ?_
  refine lv_iload_n hx hb dX8_hear_4 rfl (lv_at hl 1 rfl) ?_
  obtain ⟨b1, h⟩ := gd_e h
  refine al_812 C hh b1 dX8_hear_5 ?_
  refine lv_if_eq (tgt := 43) hx hb dX8_hear_6 (by decide) (fun c2 => ?_) (fun c2 => ?_)
  · rw [if_pos c2] at h
    exact r_void C hh h dX8_hear_43
  · rw [if_neg c2] at h
    refine lv_aload_n hx hb dX8_hear_9 rfl (lv_at hl 0 rfl) ?_
    refine gf_8_80 C hh dX8_hear_10 ?_
    refine lv_iconst (v := (0 : Int32)) hx hb dX8_hear_13 (by decide) ?_
    obtain ⟨b3, h⟩ := gd_e h
    refine al_829 C hh b3 dX8_hear_14 ?_
    refine lv_iconst (v := (2 : Int32)) hx hb dX8_hear_15 (by decide) ?_
    refine lv_icmp_ne (tgt := 43) hx hb dX8_hear_16 (by decide) (fun c4 => ?_) (fun c4 => ?_)
    · rw [if_neg c4] at h
      exact r_void C hh h dX8_hear_43
    · rw [if_pos c4] at h
      refine lv_aload_n hx hb dX8_hear_19 rfl (lv_at hl 0 rfl) ?_
      refine gf_8_80 C hh dX8_hear_20 ?_
      refine lv_bipush (v := (18 : Int32)) hx hb dX8_hear_23 (by decide) ?_
      obtain ⟨b5, h⟩ := gd_e h
      refine al_829 C hh b5 dX8_hear_25 ?_
      refine lv_iload_n hx hb dX8_hear_26 rfl (lv_at hl 1 rfl) ?_
      refine lv_icmp_ne (tgt := 43) hx hb dX8_hear_27 (by decide) (fun c6 => ?_) (fun c6 => ?_)
      · rw [if_neg c6] at h
        exact r_void C hh h dX8_hear_43
      · rw [if_pos c6] at h
        refine lv_aload_n hx hb dX8_hear_30 rfl (lv_at hl 0 rfl) ?_
        obtain ⟨r9, s8, e7, h⟩ := bn_e h
        refine c_int hh (vrun (rest := []) C hh (c_X8_xidOf C.2.2.2.1 σ e7) LM_8_183 IM_X8_xidOf SL_X8_xidOf IN_8 CD_X8_xidOf HD_X8_xidOf ⟨rfl, rfl, Nat.le_of_ble_eq_true rfl, Nat.le_of_ble_eq_true rfl⟩ (rv_8 C hh) rfl hl.1 rfl (Nat.le_of_ble_eq_true rfl) dX8_hear_31 ⟨Nat.zero_le _, Nat.zero_le _⟩) (fun H locs hh => ?_)
        refine lv_aload_n hx hb dX8_hear_34 rfl (lv_at hl 0 rfl) ?_
        refine gf_8_56 C hh dX8_hear_35 ?_
        refine lv_iload_n hx hb dX8_hear_38 rfl (lv_at hl 1 rfl) ?_
        obtain ⟨b10, h⟩ := gd_e h
        refine al_818 C hh b10 dX8_hear_39 ?_
        refine lv_icmp_eq (tgt := 44) hx hb dX8_hear_40 (by decide) (fun c11 => ?_) (fun c11 => ?_)
        · rw [if_pos c11] at h
          refine lv_aload_n hx hb dX8_hear_44 rfl (lv_at hl 0 rfl) ?_
          refine gf_8_38 C hh dX8_hear_45 ?_
          refine lv_iload_n hx hb dX8_hear_48 rfl (lv_at hl 1 rfl) ?_
          obtain ⟨b12, h⟩ := gd_e h
          refine al_812 C hh b12 dX8_hear_49 ?_
          refine lv_iconst (v := (2 : Int32)) hx hb dX8_hear_50 (by decide) ?_
          refine lv_icmp_eq (tgt := 85) hx hb dX8_hear_51 (by decide) (fun c13 => ?_) (fun c13 => ?_)
          · rw [if_pos c13] at h
            exact k_X8_hear_85 C x1 s8 h hh (lv_sub hl [0, 1] rfl)
          · rw [if_neg c13] at h
            refine lv_aload_n hx hb dX8_hear_54 rfl (lv_at hl 0 rfl) ?_
            refine gf_8_38 C hh dX8_hear_55 ?_
            refine lv_iload_n hx hb dX8_hear_58 rfl (lv_at hl 1 rfl) ?_
            obtain ⟨b14, h⟩ := gd_e h
            refine al_812 C hh b14 dX8_hear_59 ?_
            refine lv_iconst (v := (4 : Int32)) hx hb dX8_hear_60 (by decide) ?_
            refine lv_icmp_eq (tgt := 85) hx hb dX8_hear_61 (by decide) (fun c15 => ?_) (fun c15 => ?_)
            · rw [if_pos c15] at h
              exact k_X8_hear_85 C x1 s8 h hh (lv_sub hl [0, 1] rfl)
            · rw [if_neg c15] at h
              refine lv_aload_n hx hb dX8_hear_64 rfl (lv_at hl 0 rfl) ?_
              refine gf_8_38 C hh dX8_hear_65 ?_
              refine lv_iload_n hx hb dX8_hear_68 rfl (lv_at hl 1 rfl) ?_
              obtain ⟨b16, h⟩ := gd_e h
              refine al_812 C hh b16 dX8_hear_69 ?_
              refine lv_iconst (v := (5 : Int32)) hx hb dX8_hear_70 (by decide) ?_
              refine lv_icmp_eq (tgt := 85) hx hb dX8_hear_71 (by decide) (fun c17 => ?_) (fun c17 => ?_)
              · rw [if_pos c17] at h
                exact k_X8_hear_85 C x1 s8 h hh (lv_sub hl [0, 1] rfl)
              · rw [if_neg c17] at h
                refine lv_aload_n hx hb dX8_hear_74 rfl (lv_at hl 0 rfl) ?_
                refine gf_8_38 C hh dX8_hear_75 ?_
                refine lv_iload_n hx hb dX8_hear_78 rfl (lv_at hl 1 rfl) ?_
                obtain ⟨b18, h⟩ := gd_e h
                refine al_812 C hh b18 dX8_hear_79 ?_
                refine lv_bipush (v := (6 : Int32)) hx hb dX8_hear_80 (by decide) ?_
                refine lv_icmp_ne (tgt := 89) hx hb dX8_hear_82 (by decide) (fun c19 => ?_) (fun c19 => ?_)
                · rw [if_neg c19] at h
                  refine lv_iconst (v := (0 : Int32)) hx hb dX8_hear_89 (by decide) ?_
                  exact k_X8_hear_90 C x1 (0 : Int32) s8 h hh (lv_sub hl [0, 1] rfl)
                · rw [if_pos c19] at h
                  exact k_X8_hear_85 C x1 s8 h hh (lv_sub hl [0, 1] rfl)
        · rw [if_neg c11] at h
          exact r_void C hh h dX8_hear_43
abbrev rm_X8_half : Room := { frames := 0, cells := 0, slots := 0, locals := 0 }
theorem HD_X8_half : yX8_half.cls = RX8 ∧ yX8_half.cls ≠ "java/lang/invoke/MethodHandle" ∧ yX8_half.cls ≠ "java/lang/invoke/VarHandle" ∧ (parseMethodDescriptor yX8_half.desc).map (fun d => d.parameters.length) = some 1 := by decide +kernel
def f_X8_half (x0 : Int32) (σ : Mem) : Option (Int32 × Mem) := vl (((x0 + (1 : Int32)) / (2 : Int32))) (fun v1 => (if (2 : Int32) ≤ v1 then some (v1, σ) else some ((2 : Int32), σ)))
set_option maxHeartbeats 4000000 in
set_option maxRecDepth 100000 in
theorem c_X8_half {l : Launch} {D : va_G} {cA : Nat → ClassId} {ad : Nat → Nat → Nat} {A : Nat → Prop} {o : Nat → Int64} (hD0 : ∀ σ, va_D A (wW cA ad σ o)) (x0 : Int32) (σ : Mem) {r : Int32 × Mem} (h : f_X8_half x0 σ = some r) : Met l yX8_half (wsG yX8_half cX8_half 2 (some .int)) rm_X8_half (va_Pc [.int x0] (IW D cA ad o σ)) (Qi D cA ad o A r) 0 0 A := by
  refine metG (by decide) (Nat.le_of_ble_eq_true rfl) hD0 ?_
  intro p e s m args below meth c C ls hh hl
  have C : Cx p s m args meth c cX8_half 2 RX8 (some .int) D cA ad A o := C
  have hl : lv_has ls 2 [(0, .int x0)] := hl
  obtain ⟨⟨hx, hb, hml, hown, hts⟩, hK, hN, hD, hr, hlocks⟩ := id C
  unfold f_X8_half at h
  refine lv_iload_n hx hb dX8_half_0 rfl (lv_at hl 0 rfl) ?_
  refine lv_iconst (v := (1 : Int32)) hx hb dX8_half_1 (by decide) ?_
  refine lv_iadd hx hb dX8_half_2 ?_
  refine lv_iconst (v := (2 : Int32)) hx hb dX8_half_3 (by decide) ?_
  refine lv_idiv hx hb dX8_half_4 (by decide) ?_
  obtain ⟨v1, e2, h⟩ := vl_e h
  refine lv_nm e2 ?_
  refine lv_istore_n (lv' := [(1, .int v1), (0, .int x0)]) hx hb dX8_half_5 rfl hl (by decide) rfl (fun ls hl => ?_)
  refine lv_iload_n hx hb dX8_half_6 rfl (lv_at hl 0 rfl) ?_
  refine lv_iconst (v := (2 : Int32)) hx hb dX8_half_7 (by decide) ?_
  refine lv_icmp_ge (tgt := 15) hx hb dX8_half_8 (by decide) (fun c3 => ?_) (fun c3 => ?_)
  · rw [if_pos c3] at h
    refine lv_iload_n hx hb dX8_half_15 rfl (lv_at hl 0 rfl) ?_
    exact r_int C hh h dX8_half_16
  · rw [if_neg c3] at h
    refine lv_iconst (v := (2 : Int32)) hx hb dX8_half_11 (by decide) ?_
    refine lv_goto (tgt := 16) hx hb dX8_half_12 (by decide) ?_
    exact r_int C hh h dX8_half_16
abbrev rm_X8_nextTry : Room := { frames := 5, cells := 0, slots := 0, locals := 114 }
theorem HD_X8_nextTry : yX8_nextTry.cls = RX8 ∧ yX8_nextTry.cls ≠ "java/lang/invoke/MethodHandle" ∧ yX8_nextTry.cls ≠ "java/lang/invoke/VarHandle" ∧ (parseMethodDescriptor yX8_nextTry.desc).map (fun d => d.parameters.length) = some 1 := by decide +kernel
def f_X8_nextTry (x1 : Int32) (σ : Mem) : Option (Mem) := gd (vin x1 12) ((if (3 : Int32) ≤ (σ 820 0 (x1).toNatClampNeg) then gd (vin x1 12) ((if (σ 812 0 (x1).toNatClampNeg) = (1 : Int32) then bv (f_X8_sayDiscover x1 σ) (fun s13 => some s13) else gd (vin x1 12) ((if (σ 812 0 (x1).toNatClampNeg) = (2 : Int32) then bv (f_X8_begin x1 σ) (fun s11 => some s11) else gd (vin x1 12) (vl (up σ 812 0 (x1).toNatClampNeg (3 : Int32)) (fun s8 => some s8)))))) else gd (vin x1 12) (gd (vin x1 12) (vl (up σ 820 0 (x1).toNatClampNeg ((σ 820 0 (x1).toNatClampNeg) + (1 : Int32))) (fun s16 => gd (vin x1 12) ((if (s16 812 0 (x1).toNatClampNeg) = (1 : Int32) then bv (f_X8_sayDiscover x1 s16) (fun s27 => some s27) else gd (vin x1 12) ((if (s16 812 0 (x1).toNatClampNeg) = (2 : Int32) then bv (f_X8_sayRequest x1 s16) (fun s25 => some s25) else bv (f_X8_sayReboot x1 s16) (fun s23 => some s23))))))))))
set_option maxHeartbeats 4000000 in
set_option maxRecDepth 100000 in
theorem c_X8_nextTry {l : Launch} {D : va_G} {cA : Nat → ClassId} {ad : Nat → Nat → Nat} {A : Nat → Prop} {o : Nat → Int64} (hD0 : ∀ σ, va_D A (wW cA ad σ o)) (x1 : Int32) (σ : Mem) {r : Mem} (h : f_X8_nextTry x1 σ = some r) : Met l yX8_nextTry (wsG yX8_nextTry cX8_nextTry 2 none) rm_X8_nextTry (va_Pc [.ref (ad 899 0), .int x1] (IW D cA ad o σ)) (Qv D cA ad o A r) 0 0 A := by
  refine metG (by decide) (Nat.le_of_ble_eq_true rfl) hD0 ?_
  intro p e s m args below meth c C ls hh hl
  have C : Cx p s m args meth c cX8_nextTry 2 RX8 none D cA ad A o := C
  have hl : lv_has ls 2 [(0, .ref (ad 899 0)), (1, .int x1)] := hl
  obtain ⟨⟨hx, hb, hml, hown, hts⟩, hK, hN, hD, hr, hlocks⟩ := id C
  unfold f_X8_nextTry at h
  refine lv_aload_n hx hb dX8_nextTry_0 rfl (lv_at hl 0 rfl) ?_
  refine gf_8_62 C hh dX8_nextTry_1 ?_
  refine lv_iload_n hx hb dX8_nextTry_4 rfl (lv_at hl 1 rfl) ?_
  obtain ⟨b1, h⟩ := gd_e h
  refine al_820 C hh b1 dX8_nextTry_5 ?_
  refine lv_iconst (v := (3 : Int32)) hx hb dX8_nextTry_6 (by decide) ?_
  refine lv_icmp_ge (tgt := 64) hx hb dX8_nextTry_7 (by decide) (fun c2 => ?_) (fun c2 => ?_)
  · rw [if_pos c2] at h
    refine lv_aload_n hx hb dX8_nextTry_64 rfl (lv_at hl 0 rfl) ?_
    refine gf_8_38 C hh dX8_nextTry_65 ?_
    refine lv_iload_n hx hb dX8_nextTry_68 rfl (lv_at hl 1 rfl) ?_
    obtain ⟨b3, h⟩ := gd_e h
    refine al_812 C hh b3 dX8_nextTry_69 ?_
    refine lv_iconst (v := (1 : Int32)) hx hb dX8_nextTry_70 (by decide) ?_
    refine lv_icmp_ne (tgt := 82) hx hb dX8_nextTry_71 (by decide) (fun c4 => ?_) (fun c4 => ?_)
    · rw [if_neg c4] at h
      refine lv_aload_n hx hb dX8_nextTry_82 rfl (lv_at hl 0 rfl) ?_
      refine gf_8_38 C hh dX8_nextTry_83 ?_
      refine lv_iload_n hx hb dX8_nextTry_86 rfl (lv_at hl 1 rfl) ?_
      obtain ⟨b5, h⟩ := gd_e h
      refine al_812 C hh b5 dX8_nextTry_87 ?_
      refine lv_iconst (v := (2 : Int32)) hx hb dX8_nextTry_88 (by decide) ?_
      refine lv_icmp_ne (tgt := 100) hx hb dX8_nextTry_89 (by decide) (fun c6 => ?_) (fun c6 => ?_)
      · rw [if_neg c6] at h
        refine lv_aload_n hx hb dX8_nextTry_100 rfl (lv_at hl 0 rfl) ?_
        refine gf_8_38 C hh dX8_nextTry_101 ?_
        refine lv_iload_n hx hb dX8_nextTry_104 rfl (lv_at hl 1 rfl) ?_
        refine lv_iconst (v := (3 : Int32)) hx hb dX8_nextTry_105 (by decide) ?_
        obtain ⟨b7, h⟩ := gd_e h
        obtain ⟨s8, e9, h⟩ := vl_e h
        refine as_812 C hh b7 dX8_nextTry_106 (fun H locs hh => ?_)
        rw [← e9] at hh
        exact r_void C hh h dX8_nextTry_107
      · rw [if_pos c6] at h
        refine lv_aload_n hx hb dX8_nextTry_92 rfl (lv_at hl 0 rfl) ?_
        refine lv_iload_n hx hb dX8_nextTry_93 rfl (lv_at hl 1 rfl) ?_
        obtain ⟨s11, e10, h⟩ := bv_e h
        refine c_void hh (vrun (rest := []) C hh (c_X8_begin C.2.2.2.1 x1 σ e10) LM_8_222 IM_X8_begin SL_X8_begin IN_8 CD_X8_begin HD_X8_begin ⟨rfl, rfl, Nat.le_of_ble_eq_true rfl, Nat.le_of_ble_eq_true rfl⟩ (rv_8 C hh) rfl hl.1 rfl (Nat.le_of_ble_eq_true rfl) dX8_nextTry_94 ⟨Nat.zero_le _, Nat.zero_le _⟩) (fun H locs hh => ?_)
        refine lv_goto (tgt := 107) hx hb dX8_nextTry_97 (by decide) ?_
        exact r_void C hh h dX8_nextTry_107
    · rw [if_pos c4] at h
      refine lv_aload_n hx hb dX8_nextTry_74 rfl (lv_at hl 0 rfl) ?_
      refine lv_iload_n hx hb dX8_nextTry_75 rfl (lv_at hl 1 rfl) ?_
      obtain ⟨s13, e12, h⟩ := bv_e h
      refine c_void hh (vrun (rest := []) C hh (c_X8_sayDiscover C.2.2.2.1 x1 σ e12) LM_8_210 IM_X8_sayDiscover SL_X8_sayDiscover IN_8 CD_X8_sayDiscover HD_X8_sayDiscover ⟨rfl, rfl, Nat.le_of_ble_eq_true rfl, Nat.le_of_ble_eq_true rfl⟩ (rv_8 C hh) rfl hl.1 rfl (Nat.le_of_ble_eq_true rfl) dX8_nextTry_76 ⟨Nat.zero_le _, Nat.zero_le _⟩) (fun H locs hh => ?_)
      refine lv_goto (tgt := 107) hx hb dX8_nextTry_79 (by decide) ?_
      exact r_void C hh h dX8_nextTry_107
  · rw [if_neg c2] at h
    refine lv_aload_n hx hb dX8_nextTry_10 rfl (lv_at hl 0 rfl) ?_
    refine gf_8_62 C hh dX8_nextTry_11 ?_
    refine lv_iload_n hx hb dX8_nextTry_14 rfl (lv_at hl 1 rfl) ?_
    refine lv_dup2_11 hx hb dX8_nextTry_15 rfl rfl ?_
    obtain ⟨b14, h⟩ := gd_e h
    refine al_820 C hh b14 dX8_nextTry_16 ?_
    refine lv_iconst (v := (1 : Int32)) hx hb dX8_nextTry_17 (by decide) ?_
    refine lv_iadd hx hb dX8_nextTry_18 ?_
    obtain ⟨b15, h⟩ := gd_e h
    obtain ⟨s16, e17, h⟩ := vl_e h
    refine as_820 C hh b15 dX8_nextTry_19 (fun H locs hh => ?_)
    rw [← e17] at hh
    refine lv_aload_n hx hb dX8_nextTry_20 rfl (lv_at hl 0 rfl) ?_
    refine gf_8_38 C hh dX8_nextTry_21 ?_
    refine lv_iload_n hx hb dX8_nextTry_24 rfl (lv_at hl 1 rfl) ?_
    obtain ⟨b18, h⟩ := gd_e h
    refine al_812 C hh b18 dX8_nextTry_25 ?_
    refine lv_iconst (v := (1 : Int32)) hx hb dX8_nextTry_26 (by decide) ?_
    refine lv_icmp_ne (tgt := 38) hx hb dX8_nextTry_27 (by decide) (fun c19 => ?_) (fun c19 => ?_)
    · rw [if_neg c19] at h
      refine lv_aload_n hx hb dX8_nextTry_38 rfl (lv_at hl 0 rfl) ?_
      refine gf_8_38 C hh dX8_nextTry_39 ?_
      refine lv_iload_n hx hb dX8_nextTry_42 rfl (lv_at hl 1 rfl) ?_
      obtain ⟨b20, h⟩ := gd_e h
      refine al_812 C hh b20 dX8_nextTry_43 ?_
      refine lv_iconst (v := (2 : Int32)) hx hb dX8_nextTry_44 (by decide) ?_
      refine lv_icmp_ne (tgt := 56) hx hb dX8_nextTry_45 (by decide) (fun c21 => ?_) (fun c21 => ?_)
      · rw [if_neg c21] at h
        refine lv_aload_n hx hb dX8_nextTry_56 rfl (lv_at hl 0 rfl) ?_
        refine lv_iload_n hx hb dX8_nextTry_57 rfl (lv_at hl 1 rfl) ?_
        obtain ⟨s23, e22, h⟩ := bv_e h
        refine c_void hh (vrun (rest := []) C hh (c_X8_sayReboot C.2.2.2.1 x1 s16 e22) LM_8_225 IM_X8_sayReboot SL_X8_sayReboot IN_8 CD_X8_sayReboot HD_X8_sayReboot ⟨rfl, rfl, Nat.le_of_ble_eq_true rfl, Nat.le_of_ble_eq_true rfl⟩ (rv_8 C hh) rfl hl.1 rfl (Nat.le_of_ble_eq_true rfl) dX8_nextTry_58 ⟨Nat.zero_le _, Nat.zero_le _⟩) (fun H locs hh => ?_)
        refine lv_goto (tgt := 107) hx hb dX8_nextTry_61 (by decide) ?_
        exact r_void C hh h dX8_nextTry_107
      · rw [if_pos c21] at h
        refine lv_aload_n hx hb dX8_nextTry_48 rfl (lv_at hl 0 rfl) ?_
        refine lv_iload_n hx hb dX8_nextTry_49 rfl (lv_at hl 1 rfl) ?_
        obtain ⟨s25, e24, h⟩ := bv_e h
        refine c_void hh (vrun (rest := []) C hh (c_X8_sayRequest C.2.2.2.1 x1 s16 e24) LM_8_216 IM_X8_sayRequest SL_X8_sayRequest IN_8 CD_X8_sayRequest HD_X8_sayRequest ⟨rfl, rfl, Nat.le_of_ble_eq_true rfl, Nat.le_of_ble_eq_true rfl⟩ (rv_8 C hh) rfl hl.1 rfl (Nat.le_of_ble_eq_true rfl) dX8_nextTry_50 ⟨Nat.zero_le _, Nat.zero_le _⟩) (fun H locs hh => ?_)
        refine lv_goto (tgt := 107) hx hb dX8_nextTry_53 (by decide) ?_
        exact r_void C hh h dX8_nextTry_107
    · rw [if_pos c19] at h
      refine lv_aload_n hx hb dX8_nextTry_30 rfl (lv_at hl 0 rfl) ?_
      refine lv_iload_n hx hb dX8_nextTry_31 rfl (lv_at hl 1 rfl) ?_
      obtain ⟨s27, e26, h⟩ := bv_e h
      refine c_void hh (vrun (rest := []) C hh (c_X8_sayDiscover C.2.2.2.1 x1 s16 e26) LM_8_210 IM_X8_sayDiscover SL_X8_sayDiscover IN_8 CD_X8_sayDiscover HD_X8_sayDiscover ⟨rfl, rfl, Nat.le_of_ble_eq_true rfl, Nat.le_of_ble_eq_true rfl⟩ (rv_8 C hh) rfl hl.1 rfl (Nat.le_of_ble_eq_true rfl) dX8_nextTry_32 ⟨Nat.zero_le _, Nat.zero_le _⟩) (fun H locs hh => ?_)
      refine lv_goto (tgt := 107) hx hb dX8_nextTry_35 (by decide) ?_
      exact r_void C hh h dX8_nextTry_107
abbrev rm_X8_tickOf : Room := { frames := 6, cells := 0, slots := 0, locals := 135 }
theorem HD_X8_tickOf : yX8_tickOf.cls = RX8 ∧ yX8_tickOf.cls ≠ "java/lang/invoke/MethodHandle" ∧ yX8_tickOf.cls ≠ "java/lang/invoke/VarHandle" ∧ (parseMethodDescriptor yX8_tickOf.desc).map (fun d => d.parameters.length) = some 1 := by decide +kernel
def f_X8_tickOf_236 (x1 : Int32) (x2 : Int32) (x3 : Int32) (σ : Mem) : Option (Mem) := (if x2 = (7 : Int32) then (if x3 < (10 : Int32) then some σ else bv (f_X8_begin x1 σ) (fun s4 => some s4)) else some σ)
set_option maxHeartbeats 4000000 in
set_option maxRecDepth 100000 in
theorem k_X8_tickOf_236 {p : Program} {l : Launch} {e : Env} {s : State} {m : MethodId} {args : Array Value} {below : List Frame} {meth : Method} {c : Code} {D : va_G} {cA : Nat → ClassId} {ad : Nat → Nat → Nat} {A : Nat → Prop} {o : Nat → Int64} (C : Cx p s m args meth c cX8_tickOf 6 RX8 none D cA ad A o) {r : Mem} (x1 : Int32) (x2 : Int32) (x3 : Int32) (σ : Mem) {H : Heap} {locs : List Loc} (h : f_X8_tickOf_236 x1 x2 x3 σ = some r) (hh : HH D cA ad A o s σ H locs) {ls : Array Slot} (hl : lv_has ls 6 [(0, .ref (ad 899 0)), (1, .int x1), (2, .int x2), (3, .int x3)]) : W p l e rm_X8_tickOf s m args below meth c H locs 0 0 (MQ below (Qv D cA ad o A r) args s 0 0 A) (F0 m 236 ls []) := by
  obtain ⟨⟨hx, hb, hml, hown, hts⟩, hK, hN, hD, hr, hlocks⟩ := id C
  unfold f_X8_tickOf_236 at h
  refine lv_iload_n hx hb dX8_tickOf_236 rfl (lv_at hl 2 rfl) ?_
  refine lv_bipush (v := (7 : Int32)) hx hb dX8_tickOf_237 (by decide) ?_
  refine lv_icmp_ne (tgt := 253) hx hb dX8_tickOf_239 (by decide) (fun c1 => ?_) (fun c1 => ?_)
  · rw [if_neg c1] at h
    exact r_void C hh h dX8_tickOf_253
  · rw [if_pos c1] at h
    refine lv_iload_n hx hb dX8_tickOf_242 rfl (lv_at hl 3 rfl) ?_
    refine lv_bipush (v := (10 : Int32)) hx hb dX8_tickOf_243 (by decide) ?_
    refine lv_icmp_lt (tgt := 253) hx hb dX8_tickOf_245 (by decide) (fun c2 => ?_) (fun c2 => ?_)
    · rw [if_pos c2] at h
      exact r_void C hh h dX8_tickOf_253
    · rw [if_neg c2] at h
      refine lv_aload_n hx hb dX8_tickOf_248 rfl (lv_at hl 0 rfl) ?_
      refine lv_iload_n hx hb dX8_tickOf_249 rfl (lv_at hl 1 rfl) ?_
      obtain ⟨s4, e3, h⟩ := bv_e h
      refine c_void hh (vrun (rest := []) C hh (c_X8_begin C.2.2.2.1 x1 σ e3) LM_8_222 IM_X8_begin SL_X8_begin IN_8 CD_X8_begin HD_X8_begin ⟨rfl, rfl, Nat.le_of_ble_eq_true rfl, Nat.le_of_ble_eq_true rfl⟩ (rv_8 C hh) rfl hl.1 rfl (Nat.le_of_ble_eq_true rfl) dX8_tickOf_250 ⟨Nat.zero_le _, Nat.zero_le _⟩) (fun H locs hh => ?_)
      exact r_void C hh h dX8_tickOf_253
def f_X8_tickOf_222 (x1 : Int32) (x2 : Int32) (x3 : Int32) (x5 : Int32) (σ : Mem) : Option (Mem) := (if x3 < x5 then f_X8_tickOf_236 x1 x2 x3 σ else bv (f_X8_nextTry x1 σ) (fun s3 => some s3))
set_option maxHeartbeats 4000000 in
set_option maxRecDepth 100000 in
theorem k_X8_tickOf_222 {p : Program} {l : Launch} {e : Env} {s : State} {m : MethodId} {args : Array Value} {below : List Frame} {meth : Method} {c : Code} {D : va_G} {cA : Nat → ClassId} {ad : Nat → Nat → Nat} {A : Nat → Prop} {o : Nat → Int64} (C : Cx p s m args meth c cX8_tickOf 6 RX8 none D cA ad A o) {r : Mem} (x1 : Int32) (x2 : Int32) (x3 : Int32) (x5 : Int32) (σ : Mem) {H : Heap} {locs : List Loc} (h : f_X8_tickOf_222 x1 x2 x3 x5 σ = some r) (hh : HH D cA ad A o s σ H locs) {ls : Array Slot} (hl : lv_has ls 6 [(0, .ref (ad 899 0)), (1, .int x1), (2, .int x2), (3, .int x3), (5, .int x5)]) : W p l e rm_X8_tickOf s m args below meth c H locs 0 0 (MQ below (Qv D cA ad o A r) args s 0 0 A) (F0 m 222 ls []) := by
  obtain ⟨⟨hx, hb, hml, hown, hts⟩, hK, hN, hD, hr, hlocks⟩ := id C
  unfold f_X8_tickOf_222 at h
  refine lv_iload_n hx hb dX8_tickOf_222 rfl (lv_at hl 3 rfl) ?_
  refine lv_iload hx hb dX8_tickOf_223 (lv_at hl 4 rfl) ?_
  refine lv_icmp_lt (tgt := 236) hx hb dX8_tickOf_225 (by decide) (fun c1 => ?_) (fun c1 => ?_)
  · rw [if_pos c1] at h
    exact k_X8_tickOf_236 C x1 x2 x3 σ h hh (lv_sub hl [0, 1, 2, 3] rfl)
  · rw [if_neg c1] at h
    refine lv_aload_n hx hb dX8_tickOf_228 rfl (lv_at hl 0 rfl) ?_
    refine lv_iload_n hx hb dX8_tickOf_229 rfl (lv_at hl 1 rfl) ?_
    obtain ⟨s3, e2, h⟩ := bv_e h
    refine c_void hh (vrun (rest := []) C hh (c_X8_nextTry C.2.2.2.1 x1 σ e2) LM_8_234 IM_X8_nextTry SL_X8_nextTry IN_8 CD_X8_nextTry HD_X8_nextTry ⟨rfl, rfl, Nat.le_of_ble_eq_true rfl, Nat.le_of_ble_eq_true rfl⟩ (rv_8 C hh) rfl hl.1 rfl (Nat.le_of_ble_eq_true rfl) dX8_tickOf_230 ⟨Nat.zero_le _, Nat.zero_le _⟩) (fun H locs hh => ?_)
    refine lv_goto (tgt := 253) hx hb dX8_tickOf_233 (by decide) ?_
    exact r_void C hh h dX8_tickOf_253
def f_X8_tickOf_206 (x1 : Int32) (x2 : Int32) (x3 : Int32) (x5 : Int32) (σ : Mem) : Option (Mem) := (if x2 = (1 : Int32) then f_X8_tickOf_222 x1 x2 x3 x5 σ else (if x2 = (2 : Int32) then f_X8_tickOf_222 x1 x2 x3 x5 σ else (if x2 = (6 : Int32) then f_X8_tickOf_222 x1 x2 x3 x5 σ else f_X8_tickOf_236 x1 x2 x3 σ)))
set_option maxHeartbeats 4000000 in
set_option maxRecDepth 100000 in
theorem k_X8_tickOf_206 {p : Program} {l : Launch} {e : Env} {s : State} {m : MethodId} {args : Array Value} {below : List Frame} {meth : Method} {c : Code} {D : va_G} {cA : Nat → ClassId} {ad : Nat → Nat → Nat} {A : Nat → Prop} {o : Nat → Int64} (C : Cx p s m args meth c cX8_tickOf 6 RX8 none D cA ad A o) {r : Mem} (x1 : Int32) (x2 : Int32) (x3 : Int32) (x5 : Int32) (σ : Mem) {H : Heap} {locs : List Loc} (h : f_X8_tickOf_206 x1 x2 x3 x5 σ = some r) (hh : HH D cA ad A o s σ H locs) {ls : Array Slot} (hl : lv_has ls 6 [(0, .ref (ad 899 0)), (1, .int x1), (2, .int x2), (3, .int x3), (5, .int x5)]) : W p l e rm_X8_tickOf s m args below meth c H locs 0 0 (MQ below (Qv D cA ad o A r) args s 0 0 A) (F0 m 206 ls []) := by
  obtain ⟨⟨hx, hb, hml, hown, hts⟩, hK, hN, hD, hr, hlocks⟩ := id C
  unfold f_X8_tickOf_206 at h
  refine lv_iload_n hx hb dX8_tickOf_206 rfl (lv_at hl 2 rfl) ?_
  refine lv_iconst (v := (1 : Int32)) hx hb dX8_tickOf_207 (by decide) ?_
  refine lv_icmp_eq (tgt := 222) hx hb dX8_tickOf_208 (by decide) (fun c1 => ?_) (fun c1 => ?_)
  · rw [if_pos c1] at h
    exact k_X8_tickOf_222 C x1 x2 x3 x5 σ h hh (lv_sub hl [0, 1, 2, 3, 4] rfl)
  · rw [if_neg c1] at h
    refine lv_iload_n hx hb dX8_tickOf_211 rfl (lv_at hl 2 rfl) ?_
    refine lv_iconst (v := (2 : Int32)) hx hb dX8_tickOf_212 (by decide) ?_
    refine lv_icmp_eq (tgt := 222) hx hb dX8_tickOf_213 (by decide) (fun c2 => ?_) (fun c2 => ?_)
    · rw [if_pos c2] at h
      exact k_X8_tickOf_222 C x1 x2 x3 x5 σ h hh (lv_sub hl [0, 1, 2, 3, 4] rfl)
    · rw [if_neg c2] at h
      refine lv_iload_n hx hb dX8_tickOf_216 rfl (lv_at hl 2 rfl) ?_
      refine lv_bipush (v := (6 : Int32)) hx hb dX8_tickOf_217 (by decide) ?_
      refine lv_icmp_ne (tgt := 236) hx hb dX8_tickOf_219 (by decide) (fun c3 => ?_) (fun c3 => ?_)
      · rw [if_neg c3] at h
        exact k_X8_tickOf_236 C x1 x2 x3 σ h hh (lv_sub hl [0, 1, 2, 3] rfl)
      · rw [if_pos c3] at h
        exact k_X8_tickOf_222 C x1 x2 x3 x5 σ h hh (lv_sub hl [0, 1, 2, 3, 4] rfl)
def f_X8_tickOf_182 (x1 : Int32) (x2 : Int32) (x3 : Int32) (x4 : Int32) (x5 : Int32) (σ : Mem) : Option (Mem) := gd (vin x1 12) (bn (f_X8_half (x4 - (σ 819 0 (x1).toNatClampNeg)) σ) (fun r4 s3 => (if x3 < r4 then f_X8_tickOf_206 x1 x2 x3 x5 s3 else bv (f_X8_sayRenew x1 s3) (fun s7 => some s7))))
set_option maxHeartbeats 4000000 in
set_option maxRecDepth 100000 in
theorem k_X8_tickOf_182 {p : Program} {l : Launch} {e : Env} {s : State} {m : MethodId} {args : Array Value} {below : List Frame} {meth : Method} {c : Code} {D : va_G} {cA : Nat → ClassId} {ad : Nat → Nat → Nat} {A : Nat → Prop} {o : Nat → Int64} (C : Cx p s m args meth c cX8_tickOf 6 RX8 none D cA ad A o) {r : Mem} (x1 : Int32) (x2 : Int32) (x3 : Int32) (x4 : Int32) (x5 : Int32) (σ : Mem) {H : Heap} {locs : List Loc} (h : f_X8_tickOf_182 x1 x2 x3 x4 x5 σ = some r) (hh : HH D cA ad A o s σ H locs) {ls : Array Slot} (hl : lv_has ls 6 [(0, .ref (ad 899 0)), (1, .int x1), (2, .int x2), (3, .int x3), (4, .int x4), (5, .int x5)]) : W p l e rm_X8_tickOf s m args below meth c H locs 0 0 (MQ below (Qv D cA ad o A r) args s 0 0 A) (F0 m 182 ls []) := by
  obtain ⟨⟨hx, hb, hml, hown, hts⟩, hK, hN, hD, hr, hlocks⟩ := id C
  unfold f_X8_tickOf_182 at h
  refine lv_iload_n hx hb dX8_tickOf_182 rfl (lv_at hl 3 rfl) ?_
  refine lv_iload hx hb dX8_tickOf_183 (lv_at hl 4 rfl) ?_
  refine lv_aload_n hx hb dX8_tickOf_185 rfl (lv_at hl 0 rfl) ?_
  refine gf_8_59 C hh dX8_tickOf_186 ?_
  refine lv_iload_n hx hb dX8_tickOf_189 rfl (lv_at hl 1 rfl) ?_
  obtain ⟨b1, h⟩ := gd_e h
  refine al_819 C hh b1 dX8_tickOf_190 ?_
  refine lv_isub hx hb dX8_tickOf_191 ?_
  obtain ⟨r4, s3, e2, h⟩ := bn_e h
  refine c_int hh (srun (rest := [.int x3]) C hh (c_X8_half C.2.2.2.1 (x4 - (σ 819 0 (x1).toNatClampNeg)) σ e2) LM_8_231 ST_X8_half IN_8 CD_X8_half HD_X8_half ⟨rfl, rfl, Nat.le_of_ble_eq_true rfl, Nat.le_of_ble_eq_true rfl⟩ rfl hl.1 rfl (Nat.le_of_ble_eq_true rfl) dX8_tickOf_192 ⟨Nat.zero_le _, Nat.zero_le _⟩) (fun H locs hh => ?_)
  refine lv_icmp_lt (tgt := 206) hx hb dX8_tickOf_195 (by decide) (fun c5 => ?_) (fun c5 => ?_)
  · rw [if_pos c5] at h
    exact k_X8_tickOf_206 C x1 x2 x3 x5 s3 h hh (lv_sub hl [0, 1, 2, 3, 5] rfl)
  · rw [if_neg c5] at h
    refine lv_aload_n hx hb dX8_tickOf_198 rfl (lv_at hl 0 rfl) ?_
    refine lv_iload_n hx hb dX8_tickOf_199 rfl (lv_at hl 1 rfl) ?_
    obtain ⟨s7, e6, h⟩ := bv_e h
    refine c_void hh (vrun (rest := []) C hh (c_X8_sayRenew C.2.2.2.1 x1 s3 e6) LM_8_228 IM_X8_sayRenew SL_X8_sayRenew IN_8 CD_X8_sayRenew HD_X8_sayRenew ⟨rfl, rfl, Nat.le_of_ble_eq_true rfl, Nat.le_of_ble_eq_true rfl⟩ (rv_8 C hh) rfl hl.1 rfl (Nat.le_of_ble_eq_true rfl) dX8_tickOf_200 ⟨Nat.zero_le _, Nat.zero_le _⟩) (fun H locs hh => ?_)
    refine lv_goto (tgt := 253) hx hb dX8_tickOf_203 (by decide) ?_
    exact r_void C hh h dX8_tickOf_253
def f_X8_tickOf_172 (x1 : Int32) (x2 : Int32) (x3 : Int32) (x4 : Int32) (x5 : Int32) (σ : Mem) : Option (Mem) := (if x2 = (4 : Int32) then f_X8_tickOf_182 x1 x2 x3 x4 x5 σ else (if x2 = (5 : Int32) then f_X8_tickOf_182 x1 x2 x3 x4 x5 σ else f_X8_tickOf_206 x1 x2 x3 x5 σ))
set_option maxHeartbeats 4000000 in
set_option maxRecDepth 100000 in
theorem k_X8_tickOf_172 {p : Program} {l : Launch} {e : Env} {s : State} {m : MethodId} {args : Array Value} {below : List Frame} {meth : Method} {c : Code} {D : va_G} {cA : Nat → ClassId} {ad : Nat → Nat → Nat} {A : Nat → Prop} {o : Nat → Int64} (C : Cx p s m args meth c cX8_tickOf 6 RX8 none D cA ad A o) {r : Mem} (x1 : Int32) (x2 : Int32) (x3 : Int32) (x4 : Int32) (x5 : Int32) (σ : Mem) {H : Heap} {locs : List Loc} (h : f_X8_tickOf_172 x1 x2 x3 x4 x5 σ = some r) (hh : HH D cA ad A o s σ H locs) {ls : Array Slot} (hl : lv_has ls 6 [(0, .ref (ad 899 0)), (1, .int x1), (2, .int x2), (3, .int x3), (4, .int x4), (5, .int x5)]) : W p l e rm_X8_tickOf s m args below meth c H locs 0 0 (MQ below (Qv D cA ad o A r) args s 0 0 A) (F0 m 172 ls []) := by
  obtain ⟨⟨hx, hb, hml, hown, hts⟩, hK, hN, hD, hr, hlocks⟩ := id C
  unfold f_X8_tickOf_172 at h
  refine lv_iload_n hx hb dX8_tickOf_172 rfl (lv_at hl 2 rfl) ?_
  refine lv_iconst (v := (4 : Int32)) hx hb dX8_tickOf_173 (by decide) ?_
  refine lv_icmp_eq (tgt := 182) hx hb dX8_tickOf_174 (by decide) (fun c1 => ?_) (fun c1 => ?_)
  · rw [if_pos c1] at h
    exact k_X8_tickOf_182 C x1 x2 x3 x4 x5 σ h hh (lv_sub hl [0, 1, 2, 3, 4, 5] rfl)
  · rw [if_neg c1] at h
    refine lv_iload_n hx hb dX8_tickOf_177 rfl (lv_at hl 2 rfl) ?_
    refine lv_iconst (v := (5 : Int32)) hx hb dX8_tickOf_178 (by decide) ?_
    refine lv_icmp_ne (tgt := 206) hx hb dX8_tickOf_179 (by decide) (fun c2 => ?_) (fun c2 => ?_)
    · rw [if_neg c2] at h
      exact k_X8_tickOf_206 C x1 x2 x3 x5 σ h hh (lv_sub hl [0, 1, 2, 3, 5] rfl)
    · rw [if_pos c2] at h
      exact k_X8_tickOf_182 C x1 x2 x3 x4 x5 σ h hh (lv_sub hl [0, 1, 2, 3, 4, 5] rfl)
def f_X8_tickOf_139 (x1 : Int32) (x2 : Int32) (x3 : Int32) (x4 : Int32) (x5 : Int32) (σ : Mem) : Option (Mem) := (if x2 = (4 : Int32) then gd (vin x1 12) ((if (σ 801 0 0) < (σ 817 0 (x1).toNatClampNeg) then f_X8_tickOf_172 x1 x2 x3 x4 x5 σ else gd (vin x1 12) (vl (up σ 812 0 (x1).toNatClampNeg (5 : Int32)) (fun s5 => bv (f_X8_sayRenew x1 s5) (fun s8 => some s8))))) else f_X8_tickOf_172 x1 x2 x3 x4 x5 σ)
set_option maxHeartbeats 4000000 in
set_option maxRecDepth 100000 in
theorem k_X8_tickOf_139 {p : Program} {l : Launch} {e : Env} {s : State} {m : MethodId} {args : Array Value} {below : List Frame} {meth : Method} {c : Code} {D : va_G} {cA : Nat → ClassId} {ad : Nat → Nat → Nat} {A : Nat → Prop} {o : Nat → Int64} (C : Cx p s m args meth c cX8_tickOf 6 RX8 none D cA ad A o) {r : Mem} (x1 : Int32) (x2 : Int32) (x3 : Int32) (x4 : Int32) (x5 : Int32) (σ : Mem) {H : Heap} {locs : List Loc} (h : f_X8_tickOf_139 x1 x2 x3 x4 x5 σ = some r) (hh : HH D cA ad A o s σ H locs) {ls : Array Slot} (hl : lv_has ls 6 [(0, .ref (ad 899 0)), (1, .int x1), (2, .int x2), (3, .int x3), (4, .int x4), (5, .int x5)]) : W p l e rm_X8_tickOf s m args below meth c H locs 0 0 (MQ below (Qv D cA ad o A r) args s 0 0 A) (F0 m 139 ls []) := by
  obtain ⟨⟨hx, hb, hml, hown, hts⟩, hK, hN, hD, hr, hlocks⟩ := id C
  unfold f_X8_tickOf_139 at h
  refine lv_iload_n hx hb dX8_tickOf_139 rfl (lv_at hl 2 rfl) ?_
  refine lv_iconst (v := (4 : Int32)) hx hb dX8_tickOf_140 (by decide) ?_
  refine lv_icmp_ne (tgt := 172) hx hb dX8_tickOf_141 (by decide) (fun c1 => ?_) (fun c1 => ?_)
  · rw [if_neg c1] at h
    exact k_X8_tickOf_172 C x1 x2 x3 x4 x5 σ h hh (lv_sub hl [0, 1, 2, 3, 4, 5] rfl)
  · rw [if_pos c1] at h
    refine lv_aload_n hx hb dX8_tickOf_144 rfl (lv_at hl 0 rfl) ?_
    refine gf_8_53 C hh dX8_tickOf_145 ?_
    refine lv_iload_n hx hb dX8_tickOf_148 rfl (lv_at hl 1 rfl) ?_
    obtain ⟨b2, h⟩ := gd_e h
    refine al_817 C hh b2 dX8_tickOf_149 ?_
    refine lv_aload_n hx hb dX8_tickOf_150 rfl (lv_at hl 0 rfl) ?_
    refine gf_8_130 C hh dX8_tickOf_151 ?_
    refine lv_icmp_gt (tgt := 172) hx hb dX8_tickOf_154 (by decide) (fun c3 => ?_) (fun c3 => ?_)
    · rw [if_pos c3] at h
      exact k_X8_tickOf_172 C x1 x2 x3 x4 x5 σ h hh (lv_sub hl [0, 1, 2, 3, 4, 5] rfl)
    · rw [if_neg c3] at h
      refine lv_aload_n hx hb dX8_tickOf_157 rfl (lv_at hl 0 rfl) ?_
      refine gf_8_38 C hh dX8_tickOf_158 ?_
      refine lv_iload_n hx hb dX8_tickOf_161 rfl (lv_at hl 1 rfl) ?_
      refine lv_iconst (v := (5 : Int32)) hx hb dX8_tickOf_162 (by decide) ?_
      obtain ⟨b4, h⟩ := gd_e h
      obtain ⟨s5, e6, h⟩ := vl_e h
      refine as_812 C hh b4 dX8_tickOf_163 (fun H locs hh => ?_)
      rw [← e6] at hh
      refine lv_aload_n hx hb dX8_tickOf_164 rfl (lv_at hl 0 rfl) ?_
      refine lv_iload_n hx hb dX8_tickOf_165 rfl (lv_at hl 1 rfl) ?_
      obtain ⟨s8, e7, h⟩ := bv_e h
      refine c_void hh (vrun (rest := []) C hh (c_X8_sayRenew C.2.2.2.1 x1 s5 e7) LM_8_228 IM_X8_sayRenew SL_X8_sayRenew IN_8 CD_X8_sayRenew HD_X8_sayRenew ⟨rfl, rfl, Nat.le_of_ble_eq_true rfl, Nat.le_of_ble_eq_true rfl⟩ (rv_8 C hh) rfl hl.1 rfl (Nat.le_of_ble_eq_true rfl) dX8_tickOf_166 ⟨Nat.zero_le _, Nat.zero_le _⟩) (fun H locs hh => ?_)
      refine lv_goto (tgt := 253) hx hb dX8_tickOf_169 (by decide) ?_
      exact r_void C hh h dX8_tickOf_253
def f_X8_tickOf_106 (x1 : Int32) (x2 : Int32) (x3 : Int32) (x4 : Int32) (x5 : Int32) (σ : Mem) : Option (Mem) := (if x2 = (3 : Int32) then gd (vin x1 12) ((if (σ 801 0 0) < (σ 816 0 (x1).toNatClampNeg) then f_X8_tickOf_139 x1 x2 x3 x4 x5 σ else gd (vin x1 12) (vl (up σ 812 0 (x1).toNatClampNeg (4 : Int32)) (fun s5 => bv (f_X8_sayRenew x1 s5) (fun s8 => some s8))))) else f_X8_tickOf_139 x1 x2 x3 x4 x5 σ)
set_option maxHeartbeats 4000000 in
set_option maxRecDepth 100000 in
theorem k_X8_tickOf_106 {p : Program} {l : Launch} {e : Env} {s : State} {m : MethodId} {args : Array Value} {below : List Frame} {meth : Method} {c : Code} {D : va_G} {cA : Nat → ClassId} {ad : Nat → Nat → Nat} {A : Nat → Prop} {o : Nat → Int64} (C : Cx p s m args meth c cX8_tickOf 6 RX8 none D cA ad A o) {r : Mem} (x1 : Int32) (x2 : Int32) (x3 : Int32) (x4 : Int32) (x5 : Int32) (σ : Mem) {H : Heap} {locs : List Loc} (h : f_X8_tickOf_106 x1 x2 x3 x4 x5 σ = some r) (hh : HH D cA ad A o s σ H locs) {ls : Array Slot} (hl : lv_has ls 6 [(0, .ref (ad 899 0)), (1, .int x1), (2, .int x2), (3, .int x3), (4, .int x4), (5, .int x5)]) : W p l e rm_X8_tickOf s m args below meth c H locs 0 0 (MQ below (Qv D cA ad o A r) args s 0 0 A) (F0 m 106 ls []) := by
  obtain ⟨⟨hx, hb, hml, hown, hts⟩, hK, hN, hD, hr, hlocks⟩ := id C
  unfold f_X8_tickOf_106 at h
  refine lv_iload_n hx hb dX8_tickOf_106 rfl (lv_at hl 2 rfl) ?_
  refine lv_iconst (v := (3 : Int32)) hx hb dX8_tickOf_107 (by decide) ?_
  refine lv_icmp_ne (tgt := 139) hx hb dX8_tickOf_108 (by decide) (fun c1 => ?_) (fun c1 => ?_)
  · rw [if_neg c1] at h
    exact k_X8_tickOf_139 C x1 x2 x3 x4 x5 σ h hh (lv_sub hl [0, 1, 2, 3, 4, 5] rfl)
  · rw [if_pos c1] at h
    refine lv_aload_n hx hb dX8_tickOf_111 rfl (lv_at hl 0 rfl) ?_
    refine gf_8_50 C hh dX8_tickOf_112 ?_
    refine lv_iload_n hx hb dX8_tickOf_115 rfl (lv_at hl 1 rfl) ?_
    obtain ⟨b2, h⟩ := gd_e h
    refine al_816 C hh b2 dX8_tickOf_116 ?_
    refine lv_aload_n hx hb dX8_tickOf_117 rfl (lv_at hl 0 rfl) ?_
    refine gf_8_130 C hh dX8_tickOf_118 ?_
    refine lv_icmp_gt (tgt := 139) hx hb dX8_tickOf_121 (by decide) (fun c3 => ?_) (fun c3 => ?_)
    · rw [if_pos c3] at h
      exact k_X8_tickOf_139 C x1 x2 x3 x4 x5 σ h hh (lv_sub hl [0, 1, 2, 3, 4, 5] rfl)
    · rw [if_neg c3] at h
      refine lv_aload_n hx hb dX8_tickOf_124 rfl (lv_at hl 0 rfl) ?_
      refine gf_8_38 C hh dX8_tickOf_125 ?_
      refine lv_iload_n hx hb dX8_tickOf_128 rfl (lv_at hl 1 rfl) ?_
      refine lv_iconst (v := (4 : Int32)) hx hb dX8_tickOf_129 (by decide) ?_
      obtain ⟨b4, h⟩ := gd_e h
      obtain ⟨s5, e6, h⟩ := vl_e h
      refine as_812 C hh b4 dX8_tickOf_130 (fun H locs hh => ?_)
      rw [← e6] at hh
      refine lv_aload_n hx hb dX8_tickOf_131 rfl (lv_at hl 0 rfl) ?_
      refine lv_iload_n hx hb dX8_tickOf_132 rfl (lv_at hl 1 rfl) ?_
      obtain ⟨s8, e7, h⟩ := bv_e h
      refine c_void hh (vrun (rest := []) C hh (c_X8_sayRenew C.2.2.2.1 x1 s5 e7) LM_8_228 IM_X8_sayRenew SL_X8_sayRenew IN_8 CD_X8_sayRenew HD_X8_sayRenew ⟨rfl, rfl, Nat.le_of_ble_eq_true rfl, Nat.le_of_ble_eq_true rfl⟩ (rv_8 C hh) rfl hl.1 rfl (Nat.le_of_ble_eq_true rfl) dX8_tickOf_133 ⟨Nat.zero_le _, Nat.zero_le _⟩) (fun H locs hh => ?_)
      refine lv_goto (tgt := 253) hx hb dX8_tickOf_136 (by decide) ?_
      exact r_void C hh h dX8_tickOf_253
def f_X8_tickOf_72 (x1 : Int32) (x2 : Int32) (x3 : Int32) (x4 : Int32) (xs0 : Int32) (σ : Mem) : Option (Mem) := (if x2 < (3 : Int32) then f_X8_tickOf_106 x1 x2 x3 x4 xs0 σ else (if (6 : Int32) < x2 then f_X8_tickOf_106 x1 x2 x3 x4 xs0 σ else gd (vin x1 12) ((if (σ 801 0 0) < (σ 815 0 (x1).toNatClampNeg) then f_X8_tickOf_106 x1 x2 x3 x4 xs0 σ else bv (f_X8_begin x1 σ) (fun s6 => some s6)))))
set_option maxHeartbeats 4000000 in
set_option maxRecDepth 100000 in
theorem k_X8_tickOf_72 {p : Program} {l : Launch} {e : Env} {s : State} {m : MethodId} {args : Array Value} {below : List Frame} {meth : Method} {c : Code} {D : va_G} {cA : Nat → ClassId} {ad : Nat → Nat → Nat} {A : Nat → Prop} {o : Nat → Int64} (C : Cx p s m args meth c cX8_tickOf 6 RX8 none D cA ad A o) {r : Mem} (x1 : Int32) (x2 : Int32) (x3 : Int32) (x4 : Int32) (xs0 : Int32) (σ : Mem) {H : Heap} {locs : List Loc} (h : f_X8_tickOf_72 x1 x2 x3 x4 xs0 σ = some r) (hh : HH D cA ad A o s σ H locs) {ls : Array Slot} (hl : lv_has ls 6 [(0, .ref (ad 899 0)), (1, .int x1), (2, .int x2), (3, .int x3), (4, .int x4)]) : W p l e rm_X8_tickOf s m args below meth c H locs 0 0 (MQ below (Qv D cA ad o A r) args s 0 0 A) (F0 m 72 ls [.int xs0]) := by
  obtain ⟨⟨hx, hb, hml, hown, hts⟩, hK, hN, hD, hr, hlocks⟩ := id C
  unfold f_X8_tickOf_72 at h
  refine lv_istore (lv' := [(5, .int xs0), (0, .ref (ad 899 0)), (1, .int x1), (2, .int x2), (3, .int x3), (4, .int x4)]) hx hb dX8_tickOf_72 hl (by decide) rfl (fun ls hl => ?_)
  refine lv_iload_n hx hb dX8_tickOf_74 rfl (lv_at hl 3 rfl) ?_
  refine lv_iconst (v := (3 : Int32)) hx hb dX8_tickOf_75 (by decide) ?_
  refine lv_icmp_lt (tgt := 106) hx hb dX8_tickOf_76 (by decide) (fun c1 => ?_) (fun c1 => ?_)
  · rw [if_pos c1] at h
    exact k_X8_tickOf_106 C x1 x2 x3 x4 xs0 σ h hh (lv_sub hl [1, 2, 3, 4, 5, 0] rfl)
  · rw [if_neg c1] at h
    refine lv_iload_n hx hb dX8_tickOf_79 rfl (lv_at hl 3 rfl) ?_
    refine lv_bipush (v := (6 : Int32)) hx hb dX8_tickOf_80 (by decide) ?_
    refine lv_icmp_gt (tgt := 106) hx hb dX8_tickOf_82 (by decide) (fun c2 => ?_) (fun c2 => ?_)
    · rw [if_pos c2] at h
      exact k_X8_tickOf_106 C x1 x2 x3 x4 xs0 σ h hh (lv_sub hl [1, 2, 3, 4, 5, 0] rfl)
    · rw [if_neg c2] at h
      refine lv_aload_n hx hb dX8_tickOf_85 rfl (lv_at hl 1 rfl) ?_
      refine gf_8_47 C hh dX8_tickOf_86 ?_
      refine lv_iload_n hx hb dX8_tickOf_89 rfl (lv_at hl 2 rfl) ?_
      obtain ⟨b3, h⟩ := gd_e h
      refine al_815 C hh b3 dX8_tickOf_90 ?_
      refine lv_aload_n hx hb dX8_tickOf_91 rfl (lv_at hl 1 rfl) ?_
      refine gf_8_130 C hh dX8_tickOf_92 ?_
      refine lv_icmp_gt (tgt := 106) hx hb dX8_tickOf_95 (by decide) (fun c4 => ?_) (fun c4 => ?_)
      · rw [if_pos c4] at h
        exact k_X8_tickOf_106 C x1 x2 x3 x4 xs0 σ h hh (lv_sub hl [1, 2, 3, 4, 5, 0] rfl)
      · rw [if_neg c4] at h
        refine lv_aload_n hx hb dX8_tickOf_98 rfl (lv_at hl 1 rfl) ?_
        refine lv_iload_n hx hb dX8_tickOf_99 rfl (lv_at hl 2 rfl) ?_
        obtain ⟨s6, e5, h⟩ := bv_e h
        refine c_void hh (vrun (rest := []) C hh (c_X8_begin C.2.2.2.1 x1 σ e5) LM_8_222 IM_X8_begin SL_X8_begin IN_8 CD_X8_begin HD_X8_begin ⟨rfl, rfl, Nat.le_of_ble_eq_true rfl, Nat.le_of_ble_eq_true rfl⟩ (rv_8 C hh) rfl hl.1 rfl (Nat.le_of_ble_eq_true rfl) dX8_tickOf_100 ⟨Nat.zero_le _, Nat.zero_le _⟩) (fun H locs hh => ?_)
        refine lv_goto (tgt := 253) hx hb dX8_tickOf_103 (by decide) ?_
        exact r_void C hh h dX8_tickOf_253
def f_X8_tickOf_39 (x1 : Int32) (x2 : Int32) (x3 : Int32) (xs0 : Int32) (σ : Mem) : Option (Mem) := gd (vin x1 12) ((if (σ 820 0 (x1).toNatClampNeg) = (1 : Int32) then f_X8_tickOf_72 x1 x2 x3 xs0 (4 : Int32) σ else gd (vin x1 12) ((if (σ 820 0 (x1).toNatClampNeg) = (2 : Int32) then f_X8_tickOf_72 x1 x2 x3 xs0 (8 : Int32) σ else f_X8_tickOf_72 x1 x2 x3 xs0 (16 : Int32) σ))))
set_option maxHeartbeats 4000000 in
set_option maxRecDepth 100000 in
theorem k_X8_tickOf_39 {p : Program} {l : Launch} {e : Env} {s : State} {m : MethodId} {args : Array Value} {below : List Frame} {meth : Method} {c : Code} {D : va_G} {cA : Nat → ClassId} {ad : Nat → Nat → Nat} {A : Nat → Prop} {o : Nat → Int64} (C : Cx p s m args meth c cX8_tickOf 6 RX8 none D cA ad A o) {r : Mem} (x1 : Int32) (x2 : Int32) (x3 : Int32) (xs0 : Int32) (σ : Mem) {H : Heap} {locs : List Loc} (h : f_X8_tickOf_39 x1 x2 x3 xs0 σ = some r) (hh : HH D cA ad A o s σ H locs) {ls : Array Slot} (hl : lv_has ls 6 [(0, .ref (ad 899 0)), (1, .int x1), (2, .int x2), (3, .int x3)]) : W p l e rm_X8_tickOf s m args below meth c H locs 0 0 (MQ below (Qv D cA ad o A r) args s 0 0 A) (F0 m 39 ls [.int xs0]) := by
  obtain ⟨⟨hx, hb, hml, hown, hts⟩, hK, hN, hD, hr, hlocks⟩ := id C
  unfold f_X8_tickOf_39 at h
  refine lv_istore (lv' := [(4, .int xs0), (0, .ref (ad 899 0)), (1, .int x1), (2, .int x2), (3, .int x3)]) hx hb dX8_tickOf_39 hl (by decide) rfl (fun ls hl => ?_)
  refine lv_aload_n hx hb dX8_tickOf_41 rfl (lv_at hl 1 rfl) ?_
  refine gf_8_62 C hh dX8_tickOf_42 ?_
  refine lv_iload_n hx hb dX8_tickOf_45 rfl (lv_at hl 2 rfl) ?_
  obtain ⟨b1, h⟩ := gd_e h
  refine al_820 C hh b1 dX8_tickOf_46 ?_
  refine lv_iconst (v := (1 : Int32)) hx hb dX8_tickOf_47 (by decide) ?_
  refine lv_icmp_ne (tgt := 55) hx hb dX8_tickOf_48 (by decide) (fun c2 => ?_) (fun c2 => ?_)
  · rw [if_neg c2] at h
    refine lv_aload_n hx hb dX8_tickOf_55 rfl (lv_at hl 1 rfl) ?_
    refine gf_8_62 C hh dX8_tickOf_56 ?_
    refine lv_iload_n hx hb dX8_tickOf_59 rfl (lv_at hl 2 rfl) ?_
    obtain ⟨b3, h⟩ := gd_e h
    refine al_820 C hh b3 dX8_tickOf_60 ?_
    refine lv_iconst (v := (2 : Int32)) hx hb dX8_tickOf_61 (by decide) ?_
    refine lv_icmp_ne (tgt := 70) hx hb dX8_tickOf_62 (by decide) (fun c4 => ?_) (fun c4 => ?_)
    · rw [if_neg c4] at h
      refine lv_bipush (v := (16 : Int32)) hx hb dX8_tickOf_70 (by decide) ?_
      exact k_X8_tickOf_72 C x1 x2 x3 xs0 (16 : Int32) σ h hh (lv_sub hl [1, 2, 3, 4, 0] rfl)
    · rw [if_pos c4] at h
      refine lv_bipush (v := (8 : Int32)) hx hb dX8_tickOf_65 (by decide) ?_
      refine lv_goto (tgt := 72) hx hb dX8_tickOf_67 (by decide) ?_
      exact k_X8_tickOf_72 C x1 x2 x3 xs0 (8 : Int32) σ h hh (lv_sub hl [1, 2, 3, 4, 0] rfl)
  · rw [if_pos c2] at h
    refine lv_iconst (v := (4 : Int32)) hx hb dX8_tickOf_51 (by decide) ?_
    refine lv_goto (tgt := 72) hx hb dX8_tickOf_52 (by decide) ?_
    exact k_X8_tickOf_72 C x1 x2 x3 xs0 (4 : Int32) σ h hh (lv_sub hl [1, 2, 3, 4, 0] rfl)
def f_X8_tickOf (x1 : Int32) (σ : Mem) : Option (Mem) := gd (vin x1 12) (gd (vin x1 12) (vl (((σ 801 0 0) - (σ 819 0 (x1).toNatClampNeg))) (fun v3 => (if (σ 812 0 (x1).toNatClampNeg) = (4 : Int32) then gd (vin x1 12) (f_X8_tickOf_39 x1 (σ 812 0 (x1).toNatClampNeg) v3 (σ 817 0 (x1).toNatClampNeg) σ) else gd (vin x1 12) (f_X8_tickOf_39 x1 (σ 812 0 (x1).toNatClampNeg) v3 (σ 815 0 (x1).toNatClampNeg) σ)))))
set_option maxHeartbeats 4000000 in
set_option maxRecDepth 100000 in
theorem c_X8_tickOf {l : Launch} {D : va_G} {cA : Nat → ClassId} {ad : Nat → Nat → Nat} {A : Nat → Prop} {o : Nat → Int64} (hD0 : ∀ σ, va_D A (wW cA ad σ o)) (x1 : Int32) (σ : Mem) {r : Mem} (h : f_X8_tickOf x1 σ = some r) : Met l yX8_tickOf (wsG yX8_tickOf cX8_tickOf 6 none) rm_X8_tickOf (va_Pc [.ref (ad 899 0), .int x1] (IW D cA ad o σ)) (Qv D cA ad o A r) 0 0 A := by
  refine metG (by decide) (Nat.le_of_ble_eq_true rfl) hD0 ?_
  intro p e s m args below meth c C ls hh hl
  have C : Cx p s m args meth c cX8_tickOf 6 RX8 none D cA ad A o := C
  have hl : lv_has ls 6 [(0, .ref (ad 899 0)), (1, .int x1)] := hl
  obtain ⟨⟨hx, hb, hml, hown, hts⟩, hK, hN, hD, hr, hlocks⟩ := id C
  unfold f_X8_tickOf at h
  refine lv_aload_n hx hb dX8_tickOf_0 rfl (lv_at hl 0 rfl) ?_
  refine gf_8_38 C hh dX8_tickOf_1 ?_
  refine lv_iload_n hx hb dX8_tickOf_4 rfl (lv_at hl 1 rfl) ?_
  obtain ⟨b1, h⟩ := gd_e h
  refine al_812 C hh b1 dX8_tickOf_5 ?_
  refine lv_istore_n (lv' := [(2, .int (σ 812 0 (x1).toNatClampNeg)), (0, .ref (ad 899 0)), (1, .int x1)]) hx hb dX8_tickOf_6 rfl hl (by decide) rfl (fun ls hl => ?_)
  refine lv_aload_n hx hb dX8_tickOf_7 rfl (lv_at hl 1 rfl) ?_
  refine gf_8_130 C hh dX8_tickOf_8 ?_
  refine lv_aload_n hx hb dX8_tickOf_11 rfl (lv_at hl 1 rfl) ?_
  refine gf_8_59 C hh dX8_tickOf_12 ?_
  refine lv_iload_n hx hb dX8_tickOf_15 rfl (lv_at hl 2 rfl) ?_
  obtain ⟨b2, h⟩ := gd_e h
  refine al_819 C hh b2 dX8_tickOf_16 ?_
  refine lv_isub hx hb dX8_tickOf_17 ?_
  obtain ⟨v3, e4, h⟩ := vl_e h
  refine lv_nm e4 ?_
  refine lv_istore_n (lv' := [(3, .int v3), (2, .int (σ 812 0 (x1).toNatClampNeg)), (0, .ref (ad 899 0)), (1, .int x1)]) hx hb dX8_tickOf_18 rfl hl (by decide) rfl (fun ls hl => ?_)
  refine lv_iload_n hx hb dX8_tickOf_19 rfl (lv_at hl 1 rfl) ?_
  refine lv_iconst (v := (4 : Int32)) hx hb dX8_tickOf_20 (by decide) ?_
  refine lv_icmp_ne (tgt := 33) hx hb dX8_tickOf_21 (by decide) (fun c5 => ?_) (fun c5 => ?_)
  · rw [if_neg c5] at h
    refine lv_aload_n hx hb dX8_tickOf_33 rfl (lv_at hl 2 rfl) ?_
    refine gf_8_47 C hh dX8_tickOf_34 ?_
    refine lv_iload_n hx hb dX8_tickOf_37 rfl (lv_at hl 3 rfl) ?_
    obtain ⟨b6, h⟩ := gd_e h
    refine al_815 C hh b6 dX8_tickOf_38 ?_
    exact k_X8_tickOf_39 C x1 (σ 812 0 (x1).toNatClampNeg) v3 (σ 815 0 (x1).toNatClampNeg) σ h hh (lv_sub hl [2, 3, 1, 0] rfl)
  · rw [if_pos c5] at h
    refine lv_aload_n hx hb dX8_tickOf_24 rfl (lv_at hl 2 rfl) ?_
    refine gf_8_53 C hh dX8_tickOf_25 ?_
    refine lv_iload_n hx hb dX8_tickOf_28 rfl (lv_at hl 3 rfl) ?_
    obtain ⟨b7, h⟩ := gd_e h
    refine al_817 C hh b7 dX8_tickOf_29 ?_
    refine lv_goto (tgt := 39) hx hb dX8_tickOf_30 (by decide) ?_
    exact k_X8_tickOf_39 C x1 (σ 812 0 (x1).toNatClampNeg) v3 (σ 817 0 (x1).toNatClampNeg) σ h hh (lv_sub hl [2, 3, 1, 0] rfl)
