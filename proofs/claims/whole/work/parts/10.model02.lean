abbrev rm_X8_answer : Room := { frames := 2, cells := 0, slots := 0, locals := 49 }
theorem HD_X8_answer : yX8_answer.cls = RX8 ∧ yX8_answer.cls ≠ "java/lang/invoke/MethodHandle" ∧ yX8_answer.cls ≠ "java/lang/invoke/VarHandle" ∧ (parseMethodDescriptor yX8_answer.desc).map (fun d => d.parameters.length) = some 6 := by decide +kernel
def f_X8_answer_66 (xs0 : Int32) (σ : Mem) : Option (Mem) := bv (f_X8_send xs0 σ) (fun s2 => some s2)
set_option maxHeartbeats 4000000 in
set_option maxRecDepth 100000 in
theorem k_X8_answer_66 {p : Program} {l : Launch} {e : Env} {s : State} {m : MethodId} {args : Array Value} {below : List Frame} {meth : Method} {c : Code} {D : va_G} {cA : Nat → ClassId} {ad : Nat → Nat → Nat} {A : Nat → Prop} {o : Nat → Int64} (C : Cx p s m args meth c cX8_answer 8 RX8 none D cA ad A o) {r : Mem} (xs0 : Int32) (σ : Mem) {H : Heap} {locs : List Loc} (h : f_X8_answer_66 xs0 σ = some r) (hh : HH D cA ad A o s σ H locs) {ls : Array Slot} (hl : lv_has ls 8 []) : W p l e rm_X8_answer s m args below meth c H locs 0 0 (MQ below (Qv D cA ad o A r) args s 0 0 A) (F0 m 66 ls [.int xs0, .ref (ad 899 0)]) := by
  obtain ⟨⟨hx, hb, hml, hown, hts⟩, hK, hN, hD, hr, hlocks⟩ := id C
  unfold f_X8_answer_66 at h
  obtain ⟨s2, e1, h⟩ := bv_e h
  refine c_void hh (vrun (rest := []) C hh (c_X8_send C.2.2.2.1 xs0 σ e1) LM_8_161 IM_X8_send SL_X8_send IN_8 CD_X8_send HD_X8_send ⟨rfl, rfl, Nat.le_of_ble_eq_true rfl, Nat.le_of_ble_eq_true rfl⟩ (rv_8 C hh) rfl hl.1 rfl (Nat.le_of_ble_eq_true rfl) dX8_answer_66 ⟨Nat.zero_le _, Nat.zero_le _⟩) (fun H locs hh => ?_)
  exact r_void C hh h dX8_answer_69
def f_X8_answer_32 (x5 : Int32) (x6 : Int32) (σ : Mem) : Option (Mem) := bv (f_X8_option (54 : Int32) (1 : Int32) σ) (fun s2 => bv (f_X8_finish s2) (fun s4 => vl ((x5 >>> ((8 : Int32) &&& 31))) (fun v5 => (if v5 ≤ (0 : Int32) then f_X8_answer_66 x6 s4 else f_X8_answer_66 ((12 : Int32) + v5) s4))))
set_option maxHeartbeats 4000000 in
set_option maxRecDepth 100000 in
theorem k_X8_answer_32 {p : Program} {l : Launch} {e : Env} {s : State} {m : MethodId} {args : Array Value} {below : List Frame} {meth : Method} {c : Code} {D : va_G} {cA : Nat → ClassId} {ad : Nat → Nat → Nat} {A : Nat → Prop} {o : Nat → Int64} (C : Cx p s m args meth c cX8_answer 8 RX8 none D cA ad A o) {r : Mem} (x5 : Int32) (x6 : Int32) (σ : Mem) {H : Heap} {locs : List Loc} (h : f_X8_answer_32 x5 x6 σ = some r) (hh : HH D cA ad A o s σ H locs) {ls : Array Slot} (hl : lv_has ls 8 [(0, .ref (ad 899 0)), (5, .int x5), (6, .int x6)]) : W p l e rm_X8_answer s m args below meth c H locs 0 0 (MQ below (Qv D cA ad o A r) args s 0 0 A) (F0 m 32 ls []) := by
  obtain ⟨⟨hx, hb, hml, hown, hts⟩, hK, hN, hD, hr, hlocks⟩ := id C
  unfold f_X8_answer_32 at h
  refine lv_aload_n hx hb dX8_answer_32 rfl (lv_at hl 0 rfl) ?_
  refine lv_bipush (v := (54 : Int32)) hx hb dX8_answer_33 (by decide) ?_
  refine lv_iconst (v := (1 : Int32)) hx hb dX8_answer_35 (by decide) ?_
  obtain ⟨s2, e1, h⟩ := bv_e h
  refine c_void hh (vrun (rest := []) C hh (c_X8_option C.2.2.2.1 (54 : Int32) (1 : Int32) σ e1) LM_8_155 IM_X8_option SL_X8_option IN_8 CD_X8_option HD_X8_option ⟨rfl, rfl, Nat.le_of_ble_eq_true rfl, Nat.le_of_ble_eq_true rfl⟩ (rv_8 C hh) rfl hl.1 rfl (Nat.le_of_ble_eq_true rfl) dX8_answer_36 ⟨Nat.zero_le _, Nat.zero_le _⟩) (fun H locs hh => ?_)
  refine lv_aload_n hx hb dX8_answer_39 rfl (lv_at hl 0 rfl) ?_
  obtain ⟨s4, e3, h⟩ := bv_e h
  refine c_void hh (vrun (rest := []) C hh (c_X8_finish C.2.2.2.1 s2 e3) LM_8_158 IM_X8_finish SL_X8_finish IN_8 CD_X8_finish HD_X8_finish ⟨rfl, rfl, Nat.le_of_ble_eq_true rfl, Nat.le_of_ble_eq_true rfl⟩ (rv_8 C hh) rfl hl.1 rfl (Nat.le_of_ble_eq_true rfl) dX8_answer_40 ⟨Nat.zero_le _, Nat.zero_le _⟩) (fun H locs hh => ?_)
  refine lv_iload hx hb dX8_answer_43 (lv_at hl 1 rfl) ?_
  refine lv_bipush (v := (8 : Int32)) hx hb dX8_answer_45 (by decide) ?_
  refine lv_ishr hx hb dX8_answer_47 ?_
  obtain ⟨v5, e6, h⟩ := vl_e h
  refine lv_nm e6 ?_
  refine lv_istore (lv' := [(7, .int v5), (0, .ref (ad 899 0)), (5, .int x5), (6, .int x6)]) hx hb dX8_answer_48 hl (by decide) rfl (fun ls hl => ?_)
  refine lv_aload_n hx hb dX8_answer_50 rfl (lv_at hl 1 rfl) ?_
  refine lv_iload hx hb dX8_answer_51 (lv_at hl 0 rfl) ?_
  refine lv_if_le (tgt := 64) hx hb dX8_answer_53 (by decide) (fun c7 => ?_) (fun c7 => ?_)
  · rw [if_pos c7] at h
    refine lv_iload hx hb dX8_answer_64 (lv_at hl 3 rfl) ?_
    exact k_X8_answer_66 C x6 s4 h hh (lv_sub hl [] rfl)
  · rw [if_neg c7] at h
    refine lv_bipush (v := (12 : Int32)) hx hb dX8_answer_56 (by decide) ?_
    refine lv_iload hx hb dX8_answer_58 (lv_at hl 0 rfl) ?_
    refine lv_iadd hx hb dX8_answer_60 ?_
    refine lv_goto (tgt := 66) hx hb dX8_answer_61 (by decide) ?_
    exact k_X8_answer_66 C ((12 : Int32) + v5) s4 h hh (lv_sub hl [] rfl)
def f_X8_answer (x1 : Int32) (x2 : Int32) (x3 : Int32) (x4 : Int32) (x5 : Int32) (x6 : Int32) (σ : Mem) : Option (Mem) := bv (f_X8_make (2 : Int32) x4 (0 : Int32) x3 x5 x6 x2 σ) (fun s2 => (if x2 = (6 : Int32) then f_X8_answer_32 x5 x6 s2 else gd (vin x1 4) (bv (f_X8_option (51 : Int32) (s2 804 0 (x1).toNatClampNeg) s2) (fun s6 => f_X8_answer_32 x5 x6 s6))))
set_option maxHeartbeats 4000000 in
set_option maxRecDepth 100000 in
theorem c_X8_answer {l : Launch} {D : va_G} {cA : Nat → ClassId} {ad : Nat → Nat → Nat} {A : Nat → Prop} {o : Nat → Int64} (hD0 : ∀ σ, va_D A (wW cA ad σ o)) (x1 : Int32) (x2 : Int32) (x3 : Int32) (x4 : Int32) (x5 : Int32) (x6 : Int32) (σ : Mem) {r : Mem} (h : f_X8_answer x1 x2 x3 x4 x5 x6 σ = some r) : Met l yX8_answer (wsG yX8_answer cX8_answer 8 none) rm_X8_answer (va_Pc [.ref (ad 899 0), .int x1, .int x2, .int x3, .int x4, .int x5, .int x6] (IW D cA ad o σ)) (Qv D cA ad o A r) 0 0 A := by
  refine metG (by decide) (Nat.le_of_ble_eq_true rfl) hD0 ?_
  intro p e s m args below meth c C ls hh hl
  have C : Cx p s m args meth c cX8_answer 8 RX8 none D cA ad A o := C
  have hl : lv_has ls 8 [(0, .ref (ad 899 0)), (1, .int x1), (2, .int x2), (3, .int x3), (4, .int x4), (5, .int x5), (6, .int x6)] := hl
  obtain ⟨⟨hx, hb, hml, hown, hts⟩, hK, hN, hD, hr, hlocks⟩ := id C
  unfold f_X8_answer at h
  refine lv_aload_n hx hb dX8_answer_0 rfl (lv_at hl 0 rfl) ?_
  refine lv_iconst (v := (2 : Int32)) hx hb dX8_answer_1 (by decide) ?_
  refine lv_iload hx hb dX8_answer_2 (lv_at hl 4 rfl) ?_
  refine lv_iconst (v := (0 : Int32)) hx hb dX8_answer_4 (by decide) ?_
  refine lv_iload_n hx hb dX8_answer_5 rfl (lv_at hl 3 rfl) ?_
  refine lv_iload hx hb dX8_answer_6 (lv_at hl 5 rfl) ?_
  refine lv_iload hx hb dX8_answer_8 (lv_at hl 6 rfl) ?_
  refine lv_iload_n hx hb dX8_answer_10 rfl (lv_at hl 2 rfl) ?_
  obtain ⟨s2, e1, h⟩ := bv_e h
  refine c_void hh (vrun (rest := []) C hh (c_X8_make C.2.2.2.1 (2 : Int32) x4 (0 : Int32) x3 x5 x6 x2 σ e1) LM_8_151 IM_X8_make SL_X8_make IN_8 CD_X8_make HD_X8_make ⟨rfl, rfl, Nat.le_of_ble_eq_true rfl, Nat.le_of_ble_eq_true rfl⟩ (rv_8 C hh) rfl hl.1 rfl (Nat.le_of_ble_eq_true rfl) dX8_answer_11 ⟨Nat.zero_le _, Nat.zero_le _⟩) (fun H locs hh => ?_)
  refine lv_iload_n hx hb dX8_answer_14 rfl (lv_at hl 2 rfl) ?_
  refine lv_bipush (v := (6 : Int32)) hx hb dX8_answer_15 (by decide) ?_
  refine lv_icmp_eq (tgt := 32) hx hb dX8_answer_17 (by decide) (fun c3 => ?_) (fun c3 => ?_)
  · rw [if_pos c3] at h
    exact k_X8_answer_32 C x5 x6 s2 h hh (lv_sub hl [0, 5, 6] rfl)
  · rw [if_neg c3] at h
    refine lv_aload_n hx hb dX8_answer_20 rfl (lv_at hl 0 rfl) ?_
    refine lv_bipush (v := (51 : Int32)) hx hb dX8_answer_21 (by decide) ?_
    refine lv_aload_n hx hb dX8_answer_23 rfl (lv_at hl 0 rfl) ?_
    refine gf_8_16 C hh dX8_answer_24 ?_
    refine lv_iload_n hx hb dX8_answer_27 rfl (lv_at hl 1 rfl) ?_
    obtain ⟨b4, h⟩ := gd_e h
    refine al_804 C hh b4 dX8_answer_28 ?_
    obtain ⟨s6, e5, h⟩ := bv_e h
    refine c_void hh (vrun (rest := []) C hh (c_X8_option C.2.2.2.1 (51 : Int32) (s2 804 0 (x1).toNatClampNeg) s2 e5) LM_8_155 IM_X8_option SL_X8_option IN_8 CD_X8_option HD_X8_option ⟨rfl, rfl, Nat.le_of_ble_eq_true rfl, Nat.le_of_ble_eq_true rfl⟩ (rv_8 C hh) rfl hl.1 rfl (Nat.le_of_ble_eq_true rfl) dX8_answer_29 ⟨Nat.zero_le _, Nat.zero_le _⟩) (fun H locs hh => ?_)
    exact k_X8_answer_32 C x5 x6 s6 h hh (lv_sub hl [0, 5, 6] rfl)
abbrev rm_X8_discover : Room := { frames := 3, cells := 0, slots := 0, locals := 76 }
theorem HD_X8_discover : yX8_discover.cls = RX8 ∧ yX8_discover.cls ≠ "java/lang/invoke/MethodHandle" ∧ yX8_discover.cls ≠ "java/lang/invoke/VarHandle" ∧ (parseMethodDescriptor yX8_discover.desc).map (fun d => d.parameters.length) = some 4 := by decide +kernel
def f_X8_discover_65 (x1 : Int32) (x2 : Int32) (x3 : Int32) (x4 : Int32) (x5 : Int32) (σ : Mem) : Option (Mem) := bv (f_X8_answer x1 (2 : Int32) x5 x3 x4 x2 σ) (fun s2 => some s2)
set_option maxHeartbeats 4000000 in
set_option maxRecDepth 100000 in
theorem k_X8_discover_65 {p : Program} {l : Launch} {e : Env} {s : State} {m : MethodId} {args : Array Value} {below : List Frame} {meth : Method} {c : Code} {D : va_G} {cA : Nat → ClassId} {ad : Nat → Nat → Nat} {A : Nat → Prop} {o : Nat → Int64} (C : Cx p s m args meth c cX8_discover 6 RX8 none D cA ad A o) {r : Mem} (x1 : Int32) (x2 : Int32) (x3 : Int32) (x4 : Int32) (x5 : Int32) (σ : Mem) {H : Heap} {locs : List Loc} (h : f_X8_discover_65 x1 x2 x3 x4 x5 σ = some r) (hh : HH D cA ad A o s σ H locs) {ls : Array Slot} (hl : lv_has ls 6 [(0, .ref (ad 899 0)), (1, .int x1), (2, .int x2), (3, .int x3), (4, .int x4), (5, .int x5)]) : W p l e rm_X8_discover s m args below meth c H locs 0 0 (MQ below (Qv D cA ad o A r) args s 0 0 A) (F0 m 65 ls []) := by
  obtain ⟨⟨hx, hb, hml, hown, hts⟩, hK, hN, hD, hr, hlocks⟩ := id C
  unfold f_X8_discover_65 at h
  refine lv_aload_n hx hb dX8_discover_65 rfl (lv_at hl 0 rfl) ?_
  refine lv_iload_n hx hb dX8_discover_66 rfl (lv_at hl 1 rfl) ?_
  refine lv_iconst (v := (2 : Int32)) hx hb dX8_discover_67 (by decide) ?_
  refine lv_iload hx hb dX8_discover_68 (lv_at hl 5 rfl) ?_
  refine lv_iload_n hx hb dX8_discover_70 rfl (lv_at hl 3 rfl) ?_
  refine lv_iload hx hb dX8_discover_71 (lv_at hl 4 rfl) ?_
  refine lv_iload_n hx hb dX8_discover_73 rfl (lv_at hl 2 rfl) ?_
  obtain ⟨s2, e1, h⟩ := bv_e h
  refine c_void hh (vrun (rest := []) C hh (c_X8_answer C.2.2.2.1 x1 (2 : Int32) x5 x3 x4 x2 σ e1) LM_8_168 IM_X8_answer SL_X8_answer IN_8 CD_X8_answer HD_X8_answer ⟨rfl, rfl, Nat.le_of_ble_eq_true rfl, Nat.le_of_ble_eq_true rfl⟩ (rv_8 C hh) rfl hl.1 rfl (Nat.le_of_ble_eq_true rfl) dX8_discover_74 ⟨Nat.zero_le _, Nat.zero_le _⟩) (fun H locs hh => ?_)
  exact r_void C hh h dX8_discover_77
def f_X8_discover_50 (x1 : Int32) (x2 : Int32) (x3 : Int32) (x4 : Int32) (x5 : Int32) (σ : Mem) : Option (Mem) := bv (f_X8_setRecord x5 (1 : Int32) x2 ((σ 801 0 0) + (8 : Int32)) σ) (fun s2 => f_X8_discover_65 x1 x2 x3 x4 x5 s2)
set_option maxHeartbeats 4000000 in
set_option maxRecDepth 100000 in
theorem k_X8_discover_50 {p : Program} {l : Launch} {e : Env} {s : State} {m : MethodId} {args : Array Value} {below : List Frame} {meth : Method} {c : Code} {D : va_G} {cA : Nat → ClassId} {ad : Nat → Nat → Nat} {A : Nat → Prop} {o : Nat → Int64} (C : Cx p s m args meth c cX8_discover 6 RX8 none D cA ad A o) {r : Mem} (x1 : Int32) (x2 : Int32) (x3 : Int32) (x4 : Int32) (x5 : Int32) (σ : Mem) {H : Heap} {locs : List Loc} (h : f_X8_discover_50 x1 x2 x3 x4 x5 σ = some r) (hh : HH D cA ad A o s σ H locs) {ls : Array Slot} (hl : lv_has ls 6 [(0, .ref (ad 899 0)), (1, .int x1), (2, .int x2), (3, .int x3), (4, .int x4), (5, .int x5)]) : W p l e rm_X8_discover s m args below meth c H locs 0 0 (MQ below (Qv D cA ad o A r) args s 0 0 A) (F0 m 50 ls []) := by
  obtain ⟨⟨hx, hb, hml, hown, hts⟩, hK, hN, hD, hr, hlocks⟩ := id C
  unfold f_X8_discover_50 at h
  refine lv_aload_n hx hb dX8_discover_50 rfl (lv_at hl 0 rfl) ?_
  refine lv_iload hx hb dX8_discover_51 (lv_at hl 5 rfl) ?_
  refine lv_iconst (v := (1 : Int32)) hx hb dX8_discover_53 (by decide) ?_
  refine lv_iload_n hx hb dX8_discover_54 rfl (lv_at hl 2 rfl) ?_
  refine lv_aload_n hx hb dX8_discover_55 rfl (lv_at hl 0 rfl) ?_
  refine gf_8_130 C hh dX8_discover_56 ?_
  refine lv_bipush (v := (8 : Int32)) hx hb dX8_discover_59 (by decide) ?_
  refine lv_iadd hx hb dX8_discover_61 ?_
  obtain ⟨s2, e1, h⟩ := bv_e h
  refine c_void hh (vrun (rest := []) C hh (c_X8_setRecord C.2.2.2.1 x5 (1 : Int32) x2 ((σ 801 0 0) + (8 : Int32)) σ e1) LM_8_147 IM_X8_setRecord SL_X8_setRecord IN_8 CD_X8_setRecord HD_X8_setRecord ⟨rfl, rfl, Nat.le_of_ble_eq_true rfl, Nat.le_of_ble_eq_true rfl⟩ (rv_8 C hh) rfl hl.1 rfl (Nat.le_of_ble_eq_true rfl) dX8_discover_62 ⟨Nat.zero_le _, Nat.zero_le _⟩) (fun H locs hh => ?_)
  exact k_X8_discover_65 C x1 x2 x3 x4 x5 s2 h hh (lv_sub hl [0, 1, 2, 3, 4, 5] rfl)
def f_X8_discover (x1 : Int32) (x2 : Int32) (x3 : Int32) (x4 : Int32) (σ : Mem) : Option (Mem) := bn (f_X8_choose x1 x2 σ) (fun r3 s2 => (if r3 = (0 : Int32) then some s2 else gd (vin r3 1024) ((if (s2 807 0 (r3).toNatClampNeg) = (2 : Int32) then gd (vin r3 1024) ((if (s2 808 0 (r3).toNatClampNeg) = x2 then gd (vin r3 1024) ((if (s2 801 0 0) < (s2 809 0 (r3).toNatClampNeg) then f_X8_discover_65 x1 x2 x3 x4 r3 s2 else f_X8_discover_50 x1 x2 x3 x4 r3 s2)) else f_X8_discover_50 x1 x2 x3 x4 r3 s2)) else f_X8_discover_50 x1 x2 x3 x4 r3 s2))))
set_option maxHeartbeats 4000000 in
set_option maxRecDepth 100000 in
theorem c_X8_discover {l : Launch} {D : va_G} {cA : Nat → ClassId} {ad : Nat → Nat → Nat} {A : Nat → Prop} {o : Nat → Int64} (hD0 : ∀ σ, va_D A (wW cA ad σ o)) (x1 : Int32) (x2 : Int32) (x3 : Int32) (x4 : Int32) (σ : Mem) {r : Mem} (h : f_X8_discover x1 x2 x3 x4 σ = some r) : Met l yX8_discover (wsG yX8_discover cX8_discover 6 none) rm_X8_discover (va_Pc [.ref (ad 899 0), .int x1, .int x2, .int x3, .int x4] (IW D cA ad o σ)) (Qv D cA ad o A r) 0 0 A := by
  refine metG (by decide) (Nat.le_of_ble_eq_true rfl) hD0 ?_
  intro p e s m args below meth c C ls hh hl
  have C : Cx p s m args meth c cX8_discover 6 RX8 none D cA ad A o := C
  have hl : lv_has ls 6 [(0, .ref (ad 899 0)), (1, .int x1), (2, .int x2), (3, .int x3), (4, .int x4)] := hl
  obtain ⟨⟨hx, hb, hml, hown, hts⟩, hK, hN, hD, hr, hlocks⟩ := id C
  unfold f_X8_discover at h
  refine lv_aload_n hx hb dX8_discover_0 rfl (lv_at hl 0 rfl) ?_
  refine lv_iload_n hx hb dX8_discover_1 rfl (lv_at hl 1 rfl) ?_
  refine lv_iload_n hx hb dX8_discover_2 rfl (lv_at hl 2 rfl) ?_
  obtain ⟨r3, s2, e1, h⟩ := bn_e h
  refine c_int hh (vrun (rest := []) C hh (c_X8_choose C.2.2.2.1 x1 x2 σ e1) LM_8_165 IM_X8_choose SL_X8_choose IN_8 CD_X8_choose HD_X8_choose ⟨rfl, rfl, Nat.le_of_ble_eq_true rfl, Nat.le_of_ble_eq_true rfl⟩ (rv_8 C hh) rfl hl.1 rfl (Nat.le_of_ble_eq_true rfl) dX8_discover_3 ⟨Nat.zero_le _, Nat.zero_le _⟩) (fun H locs hh => ?_)
  refine lv_istore (lv' := [(5, .int r3), (0, .ref (ad 899 0)), (1, .int x1), (2, .int x2), (3, .int x3), (4, .int x4)]) hx hb dX8_discover_6 hl (by decide) rfl (fun ls hl => ?_)
  refine lv_iload hx hb dX8_discover_8 (lv_at hl 0 rfl) ?_
  refine lv_if_ne (tgt := 14) hx hb dX8_discover_10 (by decide) (fun c4 => ?_) (fun c4 => ?_)
  · rw [if_neg c4] at h
    refine lv_aload_n hx hb dX8_discover_14 rfl (lv_at hl 1 rfl) ?_
    refine gf_8_23 C hh dX8_discover_15 ?_
    refine lv_iload hx hb dX8_discover_18 (lv_at hl 0 rfl) ?_
    obtain ⟨b5, h⟩ := gd_e h
    refine al_807 C hh b5 dX8_discover_20 ?_
    refine lv_iconst (v := (2 : Int32)) hx hb dX8_discover_21 (by decide) ?_
    refine lv_icmp_ne (tgt := 50) hx hb dX8_discover_22 (by decide) (fun c6 => ?_) (fun c6 => ?_)
    · rw [if_neg c6] at h
      exact k_X8_discover_50 C x1 x2 x3 x4 r3 s2 h hh (lv_sub hl [1, 2, 3, 4, 5, 0] rfl)
    · rw [if_pos c6] at h
      refine lv_aload_n hx hb dX8_discover_25 rfl (lv_at hl 1 rfl) ?_
      refine gf_8_26 C hh dX8_discover_26 ?_
      refine lv_iload hx hb dX8_discover_29 (lv_at hl 0 rfl) ?_
      obtain ⟨b7, h⟩ := gd_e h
      refine al_808 C hh b7 dX8_discover_31 ?_
      refine lv_iload_n hx hb dX8_discover_32 rfl (lv_at hl 3 rfl) ?_
      refine lv_icmp_ne (tgt := 50) hx hb dX8_discover_33 (by decide) (fun c8 => ?_) (fun c8 => ?_)
      · rw [if_neg c8] at h
        exact k_X8_discover_50 C x1 x2 x3 x4 r3 s2 h hh (lv_sub hl [1, 2, 3, 4, 5, 0] rfl)
      · rw [if_pos c8] at h
        refine lv_aload_n hx hb dX8_discover_36 rfl (lv_at hl 1 rfl) ?_
        refine gf_8_29 C hh dX8_discover_37 ?_
        refine lv_iload hx hb dX8_discover_40 (lv_at hl 0 rfl) ?_
        obtain ⟨b9, h⟩ := gd_e h
        refine al_809 C hh b9 dX8_discover_42 ?_
        refine lv_aload_n hx hb dX8_discover_43 rfl (lv_at hl 1 rfl) ?_
        refine gf_8_130 C hh dX8_discover_44 ?_
        refine lv_icmp_gt (tgt := 65) hx hb dX8_discover_47 (by decide) (fun c10 => ?_) (fun c10 => ?_)
        · rw [if_pos c10] at h
          exact k_X8_discover_65 C x1 x2 x3 x4 r3 s2 h hh (lv_sub hl [1, 2, 3, 4, 5, 0] rfl)
        · rw [if_neg c10] at h
          exact k_X8_discover_50 C x1 x2 x3 x4 r3 s2 h hh (lv_sub hl [1, 2, 3, 4, 5, 0] rfl)
  · rw [if_pos c4] at h
    exact r_void C hh h dX8_discover_13
abbrev rm_X8_request : Room := { frames := 3, cells := 0, slots := 0, locals := 76 }
theorem HD_X8_request : yX8_request.cls = RX8 ∧ yX8_request.cls ≠ "java/lang/invoke/MethodHandle" ∧ yX8_request.cls ≠ "java/lang/invoke/VarHandle" ∧ (parseMethodDescriptor yX8_request.desc).map (fun d => d.parameters.length) = some 4 := by decide +kernel
def f_X8_request_255 (x2 : Int32) (x3 : Int32) (x4 : Int32) (xs0 : Int32) (xs1 : Int32) (xs2 : Int32) (σ : Mem) : Option (Mem) := bv (f_X8_answer xs2 xs1 xs0 x3 x4 x2 σ) (fun s2 => some s2)
set_option maxHeartbeats 4000000 in
set_option maxRecDepth 100000 in
theorem k_X8_request_255 {p : Program} {l : Launch} {e : Env} {s : State} {m : MethodId} {args : Array Value} {below : List Frame} {meth : Method} {c : Code} {D : va_G} {cA : Nat → ClassId} {ad : Nat → Nat → Nat} {A : Nat → Prop} {o : Nat → Int64} (C : Cx p s m args meth c cX8_request 8 RX8 none D cA ad A o) {r : Mem} (x2 : Int32) (x3 : Int32) (x4 : Int32) (xs0 : Int32) (xs1 : Int32) (xs2 : Int32) (σ : Mem) {H : Heap} {locs : List Loc} (h : f_X8_request_255 x2 x3 x4 xs0 xs1 xs2 σ = some r) (hh : HH D cA ad A o s σ H locs) {ls : Array Slot} (hl : lv_has ls 8 [(2, .int x2), (3, .int x3), (4, .int x4)]) : W p l e rm_X8_request s m args below meth c H locs 0 0 (MQ below (Qv D cA ad o A r) args s 0 0 A) (F0 m 255 ls [.int xs0, .int xs1, .int xs2, .ref (ad 899 0)]) := by
  obtain ⟨⟨hx, hb, hml, hown, hts⟩, hK, hN, hD, hr, hlocks⟩ := id C
  unfold f_X8_request_255 at h
  refine lv_iload_n hx hb dX8_request_255 rfl (lv_at hl 1 rfl) ?_
  refine lv_iload hx hb dX8_request_256 (lv_at hl 2 rfl) ?_
  refine lv_iload_n hx hb dX8_request_258 rfl (lv_at hl 0 rfl) ?_
  obtain ⟨s2, e1, h⟩ := bv_e h
  refine c_void hh (vrun (rest := []) C hh (c_X8_answer C.2.2.2.1 xs2 xs1 xs0 x3 x4 x2 σ e1) LM_8_168 IM_X8_answer SL_X8_answer IN_8 CD_X8_answer HD_X8_answer ⟨rfl, rfl, Nat.le_of_ble_eq_true rfl, Nat.le_of_ble_eq_true rfl⟩ (rv_8 C hh) rfl hl.1 rfl (Nat.le_of_ble_eq_true rfl) dX8_request_259 ⟨Nat.zero_le _, Nat.zero_le _⟩) (fun H locs hh => ?_)
  exact r_void C hh h dX8_request_262
def f_X8_request_244 (x2 : Int32) (x3 : Int32) (x4 : Int32) (x5 : Int32) (x7 : Int32) (xs0 : Int32) (xs1 : Int32) (σ : Mem) : Option (Mem) := (if x7 = (0 : Int32) then f_X8_request_255 x2 x3 x4 (0 : Int32) xs0 xs1 σ else f_X8_request_255 x2 x3 x4 x5 xs0 xs1 σ)
set_option maxHeartbeats 4000000 in
set_option maxRecDepth 100000 in
theorem k_X8_request_244 {p : Program} {l : Launch} {e : Env} {s : State} {m : MethodId} {args : Array Value} {below : List Frame} {meth : Method} {c : Code} {D : va_G} {cA : Nat → ClassId} {ad : Nat → Nat → Nat} {A : Nat → Prop} {o : Nat → Int64} (C : Cx p s m args meth c cX8_request 8 RX8 none D cA ad A o) {r : Mem} (x2 : Int32) (x3 : Int32) (x4 : Int32) (x5 : Int32) (x7 : Int32) (xs0 : Int32) (xs1 : Int32) (σ : Mem) {H : Heap} {locs : List Loc} (h : f_X8_request_244 x2 x3 x4 x5 x7 xs0 xs1 σ = some r) (hh : HH D cA ad A o s σ H locs) {ls : Array Slot} (hl : lv_has ls 8 [(2, .int x2), (3, .int x3), (4, .int x4), (5, .int x5), (7, .int x7)]) : W p l e rm_X8_request s m args below meth c H locs 0 0 (MQ below (Qv D cA ad o A r) args s 0 0 A) (F0 m 244 ls [.int xs0, .int xs1, .ref (ad 899 0)]) := by
  obtain ⟨⟨hx, hb, hml, hown, hts⟩, hK, hN, hD, hr, hlocks⟩ := id C
  unfold f_X8_request_244 at h
  refine lv_iload hx hb dX8_request_244 (lv_at hl 4 rfl) ?_
  refine lv_if_eq (tgt := 254) hx hb dX8_request_246 (by decide) (fun c1 => ?_) (fun c1 => ?_)
  · rw [if_pos c1] at h
    refine lv_iconst (v := (0 : Int32)) hx hb dX8_request_254 (by decide) ?_
    exact k_X8_request_255 C x2 x3 x4 (0 : Int32) xs0 xs1 σ h hh (lv_sub hl [0, 1, 2] rfl)
  · rw [if_neg c1] at h
    refine lv_iload hx hb dX8_request_249 (lv_at hl 3 rfl) ?_
    refine lv_goto (tgt := 255) hx hb dX8_request_251 (by decide) ?_
    exact k_X8_request_255 C x2 x3 x4 x5 xs0 xs1 σ h hh (lv_sub hl [0, 1, 2] rfl)
def f_X8_request_231 (x1 : Int32) (x2 : Int32) (x3 : Int32) (x4 : Int32) (x5 : Int32) (x7 : Int32) (σ : Mem) : Option (Mem) := (if x7 = (0 : Int32) then f_X8_request_244 x2 x3 x4 x5 x7 (6 : Int32) x1 σ else f_X8_request_244 x2 x3 x4 x5 x7 (5 : Int32) x1 σ)
set_option maxHeartbeats 4000000 in
set_option maxRecDepth 100000 in
theorem k_X8_request_231 {p : Program} {l : Launch} {e : Env} {s : State} {m : MethodId} {args : Array Value} {below : List Frame} {meth : Method} {c : Code} {D : va_G} {cA : Nat → ClassId} {ad : Nat → Nat → Nat} {A : Nat → Prop} {o : Nat → Int64} (C : Cx p s m args meth c cX8_request 8 RX8 none D cA ad A o) {r : Mem} (x1 : Int32) (x2 : Int32) (x3 : Int32) (x4 : Int32) (x5 : Int32) (x7 : Int32) (σ : Mem) {H : Heap} {locs : List Loc} (h : f_X8_request_231 x1 x2 x3 x4 x5 x7 σ = some r) (hh : HH D cA ad A o s σ H locs) {ls : Array Slot} (hl : lv_has ls 8 [(0, .ref (ad 899 0)), (1, .int x1), (2, .int x2), (3, .int x3), (4, .int x4), (5, .int x5), (7, .int x7)]) : W p l e rm_X8_request s m args below meth c H locs 0 0 (MQ below (Qv D cA ad o A r) args s 0 0 A) (F0 m 231 ls []) := by
  obtain ⟨⟨hx, hb, hml, hown, hts⟩, hK, hN, hD, hr, hlocks⟩ := id C
  unfold f_X8_request_231 at h
  refine lv_aload_n hx hb dX8_request_231 rfl (lv_at hl 0 rfl) ?_
  refine lv_iload_n hx hb dX8_request_232 rfl (lv_at hl 1 rfl) ?_
  refine lv_iload hx hb dX8_request_233 (lv_at hl 6 rfl) ?_
  refine lv_if_eq (tgt := 242) hx hb dX8_request_235 (by decide) (fun c1 => ?_) (fun c1 => ?_)
  · rw [if_pos c1] at h
    refine lv_bipush (v := (6 : Int32)) hx hb dX8_request_242 (by decide) ?_
    exact k_X8_request_244 C x2 x3 x4 x5 x7 (6 : Int32) x1 σ h hh (lv_sub hl [2, 3, 4, 5, 6] rfl)
  · rw [if_neg c1] at h
    refine lv_iconst (v := (5 : Int32)) hx hb dX8_request_238 (by decide) ?_
    refine lv_goto (tgt := 244) hx hb dX8_request_239 (by decide) ?_
    exact k_X8_request_244 C x2 x3 x4 x5 x7 (5 : Int32) x1 σ h hh (lv_sub hl [2, 3, 4, 5, 6] rfl)
def f_X8_request_216 (x1 : Int32) (x2 : Int32) (x3 : Int32) (x4 : Int32) (x5 : Int32) (xs0 : Int32) (σ : Mem) : Option (Mem) := (if xs0 = (0 : Int32) then f_X8_request_231 x1 x2 x3 x4 x5 xs0 σ else bv (f_X8_leaseTo x1 x2 x5 σ) (fun s3 => f_X8_request_231 x1 x2 x3 x4 x5 xs0 s3))
set_option maxHeartbeats 4000000 in
set_option maxRecDepth 100000 in
theorem k_X8_request_216 {p : Program} {l : Launch} {e : Env} {s : State} {m : MethodId} {args : Array Value} {below : List Frame} {meth : Method} {c : Code} {D : va_G} {cA : Nat → ClassId} {ad : Nat → Nat → Nat} {A : Nat → Prop} {o : Nat → Int64} (C : Cx p s m args meth c cX8_request 8 RX8 none D cA ad A o) {r : Mem} (x1 : Int32) (x2 : Int32) (x3 : Int32) (x4 : Int32) (x5 : Int32) (xs0 : Int32) (σ : Mem) {H : Heap} {locs : List Loc} (h : f_X8_request_216 x1 x2 x3 x4 x5 xs0 σ = some r) (hh : HH D cA ad A o s σ H locs) {ls : Array Slot} (hl : lv_has ls 8 [(0, .ref (ad 899 0)), (1, .int x1), (2, .int x2), (3, .int x3), (4, .int x4), (5, .int x5)]) : W p l e rm_X8_request s m args below meth c H locs 0 0 (MQ below (Qv D cA ad o A r) args s 0 0 A) (F0 m 216 ls [.int xs0]) := by
  obtain ⟨⟨hx, hb, hml, hown, hts⟩, hK, hN, hD, hr, hlocks⟩ := id C
  unfold f_X8_request_216 at h
  refine lv_istore (lv' := [(7, .int xs0), (0, .ref (ad 899 0)), (1, .int x1), (2, .int x2), (3, .int x3), (4, .int x4), (5, .int x5)]) hx hb dX8_request_216 hl (by decide) rfl (fun ls hl => ?_)
  refine lv_iload hx hb dX8_request_218 (lv_at hl 0 rfl) ?_
  refine lv_if_eq (tgt := 231) hx hb dX8_request_220 (by decide) (fun c1 => ?_) (fun c1 => ?_)
  · rw [if_pos c1] at h
    exact k_X8_request_231 C x1 x2 x3 x4 x5 xs0 σ h hh (lv_sub hl [1, 2, 3, 4, 5, 6, 0] rfl)
  · rw [if_neg c1] at h
    refine lv_aload_n hx hb dX8_request_223 rfl (lv_at hl 1 rfl) ?_
    refine lv_iload_n hx hb dX8_request_224 rfl (lv_at hl 2 rfl) ?_
    refine lv_iload_n hx hb dX8_request_225 rfl (lv_at hl 3 rfl) ?_
    refine lv_iload hx hb dX8_request_226 (lv_at hl 6 rfl) ?_
    obtain ⟨s3, e2, h⟩ := bv_e h
    refine c_void hh (vrun (rest := []) C hh (c_X8_leaseTo C.2.2.2.1 x1 x2 x5 σ e2) LM_8_172 IM_X8_leaseTo SL_X8_leaseTo IN_8 CD_X8_leaseTo HD_X8_leaseTo ⟨rfl, rfl, Nat.le_of_ble_eq_true rfl, Nat.le_of_ble_eq_true rfl⟩ (rv_8 C hh) rfl hl.1 rfl (Nat.le_of_ble_eq_true rfl) dX8_request_228 ⟨Nat.zero_le _, Nat.zero_le _⟩) (fun H locs hh => ?_)
    exact k_X8_request_231 C x1 x2 x3 x4 x5 xs0 s3 h hh (lv_sub hl [1, 2, 3, 4, 5, 6, 0] rfl)
def f_X8_request_215 (x1 : Int32) (x2 : Int32) (x3 : Int32) (x4 : Int32) (x5 : Int32) (σ : Mem) : Option (Mem) := f_X8_request_216 x1 x2 x3 x4 x5 (0 : Int32) σ
set_option maxHeartbeats 4000000 in
set_option maxRecDepth 100000 in
theorem k_X8_request_215 {p : Program} {l : Launch} {e : Env} {s : State} {m : MethodId} {args : Array Value} {below : List Frame} {meth : Method} {c : Code} {D : va_G} {cA : Nat → ClassId} {ad : Nat → Nat → Nat} {A : Nat → Prop} {o : Nat → Int64} (C : Cx p s m args meth c cX8_request 8 RX8 none D cA ad A o) {r : Mem} (x1 : Int32) (x2 : Int32) (x3 : Int32) (x4 : Int32) (x5 : Int32) (σ : Mem) {H : Heap} {locs : List Loc} (h : f_X8_request_215 x1 x2 x3 x4 x5 σ = some r) (hh : HH D cA ad A o s σ H locs) {ls : Array Slot} (hl : lv_has ls 8 [(0, .ref (ad 899 0)), (1, .int x1), (2, .int x2), (3, .int x3), (4, .int x4), (5, .int x5)]) : W p l e rm_X8_request s m args below meth c H locs 0 0 (MQ below (Qv D cA ad o A r) args s 0 0 A) (F0 m 215 ls []) := by
  obtain ⟨⟨hx, hb, hml, hown, hts⟩, hK, hN, hD, hr, hlocks⟩ := id C
  unfold f_X8_request_215 at h
  refine lv_iconst (v := (0 : Int32)) hx hb dX8_request_215 (by decide) ?_
  exact k_X8_request_216 C x1 x2 x3 x4 x5 (0 : Int32) σ h hh (lv_sub hl [0, 1, 2, 3, 4, 5] rfl)
def f_X8_request_196 (x1 : Int32) (x2 : Int32) (x3 : Int32) (x4 : Int32) (x5 : Int32) (x6 : Int32) (σ : Mem) : Option (Mem) := (if x6 = (0 : Int32) then f_X8_request_215 x1 x2 x3 x4 x5 σ else bn (f_X8_isOf x5 x2 σ) (fun r4 s3 => (if r4 = (0 : Int32) then f_X8_request_215 x1 x2 x3 x4 x5 s3 else f_X8_request_216 x1 x2 x3 x4 x5 (1 : Int32) s3)))
set_option maxHeartbeats 4000000 in
set_option maxRecDepth 100000 in
theorem k_X8_request_196 {p : Program} {l : Launch} {e : Env} {s : State} {m : MethodId} {args : Array Value} {below : List Frame} {meth : Method} {c : Code} {D : va_G} {cA : Nat → ClassId} {ad : Nat → Nat → Nat} {A : Nat → Prop} {o : Nat → Int64} (C : Cx p s m args meth c cX8_request 8 RX8 none D cA ad A o) {r : Mem} (x1 : Int32) (x2 : Int32) (x3 : Int32) (x4 : Int32) (x5 : Int32) (x6 : Int32) (σ : Mem) {H : Heap} {locs : List Loc} (h : f_X8_request_196 x1 x2 x3 x4 x5 x6 σ = some r) (hh : HH D cA ad A o s σ H locs) {ls : Array Slot} (hl : lv_has ls 8 [(0, .ref (ad 899 0)), (1, .int x1), (2, .int x2), (3, .int x3), (4, .int x4), (5, .int x5), (6, .int x6)]) : W p l e rm_X8_request s m args below meth c H locs 0 0 (MQ below (Qv D cA ad o A r) args s 0 0 A) (F0 m 196 ls []) := by
  obtain ⟨⟨hx, hb, hml, hown, hts⟩, hK, hN, hD, hr, hlocks⟩ := id C
  unfold f_X8_request_196 at h
  refine lv_iload hx hb dX8_request_196 (lv_at hl 6 rfl) ?_
  refine lv_if_eq (tgt := 215) hx hb dX8_request_198 (by decide) (fun c1 => ?_) (fun c1 => ?_)
  · rw [if_pos c1] at h
    exact k_X8_request_215 C x1 x2 x3 x4 x5 σ h hh (lv_sub hl [0, 1, 2, 3, 4, 5] rfl)
  · rw [if_neg c1] at h
    refine lv_aload_n hx hb dX8_request_201 rfl (lv_at hl 0 rfl) ?_
    refine lv_iload hx hb dX8_request_202 (lv_at hl 5 rfl) ?_
    refine lv_iload_n hx hb dX8_request_204 rfl (lv_at hl 2 rfl) ?_
    obtain ⟨r4, s3, e2, h⟩ := bn_e h
    refine c_int hh (vrun (rest := []) C hh (c_X8_isOf C.2.2.2.1 x5 x2 σ e2) LM_8_133 IM_X8_isOf SL_X8_isOf IN_8 CD_X8_isOf HD_X8_isOf ⟨rfl, rfl, Nat.le_of_ble_eq_true rfl, Nat.le_of_ble_eq_true rfl⟩ (rv_8 C hh) rfl hl.1 rfl (Nat.le_of_ble_eq_true rfl) dX8_request_205 ⟨Nat.zero_le _, Nat.zero_le _⟩) (fun H locs hh => ?_)
    refine lv_if_eq (tgt := 215) hx hb dX8_request_208 (by decide) (fun c5 => ?_) (fun c5 => ?_)
    · rw [if_pos c5] at h
      exact k_X8_request_215 C x1 x2 x3 x4 x5 s3 h hh (lv_sub hl [0, 1, 2, 3, 4, 5] rfl)
    · rw [if_neg c5] at h
      refine lv_iconst (v := (1 : Int32)) hx hb dX8_request_211 (by decide) ?_
      refine lv_goto (tgt := 216) hx hb dX8_request_212 (by decide) ?_
      exact k_X8_request_216 C x1 x2 x3 x4 x5 (1 : Int32) s3 h hh (lv_sub hl [0, 1, 2, 3, 4, 5] rfl)
def f_X8_request_169 (x1 : Int32) (x2 : Int32) (x3 : Int32) (x4 : Int32) (xs0 : Int32) (σ : Mem) : Option (Mem) := bn (f_X8_isInPool x1 xs0 σ) (fun r3 s2 => (if r3 = (0 : Int32) then f_X8_request_196 x1 x2 x3 x4 xs0 r3 s2 else gd (vin xs0 1024) ((if (s2 807 0 (xs0).toNatClampNeg) = (0 : Int32) then some s2 else f_X8_request_196 x1 x2 x3 x4 xs0 r3 s2))))
set_option maxHeartbeats 4000000 in
set_option maxRecDepth 100000 in
theorem k_X8_request_169 {p : Program} {l : Launch} {e : Env} {s : State} {m : MethodId} {args : Array Value} {below : List Frame} {meth : Method} {c : Code} {D : va_G} {cA : Nat → ClassId} {ad : Nat → Nat → Nat} {A : Nat → Prop} {o : Nat → Int64} (C : Cx p s m args meth c cX8_request 8 RX8 none D cA ad A o) {r : Mem} (x1 : Int32) (x2 : Int32) (x3 : Int32) (x4 : Int32) (xs0 : Int32) (σ : Mem) {H : Heap} {locs : List Loc} (h : f_X8_request_169 x1 x2 x3 x4 xs0 σ = some r) (hh : HH D cA ad A o s σ H locs) {ls : Array Slot} (hl : lv_has ls 8 [(0, .ref (ad 899 0)), (1, .int x1), (2, .int x2), (3, .int x3), (4, .int x4)]) : W p l e rm_X8_request s m args below meth c H locs 0 0 (MQ below (Qv D cA ad o A r) args s 0 0 A) (F0 m 169 ls [.int xs0]) := by
  obtain ⟨⟨hx, hb, hml, hown, hts⟩, hK, hN, hD, hr, hlocks⟩ := id C
  unfold f_X8_request_169 at h
  refine lv_istore (lv' := [(5, .int xs0), (0, .ref (ad 899 0)), (1, .int x1), (2, .int x2), (3, .int x3), (4, .int x4)]) hx hb dX8_request_169 hl (by decide) rfl (fun ls hl => ?_)
  refine lv_aload_n hx hb dX8_request_171 rfl (lv_at hl 1 rfl) ?_
  refine lv_iload_n hx hb dX8_request_172 rfl (lv_at hl 2 rfl) ?_
  refine lv_iload hx hb dX8_request_173 (lv_at hl 0 rfl) ?_
  obtain ⟨r3, s2, e1, h⟩ := bn_e h
  refine c_int hh (vrun (rest := []) C hh (c_X8_isInPool C.2.2.2.1 x1 xs0 σ e1) LM_8_141 IM_X8_isInPool SL_X8_isInPool IN_8 CD_X8_isInPool HD_X8_isInPool ⟨rfl, rfl, Nat.le_of_ble_eq_true rfl, Nat.le_of_ble_eq_true rfl⟩ (rv_8 C hh) rfl hl.1 rfl (Nat.le_of_ble_eq_true rfl) dX8_request_175 ⟨Nat.zero_le _, Nat.zero_le _⟩) (fun H locs hh => ?_)
  refine lv_istore (lv' := [(6, .int r3), (5, .int xs0), (0, .ref (ad 899 0)), (1, .int x1), (2, .int x2), (3, .int x3), (4, .int x4)]) hx hb dX8_request_178 hl (by decide) rfl (fun ls hl => ?_)
  refine lv_iload hx hb dX8_request_180 (lv_at hl 0 rfl) ?_
  refine lv_if_eq (tgt := 196) hx hb dX8_request_182 (by decide) (fun c4 => ?_) (fun c4 => ?_)
  · rw [if_pos c4] at h
    exact k_X8_request_196 C x1 x2 x3 x4 xs0 r3 s2 h hh (lv_sub hl [2, 3, 4, 5, 6, 1, 0] rfl)
  · rw [if_neg c4] at h
    refine lv_aload_n hx hb dX8_request_185 rfl (lv_at hl 2 rfl) ?_
    refine gf_8_23 C hh dX8_request_186 ?_
    refine lv_iload hx hb dX8_request_189 (lv_at hl 1 rfl) ?_
    obtain ⟨b5, h⟩ := gd_e h
    refine al_807 C hh b5 dX8_request_191 ?_
    refine lv_if_ne (tgt := 196) hx hb dX8_request_192 (by decide) (fun c6 => ?_) (fun c6 => ?_)
    · rw [if_neg c6] at h
      exact k_X8_request_196 C x1 x2 x3 x4 xs0 r3 s2 h hh (lv_sub hl [2, 3, 4, 5, 6, 1, 0] rfl)
    · rw [if_pos c6] at h
      exact r_void C hh h dX8_request_195
def f_X8_request_148 (σ : Mem) : Option (Mem) := some σ
set_option maxHeartbeats 4000000 in
set_option maxRecDepth 100000 in
theorem k_X8_request_148 {p : Program} {l : Launch} {e : Env} {s : State} {m : MethodId} {args : Array Value} {below : List Frame} {meth : Method} {c : Code} {D : va_G} {cA : Nat → ClassId} {ad : Nat → Nat → Nat} {A : Nat → Prop} {o : Nat → Int64} (C : Cx p s m args meth c cX8_request 8 RX8 none D cA ad A o) {r : Mem} (σ : Mem) {H : Heap} {locs : List Loc} (h : f_X8_request_148 σ = some r) (hh : HH D cA ad A o s σ H locs) {ls : Array Slot} (hl : lv_has ls 8 []) : W p l e rm_X8_request s m args below meth c H locs 0 0 (MQ below (Qv D cA ad o A r) args s 0 0 A) (F0 m 148 ls []) := by
  obtain ⟨⟨hx, hb, hml, hown, hts⟩, hK, hN, hD, hr, hlocks⟩ := id C
  unfold f_X8_request_148 at h
  refine lv_goto (tgt := 262) hx hb dX8_request_148 (by decide) ?_
  exact r_void C hh h dX8_request_262
def f_X8_request_98 (x2 : Int32) (x3 : Int32) (x4 : Int32) (xs0 : Int32) (xs1 : Int32) (xs2 : Int32) (σ : Mem) : Option (Mem) := bv (f_X8_answer xs2 xs1 xs0 x3 x4 x2 σ) (fun s2 => some s2)
set_option maxHeartbeats 4000000 in
set_option maxRecDepth 100000 in
theorem k_X8_request_98 {p : Program} {l : Launch} {e : Env} {s : State} {m : MethodId} {args : Array Value} {below : List Frame} {meth : Method} {c : Code} {D : va_G} {cA : Nat → ClassId} {ad : Nat → Nat → Nat} {A : Nat → Prop} {o : Nat → Int64} (C : Cx p s m args meth c cX8_request 8 RX8 none D cA ad A o) {r : Mem} (x2 : Int32) (x3 : Int32) (x4 : Int32) (xs0 : Int32) (xs1 : Int32) (xs2 : Int32) (σ : Mem) {H : Heap} {locs : List Loc} (h : f_X8_request_98 x2 x3 x4 xs0 xs1 xs2 σ = some r) (hh : HH D cA ad A o s σ H locs) {ls : Array Slot} (hl : lv_has ls 8 [(2, .int x2), (3, .int x3), (4, .int x4)]) : W p l e rm_X8_request s m args below meth c H locs 0 0 (MQ below (Qv D cA ad o A r) args s 0 0 A) (F0 m 98 ls [.int xs0, .int xs1, .int xs2, .ref (ad 899 0)]) := by
  obtain ⟨⟨hx, hb, hml, hown, hts⟩, hK, hN, hD, hr, hlocks⟩ := id C
  unfold f_X8_request_98 at h
  refine lv_iload_n hx hb dX8_request_98 rfl (lv_at hl 1 rfl) ?_
  refine lv_iload hx hb dX8_request_99 (lv_at hl 2 rfl) ?_
  refine lv_iload_n hx hb dX8_request_101 rfl (lv_at hl 0 rfl) ?_
  obtain ⟨s2, e1, h⟩ := bv_e h
  refine c_void hh (vrun (rest := []) C hh (c_X8_answer C.2.2.2.1 xs2 xs1 xs0 x3 x4 x2 σ e1) LM_8_168 IM_X8_answer SL_X8_answer IN_8 CD_X8_answer HD_X8_answer ⟨rfl, rfl, Nat.le_of_ble_eq_true rfl, Nat.le_of_ble_eq_true rfl⟩ (rv_8 C hh) rfl hl.1 rfl (Nat.le_of_ble_eq_true rfl) dX8_request_102 ⟨Nat.zero_le _, Nat.zero_le _⟩) (fun H locs hh => ?_)
  refine lv_goto (tgt := 262) hx hb dX8_request_105 (by decide) ?_
  exact r_void C hh h dX8_request_262
def f_X8_request_87 (x2 : Int32) (x3 : Int32) (x4 : Int32) (x5 : Int32) (x6 : Int32) (xs0 : Int32) (xs1 : Int32) (σ : Mem) : Option (Mem) := (if x5 = (0 : Int32) then f_X8_request_98 x2 x3 x4 (0 : Int32) xs0 xs1 σ else f_X8_request_98 x2 x3 x4 x6 xs0 xs1 σ)
set_option maxHeartbeats 4000000 in
set_option maxRecDepth 100000 in
theorem k_X8_request_87 {p : Program} {l : Launch} {e : Env} {s : State} {m : MethodId} {args : Array Value} {below : List Frame} {meth : Method} {c : Code} {D : va_G} {cA : Nat → ClassId} {ad : Nat → Nat → Nat} {A : Nat → Prop} {o : Nat → Int64} (C : Cx p s m args meth c cX8_request 8 RX8 none D cA ad A o) {r : Mem} (x2 : Int32) (x3 : Int32) (x4 : Int32) (x5 : Int32) (x6 : Int32) (xs0 : Int32) (xs1 : Int32) (σ : Mem) {H : Heap} {locs : List Loc} (h : f_X8_request_87 x2 x3 x4 x5 x6 xs0 xs1 σ = some r) (hh : HH D cA ad A o s σ H locs) {ls : Array Slot} (hl : lv_has ls 8 [(2, .int x2), (3, .int x3), (4, .int x4), (5, .int x5), (6, .int x6)]) : W p l e rm_X8_request s m args below meth c H locs 0 0 (MQ below (Qv D cA ad o A r) args s 0 0 A) (F0 m 87 ls [.int xs0, .int xs1, .ref (ad 899 0)]) := by
  obtain ⟨⟨hx, hb, hml, hown, hts⟩, hK, hN, hD, hr, hlocks⟩ := id C
  unfold f_X8_request_87 at h
  refine lv_iload hx hb dX8_request_87 (lv_at hl 3 rfl) ?_
  refine lv_if_eq (tgt := 97) hx hb dX8_request_89 (by decide) (fun c1 => ?_) (fun c1 => ?_)
  · rw [if_pos c1] at h
    refine lv_iconst (v := (0 : Int32)) hx hb dX8_request_97 (by decide) ?_
    exact k_X8_request_98 C x2 x3 x4 (0 : Int32) xs0 xs1 σ h hh (lv_sub hl [0, 1, 2] rfl)
  · rw [if_neg c1] at h
    refine lv_iload hx hb dX8_request_92 (lv_at hl 4 rfl) ?_
    refine lv_goto (tgt := 98) hx hb dX8_request_94 (by decide) ?_
    exact k_X8_request_98 C x2 x3 x4 x6 xs0 xs1 σ h hh (lv_sub hl [0, 1, 2] rfl)
def f_X8_request_74 (x1 : Int32) (x2 : Int32) (x3 : Int32) (x4 : Int32) (x5 : Int32) (x6 : Int32) (σ : Mem) : Option (Mem) := (if x5 = (0 : Int32) then f_X8_request_87 x2 x3 x4 x5 x6 (6 : Int32) x1 σ else f_X8_request_87 x2 x3 x4 x5 x6 (5 : Int32) x1 σ)
set_option maxHeartbeats 4000000 in
set_option maxRecDepth 100000 in
theorem k_X8_request_74 {p : Program} {l : Launch} {e : Env} {s : State} {m : MethodId} {args : Array Value} {below : List Frame} {meth : Method} {c : Code} {D : va_G} {cA : Nat → ClassId} {ad : Nat → Nat → Nat} {A : Nat → Prop} {o : Nat → Int64} (C : Cx p s m args meth c cX8_request 8 RX8 none D cA ad A o) {r : Mem} (x1 : Int32) (x2 : Int32) (x3 : Int32) (x4 : Int32) (x5 : Int32) (x6 : Int32) (σ : Mem) {H : Heap} {locs : List Loc} (h : f_X8_request_74 x1 x2 x3 x4 x5 x6 σ = some r) (hh : HH D cA ad A o s σ H locs) {ls : Array Slot} (hl : lv_has ls 8 [(0, .ref (ad 899 0)), (1, .int x1), (2, .int x2), (3, .int x3), (4, .int x4), (5, .int x5), (6, .int x6)]) : W p l e rm_X8_request s m args below meth c H locs 0 0 (MQ below (Qv D cA ad o A r) args s 0 0 A) (F0 m 74 ls []) := by
  obtain ⟨⟨hx, hb, hml, hown, hts⟩, hK, hN, hD, hr, hlocks⟩ := id C
  unfold f_X8_request_74 at h
  refine lv_aload_n hx hb dX8_request_74 rfl (lv_at hl 0 rfl) ?_
  refine lv_iload_n hx hb dX8_request_75 rfl (lv_at hl 1 rfl) ?_
  refine lv_iload hx hb dX8_request_76 (lv_at hl 5 rfl) ?_
  refine lv_if_eq (tgt := 85) hx hb dX8_request_78 (by decide) (fun c1 => ?_) (fun c1 => ?_)
  · rw [if_pos c1] at h
    refine lv_bipush (v := (6 : Int32)) hx hb dX8_request_85 (by decide) ?_
    exact k_X8_request_87 C x2 x3 x4 x5 x6 (6 : Int32) x1 σ h hh (lv_sub hl [2, 3, 4, 5, 6] rfl)
  · rw [if_neg c1] at h
    refine lv_iconst (v := (5 : Int32)) hx hb dX8_request_81 (by decide) ?_
    refine lv_goto (tgt := 87) hx hb dX8_request_82 (by decide) ?_
    exact k_X8_request_87 C x2 x3 x4 x5 x6 (5 : Int32) x1 σ h hh (lv_sub hl [2, 3, 4, 5, 6] rfl)
def f_X8_request_53 (x1 : Int32) (x2 : Int32) (x3 : Int32) (x4 : Int32) (xs0 : Int32) (σ : Mem) : Option (Mem) := (if xs0 = (0 : Int32) then f_X8_request_74 x1 x2 x3 x4 xs0 (σ 834 0 0) σ else bv (f_X8_leaseTo x1 x2 (σ 834 0 0) σ) (fun s3 => f_X8_request_74 x1 x2 x3 x4 xs0 (σ 834 0 0) s3))
set_option maxHeartbeats 4000000 in
set_option maxRecDepth 100000 in
theorem k_X8_request_53 {p : Program} {l : Launch} {e : Env} {s : State} {m : MethodId} {args : Array Value} {below : List Frame} {meth : Method} {c : Code} {D : va_G} {cA : Nat → ClassId} {ad : Nat → Nat → Nat} {A : Nat → Prop} {o : Nat → Int64} (C : Cx p s m args meth c cX8_request 8 RX8 none D cA ad A o) {r : Mem} (x1 : Int32) (x2 : Int32) (x3 : Int32) (x4 : Int32) (xs0 : Int32) (σ : Mem) {H : Heap} {locs : List Loc} (h : f_X8_request_53 x1 x2 x3 x4 xs0 σ = some r) (hh : HH D cA ad A o s σ H locs) {ls : Array Slot} (hl : lv_has ls 8 [(0, .ref (ad 899 0)), (1, .int x1), (2, .int x2), (3, .int x3), (4, .int x4)]) : W p l e rm_X8_request s m args below meth c H locs 0 0 (MQ below (Qv D cA ad o A r) args s 0 0 A) (F0 m 53 ls [.int xs0]) := by
  obtain ⟨⟨hx, hb, hml, hown, hts⟩, hK, hN, hD, hr, hlocks⟩ := id C
  unfold f_X8_request_53 at h
  refine lv_istore (lv' := [(5, .int xs0), (0, .ref (ad 899 0)), (1, .int x1), (2, .int x2), (3, .int x3), (4, .int x4)]) hx hb dX8_request_53 hl (by decide) rfl (fun ls hl => ?_)
  refine lv_aload_n hx hb dX8_request_55 rfl (lv_at hl 1 rfl) ?_
  refine gf_8_101 C hh dX8_request_56 ?_
  refine lv_istore (lv' := [(6, .int (σ 834 0 0)), (5, .int xs0), (0, .ref (ad 899 0)), (1, .int x1), (2, .int x2), (3, .int x3), (4, .int x4)]) hx hb dX8_request_59 hl (by decide) rfl (fun ls hl => ?_)
  refine lv_iload hx hb dX8_request_61 (lv_at hl 1 rfl) ?_
  refine lv_if_eq (tgt := 74) hx hb dX8_request_63 (by decide) (fun c1 => ?_) (fun c1 => ?_)
  · rw [if_pos c1] at h
    exact k_X8_request_74 C x1 x2 x3 x4 xs0 (σ 834 0 0) σ h hh (lv_sub hl [2, 3, 4, 5, 6, 1, 0] rfl)
  · rw [if_neg c1] at h
    refine lv_aload_n hx hb dX8_request_66 rfl (lv_at hl 2 rfl) ?_
    refine lv_iload_n hx hb dX8_request_67 rfl (lv_at hl 3 rfl) ?_
    refine lv_iload_n hx hb dX8_request_68 rfl (lv_at hl 4 rfl) ?_
    refine lv_iload hx hb dX8_request_69 (lv_at hl 0 rfl) ?_
    obtain ⟨s3, e2, h⟩ := bv_e h
    refine c_void hh (vrun (rest := []) C hh (c_X8_leaseTo C.2.2.2.1 x1 x2 (σ 834 0 0) σ e2) LM_8_172 IM_X8_leaseTo SL_X8_leaseTo IN_8 CD_X8_leaseTo HD_X8_leaseTo ⟨rfl, rfl, Nat.le_of_ble_eq_true rfl, Nat.le_of_ble_eq_true rfl⟩ (rv_8 C hh) rfl hl.1 rfl (Nat.le_of_ble_eq_true rfl) dX8_request_71 ⟨Nat.zero_le _, Nat.zero_le _⟩) (fun H locs hh => ?_)
    exact k_X8_request_74 C x1 x2 x3 x4 xs0 (σ 834 0 0) s3 h hh (lv_sub hl [2, 3, 4, 5, 6, 1, 0] rfl)
def f_X8_request_52 (x1 : Int32) (x2 : Int32) (x3 : Int32) (x4 : Int32) (σ : Mem) : Option (Mem) := f_X8_request_53 x1 x2 x3 x4 (0 : Int32) σ
set_option maxHeartbeats 4000000 in
set_option maxRecDepth 100000 in
theorem k_X8_request_52 {p : Program} {l : Launch} {e : Env} {s : State} {m : MethodId} {args : Array Value} {below : List Frame} {meth : Method} {c : Code} {D : va_G} {cA : Nat → ClassId} {ad : Nat → Nat → Nat} {A : Nat → Prop} {o : Nat → Int64} (C : Cx p s m args meth c cX8_request 8 RX8 none D cA ad A o) {r : Mem} (x1 : Int32) (x2 : Int32) (x3 : Int32) (x4 : Int32) (σ : Mem) {H : Heap} {locs : List Loc} (h : f_X8_request_52 x1 x2 x3 x4 σ = some r) (hh : HH D cA ad A o s σ H locs) {ls : Array Slot} (hl : lv_has ls 8 [(0, .ref (ad 899 0)), (1, .int x1), (2, .int x2), (3, .int x3), (4, .int x4)]) : W p l e rm_X8_request s m args below meth c H locs 0 0 (MQ below (Qv D cA ad o A r) args s 0 0 A) (F0 m 52 ls []) := by
  obtain ⟨⟨hx, hb, hml, hown, hts⟩, hK, hN, hD, hr, hlocks⟩ := id C
  unfold f_X8_request_52 at h
  refine lv_iconst (v := (0 : Int32)) hx hb dX8_request_52 (by decide) ?_
  exact k_X8_request_53 C x1 x2 x3 x4 (0 : Int32) σ h hh (lv_sub hl [0, 1, 2, 3, 4] rfl)
def f_X8_request (x1 : Int32) (x2 : Int32) (x3 : Int32) (x4 : Int32) (σ : Mem) : Option (Mem) := (if (σ 836 0 0) = (1 : Int32) then bn (f_X8_isInPool x1 (σ 834 0 0) σ) (fun r20 s19 => (if r20 = (0 : Int32) then f_X8_request_52 x1 x2 x3 x4 s19 else bn (f_X8_isOf (s19 834 0 0) x2 s19) (fun r24 s23 => (if r24 = (0 : Int32) then f_X8_request_52 x1 x2 x3 x4 s23 else gd (vin (s23 834 0 0) 1024) ((if (s23 809 0 ((s23 834 0 0)).toNatClampNeg) ≤ (s23 801 0 0) then f_X8_request_52 x1 x2 x3 x4 s23 else f_X8_request_53 x1 x2 x3 x4 (1 : Int32) s23)))))) else (if (σ 836 0 0) = (0 : Int32) then bn (f_X8_ciaddr σ) (fun r5 s4 => (if r5 = (0 : Int32) then f_X8_request_169 x1 x2 x3 x4 (s4 834 0 0) s4 else bn (f_X8_ciaddr s4) (fun r9 s8 => f_X8_request_169 x1 x2 x3 x4 r9 s8))) else bn (f_X8_leastOf x1 x2 σ) (fun r12 s11 => (if r12 ≤ (0 : Int32) then f_X8_request_148 s11 else gd (vin r12 1024) ((if (s11 807 0 (r12).toNatClampNeg) = (1 : Int32) then bv (f_X8_setRecord r12 (0 : Int32) (-1 : Int32) (0 : Int32) s11) (fun s17 => f_X8_request_148 s17) else f_X8_request_148 s11))))))
set_option maxHeartbeats 4000000 in
set_option maxRecDepth 100000 in
theorem c_X8_request {l : Launch} {D : va_G} {cA : Nat → ClassId} {ad : Nat → Nat → Nat} {A : Nat → Prop} {o : Nat → Int64} (hD0 : ∀ σ, va_D A (wW cA ad σ o)) (x1 : Int32) (x2 : Int32) (x3 : Int32) (x4 : Int32) (σ : Mem) {r : Mem} (h : f_X8_request x1 x2 x3 x4 σ = some r) : Met l yX8_request (wsG yX8_request cX8_request 8 none) rm_X8_request (va_Pc [.ref (ad 899 0), .int x1, .int x2, .int x3, .int x4] (IW D cA ad o σ)) (Qv D cA ad o A r) 0 0 A := by
  refine metG (by decide) (Nat.le_of_ble_eq_true rfl) hD0 ?_
  intro p e s m args below meth c C ls hh hl
  have C : Cx p s m args meth c cX8_request 8 RX8 none D cA ad A o := C
  have hl : lv_has ls 8 [(0, .ref (ad 899 0)), (1, .int x1), (2, .int x2), (3, .int x3), (4, .int x4)] := hl
  obtain ⟨⟨hx, hb, hml, hown, hts⟩, hK, hN, hD, hr, hlocks⟩ := id C
  unfold f_X8_request at h
  refine lv_aload_n hx hb dX8_request_0 rfl (lv_at hl 0 rfl) ?_
  refine gf_8_107 C hh dX8_request_1 ?_
  refine lv_iconst (v := (1 : Int32)) hx hb dX8_request_4 (by decide) ?_
  refine lv_icmp_ne (tgt := 108) hx hb dX8_request_5 (by decide) (fun c1 => ?_) (fun c1 => ?_)
  · rw [if_neg c1] at h
    refine lv_aload_n hx hb dX8_request_108 rfl (lv_at hl 0 rfl) ?_
    refine gf_8_107 C hh dX8_request_109 ?_
    refine lv_if_eq (tgt := 151) hx hb dX8_request_112 (by decide) (fun c2 => ?_) (fun c2 => ?_)
    · rw [if_pos c2] at h
      refine lv_aload_n hx hb dX8_request_151 rfl (lv_at hl 0 rfl) ?_
      obtain ⟨r5, s4, e3, h⟩ := bn_e h
      refine c_int hh (vrun (rest := []) C hh (c_X8_ciaddr C.2.2.2.1 σ e3) LM_8_176 IM_X8_ciaddr SL_X8_ciaddr IN_8 CD_X8_ciaddr HD_X8_ciaddr ⟨rfl, rfl, Nat.le_of_ble_eq_true rfl, Nat.le_of_ble_eq_true rfl⟩ (rv_8 C hh) rfl hl.1 rfl (Nat.le_of_ble_eq_true rfl) dX8_request_152 ⟨Nat.zero_le _, Nat.zero_le _⟩) (fun H locs hh => ?_)
      refine lv_if_eq (tgt := 165) hx hb dX8_request_155 (by decide) (fun c6 => ?_) (fun c6 => ?_)
      · rw [if_pos c6] at h
        refine lv_aload_n hx hb dX8_request_165 rfl (lv_at hl 0 rfl) ?_
        refine gf_8_101 C hh dX8_request_166 ?_
        exact k_X8_request_169 C x1 x2 x3 x4 (s4 834 0 0) s4 h hh (lv_sub hl [0, 1, 2, 3, 4] rfl)
      · rw [if_neg c6] at h
        refine lv_aload_n hx hb dX8_request_158 rfl (lv_at hl 0 rfl) ?_
        obtain ⟨r9, s8, e7, h⟩ := bn_e h
        refine c_int hh (vrun (rest := []) C hh (c_X8_ciaddr C.2.2.2.1 s4 e7) LM_8_176 IM_X8_ciaddr SL_X8_ciaddr IN_8 CD_X8_ciaddr HD_X8_ciaddr ⟨rfl, rfl, Nat.le_of_ble_eq_true rfl, Nat.le_of_ble_eq_true rfl⟩ (rv_8 C hh) rfl hl.1 rfl (Nat.le_of_ble_eq_true rfl) dX8_request_159 ⟨Nat.zero_le _, Nat.zero_le _⟩) (fun H locs hh => ?_)
        refine lv_goto (tgt := 169) hx hb dX8_request_162 (by decide) ?_
        exact k_X8_request_169 C x1 x2 x3 x4 r9 s8 h hh (lv_sub hl [0, 1, 2, 3, 4] rfl)
    · rw [if_neg c2] at h
      refine lv_aload_n hx hb dX8_request_115 rfl (lv_at hl 0 rfl) ?_
      refine lv_iload_n hx hb dX8_request_116 rfl (lv_at hl 1 rfl) ?_
      refine lv_iload_n hx hb dX8_request_117 rfl (lv_at hl 2 rfl) ?_
      obtain ⟨r12, s11, e10, h⟩ := bn_e h
      refine c_int hh (vrun (rest := []) C hh (c_X8_leastOf C.2.2.2.1 x1 x2 σ e10) LM_8_137 IM_X8_leastOf SL_X8_leastOf IN_8 CD_X8_leastOf HD_X8_leastOf ⟨rfl, rfl, Nat.le_of_ble_eq_true rfl, Nat.le_of_ble_eq_true rfl⟩ (rv_8 C hh) rfl hl.1 rfl (Nat.le_of_ble_eq_true rfl) dX8_request_118 ⟨Nat.zero_le _, Nat.zero_le _⟩) (fun H locs hh => ?_)
      refine lv_istore (lv' := [(5, .int r12), (0, .ref (ad 899 0)), (1, .int x1), (2, .int x2), (3, .int x3), (4, .int x4)]) hx hb dX8_request_121 hl (by decide) rfl (fun ls hl => ?_)
      refine lv_iload hx hb dX8_request_123 (lv_at hl 0 rfl) ?_
      refine lv_if_le (tgt := 148) hx hb dX8_request_125 (by decide) (fun c13 => ?_) (fun c13 => ?_)
      · rw [if_pos c13] at h
        exact k_X8_request_148 C s11 h hh (lv_sub hl [] rfl)
      · rw [if_neg c13] at h
        refine lv_aload_n hx hb dX8_request_128 rfl (lv_at hl 1 rfl) ?_
        refine gf_8_23 C hh dX8_request_129 ?_
        refine lv_iload hx hb dX8_request_132 (lv_at hl 0 rfl) ?_
        obtain ⟨b14, h⟩ := gd_e h
        refine al_807 C hh b14 dX8_request_134 ?_
        refine lv_iconst (v := (1 : Int32)) hx hb dX8_request_135 (by decide) ?_
        refine lv_icmp_ne (tgt := 148) hx hb dX8_request_136 (by decide) (fun c15 => ?_) (fun c15 => ?_)
        · rw [if_neg c15] at h
          exact k_X8_request_148 C s11 h hh (lv_sub hl [] rfl)
        · rw [if_pos c15] at h
          refine lv_aload_n hx hb dX8_request_139 rfl (lv_at hl 1 rfl) ?_
          refine lv_iload hx hb dX8_request_140 (lv_at hl 0 rfl) ?_
          refine lv_iconst (v := (0 : Int32)) hx hb dX8_request_142 (by decide) ?_
          refine lv_iconst (v := (-1 : Int32)) hx hb dX8_request_143 (by decide) ?_
          refine lv_iconst (v := (0 : Int32)) hx hb dX8_request_144 (by decide) ?_
          obtain ⟨s17, e16, h⟩ := bv_e h
          refine c_void hh (vrun (rest := []) C hh (c_X8_setRecord C.2.2.2.1 r12 (0 : Int32) (-1 : Int32) (0 : Int32) s11 e16) LM_8_147 IM_X8_setRecord SL_X8_setRecord IN_8 CD_X8_setRecord HD_X8_setRecord ⟨rfl, rfl, Nat.le_of_ble_eq_true rfl, Nat.le_of_ble_eq_true rfl⟩ (rv_8 C hh) rfl hl.1 rfl (Nat.le_of_ble_eq_true rfl) dX8_request_145 ⟨Nat.zero_le _, Nat.zero_le _⟩) (fun H locs hh => ?_)
          exact k_X8_request_148 C s17 h hh (lv_sub hl [] rfl)
  · rw [if_pos c1] at h
    refine lv_aload_n hx hb dX8_request_8 rfl (lv_at hl 0 rfl) ?_
    refine lv_iload_n hx hb dX8_request_9 rfl (lv_at hl 1 rfl) ?_
    refine lv_aload_n hx hb dX8_request_10 rfl (lv_at hl 0 rfl) ?_
    refine gf_8_101 C hh dX8_request_11 ?_
    obtain ⟨r20, s19, e18, h⟩ := bn_e h
    refine c_int hh (vrun (rest := []) C hh (c_X8_isInPool C.2.2.2.1 x1 (σ 834 0 0) σ e18) LM_8_141 IM_X8_isInPool SL_X8_isInPool IN_8 CD_X8_isInPool HD_X8_isInPool ⟨rfl, rfl, Nat.le_of_ble_eq_true rfl, Nat.le_of_ble_eq_true rfl⟩ (rv_8 C hh) rfl hl.1 rfl (Nat.le_of_ble_eq_true rfl) dX8_request_14 ⟨Nat.zero_le _, Nat.zero_le _⟩) (fun H locs hh => ?_)
    refine lv_if_eq (tgt := 52) hx hb dX8_request_17 (by decide) (fun c21 => ?_) (fun c21 => ?_)
    · rw [if_pos c21] at h
      exact k_X8_request_52 C x1 x2 x3 x4 s19 h hh (lv_sub hl [0, 1, 2, 3, 4] rfl)
    · rw [if_neg c21] at h
      refine lv_aload_n hx hb dX8_request_20 rfl (lv_at hl 0 rfl) ?_
      refine lv_aload_n hx hb dX8_request_21 rfl (lv_at hl 0 rfl) ?_
      refine gf_8_101 C hh dX8_request_22 ?_
      refine lv_iload_n hx hb dX8_request_25 rfl (lv_at hl 2 rfl) ?_
      obtain ⟨r24, s23, e22, h⟩ := bn_e h
      refine c_int hh (vrun (rest := []) C hh (c_X8_isOf C.2.2.2.1 (s19 834 0 0) x2 s19 e22) LM_8_133 IM_X8_isOf SL_X8_isOf IN_8 CD_X8_isOf HD_X8_isOf ⟨rfl, rfl, Nat.le_of_ble_eq_true rfl, Nat.le_of_ble_eq_true rfl⟩ (rv_8 C hh) rfl hl.1 rfl (Nat.le_of_ble_eq_true rfl) dX8_request_26 ⟨Nat.zero_le _, Nat.zero_le _⟩) (fun H locs hh => ?_)
      refine lv_if_eq (tgt := 52) hx hb dX8_request_29 (by decide) (fun c25 => ?_) (fun c25 => ?_)
      · rw [if_pos c25] at h
        exact k_X8_request_52 C x1 x2 x3 x4 s23 h hh (lv_sub hl [0, 1, 2, 3, 4] rfl)
      · rw [if_neg c25] at h
        refine lv_aload_n hx hb dX8_request_32 rfl (lv_at hl 0 rfl) ?_
        refine gf_8_29 C hh dX8_request_33 ?_
        refine lv_aload_n hx hb dX8_request_36 rfl (lv_at hl 0 rfl) ?_
        refine gf_8_101 C hh dX8_request_37 ?_
        obtain ⟨b26, h⟩ := gd_e h
        refine al_809 C hh b26 dX8_request_40 ?_
        refine lv_aload_n hx hb dX8_request_41 rfl (lv_at hl 0 rfl) ?_
        refine gf_8_130 C hh dX8_request_42 ?_
        refine lv_icmp_le (tgt := 52) hx hb dX8_request_45 (by decide) (fun c27 => ?_) (fun c27 => ?_)
        · rw [if_pos c27] at h
          exact k_X8_request_52 C x1 x2 x3 x4 s23 h hh (lv_sub hl [0, 1, 2, 3, 4] rfl)
        · rw [if_neg c27] at h
          refine lv_iconst (v := (1 : Int32)) hx hb dX8_request_48 (by decide) ?_
          refine lv_goto (tgt := 53) hx hb dX8_request_49 (by decide) ?_
          exact k_X8_request_53 C x1 x2 x3 x4 (1 : Int32) s23 h hh (lv_sub hl [0, 1, 2, 3, 4] rfl)
abbrev rm_X8_isAddress : Room := { frames := 0, cells := 0, slots := 0, locals := 0 }
theorem HD_X8_isAddress : yX8_isAddress.cls = RX8 ∧ yX8_isAddress.cls ≠ "java/lang/invoke/MethodHandle" ∧ yX8_isAddress.cls ≠ "java/lang/invoke/VarHandle" ∧ (parseMethodDescriptor yX8_isAddress.desc).map (fun d => d.parameters.length) = some 1 := by decide +kernel
def f_X8_isAddress (x0 : Int32) (σ : Mem) : Option (Int32 × Mem) := (if x0 < (1 : Int32) then some ((0 : Int32), σ) else (if (1023 : Int32) < x0 then some ((0 : Int32), σ) else some ((1 : Int32), σ)))
set_option maxHeartbeats 4000000 in
set_option maxRecDepth 100000 in
theorem c_X8_isAddress {l : Launch} {D : va_G} {cA : Nat → ClassId} {ad : Nat → Nat → Nat} {A : Nat → Prop} {o : Nat → Int64} (hD0 : ∀ σ, va_D A (wW cA ad σ o)) (x0 : Int32) (σ : Mem) {r : Int32 × Mem} (h : f_X8_isAddress x0 σ = some r) : Met l yX8_isAddress (wsG yX8_isAddress cX8_isAddress 1 (some .boolean)) rm_X8_isAddress (va_Pc [.int x0] (IW D cA ad o σ)) (Qi D cA ad o A r) 0 0 A := by
  refine metG (by decide) (Nat.le_of_ble_eq_true rfl) hD0 ?_
  intro p e s m args below meth c C ls hh hl
  have C : Cx p s m args meth c cX8_isAddress 1 RX8 (some .boolean) D cA ad A o := C
  have hl : lv_has ls 1 [(0, .int x0)] := hl
  obtain ⟨⟨hx, hb, hml, hown, hts⟩, hK, hN, hD, hr, hlocks⟩ := id C
  unfold f_X8_isAddress at h
  refine lv_iload_n hx hb dX8_isAddress_0 rfl (lv_at hl 0 rfl) ?_
  refine lv_iconst (v := (1 : Int32)) hx hb dX8_isAddress_1 (by decide) ?_
  refine lv_icmp_lt (tgt := 16) hx hb dX8_isAddress_2 (by decide) (fun c1 => ?_) (fun c1 => ?_)
  · rw [if_pos c1] at h
    refine lv_iconst (v := (0 : Int32)) hx hb dX8_isAddress_16 (by decide) ?_
    exact r_bool C hh (by decide) h dX8_isAddress_17
  · rw [if_neg c1] at h
    refine lv_iload_n hx hb dX8_isAddress_5 rfl (lv_at hl 0 rfl) ?_
    refine lv_sipush (v := (1023 : Int32)) hx hb dX8_isAddress_6 (by decide) ?_
    refine lv_icmp_gt (tgt := 16) hx hb dX8_isAddress_9 (by decide) (fun c2 => ?_) (fun c2 => ?_)
    · rw [if_pos c2] at h
      refine lv_iconst (v := (0 : Int32)) hx hb dX8_isAddress_16 (by decide) ?_
      exact r_bool C hh (by decide) h dX8_isAddress_17
    · rw [if_neg c2] at h
      refine lv_iconst (v := (1 : Int32)) hx hb dX8_isAddress_12 (by decide) ?_
      refine lv_goto (tgt := 17) hx hb dX8_isAddress_13 (by decide) ?_
      exact r_bool C hh (by decide) h dX8_isAddress_17
abbrev rm_X8_serve : Room := { frames := 4, cells := 0, slots := 0, locals := 103 }
theorem HD_X8_serve : yX8_serve.cls = RX8 ∧ yX8_serve.cls ≠ "java/lang/invoke/MethodHandle" ∧ yX8_serve.cls ≠ "java/lang/invoke/VarHandle" ∧ (parseMethodDescriptor yX8_serve.desc).map (fun d => d.parameters.length) = some 0 := by decide +kernel
def f_X8_serve_104 (x1 : Int32) (x2 : Int32) (x3 : Int32) (x4 : Int32) (x5 : Int32) (σ : Mem) : Option (Mem) := gd (vin x1 12) (vl (up σ 811 0 (x1).toNatClampNeg (vp_nar .boolean (1 : Int32))) (fun s2 => gd (vin x1 12) (vl (up s2 810 0 (x1).toNatClampNeg x5) (fun s5 => (if (s5 833 0 0) = (1 : Int32) then bv (f_X8_discover x4 x1 x5 x2 s5) (fun s37 => some s37) else (if (s5 833 0 0) = (3 : Int32) then bv (f_X8_request x4 x1 x5 x2 s5) (fun s35 => some s35) else (if (s5 833 0 0) = (4 : Int32) then bn (f_X8_isAddress (s5 834 0 0) s5) (fun r26 s25 => (if r26 = (0 : Int32) then some s25 else bn (f_X8_isOf (s25 834 0 0) x1 s25) (fun r30 s29 => (if r30 = (0 : Int32) then some s29 else bv (f_X8_setRecord (s29 834 0 0) (3 : Int32) (-1 : Int32) ((s29 801 0 0) + (100 : Int32)) s29) (fun s33 => some s33))))) else (if (s5 833 0 0) = (7 : Int32) then bn (f_X8_isAddress x3 s5) (fun r13 s12 => (if r13 = (0 : Int32) then some s12 else bn (f_X8_isOf x3 x1 s12) (fun r17 s16 => (if r17 = (0 : Int32) then some s16 else gd (vin x3 1024) ((if (s16 807 0 (x3).toNatClampNeg) = (2 : Int32) then gd (vin x3 1024) (vl (up s16 809 0 (x3).toNatClampNeg (s16 801 0 0)) (fun s22 => some s22)) else some s16)))))) else some s5))))))))
set_option maxHeartbeats 4000000 in
set_option maxRecDepth 100000 in
theorem k_X8_serve_104 {p : Program} {l : Launch} {e : Env} {s : State} {m : MethodId} {args : Array Value} {below : List Frame} {meth : Method} {c : Code} {D : va_G} {cA : Nat → ClassId} {ad : Nat → Nat → Nat} {A : Nat → Prop} {o : Nat → Int64} (C : Cx p s m args meth c cX8_serve 6 RX8 none D cA ad A o) {r : Mem} (x1 : Int32) (x2 : Int32) (x3 : Int32) (x4 : Int32) (x5 : Int32) (σ : Mem) {H : Heap} {locs : List Loc} (h : f_X8_serve_104 x1 x2 x3 x4 x5 σ = some r) (hh : HH D cA ad A o s σ H locs) {ls : Array Slot} (hl : lv_has ls 6 [(0, .ref (ad 899 0)), (1, .int x1), (2, .int x2), (3, .int x3), (4, .int x4), (5, .int x5)]) : W p l e rm_X8_serve s m args below meth c H locs 0 0 (MQ below (Qv D cA ad o A r) args s 0 0 A) (F0 m 104 ls []) := by
  obtain ⟨⟨hx, hb, hml, hown, hts⟩, hK, hN, hD, hr, hlocks⟩ := id C
  unfold f_X8_serve_104 at h
  refine lv_aload_n hx hb dX8_serve_104 rfl (lv_at hl 0 rfl) ?_
  refine gf_8_35 C hh dX8_serve_105 ?_
  refine lv_iload_n hx hb dX8_serve_108 rfl (lv_at hl 1 rfl) ?_
  refine lv_iconst (v := (1 : Int32)) hx hb dX8_serve_109 (by decide) ?_
  obtain ⟨b1, h⟩ := gd_e h
  obtain ⟨s2, e3, h⟩ := vl_e h
  refine as_811 C hh b1 dX8_serve_110 (fun H locs hh => ?_)
  rw [← e3] at hh
  refine lv_aload_n hx hb dX8_serve_111 rfl (lv_at hl 0 rfl) ?_
  refine gf_8_32 C hh dX8_serve_112 ?_
  refine lv_iload_n hx hb dX8_serve_115 rfl (lv_at hl 1 rfl) ?_
  refine lv_iload hx hb dX8_serve_116 (lv_at hl 5 rfl) ?_
  obtain ⟨b4, h⟩ := gd_e h
  obtain ⟨s5, e6, h⟩ := vl_e h
  refine as_810 C hh b4 dX8_serve_118 (fun H locs hh => ?_)
  rw [← e6] at hh
  refine lv_aload_n hx hb dX8_serve_119 rfl (lv_at hl 0 rfl) ?_
  refine gf_8_98 C hh dX8_serve_120 ?_
  refine lv_iconst (v := (1 : Int32)) hx hb dX8_serve_123 (by decide) ?_
  refine lv_icmp_ne (tgt := 140) hx hb dX8_serve_124 (by decide) (fun c7 => ?_) (fun c7 => ?_)
  · rw [if_neg c7] at h
    refine lv_aload_n hx hb dX8_serve_140 rfl (lv_at hl 0 rfl) ?_
    refine gf_8_98 C hh dX8_serve_141 ?_
    refine lv_iconst (v := (3 : Int32)) hx hb dX8_serve_144 (by decide) ?_
    refine lv_icmp_ne (tgt := 161) hx hb dX8_serve_145 (by decide) (fun c8 => ?_) (fun c8 => ?_)
    · rw [if_neg c8] at h
      refine lv_aload_n hx hb dX8_serve_161 rfl (lv_at hl 0 rfl) ?_
      refine gf_8_98 C hh dX8_serve_162 ?_
      refine lv_iconst (v := (4 : Int32)) hx hb dX8_serve_165 (by decide) ?_
      refine lv_icmp_ne (tgt := 211) hx hb dX8_serve_166 (by decide) (fun c9 => ?_) (fun c9 => ?_)
      · rw [if_neg c9] at h
        refine lv_aload_n hx hb dX8_serve_211 rfl (lv_at hl 0 rfl) ?_
        refine gf_8_98 C hh dX8_serve_212 ?_
        refine lv_bipush (v := (7 : Int32)) hx hb dX8_serve_215 (by decide) ?_
        refine lv_icmp_ne (tgt := 256) hx hb dX8_serve_217 (by decide) (fun c10 => ?_) (fun c10 => ?_)
        · rw [if_neg c10] at h
          exact r_void C hh h dX8_serve_256
        · rw [if_pos c10] at h
          refine lv_iload_n hx hb dX8_serve_220 rfl (lv_at hl 3 rfl) ?_
          obtain ⟨r13, s12, e11, h⟩ := bn_e h
          refine c_int hh (srun (rest := []) C hh (c_X8_isAddress C.2.2.2.1 x3 s5 e11) LM_8_198 ST_X8_isAddress IN_8 CD_X8_isAddress HD_X8_isAddress ⟨rfl, rfl, Nat.le_of_ble_eq_true rfl, Nat.le_of_ble_eq_true rfl⟩ rfl hl.1 rfl (Nat.le_of_ble_eq_true rfl) dX8_serve_221 ⟨Nat.zero_le _, Nat.zero_le _⟩) (fun H locs hh => ?_)
          refine lv_if_eq (tgt := 256) hx hb dX8_serve_224 (by decide) (fun c14 => ?_) (fun c14 => ?_)
          · rw [if_pos c14] at h
            exact r_void C hh h dX8_serve_256
          · rw [if_neg c14] at h
            refine lv_aload_n hx hb dX8_serve_227 rfl (lv_at hl 0 rfl) ?_
            refine lv_iload_n hx hb dX8_serve_228 rfl (lv_at hl 3 rfl) ?_
            refine lv_iload_n hx hb dX8_serve_229 rfl (lv_at hl 1 rfl) ?_
            obtain ⟨r17, s16, e15, h⟩ := bn_e h
            refine c_int hh (vrun (rest := []) C hh (c_X8_isOf C.2.2.2.1 x3 x1 s12 e15) LM_8_133 IM_X8_isOf SL_X8_isOf IN_8 CD_X8_isOf HD_X8_isOf ⟨rfl, rfl, Nat.le_of_ble_eq_true rfl, Nat.le_of_ble_eq_true rfl⟩ (rv_8 C hh) rfl hl.1 rfl (Nat.le_of_ble_eq_true rfl) dX8_serve_230 ⟨Nat.zero_le _, Nat.zero_le _⟩) (fun H locs hh => ?_)
            refine lv_if_eq (tgt := 256) hx hb dX8_serve_233 (by decide) (fun c18 => ?_) (fun c18 => ?_)
            · rw [if_pos c18] at h
              exact r_void C hh h dX8_serve_256
            · rw [if_neg c18] at h
              refine lv_aload_n hx hb dX8_serve_236 rfl (lv_at hl 0 rfl) ?_
              refine gf_8_23 C hh dX8_serve_237 ?_
              refine lv_iload_n hx hb dX8_serve_240 rfl (lv_at hl 3 rfl) ?_
              obtain ⟨b19, h⟩ := gd_e h
              refine al_807 C hh b19 dX8_serve_241 ?_
              refine lv_iconst (v := (2 : Int32)) hx hb dX8_serve_242 (by decide) ?_
              refine lv_icmp_ne (tgt := 256) hx hb dX8_serve_243 (by decide) (fun c20 => ?_) (fun c20 => ?_)
              · rw [if_neg c20] at h
                exact r_void C hh h dX8_serve_256
              · rw [if_pos c20] at h
                refine lv_aload_n hx hb dX8_serve_246 rfl (lv_at hl 0 rfl) ?_
                refine gf_8_29 C hh dX8_serve_247 ?_
                refine lv_iload_n hx hb dX8_serve_250 rfl (lv_at hl 3 rfl) ?_
                refine lv_aload_n hx hb dX8_serve_251 rfl (lv_at hl 0 rfl) ?_
                refine gf_8_130 C hh dX8_serve_252 ?_
                obtain ⟨b21, h⟩ := gd_e h
                obtain ⟨s22, e23, h⟩ := vl_e h
                refine as_809 C hh b21 dX8_serve_255 (fun H locs hh => ?_)
                rw [← e23] at hh
                exact r_void C hh h dX8_serve_256
      · rw [if_pos c9] at h
        refine lv_aload_n hx hb dX8_serve_169 rfl (lv_at hl 0 rfl) ?_
        refine gf_8_101 C hh dX8_serve_170 ?_
        obtain ⟨r26, s25, e24, h⟩ := bn_e h
        refine c_int hh (srun (rest := []) C hh (c_X8_isAddress C.2.2.2.1 (s5 834 0 0) s5 e24) LM_8_198 ST_X8_isAddress IN_8 CD_X8_isAddress HD_X8_isAddress ⟨rfl, rfl, Nat.le_of_ble_eq_true rfl, Nat.le_of_ble_eq_true rfl⟩ rfl hl.1 rfl (Nat.le_of_ble_eq_true rfl) dX8_serve_173 ⟨Nat.zero_le _, Nat.zero_le _⟩) (fun H locs hh => ?_)
        refine lv_if_eq (tgt := 256) hx hb dX8_serve_176 (by decide) (fun c27 => ?_) (fun c27 => ?_)
        · rw [if_pos c27] at h
          exact r_void C hh h dX8_serve_256
        · rw [if_neg c27] at h
          refine lv_aload_n hx hb dX8_serve_179 rfl (lv_at hl 0 rfl) ?_
          refine lv_aload_n hx hb dX8_serve_180 rfl (lv_at hl 0 rfl) ?_
          refine gf_8_101 C hh dX8_serve_181 ?_
          refine lv_iload_n hx hb dX8_serve_184 rfl (lv_at hl 1 rfl) ?_
          obtain ⟨r30, s29, e28, h⟩ := bn_e h
          refine c_int hh (vrun (rest := []) C hh (c_X8_isOf C.2.2.2.1 (s25 834 0 0) x1 s25 e28) LM_8_133 IM_X8_isOf SL_X8_isOf IN_8 CD_X8_isOf HD_X8_isOf ⟨rfl, rfl, Nat.le_of_ble_eq_true rfl, Nat.le_of_ble_eq_true rfl⟩ (rv_8 C hh) rfl hl.1 rfl (Nat.le_of_ble_eq_true rfl) dX8_serve_185 ⟨Nat.zero_le _, Nat.zero_le _⟩) (fun H locs hh => ?_)
          refine lv_if_eq (tgt := 256) hx hb dX8_serve_188 (by decide) (fun c31 => ?_) (fun c31 => ?_)
          · rw [if_pos c31] at h
            exact r_void C hh h dX8_serve_256
          · rw [if_neg c31] at h
            refine lv_aload_n hx hb dX8_serve_191 rfl (lv_at hl 0 rfl) ?_
            refine lv_aload_n hx hb dX8_serve_192 rfl (lv_at hl 0 rfl) ?_
            refine gf_8_101 C hh dX8_serve_193 ?_
            refine lv_iconst (v := (3 : Int32)) hx hb dX8_serve_196 (by decide) ?_
            refine lv_iconst (v := (-1 : Int32)) hx hb dX8_serve_197 (by decide) ?_
            refine lv_aload_n hx hb dX8_serve_198 rfl (lv_at hl 0 rfl) ?_
            refine gf_8_130 C hh dX8_serve_199 ?_
            refine lv_bipush (v := (100 : Int32)) hx hb dX8_serve_202 (by decide) ?_
            refine lv_iadd hx hb dX8_serve_204 ?_
            obtain ⟨s33, e32, h⟩ := bv_e h
            refine c_void hh (vrun (rest := []) C hh (c_X8_setRecord C.2.2.2.1 (s29 834 0 0) (3 : Int32) (-1 : Int32) ((s29 801 0 0) + (100 : Int32)) s29 e32) LM_8_147 IM_X8_setRecord SL_X8_setRecord IN_8 CD_X8_setRecord HD_X8_setRecord ⟨rfl, rfl, Nat.le_of_ble_eq_true rfl, Nat.le_of_ble_eq_true rfl⟩ (rv_8 C hh) rfl hl.1 rfl (Nat.le_of_ble_eq_true rfl) dX8_serve_205 ⟨Nat.zero_le _, Nat.zero_le _⟩) (fun H locs hh => ?_)
            refine lv_goto (tgt := 256) hx hb dX8_serve_208 (by decide) ?_
            exact r_void C hh h dX8_serve_256
    · rw [if_pos c8] at h
      refine lv_aload_n hx hb dX8_serve_148 rfl (lv_at hl 0 rfl) ?_
      refine lv_iload hx hb dX8_serve_149 (lv_at hl 4 rfl) ?_
      refine lv_iload_n hx hb dX8_serve_151 rfl (lv_at hl 1 rfl) ?_
      refine lv_iload hx hb dX8_serve_152 (lv_at hl 5 rfl) ?_
      refine lv_iload_n hx hb dX8_serve_154 rfl (lv_at hl 2 rfl) ?_
      obtain ⟨s35, e34, h⟩ := bv_e h
      refine c_void hh (vrun (rest := []) C hh (c_X8_request C.2.2.2.1 x4 x1 x5 x2 s5 e34) LM_8_195 IM_X8_request SL_X8_request IN_8 CD_X8_request HD_X8_request ⟨rfl, rfl, Nat.le_of_ble_eq_true rfl, Nat.le_of_ble_eq_true rfl⟩ (rv_8 C hh) rfl hl.1 rfl (Nat.le_of_ble_eq_true rfl) dX8_serve_155 ⟨Nat.zero_le _, Nat.zero_le _⟩) (fun H locs hh => ?_)
      refine lv_goto (tgt := 256) hx hb dX8_serve_158 (by decide) ?_
      exact r_void C hh h dX8_serve_256
  · rw [if_pos c7] at h
    refine lv_aload_n hx hb dX8_serve_127 rfl (lv_at hl 0 rfl) ?_
    refine lv_iload hx hb dX8_serve_128 (lv_at hl 4 rfl) ?_
    refine lv_iload_n hx hb dX8_serve_130 rfl (lv_at hl 1 rfl) ?_
    refine lv_iload hx hb dX8_serve_131 (lv_at hl 5 rfl) ?_
    refine lv_iload_n hx hb dX8_serve_133 rfl (lv_at hl 2 rfl) ?_
    obtain ⟨s37, e36, h⟩ := bv_e h
    refine c_void hh (vrun (rest := []) C hh (c_X8_discover C.2.2.2.1 x4 x1 x5 x2 s5 e36) LM_8_192 IM_X8_discover SL_X8_discover IN_8 CD_X8_discover HD_X8_discover ⟨rfl, rfl, Nat.le_of_ble_eq_true rfl, Nat.le_of_ble_eq_true rfl⟩ (rv_8 C hh) rfl hl.1 rfl (Nat.le_of_ble_eq_true rfl) dX8_serve_134 ⟨Nat.zero_le _, Nat.zero_le _⟩) (fun H locs hh => ?_)
    refine lv_goto (tgt := 256) hx hb dX8_serve_137 (by decide) ?_
    exact r_void C hh h dX8_serve_256
def f_X8_serve_33 (x1 : Int32) (x2 : Int32) (x3 : Int32) (xs0 : Int32) (σ : Mem) : Option (Mem) := bn (f_X8_xidOf σ) (fun r3 s2 => (if (s2 806 0 0) = (0 : Int32) then gd (vin (0 : Int32) 64) ((if (s2 829 0 ((0 : Int32)).toNatClampNeg) = (1 : Int32) then bn (f_X8_isClient x1 s2) (fun r9 s8 => (if r9 = (0 : Int32) then some s8 else bn (f_X8_isSubnet xs0 s8) (fun r13 s12 => (if r13 = (0 : Int32) then some s12 else gd (vin xs0 4) ((if (s12 803 0 (xs0).toNatClampNeg) = (0 : Int32) then some s12 else gd (vin x1 12) ((if (s12 811 0 (x1).toNatClampNeg) = (0 : Int32) then f_X8_serve_104 x1 x2 x3 xs0 r3 s12 else gd (vin x1 12) ((if (s12 810 0 (x1).toNatClampNeg) ≤ r3 then f_X8_serve_104 x1 x2 x3 xs0 r3 s12 else some s12)))))))))) else some s2)) else some s2))
set_option maxHeartbeats 4000000 in
set_option maxRecDepth 100000 in
theorem k_X8_serve_33 {p : Program} {l : Launch} {e : Env} {s : State} {m : MethodId} {args : Array Value} {below : List Frame} {meth : Method} {c : Code} {D : va_G} {cA : Nat → ClassId} {ad : Nat → Nat → Nat} {A : Nat → Prop} {o : Nat → Int64} (C : Cx p s m args meth c cX8_serve 6 RX8 none D cA ad A o) {r : Mem} (x1 : Int32) (x2 : Int32) (x3 : Int32) (xs0 : Int32) (σ : Mem) {H : Heap} {locs : List Loc} (h : f_X8_serve_33 x1 x2 x3 xs0 σ = some r) (hh : HH D cA ad A o s σ H locs) {ls : Array Slot} (hl : lv_has ls 6 [(0, .ref (ad 899 0)), (1, .int x1), (2, .int x2), (3, .int x3)]) : W p l e rm_X8_serve s m args below meth c H locs 0 0 (MQ below (Qv D cA ad o A r) args s 0 0 A) (F0 m 33 ls [.int xs0]) := by
  obtain ⟨⟨hx, hb, hml, hown, hts⟩, hK, hN, hD, hr, hlocks⟩ := id C
  unfold f_X8_serve_33 at h
  refine lv_istore (lv' := [(4, .int xs0), (0, .ref (ad 899 0)), (1, .int x1), (2, .int x2), (3, .int x3)]) hx hb dX8_serve_33 hl (by decide) rfl (fun ls hl => ?_)
  refine lv_aload_n hx hb dX8_serve_35 rfl (lv_at hl 1 rfl) ?_
  obtain ⟨r3, s2, e1, h⟩ := bn_e h
  refine c_int hh (vrun (rest := []) C hh (c_X8_xidOf C.2.2.2.1 σ e1) LM_8_183 IM_X8_xidOf SL_X8_xidOf IN_8 CD_X8_xidOf HD_X8_xidOf ⟨rfl, rfl, Nat.le_of_ble_eq_true rfl, Nat.le_of_ble_eq_true rfl⟩ (rv_8 C hh) rfl hl.1 rfl (Nat.le_of_ble_eq_true rfl) dX8_serve_36 ⟨Nat.zero_le _, Nat.zero_le _⟩) (fun H locs hh => ?_)
  refine lv_istore (lv' := [(5, .int r3), (4, .int xs0), (0, .ref (ad 899 0)), (1, .int x1), (2, .int x2), (3, .int x3)]) hx hb dX8_serve_39 hl (by decide) rfl (fun ls hl => ?_)
  refine lv_aload_n hx hb dX8_serve_41 rfl (lv_at hl 2 rfl) ?_
  refine gf_8_186 C hh dX8_serve_42 ?_
  refine lv_if_ne (tgt := 103) hx hb dX8_serve_45 (by decide) (fun c4 => ?_) (fun c4 => ?_)
  · rw [if_neg c4] at h
    exact r_void C hh h dX8_serve_103
  · rw [if_pos c4] at h
    refine lv_aload_n hx hb dX8_serve_48 rfl (lv_at hl 2 rfl) ?_
    refine gf_8_80 C hh dX8_serve_49 ?_
    refine lv_iconst (v := (0 : Int32)) hx hb dX8_serve_52 (by decide) ?_
    obtain ⟨b5, h⟩ := gd_e h
    refine al_829 C hh b5 dX8_serve_53 ?_
    refine lv_iconst (v := (1 : Int32)) hx hb dX8_serve_54 (by decide) ?_
    refine lv_icmp_ne (tgt := 103) hx hb dX8_serve_55 (by decide) (fun c6 => ?_) (fun c6 => ?_)
    · rw [if_neg c6] at h
      exact r_void C hh h dX8_serve_103
    · rw [if_pos c6] at h
      refine lv_iload_n hx hb dX8_serve_58 rfl (lv_at hl 3 rfl) ?_
      obtain ⟨r9, s8, e7, h⟩ := bn_e h
      refine c_int hh (srun (rest := []) C hh (c_X8_isClient C.2.2.2.1 x1 s2 e7) LM_8_90 ST_X8_isClient IN_8 CD_X8_isClient HD_X8_isClient ⟨rfl, rfl, Nat.le_of_ble_eq_true rfl, Nat.le_of_ble_eq_true rfl⟩ rfl hl.1 rfl (Nat.le_of_ble_eq_true rfl) dX8_serve_59 ⟨Nat.zero_le _, Nat.zero_le _⟩) (fun H locs hh => ?_)
      refine lv_if_eq (tgt := 103) hx hb dX8_serve_62 (by decide) (fun c10 => ?_) (fun c10 => ?_)
      · rw [if_pos c10] at h
        exact r_void C hh h dX8_serve_103
      · rw [if_neg c10] at h
        refine lv_iload hx hb dX8_serve_65 (lv_at hl 1 rfl) ?_
        obtain ⟨r13, s12, e11, h⟩ := bn_e h
        refine c_int hh (srun (rest := []) C hh (c_X8_isSubnet C.2.2.2.1 xs0 s8 e11) LM_8_189 ST_X8_isSubnet IN_8 CD_X8_isSubnet HD_X8_isSubnet ⟨rfl, rfl, Nat.le_of_ble_eq_true rfl, Nat.le_of_ble_eq_true rfl⟩ rfl hl.1 rfl (Nat.le_of_ble_eq_true rfl) dX8_serve_67 ⟨Nat.zero_le _, Nat.zero_le _⟩) (fun H locs hh => ?_)
        refine lv_if_eq (tgt := 103) hx hb dX8_serve_70 (by decide) (fun c14 => ?_) (fun c14 => ?_)
        · rw [if_pos c14] at h
          exact r_void C hh h dX8_serve_103
        · rw [if_neg c14] at h
          refine lv_aload_n hx hb dX8_serve_73 rfl (lv_at hl 2 rfl) ?_
          refine gf_8_13 C hh dX8_serve_74 ?_
          refine lv_iload hx hb dX8_serve_77 (lv_at hl 1 rfl) ?_
          obtain ⟨b15, h⟩ := gd_e h
          refine al_803 C hh b15 dX8_serve_79 ?_
          refine lv_if_eq (tgt := 103) hx hb dX8_serve_80 (by decide) (fun c16 => ?_) (fun c16 => ?_)
          · rw [if_pos c16] at h
            exact r_void C hh h dX8_serve_103
          · rw [if_neg c16] at h
            refine lv_aload_n hx hb dX8_serve_83 rfl (lv_at hl 2 rfl) ?_
            refine gf_8_35 C hh dX8_serve_84 ?_
            refine lv_iload_n hx hb dX8_serve_87 rfl (lv_at hl 3 rfl) ?_
            obtain ⟨b17, h⟩ := gd_e h
            refine al_811 C hh b17 dX8_serve_88 ?_
            refine lv_if_eq (tgt := 104) hx hb dX8_serve_89 (by decide) (fun c18 => ?_) (fun c18 => ?_)
            · rw [if_pos c18] at h
              exact k_X8_serve_104 C x1 x2 x3 xs0 r3 s12 h hh (lv_sub hl [2, 3, 4, 5, 1, 0] rfl)
            · rw [if_neg c18] at h
              refine lv_iload hx hb dX8_serve_92 (lv_at hl 0 rfl) ?_
              refine lv_aload_n hx hb dX8_serve_94 rfl (lv_at hl 2 rfl) ?_
              refine gf_8_32 C hh dX8_serve_95 ?_
              refine lv_iload_n hx hb dX8_serve_98 rfl (lv_at hl 3 rfl) ?_
              obtain ⟨b19, h⟩ := gd_e h
              refine al_810 C hh b19 dX8_serve_99 ?_
              refine lv_icmp_ge (tgt := 104) hx hb dX8_serve_100 (by decide) (fun c20 => ?_) (fun c20 => ?_)
              · rw [if_pos c20] at h
                exact k_X8_serve_104 C x1 x2 x3 xs0 r3 s12 h hh (lv_sub hl [2, 3, 4, 5, 1, 0] rfl)
              · rw [if_neg c20] at h
                exact r_void C hh h dX8_serve_103
def f_X8_serve (σ : Mem) : Option (Mem) := gd (vin (18 : Int32) 64) (bn (f_X8_giaddr σ) (fun r4 s3 => bn (f_X8_ciaddr s3) (fun r7 s6 => (if r4 = (0 : Int32) then f_X8_serve_33 (σ 829 0 ((18 : Int32)).toNatClampNeg) r4 r7 (r7 >>> ((8 : Int32) &&& 31)) s6 else f_X8_serve_33 (σ 829 0 ((18 : Int32)).toNatClampNeg) r4 r7 (r4 >>> ((8 : Int32) &&& 31)) s6))))
set_option maxHeartbeats 4000000 in
set_option maxRecDepth 100000 in
theorem c_X8_serve {l : Launch} {D : va_G} {cA : Nat → ClassId} {ad : Nat → Nat → Nat} {A : Nat → Prop} {o : Nat → Int64} (hD0 : ∀ σ, va_D A (wW cA ad σ o)) (σ : Mem) {r : Mem} (h : f_X8_serve σ = some r) : Met l yX8_serve (wsG yX8_serve cX8_serve 6 none) rm_X8_serve (va_Pc [.ref (ad 899 0)] (IW D cA ad o σ)) (Qv D cA ad o A r) 0 0 A := by
  refine metG (by decide) (Nat.le_of_ble_eq_true rfl) hD0 ?_
  intro p e s m args below meth c C ls hh hl
  have C : Cx p s m args meth c cX8_serve 6 RX8 none D cA ad A o := C
  have hl : lv_has ls 6 [(0, .ref (ad 899 0))] := hl
  obtain ⟨⟨hx, hb, hml, hown, hts⟩, hK, hN, hD, hr, hlocks⟩ := id C
  unfold f_X8_serve at h
  refine lv_aload_n hx hb dX8_serve_0 rfl (lv_at hl 0 rfl) ?_
  refine gf_8_80 C hh dX8_serve_1 ?_
  refine lv_bipush (v := (18 : Int32)) hx hb dX8_serve_4 (by decide) ?_
  obtain ⟨b1, h⟩ := gd_e h
  refine al_829 C hh b1 dX8_serve_6 ?_
  refine lv_istore_n (lv' := [(1, .int (σ 829 0 ((18 : Int32)).toNatClampNeg)), (0, .ref (ad 899 0))]) hx hb dX8_serve_7 rfl hl (by decide) rfl (fun ls hl => ?_)
  refine lv_aload_n hx hb dX8_serve_8 rfl (lv_at hl 1 rfl) ?_
  obtain ⟨r4, s3, e2, h⟩ := bn_e h
  refine c_int hh (vrun (rest := []) C hh (c_X8_giaddr C.2.2.2.1 σ e2) LM_8_180 IM_X8_giaddr SL_X8_giaddr IN_8 CD_X8_giaddr HD_X8_giaddr ⟨rfl, rfl, Nat.le_of_ble_eq_true rfl, Nat.le_of_ble_eq_true rfl⟩ (rv_8 C hh) rfl hl.1 rfl (Nat.le_of_ble_eq_true rfl) dX8_serve_9 ⟨Nat.zero_le _, Nat.zero_le _⟩) (fun H locs hh => ?_)
  refine lv_istore_n (lv' := [(2, .int r4), (1, .int (σ 829 0 ((18 : Int32)).toNatClampNeg)), (0, .ref (ad 899 0))]) hx hb dX8_serve_12 rfl hl (by decide) rfl (fun ls hl => ?_)
  refine lv_aload_n hx hb dX8_serve_13 rfl (lv_at hl 2 rfl) ?_
  obtain ⟨r7, s6, e5, h⟩ := bn_e h
  refine c_int hh (vrun (rest := []) C hh (c_X8_ciaddr C.2.2.2.1 s3 e5) LM_8_176 IM_X8_ciaddr SL_X8_ciaddr IN_8 CD_X8_ciaddr HD_X8_ciaddr ⟨rfl, rfl, Nat.le_of_ble_eq_true rfl, Nat.le_of_ble_eq_true rfl⟩ (rv_8 C hh) rfl hl.1 rfl (Nat.le_of_ble_eq_true rfl) dX8_serve_14 ⟨Nat.zero_le _, Nat.zero_le _⟩) (fun H locs hh => ?_)
  refine lv_istore_n (lv' := [(3, .int r7), (2, .int r4), (1, .int (σ 829 0 ((18 : Int32)).toNatClampNeg)), (0, .ref (ad 899 0))]) hx hb dX8_serve_17 rfl hl (by decide) rfl (fun ls hl => ?_)
  refine lv_iload_n hx hb dX8_serve_18 rfl (lv_at hl 1 rfl) ?_
  refine lv_if_eq (tgt := 29) hx hb dX8_serve_19 (by decide) (fun c8 => ?_) (fun c8 => ?_)
  · rw [if_pos c8] at h
    refine lv_iload_n hx hb dX8_serve_29 rfl (lv_at hl 0 rfl) ?_
    refine lv_bipush (v := (8 : Int32)) hx hb dX8_serve_30 (by decide) ?_
    refine lv_ishr hx hb dX8_serve_32 ?_
    exact k_X8_serve_33 C (σ 829 0 ((18 : Int32)).toNatClampNeg) r4 r7 (r7 >>> ((8 : Int32) &&& 31)) s6 h hh (lv_sub hl [3, 2, 1, 0] rfl)
  · rw [if_neg c8] at h
    refine lv_iload_n hx hb dX8_serve_22 rfl (lv_at hl 1 rfl) ?_
    refine lv_bipush (v := (8 : Int32)) hx hb dX8_serve_23 (by decide) ?_
    refine lv_ishr hx hb dX8_serve_25 ?_
    refine lv_goto (tgt := 33) hx hb dX8_serve_26 (by decide) ?_
    exact k_X8_serve_33 C (σ 829 0 ((18 : Int32)).toNatClampNeg) r4 r7 (r4 >>> ((8 : Int32) &&& 31)) s6 h hh (lv_sub hl [3, 2, 1, 0] rfl)
