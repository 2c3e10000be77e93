abbrev rm_X7_down : Room := { frames := 0, cells := 0, slots := 0, locals := 0 }
theorem HD_X7_down : yX7_down.cls = RX7 ∧ yX7_down.cls ≠ "java/lang/invoke/MethodHandle" ∧ yX7_down.cls ≠ "java/lang/invoke/VarHandle" ∧ (parseMethodDescriptor yX7_down.desc).map (fun d => d.parameters.length) = some 1 := by decide +kernel
def f_X7_down_13 (xs0 : Int32) (σ : Mem) : Option (Mem) := gd (zo xs0) (vl (up σ 600 0 0 xs0) (fun s2 => some s2))
set_option maxHeartbeats 4000000 in
set_option maxRecDepth 100000 in
theorem k_X7_down_13 {p : Program} {l : Launch} {e : Env} {s : State} {m : MethodId} {args : Array Value} {below : List Frame} {meth : Method} {c : Code} {D : va_G} {cA : Nat → ClassId} {ad : Nat → Nat → Nat} {A : Nat → Prop} {o : Nat → Int64} (C : Cx p s m args meth c cX7_down 2 RX7 none D cA ad A o) {r : Mem} (xs0 : Int32) (σ : Mem) {H : Heap} {locs : List Loc} (h : f_X7_down_13 xs0 σ = some r) (hh : HH D cA ad A o s σ H locs) {ls : Array Slot} (hl : lv_has ls 2 []) : W p l e rm_X7_down s m args below meth c H locs 0 0 (MQ below (Qv D cA ad o A r) args s 0 0 A) (F0 m 13 ls [.int xs0, .ref (ad 699 0)]) := by
  obtain ⟨⟨hx, hb, hml, hown, hts⟩, hK, hN, hD, hr, hlocks⟩ := id C
  unfold f_X7_down_13 at h
  obtain ⟨b1, h⟩ := gd_e h
  obtain ⟨s2, e3, h⟩ := vl_e h
  refine pf_7_104 C hh b1 dX7_down_13 (fun H locs hh => ?_)
  rw [← e3] at hh
  exact r_void C hh h dX7_down_16
def f_X7_down (x1 : Int32) (σ : Mem) : Option (Mem) := (if x1 = (0 : Int32) then f_X7_down_13 (1 : Int32) σ else f_X7_down_13 (0 : Int32) σ)
set_option maxHeartbeats 4000000 in
set_option maxRecDepth 100000 in
theorem c_X7_down {l : Launch} {D : va_G} {cA : Nat → ClassId} {ad : Nat → Nat → Nat} {A : Nat → Prop} {o : Nat → Int64} (hD0 : ∀ σ, va_D A (wW cA ad σ o)) (x1 : Int32) (σ : Mem) {r : Mem} (h : f_X7_down x1 σ = some r) : Met l yX7_down (wsG yX7_down cX7_down 2 none) rm_X7_down (va_Pc [.ref (ad 799 0), .int x1] (IW D cA ad o σ)) (Qv D cA ad o A r) 0 0 A := by
  refine metG (by decide) (Nat.le_of_ble_eq_true rfl) hD0 ?_
  intro p e s m args below meth c C ls hh hl
  have C : Cx p s m args meth c cX7_down 2 RX7 none D cA ad A o := C
  have hl : lv_has ls 2 [(0, .ref (ad 799 0)), (1, .int x1)] := hl
  obtain ⟨⟨hx, hb, hml, hown, hts⟩, hK, hN, hD, hr, hlocks⟩ := id C
  unfold f_X7_down at h
  refine lv_aload_n hx hb dX7_down_0 rfl (lv_at hl 0 rfl) ?_
  refine gf_7_19 C hh dX7_down_1 ?_
  refine lv_iload_n hx hb dX7_down_4 rfl (lv_at hl 1 rfl) ?_
  refine lv_if_ne (tgt := 12) hx hb dX7_down_5 (by decide) (fun c1 => ?_) (fun c1 => ?_)
  · rw [if_neg c1] at h
    refine lv_iconst (v := (0 : Int32)) hx hb dX7_down_12 (by decide) ?_
    exact k_X7_down_13 C (0 : Int32) σ h hh (lv_sub hl [] rfl)
  · rw [if_pos c1] at h
    refine lv_iconst (v := (1 : Int32)) hx hb dX7_down_8 (by decide) ?_
    refine lv_goto (tgt := 13) hx hb dX7_down_9 (by decide) ?_
    exact k_X7_down_13 C (1 : Int32) σ h hh (lv_sub hl [] rfl)
abbrev rm_X1_forget : Room := { frames := 0, cells := 0, slots := 0, locals := 0 }
theorem HD_X1_forget : yX1_forget.cls = RX1 ∧ yX1_forget.cls ≠ "java/lang/invoke/MethodHandle" ∧ yX1_forget.cls ≠ "java/lang/invoke/VarHandle" ∧ (parseMethodDescriptor yX1_forget.desc).map (fun d => d.parameters.length) = some 0 := by decide +kernel
def f_X1_forget (j0 : Nat) (σ : Mem) : Option (Mem) := vl (up σ 103 j0 0 (0 : Int32)) (fun s1 => vl (up s1 104 j0 0 (0 : Int32)) (fun s3 => some s3))
set_option maxHeartbeats 4000000 in
set_option maxRecDepth 100000 in
theorem c_X1_forget {l : Launch} {D : va_G} {cA : Nat → ClassId} {ad : Nat → Nat → Nat} {A : Nat → Prop} {o : Nat → Int64} (hD0 : ∀ σ, va_D A (wW cA ad σ o)) (j0 : Nat) (hj0 : j0 < 12) (σ : Mem) {r : Mem} (h : f_X1_forget j0 σ = some r) : Met l yX1_forget (wsG yX1_forget cX1_forget 1 none) rm_X1_forget (va_Pc [.ref (ad 199 j0)] (IW D cA ad o σ)) (Qv D cA ad o A r) 0 0 A := by
  refine metG (by decide) (Nat.le_of_ble_eq_true rfl) hD0 ?_
  intro p e s m args below meth c C ls hh hl
  have C : Cx p s m args meth c cX1_forget 1 RX1 none D cA ad A o := C
  have hl : lv_has ls 1 [(0, .ref (ad 199 j0))] := hl
  obtain ⟨⟨hx, hb, hml, hown, hts⟩, hK, hN, hD, hr, hlocks⟩ := id C
  unfold f_X1_forget at h
  refine lv_aload_n hx hb dX1_forget_0 rfl (lv_at hl 0 rfl) ?_
  refine lv_iconst (v := (0 : Int32)) hx hb dX1_forget_1 (by decide) ?_
  obtain ⟨s1, e2, h⟩ := vl_e h
  refine pf_1_18 C hh hj0 dX1_forget_2 (fun H locs hh => ?_)
  rw [← e2] at hh
  refine lv_aload_n hx hb dX1_forget_5 rfl (lv_at hl 0 rfl) ?_
  refine lv_iconst (v := (0 : Int32)) hx hb dX1_forget_6 (by decide) ?_
  obtain ⟨s3, e4, h⟩ := vl_e h
  refine pf_1_21 C hh hj0 dX1_forget_7 (fun H locs hh => ?_)
  rw [← e4] at hh
  exact r_void C hh h dX1_forget_10
abbrev rm_X7_relayOf : Room := { frames := 0, cells := 0, slots := 0, locals := 0 }
theorem HD_X7_relayOf : yX7_relayOf.cls = RX7 ∧ yX7_relayOf.cls ≠ "java/lang/invoke/MethodHandle" ∧ yX7_relayOf.cls ≠ "java/lang/invoke/VarHandle" ∧ (parseMethodDescriptor yX7_relayOf.desc).map (fun d => d.parameters.length) = some 1 := by decide +kernel
def f_X7_relayOf (x0 : Int32) (σ : Mem) : Option (Int32 × Mem) := some (((12 : Int32) + x0), σ)
set_option maxHeartbeats 4000000 in
set_option maxRecDepth 100000 in
theorem c_X7_relayOf {l : Launch} {D : va_G} {cA : Nat → ClassId} {ad : Nat → Nat → Nat} {A : Nat → Prop} {o : Nat → Int64} (hD0 : ∀ σ, va_D A (wW cA ad σ o)) (x0 : Int32) (σ : Mem) {r : Int32 × Mem} (h : f_X7_relayOf x0 σ = some r) : Met l yX7_relayOf (wsG yX7_relayOf cX7_relayOf 1 (some .int)) rm_X7_relayOf (va_Pc [.int x0] (IW D cA ad o σ)) (Qi D cA ad o A r) 0 0 A := by
  refine metG (by decide) (Nat.le_of_ble_eq_true rfl) hD0 ?_
  intro p e s m args below meth c C ls hh hl
  have C : Cx p s m args meth c cX7_relayOf 1 RX7 (some .int) D cA ad A o := C
  have hl : lv_has ls 1 [(0, .int x0)] := hl
  obtain ⟨⟨hx, hb, hml, hown, hts⟩, hK, hN, hD, hr, hlocks⟩ := id C
  unfold f_X7_relayOf at h
  refine lv_bipush (v := (12 : Int32)) hx hb dX7_relayOf_0 (by decide) ?_
  refine lv_iload_n hx hb dX7_relayOf_2 rfl (lv_at hl 0 rfl) ?_
  refine lv_iadd hx hb dX7_relayOf_3 ?_
  exact r_int C hh h dX7_relayOf_4
abbrev rm_X1_broadcastPlace : Room := { frames := 1, cells := 0, slots := 0, locals := 20 }
theorem HD_X1_broadcastPlace : yX1_broadcastPlace.cls = RX1 ∧ yX1_broadcastPlace.cls ≠ "java/lang/invoke/MethodHandle" ∧ yX1_broadcastPlace.cls ≠ "java/lang/invoke/VarHandle" ∧ (parseMethodDescriptor yX1_broadcastPlace.desc).map (fun d => d.parameters.length) = some 0 := by decide +kernel
def f_X1_broadcastPlace (j0 : Nat) (σ : Mem) : Option (Int32 × Mem) := (if (σ 102 j0 0) = (0 : Int32) then some ((16 : Int32), σ) else bn (f_X7_relayOf (σ 102 j0 0) σ) (fun r4 s3 => some (r4, s3)))
set_option maxHeartbeats 4000000 in
set_option maxRecDepth 100000 in
theorem c_X1_broadcastPlace {l : Launch} {D : va_G} {cA : Nat → ClassId} {ad : Nat → Nat → Nat} {A : Nat → Prop} {o : Nat → Int64} (hD0 : ∀ σ, va_D A (wW cA ad σ o)) (j0 : Nat) (hj0 : j0 < 12) (σ : Mem) {r : Int32 × Mem} (h : f_X1_broadcastPlace j0 σ = some r) : Met l yX1_broadcastPlace (wsG yX1_broadcastPlace cX1_broadcastPlace 1 (some .int)) rm_X1_broadcastPlace (va_Pc [.ref (ad 199 j0)] (IW D cA ad o σ)) (Qi D cA ad o A r) 0 0 A := by
  refine metG (by decide) (Nat.le_of_ble_eq_true rfl) hD0 ?_
  intro p e s m args below meth c C ls hh hl
  have C : Cx p s m args meth c cX1_broadcastPlace 1 RX1 (some .int) D cA ad A o := C
  have hl : lv_has ls 1 [(0, .ref (ad 199 j0))] := hl
  obtain ⟨⟨hx, hb, hml, hown, hts⟩, hK, hN, hD, hr, hlocks⟩ := id C
  unfold f_X1_broadcastPlace at h
  refine lv_aload_n hx hb dX1_broadcastPlace_0 rfl (lv_at hl 0 rfl) ?_
  refine gf_1_15 C hh hj0 dX1_broadcastPlace_1 ?_
  refine lv_if_ne (tgt := 12) hx hb dX1_broadcastPlace_4 (by decide) (fun c1 => ?_) (fun c1 => ?_)
  · rw [if_neg c1] at h
    refine lv_aload_n hx hb dX1_broadcastPlace_12 rfl (lv_at hl 0 rfl) ?_
    refine gf_1_15 C hh hj0 dX1_broadcastPlace_13 ?_
    obtain ⟨r4, s3, e2, h⟩ := bn_e h
    refine c_int hh (nrun (rest := []) C hh (c_X7_relayOf C.2.2.2.1 (σ 102 j0 0) σ e2) LN_1_130 ST_X7_relayOf IN_7 CD_X7_relayOf HD_X7_relayOf.2 ⟨rfl, rfl, Nat.le_of_ble_eq_true rfl, Nat.le_of_ble_eq_true rfl⟩ rfl hl.1 rfl (Nat.le_of_ble_eq_true rfl) dX1_broadcastPlace_16 ⟨Nat.zero_le _, Nat.zero_le _⟩) (fun H locs hh => ?_)
    exact r_int C hh h dX1_broadcastPlace_19
  · rw [if_pos c1] at h
    refine lv_bipush (v := (16 : Int32)) hx hb dX1_broadcastPlace_7 (by decide) ?_
    refine lv_goto (tgt := 19) hx hb dX1_broadcastPlace_9 (by decide) ?_
    exact r_int C hh h dX1_broadcastPlace_19
abbrev rm_X2_start : Room := { frames := 0, cells := 0, slots := 0, locals := 0 }
theorem HD_X2_start : yX2_start.cls = RX2 ∧ yX2_start.cls ≠ "java/lang/invoke/MethodHandle" ∧ yX2_start.cls ≠ "java/lang/invoke/VarHandle" ∧ (parseMethodDescriptor yX2_start.desc).map (fun d => d.parameters.length) = some 3 := by decide +kernel
def f_X2_start (j0 : Nat) (x1 : Int32) (x2 : Int32) (x3 : Int32) (σ : Mem) : Option (Mem) := vl (up σ 200 j0 0 x1) (fun s1 => vl (up s1 201 j0 0 (0 : Int32)) (fun s3 => vl (up s3 202 j0 0 x2) (fun s5 => vl (up s5 203 j0 0 (0 : Int32)) (fun s7 => vl (up s7 204 j0 0 (0 : Int32)) (fun s9 => vl (up s9 205 j0 0 (0 : Int32)) (fun s11 => vl (up s11 206 j0 0 x3) (fun s13 => vl (up s13 207 j0 0 (-1 : Int32)) (fun s15 => vl (up s15 208 j0 0 (0 : Int32)) (fun s17 => vl (up s17 209 j0 0 (0 : Int32)) (fun s19 => vl (up s19 210 j0 0 (0 : Int32)) (fun s21 => some s21)))))))))))
set_option maxHeartbeats 4000000 in
set_option maxRecDepth 100000 in
theorem c_X2_start {l : Launch} {D : va_G} {cA : Nat → ClassId} {ad : Nat → Nat → Nat} {A : Nat → Prop} {o : Nat → Int64} (hD0 : ∀ σ, va_D A (wW cA ad σ o)) (j0 : Nat) (hj0 : j0 < 2) (x1 : Int32) (x2 : Int32) (x3 : Int32) (σ : Mem) {r : Mem} (h : f_X2_start j0 x1 x2 x3 σ = some r) : Met l yX2_start (wsG yX2_start cX2_start 4 none) rm_X2_start (va_Pc [.ref (ad 299 j0), .int x1, .int x2, .int x3] (IW D cA ad o σ)) (Qv D cA ad o A r) 0 0 A := by
  refine metG (by decide) (Nat.le_of_ble_eq_true rfl) hD0 ?_
  intro p e s m args below meth c C ls hh hl
  have C : Cx p s m args meth c cX2_start 4 RX2 none D cA ad A o := C
  have hl : lv_has ls 4 [(0, .ref (ad 299 j0)), (1, .int x1), (2, .int x2), (3, .int x3)] := hl
  obtain ⟨⟨hx, hb, hml, hown, hts⟩, hK, hN, hD, hr, hlocks⟩ := id C
  unfold f_X2_start at h
  refine lv_aload_n hx hb dX2_start_0 rfl (lv_at hl 0 rfl) ?_
  refine lv_iload_n hx hb dX2_start_1 rfl (lv_at hl 1 rfl) ?_
  obtain ⟨s1, e2, h⟩ := vl_e h
  refine pf_2_9 C hh hj0 dX2_start_2 (fun H locs hh => ?_)
  rw [← e2] at hh
  refine lv_aload_n hx hb dX2_start_5 rfl (lv_at hl 0 rfl) ?_
  refine lv_iconst (v := (0 : Int32)) hx hb dX2_start_6 (by decide) ?_
  obtain ⟨s3, e4, h⟩ := vl_e h
  refine pf_2_15 C hh hj0 dX2_start_7 (fun H locs hh => ?_)
  rw [← e4] at hh
  refine lv_aload_n hx hb dX2_start_10 rfl (lv_at hl 0 rfl) ?_
  refine lv_iload_n hx hb dX2_start_11 rfl (lv_at hl 2 rfl) ?_
  obtain ⟨s5, e6, h⟩ := vl_e h
  refine pf_2_18 C hh hj0 dX2_start_12 (fun H locs hh => ?_)
  rw [← e6] at hh
  refine lv_aload_n hx hb dX2_start_15 rfl (lv_at hl 0 rfl) ?_
  refine lv_iconst (v := (0 : Int32)) hx hb dX2_start_16 (by decide) ?_
  obtain ⟨s7, e8, h⟩ := vl_e h
  refine pf_2_21 C hh hj0 dX2_start_17 (fun H locs hh => ?_)
  rw [← e8] at hh
  refine lv_aload_n hx hb dX2_start_20 rfl (lv_at hl 0 rfl) ?_
  refine lv_iconst (v := (0 : Int32)) hx hb dX2_start_21 (by decide) ?_
  obtain ⟨s9, e10, h⟩ := vl_e h
  refine pf_2_24 C hh hj0 dX2_start_22 (fun H locs hh => ?_)
  rw [← e10] at hh
  refine lv_aload_n hx hb dX2_start_25 rfl (lv_at hl 0 rfl) ?_
  refine lv_iconst (v := (0 : Int32)) hx hb dX2_start_26 (by decide) ?_
  obtain ⟨s11, e12, h⟩ := vl_e h
  refine pf_2_27 C hh hj0 dX2_start_27 (fun H locs hh => ?_)
  rw [← e12] at hh
  refine lv_aload_n hx hb dX2_start_30 rfl (lv_at hl 0 rfl) ?_
  refine lv_iload_n hx hb dX2_start_31 rfl (lv_at hl 3 rfl) ?_
  obtain ⟨s13, e14, h⟩ := vl_e h
  refine pf_2_30 C hh hj0 dX2_start_32 (fun H locs hh => ?_)
  rw [← e14] at hh
  refine lv_aload_n hx hb dX2_start_35 rfl (lv_at hl 0 rfl) ?_
  refine lv_iconst (v := (-1 : Int32)) hx hb dX2_start_36 (by decide) ?_
  obtain ⟨s15, e16, h⟩ := vl_e h
  refine pf_2_33 C hh hj0 dX2_start_37 (fun H locs hh => ?_)
  rw [← e16] at hh
  refine lv_aload_n hx hb dX2_start_40 rfl (lv_at hl 0 rfl) ?_
  refine lv_iconst (v := (0 : Int32)) hx hb dX2_start_41 (by decide) ?_
  obtain ⟨s17, e18, h⟩ := vl_e h
  refine pf_2_36 C hh hj0 dX2_start_42 (fun H locs hh => ?_)
  rw [← e18] at hh
  refine lv_aload_n hx hb dX2_start_45 rfl (lv_at hl 0 rfl) ?_
  refine lv_iconst (v := (0 : Int32)) hx hb dX2_start_46 (by decide) ?_
  obtain ⟨s19, e20, h⟩ := vl_e h
  refine pf_2_39 C hh hj0 dX2_start_47 (fun H locs hh => ?_)
  rw [← e20] at hh
  refine lv_aload_n hx hb dX2_start_50 rfl (lv_at hl 0 rfl) ?_
  refine lv_iconst (v := (0 : Int32)) hx hb dX2_start_51 (by decide) ?_
  obtain ⟨s21, e22, h⟩ := vl_e h
  refine pf_2_42 C hh hj0 dX2_start_52 (fun H locs hh => ?_)
  rw [← e22] at hh
  exact r_void C hh h dX2_start_55
abbrev rm_X1_prepare : Room := { frames := 1, cells := 0, slots := 0, locals := 23 }
theorem HD_X1_prepare : yX1_prepare.cls = RX1 ∧ yX1_prepare.cls ≠ "java/lang/invoke/MethodHandle" ∧ yX1_prepare.cls ≠ "java/lang/invoke/VarHandle" ∧ (parseMethodDescriptor yX1_prepare.desc).map (fun d => d.parameters.length) = some 3 := by decide +kernel
def f_X1_prepare (j0 : Nat) (x1 : Int32) (x2 : Int32) (j3 : Nat) (σ : Mem) : Option (Mem) := vl (up σ 107 j0 0 ((σ 107 j0 0) + (1 : Int32))) (fun s1 => vl (up s1 109 j0 0 x2) (fun s3 => bv (f_X2_start j3 (1 : Int32) (s3 107 j0 0) (s3 100 j0 0) s3) (fun s6 => vl (up s6 207 j3 0 x1) (fun s7 => some s7))))
set_option maxHeartbeats 4000000 in
set_option maxRecDepth 100000 in
theorem c_X1_prepare {l : Launch} {D : va_G} {cA : Nat → ClassId} {ad : Nat → Nat → Nat} {A : Nat → Prop} {o : Nat → Int64} (hD0 : ∀ σ, va_D A (wW cA ad σ o)) (j0 : Nat) (hj0 : j0 < 12) (x1 : Int32) (x2 : Int32) (j3 : Nat) (hj3 : j3 < 2) (σ : Mem) {r : Mem} (h : f_X1_prepare j0 x1 x2 j3 σ = some r) : Met l yX1_prepare (wsG yX1_prepare cX1_prepare 4 none) rm_X1_prepare (va_Pc [.ref (ad 199 j0), .int x1, .int x2, .ref (ad 299 j3)] (IW D cA ad o σ)) (Qv D cA ad o A r) 0 0 A := by
  refine metG (by decide) (Nat.le_of_ble_eq_true rfl) hD0 ?_
  intro p e s m args below meth c C ls hh hl
  have C : Cx p s m args meth c cX1_prepare 4 RX1 none D cA ad A o := C
  have hl : lv_has ls 4 [(0, .ref (ad 199 j0)), (1, .int x1), (2, .int x2), (3, .ref (ad 299 j3))] := hl
  obtain ⟨⟨hx, hb, hml, hown, hts⟩, hK, hN, hD, hr, hlocks⟩ := id C
  unfold f_X1_prepare at h
  refine lv_aload_n hx hb dX1_prepare_0 rfl (lv_at hl 0 rfl) ?_
  refine lv_dup hx hb dX1_prepare_1 rfl ?_
  refine gf_1_30 C hh hj0 dX1_prepare_2 ?_
  refine lv_iconst (v := (1 : Int32)) hx hb dX1_prepare_5 (by decide) ?_
  refine lv_iadd hx hb dX1_prepare_6 ?_
  obtain ⟨s1, e2, h⟩ := vl_e h
  refine pf_1_30 C hh hj0 dX1_prepare_7 (fun H locs hh => ?_)
  rw [← e2] at hh
  refine lv_aload_n hx hb dX1_prepare_10 rfl (lv_at hl 0 rfl) ?_
  refine lv_iload_n hx hb dX1_prepare_11 rfl (lv_at hl 2 rfl) ?_
  obtain ⟨s3, e4, h⟩ := vl_e h
  refine pf_1_36 C hh hj0 dX1_prepare_12 (fun H locs hh => ?_)
  rw [← e4] at hh
  refine lv_aload_n hx hb dX1_prepare_15 rfl (lv_at hl 3 rfl) ?_
  refine lv_iconst (v := (1 : Int32)) hx hb dX1_prepare_16 (by decide) ?_
  refine lv_aload_n hx hb dX1_prepare_17 rfl (lv_at hl 0 rfl) ?_
  refine gf_1_30 C hh hj0 dX1_prepare_18 ?_
  refine lv_aload_n hx hb dX1_prepare_21 rfl (lv_at hl 0 rfl) ?_
  refine gf_1_45 C hh hj0 dX1_prepare_22 ?_
  obtain ⟨s6, e5, h⟩ := bv_e h
  refine c_void hh (vrun (rest := []) C hh (c_X2_start C.2.2.2.1 j3 hj3 (1 : Int32) (s3 107 j0 0) (s3 100 j0 0) s3 e5) LM_1_126 IM_X2_start SL_X2_start IN_2 CD_X2_start HD_X2_start ⟨rfl, rfl, Nat.le_of_ble_eq_true rfl, Nat.le_of_ble_eq_true rfl⟩ (rv_2 C hh hj3) rfl hl.1 rfl (Nat.le_of_ble_eq_true rfl) dX1_prepare_25 ⟨Nat.zero_le _, Nat.zero_le _⟩) (fun H locs hh => ?_)
  refine lv_aload_n hx hb dX1_prepare_28 rfl (lv_at hl 3 rfl) ?_
  refine lv_iload_n hx hb dX1_prepare_29 rfl (lv_at hl 1 rfl) ?_
  obtain ⟨s7, e8, h⟩ := vl_e h
  refine pf_1_90 C hh hj3 dX1_prepare_30 (fun H locs hh => ?_)
  rw [← e8] at hh
  exact r_void C hh h dX1_prepare_33
abbrev rm_X1_say : Room := { frames := 2, cells := 0, slots := 0, locals := 46 }
theorem HD_X1_say : yX1_say.cls = RX1 ∧ yX1_say.cls ≠ "java/lang/invoke/MethodHandle" ∧ yX1_say.cls ≠ "java/lang/invoke/VarHandle" ∧ (parseMethodDescriptor yX1_say.desc).map (fun d => d.parameters.length) = some 2 := by decide +kernel
def f_X1_say_97 (j0 : Nat) (σ : Mem) : Option (Int32 × Mem) := (if (σ 101 j0 0) = (4 : Int32) then some ((16 : Int32), σ) else bn (f_X1_broadcastPlace j0 σ) (fun r4 s3 => some (r4, s3)))
set_option maxHeartbeats 4000000 in
set_option maxRecDepth 100000 in
theorem k_X1_say_97 {p : Program} {l : Launch} {e : Env} {s : State} {m : MethodId} {args : Array Value} {below : List Frame} {meth : Method} {c : Code} {D : va_G} {cA : Nat → ClassId} {ad : Nat → Nat → Nat} {A : Nat → Prop} {o : Nat → Int64} (C : Cx p s m args meth c cX1_say 3 RX1 (some .int) D cA ad A o) {r : Int32 × Mem} (j0 : Nat) (hj0 : j0 < 12) (σ : Mem) {H : Heap} {locs : List Loc} (h : f_X1_say_97 j0 σ = some r) (hh : HH D cA ad A o s σ H locs) {ls : Array Slot} (hl : lv_has ls 3 [(0, .ref (ad 199 j0))]) : W p l e rm_X1_say s m args below meth c H locs 0 0 (MQ below (Qi D cA ad o A r) args s 0 0 A) (F0 m 97 ls []) := by
  obtain ⟨⟨hx, hb, hml, hown, hts⟩, hK, hN, hD, hr, hlocks⟩ := id C
  unfold f_X1_say_97 at h
  refine lv_aload_n hx hb dX1_say_97 rfl (lv_at hl 0 rfl) ?_
  refine gf_1_9 C hh hj0 dX1_say_98 ?_
  refine lv_iconst (v := (4 : Int32)) hx hb dX1_say_101 (by decide) ?_
  refine lv_icmp_ne (tgt := 110) hx hb dX1_say_102 (by decide) (fun c1 => ?_) (fun c1 => ?_)
  · rw [if_neg c1] at h
    refine lv_aload_n hx hb dX1_say_110 rfl (lv_at hl 0 rfl) ?_
    obtain ⟨r4, s3, e2, h⟩ := bn_e h
    refine c_int hh (vrun (rest := []) C hh (c_X1_broadcastPlace C.2.2.2.1 j0 hj0 σ e2) LM_1_119 IM_X1_broadcastPlace SL_X1_broadcastPlace IN_1 CD_X1_broadcastPlace HD_X1_broadcastPlace ⟨rfl, rfl, Nat.le_of_ble_eq_true rfl, Nat.le_of_ble_eq_true rfl⟩ (rv_1 C hh hj0) rfl hl.1 rfl (Nat.le_of_ble_eq_true rfl) dX1_say_111 ⟨Nat.zero_le _, Nat.zero_le _⟩) (fun H locs hh => ?_)
    exact r_int C hh h dX1_say_114
  · rw [if_pos c1] at h
    refine lv_bipush (v := (16 : Int32)) hx hb dX1_say_105 (by decide) ?_
    refine lv_goto (tgt := 114) hx hb dX1_say_107 (by decide) ?_
    exact r_int C hh h dX1_say_114
def f_X1_say_14 (j0 : Nat) (x1 : Int32) (j2 : Nat) (xs0 : Int32) (js1 : Nat) (σ : Mem) : Option (Int32 × Mem) := bv (f_X1_prepare js1 xs0 x1 j2 σ) (fun s2 => (if (s2 101 j0 0) = (2 : Int32) then vl (up s2 208 j2 0 (s2 110 j0 0)) (fun s4 => vl (up s4 210 j2 0 (s4 111 j0 0)) (fun s6 => f_X1_say_97 j0 s6)) else if (s2 101 j0 0) = (3 : Int32) then f_X1_say_97 j0 s2 else if (s2 101 j0 0) = (4 : Int32) then vl (up s2 203 j2 0 (s2 103 j0 0)) (fun s10 => f_X1_say_97 j0 s10) else if (s2 101 j0 0) = (5 : Int32) then vl (up s2 203 j2 0 (s2 103 j0 0)) (fun s13 => f_X1_say_97 j0 s13) else if (s2 101 j0 0) = (6 : Int32) then vl (up s2 208 j2 0 (s2 103 j0 0)) (fun s16 => f_X1_say_97 j0 s16) else f_X1_say_97 j0 s2))
set_option maxHeartbeats 4000000 in
set_option maxRecDepth 100000 in
theorem k_X1_say_14 {p : Program} {l : Launch} {e : Env} {s : State} {m : MethodId} {args : Array Value} {below : List Frame} {meth : Method} {c : Code} {D : va_G} {cA : Nat → ClassId} {ad : Nat → Nat → Nat} {A : Nat → Prop} {o : Nat → Int64} (C : Cx p s m args meth c cX1_say 3 RX1 (some .int) D cA ad A o) {r : Int32 × Mem} (j0 : Nat) (hj0 : j0 < 12) (x1 : Int32) (j2 : Nat) (hj2 : j2 < 2) (xs0 : Int32) (js1 : Nat) (hjs1 : js1 < 12) (σ : Mem) {H : Heap} {locs : List Loc} (h : f_X1_say_14 j0 x1 j2 xs0 js1 σ = some r) (hh : HH D cA ad A o s σ H locs) {ls : Array Slot} (hl : lv_has ls 3 [(0, .ref (ad 199 j0)), (1, .int x1), (2, .ref (ad 299 j2))]) : W p l e rm_X1_say s m args below meth c H locs 0 0 (MQ below (Qi D cA ad o A r) args s 0 0 A) (F0 m 14 ls [.int xs0, .ref (ad 199 js1)]) := by
  obtain ⟨⟨hx, hb, hml, hown, hts⟩, hK, hN, hD, hr, hlocks⟩ := id C
  unfold f_X1_say_14 at h
  refine lv_iload_n hx hb dX1_say_14 rfl (lv_at hl 1 rfl) ?_
  refine lv_aload_n hx hb dX1_say_15 rfl (lv_at hl 2 rfl) ?_
  obtain ⟨s2, e1, h⟩ := bv_e h
  refine c_void hh (vrun (rest := []) C hh (c_X1_prepare C.2.2.2.1 js1 hjs1 xs0 x1 j2 hj2 σ e1) LM_1_59 IM_X1_prepare SL_X1_prepare IN_1 CD_X1_prepare HD_X1_prepare ⟨rfl, rfl, Nat.le_of_ble_eq_true rfl, Nat.le_of_ble_eq_true rfl⟩ (rv_1 C hh hjs1) rfl hl.1 rfl (Nat.le_of_ble_eq_true rfl) dX1_say_16 ⟨Nat.zero_le _, Nat.zero_le _⟩) (fun H locs hh => ?_)
  refine lv_aload_n hx hb dX1_say_19 rfl (lv_at hl 0 rfl) ?_
  refine gf_1_9 C hh hj0 dX1_say_20 ?_
  by_cases c3 : (s2 101 j0 0) = (2 : Int32)
  · rw [if_pos c3] at h
    refine lv_tableIn (tgt := 56) hx hb dX1_say_23 (by rw [c3]; decide) (by rw [c3]; decide) (by rw [c3]; rfl) (by decide) ?_
    refine lv_aload_n hx hb dX1_say_56 rfl (lv_at hl 2 rfl) ?_
    refine lv_aload_n hx hb dX1_say_57 rfl (lv_at hl 0 rfl) ?_
    refine gf_1_39 C hh hj0 dX1_say_58 ?_
    obtain ⟨s4, e5, h⟩ := vl_e h
    refine pf_1_116 C hh hj2 dX1_say_61 (fun H locs hh => ?_)
    rw [← e5] at hh
    refine lv_aload_n hx hb dX1_say_64 rfl (lv_at hl 2 rfl) ?_
    refine lv_aload_n hx hb dX1_say_65 rfl (lv_at hl 0 rfl) ?_
    refine gf_1_42 C hh hj0 dX1_say_66 ?_
    obtain ⟨s6, e7, h⟩ := vl_e h
    refine pf_1_104 C hh hj2 dX1_say_69 (fun H locs hh => ?_)
    rw [← e7] at hh
    refine lv_goto (tgt := 97) hx hb dX1_say_72 (by decide) ?_
    exact k_X1_say_97 C j0 hj0 s6 h hh (lv_sub hl [0] rfl)
  · rw [if_neg c3] at h
    by_cases c8 : (s2 101 j0 0) = (3 : Int32)
    · rw [if_pos c8] at h
      refine lv_tableIn (tgt := 97) hx hb dX1_say_23 (by rw [c8]; decide) (by rw [c8]; decide) (by rw [c8]; rfl) (by decide) ?_
      exact k_X1_say_97 C j0 hj0 s2 h hh (lv_sub hl [0] rfl)
    · rw [if_neg c8] at h
      by_cases c9 : (s2 101 j0 0) = (4 : Int32)
      · rw [if_pos c9] at h
        refine lv_tableIn (tgt := 86) hx hb dX1_say_23 (by rw [c9]; decide) (by rw [c9]; decide) (by rw [c9]; rfl) (by decide) ?_
        refine lv_aload_n hx hb dX1_say_86 rfl (lv_at hl 2 rfl) ?_
        refine lv_aload_n hx hb dX1_say_87 rfl (lv_at hl 0 rfl) ?_
        refine gf_1_18 C hh hj0 dX1_say_88 ?_
        obtain ⟨s10, e11, h⟩ := vl_e h
        refine pf_1_63 C hh hj2 dX1_say_91 (fun H locs hh => ?_)
        rw [← e11] at hh
        refine lv_goto (tgt := 97) hx hb dX1_say_94 (by decide) ?_
        exact k_X1_say_97 C j0 hj0 s10 h hh (lv_sub hl [0] rfl)
      · rw [if_neg c9] at h
        by_cases c12 : (s2 101 j0 0) = (5 : Int32)
        · rw [if_pos c12] at h
          refine lv_tableIn (tgt := 86) hx hb dX1_say_23 (by rw [c12]; decide) (by rw [c12]; decide) (by rw [c12]; rfl) (by decide) ?_
          refine lv_aload_n hx hb dX1_say_86 rfl (lv_at hl 2 rfl) ?_
          refine lv_aload_n hx hb dX1_say_87 rfl (lv_at hl 0 rfl) ?_
          refine gf_1_18 C hh hj0 dX1_say_88 ?_
          obtain ⟨s13, e14, h⟩ := vl_e h
          refine pf_1_63 C hh hj2 dX1_say_91 (fun H locs hh => ?_)
          rw [← e14] at hh
          refine lv_goto (tgt := 97) hx hb dX1_say_94 (by decide) ?_
          exact k_X1_say_97 C j0 hj0 s13 h hh (lv_sub hl [0] rfl)
        · rw [if_neg c12] at h
          by_cases c15 : (s2 101 j0 0) = (6 : Int32)
          · rw [if_pos c15] at h
            refine lv_tableIn (tgt := 75) hx hb dX1_say_23 (by rw [c15]; decide) (by rw [c15]; decide) (by rw [c15]; rfl) (by decide) ?_
            refine lv_aload_n hx hb dX1_say_75 rfl (lv_at hl 2 rfl) ?_
            refine lv_aload_n hx hb dX1_say_76 rfl (lv_at hl 0 rfl) ?_
            refine gf_1_18 C hh hj0 dX1_say_77 ?_
            obtain ⟨s16, e17, h⟩ := vl_e h
            refine pf_1_116 C hh hj2 dX1_say_80 (fun H locs hh => ?_)
            rw [← e17] at hh
            refine lv_goto (tgt := 97) hx hb dX1_say_83 (by decide) ?_
            exact k_X1_say_97 C j0 hj0 s16 h hh (lv_sub hl [0] rfl)
          · rw [if_neg c15] at h
            have nc3 := ntI c3 (n := 2) (by decide)
            have nc8 := ntI c8 (n := 3) (by decide)
            have nc9 := ntI c9 (n := 4) (by decide)
            have nc12 := ntI c12 (n := 5) (by decide)
            have nc15 := ntI c15 (n := 6) (by decide)
            refine lv_tableOut (tgt := 97) hx hb dX1_say_23 (by omega) (by decide) ?_
            exact k_X1_say_97 C j0 hj0 s2 h hh (lv_sub hl [0] rfl)
def f_X1_say (j0 : Nat) (x1 : Int32) (j2 : Nat) (σ : Mem) : Option (Int32 × Mem) := (if (σ 101 j0 0) = (1 : Int32) then f_X1_say_14 j0 x1 j2 (1 : Int32) j0 σ else f_X1_say_14 j0 x1 j2 (3 : Int32) j0 σ)
set_option maxHeartbeats 4000000 in
set_option maxRecDepth 100000 in
theorem c_X1_say {l : Launch} {D : va_G} {cA : Nat → ClassId} {ad : Nat → Nat → Nat} {A : Nat → Prop} {o : Nat → Int64} (hD0 : ∀ σ, va_D A (wW cA ad σ o)) (j0 : Nat) (hj0 : j0 < 12) (x1 : Int32) (j2 : Nat) (hj2 : j2 < 2) (σ : Mem) {r : Int32 × Mem} (h : f_X1_say j0 x1 j2 σ = some r) : Met l yX1_say (wsG yX1_say cX1_say 3 (some .int)) rm_X1_say (va_Pc [.ref (ad 199 j0), .int x1, .ref (ad 299 j2)] (IW D cA ad o σ)) (Qi D cA ad o A r) 0 0 A := by
  refine metG (by decide) (Nat.le_of_ble_eq_true rfl) hD0 ?_
  intro p e s m args below meth c C ls hh hl
  have C : Cx p s m args meth c cX1_say 3 RX1 (some .int) D cA ad A o := C
  have hl : lv_has ls 3 [(0, .ref (ad 199 j0)), (1, .int x1), (2, .ref (ad 299 j2))] := hl
  obtain ⟨⟨hx, hb, hml, hown, hts⟩, hK, hN, hD, hr, hlocks⟩ := id C
  unfold f_X1_say at h
  refine lv_aload_n hx hb dX1_say_0 rfl (lv_at hl 0 rfl) ?_
  refine lv_aload_n hx hb dX1_say_1 rfl (lv_at hl 0 rfl) ?_
  refine gf_1_9 C hh hj0 dX1_say_2 ?_
  refine lv_iconst (v := (1 : Int32)) hx hb dX1_say_5 (by decide) ?_
  refine lv_icmp_ne (tgt := 13) hx hb dX1_say_6 (by decide) (fun c1 => ?_) (fun c1 => ?_)
  · rw [if_neg c1] at h
    refine lv_iconst (v := (3 : Int32)) hx hb dX1_say_13 (by decide) ?_
    exact k_X1_say_14 C j0 hj0 x1 j2 hj2 (3 : Int32) j0 hj0 σ h hh (lv_sub hl [0, 1, 2] rfl)
  · rw [if_pos c1] at h
    refine lv_iconst (v := (1 : Int32)) hx hb dX1_say_9 (by decide) ?_
    refine lv_goto (tgt := 14) hx hb dX1_say_10 (by decide) ?_
    exact k_X1_say_14 C j0 hj0 x1 j2 hj2 (1 : Int32) j0 hj0 σ h hh (lv_sub hl [0, 1, 2] rfl)
abbrev rm_X1_begin : Room := { frames := 3, cells := 0, slots := 0, locals := 68 }
theorem HD_X1_begin : yX1_begin.cls = RX1 ∧ yX1_begin.cls ≠ "java/lang/invoke/MethodHandle" ∧ yX1_begin.cls ≠ "java/lang/invoke/VarHandle" ∧ (parseMethodDescriptor yX1_begin.desc).map (fun d => d.parameters.length) = some 2 := by decide +kernel
def f_X1_begin (j0 : Nat) (x1 : Int32) (j2 : Nat) (σ : Mem) : Option (Int32 × Mem) := bv (f_X1_forget j0 σ) (fun s2 => vl (up s2 101 j0 0 (1 : Int32)) (fun s3 => vl (up s3 108 j0 0 (1 : Int32)) (fun s5 => bn (f_X1_say j0 x1 j2 s5) (fun r9 s8 => some (r9, s8)))))
set_option maxHeartbeats 4000000 in
set_option maxRecDepth 100000 in
theorem c_X1_begin {l : Launch} {D : va_G} {cA : Nat → ClassId} {ad : Nat → Nat → Nat} {A : Nat → Prop} {o : Nat → Int64} (hD0 : ∀ σ, va_D A (wW cA ad σ o)) (j0 : Nat) (hj0 : j0 < 12) (x1 : Int32) (j2 : Nat) (hj2 : j2 < 2) (σ : Mem) {r : Int32 × Mem} (h : f_X1_begin j0 x1 j2 σ = some r) : Met l yX1_begin (wsG yX1_begin cX1_begin 3 (some .int)) rm_X1_begin (va_Pc [.ref (ad 199 j0), .int x1, .ref (ad 299 j2)] (IW D cA ad o σ)) (Qi D cA ad o A r) 0 0 A := by
  refine metG (by decide) (Nat.le_of_ble_eq_true rfl) hD0 ?_
  intro p e s m args below meth c C ls hh hl
  have C : Cx p s m args meth c cX1_begin 3 RX1 (some .int) D cA ad A o := C
  have hl : lv_has ls 3 [(0, .ref (ad 199 j0)), (1, .int x1), (2, .ref (ad 299 j2))] := hl
  obtain ⟨⟨hx, hb, hml, hown, hts⟩, hK, hN, hD, hr, hlocks⟩ := id C
  unfold f_X1_begin at h
  refine lv_aload_n hx hb dX1_begin_0 rfl (lv_at hl 0 rfl) ?_
  obtain ⟨s2, e1, h⟩ := bv_e h
  refine c_void hh (vrun (rest := []) C hh (c_X1_forget C.2.2.2.1 j0 hj0 σ e1) LM_1_68 IM_X1_forget SL_X1_forget IN_1 CD_X1_forget HD_X1_forget ⟨rfl, rfl, Nat.le_of_ble_eq_true rfl, Nat.le_of_ble_eq_true rfl⟩ (rv_1 C hh hj0) rfl hl.1 rfl (Nat.le_of_ble_eq_true rfl) dX1_begin_1 ⟨Nat.zero_le _, Nat.zero_le _⟩) (fun H locs hh => ?_)
  refine lv_aload_n hx hb dX1_begin_4 rfl (lv_at hl 0 rfl) ?_
  refine lv_iconst (v := (1 : Int32)) hx hb dX1_begin_5 (by decide) ?_
  obtain ⟨s3, e4, h⟩ := vl_e h
  refine pf_1_9 C hh hj0 dX1_begin_6 (fun H locs hh => ?_)
  rw [← e4] at hh
  refine lv_aload_n hx hb dX1_begin_9 rfl (lv_at hl 0 rfl) ?_
  refine lv_iconst (v := (1 : Int32)) hx hb dX1_begin_10 (by decide) ?_
  obtain ⟨s5, e6, h⟩ := vl_e h
  refine pf_1_33 C hh hj0 dX1_begin_11 (fun H locs hh => ?_)
  rw [← e6] at hh
  refine lv_aload_n hx hb dX1_begin_14 rfl (lv_at hl 0 rfl) ?_
  refine lv_iload_n hx hb dX1_begin_15 rfl (lv_at hl 1 rfl) ?_
  refine lv_aload_n hx hb dX1_begin_16 rfl (lv_at hl 2 rfl) ?_
  obtain ⟨r9, s8, e7, h⟩ := bn_e h
  refine c_int hh (vrun (rest := []) C hh (c_X1_say C.2.2.2.1 j0 hj0 x1 j2 hj2 s5 e7) LM_1_52 IM_X1_say SL_X1_say IN_1 CD_X1_say HD_X1_say ⟨rfl, rfl, Nat.le_of_ble_eq_true rfl, Nat.le_of_ble_eq_true rfl⟩ (rv_1 C hh hj0) rfl hl.1 rfl (Nat.le_of_ble_eq_true rfl) dX1_begin_17 ⟨Nat.zero_le _, Nat.zero_le _⟩) (fun H locs hh => ?_)
  exact r_int C hh h dX1_begin_20
abbrev rm_X1_sayHalfway : Room := { frames := 3, cells := 0, slots := 0, locals := 68 }
theorem HD_X1_sayHalfway : yX1_sayHalfway.cls = RX1 ∧ yX1_sayHalfway.cls ≠ "java/lang/invoke/MethodHandle" ∧ yX1_sayHalfway.cls ≠ "java/lang/invoke/VarHandle" ∧ (parseMethodDescriptor yX1_sayHalfway.desc).map (fun d => d.parameters.length) = some 3 := by decide +kernel
def f_X1_sayHalfway (j0 : Nat) (x1 : Int32) (x2 : Int32) (j3 : Nat) (σ : Mem) : Option (Int32 × Mem) := vl ((if (((x1 - (σ 109 j0 0)) + (1 : Int32)) / (2 : Int32)) < (2 : Int32) then (2 : Int32) else (((x1 - (σ 109 j0 0)) + (1 : Int32)) / (2 : Int32)))) (fun v1 => (if (x2 - (σ 109 j0 0)) < v1 then some ((-1 : Int32), σ) else bn (f_X1_say j0 x2 j3 σ) (fun r6 s5 => some (r6, s5))))
set_option maxHeartbeats 4000000 in
set_option maxRecDepth 100000 in
theorem c_X1_sayHalfway {l : Launch} {D : va_G} {cA : Nat → ClassId} {ad : Nat → Nat → Nat} {A : Nat → Prop} {o : Nat → Int64} (hD0 : ∀ σ, va_D A (wW cA ad σ o)) (j0 : Nat) (hj0 : j0 < 12) (x1 : Int32) (x2 : Int32) (j3 : Nat) (hj3 : j3 < 2) (σ : Mem) {r : Int32 × Mem} (h : f_X1_sayHalfway j0 x1 x2 j3 σ = some r) : Met l yX1_sayHalfway (wsG yX1_sayHalfway cX1_sayHalfway 5 (some .int)) rm_X1_sayHalfway (va_Pc [.ref (ad 199 j0), .int x1, .int x2, .ref (ad 299 j3)] (IW D cA ad o σ)) (Qi D cA ad o A r) 0 0 A := by
  refine metG (by decide) (Nat.le_of_ble_eq_true rfl) hD0 ?_
  intro p e s m args below meth c C ls hh hl
  have C : Cx p s m args meth c cX1_sayHalfway 5 RX1 (some .int) D cA ad A o := C
  have hl : lv_has ls 5 [(0, .ref (ad 199 j0)), (1, .int x1), (2, .int x2), (3, .ref (ad 299 j3))] := hl
  obtain ⟨⟨hx, hb, hml, hown, hts⟩, hK, hN, hD, hr, hlocks⟩ := id C
  unfold f_X1_sayHalfway at h
  refine lv_iload_n hx hb dX1_sayHalfway_0 rfl (lv_at hl 1 rfl) ?_
  refine lv_aload_n hx hb dX1_sayHalfway_1 rfl (lv_at hl 0 rfl) ?_
  refine gf_1_36 C hh hj0 dX1_sayHalfway_2 ?_
  refine lv_isub hx hb dX1_sayHalfway_5 ?_
  refine lv_iconst (v := (1 : Int32)) hx hb dX1_sayHalfway_6 (by decide) ?_
  refine lv_iadd hx hb dX1_sayHalfway_7 ?_
  refine lv_iconst (v := (2 : Int32)) hx hb dX1_sayHalfway_8 (by decide) ?_
  refine lv_idiv hx hb dX1_sayHalfway_9 (by decide) ?_
  refine lv_iconst (v := (2 : Int32)) hx hb dX1_sayHalfway_10 (by decide) ?_
  refine va_mmax hx hb (hml.trans hl.1.symm) hown (hts _ LX_1_123) (hts _ MX_static_max) (hts _ MX_init) (hts _ MX_code_max) (Nat.le_of_ble_eq_true rfl) (Nat.le_of_ble_eq_true rfl) (Nat.zero_le _) (Nat.zero_le _) dX1_sayHalfway_11 ?_
  obtain ⟨v1, e2, h⟩ := vl_e h
  refine lv_nm e2 ?_
  refine lv_istore (lv' := [(4, .int v1), (0, .ref (ad 199 j0)), (1, .int x1), (2, .int x2), (3, .ref (ad 299 j3))]) hx hb dX1_sayHalfway_14 hl (by decide) rfl (fun ls hl => ?_)
  refine lv_iload_n hx hb dX1_sayHalfway_16 rfl (lv_at hl 3 rfl) ?_
  refine lv_aload_n hx hb dX1_sayHalfway_17 rfl (lv_at hl 1 rfl) ?_
  refine gf_1_36 C hh hj0 dX1_sayHalfway_18 ?_
  refine lv_isub hx hb dX1_sayHalfway_21 ?_
  refine lv_iload hx hb dX1_sayHalfway_22 (lv_at hl 0 rfl) ?_
  refine lv_icmp_lt (tgt := 36) hx hb dX1_sayHalfway_24 (by decide) (fun c3 => ?_) (fun c3 => ?_)
  · rw [if_pos c3] at h
    refine lv_iconst (v := (-1 : Int32)) hx hb dX1_sayHalfway_36 (by decide) ?_
    exact r_int C hh h dX1_sayHalfway_37
  · rw [if_neg c3] at h
    refine lv_aload_n hx hb dX1_sayHalfway_27 rfl (lv_at hl 1 rfl) ?_
    refine lv_iload_n hx hb dX1_sayHalfway_28 rfl (lv_at hl 3 rfl) ?_
    refine lv_aload_n hx hb dX1_sayHalfway_29 rfl (lv_at hl 4 rfl) ?_
    obtain ⟨r6, s5, e4, h⟩ := bn_e h
    refine c_int hh (vrun (rest := []) C hh (c_X1_say C.2.2.2.1 j0 hj0 x2 j3 hj3 σ e4) LM_1_52 IM_X1_say SL_X1_say IN_1 CD_X1_say HD_X1_say ⟨rfl, rfl, Nat.le_of_ble_eq_true rfl, Nat.le_of_ble_eq_true rfl⟩ (rv_1 C hh hj0) rfl hl.1 rfl (Nat.le_of_ble_eq_true rfl) dX1_sayHalfway_30 ⟨Nat.zero_le _, Nat.zero_le _⟩) (fun H locs hh => ?_)
    refine lv_goto (tgt := 37) hx hb dX1_sayHalfway_33 (by decide) ?_
    exact r_int C hh h dX1_sayHalfway_37
abbrev rm_X1_tryNext : Room := { frames := 4, cells := 0, slots := 0, locals := 90 }
theorem HD_X1_tryNext : yX1_tryNext.cls = RX1 ∧ yX1_tryNext.cls ≠ "java/lang/invoke/MethodHandle" ∧ yX1_tryNext.cls ≠ "java/lang/invoke/VarHandle" ∧ (parseMethodDescriptor yX1_tryNext.desc).map (fun d => d.parameters.length) = some 2 := by decide +kernel
def f_X1_tryNext_66 (j0 : Nat) (x1 : Int32) (j2 : Nat) (σ : Mem) : Option (Int32 × Mem) := vl (up σ 108 j0 0 (if (3 : Int32) < ((σ 108 j0 0) + (1 : Int32)) then (3 : Int32) else ((σ 108 j0 0) + (1 : Int32)))) (fun s1 => bn (f_X1_say j0 x1 j2 s1) (fun r5 s4 => some (r5, s4)))
set_option maxHeartbeats 4000000 in
set_option maxRecDepth 100000 in
theorem k_X1_tryNext_66 {p : Program} {l : Launch} {e : Env} {s : State} {m : MethodId} {args : Array Value} {below : List Frame} {meth : Method} {c : Code} {D : va_G} {cA : Nat → ClassId} {ad : Nat → Nat → Nat} {A : Nat → Prop} {o : Nat → Int64} (C : Cx p s m args meth c cX1_tryNext 4 RX1 (some .int) D cA ad A o) {r : Int32 × Mem} (j0 : Nat) (hj0 : j0 < 12) (x1 : Int32) (j2 : Nat) (hj2 : j2 < 2) (σ : Mem) {H : Heap} {locs : List Loc} (h : f_X1_tryNext_66 j0 x1 j2 σ = some r) (hh : HH D cA ad A o s σ H locs) {ls : Array Slot} (hl : lv_has ls 4 [(0, .ref (ad 199 j0)), (1, .int x1), (2, .ref (ad 299 j2))]) : W p l e rm_X1_tryNext s m args below meth c H locs 0 0 (MQ below (Qi D cA ad o A r) args s 0 0 A) (F0 m 66 ls []) := by
  obtain ⟨⟨hx, hb, hml, hown, hts⟩, hK, hN, hD, hr, hlocks⟩ := id C
  unfold f_X1_tryNext_66 at h
  refine lv_aload_n hx hb dX1_tryNext_66 rfl (lv_at hl 0 rfl) ?_
  refine lv_aload_n hx hb dX1_tryNext_67 rfl (lv_at hl 0 rfl) ?_
  refine gf_1_33 C hh hj0 dX1_tryNext_68 ?_
  refine lv_iconst (v := (1 : Int32)) hx hb dX1_tryNext_71 (by decide) ?_
  refine lv_iadd hx hb dX1_tryNext_72 ?_
  refine lv_iconst (v := (3 : Int32)) hx hb dX1_tryNext_73 (by decide) ?_
  refine va_mmin hx hb (hml.trans hl.1.symm) hown (hts _ LX_1_110) (hts _ MX_static_min) (hts _ MX_init) (hts _ MX_code_min) (Nat.le_of_ble_eq_true rfl) (Nat.le_of_ble_eq_true rfl) (Nat.zero_le _) (Nat.zero_le _) dX1_tryNext_74 ?_
  obtain ⟨s1, e2, h⟩ := vl_e h
  refine pf_1_33 C hh hj0 dX1_tryNext_77 (fun H locs hh => ?_)
  rw [← e2] at hh
  refine lv_aload_n hx hb dX1_tryNext_80 rfl (lv_at hl 0 rfl) ?_
  refine lv_iload_n hx hb dX1_tryNext_81 rfl (lv_at hl 1 rfl) ?_
  refine lv_aload_n hx hb dX1_tryNext_82 rfl (lv_at hl 2 rfl) ?_
  obtain ⟨r5, s4, e3, h⟩ := bn_e h
  refine c_int hh (vrun (rest := []) C hh (c_X1_say C.2.2.2.1 j0 hj0 x1 j2 hj2 s1 e3) LM_1_52 IM_X1_say SL_X1_say IN_1 CD_X1_say HD_X1_say ⟨rfl, rfl, Nat.le_of_ble_eq_true rfl, Nat.le_of_ble_eq_true rfl⟩ (rv_1 C hh hj0) rfl hl.1 rfl (Nat.le_of_ble_eq_true rfl) dX1_tryNext_83 ⟨Nat.zero_le _, Nat.zero_le _⟩) (fun H locs hh => ?_)
  exact r_int C hh h dX1_tryNext_86
def f_X1_tryNext_42 (j0 : Nat) (x1 : Int32) (j2 : Nat) (σ : Mem) : Option (Int32 × Mem) := (if (σ 108 j0 0) < (3 : Int32) then f_X1_tryNext_66 j0 x1 j2 σ else (if (σ 101 j0 0) = (6 : Int32) then vl (up σ 101 j0 0 (3 : Int32)) (fun s3 => some ((-1 : Int32), s3)) else f_X1_tryNext_66 j0 x1 j2 σ))
set_option maxHeartbeats 4000000 in
set_option maxRecDepth 100000 in
theorem k_X1_tryNext_42 {p : Program} {l : Launch} {e : Env} {s : State} {m : MethodId} {args : Array Value} {below : List Frame} {meth : Method} {c : Code} {D : va_G} {cA : Nat → ClassId} {ad : Nat → Nat → Nat} {A : Nat → Prop} {o : Nat → Int64} (C : Cx p s m args meth c cX1_tryNext 4 RX1 (some .int) D cA ad A o) {r : Int32 × Mem} (j0 : Nat) (hj0 : j0 < 12) (x1 : Int32) (j2 : Nat) (hj2 : j2 < 2) (σ : Mem) {H : Heap} {locs : List Loc} (h : f_X1_tryNext_42 j0 x1 j2 σ = some r) (hh : HH D cA ad A o s σ H locs) {ls : Array Slot} (hl : lv_has ls 4 [(0, .ref (ad 199 j0)), (1, .int x1), (2, .ref (ad 299 j2))]) : W p l e rm_X1_tryNext s m args below meth c H locs 0 0 (MQ below (Qi D cA ad o A r) args s 0 0 A) (F0 m 42 ls []) := by
  obtain ⟨⟨hx, hb, hml, hown, hts⟩, hK, hN, hD, hr, hlocks⟩ := id C
  unfold f_X1_tryNext_42 at h
  refine lv_aload_n hx hb dX1_tryNext_42 rfl (lv_at hl 0 rfl) ?_
  refine gf_1_33 C hh hj0 dX1_tryNext_43 ?_
  refine lv_iconst (v := (3 : Int32)) hx hb dX1_tryNext_46 (by decide) ?_
  refine lv_icmp_lt (tgt := 66) hx hb dX1_tryNext_47 (by decide) (fun c1 => ?_) (fun c1 => ?_)
  · rw [if_pos c1] at h
    exact k_X1_tryNext_66 C j0 hj0 x1 j2 hj2 σ h hh (lv_sub hl [0, 1, 2] rfl)
  · rw [if_neg c1] at h
    refine lv_aload_n hx hb dX1_tryNext_50 rfl (lv_at hl 0 rfl) ?_
    refine gf_1_9 C hh hj0 dX1_tryNext_51 ?_
    refine lv_bipush (v := (6 : Int32)) hx hb dX1_tryNext_54 (by decide) ?_
    refine lv_icmp_ne (tgt := 66) hx hb dX1_tryNext_56 (by decide) (fun c2 => ?_) (fun c2 => ?_)
    · rw [if_neg c2] at h
      exact k_X1_tryNext_66 C j0 hj0 x1 j2 hj2 σ h hh (lv_sub hl [0, 1, 2] rfl)
    · rw [if_pos c2] at h
      refine lv_aload_n hx hb dX1_tryNext_59 rfl (lv_at hl 0 rfl) ?_
      refine lv_iconst (v := (3 : Int32)) hx hb dX1_tryNext_60 (by decide) ?_
      obtain ⟨s3, e4, h⟩ := vl_e h
      refine pf_1_9 C hh hj0 dX1_tryNext_61 (fun H locs hh => ?_)
      rw [← e4] at hh
      refine lv_iconst (v := (-1 : Int32)) hx hb dX1_tryNext_64 (by decide) ?_
      exact r_int C hh h dX1_tryNext_65
def f_X1_tryNext (j0 : Nat) (x1 : Int32) (j2 : Nat) (σ : Mem) : Option (Int32 × Mem) := vl (((2 : Int32) <<< ((σ 108 j0 0) &&& 31))) (fun v1 => (if v1 ≤ (x1 - (σ 109 j0 0)) then (if (σ 108 j0 0) < (3 : Int32) then f_X1_tryNext_42 j0 x1 j2 σ else (if (σ 101 j0 0) = (2 : Int32) then bn (f_X1_begin j0 x1 j2 σ) (fun r8 s7 => some (r8, s7)) else f_X1_tryNext_42 j0 x1 j2 σ)) else some ((-1 : Int32), σ)))
set_option maxHeartbeats 4000000 in
set_option maxRecDepth 100000 in
theorem c_X1_tryNext {l : Launch} {D : va_G} {cA : Nat → ClassId} {ad : Nat → Nat → Nat} {A : Nat → Prop} {o : Nat → Int64} (hD0 : ∀ σ, va_D A (wW cA ad σ o)) (j0 : Nat) (hj0 : j0 < 12) (x1 : Int32) (j2 : Nat) (hj2 : j2 < 2) (σ : Mem) {r : Int32 × Mem} (h : f_X1_tryNext j0 x1 j2 σ = some r) : Met l yX1_tryNext (wsG yX1_tryNext cX1_tryNext 4 (some .int)) rm_X1_tryNext (va_Pc [.ref (ad 199 j0), .int x1, .ref (ad 299 j2)] (IW D cA ad o σ)) (Qi D cA ad o A r) 0 0 A := by
  refine metG (by decide) (Nat.le_of_ble_eq_true rfl) hD0 ?_
  intro p e s m args below meth c C ls hh hl
  have C : Cx p s m args meth c cX1_tryNext 4 RX1 (some .int) D cA ad A o := C
  have hl : lv_has ls 4 [(0, .ref (ad 199 j0)), (1, .int x1), (2, .ref (ad 299 j2))] := hl
  obtain ⟨⟨hx, hb, hml, hown, hts⟩, hK, hN, hD, hr, hlocks⟩ := id C
  unfold f_X1_tryNext at h
  refine lv_iconst (v := (2 : Int32)) hx hb dX1_tryNext_0 (by decide) ?_
  refine lv_aload_n hx hb dX1_tryNext_1 rfl (lv_at hl 0 rfl) ?_
  refine gf_1_33 C hh hj0 dX1_tryNext_2 ?_
  refine lv_ishl hx hb dX1_tryNext_5 ?_
  obtain ⟨v1, e2, h⟩ := vl_e h
  refine lv_nm e2 ?_
  refine lv_istore_n (lv' := [(3, .int v1), (0, .ref (ad 199 j0)), (1, .int x1), (2, .ref (ad 299 j2))]) hx hb dX1_tryNext_6 rfl hl (by decide) rfl (fun ls hl => ?_)
  refine lv_iload_n hx hb dX1_tryNext_7 rfl (lv_at hl 2 rfl) ?_
  refine lv_aload_n hx hb dX1_tryNext_8 rfl (lv_at hl 1 rfl) ?_
  refine gf_1_36 C hh hj0 dX1_tryNext_9 ?_
  refine lv_isub hx hb dX1_tryNext_12 ?_
  refine lv_iload_n hx hb dX1_tryNext_13 rfl (lv_at hl 0 rfl) ?_
  refine lv_icmp_ge (tgt := 19) hx hb dX1_tryNext_14 (by decide) (fun c3 => ?_) (fun c3 => ?_)
  · rw [if_pos c3] at h
    refine lv_aload_n hx hb dX1_tryNext_19 rfl (lv_at hl 1 rfl) ?_
    refine gf_1_33 C hh hj0 dX1_tryNext_20 ?_
    refine lv_iconst (v := (3 : Int32)) hx hb dX1_tryNext_23 (by decide) ?_
    refine lv_icmp_lt (tgt := 42) hx hb dX1_tryNext_24 (by decide) (fun c4 => ?_) (fun c4 => ?_)
    · rw [if_pos c4] at h
      exact k_X1_tryNext_42 C j0 hj0 x1 j2 hj2 σ h hh (lv_sub hl [1, 2, 3] rfl)
    · rw [if_neg c4] at h
      refine lv_aload_n hx hb dX1_tryNext_27 rfl (lv_at hl 1 rfl) ?_
      refine gf_1_9 C hh hj0 dX1_tryNext_28 ?_
      refine lv_iconst (v := (2 : Int32)) hx hb dX1_tryNext_31 (by decide) ?_
      refine lv_icmp_ne (tgt := 42) hx hb dX1_tryNext_32 (by decide) (fun c5 => ?_) (fun c5 => ?_)
      · rw [if_neg c5] at h
        exact k_X1_tryNext_42 C j0 hj0 x1 j2 hj2 σ h hh (lv_sub hl [1, 2, 3] rfl)
      · rw [if_pos c5] at h
        refine lv_aload_n hx hb dX1_tryNext_35 rfl (lv_at hl 1 rfl) ?_
        refine lv_iload_n hx hb dX1_tryNext_36 rfl (lv_at hl 2 rfl) ?_
        refine lv_aload_n hx hb dX1_tryNext_37 rfl (lv_at hl 3 rfl) ?_
        obtain ⟨r8, s7, e6, h⟩ := bn_e h
        refine c_int hh (vrun (rest := []) C hh (c_X1_begin C.2.2.2.1 j0 hj0 x1 j2 hj2 σ e6) LM_1_48 IM_X1_begin SL_X1_begin IN_1 CD_X1_begin HD_X1_begin ⟨rfl, rfl, Nat.le_of_ble_eq_true rfl, Nat.le_of_ble_eq_true rfl⟩ (rv_1 C hh hj0) rfl hl.1 rfl (Nat.le_of_ble_eq_true rfl) dX1_tryNext_38 ⟨Nat.zero_le _, Nat.zero_le _⟩) (fun H locs hh => ?_)
        exact r_int C hh h dX1_tryNext_41
  · rw [if_neg c3] at h
    refine lv_iconst (v := (-1 : Int32)) hx hb dX1_tryNext_17 (by decide) ?_
    exact r_int C hh h dX1_tryNext_18
abbrev rm_X1_turn : Room := { frames := 3, cells := 0, slots := 0, locals := 68 }
theorem HD_X1_turn : yX1_turn.cls = RX1 ∧ yX1_turn.cls ≠ "java/lang/invoke/MethodHandle" ∧ yX1_turn.cls ≠ "java/lang/invoke/VarHandle" ∧ (parseMethodDescriptor yX1_turn.desc).map (fun d => d.parameters.length) = some 3 := by decide +kernel
def f_X1_turn (j0 : Nat) (x1 : Int32) (x2 : Int32) (j3 : Nat) (σ : Mem) : Option (Int32 × Mem) := vl (up σ 101 j0 0 x1) (fun s1 => bn (f_X1_say j0 x2 j3 s1) (fun r5 s4 => some (r5, s4)))
set_option maxHeartbeats 4000000 in
set_option maxRecDepth 100000 in
theorem c_X1_turn {l : Launch} {D : va_G} {cA : Nat → ClassId} {ad : Nat → Nat → Nat} {A : Nat → Prop} {o : Nat → Int64} (hD0 : ∀ σ, va_D A (wW cA ad σ o)) (j0 : Nat) (hj0 : j0 < 12) (x1 : Int32) (x2 : Int32) (j3 : Nat) (hj3 : j3 < 2) (σ : Mem) {r : Int32 × Mem} (h : f_X1_turn j0 x1 x2 j3 σ = some r) : Met l yX1_turn (wsG yX1_turn cX1_turn 4 (some .int)) rm_X1_turn (va_Pc [.ref (ad 199 j0), .int x1, .int x2, .ref (ad 299 j3)] (IW D cA ad o σ)) (Qi D cA ad o A r) 0 0 A := by
  refine metG (by decide) (Nat.le_of_ble_eq_true rfl) hD0 ?_
  intro p e s m args below meth c C ls hh hl
  have C : Cx p s m args meth c cX1_turn 4 RX1 (some .int) D cA ad A o := C
  have hl : lv_has ls 4 [(0, .ref (ad 199 j0)), (1, .int x1), (2, .int x2), (3, .ref (ad 299 j3))] := hl
  obtain ⟨⟨hx, hb, hml, hown, hts⟩, hK, hN, hD, hr, hlocks⟩ := id C
  unfold f_X1_turn at h
  refine lv_aload_n hx hb dX1_turn_0 rfl (lv_at hl 0 rfl) ?_
  refine lv_iload_n hx hb dX1_turn_1 rfl (lv_at hl 1 rfl) ?_
  obtain ⟨s1, e2, h⟩ := vl_e h
  refine pf_1_9 C hh hj0 dX1_turn_2 (fun H locs hh => ?_)
  rw [← e2] at hh
  refine lv_aload_n hx hb dX1_turn_5 rfl (lv_at hl 0 rfl) ?_
  refine lv_iload_n hx hb dX1_turn_6 rfl (lv_at hl 2 rfl) ?_
  refine lv_aload_n hx hb dX1_turn_7 rfl (lv_at hl 3 rfl) ?_
  obtain ⟨r5, s4, e3, h⟩ := bn_e h
  refine c_int hh (vrun (rest := []) C hh (c_X1_say C.2.2.2.1 j0 hj0 x2 j3 hj3 s1 e3) LM_1_52 IM_X1_say SL_X1_say IN_1 CD_X1_say HD_X1_say ⟨rfl, rfl, Nat.le_of_ble_eq_true rfl, Nat.le_of_ble_eq_true rfl⟩ (rv_1 C hh hj0) rfl hl.1 rfl (Nat.le_of_ble_eq_true rfl) dX1_turn_8 ⟨Nat.zero_le _, Nat.zero_le _⟩) (fun H locs hh => ?_)
  exact r_int C hh h dX1_turn_11
abbrev rm_X1_uses : Room := { frames := 0, cells := 0, slots := 0, locals := 0 }
theorem HD_X1_uses : yX1_uses.cls = RX1 ∧ yX1_uses.cls ≠ "java/lang/invoke/MethodHandle" ∧ yX1_uses.cls ≠ "java/lang/invoke/VarHandle" ∧ (parseMethodDescriptor yX1_uses.desc).map (fun d => d.parameters.length) = some 0 := by decide +kernel
def f_X1_uses_24 (σ : Mem) : Option (Int32 × Mem) := some ((1 : Int32), σ)
set_option maxHeartbeats 4000000 in
set_option maxRecDepth 100000 in
theorem k_X1_uses_24 {p : Program} {l : Launch} {e : Env} {s : State} {m : MethodId} {args : Array Value} {below : List Frame} {meth : Method} {c : Code} {D : va_G} {cA : Nat → ClassId} {ad : Nat → Nat → Nat} {A : Nat → Prop} {o : Nat → Int64} (C : Cx p s m args meth c cX1_uses 1 RX1 (some .boolean) D cA ad A o) {r : Int32 × Mem} (σ : Mem) {H : Heap} {locs : List Loc} (h : f_X1_uses_24 σ = some r) (hh : HH D cA ad A o s σ H locs) {ls : Array Slot} (hl : lv_has ls 1 []) : W p l e rm_X1_uses s m args below meth c H locs 0 0 (MQ below (Qi D cA ad o A r) args s 0 0 A) (F0 m 24 ls []) := by
  obtain ⟨⟨hx, hb, hml, hown, hts⟩, hK, hN, hD, hr, hlocks⟩ := id C
  unfold f_X1_uses_24 at h
  refine lv_iconst (v := (1 : Int32)) hx hb dX1_uses_24 (by decide) ?_
  refine lv_goto (tgt := 29) hx hb dX1_uses_25 (by decide) ?_
  exact r_bool C hh (by decide) h dX1_uses_29
def f_X1_uses (j0 : Nat) (σ : Mem) : Option (Int32 × Mem) := (if (σ 101 j0 0) = (3 : Int32) then f_X1_uses_24 σ else (if (σ 101 j0 0) = (4 : Int32) then f_X1_uses_24 σ else (if (σ 101 j0 0) = (5 : Int32) then f_X1_uses_24 σ else some ((0 : Int32), σ))))
set_option maxHeartbeats 4000000 in
set_option maxRecDepth 100000 in
theorem c_X1_uses {l : Launch} {D : va_G} {cA : Nat → ClassId} {ad : Nat → Nat → Nat} {A : Nat → Prop} {o : Nat → Int64} (hD0 : ∀ σ, va_D A (wW cA ad σ o)) (j0 : Nat) (hj0 : j0 < 12) (σ : Mem) {r : Int32 × Mem} (h : f_X1_uses j0 σ = some r) : Met l yX1_uses (wsG yX1_uses cX1_uses 1 (some .boolean)) rm_X1_uses (va_Pc [.ref (ad 199 j0)] (IW D cA ad o σ)) (Qi D cA ad o A r) 0 0 A := by
  refine metG (by decide) (Nat.le_of_ble_eq_true rfl) hD0 ?_
  intro p e s m args below meth c C ls hh hl
  have C : Cx p s m args meth c cX1_uses 1 RX1 (some .boolean) D cA ad A o := C
  have hl : lv_has ls 1 [(0, .ref (ad 199 j0))] := hl
  obtain ⟨⟨hx, hb, hml, hown, hts⟩, hK, hN, hD, hr, hlocks⟩ := id C
  unfold f_X1_uses at h
  refine lv_aload_n hx hb dX1_uses_0 rfl (lv_at hl 0 rfl) ?_
  refine gf_1_9 C hh hj0 dX1_uses_1 ?_
  refine lv_iconst (v := (3 : Int32)) hx hb dX1_uses_4 (by decide) ?_
  refine lv_icmp_eq (tgt := 24) hx hb dX1_uses_5 (by decide) (fun c1 => ?_) (fun c1 => ?_)
  · rw [if_pos c1] at h
    exact k_X1_uses_24 C σ h hh (lv_sub hl [] rfl)
  · rw [if_neg c1] at h
    refine lv_aload_n hx hb dX1_uses_8 rfl (lv_at hl 0 rfl) ?_
    refine gf_1_9 C hh hj0 dX1_uses_9 ?_
    refine lv_iconst (v := (4 : Int32)) hx hb dX1_uses_12 (by decide) ?_
    refine lv_icmp_eq (tgt := 24) hx hb dX1_uses_13 (by decide) (fun c2 => ?_) (fun c2 => ?_)
    · rw [if_pos c2] at h
      exact k_X1_uses_24 C σ h hh (lv_sub hl [] rfl)
    · rw [if_neg c2] at h
      refine lv_aload_n hx hb dX1_uses_16 rfl (lv_at hl 0 rfl) ?_
      refine gf_1_9 C hh hj0 dX1_uses_17 ?_
      refine lv_iconst (v := (5 : Int32)) hx hb dX1_uses_20 (by decide) ?_
      refine lv_icmp_ne (tgt := 28) hx hb dX1_uses_21 (by decide) (fun c3 => ?_) (fun c3 => ?_)
      · rw [if_neg c3] at h
        refine lv_iconst (v := (0 : Int32)) hx hb dX1_uses_28 (by decide) ?_
        exact r_bool C hh (by decide) h dX1_uses_29
      · rw [if_pos c3] at h
        exact k_X1_uses_24 C σ h hh (lv_sub hl [] rfl)
abbrev rm_X1_passTime : Room := { frames := 5, cells := 0, slots := 0, locals := 113 }
theorem HD_X1_passTime : yX1_passTime.cls = RX1 ∧ yX1_passTime.cls ≠ "java/lang/invoke/MethodHandle" ∧ yX1_passTime.cls ≠ "java/lang/invoke/VarHandle" ∧ (parseMethodDescriptor yX1_passTime.desc).map (fun d => d.parameters.length) = some 2 := by decide +kernel
def f_X1_passTime_31 (j0 : Nat) (x1 : Int32) (j2 : Nat) (σ : Mem) : Option (Int32 × Mem) := (if (σ 101 j0 0) = (1 : Int32) then bn (f_X1_tryNext j0 x1 j2 σ) (fun r4 s3 => some (r4, s3)) else if (σ 101 j0 0) = (2 : Int32) then bn (f_X1_tryNext j0 x1 j2 σ) (fun r8 s7 => some (r8, s7)) else if (σ 101 j0 0) = (3 : Int32) then (if x1 < (σ 105 j0 0) then some ((-1 : Int32), σ) else bn (f_X1_turn j0 (4 : Int32) x1 j2 σ) (fun r13 s12 => some (r13, s12))) else if (σ 101 j0 0) = (4 : Int32) then (if x1 < (σ 106 j0 0) then bn (f_X1_sayHalfway j0 (σ 106 j0 0) x1 j2 σ) (fun r18 s17 => some (r18, s17)) else bn (f_X1_turn j0 (5 : Int32) x1 j2 σ) (fun r21 s20 => some (r21, s20))) else if (σ 101 j0 0) = (5 : Int32) then bn (f_X1_sayHalfway j0 (σ 104 j0 0) x1 j2 σ) (fun r25 s24 => some (r25, s24)) else if (σ 101 j0 0) = (6 : Int32) then bn (f_X1_tryNext j0 x1 j2 σ) (fun r29 s28 => some (r29, s28)) else if (σ 101 j0 0) = (7 : Int32) then (if (x1 - (σ 109 j0 0)) < (10 : Int32) then some ((-1 : Int32), σ) else bn (f_X1_begin j0 x1 j2 σ) (fun r34 s33 => some (r34, s33))) else some ((-1 : Int32), σ))
set_option maxHeartbeats 4000000 in
set_option maxRecDepth 100000 in
theorem k_X1_passTime_31 {p : Program} {l : Launch} {e : Env} {s : State} {m : MethodId} {args : Array Value} {below : List Frame} {meth : Method} {c : Code} {D : va_G} {cA : Nat → ClassId} {ad : Nat → Nat → Nat} {A : Nat → Prop} {o : Nat → Int64} (C : Cx p s m args meth c cX1_passTime 3 RX1 (some .int) D cA ad A o) {r : Int32 × Mem} (j0 : Nat) (hj0 : j0 < 12) (x1 : Int32) (j2 : Nat) (hj2 : j2 < 2) (σ : Mem) {H : Heap} {locs : List Loc} (h : f_X1_passTime_31 j0 x1 j2 σ = some r) (hh : HH D cA ad A o s σ H locs) {ls : Array Slot} (hl : lv_has ls 3 [(0, .ref (ad 199 j0)), (1, .int x1), (2, .ref (ad 299 j2))]) : W p l e rm_X1_passTime s m args below meth c H locs 0 0 (MQ below (Qi D cA ad o A r) args s 0 0 A) (F0 m 31 ls []) := by
  obtain ⟨⟨hx, hb, hml, hown, hts⟩, hK, hN, hD, hr, hlocks⟩ := id C
  unfold f_X1_passTime_31 at h
  refine lv_aload_n hx hb dX1_passTime_31 rfl (lv_at hl 0 rfl) ?_
  refine gf_1_9 C hh hj0 dX1_passTime_32 ?_
  by_cases c1 : (σ 101 j0 0) = (1 : Int32)
  · rw [if_pos c1] at h
    refine lv_tableIn (tgt := 136) hx hb dX1_passTime_35 (by rw [c1]; decide) (by rw [c1]; decide) (by rw [c1]; rfl) (by decide) ?_
    refine lv_aload_n hx hb dX1_passTime_136 rfl (lv_at hl 0 rfl) ?_
    refine lv_iload_n hx hb dX1_passTime_137 rfl (lv_at hl 1 rfl) ?_
    refine lv_aload_n hx hb dX1_passTime_138 rfl (lv_at hl 2 rfl) ?_
    obtain ⟨r4, s3, e2, h⟩ := bn_e h
    refine c_int hh (vrun (rest := []) C hh (c_X1_tryNext C.2.2.2.1 j0 hj0 x1 j2 hj2 σ e2) LM_1_78 IM_X1_tryNext SL_X1_tryNext IN_1 CD_X1_tryNext HD_X1_tryNext ⟨rfl, rfl, Nat.le_of_ble_eq_true rfl, Nat.le_of_ble_eq_true rfl⟩ (rv_1 C hh hj0) rfl hl.1 rfl (Nat.le_of_ble_eq_true rfl) dX1_passTime_139 ⟨Nat.zero_le _, Nat.zero_le _⟩) (fun H locs hh => ?_)
    exact r_int C hh h dX1_passTime_142
  · rw [if_neg c1] at h
    by_cases c5 : (σ 101 j0 0) = (2 : Int32)
    · rw [if_pos c5] at h
      refine lv_tableIn (tgt := 136) hx hb dX1_passTime_35 (by rw [c5]; decide) (by rw [c5]; decide) (by rw [c5]; rfl) (by decide) ?_
      refine lv_aload_n hx hb dX1_passTime_136 rfl (lv_at hl 0 rfl) ?_
      refine lv_iload_n hx hb dX1_passTime_137 rfl (lv_at hl 1 rfl) ?_
      refine lv_aload_n hx hb dX1_passTime_138 rfl (lv_at hl 2 rfl) ?_
      obtain ⟨r8, s7, e6, h⟩ := bn_e h
      refine c_int hh (vrun (rest := []) C hh (c_X1_tryNext C.2.2.2.1 j0 hj0 x1 j2 hj2 σ e6) LM_1_78 IM_X1_tryNext SL_X1_tryNext IN_1 CD_X1_tryNext HD_X1_tryNext ⟨rfl, rfl, Nat.le_of_ble_eq_true rfl, Nat.le_of_ble_eq_true rfl⟩ (rv_1 C hh hj0) rfl hl.1 rfl (Nat.le_of_ble_eq_true rfl) dX1_passTime_139 ⟨Nat.zero_le _, Nat.zero_le _⟩) (fun H locs hh => ?_)
      exact r_int C hh h dX1_passTime_142
    · rw [if_neg c5] at h
      by_cases c9 : (σ 101 j0 0) = (3 : Int32)
      · rw [if_pos c9] at h
        refine lv_tableIn (tgt := 76) hx hb dX1_passTime_35 (by rw [c9]; decide) (by rw [c9]; decide) (by rw [c9]; rfl) (by decide) ?_
        refine lv_aload_n hx hb dX1_passTime_76 rfl (lv_at hl 0 rfl) ?_
        refine gf_1_24 C hh hj0 dX1_passTime_77 ?_
        refine lv_iload_n hx hb dX1_passTime_80 rfl (lv_at hl 1 rfl) ?_
        refine lv_icmp_gt (tgt := 94) hx hb dX1_passTime_81 (by decide) (fun c10 => ?_) (fun c10 => ?_)
        · rw [if_pos c10] at h
          refine lv_iconst (v := (-1 : Int32)) hx hb dX1_passTime_94 (by decide) ?_
          exact r_int C hh h dX1_passTime_95
        · rw [if_neg c10] at h
          refine lv_aload_n hx hb dX1_passTime_84 rfl (lv_at hl 0 rfl) ?_
          refine lv_iconst (v := (4 : Int32)) hx hb dX1_passTime_85 (by decide) ?_
          refine lv_iload_n hx hb dX1_passTime_86 rfl (lv_at hl 1 rfl) ?_
          refine lv_aload_n hx hb dX1_passTime_87 rfl (lv_at hl 2 rfl) ?_
          obtain ⟨r13, s12, e11, h⟩ := bn_e h
          refine c_int hh (vrun (rest := []) C hh (c_X1_turn C.2.2.2.1 j0 hj0 (4 : Int32) x1 j2 hj2 σ e11) LM_1_71 IM_X1_turn SL_X1_turn IN_1 CD_X1_turn HD_X1_turn ⟨rfl, rfl, Nat.le_of_ble_eq_true rfl, Nat.le_of_ble_eq_true rfl⟩ (rv_1 C hh hj0) rfl hl.1 rfl (Nat.le_of_ble_eq_true rfl) dX1_passTime_88 ⟨Nat.zero_le _, Nat.zero_le _⟩) (fun H locs hh => ?_)
          refine lv_goto (tgt := 95) hx hb dX1_passTime_91 (by decide) ?_
          exact r_int C hh h dX1_passTime_95
      · rw [if_neg c9] at h
        by_cases c14 : (σ 101 j0 0) = (4 : Int32)
        · rw [if_pos c14] at h
          refine lv_tableIn (tgt := 96) hx hb dX1_passTime_35 (by rw [c14]; decide) (by rw [c14]; decide) (by rw [c14]; rfl) (by decide) ?_
          refine lv_aload_n hx hb dX1_passTime_96 rfl (lv_at hl 0 rfl) ?_
          refine gf_1_27 C hh hj0 dX1_passTime_97 ?_
          refine lv_iload_n hx hb dX1_passTime_100 rfl (lv_at hl 1 rfl) ?_
          refine lv_icmp_gt (tgt := 114) hx hb dX1_passTime_101 (by decide) (fun c15 => ?_) (fun c15 => ?_)
          · rw [if_pos c15] at h
            refine lv_aload_n hx hb dX1_passTime_114 rfl (lv_at hl 0 rfl) ?_
            refine lv_aload_n hx hb dX1_passTime_115 rfl (lv_at hl 0 rfl) ?_
            refine gf_1_27 C hh hj0 dX1_passTime_116 ?_
            refine lv_iload_n hx hb dX1_passTime_119 rfl (lv_at hl 1 rfl) ?_
            refine lv_aload_n hx hb dX1_passTime_120 rfl (lv_at hl 2 rfl) ?_
            obtain ⟨r18, s17, e16, h⟩ := bn_e h
            refine c_int hh (vrun (rest := []) C hh (c_X1_sayHalfway C.2.2.2.1 j0 hj0 (σ 106 j0 0) x1 j2 hj2 σ e16) LM_1_75 IM_X1_sayHalfway SL_X1_sayHalfway IN_1 CD_X1_sayHalfway HD_X1_sayHalfway ⟨rfl, rfl, Nat.le_of_ble_eq_true rfl, Nat.le_of_ble_eq_true rfl⟩ (rv_1 C hh hj0) rfl hl.1 rfl (Nat.le_of_ble_eq_true rfl) dX1_passTime_121 ⟨Nat.zero_le _, Nat.zero_le _⟩) (fun H locs hh => ?_)
            exact r_int C hh h dX1_passTime_124
          · rw [if_neg c15] at h
            refine lv_aload_n hx hb dX1_passTime_104 rfl (lv_at hl 0 rfl) ?_
            refine lv_iconst (v := (5 : Int32)) hx hb dX1_passTime_105 (by decide) ?_
            refine lv_iload_n hx hb dX1_passTime_106 rfl (lv_at hl 1 rfl) ?_
            refine lv_aload_n hx hb dX1_passTime_107 rfl (lv_at hl 2 rfl) ?_
            obtain ⟨r21, s20, e19, h⟩ := bn_e h
            refine c_int hh (vrun (rest := []) C hh (c_X1_turn C.2.2.2.1 j0 hj0 (5 : Int32) x1 j2 hj2 σ e19) LM_1_71 IM_X1_turn SL_X1_turn IN_1 CD_X1_turn HD_X1_turn ⟨rfl, rfl, Nat.le_of_ble_eq_true rfl, Nat.le_of_ble_eq_true rfl⟩ (rv_1 C hh hj0) rfl hl.1 rfl (Nat.le_of_ble_eq_true rfl) dX1_passTime_108 ⟨Nat.zero_le _, Nat.zero_le _⟩) (fun H locs hh => ?_)
            refine lv_goto (tgt := 124) hx hb dX1_passTime_111 (by decide) ?_
            exact r_int C hh h dX1_passTime_124
        · rw [if_neg c14] at h
          by_cases c22 : (σ 101 j0 0) = (5 : Int32)
          · rw [if_pos c22] at h
            refine lv_tableIn (tgt := 125) hx hb dX1_passTime_35 (by rw [c22]; decide) (by rw [c22]; decide) (by rw [c22]; rfl) (by decide) ?_
            refine lv_aload_n hx hb dX1_passTime_125 rfl (lv_at hl 0 rfl) ?_
            refine lv_aload_n hx hb dX1_passTime_126 rfl (lv_at hl 0 rfl) ?_
            refine gf_1_21 C hh hj0 dX1_passTime_127 ?_
            refine lv_iload_n hx hb dX1_passTime_130 rfl (lv_at hl 1 rfl) ?_
            refine lv_aload_n hx hb dX1_passTime_131 rfl (lv_at hl 2 rfl) ?_
            obtain ⟨r25, s24, e23, h⟩ := bn_e h
            refine c_int hh (vrun (rest := []) C hh (c_X1_sayHalfway C.2.2.2.1 j0 hj0 (σ 104 j0 0) x1 j2 hj2 σ e23) LM_1_75 IM_X1_sayHalfway SL_X1_sayHalfway IN_1 CD_X1_sayHalfway HD_X1_sayHalfway ⟨rfl, rfl, Nat.le_of_ble_eq_true rfl, Nat.le_of_ble_eq_true rfl⟩ (rv_1 C hh hj0) rfl hl.1 rfl (Nat.le_of_ble_eq_true rfl) dX1_passTime_132 ⟨Nat.zero_le _, Nat.zero_le _⟩) (fun H locs hh => ?_)
            exact r_int C hh h dX1_passTime_135
          · rw [if_neg c22] at h
            by_cases c26 : (σ 101 j0 0) = (6 : Int32)
            · rw [if_pos c26] at h
              refine lv_tableIn (tgt := 136) hx hb dX1_passTime_35 (by rw [c26]; decide) (by rw [c26]; decide) (by rw [c26]; rfl) (by decide) ?_
              refine lv_aload_n hx hb dX1_passTime_136 rfl (lv_at hl 0 rfl) ?_
              refine lv_iload_n hx hb dX1_passTime_137 rfl (lv_at hl 1 rfl) ?_
              refine lv_aload_n hx hb dX1_passTime_138 rfl (lv_at hl 2 rfl) ?_
              obtain ⟨r29, s28, e27, h⟩ := bn_e h
              refine c_int hh (vrun (rest := []) C hh (c_X1_tryNext C.2.2.2.1 j0 hj0 x1 j2 hj2 σ e27) LM_1_78 IM_X1_tryNext SL_X1_tryNext IN_1 CD_X1_tryNext HD_X1_tryNext ⟨rfl, rfl, Nat.le_of_ble_eq_true rfl, Nat.le_of_ble_eq_true rfl⟩ (rv_1 C hh hj0) rfl hl.1 rfl (Nat.le_of_ble_eq_true rfl) dX1_passTime_139 ⟨Nat.zero_le _, Nat.zero_le _⟩) (fun H locs hh => ?_)
              exact r_int C hh h dX1_passTime_142
            · rw [if_neg c26] at h
              by_cases c30 : (σ 101 j0 0) = (7 : Int32)
              · rw [if_pos c30] at h
                refine lv_tableIn (tgt := 143) hx hb dX1_passTime_35 (by rw [c30]; decide) (by rw [c30]; decide) (by rw [c30]; rfl) (by decide) ?_
                refine lv_iload_n hx hb dX1_passTime_143 rfl (lv_at hl 1 rfl) ?_
                refine lv_aload_n hx hb dX1_passTime_144 rfl (lv_at hl 0 rfl) ?_
                refine gf_1_36 C hh hj0 dX1_passTime_145 ?_
                refine lv_isub hx hb dX1_passTime_148 ?_
                refine lv_bipush (v := (10 : Int32)) hx hb dX1_passTime_149 (by decide) ?_
                refine lv_icmp_lt (tgt := 163) hx hb dX1_passTime_151 (by decide) (fun c31 => ?_) (fun c31 => ?_)
                · rw [if_pos c31] at h
                  refine lv_iconst (v := (-1 : Int32)) hx hb dX1_passTime_163 (by decide) ?_
                  exact r_int C hh h dX1_passTime_164
                · rw [if_neg c31] at h
                  refine lv_aload_n hx hb dX1_passTime_154 rfl (lv_at hl 0 rfl) ?_
                  refine lv_iload_n hx hb dX1_passTime_155 rfl (lv_at hl 1 rfl) ?_
                  refine lv_aload_n hx hb dX1_passTime_156 rfl (lv_at hl 2 rfl) ?_
                  obtain ⟨r34, s33, e32, h⟩ := bn_e h
                  refine c_int hh (vrun (rest := []) C hh (c_X1_begin C.2.2.2.1 j0 hj0 x1 j2 hj2 σ e32) LM_1_48 IM_X1_begin SL_X1_begin IN_1 CD_X1_begin HD_X1_begin ⟨rfl, rfl, Nat.le_of_ble_eq_true rfl, Nat.le_of_ble_eq_true rfl⟩ (rv_1 C hh hj0) rfl hl.1 rfl (Nat.le_of_ble_eq_true rfl) dX1_passTime_157 ⟨Nat.zero_le _, Nat.zero_le _⟩) (fun H locs hh => ?_)
                  refine lv_goto (tgt := 164) hx hb dX1_passTime_160 (by decide) ?_
                  exact r_int C hh h dX1_passTime_164
              · rw [if_neg c30] at h
                have nc1 := ntI c1 (n := 1) (by decide)
                have nc5 := ntI c5 (n := 2) (by decide)
                have nc9 := ntI c9 (n := 3) (by decide)
                have nc14 := ntI c14 (n := 4) (by decide)
                have nc22 := ntI c22 (n := 5) (by decide)
                have nc26 := ntI c26 (n := 6) (by decide)
                have nc30 := ntI c30 (n := 7) (by decide)
                refine lv_tableOut (tgt := 165) hx hb dX1_passTime_35 (by omega) (by decide) ?_
                refine lv_iconst (v := (-1 : Int32)) hx hb dX1_passTime_165 (by decide) ?_
                exact r_int C hh h dX1_passTime_166
def f_X1_passTime_16 (j0 : Nat) (x1 : Int32) (j2 : Nat) (σ : Mem) : Option (Int32 × Mem) := (if x1 < (σ 104 j0 0) then f_X1_passTime_31 j0 x1 j2 σ else bn (f_X1_begin j0 x1 j2 σ) (fun r4 s3 => some (r4, s3)))
set_option maxHeartbeats 4000000 in
set_option maxRecDepth 100000 in
theorem k_X1_passTime_16 {p : Program} {l : Launch} {e : Env} {s : State} {m : MethodId} {args : Array Value} {below : List Frame} {meth : Method} {c : Code} {D : va_G} {cA : Nat → ClassId} {ad : Nat → Nat → Nat} {A : Nat → Prop} {o : Nat → Int64} (C : Cx p s m args meth c cX1_passTime 3 RX1 (some .int) D cA ad A o) {r : Int32 × Mem} (j0 : Nat) (hj0 : j0 < 12) (x1 : Int32) (j2 : Nat) (hj2 : j2 < 2) (σ : Mem) {H : Heap} {locs : List Loc} (h : f_X1_passTime_16 j0 x1 j2 σ = some r) (hh : HH D cA ad A o s σ H locs) {ls : Array Slot} (hl : lv_has ls 3 [(0, .ref (ad 199 j0)), (1, .int x1), (2, .ref (ad 299 j2))]) : W p l e rm_X1_passTime s m args below meth c H locs 0 0 (MQ below (Qi D cA ad o A r) args s 0 0 A) (F0 m 16 ls []) := by
  obtain ⟨⟨hx, hb, hml, hown, hts⟩, hK, hN, hD, hr, hlocks⟩ := id C
  unfold f_X1_passTime_16 at h
  refine lv_aload_n hx hb dX1_passTime_16 rfl (lv_at hl 0 rfl) ?_
  refine gf_1_21 C hh hj0 dX1_passTime_17 ?_
  refine lv_iload_n hx hb dX1_passTime_20 rfl (lv_at hl 1 rfl) ?_
  refine lv_icmp_gt (tgt := 31) hx hb dX1_passTime_21 (by decide) (fun c1 => ?_) (fun c1 => ?_)
  · rw [if_pos c1] at h
    exact k_X1_passTime_31 C j0 hj0 x1 j2 hj2 σ h hh (lv_sub hl [0, 1, 2] rfl)
  · rw [if_neg c1] at h
    refine lv_aload_n hx hb dX1_passTime_24 rfl (lv_at hl 0 rfl) ?_
    refine lv_iload_n hx hb dX1_passTime_25 rfl (lv_at hl 1 rfl) ?_
    refine lv_aload_n hx hb dX1_passTime_26 rfl (lv_at hl 2 rfl) ?_
    obtain ⟨r4, s3, e2, h⟩ := bn_e h
    refine c_int hh (vrun (rest := []) C hh (c_X1_begin C.2.2.2.1 j0 hj0 x1 j2 hj2 σ e2) LM_1_48 IM_X1_begin SL_X1_begin IN_1 CD_X1_begin HD_X1_begin ⟨rfl, rfl, Nat.le_of_ble_eq_true rfl, Nat.le_of_ble_eq_true rfl⟩ (rv_1 C hh hj0) rfl hl.1 rfl (Nat.le_of_ble_eq_true rfl) dX1_passTime_27 ⟨Nat.zero_le _, Nat.zero_le _⟩) (fun H locs hh => ?_)
    exact r_int C hh h dX1_passTime_30
def f_X1_passTime (j0 : Nat) (x1 : Int32) (j2 : Nat) (σ : Mem) : Option (Int32 × Mem) := bn (f_X1_uses j0 σ) (fun r3 s2 => (if r3 = (0 : Int32) then (if (s2 101 j0 0) = (6 : Int32) then f_X1_passTime_16 j0 x1 j2 s2 else f_X1_passTime_31 j0 x1 j2 s2) else f_X1_passTime_16 j0 x1 j2 s2))
set_option maxHeartbeats 4000000 in
set_option maxRecDepth 100000 in
theorem c_X1_passTime {l : Launch} {D : va_G} {cA : Nat → ClassId} {ad : Nat → Nat → Nat} {A : Nat → Prop} {o : Nat → Int64} (hD0 : ∀ σ, va_D A (wW cA ad σ o)) (j0 : Nat) (hj0 : j0 < 12) (x1 : Int32) (j2 : Nat) (hj2 : j2 < 2) (σ : Mem) {r : Int32 × Mem} (h : f_X1_passTime j0 x1 j2 σ = some r) : Met l yX1_passTime (wsG yX1_passTime cX1_passTime 3 (some .int)) rm_X1_passTime (va_Pc [.ref (ad 199 j0), .int x1, .ref (ad 299 j2)] (IW D cA ad o σ)) (Qi D cA ad o A r) 0 0 A := by
  refine metG (by decide) (Nat.le_of_ble_eq_true rfl) hD0 ?_
  intro p e s m args below meth c C ls hh hl
  have C : Cx p s m args meth c cX1_passTime 3 RX1 (some .int) D cA ad A o := C
  have hl : lv_has ls 3 [(0, .ref (ad 199 j0)), (1, .int x1), (2, .ref (ad 299 j2))] := hl
  obtain ⟨⟨hx, hb, hml, hown, hts⟩, hK, hN, hD, hr, hlocks⟩ := id C
  unfold f_X1_passTime at h
  refine lv_aload_n hx hb dX1_passTime_0 rfl (lv_at hl 0 rfl) ?_
  obtain ⟨r3, s2, e1, h⟩ := bn_e h
  refine c_int hh (vrun (rest := []) C hh (c_X1_uses C.2.2.2.1 j0 hj0 σ e1) LM_1_55 IM_X1_uses SL_X1_uses IN_1 CD_X1_uses HD_X1_uses ⟨rfl, rfl, Nat.le_of_ble_eq_true rfl, Nat.le_of_ble_eq_true rfl⟩ (rv_1 C hh hj0) rfl hl.1 rfl (Nat.le_of_ble_eq_true rfl) dX1_passTime_1 ⟨Nat.zero_le _, Nat.zero_le _⟩) (fun H locs hh => ?_)
  refine lv_if_ne (tgt := 16) hx hb dX1_passTime_4 (by decide) (fun c4 => ?_) (fun c4 => ?_)
  · rw [if_neg c4] at h
    exact k_X1_passTime_16 C j0 hj0 x1 j2 hj2 s2 h hh (lv_sub hl [0, 1, 2] rfl)
  · rw [if_pos c4] at h
    refine lv_aload_n hx hb dX1_passTime_7 rfl (lv_at hl 0 rfl) ?_
    refine gf_1_9 C hh hj0 dX1_passTime_8 ?_
    refine lv_bipush (v := (6 : Int32)) hx hb dX1_passTime_11 (by decide) ?_
    refine lv_icmp_ne (tgt := 31) hx hb dX1_passTime_13 (by decide) (fun c5 => ?_) (fun c5 => ?_)
    · rw [if_neg c5] at h
      exact k_X1_passTime_31 C j0 hj0 x1 j2 hj2 s2 h hh (lv_sub hl [0, 1, 2] rfl)
    · rw [if_pos c5] at h
      exact k_X1_passTime_16 C j0 hj0 x1 j2 hj2 s2 h hh (lv_sub hl [0, 1, 2] rfl)
