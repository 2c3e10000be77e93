abbrev rm_X8_thrown : Room := { frames := 0, cells := 0, slots := 0, locals := 0 }
theorem HD_X8_thrown : yX8_thrown.cls = RX8 ∧ yX8_thrown.cls ≠ "java/lang/invoke/MethodHandle" ∧ yX8_thrown.cls ≠ "java/lang/invoke/VarHandle" ∧ (parseMethodDescriptor yX8_thrown.desc).map (fun d => d.parameters.length) = some 0 := by decide +kernel
def f_X8_thrown (σ : Mem) : Option (Int32 × Mem) := some ((σ 800 0 0), σ)
set_option maxHeartbeats 4000000 in
set_option maxRecDepth 100000 in
theorem c_X8_thrown {l : Launch} {D : va_G} {cA : Nat → ClassId} {ad : Nat → Nat → Nat} {A : Nat → Prop} {o : Nat → Int64} (hD0 : ∀ σ, va_D A (wW cA ad σ o)) (σ : Mem) {r : Int32 × Mem} (h : f_X8_thrown σ = some r) : Met l yX8_thrown (wsG yX8_thrown cX8_thrown 1 (some .int)) rm_X8_thrown (va_Pc [.ref (ad 899 0)] (IW D cA ad o σ)) (Qi D cA ad o A r) 0 0 A := by
  refine metG (by decide) (Nat.le_of_ble_eq_true rfl) hD0 ?_
  intro p e s m args below meth c C ls hh hl
  have C : Cx p s m args meth c cX8_thrown 1 RX8 (some .int) D cA ad A o := C
  have hl : lv_has ls 1 [(0, .ref (ad 899 0))] := hl
  obtain ⟨⟨hx, hb, hml, hown, hts⟩, hK, hN, hD, hr, hlocks⟩ := id C
  unfold f_X8_thrown at h
  refine lv_aload_n hx hb dX8_thrown_0 rfl (lv_at hl 0 rfl) ?_
  refine gf_8_86 C hh dX8_thrown_1 ?_
  exact r_int C hh h dX8_thrown_4
abbrev rm_X8_isClient : Room := { frames := 0, cells := 0, slots := 0, locals := 0 }
theorem HD_X8_isClient : yX8_isClient.cls = RX8 ∧ yX8_isClient.cls ≠ "java/lang/invoke/MethodHandle" ∧ yX8_isClient.cls ≠ "java/lang/invoke/VarHandle" ∧ (parseMethodDescriptor yX8_isClient.desc).map (fun d => d.parameters.length) = some 1 := by decide +kernel
def f_X8_isClient (x0 : Int32) (σ : Mem) : Option (Int32 × Mem) := (if x0 < (0 : Int32) then some ((0 : Int32), σ) else (if (12 : Int32) ≤ x0 then some ((0 : Int32), σ) else some ((1 : Int32), σ)))
set_option maxHeartbeats 4000000 in
set_option maxRecDepth 100000 in
theorem c_X8_isClient {l : Launch} {D : va_G} {cA : Nat → ClassId} {ad : Nat → Nat → Nat} {A : Nat → Prop} {o : Nat → Int64} (hD0 : ∀ σ, va_D A (wW cA ad σ o)) (x0 : Int32) (σ : Mem) {r : Int32 × Mem} (h : f_X8_isClient x0 σ = some r) : Met l yX8_isClient (wsG yX8_isClient cX8_isClient 1 (some .boolean)) rm_X8_isClient (va_Pc [.int x0] (IW D cA ad o σ)) (Qi D cA ad o A r) 0 0 A := by
  refine metG (by decide) (Nat.le_of_ble_eq_true rfl) hD0 ?_
  intro p e s m args below meth c C ls hh hl
  have C : Cx p s m args meth c cX8_isClient 1 RX8 (some .boolean) D cA ad A o := C
  have hl : lv_has ls 1 [(0, .int x0)] := hl
  obtain ⟨⟨hx, hb, hml, hown, hts⟩, hK, hN, hD, hr, hlocks⟩ := id C
  unfold f_X8_isClient at h
  refine lv_iload_n hx hb dX8_isClient_0 rfl (lv_at hl 0 rfl) ?_
  refine lv_if_lt (tgt := 14) hx hb dX8_isClient_1 (by decide) (fun c1 => ?_) (fun c1 => ?_)
  · rw [if_pos c1] at h
    refine lv_iconst (v := (0 : Int32)) hx hb dX8_isClient_14 (by decide) ?_
    exact r_bool C hh (by decide) h dX8_isClient_15
  · rw [if_neg c1] at h
    refine lv_iload_n hx hb dX8_isClient_4 rfl (lv_at hl 0 rfl) ?_
    refine lv_bipush (v := (12 : Int32)) hx hb dX8_isClient_5 (by decide) ?_
    refine lv_icmp_ge (tgt := 14) hx hb dX8_isClient_7 (by decide) (fun c2 => ?_) (fun c2 => ?_)
    · rw [if_pos c2] at h
      refine lv_iconst (v := (0 : Int32)) hx hb dX8_isClient_14 (by decide) ?_
      exact r_bool C hh (by decide) h dX8_isClient_15
    · rw [if_neg c2] at h
      refine lv_iconst (v := (1 : Int32)) hx hb dX8_isClient_10 (by decide) ?_
      refine lv_goto (tgt := 15) hx hb dX8_isClient_11 (by decide) ?_
      exact r_bool C hh (by decide) h dX8_isClient_15
abbrev rm_X8_isSubnet : Room := { frames := 0, cells := 0, slots := 0, locals := 0 }
theorem HD_X8_isSubnet : yX8_isSubnet.cls = RX8 ∧ yX8_isSubnet.cls ≠ "java/lang/invoke/MethodHandle" ∧ yX8_isSubnet.cls ≠ "java/lang/invoke/VarHandle" ∧ (parseMethodDescriptor yX8_isSubnet.desc).map (fun d => d.parameters.length) = some 1 := by decide +kernel
def f_X8_isSubnet (x0 : Int32) (σ : Mem) : Option (Int32 × Mem) := (if x0 < (0 : Int32) then some ((0 : Int32), σ) else (if (4 : Int32) ≤ x0 then some ((0 : Int32), σ) else some ((1 : Int32), σ)))
set_option maxHeartbeats 4000000 in
set_option maxRecDepth 100000 in
theorem c_X8_isSubnet {l : Launch} {D : va_G} {cA : Nat → ClassId} {ad : Nat → Nat → Nat} {A : Nat → Prop} {o : Nat → Int64} (hD0 : ∀ σ, va_D A (wW cA ad σ o)) (x0 : Int32) (σ : Mem) {r : Int32 × Mem} (h : f_X8_isSubnet x0 σ = some r) : Met l yX8_isSubnet (wsG yX8_isSubnet cX8_isSubnet 1 (some .boolean)) rm_X8_isSubnet (va_Pc [.int x0] (IW D cA ad o σ)) (Qi D cA ad o A r) 0 0 A := by
  refine metG (by decide) (Nat.le_of_ble_eq_true rfl) hD0 ?_
  intro p e s m args below meth c C ls hh hl
  have C : Cx p s m args meth c cX8_isSubnet 1 RX8 (some .boolean) D cA ad A o := C
  have hl : lv_has ls 1 [(0, .int x0)] := hl
  obtain ⟨⟨hx, hb, hml, hown, hts⟩, hK, hN, hD, hr, hlocks⟩ := id C
  unfold f_X8_isSubnet at h
  refine lv_iload_n hx hb dX8_isSubnet_0 rfl (lv_at hl 0 rfl) ?_
  refine lv_if_lt (tgt := 13) hx hb dX8_isSubnet_1 (by decide) (fun c1 => ?_) (fun c1 => ?_)
  · rw [if_pos c1] at h
    refine lv_iconst (v := (0 : Int32)) hx hb dX8_isSubnet_13 (by decide) ?_
    exact r_bool C hh (by decide) h dX8_isSubnet_14
  · rw [if_neg c1] at h
    refine lv_iload_n hx hb dX8_isSubnet_4 rfl (lv_at hl 0 rfl) ?_
    refine lv_iconst (v := (4 : Int32)) hx hb dX8_isSubnet_5 (by decide) ?_
    refine lv_icmp_ge (tgt := 13) hx hb dX8_isSubnet_6 (by decide) (fun c2 => ?_) (fun c2 => ?_)
    · rw [if_pos c2] at h
      refine lv_iconst (v := (0 : Int32)) hx hb dX8_isSubnet_13 (by decide) ?_
      exact r_bool C hh (by decide) h dX8_isSubnet_14
    · rw [if_neg c2] at h
      refine lv_iconst (v := (1 : Int32)) hx hb dX8_isSubnet_9 (by decide) ?_
      refine lv_goto (tgt := 14) hx hb dX8_isSubnet_10 (by decide) ?_
      exact r_bool C hh (by decide) h dX8_isSubnet_14
abbrev rm_X8_isPlace : Room := { frames := 1, cells := 0, slots := 0, locals := 20 }
theorem HD_X8_isPlace : yX8_isPlace.cls = RX8 ∧ yX8_isPlace.cls ≠ "java/lang/invoke/MethodHandle" ∧ yX8_isPlace.cls ≠ "java/lang/invoke/VarHandle" ∧ (parseMethodDescriptor yX8_isPlace.desc).map (fun d => d.parameters.length) = some 1 := by decide +kernel
def f_X8_isPlace_19 (σ : Mem) : Option (Int32 × Mem) := some ((1 : Int32), σ)
set_option maxHeartbeats 4000000 in
set_option maxRecDepth 100000 in
theorem k_X8_isPlace_19 {p : Program} {l : Launch} {e : Env} {s : State} {m : MethodId} {args : Array Value} {below : List Frame} {meth : Method} {c : Code} {D : va_G} {cA : Nat → ClassId} {ad : Nat → Nat → Nat} {A : Nat → Prop} {o : Nat → Int64} (C : Cx p s m args meth c cX8_isPlace 1 RX8 (some .boolean) D cA ad A o) {r : Int32 × Mem} (σ : Mem) {H : Heap} {locs : List Loc} (h : f_X8_isPlace_19 σ = some r) (hh : HH D cA ad A o s σ H locs) {ls : Array Slot} (hl : lv_has ls 1 []) : W p l e rm_X8_isPlace s m args below meth c H locs 0 0 (MQ below (Qi D cA ad o A r) args s 0 0 A) (F0 m 19 ls []) := by
  obtain ⟨⟨hx, hb, hml, hown, hts⟩, hK, hN, hD, hr, hlocks⟩ := id C
  unfold f_X8_isPlace_19 at h
  refine lv_iconst (v := (1 : Int32)) hx hb dX8_isPlace_19 (by decide) ?_
  refine lv_goto (tgt := 24) hx hb dX8_isPlace_20 (by decide) ?_
  exact r_bool C hh (by decide) h dX8_isPlace_24
def f_X8_isPlace (x0 : Int32) (σ : Mem) : Option (Int32 × Mem) := bn (f_X8_isClient x0 σ) (fun r3 s2 => (if r3 = (0 : Int32) then (if x0 < (13 : Int32) then some ((0 : Int32), s2) else (if (16 : Int32) < x0 then some ((0 : Int32), s2) else f_X8_isPlace_19 s2)) else f_X8_isPlace_19 s2))
set_option maxHeartbeats 4000000 in
set_option maxRecDepth 100000 in
theorem c_X8_isPlace {l : Launch} {D : va_G} {cA : Nat → ClassId} {ad : Nat → Nat → Nat} {A : Nat → Prop} {o : Nat → Int64} (hD0 : ∀ σ, va_D A (wW cA ad σ o)) (x0 : Int32) (σ : Mem) {r : Int32 × Mem} (h : f_X8_isPlace x0 σ = some r) : Met l yX8_isPlace (wsG yX8_isPlace cX8_isPlace 1 (some .boolean)) rm_X8_isPlace (va_Pc [.int x0] (IW D cA ad o σ)) (Qi D cA ad o A r) 0 0 A := by
  refine metG (by decide) (Nat.le_of_ble_eq_true rfl) hD0 ?_
  intro p e s m args below meth c C ls hh hl
  have C : Cx p s m args meth c cX8_isPlace 1 RX8 (some .boolean) D cA ad A o := C
  have hl : lv_has ls 1 [(0, .int x0)] := hl
  obtain ⟨⟨hx, hb, hml, hown, hts⟩, hK, hN, hD, hr, hlocks⟩ := id C
  unfold f_X8_isPlace at h
  refine lv_iload_n hx hb dX8_isPlace_0 rfl (lv_at hl 0 rfl) ?_
  obtain ⟨r3, s2, e1, h⟩ := bn_e h
  refine c_int hh (srun (rest := []) C hh (c_X8_isClient C.2.2.2.1 x0 σ e1) LM_8_90 ST_X8_isClient IN_8 CD_X8_isClient HD_X8_isClient ⟨rfl, rfl, Nat.le_of_ble_eq_true rfl, Nat.le_of_ble_eq_true rfl⟩ rfl hl.1 rfl (Nat.le_of_ble_eq_true rfl) dX8_isPlace_1 ⟨Nat.zero_le _, Nat.zero_le _⟩) (fun H locs hh => ?_)
  refine lv_if_ne (tgt := 19) hx hb dX8_isPlace_4 (by decide) (fun c4 => ?_) (fun c4 => ?_)
  · rw [if_neg c4] at h
    exact k_X8_isPlace_19 C s2 h hh (lv_sub hl [] rfl)
  · rw [if_pos c4] at h
    refine lv_iload_n hx hb dX8_isPlace_7 rfl (lv_at hl 0 rfl) ?_
    refine lv_bipush (v := (13 : Int32)) hx hb dX8_isPlace_8 (by decide) ?_
    refine lv_icmp_lt (tgt := 23) hx hb dX8_isPlace_10 (by decide) (fun c5 => ?_) (fun c5 => ?_)
    · rw [if_pos c5] at h
      refine lv_iconst (v := (0 : Int32)) hx hb dX8_isPlace_23 (by decide) ?_
      exact r_bool C hh (by decide) h dX8_isPlace_24
    · rw [if_neg c5] at h
      refine lv_iload_n hx hb dX8_isPlace_13 rfl (lv_at hl 0 rfl) ?_
      refine lv_bipush (v := (16 : Int32)) hx hb dX8_isPlace_14 (by decide) ?_
      refine lv_icmp_gt (tgt := 23) hx hb dX8_isPlace_16 (by decide) (fun c6 => ?_) (fun c6 => ?_)
      · rw [if_pos c6] at h
        refine lv_iconst (v := (0 : Int32)) hx hb dX8_isPlace_23 (by decide) ?_
        exact r_bool C hh (by decide) h dX8_isPlace_24
      · rw [if_neg c6] at h
        exact k_X8_isPlace_19 C s2 h hh (lv_sub hl [] rfl)
abbrev rm_X8_fourAt : Room := { frames := 0, cells := 0, slots := 0, locals := 0 }
theorem HD_X8_fourAt : yX8_fourAt.cls = RX8 ∧ yX8_fourAt.cls ≠ "java/lang/invoke/MethodHandle" ∧ yX8_fourAt.cls ≠ "java/lang/invoke/VarHandle" ∧ (parseMethodDescriptor yX8_fourAt.desc).map (fun d => d.parameters.length) = some 1 := by decide +kernel
def f_X8_fourAt (x1 : Int32) (σ : Mem) : Option (Int32 × Mem) := gd (vin x1 64) (gd (vin (x1 + (1 : Int32)) 64) (gd (vin (x1 + (2 : Int32)) 64) (gd (vin (x1 + (3 : Int32)) 64) (some ((((((σ 829 0 (x1).toNatClampNeg) <<< ((24 : Int32) &&& 31)) ||| ((σ 829 0 ((x1 + (1 : Int32))).toNatClampNeg) <<< ((16 : Int32) &&& 31))) ||| ((σ 829 0 ((x1 + (2 : Int32))).toNatClampNeg) <<< ((8 : Int32) &&& 31))) ||| (σ 829 0 ((x1 + (3 : Int32))).toNatClampNeg)), σ)))))
set_option maxHeartbeats 4000000 in
set_option maxRecDepth 100000 in
theorem c_X8_fourAt {l : Launch} {D : va_G} {cA : Nat → ClassId} {ad : Nat → Nat → Nat} {A : Nat → Prop} {o : Nat → Int64} (hD0 : ∀ σ, va_D A (wW cA ad σ o)) (x1 : Int32) (σ : Mem) {r : Int32 × Mem} (h : f_X8_fourAt x1 σ = some r) : Met l yX8_fourAt (wsG yX8_fourAt cX8_fourAt 2 (some .int)) rm_X8_fourAt (va_Pc [.ref (ad 899 0), .int x1] (IW D cA ad o σ)) (Qi D cA ad o A r) 0 0 A := by
  refine metG (by decide) (Nat.le_of_ble_eq_true rfl) hD0 ?_
  intro p e s m args below meth c C ls hh hl
  have C : Cx p s m args meth c cX8_fourAt 2 RX8 (some .int) D cA ad A o := C
  have hl : lv_has ls 2 [(0, .ref (ad 899 0)), (1, .int x1)] := hl
  obtain ⟨⟨hx, hb, hml, hown, hts⟩, hK, hN, hD, hr, hlocks⟩ := id C
  unfold f_X8_fourAt at h
  refine lv_aload_n hx hb dX8_fourAt_0 rfl (lv_at hl 0 rfl) ?_
  refine gf_8_80 C hh dX8_fourAt_1 ?_
  refine lv_iload_n hx hb dX8_fourAt_4 rfl (lv_at hl 1 rfl) ?_
  obtain ⟨b1, h⟩ := gd_e h
  refine al_829 C hh b1 dX8_fourAt_5 ?_
  refine lv_bipush (v := (24 : Int32)) hx hb dX8_fourAt_6 (by decide) ?_
  refine lv_ishl hx hb dX8_fourAt_8 ?_
  refine lv_aload_n hx hb dX8_fourAt_9 rfl (lv_at hl 0 rfl) ?_
  refine gf_8_80 C hh dX8_fourAt_10 ?_
  refine lv_iload_n hx hb dX8_fourAt_13 rfl (lv_at hl 1 rfl) ?_
  refine lv_iconst (v := (1 : Int32)) hx hb dX8_fourAt_14 (by decide) ?_
  refine lv_iadd hx hb dX8_fourAt_15 ?_
  obtain ⟨b2, h⟩ := gd_e h
  refine al_829 C hh b2 dX8_fourAt_16 ?_
  refine lv_bipush (v := (16 : Int32)) hx hb dX8_fourAt_17 (by decide) ?_
  refine lv_ishl hx hb dX8_fourAt_19 ?_
  refine lv_ior hx hb dX8_fourAt_20 ?_
  refine lv_aload_n hx hb dX8_fourAt_21 rfl (lv_at hl 0 rfl) ?_
  refine gf_8_80 C hh dX8_fourAt_22 ?_
  refine lv_iload_n hx hb dX8_fourAt_25 rfl (lv_at hl 1 rfl) ?_
  refine lv_iconst (v := (2 : Int32)) hx hb dX8_fourAt_26 (by decide) ?_
  refine lv_iadd hx hb dX8_fourAt_27 ?_
  obtain ⟨b3, h⟩ := gd_e h
  refine al_829 C hh b3 dX8_fourAt_28 ?_
  refine lv_bipush (v := (8 : Int32)) hx hb dX8_fourAt_29 (by decide) ?_
  refine lv_ishl hx hb dX8_fourAt_31 ?_
  refine lv_ior hx hb dX8_fourAt_32 ?_
  refine lv_aload_n hx hb dX8_fourAt_33 rfl (lv_at hl 0 rfl) ?_
  refine gf_8_80 C hh dX8_fourAt_34 ?_
  refine lv_iload_n hx hb dX8_fourAt_37 rfl (lv_at hl 1 rfl) ?_
  refine lv_iconst (v := (3 : Int32)) hx hb dX8_fourAt_38 (by decide) ?_
  refine lv_iadd hx hb dX8_fourAt_39 ?_
  obtain ⟨b4, h⟩ := gd_e h
  refine al_829 C hh b4 dX8_fourAt_40 ?_
  refine lv_ior hx hb dX8_fourAt_41 ?_
  exact r_int C hh h dX8_fourAt_42
abbrev rm_X8_putFour : Room := { frames := 0, cells := 0, slots := 0, locals := 0 }
theorem HD_X8_putFour : yX8_putFour.cls = RX8 ∧ yX8_putFour.cls ≠ "java/lang/invoke/MethodHandle" ∧ yX8_putFour.cls ≠ "java/lang/invoke/VarHandle" ∧ (parseMethodDescriptor yX8_putFour.desc).map (fun d => d.parameters.length) = some 2 := by decide +kernel
def f_X8_putFour (x1 : Int32) (x2 : Int32) (σ : Mem) : Option (Mem) := gd (vin x1 64) (vl (up σ 829 0 (x1).toNatClampNeg (((x2).toUInt32 >>> (((24 : Int32)).toUInt32 &&& Int32.toUInt32 31)).toInt32)) (fun s2 => gd (vin (x1 + (1 : Int32)) 64) (vl (up s2 829 0 ((x1 + (1 : Int32))).toNatClampNeg ((x2 >>> ((16 : Int32) &&& 31)) &&& (255 : Int32))) (fun s5 => gd (vin (x1 + (2 : Int32)) 64) (vl (up s5 829 0 ((x1 + (2 : Int32))).toNatClampNeg ((x2 >>> ((8 : Int32) &&& 31)) &&& (255 : Int32))) (fun s8 => gd (vin (x1 + (3 : Int32)) 64) (vl (up s8 829 0 ((x1 + (3 : Int32))).toNatClampNeg (x2 &&& (255 : Int32))) (fun s11 => some s11))))))))
set_option maxHeartbeats 4000000 in
set_option maxRecDepth 100000 in
theorem c_X8_putFour {l : Launch} {D : va_G} {cA : Nat → ClassId} {ad : Nat → Nat → Nat} {A : Nat → Prop} {o : Nat → Int64} (hD0 : ∀ σ, va_D A (wW cA ad σ o)) (x1 : Int32) (x2 : Int32) (σ : Mem) {r : Mem} (h : f_X8_putFour x1 x2 σ = some r) : Met l yX8_putFour (wsG yX8_putFour cX8_putFour 3 none) rm_X8_putFour (va_Pc [.ref (ad 899 0), .int x1, .int x2] (IW D cA ad o σ)) (Qv D cA ad o A r) 0 0 A := by
  refine metG (by decide) (Nat.le_of_ble_eq_true rfl) hD0 ?_
  intro p e s m args below meth c C ls hh hl
  have C : Cx p s m args meth c cX8_putFour 3 RX8 none D cA ad A o := C
  have hl : lv_has ls 3 [(0, .ref (ad 899 0)), (1, .int x1), (2, .int x2)] := hl
  obtain ⟨⟨hx, hb, hml, hown, hts⟩, hK, hN, hD, hr, hlocks⟩ := id C
  unfold f_X8_putFour at h
  refine lv_aload_n hx hb dX8_putFour_0 rfl (lv_at hl 0 rfl) ?_
  refine gf_8_80 C hh dX8_putFour_1 ?_
  refine lv_iload_n hx hb dX8_putFour_4 rfl (lv_at hl 1 rfl) ?_
  refine lv_iload_n hx hb dX8_putFour_5 rfl (lv_at hl 2 rfl) ?_
  refine lv_bipush (v := (24 : Int32)) hx hb dX8_putFour_6 (by decide) ?_
  refine lv_iushr (v := ((x2).toUInt32 >>> (((24 : Int32)).toUInt32 &&& Int32.toUInt32 31)).toInt32) hx hb dX8_putFour_8 rfl ?_
  obtain ⟨b1, h⟩ := gd_e h
  obtain ⟨s2, e3, h⟩ := vl_e h
  refine as_829 C hh b1 dX8_putFour_9 (fun H locs hh => ?_)
  rw [← e3] at hh
  refine lv_aload_n hx hb dX8_putFour_10 rfl (lv_at hl 0 rfl) ?_
  refine gf_8_80 C hh dX8_putFour_11 ?_
  refine lv_iload_n hx hb dX8_putFour_14 rfl (lv_at hl 1 rfl) ?_
  refine lv_iconst (v := (1 : Int32)) hx hb dX8_putFour_15 (by decide) ?_
  refine lv_iadd hx hb dX8_putFour_16 ?_
  refine lv_iload_n hx hb dX8_putFour_17 rfl (lv_at hl 2 rfl) ?_
  refine lv_bipush (v := (16 : Int32)) hx hb dX8_putFour_18 (by decide) ?_
  refine lv_ishr hx hb dX8_putFour_20 ?_
  refine lv_sipush (v := (255 : Int32)) hx hb dX8_putFour_21 (by decide) ?_
  refine lv_iand hx hb dX8_putFour_24 ?_
  obtain ⟨b4, h⟩ := gd_e h
  obtain ⟨s5, e6, h⟩ := vl_e h
  refine as_829 C hh b4 dX8_putFour_25 (fun H locs hh => ?_)
  rw [← e6] at hh
  refine lv_aload_n hx hb dX8_putFour_26 rfl (lv_at hl 0 rfl) ?_
  refine gf_8_80 C hh dX8_putFour_27 ?_
  refine lv_iload_n hx hb dX8_putFour_30 rfl (lv_at hl 1 rfl) ?_
  refine lv_iconst (v := (2 : Int32)) hx hb dX8_putFour_31 (by decide) ?_
  refine lv_iadd hx hb dX8_putFour_32 ?_
  refine lv_iload_n hx hb dX8_putFour_33 rfl (lv_at hl 2 rfl) ?_
  refine lv_bipush (v := (8 : Int32)) hx hb dX8_putFour_34 (by decide) ?_
  refine lv_ishr hx hb dX8_putFour_36 ?_
  refine lv_sipush (v := (255 : Int32)) hx hb dX8_putFour_37 (by decide) ?_
  refine lv_iand hx hb dX8_putFour_40 ?_
  obtain ⟨b7, h⟩ := gd_e h
  obtain ⟨s8, e9, h⟩ := vl_e h
  refine as_829 C hh b7 dX8_putFour_41 (fun H locs hh => ?_)
  rw [← e9] at hh
  refine lv_aload_n hx hb dX8_putFour_42 rfl (lv_at hl 0 rfl) ?_
  refine gf_8_80 C hh dX8_putFour_43 ?_
  refine lv_iload_n hx hb dX8_putFour_46 rfl (lv_at hl 1 rfl) ?_
  refine lv_iconst (v := (3 : Int32)) hx hb dX8_putFour_47 (by decide) ?_
  refine lv_iadd hx hb dX8_putFour_48 ?_
  refine lv_iload_n hx hb dX8_putFour_49 rfl (lv_at hl 2 rfl) ?_
  refine lv_sipush (v := (255 : Int32)) hx hb dX8_putFour_50 (by decide) ?_
  refine lv_iand hx hb dX8_putFour_53 ?_
  obtain ⟨b10, h⟩ := gd_e h
  obtain ⟨s11, e12, h⟩ := vl_e h
  refine as_829 C hh b10 dX8_putFour_54 (fun H locs hh => ?_)
  rw [← e12] at hh
  exact r_void C hh h dX8_putFour_55
abbrev rm_X8_xidOf : Room := { frames := 1, cells := 0, slots := 0, locals := 21 }
theorem HD_X8_xidOf : yX8_xidOf.cls = RX8 ∧ yX8_xidOf.cls ≠ "java/lang/invoke/MethodHandle" ∧ yX8_xidOf.cls ≠ "java/lang/invoke/VarHandle" ∧ (parseMethodDescriptor yX8_xidOf.desc).map (fun d => d.parameters.length) = some 0 := by decide +kernel
def f_X8_xidOf (σ : Mem) : Option (Int32 × Mem) := bn (f_X8_fourAt (2 : Int32) σ) (fun r3 s2 => some (r3, s2))
set_option maxHeartbeats 4000000 in
set_option maxRecDepth 100000 in
theorem c_X8_xidOf {l : Launch} {D : va_G} {cA : Nat → ClassId} {ad : Nat → Nat → Nat} {A : Nat → Prop} {o : Nat → Int64} (hD0 : ∀ σ, va_D A (wW cA ad σ o)) (σ : Mem) {r : Int32 × Mem} (h : f_X8_xidOf σ = some r) : Met l yX8_xidOf (wsG yX8_xidOf cX8_xidOf 1 (some .int)) rm_X8_xidOf (va_Pc [.ref (ad 899 0)] (IW D cA ad o σ)) (Qi D cA ad o A r) 0 0 A := by
  refine metG (by decide) (Nat.le_of_ble_eq_true rfl) hD0 ?_
  intro p e s m args below meth c C ls hh hl
  have C : Cx p s m args meth c cX8_xidOf 1 RX8 (some .int) D cA ad A o := C
  have hl : lv_has ls 1 [(0, .ref (ad 899 0))] := hl
  obtain ⟨⟨hx, hb, hml, hown, hts⟩, hK, hN, hD, hr, hlocks⟩ := id C
  unfold f_X8_xidOf at h
  refine lv_aload_n hx hb dX8_xidOf_0 rfl (lv_at hl 0 rfl) ?_
  refine lv_iconst (v := (2 : Int32)) hx hb dX8_xidOf_1 (by decide) ?_
  obtain ⟨r3, s2, e1, h⟩ := bn_e h
  refine c_int hh (vrun (rest := []) C hh (c_X8_fourAt C.2.2.2.1 (2 : Int32) σ e1) LM_8_94 IM_X8_fourAt SL_X8_fourAt IN_8 CD_X8_fourAt HD_X8_fourAt ⟨rfl, rfl, Nat.le_of_ble_eq_true rfl, Nat.le_of_ble_eq_true rfl⟩ (rv_8 C hh) rfl hl.1 rfl (Nat.le_of_ble_eq_true rfl) dX8_xidOf_2 ⟨Nat.zero_le _, Nat.zero_le _⟩) (fun H locs hh => ?_)
  exact r_int C hh h dX8_xidOf_5
abbrev rm_X8_ciaddr : Room := { frames := 1, cells := 0, slots := 0, locals := 21 }
theorem HD_X8_ciaddr : yX8_ciaddr.cls = RX8 ∧ yX8_ciaddr.cls ≠ "java/lang/invoke/MethodHandle" ∧ yX8_ciaddr.cls ≠ "java/lang/invoke/VarHandle" ∧ (parseMethodDescriptor yX8_ciaddr.desc).map (fun d => d.parameters.length) = some 0 := by decide +kernel
def f_X8_ciaddr (σ : Mem) : Option (Int32 × Mem) := bn (f_X8_fourAt (6 : Int32) σ) (fun r3 s2 => some (r3, s2))
set_option maxHeartbeats 4000000 in
set_option maxRecDepth 100000 in
theorem c_X8_ciaddr {l : Launch} {D : va_G} {cA : Nat → ClassId} {ad : Nat → Nat → Nat} {A : Nat → Prop} {o : Nat → Int64} (hD0 : ∀ σ, va_D A (wW cA ad σ o)) (σ : Mem) {r : Int32 × Mem} (h : f_X8_ciaddr σ = some r) : Met l yX8_ciaddr (wsG yX8_ciaddr cX8_ciaddr 1 (some .int)) rm_X8_ciaddr (va_Pc [.ref (ad 899 0)] (IW D cA ad o σ)) (Qi D cA ad o A r) 0 0 A := by
  refine metG (by decide) (Nat.le_of_ble_eq_true rfl) hD0 ?_
  intro p e s m args below meth c C ls hh hl
  have C : Cx p s m args meth c cX8_ciaddr 1 RX8 (some .int) D cA ad A o := C
  have hl : lv_has ls 1 [(0, .ref (ad 899 0))] := hl
  obtain ⟨⟨hx, hb, hml, hown, hts⟩, hK, hN, hD, hr, hlocks⟩ := id C
  unfold f_X8_ciaddr at h
  refine lv_aload_n hx hb dX8_ciaddr_0 rfl (lv_at hl 0 rfl) ?_
  refine lv_bipush (v := (6 : Int32)) hx hb dX8_ciaddr_1 (by decide) ?_
  obtain ⟨r3, s2, e1, h⟩ := bn_e h
  refine c_int hh (vrun (rest := []) C hh (c_X8_fourAt C.2.2.2.1 (6 : Int32) σ e1) LM_8_94 IM_X8_fourAt SL_X8_fourAt IN_8 CD_X8_fourAt HD_X8_fourAt ⟨rfl, rfl, Nat.le_of_ble_eq_true rfl, Nat.le_of_ble_eq_true rfl⟩ (rv_8 C hh) rfl hl.1 rfl (Nat.le_of_ble_eq_true rfl) dX8_ciaddr_3 ⟨Nat.zero_le _, Nat.zero_le _⟩) (fun H locs hh => ?_)
  exact r_int C hh h dX8_ciaddr_6
abbrev rm_X8_yiaddr : Room := { frames := 1, cells := 0, slots := 0, locals := 21 }
theorem HD_X8_yiaddr : yX8_yiaddr.cls = RX8 ∧ yX8_yiaddr.cls ≠ "java/lang/invoke/MethodHandle" ∧ yX8_yiaddr.cls ≠ "java/lang/invoke/VarHandle" ∧ (parseMethodDescriptor yX8_yiaddr.desc).map (fun d => d.parameters.length) = some 0 := by decide +kernel
def f_X8_yiaddr (σ : Mem) : Option (Int32 × Mem) := bn (f_X8_fourAt (10 : Int32) σ) (fun r3 s2 => some (r3, s2))
set_option maxHeartbeats 4000000 in
set_option maxRecDepth 100000 in
theorem c_X8_yiaddr {l : Launch} {D : va_G} {cA : Nat → ClassId} {ad : Nat → Nat → Nat} {A : Nat → Prop} {o : Nat → Int64} (hD0 : ∀ σ, va_D A (wW cA ad σ o)) (σ : Mem) {r : Int32 × Mem} (h : f_X8_yiaddr σ = some r) : Met l yX8_yiaddr (wsG yX8_yiaddr cX8_yiaddr 1 (some .int)) rm_X8_yiaddr (va_Pc [.ref (ad 899 0)] (IW D cA ad o σ)) (Qi D cA ad o A r) 0 0 A := by
  refine metG (by decide) (Nat.le_of_ble_eq_true rfl) hD0 ?_
  intro p e s m args below meth c C ls hh hl
  have C : Cx p s m args meth c cX8_yiaddr 1 RX8 (some .int) D cA ad A o := C
  have hl : lv_has ls 1 [(0, .ref (ad 899 0))] := hl
  obtain ⟨⟨hx, hb, hml, hown, hts⟩, hK, hN, hD, hr, hlocks⟩ := id C
  unfold f_X8_yiaddr at h
  refine lv_aload_n hx hb dX8_yiaddr_0 rfl (lv_at hl 0 rfl) ?_
  refine lv_bipush (v := (10 : Int32)) hx hb dX8_yiaddr_1 (by decide) ?_
  obtain ⟨r3, s2, e1, h⟩ := bn_e h
  refine c_int hh (vrun (rest := []) C hh (c_X8_fourAt C.2.2.2.1 (10 : Int32) σ e1) LM_8_94 IM_X8_fourAt SL_X8_fourAt IN_8 CD_X8_fourAt HD_X8_fourAt ⟨rfl, rfl, Nat.le_of_ble_eq_true rfl, Nat.le_of_ble_eq_true rfl⟩ (rv_8 C hh) rfl hl.1 rfl (Nat.le_of_ble_eq_true rfl) dX8_yiaddr_3 ⟨Nat.zero_le _, Nat.zero_le _⟩) (fun H locs hh => ?_)
  exact r_int C hh h dX8_yiaddr_6
abbrev rm_X8_giaddr : Room := { frames := 1, cells := 0, slots := 0, locals := 21 }
theorem HD_X8_giaddr : yX8_giaddr.cls = RX8 ∧ yX8_giaddr.cls ≠ "java/lang/invoke/MethodHandle" ∧ yX8_giaddr.cls ≠ "java/lang/invoke/VarHandle" ∧ (parseMethodDescriptor yX8_giaddr.desc).map (fun d => d.parameters.length) = some 0 := by decide +kernel
def f_X8_giaddr (σ : Mem) : Option (Int32 × Mem) := bn (f_X8_fourAt (14 : Int32) σ) (fun r3 s2 => some (r3, s2))
set_option maxHeartbeats 4000000 in
set_option maxRecDepth 100000 in
theorem c_X8_giaddr {l : Launch} {D : va_G} {cA : Nat → ClassId} {ad : Nat → Nat → Nat} {A : Nat → Prop} {o : Nat → Int64} (hD0 : ∀ σ, va_D A (wW cA ad σ o)) (σ : Mem) {r : Int32 × Mem} (h : f_X8_giaddr σ = some r) : Met l yX8_giaddr (wsG yX8_giaddr cX8_giaddr 1 (some .int)) rm_X8_giaddr (va_Pc [.ref (ad 899 0)] (IW D cA ad o σ)) (Qi D cA ad o A r) 0 0 A := by
  refine metG (by decide) (Nat.le_of_ble_eq_true rfl) hD0 ?_
  intro p e s m args below meth c C ls hh hl
  have C : Cx p s m args meth c cX8_giaddr 1 RX8 (some .int) D cA ad A o := C
  have hl : lv_has ls 1 [(0, .ref (ad 899 0))] := hl
  obtain ⟨⟨hx, hb, hml, hown, hts⟩, hK, hN, hD, hr, hlocks⟩ := id C
  unfold f_X8_giaddr at h
  refine lv_aload_n hx hb dX8_giaddr_0 rfl (lv_at hl 0 rfl) ?_
  refine lv_bipush (v := (14 : Int32)) hx hb dX8_giaddr_1 (by decide) ?_
  obtain ⟨r3, s2, e1, h⟩ := bn_e h
  refine c_int hh (vrun (rest := []) C hh (c_X8_fourAt C.2.2.2.1 (14 : Int32) σ e1) LM_8_94 IM_X8_fourAt SL_X8_fourAt IN_8 CD_X8_fourAt HD_X8_fourAt ⟨rfl, rfl, Nat.le_of_ble_eq_true rfl, Nat.le_of_ble_eq_true rfl⟩ (rv_8 C hh) rfl hl.1 rfl (Nat.le_of_ble_eq_true rfl) dX8_giaddr_3 ⟨Nat.zero_le _, Nat.zero_le _⟩) (fun H locs hh => ?_)
  exact r_int C hh h dX8_giaddr_6
abbrev rm_X8_takeOption : Room := { frames := 1, cells := 0, slots := 0, locals := 21 }
theorem HD_X8_takeOption : yX8_takeOption.cls = RX8 ∧ yX8_takeOption.cls ≠ "java/lang/invoke/MethodHandle" ∧ yX8_takeOption.cls ≠ "java/lang/invoke/VarHandle" ∧ (parseMethodDescriptor yX8_takeOption.desc).map (fun d => d.parameters.length) = some 2 := by decide +kernel
def f_X8_takeOption (x1 : Int32) (x2 : Int32) (σ : Mem) : Option (Mem) := (if x1 = (53 : Int32) then gd (vin x2 64) (vl (up σ 833 0 0 (σ 829 0 (x2).toNatClampNeg)) (fun s20 => some s20)) else (if x1 = (50 : Int32) then bn (f_X8_fourAt x2 σ) (fun r16 s15 => vl (up s15 834 0 0 r16) (fun s17 => some s17)) else (if x1 = (51 : Int32) then bn (f_X8_fourAt x2 σ) (fun r11 s10 => vl (up s10 835 0 0 r11) (fun s12 => some s12)) else bn (f_X8_fourAt x2 σ) (fun r6 s5 => vl (up s5 836 0 0 r6) (fun s7 => some s7)))))
set_option maxHeartbeats 4000000 in
set_option maxRecDepth 100000 in
theorem c_X8_takeOption {l : Launch} {D : va_G} {cA : Nat → ClassId} {ad : Nat → Nat → Nat} {A : Nat → Prop} {o : Nat → Int64} (hD0 : ∀ σ, va_D A (wW cA ad σ o)) (x1 : Int32) (x2 : Int32) (σ : Mem) {r : Mem} (h : f_X8_takeOption x1 x2 σ = some r) : Met l yX8_takeOption (wsG yX8_takeOption cX8_takeOption 3 none) rm_X8_takeOption (va_Pc [.ref (ad 899 0), .int x1, .int x2] (IW D cA ad o σ)) (Qv D cA ad o A r) 0 0 A := by
  refine metG (by decide) (Nat.le_of_ble_eq_true rfl) hD0 ?_
  intro p e s m args below meth c C ls hh hl
  have C : Cx p s m args meth c cX8_takeOption 3 RX8 none D cA ad A o := C
  have hl : lv_has ls 3 [(0, .ref (ad 899 0)), (1, .int x1), (2, .int x2)] := hl
  obtain ⟨⟨hx, hb, hml, hown, hts⟩, hK, hN, hD, hr, hlocks⟩ := id C
  unfold f_X8_takeOption at h
  refine lv_iload_n hx hb dX8_takeOption_0 rfl (lv_at hl 1 rfl) ?_
  refine lv_bipush (v := (53 : Int32)) hx hb dX8_takeOption_1 (by decide) ?_
  refine lv_icmp_ne (tgt := 19) hx hb dX8_takeOption_3 (by decide) (fun c1 => ?_) (fun c1 => ?_)
  · rw [if_neg c1] at h
    refine lv_iload_n hx hb dX8_takeOption_19 rfl (lv_at hl 1 rfl) ?_
    refine lv_bipush (v := (50 : Int32)) hx hb dX8_takeOption_20 (by decide) ?_
    refine lv_icmp_ne (tgt := 37) hx hb dX8_takeOption_22 (by decide) (fun c2 => ?_) (fun c2 => ?_)
    · rw [if_neg c2] at h
      refine lv_iload_n hx hb dX8_takeOption_37 rfl (lv_at hl 1 rfl) ?_
      refine lv_bipush (v := (51 : Int32)) hx hb dX8_takeOption_38 (by decide) ?_
      refine lv_icmp_ne (tgt := 55) hx hb dX8_takeOption_40 (by decide) (fun c3 => ?_) (fun c3 => ?_)
      · rw [if_neg c3] at h
        refine lv_aload_n hx hb dX8_takeOption_55 rfl (lv_at hl 0 rfl) ?_
        refine lv_aload_n hx hb dX8_takeOption_56 rfl (lv_at hl 0 rfl) ?_
        refine lv_iload_n hx hb dX8_takeOption_57 rfl (lv_at hl 2 rfl) ?_
        obtain ⟨r6, s5, e4, h⟩ := bn_e h
        refine c_int hh (vrun (rest := [.ref (ad 899 0)]) C hh (c_X8_fourAt C.2.2.2.1 x2 σ e4) LM_8_94 IM_X8_fourAt SL_X8_fourAt IN_8 CD_X8_fourAt HD_X8_fourAt ⟨rfl, rfl, Nat.le_of_ble_eq_true rfl, Nat.le_of_ble_eq_true rfl⟩ (rv_8 C hh) rfl hl.1 rfl (Nat.le_of_ble_eq_true rfl) dX8_takeOption_58 ⟨Nat.zero_le _, Nat.zero_le _⟩) (fun H locs hh => ?_)
        obtain ⟨s7, e8, h⟩ := vl_e h
        refine pf_8_107 C hh dX8_takeOption_61 (fun H locs hh => ?_)
        rw [← e8] at hh
        exact r_void C hh h dX8_takeOption_64
      · rw [if_pos c3] at h
        refine lv_aload_n hx hb dX8_takeOption_43 rfl (lv_at hl 0 rfl) ?_
        refine lv_aload_n hx hb dX8_takeOption_44 rfl (lv_at hl 0 rfl) ?_
        refine lv_iload_n hx hb dX8_takeOption_45 rfl (lv_at hl 2 rfl) ?_
        obtain ⟨r11, s10, e9, h⟩ := bn_e h
        refine c_int hh (vrun (rest := [.ref (ad 899 0)]) C hh (c_X8_fourAt C.2.2.2.1 x2 σ e9) LM_8_94 IM_X8_fourAt SL_X8_fourAt IN_8 CD_X8_fourAt HD_X8_fourAt ⟨rfl, rfl, Nat.le_of_ble_eq_true rfl, Nat.le_of_ble_eq_true rfl⟩ (rv_8 C hh) rfl hl.1 rfl (Nat.le_of_ble_eq_true rfl) dX8_takeOption_46 ⟨Nat.zero_le _, Nat.zero_le _⟩) (fun H locs hh => ?_)
        obtain ⟨s12, e13, h⟩ := vl_e h
        refine pf_8_104 C hh dX8_takeOption_49 (fun H locs hh => ?_)
        rw [← e13] at hh
        refine lv_goto (tgt := 64) hx hb dX8_takeOption_52 (by decide) ?_
        exact r_void C hh h dX8_takeOption_64
    · rw [if_pos c2] at h
      refine lv_aload_n hx hb dX8_takeOption_25 rfl (lv_at hl 0 rfl) ?_
      refine lv_aload_n hx hb dX8_takeOption_26 rfl (lv_at hl 0 rfl) ?_
      refine lv_iload_n hx hb dX8_takeOption_27 rfl (lv_at hl 2 rfl) ?_
      obtain ⟨r16, s15, e14, h⟩ := bn_e h
      refine c_int hh (vrun (rest := [.ref (ad 899 0)]) C hh (c_X8_fourAt C.2.2.2.1 x2 σ e14) LM_8_94 IM_X8_fourAt SL_X8_fourAt IN_8 CD_X8_fourAt HD_X8_fourAt ⟨rfl, rfl, Nat.le_of_ble_eq_true rfl, Nat.le_of_ble_eq_true rfl⟩ (rv_8 C hh) rfl hl.1 rfl (Nat.le_of_ble_eq_true rfl) dX8_takeOption_28 ⟨Nat.zero_le _, Nat.zero_le _⟩) (fun H locs hh => ?_)
      obtain ⟨s17, e18, h⟩ := vl_e h
      refine pf_8_101 C hh dX8_takeOption_31 (fun H locs hh => ?_)
      rw [← e18] at hh
      refine lv_goto (tgt := 64) hx hb dX8_takeOption_34 (by decide) ?_
      exact r_void C hh h dX8_takeOption_64
  · rw [if_pos c1] at h
    refine lv_aload_n hx hb dX8_takeOption_6 rfl (lv_at hl 0 rfl) ?_
    refine lv_aload_n hx hb dX8_takeOption_7 rfl (lv_at hl 0 rfl) ?_
    refine gf_8_80 C hh dX8_takeOption_8 ?_
    refine lv_iload_n hx hb dX8_takeOption_11 rfl (lv_at hl 2 rfl) ?_
    obtain ⟨b19, h⟩ := gd_e h
    refine al_829 C hh b19 dX8_takeOption_12 ?_
    obtain ⟨s20, e21, h⟩ := vl_e h
    refine pf_8_98 C hh dX8_takeOption_13 (fun H locs hh => ?_)
    rw [← e21] at hh
    refine lv_goto (tgt := 64) hx hb dX8_takeOption_16 (by decide) ?_
    exact r_void C hh h dX8_takeOption_64
abbrev rm_X8_look : Room := { frames := 2, cells := 0, slots := 0, locals := 43 }
theorem HD_X8_look : yX8_look.cls = RX8 ∧ yX8_look.cls ≠ "java/lang/invoke/MethodHandle" ∧ yX8_look.cls ≠ "java/lang/invoke/VarHandle" ∧ (parseMethodDescriptor yX8_look.desc).map (fun d => d.parameters.length) = some 0 := by decide +kernel
def f_X8_look_234 (K74 : Int32 → Int32 → Mem → Option (Mem)) (x1 : Int32) (x2 : Int32) (σ : Mem) : Option (Mem) := K74 x1 x2 σ
set_option maxHeartbeats 4000000 in
set_option maxRecDepth 100000 in
theorem k_X8_look_234 {p : Program} {l : Launch} {e : Env} {s : State} {m : MethodId} {args : Array Value} {below : List Frame} {meth : Method} {c : Code} {D : va_G} {cA : Nat → ClassId} {ad : Nat → Nat → Nat} {A : Nat → Prop} {o : Nat → Int64} (C : Cx p s m args meth c cX8_look 6 RX8 none D cA ad A o) {K74 : Int32 → Int32 → Mem → Option (Mem)} {r : Mem} (hK74 : ∀ (x1 : Int32) (x2 : Int32) (σ : Mem) {H : Heap} {locs : List Loc}, K74 x1 x2 σ = some r → HH D cA ad A o s σ H locs → ∀ {ls : Array Slot}, lv_has ls 6 [(0, .ref (ad 899 0)), (1, .int x1), (2, .int x2)] → W p l e rm_X8_look s m args below meth c H locs 0 0 (MQ below (Qv D cA ad o A r) args s 0 0 A) (F0 m 74 ls [])) (x1 : Int32) (x2 : Int32) (σ : Mem) {H : Heap} {locs : List Loc} (h : f_X8_look_234 K74 x1 x2 σ = some r) (hh : HH D cA ad A o s σ H locs) {ls : Array Slot} (hl : lv_has ls 6 [(0, .ref (ad 899 0)), (1, .int x1), (2, .int x2)]) : W p l e rm_X8_look s m args below meth c H locs 0 0 (MQ below (Qv D cA ad o A r) args s 0 0 A) (F0 m 234 ls []) := by
  obtain ⟨⟨hx, hb, hml, hown, hts⟩, hK, hN, hD, hr, hlocks⟩ := id C
  unfold f_X8_look_234 at h
  refine lv_goto (tgt := 74) hx hb dX8_look_234 (by decide) ?_
  exact hK74 x1 x2 σ h hh (lv_sub hl [0, 1, 2] rfl)
def f_X8_look_227 (K74 : Int32 → Int32 → Mem → Option (Mem)) (x1 : Int32) (x2 : Int32) (x4 : Int32) (σ : Mem) : Option (Mem) := vl (((x1 + (2 : Int32)) + x4)) (fun v1 => f_X8_look_234 K74 v1 x2 σ)
set_option maxHeartbeats 4000000 in
set_option maxRecDepth 100000 in
theorem k_X8_look_227 {p : Program} {l : Launch} {e : Env} {s : State} {m : MethodId} {args : Array Value} {below : List Frame} {meth : Method} {c : Code} {D : va_G} {cA : Nat → ClassId} {ad : Nat → Nat → Nat} {A : Nat → Prop} {o : Nat → Int64} (C : Cx p s m args meth c cX8_look 6 RX8 none D cA ad A o) {K74 : Int32 → Int32 → Mem → Option (Mem)} {r : Mem} (hK74 : ∀ (x1 : Int32) (x2 : Int32) (σ : Mem) {H : Heap} {locs : List Loc}, K74 x1 x2 σ = some r → HH D cA ad A o s σ H locs → ∀ {ls : Array Slot}, lv_has ls 6 [(0, .ref (ad 899 0)), (1, .int x1), (2, .int x2)] → W p l e rm_X8_look s m args below meth c H locs 0 0 (MQ below (Qv D cA ad o A r) args s 0 0 A) (F0 m 74 ls [])) (x1 : Int32) (x2 : Int32) (x4 : Int32) (σ : Mem) {H : Heap} {locs : List Loc} (h : f_X8_look_227 K74 x1 x2 x4 σ = some r) (hh : HH D cA ad A o s σ H locs) {ls : Array Slot} (hl : lv_has ls 6 [(0, .ref (ad 899 0)), (1, .int x1), (2, .int x2), (4, .int x4)]) : W p l e rm_X8_look s m args below meth c H locs 0 0 (MQ below (Qv D cA ad o A r) args s 0 0 A) (F0 m 227 ls []) := by
  obtain ⟨⟨hx, hb, hml, hown, hts⟩, hK, hN, hD, hr, hlocks⟩ := id C
  unfold f_X8_look_227 at h
  refine lv_iload_n hx hb dX8_look_227 rfl (lv_at hl 1 rfl) ?_
  refine lv_iconst (v := (2 : Int32)) hx hb dX8_look_228 (by decide) ?_
  refine lv_iadd hx hb dX8_look_229 ?_
  refine lv_iload hx hb dX8_look_230 (lv_at hl 3 rfl) ?_
  refine lv_iadd hx hb dX8_look_232 ?_
  obtain ⟨v1, e2, h⟩ := vl_e h
  refine lv_nm e2 ?_
  refine lv_istore_n (lv' := [(1, .int v1), (0, .ref (ad 899 0)), (2, .int x2), (4, .int x4)]) hx hb dX8_look_233 rfl hl (by decide) rfl (fun ls hl => ?_)
  exact k_X8_look_234 C hK74 v1 x2 σ h hh (lv_sub hl [1, 0, 2] rfl)
def f_X8_look_214 (K74 : Int32 → Int32 → Mem → Option (Mem)) (x1 : Int32) (x2 : Int32) (x3 : Int32) (x4 : Int32) (x5 : Int32) (σ : Mem) : Option (Mem) := (if x5 = (0 : Int32) then f_X8_look_227 K74 x1 x2 x4 σ else bv (f_X8_takeOption x3 (x1 + (2 : Int32)) σ) (fun s3 => f_X8_look_227 K74 x1 x2 x4 s3))
set_option maxHeartbeats 4000000 in
set_option maxRecDepth 100000 in
theorem k_X8_look_214 {p : Program} {l : Launch} {e : Env} {s : State} {m : MethodId} {args : Array Value} {below : List Frame} {meth : Method} {c : Code} {D : va_G} {cA : Nat → ClassId} {ad : Nat → Nat → Nat} {A : Nat → Prop} {o : Nat → Int64} (C : Cx p s m args meth c cX8_look 6 RX8 none D cA ad A o) {K74 : Int32 → Int32 → Mem → Option (Mem)} {r : Mem} (hK74 : ∀ (x1 : Int32) (x2 : Int32) (σ : Mem) {H : Heap} {locs : List Loc}, K74 x1 x2 σ = some r → HH D cA ad A o s σ H locs → ∀ {ls : Array Slot}, lv_has ls 6 [(0, .ref (ad 899 0)), (1, .int x1), (2, .int x2)] → W p l e rm_X8_look s m args below meth c H locs 0 0 (MQ below (Qv D cA ad o A r) args s 0 0 A) (F0 m 74 ls [])) (x1 : Int32) (x2 : Int32) (x3 : Int32) (x4 : Int32) (x5 : Int32) (σ : Mem) {H : Heap} {locs : List Loc} (h : f_X8_look_214 K74 x1 x2 x3 x4 x5 σ = some r) (hh : HH D cA ad A o s σ H locs) {ls : Array Slot} (hl : lv_has ls 6 [(0, .ref (ad 899 0)), (1, .int x1), (2, .int x2), (3, .int x3), (4, .int x4), (5, .int x5)]) : W p l e rm_X8_look s m args below meth c H locs 0 0 (MQ below (Qv D cA ad o A r) args s 0 0 A) (F0 m 214 ls []) := by
  obtain ⟨⟨hx, hb, hml, hown, hts⟩, hK, hN, hD, hr, hlocks⟩ := id C
  unfold f_X8_look_214 at h
  refine lv_iload hx hb dX8_look_214 (lv_at hl 5 rfl) ?_
  refine lv_if_eq (tgt := 227) hx hb dX8_look_216 (by decide) (fun c1 => ?_) (fun c1 => ?_)
  · rw [if_pos c1] at h
    exact k_X8_look_227 C hK74 x1 x2 x4 σ h hh (lv_sub hl [0, 1, 2, 4] rfl)
  · rw [if_neg c1] at h
    refine lv_aload_n hx hb dX8_look_219 rfl (lv_at hl 0 rfl) ?_
    refine lv_iload_n hx hb dX8_look_220 rfl (lv_at hl 3 rfl) ?_
    refine lv_iload_n hx hb dX8_look_221 rfl (lv_at hl 1 rfl) ?_
    refine lv_iconst (v := (2 : Int32)) hx hb dX8_look_222 (by decide) ?_
    refine lv_iadd hx hb dX8_look_223 ?_
    obtain ⟨s3, e2, h⟩ := bv_e h
    refine c_void hh (vrun (rest := []) C hh (c_X8_takeOption C.2.2.2.1 x3 (x1 + (2 : Int32)) σ e2) LM_8_117 IM_X8_takeOption SL_X8_takeOption IN_8 CD_X8_takeOption HD_X8_takeOption ⟨rfl, rfl, Nat.le_of_ble_eq_true rfl, Nat.le_of_ble_eq_true rfl⟩ (rv_8 C hh) rfl hl.1 rfl (Nat.le_of_ble_eq_true rfl) dX8_look_224 ⟨Nat.zero_le _, Nat.zero_le _⟩) (fun H locs hh => ?_)
    exact k_X8_look_227 C hK74 x1 x2 x4 s3 h hh (lv_sub hl [0, 1, 2, 4] rfl)
def f_X8_look_208 (σ : Mem) : Option (Mem) := vl (up σ 832 0 0 (1 : Int32)) (fun s1 => some s1)
set_option maxHeartbeats 4000000 in
set_option maxRecDepth 100000 in
theorem k_X8_look_208 {p : Program} {l : Launch} {e : Env} {s : State} {m : MethodId} {args : Array Value} {below : List Frame} {meth : Method} {c : Code} {D : va_G} {cA : Nat → ClassId} {ad : Nat → Nat → Nat} {A : Nat → Prop} {o : Nat → Int64} (C : Cx p s m args meth c cX8_look 6 RX8 none D cA ad A o) {r : Mem} (σ : Mem) {H : Heap} {locs : List Loc} (h : f_X8_look_208 σ = some r) (hh : HH D cA ad A o s σ H locs) {ls : Array Slot} (hl : lv_has ls 6 [(0, .ref (ad 899 0))]) : W p l e rm_X8_look s m args below meth c H locs 0 0 (MQ below (Qv D cA ad o A r) args s 0 0 A) (F0 m 208 ls []) := by
  obtain ⟨⟨hx, hb, hml, hown, hts⟩, hK, hN, hD, hr, hlocks⟩ := id C
  unfold f_X8_look_208 at h
  refine lv_aload_n hx hb dX8_look_208 rfl (lv_at hl 0 rfl) ?_
  refine lv_iconst (v := (1 : Int32)) hx hb dX8_look_209 (by decide) ?_
  obtain ⟨s1, e2, h⟩ := vl_e h
  refine pf_8_113 C hh (by decide) dX8_look_210 (fun H locs hh => ?_)
  rw [← e2] at hh
  exact r_void C hh h dX8_look_213
def f_X8_look_205 (K74 : Int32 → Int32 → Mem → Option (Mem)) (x1 : Int32) (x2 : Int32) (x3 : Int32) (x4 : Int32) (x5 : Int32) (xs0 : Int32) (xs1 : Int32) (σ : Mem) : Option (Mem) := (if xs1 = xs0 then f_X8_look_214 K74 x1 x2 x3 x4 x5 σ else f_X8_look_208 σ)
set_option maxHeartbeats 4000000 in
set_option maxRecDepth 100000 in
theorem k_X8_look_205 {p : Program} {l : Launch} {e : Env} {s : State} {m : MethodId} {args : Array Value} {below : List Frame} {meth : Method} {c : Code} {D : va_G} {cA : Nat → ClassId} {ad : Nat → Nat → Nat} {A : Nat → Prop} {o : Nat → Int64} (C : Cx p s m args meth c cX8_look 6 RX8 none D cA ad A o) {K74 : Int32 → Int32 → Mem → Option (Mem)} {r : Mem} (hK74 : ∀ (x1 : Int32) (x2 : Int32) (σ : Mem) {H : Heap} {locs : List Loc}, K74 x1 x2 σ = some r → HH D cA ad A o s σ H locs → ∀ {ls : Array Slot}, lv_has ls 6 [(0, .ref (ad 899 0)), (1, .int x1), (2, .int x2)] → W p l e rm_X8_look s m args below meth c H locs 0 0 (MQ below (Qv D cA ad o A r) args s 0 0 A) (F0 m 74 ls [])) (x1 : Int32) (x2 : Int32) (x3 : Int32) (x4 : Int32) (x5 : Int32) (xs0 : Int32) (xs1 : Int32) (σ : Mem) {H : Heap} {locs : List Loc} (h : f_X8_look_205 K74 x1 x2 x3 x4 x5 xs0 xs1 σ = some r) (hh : HH D cA ad A o s σ H locs) {ls : Array Slot} (hl : lv_has ls 6 [(0, .ref (ad 899 0)), (1, .int x1), (2, .int x2), (3, .int x3), (4, .int x4), (5, .int x5)]) : W p l e rm_X8_look s m args below meth c H locs 0 0 (MQ below (Qv D cA ad o A r) args s 0 0 A) (F0 m 205 ls [.int xs0, .int xs1]) := by
  obtain ⟨⟨hx, hb, hml, hown, hts⟩, hK, hN, hD, hr, hlocks⟩ := id C
  unfold f_X8_look_205 at h
  refine lv_icmp_eq (tgt := 214) hx hb dX8_look_205 (by decide) (fun c1 => ?_) (fun c1 => ?_)
  · rw [if_pos c1] at h
    exact k_X8_look_214 C hK74 x1 x2 x3 x4 x5 σ h hh (lv_sub hl [0, 1, 2, 3, 4, 5] rfl)
  · rw [if_neg c1] at h
    exact k_X8_look_208 C σ h hh (lv_sub hl [0] rfl)
def f_X8_look_172 (K74 : Int32 → Int32 → Mem → Option (Mem)) (x1 : Int32) (x2 : Int32) (x3 : Int32) (x4 : Int32) (xs0 : Int32) (σ : Mem) : Option (Mem) := (if (σ 828 0 0) < ((x1 + (2 : Int32)) + x4) then f_X8_look_208 σ else (if xs0 = (0 : Int32) then f_X8_look_214 K74 x1 x2 x3 x4 xs0 σ else (if x3 = (53 : Int32) then f_X8_look_205 K74 x1 x2 x3 x4 xs0 (1 : Int32) x4 σ else f_X8_look_205 K74 x1 x2 x3 x4 xs0 (4 : Int32) x4 σ)))
set_option maxHeartbeats 4000000 in
set_option maxRecDepth 100000 in
theorem k_X8_look_172 {p : Program} {l : Launch} {e : Env} {s : State} {m : MethodId} {args : Array Value} {below : List Frame} {meth : Method} {c : Code} {D : va_G} {cA : Nat → ClassId} {ad : Nat → Nat → Nat} {A : Nat → Prop} {o : Nat → Int64} (C : Cx p s m args meth c cX8_look 6 RX8 none D cA ad A o) {K74 : Int32 → Int32 → Mem → Option (Mem)} {r : Mem} (hK74 : ∀ (x1 : Int32) (x2 : Int32) (σ : Mem) {H : Heap} {locs : List Loc}, K74 x1 x2 σ = some r → HH D cA ad A o s σ H locs → ∀ {ls : Array Slot}, lv_has ls 6 [(0, .ref (ad 899 0)), (1, .int x1), (2, .int x2)] → W p l e rm_X8_look s m args below meth c H locs 0 0 (MQ below (Qv D cA ad o A r) args s 0 0 A) (F0 m 74 ls [])) (x1 : Int32) (x2 : Int32) (x3 : Int32) (x4 : Int32) (xs0 : Int32) (σ : Mem) {H : Heap} {locs : List Loc} (h : f_X8_look_172 K74 x1 x2 x3 x4 xs0 σ = some r) (hh : HH D cA ad A o s σ H locs) {ls : Array Slot} (hl : lv_has ls 6 [(0, .ref (ad 899 0)), (1, .int x1), (2, .int x2), (3, .int x3), (4, .int x4)]) : W p l e rm_X8_look s m args below meth c H locs 0 0 (MQ below (Qv D cA ad o A r) args s 0 0 A) (F0 m 172 ls [.int xs0]) := by
  obtain ⟨⟨hx, hb, hml, hown, hts⟩, hK, hN, hD, hr, hlocks⟩ := id C
  unfold f_X8_look_172 at h
  refine lv_istore (lv' := [(5, .int xs0), (0, .ref (ad 899 0)), (1, .int x1), (2, .int x2), (3, .int x3), (4, .int x4)]) hx hb dX8_look_172 hl (by decide) rfl (fun ls hl => ?_)
  refine lv_iload_n hx hb dX8_look_174 rfl (lv_at hl 2 rfl) ?_
  refine lv_iconst (v := (2 : Int32)) hx hb dX8_look_175 (by decide) ?_
  refine lv_iadd hx hb dX8_look_176 ?_
  refine lv_iload hx hb dX8_look_177 (lv_at hl 5 rfl) ?_
  refine lv_iadd hx hb dX8_look_179 ?_
  refine lv_aload_n hx hb dX8_look_180 rfl (lv_at hl 1 rfl) ?_
  refine gf_8_110 C hh dX8_look_181 ?_
  refine lv_icmp_gt (tgt := 208) hx hb dX8_look_184 (by decide) (fun c1 => ?_) (fun c1 => ?_)
  · rw [if_pos c1] at h
    exact k_X8_look_208 C σ h hh (lv_sub hl [1] rfl)
  · rw [if_neg c1] at h
    refine lv_iload hx hb dX8_look_187 (lv_at hl 0 rfl) ?_
    refine lv_if_eq (tgt := 214) hx hb dX8_look_189 (by decide) (fun c2 => ?_) (fun c2 => ?_)
    · rw [if_pos c2] at h
      exact k_X8_look_214 C hK74 x1 x2 x3 x4 xs0 σ h hh (lv_sub hl [1, 2, 3, 4, 5, 0] rfl)
    · rw [if_neg c2] at h
      refine lv_iload hx hb dX8_look_192 (lv_at hl 5 rfl) ?_
      refine lv_iload_n hx hb dX8_look_194 rfl (lv_at hl 4 rfl) ?_
      refine lv_bipush (v := (53 : Int32)) hx hb dX8_look_195 (by decide) ?_
      refine lv_icmp_ne (tgt := 204) hx hb dX8_look_197 (by decide) (fun c3 => ?_) (fun c3 => ?_)
      · rw [if_neg c3] at h
        refine lv_iconst (v := (4 : Int32)) hx hb dX8_look_204 (by decide) ?_
        exact k_X8_look_205 C hK74 x1 x2 x3 x4 xs0 (4 : Int32) x4 σ h hh (lv_sub hl [1, 2, 3, 4, 5, 0] rfl)
      · rw [if_pos c3] at h
        refine lv_iconst (v := (1 : Int32)) hx hb dX8_look_200 (by decide) ?_
        refine lv_goto (tgt := 205) hx hb dX8_look_201 (by decide) ?_
        exact k_X8_look_205 C hK74 x1 x2 x3 x4 xs0 (1 : Int32) x4 σ h hh (lv_sub hl [1, 2, 3, 4, 5, 0] rfl)
def f_X8_look_167 (K74 : Int32 → Int32 → Mem → Option (Mem)) (x1 : Int32) (x2 : Int32) (x3 : Int32) (x4 : Int32) (σ : Mem) : Option (Mem) := f_X8_look_172 K74 x1 x2 x3 x4 (1 : Int32) σ
set_option maxHeartbeats 4000000 in
set_option maxRecDepth 100000 in
theorem k_X8_look_167 {p : Program} {l : Launch} {e : Env} {s : State} {m : MethodId} {args : Array Value} {below : List Frame} {meth : Method} {c : Code} {D : va_G} {cA : Nat → ClassId} {ad : Nat → Nat → Nat} {A : Nat → Prop} {o : Nat → Int64} (C : Cx p s m args meth c cX8_look 6 RX8 none D cA ad A o) {K74 : Int32 → Int32 → Mem → Option (Mem)} {r : Mem} (hK74 : ∀ (x1 : Int32) (x2 : Int32) (σ : Mem) {H : Heap} {locs : List Loc}, K74 x1 x2 σ = some r → HH D cA ad A o s σ H locs → ∀ {ls : Array Slot}, lv_has ls 6 [(0, .ref (ad 899 0)), (1, .int x1), (2, .int x2)] → W p l e rm_X8_look s m args below meth c H locs 0 0 (MQ below (Qv D cA ad o A r) args s 0 0 A) (F0 m 74 ls [])) (x1 : Int32) (x2 : Int32) (x3 : Int32) (x4 : Int32) (σ : Mem) {H : Heap} {locs : List Loc} (h : f_X8_look_167 K74 x1 x2 x3 x4 σ = some r) (hh : HH D cA ad A o s σ H locs) {ls : Array Slot} (hl : lv_has ls 6 [(0, .ref (ad 899 0)), (1, .int x1), (2, .int x2), (3, .int x3), (4, .int x4)]) : W p l e rm_X8_look s m args below meth c H locs 0 0 (MQ below (Qv D cA ad o A r) args s 0 0 A) (F0 m 167 ls []) := by
  obtain ⟨⟨hx, hb, hml, hown, hts⟩, hK, hN, hD, hr, hlocks⟩ := id C
  unfold f_X8_look_167 at h
  refine lv_iconst (v := (1 : Int32)) hx hb dX8_look_167 (by decide) ?_
  refine lv_goto (tgt := 172) hx hb dX8_look_168 (by decide) ?_
  exact k_X8_look_172 C hK74 x1 x2 x3 x4 (1 : Int32) σ h hh (lv_sub hl [0, 1, 2, 3, 4] rfl)
def f_X8_look_141 (K74 : Int32 → Int32 → Mem → Option (Mem)) (x1 : Int32) (x2 : Int32) (x3 : Int32) (xs0 : Int32) (σ : Mem) : Option (Mem) := (if x3 = (53 : Int32) then f_X8_look_167 K74 x1 x2 x3 xs0 σ else (if x3 = (50 : Int32) then f_X8_look_167 K74 x1 x2 x3 xs0 σ else (if x3 = (51 : Int32) then f_X8_look_167 K74 x1 x2 x3 xs0 σ else (if x3 = (54 : Int32) then f_X8_look_167 K74 x1 x2 x3 xs0 σ else f_X8_look_172 K74 x1 x2 x3 xs0 (0 : Int32) σ))))
set_option maxHeartbeats 4000000 in
set_option maxRecDepth 100000 in
theorem k_X8_look_141 {p : Program} {l : Launch} {e : Env} {s : State} {m : MethodId} {args : Array Value} {below : List Frame} {meth : Method} {c : Code} {D : va_G} {cA : Nat → ClassId} {ad : Nat → Nat → Nat} {A : Nat → Prop} {o : Nat → Int64} (C : Cx p s m args meth c cX8_look 6 RX8 none D cA ad A o) {K74 : Int32 → Int32 → Mem → Option (Mem)} {r : Mem} (hK74 : ∀ (x1 : Int32) (x2 : Int32) (σ : Mem) {H : Heap} {locs : List Loc}, K74 x1 x2 σ = some r → HH D cA ad A o s σ H locs → ∀ {ls : Array Slot}, lv_has ls 6 [(0, .ref (ad 899 0)), (1, .int x1), (2, .int x2)] → W p l e rm_X8_look s m args below meth c H locs 0 0 (MQ below (Qv D cA ad o A r) args s 0 0 A) (F0 m 74 ls [])) (x1 : Int32) (x2 : Int32) (x3 : Int32) (xs0 : Int32) (σ : Mem) {H : Heap} {locs : List Loc} (h : f_X8_look_141 K74 x1 x2 x3 xs0 σ = some r) (hh : HH D cA ad A o s σ H locs) {ls : Array Slot} (hl : lv_has ls 6 [(0, .ref (ad 899 0)), (1, .int x1), (2, .int x2), (3, .int x3)]) : W p l e rm_X8_look s m args below meth c H locs 0 0 (MQ below (Qv D cA ad o A r) args s 0 0 A) (F0 m 141 ls [.int xs0]) := by
  obtain ⟨⟨hx, hb, hml, hown, hts⟩, hK, hN, hD, hr, hlocks⟩ := id C
  unfold f_X8_look_141 at h
  refine lv_istore (lv' := [(4, .int xs0), (0, .ref (ad 899 0)), (1, .int x1), (2, .int x2), (3, .int x3)]) hx hb dX8_look_141 hl (by decide) rfl (fun ls hl => ?_)
  refine lv_iload_n hx hb dX8_look_143 rfl (lv_at hl 4 rfl) ?_
  refine lv_bipush (v := (53 : Int32)) hx hb dX8_look_144 (by decide) ?_
  refine lv_icmp_eq (tgt := 167) hx hb dX8_look_146 (by decide) (fun c1 => ?_) (fun c1 => ?_)
  · rw [if_pos c1] at h
    exact k_X8_look_167 C hK74 x1 x2 x3 xs0 σ h hh (lv_sub hl [1, 2, 3, 4, 0] rfl)
  · rw [if_neg c1] at h
    refine lv_iload_n hx hb dX8_look_149 rfl (lv_at hl 4 rfl) ?_
    refine lv_bipush (v := (50 : Int32)) hx hb dX8_look_150 (by decide) ?_
    refine lv_icmp_eq (tgt := 167) hx hb dX8_look_152 (by decide) (fun c2 => ?_) (fun c2 => ?_)
    · rw [if_pos c2] at h
      exact k_X8_look_167 C hK74 x1 x2 x3 xs0 σ h hh (lv_sub hl [1, 2, 3, 4, 0] rfl)
    · rw [if_neg c2] at h
      refine lv_iload_n hx hb dX8_look_155 rfl (lv_at hl 4 rfl) ?_
      refine lv_bipush (v := (51 : Int32)) hx hb dX8_look_156 (by decide) ?_
      refine lv_icmp_eq (tgt := 167) hx hb dX8_look_158 (by decide) (fun c3 => ?_) (fun c3 => ?_)
      · rw [if_pos c3] at h
        exact k_X8_look_167 C hK74 x1 x2 x3 xs0 σ h hh (lv_sub hl [1, 2, 3, 4, 0] rfl)
      · rw [if_neg c3] at h
        refine lv_iload_n hx hb dX8_look_161 rfl (lv_at hl 4 rfl) ?_
        refine lv_bipush (v := (54 : Int32)) hx hb dX8_look_162 (by decide) ?_
        refine lv_icmp_ne (tgt := 171) hx hb dX8_look_164 (by decide) (fun c4 => ?_) (fun c4 => ?_)
        · rw [if_neg c4] at h
          refine lv_iconst (v := (0 : Int32)) hx hb dX8_look_171 (by decide) ?_
          exact k_X8_look_172 C hK74 x1 x2 x3 xs0 (0 : Int32) σ h hh (lv_sub hl [1, 2, 3, 4, 0] rfl)
        · rw [if_pos c4] at h
          exact k_X8_look_167 C hK74 x1 x2 x3 xs0 σ h hh (lv_sub hl [1, 2, 3, 4, 0] rfl)
def f_X8_look_74 : Nat → Int32 → Int32 → Mem → Option (Mem)
  | 0, _, _, _ => none
  | n + 1, x1, x2, σ => (if x2 = (0 : Int32) then some σ else (if x1 < (σ 828 0 0) then gd (vin x1 64) ((if (σ 829 0 (x1).toNatClampNeg) = (255 : Int32) then some σ else (if (σ 829 0 (x1).toNatClampNeg) = (0 : Int32) then vl (x1 + (1 : Int32)) (fun v8 => f_X8_look_234 (f_X8_look_74 n) v8 x2 σ) else (if (σ 828 0 0) ≤ (x1 + (1 : Int32)) then f_X8_look_141 (f_X8_look_74 n) x1 x2 (σ 829 0 (x1).toNatClampNeg) (1000 : Int32) σ else gd (vin (x1 + (1 : Int32)) 64) (f_X8_look_141 (f_X8_look_74 n) x1 x2 (σ 829 0 (x1).toNatClampNeg) (σ 829 0 ((x1 + (1 : Int32))).toNatClampNeg) σ))))) else vl (up σ 832 0 0 (1 : Int32)) (fun s10 => some s10)))
set_option maxHeartbeats 4000000 in
set_option maxRecDepth 100000 in
theorem k_X8_look_74 {p : Program} {l : Launch} {e : Env} {s : State} {m : MethodId} {args : Array Value} {below : List Frame} {meth : Method} {c : Code} {D : va_G} {cA : Nat → ClassId} {ad : Nat → Nat → Nat} {A : Nat → Prop} {o : Nat → Int64} (C : Cx p s m args meth c cX8_look 6 RX8 none D cA ad A o) {r : Mem} : ∀ (n : Nat) (x1 : Int32) (x2 : Int32) (σ : Mem) {H : Heap} {locs : List Loc} (h : f_X8_look_74 n x1 x2 σ = some r) (hh : HH D cA ad A o s σ H locs) {ls : Array Slot} (hl : lv_has ls 6 [(0, .ref (ad 899 0)), (1, .int x1), (2, .int x2)]), W p l e rm_X8_look s m args below meth c H locs 0 0 (MQ below (Qv D cA ad o A r) args s 0 0 A) (F0 m 74 ls []) := by
  obtain ⟨⟨hx, hb, hml, hown, hts⟩, hK, hN, hD, hr, hlocks⟩ := id C
  intro n
  induction n with
  | zero =>
    intro x1 x2 σ H locs h
    rw [f_X8_look_74.eq_1] at h
    cases h
  | succ n ih =>
    intro x1 x2 σ H locs h hh ls hl
    rw [f_X8_look_74.eq_2] at h
    refine lv_iload_n hx hb dX8_look_74 rfl (lv_at hl 2 rfl) ?_
    refine lv_if_eq (tgt := 237) hx hb dX8_look_75 (by decide) (fun c1 => ?_) (fun c1 => ?_)
    · rw [if_pos c1] at h
      exact r_void C hh h dX8_look_237
    · rw [if_neg c1] at h
      refine lv_iload_n hx hb dX8_look_78 rfl (lv_at hl 1 rfl) ?_
      refine lv_aload_n hx hb dX8_look_79 rfl (lv_at hl 0 rfl) ?_
      refine gf_8_110 C hh dX8_look_80 ?_
      refine lv_icmp_lt (tgt := 92) hx hb dX8_look_83 (by decide) (fun c2 => ?_) (fun c2 => ?_)
      · rw [if_pos c2] at h
        refine lv_aload_n hx hb dX8_look_92 rfl (lv_at hl 0 rfl) ?_
        refine gf_8_80 C hh dX8_look_93 ?_
        refine lv_iload_n hx hb dX8_look_96 rfl (lv_at hl 1 rfl) ?_
        obtain ⟨b3, h⟩ := gd_e h
        refine al_829 C hh b3 dX8_look_97 ?_
        refine lv_istore_n (lv' := [(3, .int (σ 829 0 (x1).toNatClampNeg)), (0, .ref (ad 899 0)), (1, .int x1), (2, .int x2)]) hx hb dX8_look_98 rfl hl (by decide) rfl (fun ls hl => ?_)
        refine lv_iload_n hx hb dX8_look_99 rfl (lv_at hl 0 rfl) ?_
        refine lv_sipush (v := (255 : Int32)) hx hb dX8_look_100 (by decide) ?_
        refine lv_icmp_ne (tgt := 107) hx hb dX8_look_103 (by decide) (fun c4 => ?_) (fun c4 => ?_)
        · rw [if_neg c4] at h
          refine lv_iload_n hx hb dX8_look_107 rfl (lv_at hl 0 rfl) ?_
          refine lv_if_ne (tgt := 117) hx hb dX8_look_108 (by decide) (fun c5 => ?_) (fun c5 => ?_)
          · rw [if_neg c5] at h
            refine lv_iload_n hx hb dX8_look_117 rfl (lv_at hl 2 rfl) ?_
            refine lv_iconst (v := (1 : Int32)) hx hb dX8_look_118 (by decide) ?_
            refine lv_iadd hx hb dX8_look_119 ?_
            refine lv_aload_n hx hb dX8_look_120 rfl (lv_at hl 1 rfl) ?_
            refine gf_8_110 C hh dX8_look_121 ?_
            refine lv_icmp_ge (tgt := 138) hx hb dX8_look_124 (by decide) (fun c6 => ?_) (fun c6 => ?_)
            · rw [if_pos c6] at h
              refine lv_sipush (v := (1000 : Int32)) hx hb dX8_look_138 (by decide) ?_
              exact k_X8_look_141 C ih x1 x2 (σ 829 0 (x1).toNatClampNeg) (1000 : Int32) σ h hh (lv_sub hl [1, 2, 3, 0] rfl)
            · rw [if_neg c6] at h
              refine lv_aload_n hx hb dX8_look_127 rfl (lv_at hl 1 rfl) ?_
              refine gf_8_80 C hh dX8_look_128 ?_
              refine lv_iload_n hx hb dX8_look_131 rfl (lv_at hl 2 rfl) ?_
              refine lv_iconst (v := (1 : Int32)) hx hb dX8_look_132 (by decide) ?_
              refine lv_iadd hx hb dX8_look_133 ?_
              obtain ⟨b7, h⟩ := gd_e h
              refine al_829 C hh b7 dX8_look_134 ?_
              refine lv_goto (tgt := 141) hx hb dX8_look_135 (by decide) ?_
              exact k_X8_look_141 C ih x1 x2 (σ 829 0 (x1).toNatClampNeg) (σ 829 0 ((x1 + (1 : Int32))).toNatClampNeg) σ h hh (lv_sub hl [1, 2, 3, 0] rfl)
          · rw [if_pos c5] at h
            obtain ⟨v8, e9, h⟩ := vl_e h
            refine lv_iinc (v := v8) (lv' := [(1, .int v8), (3, .int (σ 829 0 (x1).toNatClampNeg)), (0, .ref (ad 899 0)), (2, .int x2)]) hx hb dX8_look_111 hl (k := 2) rfl (by rw [e9]; rfl) (by decide) rfl (fun ls hl => ?_)
            refine lv_goto (tgt := 234) hx hb dX8_look_114 (by decide) ?_
            exact k_X8_look_234 C ih v8 x2 σ h hh (lv_sub hl [2, 0, 3] rfl)
        · rw [if_pos c4] at h
          exact r_void C hh h dX8_look_106
      · rw [if_neg c2] at h
        refine lv_aload_n hx hb dX8_look_86 rfl (lv_at hl 0 rfl) ?_
        refine lv_iconst (v := (1 : Int32)) hx hb dX8_look_87 (by decide) ?_
        obtain ⟨s10, e11, h⟩ := vl_e h
        refine pf_8_113 C hh (by decide) dX8_look_88 (fun H locs hh => ?_)
        rw [← e11] at hh
        exact r_void C hh h dX8_look_91
def f_X8_look_73 (x1 : Int32) (xs0 : Int32) (σ : Mem) : Option (Mem) := f_X8_look_74 5000 x1 xs0 σ
set_option maxHeartbeats 4000000 in
set_option maxRecDepth 100000 in
theorem k_X8_look_73 {p : Program} {l : Launch} {e : Env} {s : State} {m : MethodId} {args : Array Value} {below : List Frame} {meth : Method} {c : Code} {D : va_G} {cA : Nat → ClassId} {ad : Nat → Nat → Nat} {A : Nat → Prop} {o : Nat → Int64} (C : Cx p s m args meth c cX8_look 6 RX8 none D cA ad A o) {r : Mem} (x1 : Int32) (xs0 : Int32) (σ : Mem) {H : Heap} {locs : List Loc} (h : f_X8_look_73 x1 xs0 σ = some r) (hh : HH D cA ad A o s σ H locs) {ls : Array Slot} (hl : lv_has ls 6 [(0, .ref (ad 899 0)), (1, .int x1)]) : W p l e rm_X8_look s m args below meth c H locs 0 0 (MQ below (Qv D cA ad o A r) args s 0 0 A) (F0 m 73 ls [.int xs0]) := by
  obtain ⟨⟨hx, hb, hml, hown, hts⟩, hK, hN, hD, hr, hlocks⟩ := id C
  unfold f_X8_look_73 at h
  refine lv_istore_n (lv' := [(2, .int xs0), (0, .ref (ad 899 0)), (1, .int x1)]) hx hb dX8_look_73 rfl hl (by decide) rfl (fun ls hl => ?_)
  exact k_X8_look_74 C 5000 x1 xs0 σ h hh (lv_sub hl [1, 2, 0] rfl)
def f_X8_look_55 (xs0 : Int32) (σ : Mem) : Option (Mem) := gd (zo xs0) (vl (up σ 832 0 0 xs0) (fun s2 => (if (s2 832 0 0) = (0 : Int32) then f_X8_look_73 (19 : Int32) (1 : Int32) s2 else f_X8_look_73 (19 : Int32) (0 : Int32) s2)))
set_option maxHeartbeats 4000000 in
set_option maxRecDepth 100000 in
theorem k_X8_look_55 {p : Program} {l : Launch} {e : Env} {s : State} {m : MethodId} {args : Array Value} {below : List Frame} {meth : Method} {c : Code} {D : va_G} {cA : Nat → ClassId} {ad : Nat → Nat → Nat} {A : Nat → Prop} {o : Nat → Int64} (C : Cx p s m args meth c cX8_look 6 RX8 none D cA ad A o) {r : Mem} (xs0 : Int32) (σ : Mem) {H : Heap} {locs : List Loc} (h : f_X8_look_55 xs0 σ = some r) (hh : HH D cA ad A o s σ H locs) {ls : Array Slot} (hl : lv_has ls 6 [(0, .ref (ad 899 0))]) : W p l e rm_X8_look s m args below meth c H locs 0 0 (MQ below (Qv D cA ad o A r) args s 0 0 A) (F0 m 55 ls [.int xs0, .ref (ad 899 0)]) := by
  obtain ⟨⟨hx, hb, hml, hown, hts⟩, hK, hN, hD, hr, hlocks⟩ := id C
  unfold f_X8_look_55 at h
  obtain ⟨b1, h⟩ := gd_e h
  obtain ⟨s2, e3, h⟩ := vl_e h
  refine pf_8_113 C hh b1 dX8_look_55 (fun H locs hh => ?_)
  rw [← e3] at hh
  refine lv_bipush (v := (19 : Int32)) hx hb dX8_look_58 (by decide) ?_
  refine lv_istore_n (lv' := [(1, .int (19 : Int32)), (0, .ref (ad 899 0))]) hx hb dX8_look_60 rfl hl (by decide) rfl (fun ls hl => ?_)
  refine lv_aload_n hx hb dX8_look_61 rfl (lv_at hl 1 rfl) ?_
  refine gf_8_113 C hh dX8_look_62 ?_
  refine lv_if_ne (tgt := 72) hx hb dX8_look_65 (by decide) (fun c4 => ?_) (fun c4 => ?_)
  · rw [if_neg c4] at h
    refine lv_iconst (v := (0 : Int32)) hx hb dX8_look_72 (by decide) ?_
    exact k_X8_look_73 C (19 : Int32) (0 : Int32) s2 h hh (lv_sub hl [1, 0] rfl)
  · rw [if_pos c4] at h
    refine lv_iconst (v := (1 : Int32)) hx hb dX8_look_68 (by decide) ?_
    refine lv_goto (tgt := 73) hx hb dX8_look_69 (by decide) ?_
    exact k_X8_look_73 C (19 : Int32) (1 : Int32) s2 h hh (lv_sub hl [1, 0] rfl)
def f_X8_look_50 (σ : Mem) : Option (Mem) := f_X8_look_55 (1 : Int32) σ
set_option maxHeartbeats 4000000 in
set_option maxRecDepth 100000 in
theorem k_X8_look_50 {p : Program} {l : Launch} {e : Env} {s : State} {m : MethodId} {args : Array Value} {below : List Frame} {meth : Method} {c : Code} {D : va_G} {cA : Nat → ClassId} {ad : Nat → Nat → Nat} {A : Nat → Prop} {o : Nat → Int64} (C : Cx p s m args meth c cX8_look 6 RX8 none D cA ad A o) {r : Mem} (σ : Mem) {H : Heap} {locs : List Loc} (h : f_X8_look_50 σ = some r) (hh : HH D cA ad A o s σ H locs) {ls : Array Slot} (hl : lv_has ls 6 [(0, .ref (ad 899 0))]) : W p l e rm_X8_look s m args below meth c H locs 0 0 (MQ below (Qv D cA ad o A r) args s 0 0 A) (F0 m 50 ls [.ref (ad 899 0)]) := by
  obtain ⟨⟨hx, hb, hml, hown, hts⟩, hK, hN, hD, hr, hlocks⟩ := id C
  unfold f_X8_look_50 at h
  refine lv_iconst (v := (1 : Int32)) hx hb dX8_look_50 (by decide) ?_
  refine lv_goto (tgt := 55) hx hb dX8_look_51 (by decide) ?_
  exact k_X8_look_55 C (1 : Int32) σ h hh (lv_sub hl [0] rfl)
def f_X8_look (σ : Mem) : Option (Mem) := vl (up σ 833 0 0 (-1 : Int32)) (fun s1 => vl (up s1 834 0 0 (0 : Int32)) (fun s3 => vl (up s3 835 0 0 (0 : Int32)) (fun s5 => vl (up s5 836 0 0 (0 : Int32)) (fun s7 => (if (s7 828 0 0) < (19 : Int32) then f_X8_look_50 s7 else gd (vin (0 : Int32) 64) ((if (s7 829 0 ((0 : Int32)).toNatClampNeg) < (1 : Int32) then f_X8_look_50 s7 else gd (vin (0 : Int32) 64) ((if (s7 829 0 ((0 : Int32)).toNatClampNeg) ≤ (2 : Int32) then f_X8_look_55 (0 : Int32) s7 else f_X8_look_50 s7)))))))))
set_option maxHeartbeats 4000000 in
set_option maxRecDepth 100000 in
theorem c_X8_look {l : Launch} {D : va_G} {cA : Nat → ClassId} {ad : Nat → Nat → Nat} {A : Nat → Prop} {o : Nat → Int64} (hD0 : ∀ σ, va_D A (wW cA ad σ o)) (σ : Mem) {r : Mem} (h : f_X8_look σ = some r) : Met l yX8_look (wsG yX8_look cX8_look 6 none) rm_X8_look (va_Pc [.ref (ad 899 0)] (IW D cA ad o σ)) (Qv D cA ad o A r) 0 0 A := by
  refine metG (by decide) (Nat.le_of_ble_eq_true rfl) hD0 ?_
  intro p e s m args below meth c C ls hh hl
  have C : Cx p s m args meth c cX8_look 6 RX8 none D cA ad A o := C
  have hl : lv_has ls 6 [(0, .ref (ad 899 0))] := hl
  obtain ⟨⟨hx, hb, hml, hown, hts⟩, hK, hN, hD, hr, hlocks⟩ := id C
  unfold f_X8_look at h
  refine lv_aload_n hx hb dX8_look_0 rfl (lv_at hl 0 rfl) ?_
  refine lv_iconst (v := (-1 : Int32)) hx hb dX8_look_1 (by decide) ?_
  obtain ⟨s1, e2, h⟩ := vl_e h
  refine pf_8_98 C hh dX8_look_2 (fun H locs hh => ?_)
  rw [← e2] at hh
  refine lv_aload_n hx hb dX8_look_5 rfl (lv_at hl 0 rfl) ?_
  refine lv_iconst (v := (0 : Int32)) hx hb dX8_look_6 (by decide) ?_
  obtain ⟨s3, e4, h⟩ := vl_e h
  refine pf_8_101 C hh dX8_look_7 (fun H locs hh => ?_)
  rw [← e4] at hh
  refine lv_aload_n hx hb dX8_look_10 rfl (lv_at hl 0 rfl) ?_
  refine lv_iconst (v := (0 : Int32)) hx hb dX8_look_11 (by decide) ?_
  obtain ⟨s5, e6, h⟩ := vl_e h
  refine pf_8_104 C hh dX8_look_12 (fun H locs hh => ?_)
  rw [← e6] at hh
  refine lv_aload_n hx hb dX8_look_15 rfl (lv_at hl 0 rfl) ?_
  refine lv_iconst (v := (0 : Int32)) hx hb dX8_look_16 (by decide) ?_
  obtain ⟨s7, e8, h⟩ := vl_e h
  refine pf_8_107 C hh dX8_look_17 (fun H locs hh => ?_)
  rw [← e8] at hh
  refine lv_aload_n hx hb dX8_look_20 rfl (lv_at hl 0 rfl) ?_
  refine lv_aload_n hx hb dX8_look_21 rfl (lv_at hl 0 rfl) ?_
  refine gf_8_110 C hh dX8_look_22 ?_
  refine lv_bipush (v := (19 : Int32)) hx hb dX8_look_25 (by decide) ?_
  refine lv_icmp_lt (tgt := 50) hx hb dX8_look_27 (by decide) (fun c9 => ?_) (fun c9 => ?_)
  · rw [if_pos c9] at h
    exact k_X8_look_50 C s7 h hh (lv_sub hl [0] rfl)
  · rw [if_neg c9] at h
    refine lv_aload_n hx hb dX8_look_30 rfl (lv_at hl 0 rfl) ?_
    refine gf_8_80 C hh dX8_look_31 ?_
    refine lv_iconst (v := (0 : Int32)) hx hb dX8_look_34 (by decide) ?_
    obtain ⟨b10, h⟩ := gd_e h
    refine al_829 C hh b10 dX8_look_35 ?_
    refine lv_iconst (v := (1 : Int32)) hx hb dX8_look_36 (by decide) ?_
    refine lv_icmp_lt (tgt := 50) hx hb dX8_look_37 (by decide) (fun c11 => ?_) (fun c11 => ?_)
    · rw [if_pos c11] at h
      exact k_X8_look_50 C s7 h hh (lv_sub hl [0] rfl)
    · rw [if_neg c11] at h
      refine lv_aload_n hx hb dX8_look_40 rfl (lv_at hl 0 rfl) ?_
      refine gf_8_80 C hh dX8_look_41 ?_
      refine lv_iconst (v := (0 : Int32)) hx hb dX8_look_44 (by decide) ?_
      obtain ⟨b12, h⟩ := gd_e h
      refine al_829 C hh b12 dX8_look_45 ?_
      refine lv_iconst (v := (2 : Int32)) hx hb dX8_look_46 (by decide) ?_
      refine lv_icmp_le (tgt := 54) hx hb dX8_look_47 (by decide) (fun c13 => ?_) (fun c13 => ?_)
      · rw [if_pos c13] at h
        refine lv_iconst (v := (0 : Int32)) hx hb dX8_look_54 (by decide) ?_
        exact k_X8_look_55 C (0 : Int32) s7 h hh (lv_sub hl [0] rfl)
      · rw [if_neg c13] at h
        exact k_X8_look_50 C s7 h hh (lv_sub hl [0] rfl)
abbrev rm_X8_send : Room := { frames := 0, cells := 0, slots := 0, locals := 0 }
theorem HD_X8_send : yX8_send.cls = RX8 ∧ yX8_send.cls ≠ "java/lang/invoke/MethodHandle" ∧ yX8_send.cls ≠ "java/lang/invoke/VarHandle" ∧ (parseMethodDescriptor yX8_send.desc).map (fun d => d.parameters.length) = some 1 := by decide +kernel
def f_X8_send_45 : Nat → Int32 → Mem → Option (Mem)
  | 0, _, _ => none
  | n + 1, x2, σ => (if (σ 828 0 0) ≤ x2 then vl (up σ 823 0 0 ((σ 823 0 0) + (1 : Int32))) (fun s2 => some s2) else gd (vin x2 64) (gd (vin (((64 : Int32) * (σ 823 0 0)) + x2) 3840) (vl (up σ 827 0 ((((64 : Int32) * (σ 823 0 0)) + x2)).toNatClampNeg (σ 829 0 (x2).toNatClampNeg)) (fun s6 => vl (x2 + (1 : Int32)) (fun v8 => f_X8_send_45 n v8 s6)))))
set_option maxHeartbeats 4000000 in
set_option maxRecDepth 100000 in
theorem k_X8_send_45 {p : Program} {l : Launch} {e : Env} {s : State} {m : MethodId} {args : Array Value} {below : List Frame} {meth : Method} {c : Code} {D : va_G} {cA : Nat → ClassId} {ad : Nat → Nat → Nat} {A : Nat → Prop} {o : Nat → Int64} (C : Cx p s m args meth c cX8_send 3 RX8 none D cA ad A o) {r : Mem} : ∀ (n : Nat) (x2 : Int32) (σ : Mem) {H : Heap} {locs : List Loc} (h : f_X8_send_45 n x2 σ = some r) (hh : HH D cA ad A o s σ H locs) {ls : Array Slot} (hl : lv_has ls 3 [(0, .ref (ad 899 0)), (2, .int x2)]), W p l e rm_X8_send s m args below meth c H locs 0 0 (MQ below (Qv D cA ad o A r) args s 0 0 A) (F0 m 45 ls []) := by
  obtain ⟨⟨hx, hb, hml, hown, hts⟩, hK, hN, hD, hr, hlocks⟩ := id C
  intro n
  induction n with
  | zero =>
    intro x2 σ H locs h
    rw [f_X8_send_45.eq_1] at h
    cases h
  | succ n ih =>
    intro x2 σ H locs h hh ls hl
    rw [f_X8_send_45.eq_2] at h
    refine lv_iload_n hx hb dX8_send_45 rfl (lv_at hl 1 rfl) ?_
    refine lv_aload_n hx hb dX8_send_46 rfl (lv_at hl 0 rfl) ?_
    refine gf_8_110 C hh dX8_send_47 ?_
    refine lv_icmp_ge (tgt := 79) hx hb dX8_send_50 (by decide) (fun c1 => ?_) (fun c1 => ?_)
    · rw [if_pos c1] at h
      refine lv_aload_n hx hb dX8_send_79 rfl (lv_at hl 0 rfl) ?_
      refine lv_dup hx hb dX8_send_80 rfl ?_
      refine gf_8_121 C hh dX8_send_81 ?_
      refine lv_iconst (v := (1 : Int32)) hx hb dX8_send_84 (by decide) ?_
      refine lv_iadd hx hb dX8_send_85 ?_
      obtain ⟨s2, e3, h⟩ := vl_e h
      refine pf_8_121 C hh dX8_send_86 (fun H locs hh => ?_)
      rw [← e3] at hh
      exact r_void C hh h dX8_send_89
    · rw [if_neg c1] at h
      refine lv_aload_n hx hb dX8_send_53 rfl (lv_at hl 0 rfl) ?_
      refine gf_8_77 C hh dX8_send_54 ?_
      refine lv_bipush (v := (64 : Int32)) hx hb dX8_send_57 (by decide) ?_
      refine lv_aload_n hx hb dX8_send_59 rfl (lv_at hl 0 rfl) ?_
      refine gf_8_121 C hh dX8_send_60 ?_
      refine lv_imul hx hb dX8_send_63 ?_
      refine lv_iload_n hx hb dX8_send_64 rfl (lv_at hl 1 rfl) ?_
      refine lv_iadd hx hb dX8_send_65 ?_
      refine lv_aload_n hx hb dX8_send_66 rfl (lv_at hl 0 rfl) ?_
      refine gf_8_80 C hh dX8_send_67 ?_
      refine lv_iload_n hx hb dX8_send_70 rfl (lv_at hl 1 rfl) ?_
      obtain ⟨b4, h⟩ := gd_e h
      refine al_829 C hh b4 dX8_send_71 ?_
      obtain ⟨b5, h⟩ := gd_e h
      obtain ⟨s6, e7, h⟩ := vl_e h
      refine as_827 C hh b5 dX8_send_72 (fun H locs hh => ?_)
      rw [← e7] at hh
      obtain ⟨v8, e9, h⟩ := vl_e h
      refine lv_iinc (v := v8) (lv' := [(2, .int v8), (0, .ref (ad 899 0))]) hx hb dX8_send_73 hl (k := 1) rfl (by rw [e9]; rfl) (by decide) rfl (fun ls hl => ?_)
      refine lv_goto (tgt := 45) hx hb dX8_send_76 (by decide) ?_
      exact ih v8 s6 h hh (lv_sub hl [1, 0] rfl)
def f_X8_send (x1 : Int32) (σ : Mem) : Option (Mem) := (if (σ 823 0 0) = (60 : Int32) then vl (up σ 824 0 0 ((σ 824 0 0) + (1 : Int32))) (fun s8 => some s8) else gd (vin (σ 823 0 0) 60) (vl (up σ 825 0 ((σ 823 0 0)).toNatClampNeg x1) (fun s3 => gd (vin (s3 823 0 0) 60) (vl (up s3 826 0 ((s3 823 0 0)).toNatClampNeg (s3 828 0 0)) (fun s6 => f_X8_send_45 5000 (0 : Int32) s6)))))
set_option maxHeartbeats 4000000 in
set_option maxRecDepth 100000 in
theorem c_X8_send {l : Launch} {D : va_G} {cA : Nat → ClassId} {ad : Nat → Nat → Nat} {A : Nat → Prop} {o : Nat → Int64} (hD0 : ∀ σ, va_D A (wW cA ad σ o)) (x1 : Int32) (σ : Mem) {r : Mem} (h : f_X8_send x1 σ = some r) : Met l yX8_send (wsG yX8_send cX8_send 3 none) rm_X8_send (va_Pc [.ref (ad 899 0), .int x1] (IW D cA ad o σ)) (Qv D cA ad o A r) 0 0 A := by
  refine metG (by decide) (Nat.le_of_ble_eq_true rfl) hD0 ?_
  intro p e s m args below meth c C ls hh hl
  have C : Cx p s m args meth c cX8_send 3 RX8 none D cA ad A o := C
  have hl : lv_has ls 3 [(0, .ref (ad 899 0)), (1, .int x1)] := hl
  obtain ⟨⟨hx, hb, hml, hown, hts⟩, hK, hN, hD, hr, hlocks⟩ := id C
  unfold f_X8_send at h
  refine lv_aload_n hx hb dX8_send_0 rfl (lv_at hl 0 rfl) ?_
  refine gf_8_121 C hh dX8_send_1 ?_
  refine lv_bipush (v := (60 : Int32)) hx hb dX8_send_4 (by decide) ?_
  refine lv_icmp_ne (tgt := 20) hx hb dX8_send_6 (by decide) (fun c1 => ?_) (fun c1 => ?_)
  · rw [if_neg c1] at h
    refine lv_aload_n hx hb dX8_send_20 rfl (lv_at hl 0 rfl) ?_
    refine gf_8_71 C hh dX8_send_21 ?_
    refine lv_aload_n hx hb dX8_send_24 rfl (lv_at hl 0 rfl) ?_
    refine gf_8_121 C hh dX8_send_25 ?_
    refine lv_iload_n hx hb dX8_send_28 rfl (lv_at hl 1 rfl) ?_
    obtain ⟨b2, h⟩ := gd_e h
    obtain ⟨s3, e4, h⟩ := vl_e h
    refine as_825 C hh b2 dX8_send_29 (fun H locs hh => ?_)
    rw [← e4] at hh
    refine lv_aload_n hx hb dX8_send_30 rfl (lv_at hl 0 rfl) ?_
    refine gf_8_74 C hh dX8_send_31 ?_
    refine lv_aload_n hx hb dX8_send_34 rfl (lv_at hl 0 rfl) ?_
    refine gf_8_121 C hh dX8_send_35 ?_
    refine lv_aload_n hx hb dX8_send_38 rfl (lv_at hl 0 rfl) ?_
    refine gf_8_110 C hh dX8_send_39 ?_
    obtain ⟨b5, h⟩ := gd_e h
    obtain ⟨s6, e7, h⟩ := vl_e h
    refine as_826 C hh b5 dX8_send_42 (fun H locs hh => ?_)
    rw [← e7] at hh
    refine lv_iconst (v := (0 : Int32)) hx hb dX8_send_43 (by decide) ?_
    refine lv_istore_n (lv' := [(2, .int (0 : Int32)), (0, .ref (ad 899 0)), (1, .int x1)]) hx hb dX8_send_44 rfl hl (by decide) rfl (fun ls hl => ?_)
    exact k_X8_send_45 C 5000 (0 : Int32) s6 h hh (lv_sub hl [1, 0] rfl)
  · rw [if_pos c1] at h
    refine lv_aload_n hx hb dX8_send_9 rfl (lv_at hl 0 rfl) ?_
    refine lv_dup hx hb dX8_send_10 rfl ?_
    refine gf_8_124 C hh dX8_send_11 ?_
    refine lv_iconst (v := (1 : Int32)) hx hb dX8_send_14 (by decide) ?_
    refine lv_iadd hx hb dX8_send_15 ?_
    obtain ⟨s8, e9, h⟩ := vl_e h
    refine pf_8_124 C hh dX8_send_16 (fun H locs hh => ?_)
    rw [← e9] at hh
    exact r_void C hh h dX8_send_19
