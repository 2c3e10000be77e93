abbrev rm_X6_grant : Room := { frames := 0, cells := 0, slots := 0, locals := 0 }
theorem HD_X6_grant : yX6_grant.cls = RX6 ∧ yX6_grant.cls ≠ "java/lang/invoke/MethodHandle" ∧ yX6_grant.cls ≠ "java/lang/invoke/VarHandle" ∧ (parseMethodDescriptor yX6_grant.desc).map (fun d => d.parameters.length) = some 4 := by decide +kernel
def f_X6_grant (x0 : Int32) (x1 : Int32) (j2 : Nat) (j3 : Nat) (σ : Mem) : Option (Mem) := vl (up σ 207 j3 0 x0) (fun s1 => vl (up s1 204 j3 0 x1) (fun s3 => vl (up s3 209 j3 0 (s3 402 j2 0)) (fun s5 => vl (up s5 210 j3 0 (1 : Int32)) (fun s7 => some s7))))
set_option maxHeartbeats 4000000 in
set_option maxRecDepth 100000 in
theorem c_X6_grant {l : Launch} {D : va_G} {cA : Nat → ClassId} {ad : Nat → Nat → Nat} {A : Nat → Prop} {o : Nat → Int64} (hD0 : ∀ σ, va_D A (wW cA ad σ o)) (x0 : Int32) (x1 : Int32) (j2 : Nat) (hj2 : j2 < 4) (j3 : Nat) (hj3 : j3 < 2) (σ : Mem) {r : Mem} (h : f_X6_grant x0 x1 j2 j3 σ = some r) : Met l yX6_grant (wsG yX6_grant cX6_grant 4 none) rm_X6_grant (va_Pc [.int x0, .int x1, .ref (ad 499 j2), .ref (ad 299 j3)] (IW D cA ad o σ)) (Qv D cA ad o A r) 0 0 A := by
  refine metG (by decide) (Nat.le_of_ble_eq_true rfl) hD0 ?_
  intro p e s m args below meth c C ls hh hl
  have C : Cx p s m args meth c cX6_grant 4 RX6 none D cA ad A o := C
  have hl : lv_has ls 4 [(0, .int x0), (1, .int x1), (2, .ref (ad 499 j2)), (3, .ref (ad 299 j3))] := hl
  obtain ⟨⟨hx, hb, hml, hown, hts⟩, hK, hN, hD, hr, hlocks⟩ := id C
  unfold f_X6_grant at h
  refine lv_aload_n hx hb dX6_grant_0 rfl (lv_at hl 3 rfl) ?_
  refine lv_iload_n hx hb dX6_grant_1 rfl (lv_at hl 0 rfl) ?_
  obtain ⟨s1, e2, h⟩ := vl_e h
  refine pf_6_92 C hh hj3 dX6_grant_2 (fun H locs hh => ?_)
  rw [← e2] at hh
  refine lv_aload_n hx hb dX6_grant_5 rfl (lv_at hl 3 rfl) ?_
  refine lv_iload_n hx hb dX6_grant_6 rfl (lv_at hl 1 rfl) ?_
  obtain ⟨s3, e4, h⟩ := vl_e h
  refine pf_6_153 C hh hj3 dX6_grant_7 (fun H locs hh => ?_)
  rw [← e4] at hh
  refine lv_aload_n hx hb dX6_grant_10 rfl (lv_at hl 3 rfl) ?_
  refine lv_aload_n hx hb dX6_grant_11 rfl (lv_at hl 2 rfl) ?_
  refine gf_6_144 C hh hj2 dX6_grant_12 ?_
  obtain ⟨s5, e6, h⟩ := vl_e h
  refine pf_6_156 C hh hj3 dX6_grant_15 (fun H locs hh => ?_)
  rw [← e6] at hh
  refine lv_aload_n hx hb dX6_grant_18 rfl (lv_at hl 3 rfl) ?_
  refine lv_iconst (v := (1 : Int32)) hx hb dX6_grant_19 (by decide) ?_
  obtain ⟨s7, e8, h⟩ := vl_e h
  refine pf_6_137 C hh hj3 dX6_grant_20 (fun H locs hh => ?_)
  rw [← e8] at hh
  exact r_void C hh h dX6_grant_23
abbrev rm_X6_write : Room := { frames := 0, cells := 0, slots := 0, locals := 0 }
theorem HD_X6_write : yX6_write.cls = RX6 ∧ yX6_write.cls ≠ "java/lang/invoke/MethodHandle" ∧ yX6_write.cls ≠ "java/lang/invoke/VarHandle" ∧ (parseMethodDescriptor yX6_write.desc).map (fun d => d.parameters.length) = some 4 := by decide +kernel
def f_X6_write (x1 : Int32) (x2 : Int32) (x3 : Int32) (x4 : Int32) (σ : Mem) : Option (Mem) := gd (vin x1 1024) (vl (up σ 602 0 (x1).toNatClampNeg x2) (fun s2 => gd (vin x1 1024) (vl (up s2 603 0 (x1).toNatClampNeg x3) (fun s5 => gd (vin x1 1024) (vl (up s5 604 0 (x1).toNatClampNeg x4) (fun s8 => some s8))))))
set_option maxHeartbeats 4000000 in
set_option maxRecDepth 100000 in
theorem c_X6_write {l : Launch} {D : va_G} {cA : Nat → ClassId} {ad : Nat → Nat → Nat} {A : Nat → Prop} {o : Nat → Int64} (hD0 : ∀ σ, va_D A (wW cA ad σ o)) (x1 : Int32) (x2 : Int32) (x3 : Int32) (x4 : Int32) (σ : Mem) {r : Mem} (h : f_X6_write x1 x2 x3 x4 σ = some r) : Met l yX6_write (wsG yX6_write cX6_write 5 none) rm_X6_write (va_Pc [.ref (ad 699 0), .int x1, .int x2, .int x3, .int x4] (IW D cA ad o σ)) (Qv D cA ad o A r) 0 0 A := by
  refine metG (by decide) (Nat.le_of_ble_eq_true rfl) hD0 ?_
  intro p e s m args below meth c C ls hh hl
  have C : Cx p s m args meth c cX6_write 5 RX6 none D cA ad A o := C
  have hl : lv_has ls 5 [(0, .ref (ad 699 0)), (1, .int x1), (2, .int x2), (3, .int x3), (4, .int x4)] := hl
  obtain ⟨⟨hx, hb, hml, hown, hts⟩, hK, hN, hD, hr, hlocks⟩ := id C
  unfold f_X6_write at h
  refine lv_aload_n hx hb dX6_write_0 rfl (lv_at hl 0 rfl) ?_
  refine gf_6_21 C hh dX6_write_1 ?_
  refine lv_iload_n hx hb dX6_write_4 rfl (lv_at hl 1 rfl) ?_
  refine lv_iload_n hx hb dX6_write_5 rfl (lv_at hl 2 rfl) ?_
  obtain ⟨b1, h⟩ := gd_e h
  obtain ⟨s2, e3, h⟩ := vl_e h
  refine as_602 C hh b1 dX6_write_6 (fun H locs hh => ?_)
  rw [← e3] at hh
  refine lv_aload_n hx hb dX6_write_7 rfl (lv_at hl 0 rfl) ?_
  refine gf_6_25 C hh dX6_write_8 ?_
  refine lv_iload_n hx hb dX6_write_11 rfl (lv_at hl 1 rfl) ?_
  refine lv_iload_n hx hb dX6_write_12 rfl (lv_at hl 3 rfl) ?_
  obtain ⟨b4, h⟩ := gd_e h
  obtain ⟨s5, e6, h⟩ := vl_e h
  refine as_603 C hh b4 dX6_write_13 (fun H locs hh => ?_)
  rw [← e6] at hh
  refine lv_aload_n hx hb dX6_write_14 rfl (lv_at hl 0 rfl) ?_
  refine gf_6_28 C hh dX6_write_15 ?_
  refine lv_iload_n hx hb dX6_write_18 rfl (lv_at hl 1 rfl) ?_
  refine lv_iload hx hb dX6_write_19 (lv_at hl 4 rfl) ?_
  obtain ⟨b7, h⟩ := gd_e h
  obtain ⟨s8, e9, h⟩ := vl_e h
  refine as_604 C hh b7 dX6_write_21 (fun H locs hh => ?_)
  rw [← e9] at hh
  exact r_void C hh h dX6_write_22
abbrev rm_X6_offer : Room := { frames := 3, cells := 0, slots := 0, locals := 71 }
theorem HD_X6_offer : yX6_offer.cls = RX6 ∧ yX6_offer.cls ≠ "java/lang/invoke/MethodHandle" ∧ yX6_offer.cls ≠ "java/lang/invoke/VarHandle" ∧ (parseMethodDescriptor yX6_offer.desc).map (fun d => d.parameters.length) = some 4 := by decide +kernel
def f_X6_offer_77 (j2 : Nat) (j4 : Nat) (x5 : Int32) (σ : Mem) : Option (Mem) := bv (f_X6_grant (2 : Int32) x5 j2 j4 σ) (fun s2 => some s2)
set_option maxHeartbeats 4000000 in
set_option maxRecDepth 100000 in
theorem k_X6_offer_77 {p : Program} {l : Launch} {e : Env} {s : State} {m : MethodId} {args : Array Value} {below : List Frame} {meth : Method} {c : Code} {D : va_G} {cA : Nat → ClassId} {ad : Nat → Nat → Nat} {A : Nat → Prop} {o : Nat → Int64} (C : Cx p s m args meth c cX6_offer 7 RX6 none D cA ad A o) {r : Mem} (j2 : Nat) (hj2 : j2 < 4) (j4 : Nat) (hj4 : j4 < 2) (x5 : Int32) (σ : Mem) {H : Heap} {locs : List Loc} (h : f_X6_offer_77 j2 j4 x5 σ = some r) (hh : HH D cA ad A o s σ H locs) {ls : Array Slot} (hl : lv_has ls 7 [(2, .ref (ad 499 j2)), (4, .ref (ad 299 j4)), (5, .int x5)]) : W p l e rm_X6_offer s m args below meth c H locs 0 0 (MQ below (Qv D cA ad o A r) args s 0 0 A) (F0 m 77 ls []) := by
  obtain ⟨⟨hx, hb, hml, hown, hts⟩, hK, hN, hD, hr, hlocks⟩ := id C
  unfold f_X6_offer_77 at h
  refine lv_iconst (v := (2 : Int32)) hx hb dX6_offer_77 (by decide) ?_
  refine lv_iload hx hb dX6_offer_78 (lv_at hl 2 rfl) ?_
  refine lv_aload_n hx hb dX6_offer_80 rfl (lv_at hl 0 rfl) ?_
  refine lv_aload hx hb dX6_offer_81 (lv_at hl 1 rfl) ?_
  obtain ⟨s2, e1, h⟩ := bv_e h
  refine c_void hh (srun (rest := []) C hh (c_X6_grant C.2.2.2.1 (2 : Int32) x5 j2 hj2 j4 hj4 σ e1) LM_6_122 ST_X6_grant IN_6 CD_X6_grant HD_X6_grant ⟨rfl, rfl, Nat.le_of_ble_eq_true rfl, Nat.le_of_ble_eq_true rfl⟩ rfl hl.1 rfl (Nat.le_of_ble_eq_true rfl) dX6_offer_83 ⟨Nat.zero_le _, Nat.zero_le _⟩) (fun H locs hh => ?_)
  exact r_void C hh h dX6_offer_86
def f_X6_offer_55 (j1 : Nat) (j2 : Nat) (x3 : Int32) (j4 : Nat) (x5 : Int32) (xs0 : Int32) (σ : Mem) : Option (Mem) := (if xs0 = (0 : Int32) then bv (f_X6_write x5 (1 : Int32) (σ 206 j1 0) (x3 + (8 : Int32)) σ) (fun s3 => f_X6_offer_77 j2 j4 x5 s3) else f_X6_offer_77 j2 j4 x5 σ)
set_option maxHeartbeats 4000000 in
set_option maxRecDepth 100000 in
theorem k_X6_offer_55 {p : Program} {l : Launch} {e : Env} {s : State} {m : MethodId} {args : Array Value} {below : List Frame} {meth : Method} {c : Code} {D : va_G} {cA : Nat → ClassId} {ad : Nat → Nat → Nat} {A : Nat → Prop} {o : Nat → Int64} (C : Cx p s m args meth c cX6_offer 7 RX6 none D cA ad A o) {r : Mem} (j1 : Nat) (hj1 : j1 < 2) (j2 : Nat) (hj2 : j2 < 4) (x3 : Int32) (j4 : Nat) (hj4 : j4 < 2) (x5 : Int32) (xs0 : Int32) (σ : Mem) {H : Heap} {locs : List Loc} (h : f_X6_offer_55 j1 j2 x3 j4 x5 xs0 σ = some r) (hh : HH D cA ad A o s σ H locs) {ls : Array Slot} (hl : lv_has ls 7 [(0, .ref (ad 699 0)), (1, .ref (ad 299 j1)), (2, .ref (ad 499 j2)), (3, .int x3), (4, .ref (ad 299 j4)), (5, .int x5)]) : W p l e rm_X6_offer s m args below meth c H locs 0 0 (MQ below (Qv D cA ad o A r) args s 0 0 A) (F0 m 55 ls [.int xs0]) := by
  obtain ⟨⟨hx, hb, hml, hown, hts⟩, hK, hN, hD, hr, hlocks⟩ := id C
  unfold f_X6_offer_55 at h
  refine lv_istore (lv' := [(6, .int xs0), (0, .ref (ad 699 0)), (1, .ref (ad 299 j1)), (2, .ref (ad 499 j2)), (3, .int x3), (4, .ref (ad 299 j4)), (5, .int x5)]) hx hb dX6_offer_55 hl (by decide) rfl (fun ls hl => ?_)
  refine lv_iload hx hb dX6_offer_57 (lv_at hl 0 rfl) ?_
  refine lv_if_ne (tgt := 77) hx hb dX6_offer_59 (by decide) (fun c1 => ?_) (fun c1 => ?_)
  · rw [if_neg c1] at h
    exact k_X6_offer_77 C j2 hj2 j4 hj4 x5 σ h hh (lv_sub hl [3, 5, 6] rfl)
  · rw [if_pos c1] at h
    refine lv_aload_n hx hb dX6_offer_62 rfl (lv_at hl 1 rfl) ?_
    refine lv_iload hx hb dX6_offer_63 (lv_at hl 6 rfl) ?_
    refine lv_iconst (v := (1 : Int32)) hx hb dX6_offer_65 (by decide) ?_
    refine lv_aload_n hx hb dX6_offer_66 rfl (lv_at hl 2 rfl) ?_
    refine gf_6_68 C hh hj1 dX6_offer_67 ?_
    refine lv_iload_n hx hb dX6_offer_70 rfl (lv_at hl 4 rfl) ?_
    refine lv_bipush (v := (8 : Int32)) hx hb dX6_offer_71 (by decide) ?_
    refine lv_iadd hx hb dX6_offer_73 ?_
    obtain ⟨s3, e2, h⟩ := bv_e h
    refine c_void hh (vrun (rest := []) C hh (c_X6_write C.2.2.2.1 x5 (1 : Int32) (σ 206 j1 0) (x3 + (8 : Int32)) σ e2) LM_6_114 IM_X6_write SL_X6_write IN_6 CD_X6_write HD_X6_write ⟨rfl, rfl, Nat.le_of_ble_eq_true rfl, Nat.le_of_ble_eq_true rfl⟩ (rv_6 C hh) rfl hl.1 rfl (Nat.le_of_ble_eq_true rfl) dX6_offer_74 ⟨Nat.zero_le _, Nat.zero_le _⟩) (fun H locs hh => ?_)
    exact k_X6_offer_77 C j2 hj2 j4 hj4 x5 s3 h hh (lv_sub hl [3, 5, 6] rfl)
def f_X6_offer_54 (j1 : Nat) (j2 : Nat) (x3 : Int32) (j4 : Nat) (x5 : Int32) (σ : Mem) : Option (Mem) := f_X6_offer_55 j1 j2 x3 j4 x5 (0 : Int32) σ
set_option maxHeartbeats 4000000 in
set_option maxRecDepth 100000 in
theorem k_X6_offer_54 {p : Program} {l : Launch} {e : Env} {s : State} {m : MethodId} {args : Array Value} {below : List Frame} {meth : Method} {c : Code} {D : va_G} {cA : Nat → ClassId} {ad : Nat → Nat → Nat} {A : Nat → Prop} {o : Nat → Int64} (C : Cx p s m args meth c cX6_offer 7 RX6 none D cA ad A o) {r : Mem} (j1 : Nat) (hj1 : j1 < 2) (j2 : Nat) (hj2 : j2 < 4) (x3 : Int32) (j4 : Nat) (hj4 : j4 < 2) (x5 : Int32) (σ : Mem) {H : Heap} {locs : List Loc} (h : f_X6_offer_54 j1 j2 x3 j4 x5 σ = some r) (hh : HH D cA ad A o s σ H locs) {ls : Array Slot} (hl : lv_has ls 7 [(0, .ref (ad 699 0)), (1, .ref (ad 299 j1)), (2, .ref (ad 499 j2)), (3, .int x3), (4, .ref (ad 299 j4)), (5, .int x5)]) : W p l e rm_X6_offer s m args below meth c H locs 0 0 (MQ below (Qv D cA ad o A r) args s 0 0 A) (F0 m 54 ls []) := by
  obtain ⟨⟨hx, hb, hml, hown, hts⟩, hK, hN, hD, hr, hlocks⟩ := id C
  unfold f_X6_offer_54 at h
  refine lv_iconst (v := (0 : Int32)) hx hb dX6_offer_54 (by decide) ?_
  exact k_X6_offer_55 C j1 hj1 j2 hj2 x3 j4 hj4 x5 (0 : Int32) σ h hh (lv_sub hl [0, 1, 2, 3, 4, 5] rfl)
def f_X6_offer (j1 : Nat) (j2 : Nat) (x3 : Int32) (j4 : Nat) (σ : Mem) : Option (Mem) := bn (f_X6_choose j1 j2 x3 σ) (fun r3 s2 => (if r3 = (0 : Int32) then some s2 else bn (f_X6_isOwner (s2 206 j1 0) r3 s2) (fun r7 s6 => (if r7 = (0 : Int32) then f_X6_offer_54 j1 j2 x3 j4 r3 s6 else gd (vin r3 1024) ((if (s6 602 0 (r3).toNatClampNeg) = (2 : Int32) then gd (vin r3 1024) ((if (s6 604 0 (r3).toNatClampNeg) ≤ x3 then f_X6_offer_54 j1 j2 x3 j4 r3 s6 else f_X6_offer_55 j1 j2 x3 j4 r3 (1 : Int32) s6)) else f_X6_offer_54 j1 j2 x3 j4 r3 s6))))))
set_option maxHeartbeats 4000000 in
set_option maxRecDepth 100000 in
theorem c_X6_offer {l : Launch} {D : va_G} {cA : Nat → ClassId} {ad : Nat → Nat → Nat} {A : Nat → Prop} {o : Nat → Int64} (hD0 : ∀ σ, va_D A (wW cA ad σ o)) (j1 : Nat) (hj1 : j1 < 2) (j2 : Nat) (hj2 : j2 < 4) (x3 : Int32) (j4 : Nat) (hj4 : j4 < 2) (σ : Mem) {r : Mem} (h : f_X6_offer j1 j2 x3 j4 σ = some r) : Met l yX6_offer (wsG yX6_offer cX6_offer 7 none) rm_X6_offer (va_Pc [.ref (ad 699 0), .ref (ad 299 j1), .ref (ad 499 j2), .int x3, .ref (ad 299 j4)] (IW D cA ad o σ)) (Qv D cA ad o A r) 0 0 A := by
  refine metG (by decide) (Nat.le_of_ble_eq_true rfl) hD0 ?_
  intro p e s m args below meth c C ls hh hl
  have C : Cx p s m args meth c cX6_offer 7 RX6 none D cA ad A o := C
  have hl : lv_has ls 7 [(0, .ref (ad 699 0)), (1, .ref (ad 299 j1)), (2, .ref (ad 499 j2)), (3, .int x3), (4, .ref (ad 299 j4))] := hl
  obtain ⟨⟨hx, hb, hml, hown, hts⟩, hK, hN, hD, hr, hlocks⟩ := id C
  unfold f_X6_offer at h
  refine lv_aload_n hx hb dX6_offer_0 rfl (lv_at hl 0 rfl) ?_
  refine lv_aload_n hx hb dX6_offer_1 rfl (lv_at hl 1 rfl) ?_
  refine lv_aload_n hx hb dX6_offer_2 rfl (lv_at hl 2 rfl) ?_
  refine lv_iload_n hx hb dX6_offer_3 rfl (lv_at hl 3 rfl) ?_
  obtain ⟨r3, s2, e1, h⟩ := bn_e h
  refine c_int hh (vrun (rest := []) C hh (c_X6_choose C.2.2.2.1 j1 hj1 j2 hj2 x3 σ e1) LM_6_118 IM_X6_choose SL_X6_choose IN_6 CD_X6_choose HD_X6_choose ⟨rfl, rfl, Nat.le_of_ble_eq_true rfl, Nat.le_of_ble_eq_true rfl⟩ (rv_6 C hh) rfl hl.1 rfl (Nat.le_of_ble_eq_true rfl) dX6_offer_4 ⟨Nat.zero_le _, Nat.zero_le _⟩) (fun H locs hh => ?_)
  refine lv_istore (lv' := [(5, .int r3), (0, .ref (ad 699 0)), (1, .ref (ad 299 j1)), (2, .ref (ad 499 j2)), (3, .int x3), (4, .ref (ad 299 j4))]) hx hb dX6_offer_7 hl (by decide) rfl (fun ls hl => ?_)
  refine lv_iload hx hb dX6_offer_9 (lv_at hl 0 rfl) ?_
  refine lv_if_ne (tgt := 15) hx hb dX6_offer_11 (by decide) (fun c4 => ?_) (fun c4 => ?_)
  · rw [if_neg c4] at h
    refine lv_aload_n hx hb dX6_offer_15 rfl (lv_at hl 1 rfl) ?_
    refine lv_aload_n hx hb dX6_offer_16 rfl (lv_at hl 2 rfl) ?_
    refine gf_6_68 C hh hj1 dX6_offer_17 ?_
    refine lv_iload hx hb dX6_offer_20 (lv_at hl 0 rfl) ?_
    obtain ⟨r7, s6, e5, h⟩ := bn_e h
    refine c_int hh (vrun (rest := []) C hh (c_X6_isOwner C.2.2.2.1 (s2 206 j1 0) r3 s2 e5) LM_6_111 IM_X6_isOwner SL_X6_isOwner IN_6 CD_X6_isOwner HD_X6_isOwner ⟨rfl, rfl, Nat.le_of_ble_eq_true rfl, Nat.le_of_ble_eq_true rfl⟩ (rv_6 C hh) rfl hl.1 rfl (Nat.le_of_ble_eq_true rfl) dX6_offer_22 ⟨Nat.zero_le _, Nat.zero_le _⟩) (fun H locs hh => ?_)
    refine lv_if_eq (tgt := 54) hx hb dX6_offer_25 (by decide) (fun c8 => ?_) (fun c8 => ?_)
    · rw [if_pos c8] at h
      exact k_X6_offer_54 C j1 hj1 j2 hj2 x3 j4 hj4 r3 s6 h hh (lv_sub hl [1, 2, 3, 4, 5, 0] rfl)
    · rw [if_neg c8] at h
      refine lv_aload_n hx hb dX6_offer_28 rfl (lv_at hl 1 rfl) ?_
      refine gf_6_21 C hh dX6_offer_29 ?_
      refine lv_iload hx hb dX6_offer_32 (lv_at hl 0 rfl) ?_
      obtain ⟨b9, h⟩ := gd_e h
      refine al_602 C hh b9 dX6_offer_34 ?_
      refine lv_iconst (v := (2 : Int32)) hx hb dX6_offer_35 (by decide) ?_
      refine lv_icmp_ne (tgt := 54) hx hb dX6_offer_36 (by decide) (fun c10 => ?_) (fun c10 => ?_)
      · rw [if_neg c10] at h
        exact k_X6_offer_54 C j1 hj1 j2 hj2 x3 j4 hj4 r3 s6 h hh (lv_sub hl [1, 2, 3, 4, 5, 0] rfl)
      · rw [if_pos c10] at h
        refine lv_aload_n hx hb dX6_offer_39 rfl (lv_at hl 1 rfl) ?_
        refine gf_6_28 C hh dX6_offer_40 ?_
        refine lv_iload hx hb dX6_offer_43 (lv_at hl 0 rfl) ?_
        obtain ⟨b11, h⟩ := gd_e h
        refine al_604 C hh b11 dX6_offer_45 ?_
        refine lv_iload_n hx hb dX6_offer_46 rfl (lv_at hl 4 rfl) ?_
        refine lv_icmp_le (tgt := 54) hx hb dX6_offer_47 (by decide) (fun c12 => ?_) (fun c12 => ?_)
        · rw [if_pos c12] at h
          exact k_X6_offer_54 C j1 hj1 j2 hj2 x3 j4 hj4 r3 s6 h hh (lv_sub hl [1, 2, 3, 4, 5, 0] rfl)
        · rw [if_neg c12] at h
          refine lv_iconst (v := (1 : Int32)) hx hb dX6_offer_50 (by decide) ?_
          refine lv_goto (tgt := 55) hx hb dX6_offer_51 (by decide) ?_
          exact k_X6_offer_55 C j1 hj1 j2 hj2 x3 j4 hj4 r3 (1 : Int32) s6 h hh (lv_sub hl [1, 2, 3, 4, 5, 0] rfl)
  · rw [if_pos c4] at h
    exact r_void C hh h dX6_offer_14
abbrev rm_X6_decide : Room := { frames := 1, cells := 0, slots := 0, locals := 23 }
theorem HD_X6_decide : yX6_decide.cls = RX6 ∧ yX6_decide.cls ≠ "java/lang/invoke/MethodHandle" ∧ yX6_decide.cls ≠ "java/lang/invoke/VarHandle" ∧ (parseMethodDescriptor yX6_decide.desc).map (fun d => d.parameters.length) = some 5 := by decide +kernel
def f_X6_decide_50 (x2 : Int32) (j3 : Nat) (j5 : Nat) (x6 : Int32) (σ : Mem) : Option (Mem) := gd (vin x2 1024) (vl (up σ 602 0 (x2).toNatClampNeg (2 : Int32)) (fun s2 => gd (vin x2 1024) (vl (up s2 604 0 (x2).toNatClampNeg x6) (fun s5 => bv (f_X6_grant (5 : Int32) x2 j3 j5 s5) (fun s8 => some s8)))))
set_option maxHeartbeats 4000000 in
set_option maxRecDepth 100000 in
theorem k_X6_decide_50 {p : Program} {l : Launch} {e : Env} {s : State} {m : MethodId} {args : Array Value} {below : List Frame} {meth : Method} {c : Code} {D : va_G} {cA : Nat → ClassId} {ad : Nat → Nat → Nat} {A : Nat → Prop} {o : Nat → Int64} (C : Cx p s m args meth c cX6_decide 7 RX6 none D cA ad A o) {r : Mem} (x2 : Int32) (j3 : Nat) (hj3 : j3 < 4) (j5 : Nat) (hj5 : j5 < 2) (x6 : Int32) (σ : Mem) {H : Heap} {locs : List Loc} (h : f_X6_decide_50 x2 j3 j5 x6 σ = some r) (hh : HH D cA ad A o s σ H locs) {ls : Array Slot} (hl : lv_has ls 7 [(0, .ref (ad 699 0)), (2, .int x2), (3, .ref (ad 499 j3)), (5, .ref (ad 299 j5)), (6, .int x6)]) : W p l e rm_X6_decide s m args below meth c H locs 0 0 (MQ below (Qv D cA ad o A r) args s 0 0 A) (F0 m 50 ls []) := by
  obtain ⟨⟨hx, hb, hml, hown, hts⟩, hK, hN, hD, hr, hlocks⟩ := id C
  unfold f_X6_decide_50 at h
  refine lv_aload_n hx hb dX6_decide_50 rfl (lv_at hl 0 rfl) ?_
  refine gf_6_21 C hh dX6_decide_51 ?_
  refine lv_iload_n hx hb dX6_decide_54 rfl (lv_at hl 1 rfl) ?_
  refine lv_iconst (v := (2 : Int32)) hx hb dX6_decide_55 (by decide) ?_
  obtain ⟨b1, h⟩ := gd_e h
  obtain ⟨s2, e3, h⟩ := vl_e h
  refine as_602 C hh b1 dX6_decide_56 (fun H locs hh => ?_)
  rw [← e3] at hh
  refine lv_aload_n hx hb dX6_decide_57 rfl (lv_at hl 0 rfl) ?_
  refine gf_6_28 C hh dX6_decide_58 ?_
  refine lv_iload_n hx hb dX6_decide_61 rfl (lv_at hl 1 rfl) ?_
  refine lv_iload hx hb dX6_decide_62 (lv_at hl 4 rfl) ?_
  obtain ⟨b4, h⟩ := gd_e h
  obtain ⟨s5, e6, h⟩ := vl_e h
  refine as_604 C hh b4 dX6_decide_64 (fun H locs hh => ?_)
  rw [← e6] at hh
  refine lv_iconst (v := (5 : Int32)) hx hb dX6_decide_65 (by decide) ?_
  refine lv_iload_n hx hb dX6_decide_66 rfl (lv_at hl 1 rfl) ?_
  refine lv_aload_n hx hb dX6_decide_67 rfl (lv_at hl 2 rfl) ?_
  refine lv_aload hx hb dX6_decide_68 (lv_at hl 3 rfl) ?_
  obtain ⟨s8, e7, h⟩ := bv_e h
  refine c_void hh (srun (rest := []) C hh (c_X6_grant C.2.2.2.1 (5 : Int32) x2 j3 hj3 j5 hj5 s5 e7) LM_6_122 ST_X6_grant IN_6 CD_X6_grant HD_X6_grant ⟨rfl, rfl, Nat.le_of_ble_eq_true rfl, Nat.le_of_ble_eq_true rfl⟩ rfl hl.1 rfl (Nat.le_of_ble_eq_true rfl) dX6_decide_70 ⟨Nat.zero_le _, Nat.zero_le _⟩) (fun H locs hh => ?_)
  exact r_void C hh h dX6_decide_73
def f_X6_decide (x1 : Int32) (x2 : Int32) (j3 : Nat) (x4 : Int32) (j5 : Nat) (σ : Mem) : Option (Mem) := (if x1 = (0 : Int32) then vl (up σ 207 j5 0 (6 : Int32)) (fun s9 => vl (up s9 210 j5 0 (1 : Int32)) (fun s11 => some s11)) else vl ((x4 + (σ 402 j3 0))) (fun v2 => gd (vin x2 1024) ((if (σ 602 0 (x2).toNatClampNeg) = (2 : Int32) then gd (vin x2 1024) (vl ((if v2 < (σ 604 0 (x2).toNatClampNeg) then (σ 604 0 (x2).toNatClampNeg) else v2)) (fun v7 => f_X6_decide_50 x2 j3 j5 v7 σ)) else f_X6_decide_50 x2 j3 j5 v2 σ))))
set_option maxHeartbeats 4000000 in
set_option maxRecDepth 100000 in
theorem c_X6_decide {l : Launch} {D : va_G} {cA : Nat → ClassId} {ad : Nat → Nat → Nat} {A : Nat → Prop} {o : Nat → Int64} (hD0 : ∀ σ, va_D A (wW cA ad σ o)) (x1 : Int32) (x2 : Int32) (j3 : Nat) (hj3 : j3 < 4) (x4 : Int32) (j5 : Nat) (hj5 : j5 < 2) (σ : Mem) {r : Mem} (h : f_X6_decide x1 x2 j3 x4 j5 σ = some r) : Met l yX6_decide (wsG yX6_decide cX6_decide 7 none) rm_X6_decide (va_Pc [.ref (ad 699 0), .int x1, .int x2, .ref (ad 499 j3), .int x4, .ref (ad 299 j5)] (IW D cA ad o σ)) (Qv D cA ad o A r) 0 0 A := by
  refine metG (by decide) (Nat.le_of_ble_eq_true rfl) hD0 ?_
  intro p e s m args below meth c C ls hh hl
  have C : Cx p s m args meth c cX6_decide 7 RX6 none D cA ad A o := C
  have hl : lv_has ls 7 [(0, .ref (ad 699 0)), (1, .int x1), (2, .int x2), (3, .ref (ad 499 j3)), (4, .int x4), (5, .ref (ad 299 j5))] := hl
  obtain ⟨⟨hx, hb, hml, hown, hts⟩, hK, hN, hD, hr, hlocks⟩ := id C
  unfold f_X6_decide at h
  refine lv_iload_n hx hb dX6_decide_0 rfl (lv_at hl 1 rfl) ?_
  refine lv_if_ne (tgt := 18) hx hb dX6_decide_1 (by decide) (fun c1 => ?_) (fun c1 => ?_)
  · rw [if_neg c1] at h
    refine lv_iload hx hb dX6_decide_18 (lv_at hl 4 rfl) ?_
    refine lv_aload_n hx hb dX6_decide_20 rfl (lv_at hl 3 rfl) ?_
    refine gf_6_144 C hh hj3 dX6_decide_21 ?_
    refine lv_iadd hx hb dX6_decide_24 ?_
    obtain ⟨v2, e3, h⟩ := vl_e h
    refine lv_nm e3 ?_
    refine lv_istore (lv' := [(6, .int v2), (0, .ref (ad 699 0)), (1, .int x1), (2, .int x2), (3, .ref (ad 499 j3)), (4, .int x4), (5, .ref (ad 299 j5))]) hx hb dX6_decide_25 hl (by decide) rfl (fun ls hl => ?_)
    refine lv_aload_n hx hb dX6_decide_27 rfl (lv_at hl 1 rfl) ?_
    refine gf_6_21 C hh dX6_decide_28 ?_
    refine lv_iload_n hx hb dX6_decide_31 rfl (lv_at hl 3 rfl) ?_
    obtain ⟨b4, h⟩ := gd_e h
    refine al_602 C hh b4 dX6_decide_32 ?_
    refine lv_iconst (v := (2 : Int32)) hx hb dX6_decide_33 (by decide) ?_
    refine lv_icmp_ne (tgt := 50) hx hb dX6_decide_34 (by decide) (fun c5 => ?_) (fun c5 => ?_)
    · rw [if_neg c5] at h
      exact k_X6_decide_50 C x2 j3 hj3 j5 hj5 v2 σ h hh (lv_sub hl [1, 3, 4, 6, 0] rfl)
    · rw [if_pos c5] at h
      refine lv_iload hx hb dX6_decide_37 (lv_at hl 0 rfl) ?_
      refine lv_aload_n hx hb dX6_decide_39 rfl (lv_at hl 1 rfl) ?_
      refine gf_6_28 C hh dX6_decide_40 ?_
      refine lv_iload_n hx hb dX6_decide_43 rfl (lv_at hl 3 rfl) ?_
      obtain ⟨b6, h⟩ := gd_e h
      refine al_604 C hh b6 dX6_decide_44 ?_
      refine va_mmax hx hb (hml.trans hl.1.symm) hown (hts _ LX_6_147) (hts _ MX_static_max) (hts _ MX_init) (hts _ MX_code_max) (Nat.le_of_ble_eq_true rfl) (Nat.le_of_ble_eq_true rfl) (Nat.zero_le _) (Nat.zero_le _) dX6_decide_45 ?_
      obtain ⟨v7, e8, h⟩ := vl_e h
      refine lv_nm e8 ?_
      refine lv_istore (lv' := [(6, .int v7), (0, .ref (ad 699 0)), (1, .int x1), (2, .int x2), (3, .ref (ad 499 j3)), (4, .int x4), (5, .ref (ad 299 j5))]) hx hb dX6_decide_48 hl (by decide) rfl (fun ls hl => ?_)
      exact k_X6_decide_50 C x2 j3 hj3 j5 hj5 v7 σ h hh (lv_sub hl [1, 3, 4, 6, 0] rfl)
  · rw [if_pos c1] at h
    refine lv_aload hx hb dX6_decide_4 (lv_at hl 5 rfl) ?_
    refine lv_bipush (v := (6 : Int32)) hx hb dX6_decide_6 (by decide) ?_
    obtain ⟨s9, e10, h⟩ := vl_e h
    refine pf_6_92 C hh hj5 dX6_decide_8 (fun H locs hh => ?_)
    rw [← e10] at hh
    refine lv_aload hx hb dX6_decide_11 (lv_at hl 5 rfl) ?_
    refine lv_iconst (v := (1 : Int32)) hx hb dX6_decide_13 (by decide) ?_
    obtain ⟨s11, e12, h⟩ := vl_e h
    refine pf_6_137 C hh hj5 dX6_decide_14 (fun H locs hh => ?_)
    rw [← e12] at hh
    exact r_void C hh h dX6_decide_17
abbrev rm_X6_request : Room := { frames := 2, cells := 0, slots := 0, locals := 49 }
theorem HD_X6_request : yX6_request.cls = RX6 ∧ yX6_request.cls ≠ "java/lang/invoke/MethodHandle" ∧ yX6_request.cls ≠ "java/lang/invoke/VarHandle" ∧ (parseMethodDescriptor yX6_request.desc).map (fun d => d.parameters.length) = some 4 := by decide +kernel
def f_X6_request_183 (j2 : Nat) (x3 : Int32) (j4 : Nat) (x5 : Int32) (xs0 : Int32) (σ : Mem) : Option (Mem) := bv (f_X6_decide xs0 x5 j2 x3 j4 σ) (fun s2 => some s2)
set_option maxHeartbeats 4000000 in
set_option maxRecDepth 100000 in
theorem k_X6_request_183 {p : Program} {l : Launch} {e : Env} {s : State} {m : MethodId} {args : Array Value} {below : List Frame} {meth : Method} {c : Code} {D : va_G} {cA : Nat → ClassId} {ad : Nat → Nat → Nat} {A : Nat → Prop} {o : Nat → Int64} (C : Cx p s m args meth c cX6_request 7 RX6 none D cA ad A o) {r : Mem} (j2 : Nat) (hj2 : j2 < 4) (x3 : Int32) (j4 : Nat) (hj4 : j4 < 2) (x5 : Int32) (xs0 : Int32) (σ : Mem) {H : Heap} {locs : List Loc} (h : f_X6_request_183 j2 x3 j4 x5 xs0 σ = some r) (hh : HH D cA ad A o s σ H locs) {ls : Array Slot} (hl : lv_has ls 7 [(0, .ref (ad 699 0)), (2, .ref (ad 499 j2)), (3, .int x3), (4, .ref (ad 299 j4)), (5, .int x5)]) : W p l e rm_X6_request s m args below meth c H locs 0 0 (MQ below (Qv D cA ad o A r) args s 0 0 A) (F0 m 183 ls [.int xs0]) := by
  obtain ⟨⟨hx, hb, hml, hown, hts⟩, hK, hN, hD, hr, hlocks⟩ := id C
  unfold f_X6_request_183 at h
  refine lv_istore (lv' := [(6, .int xs0), (0, .ref (ad 699 0)), (2, .ref (ad 499 j2)), (3, .int x3), (4, .ref (ad 299 j4)), (5, .int x5)]) hx hb dX6_request_183 hl (by decide) rfl (fun ls hl => ?_)
  refine lv_aload_n hx hb dX6_request_185 rfl (lv_at hl 1 rfl) ?_
  refine lv_iload hx hb dX6_request_186 (lv_at hl 0 rfl) ?_
  refine lv_iload hx hb dX6_request_188 (lv_at hl 5 rfl) ?_
  refine lv_aload_n hx hb dX6_request_190 rfl (lv_at hl 2 rfl) ?_
  refine lv_iload_n hx hb dX6_request_191 rfl (lv_at hl 3 rfl) ?_
  refine lv_aload hx hb dX6_request_192 (lv_at hl 4 rfl) ?_
  obtain ⟨s2, e1, h⟩ := bv_e h
  refine c_void hh (vrun (rest := []) C hh (c_X6_decide C.2.2.2.1 xs0 x5 j2 hj2 x3 j4 hj4 σ e1) LM_6_140 IM_X6_decide SL_X6_decide IN_6 CD_X6_decide HD_X6_decide ⟨rfl, rfl, Nat.le_of_ble_eq_true rfl, Nat.le_of_ble_eq_true rfl⟩ (rv_6 C hh) rfl hl.1 rfl (Nat.le_of_ble_eq_true rfl) dX6_request_194 ⟨Nat.zero_le _, Nat.zero_le _⟩) (fun H locs hh => ?_)
  exact r_void C hh h dX6_request_197
def f_X6_request_182 (j2 : Nat) (x3 : Int32) (j4 : Nat) (x5 : Int32) (σ : Mem) : Option (Mem) := f_X6_request_183 j2 x3 j4 x5 (0 : Int32) σ
set_option maxHeartbeats 4000000 in
set_option maxRecDepth 100000 in
theorem k_X6_request_182 {p : Program} {l : Launch} {e : Env} {s : State} {m : MethodId} {args : Array Value} {below : List Frame} {meth : Method} {c : Code} {D : va_G} {cA : Nat → ClassId} {ad : Nat → Nat → Nat} {A : Nat → Prop} {o : Nat → Int64} (C : Cx p s m args meth c cX6_request 7 RX6 none D cA ad A o) {r : Mem} (j2 : Nat) (hj2 : j2 < 4) (x3 : Int32) (j4 : Nat) (hj4 : j4 < 2) (x5 : Int32) (σ : Mem) {H : Heap} {locs : List Loc} (h : f_X6_request_182 j2 x3 j4 x5 σ = some r) (hh : HH D cA ad A o s σ H locs) {ls : Array Slot} (hl : lv_has ls 7 [(0, .ref (ad 699 0)), (2, .ref (ad 499 j2)), (3, .int x3), (4, .ref (ad 299 j4)), (5, .int x5)]) : W p l e rm_X6_request s m args below meth c H locs 0 0 (MQ below (Qv D cA ad o A r) args s 0 0 A) (F0 m 182 ls []) := by
  obtain ⟨⟨hx, hb, hml, hown, hts⟩, hK, hN, hD, hr, hlocks⟩ := id C
  unfold f_X6_request_182 at h
  refine lv_iconst (v := (0 : Int32)) hx hb dX6_request_182 (by decide) ?_
  exact k_X6_request_183 C j2 hj2 x3 j4 hj4 x5 (0 : Int32) σ h hh (lv_sub hl [0, 1, 2, 3, 4] rfl)
def f_X6_request_156 (j1 : Nat) (j2 : Nat) (x3 : Int32) (j4 : Nat) (x5 : Int32) (σ : Mem) : Option (Mem) := bn (f_X4_holds j2 x5 σ) (fun r3 s2 => (if r3 = (0 : Int32) then f_X6_request_182 j2 x3 j4 x5 s2 else bn (f_X6_isOwner (s2 206 j1 0) x5 s2) (fun r7 s6 => (if r7 = (0 : Int32) then f_X6_request_182 j2 x3 j4 x5 s6 else f_X6_request_183 j2 x3 j4 x5 (1 : Int32) s6))))
set_option maxHeartbeats 4000000 in
set_option maxRecDepth 100000 in
theorem k_X6_request_156 {p : Program} {l : Launch} {e : Env} {s : State} {m : MethodId} {args : Array Value} {below : List Frame} {meth : Method} {c : Code} {D : va_G} {cA : Nat → ClassId} {ad : Nat → Nat → Nat} {A : Nat → Prop} {o : Nat → Int64} (C : Cx p s m args meth c cX6_request 7 RX6 none D cA ad A o) {r : Mem} (j1 : Nat) (hj1 : j1 < 2) (j2 : Nat) (hj2 : j2 < 4) (x3 : Int32) (j4 : Nat) (hj4 : j4 < 2) (x5 : Int32) (σ : Mem) {H : Heap} {locs : List Loc} (h : f_X6_request_156 j1 j2 x3 j4 x5 σ = some r) (hh : HH D cA ad A o s σ H locs) {ls : Array Slot} (hl : lv_has ls 7 [(0, .ref (ad 699 0)), (1, .ref (ad 299 j1)), (2, .ref (ad 499 j2)), (3, .int x3), (4, .ref (ad 299 j4)), (5, .int x5)]) : W p l e rm_X6_request s m args below meth c H locs 0 0 (MQ below (Qv D cA ad o A r) args s 0 0 A) (F0 m 156 ls []) := by
  obtain ⟨⟨hx, hb, hml, hown, hts⟩, hK, hN, hD, hr, hlocks⟩ := id C
  unfold f_X6_request_156 at h
  refine lv_aload_n hx hb dX6_request_156 rfl (lv_at hl 2 rfl) ?_
  refine lv_iload hx hb dX6_request_157 (lv_at hl 5 rfl) ?_
  obtain ⟨r3, s2, e1, h⟩ := bn_e h
  refine c_int hh (vrun (rest := []) C hh (c_X4_holds C.2.2.2.1 j2 hj2 x5 σ e1) LM_6_130 IM_X4_holds SL_X4_holds IN_4 CD_X4_holds HD_X4_holds ⟨rfl, rfl, Nat.le_of_ble_eq_true rfl, Nat.le_of_ble_eq_true rfl⟩ (rv_4 C hh hj2) rfl hl.1 rfl (Nat.le_of_ble_eq_true rfl) dX6_request_159 ⟨Nat.zero_le _, Nat.zero_le _⟩) (fun H locs hh => ?_)
  refine lv_if_eq (tgt := 182) hx hb dX6_request_162 (by decide) (fun c4 => ?_) (fun c4 => ?_)
  · rw [if_pos c4] at h
    exact k_X6_request_182 C j2 hj2 x3 j4 hj4 x5 s2 h hh (lv_sub hl [0, 2, 3, 4, 5] rfl)
  · rw [if_neg c4] at h
    refine lv_aload_n hx hb dX6_request_165 rfl (lv_at hl 0 rfl) ?_
    refine lv_aload_n hx hb dX6_request_166 rfl (lv_at hl 1 rfl) ?_
    refine gf_6_68 C hh hj1 dX6_request_167 ?_
    refine lv_iload hx hb dX6_request_170 (lv_at hl 5 rfl) ?_
    obtain ⟨r7, s6, e5, h⟩ := bn_e h
    refine c_int hh (vrun (rest := []) C hh (c_X6_isOwner C.2.2.2.1 (s2 206 j1 0) x5 s2 e5) LM_6_111 IM_X6_isOwner SL_X6_isOwner IN_6 CD_X6_isOwner HD_X6_isOwner ⟨rfl, rfl, Nat.le_of_ble_eq_true rfl, Nat.le_of_ble_eq_true rfl⟩ (rv_6 C hh) rfl hl.1 rfl (Nat.le_of_ble_eq_true rfl) dX6_request_172 ⟨Nat.zero_le _, Nat.zero_le _⟩) (fun H locs hh => ?_)
    refine lv_if_eq (tgt := 182) hx hb dX6_request_175 (by decide) (fun c8 => ?_) (fun c8 => ?_)
    · rw [if_pos c8] at h
      exact k_X6_request_182 C j2 hj2 x3 j4 hj4 x5 s6 h hh (lv_sub hl [0, 2, 3, 4, 5] rfl)
    · rw [if_neg c8] at h
      refine lv_iconst (v := (1 : Int32)) hx hb dX6_request_178 (by decide) ?_
      refine lv_goto (tgt := 183) hx hb dX6_request_179 (by decide) ?_
      exact k_X6_request_183 C j2 hj2 x3 j4 hj4 x5 (1 : Int32) s6 h hh (lv_sub hl [0, 2, 3, 4, 5] rfl)
def f_X6_request_135 (j1 : Nat) (j2 : Nat) (x3 : Int32) (j4 : Nat) (xs0 : Int32) (σ : Mem) : Option (Mem) := bn (f_X4_holds j2 xs0 σ) (fun r3 s2 => (if r3 = (0 : Int32) then f_X6_request_156 j1 j2 x3 j4 xs0 s2 else gd (vin xs0 1024) ((if (s2 602 0 (xs0).toNatClampNeg) = (0 : Int32) then some s2 else f_X6_request_156 j1 j2 x3 j4 xs0 s2))))
set_option maxHeartbeats 4000000 in
set_option maxRecDepth 100000 in
theorem k_X6_request_135 {p : Program} {l : Launch} {e : Env} {s : State} {m : MethodId} {args : Array Value} {below : List Frame} {meth : Method} {c : Code} {D : va_G} {cA : Nat → ClassId} {ad : Nat → Nat → Nat} {A : Nat → Prop} {o : Nat → Int64} (C : Cx p s m args meth c cX6_request 7 RX6 none D cA ad A o) {r : Mem} (j1 : Nat) (hj1 : j1 < 2) (j2 : Nat) (hj2 : j2 < 4) (x3 : Int32) (j4 : Nat) (hj4 : j4 < 2) (xs0 : Int32) (σ : Mem) {H : Heap} {locs : List Loc} (h : f_X6_request_135 j1 j2 x3 j4 xs0 σ = some r) (hh : HH D cA ad A o s σ H locs) {ls : Array Slot} (hl : lv_has ls 7 [(0, .ref (ad 699 0)), (1, .ref (ad 299 j1)), (2, .ref (ad 499 j2)), (3, .int x3), (4, .ref (ad 299 j4))]) : W p l e rm_X6_request s m args below meth c H locs 0 0 (MQ below (Qv D cA ad o A r) args s 0 0 A) (F0 m 135 ls [.int xs0]) := by
  obtain ⟨⟨hx, hb, hml, hown, hts⟩, hK, hN, hD, hr, hlocks⟩ := id C
  unfold f_X6_request_135 at h
  refine lv_istore (lv' := [(5, .int xs0), (0, .ref (ad 699 0)), (1, .ref (ad 299 j1)), (2, .ref (ad 499 j2)), (3, .int x3), (4, .ref (ad 299 j4))]) hx hb dX6_request_135 hl (by decide) rfl (fun ls hl => ?_)
  refine lv_aload_n hx hb dX6_request_137 rfl (lv_at hl 3 rfl) ?_
  refine lv_iload hx hb dX6_request_138 (lv_at hl 0 rfl) ?_
  obtain ⟨r3, s2, e1, h⟩ := bn_e h
  refine c_int hh (vrun (rest := []) C hh (c_X4_holds C.2.2.2.1 j2 hj2 xs0 σ e1) LM_6_130 IM_X4_holds SL_X4_holds IN_4 CD_X4_holds HD_X4_holds ⟨rfl, rfl, Nat.le_of_ble_eq_true rfl, Nat.le_of_ble_eq_true rfl⟩ (rv_4 C hh hj2) rfl hl.1 rfl (Nat.le_of_ble_eq_true rfl) dX6_request_140 ⟨Nat.zero_le _, Nat.zero_le _⟩) (fun H locs hh => ?_)
  refine lv_if_eq (tgt := 156) hx hb dX6_request_143 (by decide) (fun c4 => ?_) (fun c4 => ?_)
  · rw [if_pos c4] at h
    exact k_X6_request_156 C j1 hj1 j2 hj2 x3 j4 hj4 xs0 s2 h hh (lv_sub hl [1, 2, 3, 4, 5, 0] rfl)
  · rw [if_neg c4] at h
    refine lv_aload_n hx hb dX6_request_146 rfl (lv_at hl 1 rfl) ?_
    refine gf_6_21 C hh dX6_request_147 ?_
    refine lv_iload hx hb dX6_request_150 (lv_at hl 0 rfl) ?_
    obtain ⟨b5, h⟩ := gd_e h
    refine al_602 C hh b5 dX6_request_152 ?_
    refine lv_if_eq (tgt := 197) hx hb dX6_request_153 (by decide) (fun c6 => ?_) (fun c6 => ?_)
    · rw [if_pos c6] at h
      exact r_void C hh h dX6_request_197
    · rw [if_neg c6] at h
      exact k_X6_request_156 C j1 hj1 j2 hj2 x3 j4 hj4 xs0 s2 h hh (lv_sub hl [1, 2, 3, 4, 5, 0] rfl)
def f_X6_request_114 (σ : Mem) : Option (Mem) := some σ
set_option maxHeartbeats 4000000 in
set_option maxRecDepth 100000 in
theorem k_X6_request_114 {p : Program} {l : Launch} {e : Env} {s : State} {m : MethodId} {args : Array Value} {below : List Frame} {meth : Method} {c : Code} {D : va_G} {cA : Nat → ClassId} {ad : Nat → Nat → Nat} {A : Nat → Prop} {o : Nat → Int64} (C : Cx p s m args meth c cX6_request 7 RX6 none D cA ad A o) {r : Mem} (σ : Mem) {H : Heap} {locs : List Loc} (h : f_X6_request_114 σ = some r) (hh : HH D cA ad A o s σ H locs) {ls : Array Slot} (hl : lv_has ls 7 []) : W p l e rm_X6_request s m args below meth c H locs 0 0 (MQ below (Qv D cA ad o A r) args s 0 0 A) (F0 m 114 ls []) := by
  obtain ⟨⟨hx, hb, hml, hown, hts⟩, hK, hN, hD, hr, hlocks⟩ := id C
  unfold f_X6_request_114 at h
  refine lv_goto (tgt := 197) hx hb dX6_request_114 (by decide) ?_
  exact r_void C hh h dX6_request_197
def f_X6_request_52 (j1 : Nat) (j2 : Nat) (x3 : Int32) (j4 : Nat) (xs0 : Int32) (σ : Mem) : Option (Mem) := bv (f_X6_decide xs0 (σ 208 j1 0) j2 x3 j4 σ) (fun s2 => some s2)
set_option maxHeartbeats 4000000 in
set_option maxRecDepth 100000 in
theorem k_X6_request_52 {p : Program} {l : Launch} {e : Env} {s : State} {m : MethodId} {args : Array Value} {below : List Frame} {meth : Method} {c : Code} {D : va_G} {cA : Nat → ClassId} {ad : Nat → Nat → Nat} {A : Nat → Prop} {o : Nat → Int64} (C : Cx p s m args meth c cX6_request 7 RX6 none D cA ad A o) {r : Mem} (j1 : Nat) (hj1 : j1 < 2) (j2 : Nat) (hj2 : j2 < 4) (x3 : Int32) (j4 : Nat) (hj4 : j4 < 2) (xs0 : Int32) (σ : Mem) {H : Heap} {locs : List Loc} (h : f_X6_request_52 j1 j2 x3 j4 xs0 σ = some r) (hh : HH D cA ad A o s σ H locs) {ls : Array Slot} (hl : lv_has ls 7 [(0, .ref (ad 699 0)), (1, .ref (ad 299 j1)), (2, .ref (ad 499 j2)), (3, .int x3), (4, .ref (ad 299 j4))]) : W p l e rm_X6_request s m args below meth c H locs 0 0 (MQ below (Qv D cA ad o A r) args s 0 0 A) (F0 m 52 ls [.int xs0]) := by
  obtain ⟨⟨hx, hb, hml, hown, hts⟩, hK, hN, hD, hr, hlocks⟩ := id C
  unfold f_X6_request_52 at h
  refine lv_istore (lv' := [(5, .int xs0), (0, .ref (ad 699 0)), (1, .ref (ad 299 j1)), (2, .ref (ad 499 j2)), (3, .int x3), (4, .ref (ad 299 j4))]) hx hb dX6_request_52 hl (by decide) rfl (fun ls hl => ?_)
  refine lv_aload_n hx hb dX6_request_54 rfl (lv_at hl 1 rfl) ?_
  refine lv_iload hx hb dX6_request_55 (lv_at hl 0 rfl) ?_
  refine lv_aload_n hx hb dX6_request_57 rfl (lv_at hl 2 rfl) ?_
  refine gf_6_108 C hh hj1 dX6_request_58 ?_
  refine lv_aload_n hx hb dX6_request_61 rfl (lv_at hl 3 rfl) ?_
  refine lv_iload_n hx hb dX6_request_62 rfl (lv_at hl 4 rfl) ?_
  refine lv_aload hx hb dX6_request_63 (lv_at hl 5 rfl) ?_
  obtain ⟨s2, e1, h⟩ := bv_e h
  refine c_void hh (vrun (rest := []) C hh (c_X6_decide C.2.2.2.1 xs0 (σ 208 j1 0) j2 hj2 x3 j4 hj4 σ e1) LM_6_140 IM_X6_decide SL_X6_decide IN_6 CD_X6_decide HD_X6_decide ⟨rfl, rfl, Nat.le_of_ble_eq_true rfl, Nat.le_of_ble_eq_true rfl⟩ (rv_6 C hh) rfl hl.1 rfl (Nat.le_of_ble_eq_true rfl) dX6_request_65 ⟨Nat.zero_le _, Nat.zero_le _⟩) (fun H locs hh => ?_)
  refine lv_goto (tgt := 197) hx hb dX6_request_68 (by decide) ?_
  exact r_void C hh h dX6_request_197
def f_X6_request_51 (j1 : Nat) (j2 : Nat) (x3 : Int32) (j4 : Nat) (σ : Mem) : Option (Mem) := f_X6_request_52 j1 j2 x3 j4 (0 : Int32) σ
set_option maxHeartbeats 4000000 in
set_option maxRecDepth 100000 in
theorem k_X6_request_51 {p : Program} {l : Launch} {e : Env} {s : State} {m : MethodId} {args : Array Value} {below : List Frame} {meth : Method} {c : Code} {D : va_G} {cA : Nat → ClassId} {ad : Nat → Nat → Nat} {A : Nat → Prop} {o : Nat → Int64} (C : Cx p s m args meth c cX6_request 7 RX6 none D cA ad A o) {r : Mem} (j1 : Nat) (hj1 : j1 < 2) (j2 : Nat) (hj2 : j2 < 4) (x3 : Int32) (j4 : Nat) (hj4 : j4 < 2) (σ : Mem) {H : Heap} {locs : List Loc} (h : f_X6_request_51 j1 j2 x3 j4 σ = some r) (hh : HH D cA ad A o s σ H locs) {ls : Array Slot} (hl : lv_has ls 7 [(0, .ref (ad 699 0)), (1, .ref (ad 299 j1)), (2, .ref (ad 499 j2)), (3, .int x3), (4, .ref (ad 299 j4))]) : W p l e rm_X6_request s m args below meth c H locs 0 0 (MQ below (Qv D cA ad o A r) args s 0 0 A) (F0 m 51 ls []) := by
  obtain ⟨⟨hx, hb, hml, hown, hts⟩, hK, hN, hD, hr, hlocks⟩ := id C
  unfold f_X6_request_51 at h
  refine lv_iconst (v := (0 : Int32)) hx hb dX6_request_51 (by decide) ?_
  exact k_X6_request_52 C j1 hj1 j2 hj2 x3 j4 hj4 (0 : Int32) σ h hh (lv_sub hl [0, 1, 2, 3, 4] rfl)
def f_X6_request (j1 : Nat) (j2 : Nat) (x3 : Int32) (j4 : Nat) (σ : Mem) : Option (Mem) := (if (σ 210 j1 0) = (1 : Int32) then bn (f_X4_holds j2 (σ 208 j1 0) σ) (fun r14 s13 => (if r14 = (0 : Int32) then f_X6_request_51 j1 j2 x3 j4 s13 else bn (f_X6_isOwner (s13 206 j1 0) (s13 208 j1 0) s13) (fun r18 s17 => (if r18 = (0 : Int32) then f_X6_request_51 j1 j2 x3 j4 s17 else gd (vin (s17 208 j1 0) 1024) ((if (s17 604 0 ((s17 208 j1 0)).toNatClampNeg) ≤ x3 then f_X6_request_51 j1 j2 x3 j4 s17 else f_X6_request_52 j1 j2 x3 j4 (1 : Int32) s17)))))) else (if (σ 210 j1 0) = (0 : Int32) then (if (σ 203 j1 0) = (0 : Int32) then f_X6_request_135 j1 j2 x3 j4 (σ 208 j1 0) σ else f_X6_request_135 j1 j2 x3 j4 (σ 203 j1 0) σ) else bn (f_X6_leastOf (σ 206 j1 0) j2 σ) (fun r6 s5 => (if r6 = (0 : Int32) then f_X6_request_114 s5 else gd (vin r6 1024) ((if (s5 602 0 (r6).toNatClampNeg) = (1 : Int32) then bv (f_X6_write r6 (0 : Int32) (-1 : Int32) (0 : Int32) s5) (fun s11 => f_X6_request_114 s11) else f_X6_request_114 s5))))))
set_option maxHeartbeats 4000000 in
set_option maxRecDepth 100000 in
theorem c_X6_request {l : Launch} {D : va_G} {cA : Nat → ClassId} {ad : Nat → Nat → Nat} {A : Nat → Prop} {o : Nat → Int64} (hD0 : ∀ σ, va_D A (wW cA ad σ o)) (j1 : Nat) (hj1 : j1 < 2) (j2 : Nat) (hj2 : j2 < 4) (x3 : Int32) (j4 : Nat) (hj4 : j4 < 2) (σ : Mem) {r : Mem} (h : f_X6_request j1 j2 x3 j4 σ = some r) : Met l yX6_request (wsG yX6_request cX6_request 7 none) rm_X6_request (va_Pc [.ref (ad 699 0), .ref (ad 299 j1), .ref (ad 499 j2), .int x3, .ref (ad 299 j4)] (IW D cA ad o σ)) (Qv D cA ad o A r) 0 0 A := by
  refine metG (by decide) (Nat.le_of_ble_eq_true rfl) hD0 ?_
  intro p e s m args below meth c C ls hh hl
  have C : Cx p s m args meth c cX6_request 7 RX6 none D cA ad A o := C
  have hl : lv_has ls 7 [(0, .ref (ad 699 0)), (1, .ref (ad 299 j1)), (2, .ref (ad 499 j2)), (3, .int x3), (4, .ref (ad 299 j4))] := hl
  obtain ⟨⟨hx, hb, hml, hown, hts⟩, hK, hN, hD, hr, hlocks⟩ := id C
  unfold f_X6_request at h
  refine lv_aload_n hx hb dX6_request_0 rfl (lv_at hl 1 rfl) ?_
  refine gf_6_137 C hh hj1 dX6_request_1 ?_
  refine lv_iconst (v := (1 : Int32)) hx hb dX6_request_4 (by decide) ?_
  refine lv_icmp_ne (tgt := 71) hx hb dX6_request_5 (by decide) (fun c1 => ?_) (fun c1 => ?_)
  · rw [if_neg c1] at h
    refine lv_aload_n hx hb dX6_request_71 rfl (lv_at hl 1 rfl) ?_
    refine gf_6_137 C hh hj1 dX6_request_72 ?_
    refine lv_if_eq (tgt := 117) hx hb dX6_request_75 (by decide) (fun c2 => ?_) (fun c2 => ?_)
    · rw [if_pos c2] at h
      refine lv_aload_n hx hb dX6_request_117 rfl (lv_at hl 1 rfl) ?_
      refine gf_6_99 C hh hj1 dX6_request_118 ?_
      refine lv_if_eq (tgt := 131) hx hb dX6_request_121 (by decide) (fun c3 => ?_) (fun c3 => ?_)
      · rw [if_pos c3] at h
        refine lv_aload_n hx hb dX6_request_131 rfl (lv_at hl 1 rfl) ?_
        refine gf_6_108 C hh hj1 dX6_request_132 ?_
        exact k_X6_request_135 C j1 hj1 j2 hj2 x3 j4 hj4 (σ 208 j1 0) σ h hh (lv_sub hl [0, 1, 2, 3, 4] rfl)
      · rw [if_neg c3] at h
        refine lv_aload_n hx hb dX6_request_124 rfl (lv_at hl 1 rfl) ?_
        refine gf_6_99 C hh hj1 dX6_request_125 ?_
        refine lv_goto (tgt := 135) hx hb dX6_request_128 (by decide) ?_
        exact k_X6_request_135 C j1 hj1 j2 hj2 x3 j4 hj4 (σ 203 j1 0) σ h hh (lv_sub hl [0, 1, 2, 3, 4] rfl)
    · rw [if_neg c2] at h
      refine lv_aload_n hx hb dX6_request_78 rfl (lv_at hl 0 rfl) ?_
      refine lv_aload_n hx hb dX6_request_79 rfl (lv_at hl 1 rfl) ?_
      refine gf_6_68 C hh hj1 dX6_request_80 ?_
      refine lv_aload_n hx hb dX6_request_83 rfl (lv_at hl 2 rfl) ?_
      obtain ⟨r6, s5, e4, h⟩ := bn_e h
      refine c_int hh (vrun (rest := []) C hh (c_X6_leastOf C.2.2.2.1 (σ 206 j1 0) j2 hj2 σ e4) LM_6_126 IM_X6_leastOf SL_X6_leastOf IN_6 CD_X6_leastOf HD_X6_leastOf ⟨rfl, rfl, Nat.le_of_ble_eq_true rfl, Nat.le_of_ble_eq_true rfl⟩ (rv_6 C hh) rfl hl.1 rfl (Nat.le_of_ble_eq_true rfl) dX6_request_84 ⟨Nat.zero_le _, Nat.zero_le _⟩) (fun H locs hh => ?_)
      refine lv_istore (lv' := [(5, .int r6), (0, .ref (ad 699 0)), (1, .ref (ad 299 j1)), (2, .ref (ad 499 j2)), (3, .int x3), (4, .ref (ad 299 j4))]) hx hb dX6_request_87 hl (by decide) rfl (fun ls hl => ?_)
      refine lv_iload hx hb dX6_request_89 (lv_at hl 0 rfl) ?_
      refine lv_if_eq (tgt := 114) hx hb dX6_request_91 (by decide) (fun c7 => ?_) (fun c7 => ?_)
      · rw [if_pos c7] at h
        exact k_X6_request_114 C s5 h hh (lv_sub hl [] rfl)
      · rw [if_neg c7] at h
        refine lv_aload_n hx hb dX6_request_94 rfl (lv_at hl 1 rfl) ?_
        refine gf_6_21 C hh dX6_request_95 ?_
        refine lv_iload hx hb dX6_request_98 (lv_at hl 0 rfl) ?_
        obtain ⟨b8, h⟩ := gd_e h
        refine al_602 C hh b8 dX6_request_100 ?_
        refine lv_iconst (v := (1 : Int32)) hx hb dX6_request_101 (by decide) ?_
        refine lv_icmp_ne (tgt := 114) hx hb dX6_request_102 (by decide) (fun c9 => ?_) (fun c9 => ?_)
        · rw [if_neg c9] at h
          exact k_X6_request_114 C s5 h hh (lv_sub hl [] rfl)
        · rw [if_pos c9] at h
          refine lv_aload_n hx hb dX6_request_105 rfl (lv_at hl 1 rfl) ?_
          refine lv_iload hx hb dX6_request_106 (lv_at hl 0 rfl) ?_
          refine lv_iconst (v := (0 : Int32)) hx hb dX6_request_108 (by decide) ?_
          refine lv_iconst (v := (-1 : Int32)) hx hb dX6_request_109 (by decide) ?_
          refine lv_iconst (v := (0 : Int32)) hx hb dX6_request_110 (by decide) ?_
          obtain ⟨s11, e10, h⟩ := bv_e h
          refine c_void hh (vrun (rest := []) C hh (c_X6_write C.2.2.2.1 r6 (0 : Int32) (-1 : Int32) (0 : Int32) s5 e10) LM_6_114 IM_X6_write SL_X6_write IN_6 CD_X6_write HD_X6_write ⟨rfl, rfl, Nat.le_of_ble_eq_true rfl, Nat.le_of_ble_eq_true rfl⟩ (rv_6 C hh) rfl hl.1 rfl (Nat.le_of_ble_eq_true rfl) dX6_request_111 ⟨Nat.zero_le _, Nat.zero_le _⟩) (fun H locs hh => ?_)
          exact k_X6_request_114 C s11 h hh (lv_sub hl [] rfl)
  · rw [if_pos c1] at h
    refine lv_aload_n hx hb dX6_request_8 rfl (lv_at hl 2 rfl) ?_
    refine lv_aload_n hx hb dX6_request_9 rfl (lv_at hl 1 rfl) ?_
    refine gf_6_108 C hh hj1 dX6_request_10 ?_
    obtain ⟨r14, s13, e12, h⟩ := bn_e h
    refine c_int hh (vrun (rest := []) C hh (c_X4_holds C.2.2.2.1 j2 hj2 (σ 208 j1 0) σ e12) LM_6_130 IM_X4_holds SL_X4_holds IN_4 CD_X4_holds HD_X4_holds ⟨rfl, rfl, Nat.le_of_ble_eq_true rfl, Nat.le_of_ble_eq_true rfl⟩ (rv_4 C hh hj2) rfl hl.1 rfl (Nat.le_of_ble_eq_true rfl) dX6_request_13 ⟨Nat.zero_le _, Nat.zero_le _⟩) (fun H locs hh => ?_)
    refine lv_if_eq (tgt := 51) hx hb dX6_request_16 (by decide) (fun c15 => ?_) (fun c15 => ?_)
    · rw [if_pos c15] at h
      exact k_X6_request_51 C j1 hj1 j2 hj2 x3 j4 hj4 s13 h hh (lv_sub hl [0, 1, 2, 3, 4] rfl)
    · rw [if_neg c15] at h
      refine lv_aload_n hx hb dX6_request_19 rfl (lv_at hl 0 rfl) ?_
      refine lv_aload_n hx hb dX6_request_20 rfl (lv_at hl 1 rfl) ?_
      refine gf_6_68 C hh hj1 dX6_request_21 ?_
      refine lv_aload_n hx hb dX6_request_24 rfl (lv_at hl 1 rfl) ?_
      refine gf_6_108 C hh hj1 dX6_request_25 ?_
      obtain ⟨r18, s17, e16, h⟩ := bn_e h
      refine c_int hh (vrun (rest := []) C hh (c_X6_isOwner C.2.2.2.1 (s13 206 j1 0) (s13 208 j1 0) s13 e16) LM_6_111 IM_X6_isOwner SL_X6_isOwner IN_6 CD_X6_isOwner HD_X6_isOwner ⟨rfl, rfl, Nat.le_of_ble_eq_true rfl, Nat.le_of_ble_eq_true rfl⟩ (rv_6 C hh) rfl hl.1 rfl (Nat.le_of_ble_eq_true rfl) dX6_request_28 ⟨Nat.zero_le _, Nat.zero_le _⟩) (fun H locs hh => ?_)
      refine lv_if_eq (tgt := 51) hx hb dX6_request_31 (by decide) (fun c19 => ?_) (fun c19 => ?_)
      · rw [if_pos c19] at h
        exact k_X6_request_51 C j1 hj1 j2 hj2 x3 j4 hj4 s17 h hh (lv_sub hl [0, 1, 2, 3, 4] rfl)
      · rw [if_neg c19] at h
        refine lv_aload_n hx hb dX6_request_34 rfl (lv_at hl 0 rfl) ?_
        refine gf_6_28 C hh dX6_request_35 ?_
        refine lv_aload_n hx hb dX6_request_38 rfl (lv_at hl 1 rfl) ?_
        refine gf_6_108 C hh hj1 dX6_request_39 ?_
        obtain ⟨b20, h⟩ := gd_e h
        refine al_604 C hh b20 dX6_request_42 ?_
        refine lv_iload_n hx hb dX6_request_43 rfl (lv_at hl 3 rfl) ?_
        refine lv_icmp_le (tgt := 51) hx hb dX6_request_44 (by decide) (fun c21 => ?_) (fun c21 => ?_)
        · rw [if_pos c21] at h
          exact k_X6_request_51 C j1 hj1 j2 hj2 x3 j4 hj4 s17 h hh (lv_sub hl [0, 1, 2, 3, 4] rfl)
        · rw [if_neg c21] at h
          refine lv_iconst (v := (1 : Int32)) hx hb dX6_request_47 (by decide) ?_
          refine lv_goto (tgt := 52) hx hb dX6_request_48 (by decide) ?_
          exact k_X6_request_52 C j1 hj1 j2 hj2 x3 j4 hj4 (1 : Int32) s17 h hh (lv_sub hl [0, 1, 2, 3, 4] rfl)
abbrev rm_X6_lookAt : Room := { frames := 4, cells := 0, slots := 0, locals := 97 }
theorem HD_X6_lookAt : yX6_lookAt.cls = RX6 ∧ yX6_lookAt.cls ≠ "java/lang/invoke/MethodHandle" ∧ yX6_lookAt.cls ≠ "java/lang/invoke/VarHandle" ∧ (parseMethodDescriptor yX6_lookAt.desc).map (fun d => d.parameters.length) = some 4 := by decide +kernel
def f_X6_lookAt (j1 : Nat) (j2 : Nat) (x3 : Int32) (j4 : Nat) (σ : Mem) : Option (Mem) := (if (σ 207 j1 0) = (1 : Int32) then bv (f_X6_offer j1 j2 x3 j4 σ) (fun s3 => some s3) else if (σ 207 j1 0) = (2 : Int32) then some σ else if (σ 207 j1 0) = (3 : Int32) then bv (f_X6_request j1 j2 x3 j4 σ) (fun s7 => some s7) else if (σ 207 j1 0) = (4 : Int32) then bn (f_X6_isOwner (σ 206 j1 0) (σ 208 j1 0) σ) (fun r11 s10 => (if r11 = (0 : Int32) then some s10 else bv (f_X6_write (s10 208 j1 0) (3 : Int32) (-1 : Int32) (x3 + (100 : Int32)) s10) (fun s14 => some s14))) else if (σ 207 j1 0) = (5 : Int32) then some σ else if (σ 207 j1 0) = (6 : Int32) then some σ else if (σ 207 j1 0) = (7 : Int32) then bn (f_X6_isOwner (σ 206 j1 0) (σ 203 j1 0) σ) (fun r20 s19 => (if r20 = (0 : Int32) then some s19 else gd (vin (s19 203 j1 0) 1024) ((if (s19 602 0 ((s19 203 j1 0)).toNatClampNeg) = (2 : Int32) then gd (vin (s19 203 j1 0) 1024) (vl (up s19 604 0 ((s19 203 j1 0)).toNatClampNeg x3) (fun s25 => some s25)) else some s19)))) else some σ)
set_option maxHeartbeats 4000000 in
set_option maxRecDepth 100000 in
theorem c_X6_lookAt {l : Launch} {D : va_G} {cA : Nat → ClassId} {ad : Nat → Nat → Nat} {A : Nat → Prop} {o : Nat → Int64} (hD0 : ∀ σ, va_D A (wW cA ad σ o)) (j1 : Nat) (hj1 : j1 < 2) (j2 : Nat) (hj2 : j2 < 4) (x3 : Int32) (j4 : Nat) (hj4 : j4 < 2) (σ : Mem) {r : Mem} (h : f_X6_lookAt j1 j2 x3 j4 σ = some r) : Met l yX6_lookAt (wsG yX6_lookAt cX6_lookAt 5 none) rm_X6_lookAt (va_Pc [.ref (ad 699 0), .ref (ad 299 j1), .ref (ad 499 j2), .int x3, .ref (ad 299 j4)] (IW D cA ad o σ)) (Qv D cA ad o A r) 0 0 A := by
  refine metG (by decide) (Nat.le_of_ble_eq_true rfl) hD0 ?_
  intro p e s m args below meth c C ls hh hl
  have C : Cx p s m args meth c cX6_lookAt 5 RX6 none D cA ad A o := C
  have hl : lv_has ls 5 [(0, .ref (ad 699 0)), (1, .ref (ad 299 j1)), (2, .ref (ad 499 j2)), (3, .int x3), (4, .ref (ad 299 j4))] := hl
  obtain ⟨⟨hx, hb, hml, hown, hts⟩, hK, hN, hD, hr, hlocks⟩ := id C
  unfold f_X6_lookAt at h
  refine lv_aload_n hx hb dX6_lookAt_0 rfl (lv_at hl 1 rfl) ?_
  refine gf_6_92 C hh hj1 dX6_lookAt_1 ?_
  by_cases c1 : (σ 207 j1 0) = (1 : Int32)
  · rw [if_pos c1] at h
    refine lv_tableIn (tgt := 48) hx hb dX6_lookAt_4 (by rw [c1]; decide) (by rw [c1]; decide) (by rw [c1]; rfl) (by decide) ?_
    refine lv_aload_n hx hb dX6_lookAt_48 rfl (lv_at hl 0 rfl) ?_
    refine lv_aload_n hx hb dX6_lookAt_49 rfl (lv_at hl 1 rfl) ?_
    refine lv_aload_n hx hb dX6_lookAt_50 rfl (lv_at hl 2 rfl) ?_
    refine lv_iload_n hx hb dX6_lookAt_51 rfl (lv_at hl 3 rfl) ?_
    refine lv_aload hx hb dX6_lookAt_52 (lv_at hl 4 rfl) ?_
    obtain ⟨s3, e2, h⟩ := bv_e h
    refine c_void hh (vrun (rest := []) C hh (c_X6_offer C.2.2.2.1 j1 hj1 j2 hj2 x3 j4 hj4 σ e2) LM_6_102 IM_X6_offer SL_X6_offer IN_6 CD_X6_offer HD_X6_offer ⟨rfl, rfl, Nat.le_of_ble_eq_true rfl, Nat.le_of_ble_eq_true rfl⟩ (rv_6 C hh) rfl hl.1 rfl (Nat.le_of_ble_eq_true rfl) dX6_lookAt_54 ⟨Nat.zero_le _, Nat.zero_le _⟩) (fun H locs hh => ?_)
    refine lv_goto (tgt := 145) hx hb dX6_lookAt_57 (by decide) ?_
    exact r_void C hh h dX6_lookAt_145
  · rw [if_neg c1] at h
    by_cases c4 : (σ 207 j1 0) = (2 : Int32)
    · rw [if_pos c4] at h
      refine lv_tableIn (tgt := 145) hx hb dX6_lookAt_4 (by rw [c4]; decide) (by rw [c4]; decide) (by rw [c4]; rfl) (by decide) ?_
      exact r_void C hh h dX6_lookAt_145
    · rw [if_neg c4] at h
      by_cases c5 : (σ 207 j1 0) = (3 : Int32)
      · rw [if_pos c5] at h
        refine lv_tableIn (tgt := 60) hx hb dX6_lookAt_4 (by rw [c5]; decide) (by rw [c5]; decide) (by rw [c5]; rfl) (by decide) ?_
        refine lv_aload_n hx hb dX6_lookAt_60 rfl (lv_at hl 0 rfl) ?_
        refine lv_aload_n hx hb dX6_lookAt_61 rfl (lv_at hl 1 rfl) ?_
        refine lv_aload_n hx hb dX6_lookAt_62 rfl (lv_at hl 2 rfl) ?_
        refine lv_iload_n hx hb dX6_lookAt_63 rfl (lv_at hl 3 rfl) ?_
        refine lv_aload hx hb dX6_lookAt_64 (lv_at hl 4 rfl) ?_
        obtain ⟨s7, e6, h⟩ := bv_e h
        refine c_void hh (vrun (rest := []) C hh (c_X6_request C.2.2.2.1 j1 hj1 j2 hj2 x3 j4 hj4 σ e6) LM_6_105 IM_X6_request SL_X6_request IN_6 CD_X6_request HD_X6_request ⟨rfl, rfl, Nat.le_of_ble_eq_true rfl, Nat.le_of_ble_eq_true rfl⟩ (rv_6 C hh) rfl hl.1 rfl (Nat.le_of_ble_eq_true rfl) dX6_lookAt_66 ⟨Nat.zero_le _, Nat.zero_le _⟩) (fun H locs hh => ?_)
        refine lv_goto (tgt := 145) hx hb dX6_lookAt_69 (by decide) ?_
        exact r_void C hh h dX6_lookAt_145
      · rw [if_neg c5] at h
        by_cases c8 : (σ 207 j1 0) = (4 : Int32)
        · rw [if_pos c8] at h
          refine lv_tableIn (tgt := 72) hx hb dX6_lookAt_4 (by rw [c8]; decide) (by rw [c8]; decide) (by rw [c8]; rfl) (by decide) ?_
          refine lv_aload_n hx hb dX6_lookAt_72 rfl (lv_at hl 0 rfl) ?_
          refine lv_aload_n hx hb dX6_lookAt_73 rfl (lv_at hl 1 rfl) ?_
          refine gf_6_68 C hh hj1 dX6_lookAt_74 ?_
          refine lv_aload_n hx hb dX6_lookAt_77 rfl (lv_at hl 1 rfl) ?_
          refine gf_6_108 C hh hj1 dX6_lookAt_78 ?_
          obtain ⟨r11, s10, e9, h⟩ := bn_e h
          refine c_int hh (vrun (rest := []) C hh (c_X6_isOwner C.2.2.2.1 (σ 206 j1 0) (σ 208 j1 0) σ e9) LM_6_111 IM_X6_isOwner SL_X6_isOwner IN_6 CD_X6_isOwner HD_X6_isOwner ⟨rfl, rfl, Nat.le_of_ble_eq_true rfl, Nat.le_of_ble_eq_true rfl⟩ (rv_6 C hh) rfl hl.1 rfl (Nat.le_of_ble_eq_true rfl) dX6_lookAt_81 ⟨Nat.zero_le _, Nat.zero_le _⟩) (fun H locs hh => ?_)
          refine lv_if_eq (tgt := 145) hx hb dX6_lookAt_84 (by decide) (fun c12 => ?_) (fun c12 => ?_)
          · rw [if_pos c12] at h
            exact r_void C hh h dX6_lookAt_145
          · rw [if_neg c12] at h
            refine lv_aload_n hx hb dX6_lookAt_87 rfl (lv_at hl 0 rfl) ?_
            refine lv_aload_n hx hb dX6_lookAt_88 rfl (lv_at hl 1 rfl) ?_
            refine gf_6_108 C hh hj1 dX6_lookAt_89 ?_
            refine lv_iconst (v := (3 : Int32)) hx hb dX6_lookAt_92 (by decide) ?_
            refine lv_iconst (v := (-1 : Int32)) hx hb dX6_lookAt_93 (by decide) ?_
            refine lv_iload_n hx hb dX6_lookAt_94 rfl (lv_at hl 3 rfl) ?_
            refine lv_bipush (v := (100 : Int32)) hx hb dX6_lookAt_95 (by decide) ?_
            refine lv_iadd hx hb dX6_lookAt_97 ?_
            obtain ⟨s14, e13, h⟩ := bv_e h
            refine c_void hh (vrun (rest := []) C hh (c_X6_write C.2.2.2.1 (s10 208 j1 0) (3 : Int32) (-1 : Int32) (x3 + (100 : Int32)) s10 e13) LM_6_114 IM_X6_write SL_X6_write IN_6 CD_X6_write HD_X6_write ⟨rfl, rfl, Nat.le_of_ble_eq_true rfl, Nat.le_of_ble_eq_true rfl⟩ (rv_6 C hh) rfl hl.1 rfl (Nat.le_of_ble_eq_true rfl) dX6_lookAt_98 ⟨Nat.zero_le _, Nat.zero_le _⟩) (fun H locs hh => ?_)
            refine lv_goto (tgt := 145) hx hb dX6_lookAt_101 (by decide) ?_
            exact r_void C hh h dX6_lookAt_145
        · rw [if_neg c8] at h
          by_cases c15 : (σ 207 j1 0) = (5 : Int32)
          · rw [if_pos c15] at h
            refine lv_tableIn (tgt := 145) hx hb dX6_lookAt_4 (by rw [c15]; decide) (by rw [c15]; decide) (by rw [c15]; rfl) (by decide) ?_
            exact r_void C hh h dX6_lookAt_145
          · rw [if_neg c15] at h
            by_cases c16 : (σ 207 j1 0) = (6 : Int32)
            · rw [if_pos c16] at h
              refine lv_tableIn (tgt := 145) hx hb dX6_lookAt_4 (by rw [c16]; decide) (by rw [c16]; decide) (by rw [c16]; rfl) (by decide) ?_
              exact r_void C hh h dX6_lookAt_145
            · rw [if_neg c16] at h
              by_cases c17 : (σ 207 j1 0) = (7 : Int32)
              · rw [if_pos c17] at h
                refine lv_tableIn (tgt := 104) hx hb dX6_lookAt_4 (by rw [c17]; decide) (by rw [c17]; decide) (by rw [c17]; rfl) (by decide) ?_
                refine lv_aload_n hx hb dX6_lookAt_104 rfl (lv_at hl 0 rfl) ?_
                refine lv_aload_n hx hb dX6_lookAt_105 rfl (lv_at hl 1 rfl) ?_
                refine gf_6_68 C hh hj1 dX6_lookAt_106 ?_
                refine lv_aload_n hx hb dX6_lookAt_109 rfl (lv_at hl 1 rfl) ?_
                refine gf_6_99 C hh hj1 dX6_lookAt_110 ?_
                obtain ⟨r20, s19, e18, h⟩ := bn_e h
                refine c_int hh (vrun (rest := []) C hh (c_X6_isOwner C.2.2.2.1 (σ 206 j1 0) (σ 203 j1 0) σ e18) LM_6_111 IM_X6_isOwner SL_X6_isOwner IN_6 CD_X6_isOwner HD_X6_isOwner ⟨rfl, rfl, Nat.le_of_ble_eq_true rfl, Nat.le_of_ble_eq_true rfl⟩ (rv_6 C hh) rfl hl.1 rfl (Nat.le_of_ble_eq_true rfl) dX6_lookAt_113 ⟨Nat.zero_le _, Nat.zero_le _⟩) (fun H locs hh => ?_)
                refine lv_if_eq (tgt := 145) hx hb dX6_lookAt_116 (by decide) (fun c21 => ?_) (fun c21 => ?_)
                · rw [if_pos c21] at h
                  exact r_void C hh h dX6_lookAt_145
                · rw [if_neg c21] at h
                  refine lv_aload_n hx hb dX6_lookAt_119 rfl (lv_at hl 0 rfl) ?_
                  refine gf_6_21 C hh dX6_lookAt_120 ?_
                  refine lv_aload_n hx hb dX6_lookAt_123 rfl (lv_at hl 1 rfl) ?_
                  refine gf_6_99 C hh hj1 dX6_lookAt_124 ?_
                  obtain ⟨b22, h⟩ := gd_e h
                  refine al_602 C hh b22 dX6_lookAt_127 ?_
                  refine lv_iconst (v := (2 : Int32)) hx hb dX6_lookAt_128 (by decide) ?_
                  refine lv_icmp_ne (tgt := 145) hx hb dX6_lookAt_129 (by decide) (fun c23 => ?_) (fun c23 => ?_)
                  · rw [if_neg c23] at h
                    exact r_void C hh h dX6_lookAt_145
                  · rw [if_pos c23] at h
                    refine lv_aload_n hx hb dX6_lookAt_132 rfl (lv_at hl 0 rfl) ?_
                    refine gf_6_28 C hh dX6_lookAt_133 ?_
                    refine lv_aload_n hx hb dX6_lookAt_136 rfl (lv_at hl 1 rfl) ?_
                    refine gf_6_99 C hh hj1 dX6_lookAt_137 ?_
                    refine lv_iload_n hx hb dX6_lookAt_140 rfl (lv_at hl 3 rfl) ?_
                    obtain ⟨b24, h⟩ := gd_e h
                    obtain ⟨s25, e26, h⟩ := vl_e h
                    refine as_604 C hh b24 dX6_lookAt_141 (fun H locs hh => ?_)
                    rw [← e26] at hh
                    refine lv_goto (tgt := 145) hx hb dX6_lookAt_142 (by decide) ?_
                    exact r_void C hh h dX6_lookAt_145
              · rw [if_neg c17] at h
                have nc1 := ntI c1 (n := 1) (by decide)
                have nc4 := ntI c4 (n := 2) (by decide)
                have nc5 := ntI c5 (n := 3) (by decide)
                have nc8 := ntI c8 (n := 4) (by decide)
                have nc15 := ntI c15 (n := 5) (by decide)
                have nc16 := ntI c16 (n := 6) (by decide)
                have nc17 := ntI c17 (n := 7) (by decide)
                refine lv_tableOut (tgt := 145) hx hb dX6_lookAt_4 (by omega) (by decide) ?_
                exact r_void C hh h dX6_lookAt_145
abbrev rm_X6_subnetOf : Room := { frames := 0, cells := 0, slots := 0, locals := 0 }
theorem HD_X6_subnetOf : yX6_subnetOf.cls = RX6 ∧ yX6_subnetOf.cls ≠ "java/lang/invoke/MethodHandle" ∧ yX6_subnetOf.cls ≠ "java/lang/invoke/VarHandle" ∧ (parseMethodDescriptor yX6_subnetOf.desc).map (fun d => d.parameters.length) = some 1 := by decide +kernel
def f_X6_subnetOf_18 (xs0 : Int32) (σ : Mem) : Option (Int32 × Mem) := some ((xs0 >>> ((8 : Int32) &&& 31)), σ)
set_option maxHeartbeats 4000000 in
set_option maxRecDepth 100000 in
theorem k_X6_subnetOf_18 {p : Program} {l : Launch} {e : Env} {s : State} {m : MethodId} {args : Array Value} {below : List Frame} {meth : Method} {c : Code} {D : va_G} {cA : Nat → ClassId} {ad : Nat → Nat → Nat} {A : Nat → Prop} {o : Nat → Int64} (C : Cx p s m args meth c cX6_subnetOf 2 RX6 (some .int) D cA ad A o) {r : Int32 × Mem} (xs0 : Int32) (σ : Mem) {H : Heap} {locs : List Loc} (h : f_X6_subnetOf_18 xs0 σ = some r) (hh : HH D cA ad A o s σ H locs) {ls : Array Slot} (hl : lv_has ls 2 []) : W p l e rm_X6_subnetOf s m args below meth c H locs 0 0 (MQ below (Qi D cA ad o A r) args s 0 0 A) (F0 m 18 ls [.int xs0]) := by
  obtain ⟨⟨hx, hb, hml, hown, hts⟩, hK, hN, hD, hr, hlocks⟩ := id C
  unfold f_X6_subnetOf_18 at h
  refine lv_istore_n (lv' := [(1, .int xs0)]) hx hb dX6_subnetOf_18 rfl hl (by decide) rfl (fun ls hl => ?_)
  refine lv_iload_n hx hb dX6_subnetOf_19 rfl (lv_at hl 0 rfl) ?_
  refine lv_bipush (v := (8 : Int32)) hx hb dX6_subnetOf_20 (by decide) ?_
  refine lv_ishr hx hb dX6_subnetOf_22 ?_
  exact r_int C hh h dX6_subnetOf_23
def f_X6_subnetOf (j0 : Nat) (σ : Mem) : Option (Int32 × Mem) := (if (σ 205 j0 0) = (0 : Int32) then f_X6_subnetOf_18 (σ 203 j0 0) σ else f_X6_subnetOf_18 (σ 205 j0 0) σ)
set_option maxHeartbeats 4000000 in
set_option maxRecDepth 100000 in
theorem c_X6_subnetOf {l : Launch} {D : va_G} {cA : Nat → ClassId} {ad : Nat → Nat → Nat} {A : Nat → Prop} {o : Nat → Int64} (hD0 : ∀ σ, va_D A (wW cA ad σ o)) (j0 : Nat) (hj0 : j0 < 2) (σ : Mem) {r : Int32 × Mem} (h : f_X6_subnetOf j0 σ = some r) : Met l yX6_subnetOf (wsG yX6_subnetOf cX6_subnetOf 2 (some .int)) rm_X6_subnetOf (va_Pc [.ref (ad 299 j0)] (IW D cA ad o σ)) (Qi D cA ad o A r) 0 0 A := by
  refine metG (by decide) (Nat.le_of_ble_eq_true rfl) hD0 ?_
  intro p e s m args below meth c C ls hh hl
  have C : Cx p s m args meth c cX6_subnetOf 2 RX6 (some .int) D cA ad A o := C
  have hl : lv_has ls 2 [(0, .ref (ad 299 j0))] := hl
  obtain ⟨⟨hx, hb, hml, hown, hts⟩, hK, hN, hD, hr, hlocks⟩ := id C
  unfold f_X6_subnetOf at h
  refine lv_aload_n hx hb dX6_subnetOf_0 rfl (lv_at hl 0 rfl) ?_
  refine gf_6_85 C hh hj0 dX6_subnetOf_1 ?_
  refine lv_if_eq (tgt := 14) hx hb dX6_subnetOf_4 (by decide) (fun c1 => ?_) (fun c1 => ?_)
  · rw [if_pos c1] at h
    refine lv_aload_n hx hb dX6_subnetOf_14 rfl (lv_at hl 0 rfl) ?_
    refine gf_6_99 C hh hj0 dX6_subnetOf_15 ?_
    exact k_X6_subnetOf_18 C (σ 203 j0 0) σ h hh (lv_sub hl [] rfl)
  · rw [if_neg c1] at h
    refine lv_aload_n hx hb dX6_subnetOf_7 rfl (lv_at hl 0 rfl) ?_
    refine gf_6_85 C hh hj0 dX6_subnetOf_8 ?_
    refine lv_goto (tgt := 18) hx hb dX6_subnetOf_11 (by decide) ?_
    exact k_X6_subnetOf_18 C (σ 205 j0 0) σ h hh (lv_sub hl [] rfl)
abbrev rm_X6_hear : Room := { frames := 5, cells := 0, slots := 0, locals := 121 }
theorem HD_X6_hear : yX6_hear.cls = RX6 ∧ yX6_hear.cls ≠ "java/lang/invoke/MethodHandle" ∧ yX6_hear.cls ≠ "java/lang/invoke/VarHandle" ∧ (parseMethodDescriptor yX6_hear.desc).map (fun d => d.parameters.length) = some 3 := by decide +kernel
def f_X6_hear_140 (x5 : Int32) (σ : Mem) : Option (Int32 × Mem) := some (x5, σ)
set_option maxHeartbeats 4000000 in
set_option maxRecDepth 100000 in
theorem k_X6_hear_140 {p : Program} {l : Launch} {e : Env} {s : State} {m : MethodId} {args : Array Value} {below : List Frame} {meth : Method} {c : Code} {D : va_G} {cA : Nat → ClassId} {ad : Nat → Nat → Nat} {A : Nat → Prop} {o : Nat → Int64} (C : Cx p s m args meth c cX6_hear 6 RX6 (some .int) D cA ad A o) {r : Int32 × Mem} (x5 : Int32) (σ : Mem) {H : Heap} {locs : List Loc} (h : f_X6_hear_140 x5 σ = some r) (hh : HH D cA ad A o s σ H locs) {ls : Array Slot} (hl : lv_has ls 6 [(5, .int x5)]) : W p l e rm_X6_hear s m args below meth c H locs 0 0 (MQ below (Qi D cA ad o A r) args s 0 0 A) (F0 m 140 ls []) := by
  obtain ⟨⟨hx, hb, hml, hown, hts⟩, hK, hN, hD, hr, hlocks⟩ := id C
  unfold f_X6_hear_140 at h
  refine lv_iload hx hb dX6_hear_140 (lv_at hl 0 rfl) ?_
  refine lv_goto (tgt := 150) hx hb dX6_hear_142 (by decide) ?_
  exact r_int C hh h dX6_hear_150
def f_X6_hear (j1 : Nat) (x2 : Int32) (j3 : Nat) (σ : Mem) : Option (Int32 × Mem) := (if (σ 600 0 0) = (0 : Int32) then some ((-1 : Int32), σ) else (if (σ 200 j1 0) = (1 : Int32) then bn (f_X6_subnetOf j1 σ) (fun r5 s4 => bn (f_X7_isClient (s4 206 j1 0) s4) (fun r8 s7 => (if r8 = (0 : Int32) then some ((-1 : Int32), s7) else bn (f_X7_isSubnet r5 s7) (fun r12 s11 => (if r12 = (0 : Int32) then some ((-1 : Int32), s11) else gd (vin r5 4) (bn (f_X4_exists ((r5).toNatClampNeg) s11) (fun r17 s16 => (if r17 = (0 : Int32) then some ((-1 : Int32), s16) else gd (vin (s4 206 j1 0) 12) ((if (s16 605 0 ((s4 206 j1 0)).toNatClampNeg) ≤ (s16 202 j1 0) then gd (vin (s4 206 j1 0) 12) (vl (up s16 605 0 ((s4 206 j1 0)).toNatClampNeg (s16 202 j1 0)) (fun s22 => bv (f_X2_start j3 (2 : Int32) (s22 202 j1 0) (s4 206 j1 0) s22) (fun s25 => vl (up s25 205 j3 0 (s25 205 j1 0)) (fun s26 => gd (vin r5 4) (bv (f_X6_lookAt j1 ((r5).toNatClampNeg) x2 j3 s26) (fun s30 => (if (s30 207 j3 0) = (-1 : Int32) then some ((-1 : Int32), s30) else (if (s30 205 j1 0) = (0 : Int32) then f_X6_hear_140 (s4 206 j1 0) s30 else (if r5 = (0 : Int32) then f_X6_hear_140 (s4 206 j1 0) s30 else bn (f_X7_relayOf r5 s30) (fun r36 s35 => some (r36, s35))))))))))) else some ((-1 : Int32), s16))))))))))) else some ((-1 : Int32), σ)))
set_option maxHeartbeats 4000000 in
set_option maxRecDepth 100000 in
theorem c_X6_hear {l : Launch} {D : va_G} {cA : Nat → ClassId} {ad : Nat → Nat → Nat} {A : Nat → Prop} {o : Nat → Int64} (hD0 : ∀ σ, va_D A (wW cA ad σ o)) (j1 : Nat) (hj1 : j1 < 2) (x2 : Int32) (j3 : Nat) (hj3 : j3 < 2) (σ : Mem) {r : Int32 × Mem} (h : f_X6_hear j1 x2 j3 σ = some r) : Met l yX6_hear (wsG yX6_hear cX6_hear 6 (some .int)) rm_X6_hear (va_Pc [.ref (ad 699 0), .ref (ad 299 j1), .int x2, .ref (ad 299 j3)] (IW D cA ad o σ)) (Qi D cA ad o A r) 0 0 A := by
  refine metG (by decide) (Nat.le_of_ble_eq_true rfl) hD0 ?_
  intro p e s m args below meth c C ls hh hl
  have C : Cx p s m args meth c cX6_hear 6 RX6 (some .int) D cA ad A o := C
  have hl : lv_has ls 6 [(0, .ref (ad 699 0)), (1, .ref (ad 299 j1)), (2, .int x2), (3, .ref (ad 299 j3))] := hl
  obtain ⟨⟨hx, hb, hml, hown, hts⟩, hK, hN, hD, hr, hlocks⟩ := id C
  unfold f_X6_hear at h
  refine lv_aload_n hx hb dX6_hear_0 rfl (lv_at hl 0 rfl) ?_
  refine gf_6_9 C hh dX6_hear_1 ?_
  refine lv_if_eq (tgt := 15) hx hb dX6_hear_4 (by decide) (fun c1 => ?_) (fun c1 => ?_)
  · rw [if_pos c1] at h
    refine lv_iconst (v := (-1 : Int32)) hx hb dX6_hear_15 (by decide) ?_
    exact r_int C hh h dX6_hear_16
  · rw [if_neg c1] at h
    refine lv_aload_n hx hb dX6_hear_7 rfl (lv_at hl 1 rfl) ?_
    refine gf_6_59 C hh hj1 dX6_hear_8 ?_
    refine lv_iconst (v := (1 : Int32)) hx hb dX6_hear_11 (by decide) ?_
    refine lv_icmp_eq (tgt := 17) hx hb dX6_hear_12 (by decide) (fun c2 => ?_) (fun c2 => ?_)
    · rw [if_pos c2] at h
      refine lv_aload_n hx hb dX6_hear_17 rfl (lv_at hl 1 rfl) ?_
      obtain ⟨r5, s4, e3, h⟩ := bn_e h
      refine c_int hh (srun (rest := []) C hh (c_X6_subnetOf C.2.2.2.1 j1 hj1 σ e3) LM_6_64 ST_X6_subnetOf IN_6 CD_X6_subnetOf HD_X6_subnetOf ⟨rfl, rfl, Nat.le_of_ble_eq_true rfl, Nat.le_of_ble_eq_true rfl⟩ rfl hl.1 rfl (Nat.le_of_ble_eq_true rfl) dX6_hear_18 ⟨Nat.zero_le _, Nat.zero_le _⟩) (fun H locs hh => ?_)
      refine lv_istore (lv' := [(4, .int r5), (0, .ref (ad 699 0)), (1, .ref (ad 299 j1)), (2, .int x2), (3, .ref (ad 299 j3))]) hx hb dX6_hear_21 hl (by decide) rfl (fun ls hl => ?_)
      refine lv_aload_n hx hb dX6_hear_23 rfl (lv_at hl 2 rfl) ?_
      refine gf_6_68 C hh hj1 dX6_hear_24 ?_
      refine lv_istore (lv' := [(5, .int (s4 206 j1 0)), (4, .int r5), (0, .ref (ad 699 0)), (1, .ref (ad 299 j1)), (2, .int x2), (3, .ref (ad 299 j3))]) hx hb dX6_hear_27 hl (by decide) rfl (fun ls hl => ?_)
      refine lv_iload hx hb dX6_hear_29 (lv_at hl 0 rfl) ?_
      obtain ⟨r8, s7, e6, h⟩ := bn_e h
      refine c_int hh (nrun (rest := []) C hh (c_X7_isClient C.2.2.2.1 (s4 206 j1 0) s4 e6) LN_6_71 ST_X7_isClient IN_7 CD_X7_isClient HD_X7_isClient.2 ⟨rfl, rfl, Nat.le_of_ble_eq_true rfl, Nat.le_of_ble_eq_true rfl⟩ rfl hl.1 rfl (Nat.le_of_ble_eq_true rfl) dX6_hear_31 ⟨Nat.zero_le _, Nat.zero_le _⟩) (fun H locs hh => ?_)
      refine lv_if_eq (tgt := 72) hx hb dX6_hear_34 (by decide) (fun c9 => ?_) (fun c9 => ?_)
      · rw [if_pos c9] at h
        refine lv_iconst (v := (-1 : Int32)) hx hb dX6_hear_72 (by decide) ?_
        exact r_int C hh h dX6_hear_73
      · rw [if_neg c9] at h
        refine lv_iload hx hb dX6_hear_37 (lv_at hl 1 rfl) ?_
        obtain ⟨r12, s11, e10, h⟩ := bn_e h
        refine c_int hh (nrun (rest := []) C hh (c_X7_isSubnet C.2.2.2.1 r5 s7 e10) LN_6_75 ST_X7_isSubnet IN_7 CD_X7_isSubnet HD_X7_isSubnet.2 ⟨rfl, rfl, Nat.le_of_ble_eq_true rfl, Nat.le_of_ble_eq_true rfl⟩ rfl hl.1 rfl (Nat.le_of_ble_eq_true rfl) dX6_hear_39 ⟨Nat.zero_le _, Nat.zero_le _⟩) (fun H locs hh => ?_)
        refine lv_if_eq (tgt := 72) hx hb dX6_hear_42 (by decide) (fun c13 => ?_) (fun c13 => ?_)
        · rw [if_pos c13] at h
          refine lv_iconst (v := (-1 : Int32)) hx hb dX6_hear_72 (by decide) ?_
          exact r_int C hh h dX6_hear_73
        · rw [if_neg c13] at h
          refine lv_aload_n hx hb dX6_hear_45 rfl (lv_at hl 2 rfl) ?_
          refine gf_6_17 C hh dX6_hear_46 ?_
          refine lv_iload hx hb dX6_hear_49 (lv_at hl 1 rfl) ?_
          obtain ⟨b14, h⟩ := gd_e h
          refine al_601 C hh b14 dX6_hear_51 ?_
          obtain ⟨r17, s16, e15, h⟩ := bn_e h
          refine c_int hh (vrun (rest := []) C hh (c_X4_exists C.2.2.2.1 ((r5).toNatClampNeg) (vin_l b14) s11 e15) LM_6_48 IM_X4_exists SL_X4_exists IN_4 CD_X4_exists HD_X4_exists ⟨rfl, rfl, Nat.le_of_ble_eq_true rfl, Nat.le_of_ble_eq_true rfl⟩ (rv_4 C hh (vin_l b14)) rfl hl.1 rfl (Nat.le_of_ble_eq_true rfl) dX6_hear_52 ⟨Nat.zero_le _, Nat.zero_le _⟩) (fun H locs hh => ?_)
          refine lv_if_eq (tgt := 72) hx hb dX6_hear_55 (by decide) (fun c18 => ?_) (fun c18 => ?_)
          · rw [if_pos c18] at h
            refine lv_iconst (v := (-1 : Int32)) hx hb dX6_hear_72 (by decide) ?_
            exact r_int C hh h dX6_hear_73
          · rw [if_neg c18] at h
            refine lv_aload_n hx hb dX6_hear_58 rfl (lv_at hl 3 rfl) ?_
            refine gf_6_78 C hh hj1 dX6_hear_59 ?_
            refine lv_aload_n hx hb dX6_hear_62 rfl (lv_at hl 2 rfl) ?_
            refine gf_6_31 C hh dX6_hear_63 ?_
            refine lv_iload hx hb dX6_hear_66 (lv_at hl 0 rfl) ?_
            obtain ⟨b19, h⟩ := gd_e h
            refine al_605 C hh b19 dX6_hear_68 ?_
            refine lv_icmp_ge (tgt := 74) hx hb dX6_hear_69 (by decide) (fun c20 => ?_) (fun c20 => ?_)
            · rw [if_pos c20] at h
              refine lv_aload_n hx hb dX6_hear_74 rfl (lv_at hl 2 rfl) ?_
              refine gf_6_31 C hh dX6_hear_75 ?_
              refine lv_iload hx hb dX6_hear_78 (lv_at hl 0 rfl) ?_
              refine lv_aload_n hx hb dX6_hear_80 rfl (lv_at hl 3 rfl) ?_
              refine gf_6_78 C hh hj1 dX6_hear_81 ?_
              obtain ⟨b21, h⟩ := gd_e h
              obtain ⟨s22, e23, h⟩ := vl_e h
              refine as_605 C hh b21 dX6_hear_84 (fun H locs hh => ?_)
              rw [← e23] at hh
              refine lv_aload_n hx hb dX6_hear_85 rfl (lv_at hl 5 rfl) ?_
              refine lv_iconst (v := (2 : Int32)) hx hb dX6_hear_86 (by decide) ?_
              refine lv_aload_n hx hb dX6_hear_87 rfl (lv_at hl 3 rfl) ?_
              refine gf_6_78 C hh hj1 dX6_hear_88 ?_
              refine lv_iload hx hb dX6_hear_91 (lv_at hl 0 rfl) ?_
              obtain ⟨s25, e24, h⟩ := bv_e h
              refine c_void hh (vrun (rest := []) C hh (c_X2_start C.2.2.2.1 j3 hj3 (2 : Int32) (s22 202 j1 0) (s4 206 j1 0) s22 e24) LM_6_81 IM_X2_start SL_X2_start IN_2 CD_X2_start HD_X2_start ⟨rfl, rfl, Nat.le_of_ble_eq_true rfl, Nat.le_of_ble_eq_true rfl⟩ (rv_2 C hh hj3) rfl hl.1 rfl (Nat.le_of_ble_eq_true rfl) dX6_hear_93 ⟨Nat.zero_le _, Nat.zero_le _⟩) (fun H locs hh => ?_)
              refine lv_aload_n hx hb dX6_hear_96 rfl (lv_at hl 5 rfl) ?_
              refine lv_aload_n hx hb dX6_hear_97 rfl (lv_at hl 3 rfl) ?_
              refine gf_6_85 C hh hj1 dX6_hear_98 ?_
              obtain ⟨s26, e27, h⟩ := vl_e h
              refine pf_6_85 C hh hj3 dX6_hear_101 (fun H locs hh => ?_)
              rw [← e27] at hh
              refine lv_aload_n hx hb dX6_hear_104 rfl (lv_at hl 2 rfl) ?_
              refine lv_aload_n hx hb dX6_hear_105 rfl (lv_at hl 3 rfl) ?_
              refine lv_aload_n hx hb dX6_hear_106 rfl (lv_at hl 2 rfl) ?_
              refine gf_6_17 C hh dX6_hear_107 ?_
              refine lv_iload hx hb dX6_hear_110 (lv_at hl 1 rfl) ?_
              obtain ⟨b28, h⟩ := gd_e h
              refine al_601 C hh b28 dX6_hear_112 ?_
              refine lv_iload_n hx hb dX6_hear_113 rfl (lv_at hl 4 rfl) ?_
              refine lv_aload_n hx hb dX6_hear_114 rfl (lv_at hl 5 rfl) ?_
              obtain ⟨s30, e29, h⟩ := bv_e h
              refine c_void hh (vrun (rest := []) C hh (c_X6_lookAt C.2.2.2.1 j1 hj1 ((r5).toNatClampNeg) (vin_l b28) x2 j3 hj3 s26 e29) LM_6_88 IM_X6_lookAt SL_X6_lookAt IN_6 CD_X6_lookAt HD_X6_lookAt ⟨rfl, rfl, Nat.le_of_ble_eq_true rfl, Nat.le_of_ble_eq_true rfl⟩ (rv_6 C hh) rfl hl.1 rfl (Nat.le_of_ble_eq_true rfl) dX6_hear_115 ⟨Nat.zero_le _, Nat.zero_le _⟩) (fun H locs hh => ?_)
              refine lv_aload_n hx hb dX6_hear_118 rfl (lv_at hl 5 rfl) ?_
              refine gf_6_92 C hh hj3 dX6_hear_119 ?_
              refine lv_iconst (v := (-1 : Int32)) hx hb dX6_hear_122 (by decide) ?_
              refine lv_icmp_ne (tgt := 128) hx hb dX6_hear_123 (by decide) (fun c31 => ?_) (fun c31 => ?_)
              · rw [if_neg c31] at h
                refine lv_aload_n hx hb dX6_hear_128 rfl (lv_at hl 3 rfl) ?_
                refine gf_6_85 C hh hj1 dX6_hear_129 ?_
                refine lv_if_eq (tgt := 140) hx hb dX6_hear_132 (by decide) (fun c32 => ?_) (fun c32 => ?_)
                · rw [if_pos c32] at h
                  exact k_X6_hear_140 C (s4 206 j1 0) s30 h hh (lv_sub hl [0] rfl)
                · rw [if_neg c32] at h
                  refine lv_iload hx hb dX6_hear_135 (lv_at hl 1 rfl) ?_
                  refine lv_if_ne (tgt := 145) hx hb dX6_hear_137 (by decide) (fun c33 => ?_) (fun c33 => ?_)
                  · rw [if_neg c33] at h
                    refine lv_iload hx hb dX6_hear_145 (lv_at hl 1 rfl) ?_
                    obtain ⟨r36, s35, e34, h⟩ := bn_e h
                    refine c_int hh (nrun (rest := []) C hh (c_X7_relayOf C.2.2.2.1 r5 s30 e34) LN_6_95 ST_X7_relayOf IN_7 CD_X7_relayOf HD_X7_relayOf.2 ⟨rfl, rfl, Nat.le_of_ble_eq_true rfl, Nat.le_of_ble_eq_true rfl⟩ rfl hl.1 rfl (Nat.le_of_ble_eq_true rfl) dX6_hear_147 ⟨Nat.zero_le _, Nat.zero_le _⟩) (fun H locs hh => ?_)
                    exact r_int C hh h dX6_hear_150
                  · rw [if_pos c33] at h
                    exact k_X6_hear_140 C (s4 206 j1 0) s30 h hh (lv_sub hl [0] rfl)
              · rw [if_pos c31] at h
                refine lv_iconst (v := (-1 : Int32)) hx hb dX6_hear_126 (by decide) ?_
                exact r_int C hh h dX6_hear_127
            · rw [if_neg c20] at h
              refine lv_iconst (v := (-1 : Int32)) hx hb dX6_hear_72 (by decide) ?_
              exact r_int C hh h dX6_hear_73
    · rw [if_neg c2] at h
      refine lv_iconst (v := (-1 : Int32)) hx hb dX6_hear_15 (by decide) ?_
      exact r_int C hh h dX6_hear_16
