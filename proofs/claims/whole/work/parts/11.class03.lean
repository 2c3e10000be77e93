abbrev rm_X2_readOptions : Room := { frames := 2, cells := 0, slots := 0, locals := 47 }
theorem HD_X2_readOptions : yX2_readOptions.cls = RX2 ∧ yX2_readOptions.cls ≠ "java/lang/invoke/MethodHandle" ∧ yX2_readOptions.cls ≠ "java/lang/invoke/VarHandle" ∧ (parseMethodDescriptor yX2_readOptions.desc).map (fun d => d.parameters.length) = some 1 := by decide +kernel
def f_X2_readOptions_3 : Nat → Nat → Nat → Int32 → Mem → Option (Int32 × Mem)
  | 0, _, _, _, _ => none
  | n + 1, j0, j1, x2, σ => (if (σ 1 j1 0) ≤ x2 then some ((0 : Int32), σ) else gd (vin x2 60) ((if (σ 0 j1 (x2).toNatClampNeg) = (255 : Int32) then some ((1 : Int32), σ) else (if (σ 0 j1 (x2).toNatClampNeg) = (0 : Int32) then vl (x2 + (1 : Int32)) (fun v14 => f_X2_readOptions_3 n j0 j1 v14 σ) else (if (x2 + (1 : Int32)) < (σ 1 j1 0) then gd (vin (x2 + (1 : Int32)) 60) ((if (σ 1 j1 0) < ((x2 + (2 : Int32)) + (σ 0 j1 ((x2 + (1 : Int32))).toNatClampNeg)) then some ((0 : Int32), σ) else bn (f_X2_readOption j0 j1 (x2 + (2 : Int32)) (σ 0 j1 (x2).toNatClampNeg) (σ 0 j1 ((x2 + (1 : Int32))).toNatClampNeg) σ) (fun r10 s9 => (if r10 = (0 : Int32) then some ((0 : Int32), s9) else vl ((x2 + ((2 : Int32) + (σ 0 j1 ((x2 + (1 : Int32))).toNatClampNeg)))) (fun v12 => f_X2_readOptions_3 n j0 j1 v12 s9))))) else some ((0 : Int32), σ))))))
set_option maxHeartbeats 4000000 in
set_option maxRecDepth 100000 in
theorem k_X2_readOptions_3 {p : Program} {l : Launch} {e : Env} {s : State} {m : MethodId} {args : Array Value} {below : List Frame} {meth : Method} {c : Code} {D : va_G} {cA : Nat → ClassId} {ad : Nat → Nat → Nat} {A : Nat → Prop} {o : Nat → Int64} (C : Cx p s m args meth c cX2_readOptions 5 RX2 (some .boolean) D cA ad A o) {r : Int32 × Mem} : ∀ (n : Nat) (j0 : Nat) (hj0 : j0 < 2) (j1 : Nat) (hj1 : j1 < 62) (x2 : Int32) (σ : Mem) {H : Heap} {locs : List Loc} (h : f_X2_readOptions_3 n j0 j1 x2 σ = some r) (hh : HH D cA ad A o s σ H locs) {ls : Array Slot} (hl : lv_has ls 5 [(0, .ref (ad 299 j0)), (1, .ref (ad 99 j1)), (2, .int x2)]), W p l e rm_X2_readOptions s m args below meth c H locs 0 0 (MQ below (Qi D cA ad o A r) args s 0 0 A) (F0 m 3 ls []) := by
  obtain ⟨⟨hx, hb, hml, hown, hts⟩, hK, hN, hD, hr, hlocks⟩ := id C
  intro n
  induction n with
  | zero =>
    intro j0 hj0 j1 hj1 x2 σ H locs h
    rw [f_X2_readOptions_3.eq_1] at h
    cases h
  | succ n ih =>
    intro j0 hj0 j1 hj1 x2 σ H locs h hh ls hl
    rw [f_X2_readOptions_3.eq_2] at h
    refine lv_iload_n hx hb dX2_readOptions_3 rfl (lv_at hl 2 rfl) ?_
    refine lv_aload_n hx hb dX2_readOptions_4 rfl (lv_at hl 1 rfl) ?_
    refine gf_2_45 C hh hj1 dX2_readOptions_5 ?_
    refine lv_icmp_ge (tgt := 98) hx hb dX2_readOptions_8 (by decide) (fun c1 => ?_) (fun c1 => ?_)
    · rw [if_pos c1] at h
      refine lv_iconst (v := (0 : Int32)) hx hb dX2_readOptions_98 (by decide) ?_
      exact r_bool C hh (by decide) h dX2_readOptions_99
    · rw [if_neg c1] at h
      refine lv_aload_n hx hb dX2_readOptions_11 rfl (lv_at hl 1 rfl) ?_
      refine gf_2_50 C hh hj1 dX2_readOptions_12 ?_
      refine lv_iload_n hx hb dX2_readOptions_15 rfl (lv_at hl 2 rfl) ?_
      obtain ⟨b2, h⟩ := gd_e h
      refine al_0 C hh hj1 b2 dX2_readOptions_16 ?_
      refine lv_istore_n (lv' := [(3, .int (σ 0 j1 (x2).toNatClampNeg)), (0, .ref (ad 299 j0)), (1, .ref (ad 99 j1)), (2, .int x2)]) hx hb dX2_readOptions_17 rfl hl (by decide) rfl (fun ls hl => ?_)
      refine lv_iload_n hx hb dX2_readOptions_18 rfl (lv_at hl 0 rfl) ?_
      refine lv_sipush (v := (255 : Int32)) hx hb dX2_readOptions_19 (by decide) ?_
      refine lv_icmp_ne (tgt := 27) hx hb dX2_readOptions_22 (by decide) (fun c3 => ?_) (fun c3 => ?_)
      · rw [if_neg c3] at h
        refine lv_iload_n hx hb dX2_readOptions_27 rfl (lv_at hl 0 rfl) ?_
        refine lv_if_ne (tgt := 37) hx hb dX2_readOptions_28 (by decide) (fun c4 => ?_) (fun c4 => ?_)
        · rw [if_neg c4] at h
          refine lv_iload_n hx hb dX2_readOptions_37 rfl (lv_at hl 3 rfl) ?_
          refine lv_iconst (v := (1 : Int32)) hx hb dX2_readOptions_38 (by decide) ?_
          refine lv_iadd hx hb dX2_readOptions_39 ?_
          refine lv_aload_n hx hb dX2_readOptions_40 rfl (lv_at hl 2 rfl) ?_
          refine gf_2_45 C hh hj1 dX2_readOptions_41 ?_
          refine lv_icmp_lt (tgt := 49) hx hb dX2_readOptions_44 (by decide) (fun c5 => ?_) (fun c5 => ?_)
          · rw [if_pos c5] at h
            refine lv_aload_n hx hb dX2_readOptions_49 rfl (lv_at hl 2 rfl) ?_
            refine gf_2_50 C hh hj1 dX2_readOptions_50 ?_
            refine lv_iload_n hx hb dX2_readOptions_53 rfl (lv_at hl 3 rfl) ?_
            refine lv_iconst (v := (1 : Int32)) hx hb dX2_readOptions_54 (by decide) ?_
            refine lv_iadd hx hb dX2_readOptions_55 ?_
            obtain ⟨b6, h⟩ := gd_e h
            refine al_0 C hh hj1 b6 dX2_readOptions_56 ?_
            refine lv_istore (lv' := [(4, .int (σ 0 j1 ((x2 + (1 : Int32))).toNatClampNeg)), (3, .int (σ 0 j1 (x2).toNatClampNeg)), (0, .ref (ad 299 j0)), (1, .ref (ad 99 j1)), (2, .int x2)]) hx hb dX2_readOptions_57 hl (by decide) rfl (fun ls hl => ?_)
            refine lv_iload_n hx hb dX2_readOptions_59 rfl (lv_at hl 4 rfl) ?_
            refine lv_iconst (v := (2 : Int32)) hx hb dX2_readOptions_60 (by decide) ?_
            refine lv_iadd hx hb dX2_readOptions_61 ?_
            refine lv_iload hx hb dX2_readOptions_62 (lv_at hl 0 rfl) ?_
            refine lv_iadd hx hb dX2_readOptions_64 ?_
            refine lv_aload_n hx hb dX2_readOptions_65 rfl (lv_at hl 3 rfl) ?_
            refine gf_2_45 C hh hj1 dX2_readOptions_66 ?_
            refine lv_icmp_gt (tgt := 86) hx hb dX2_readOptions_69 (by decide) (fun c7 => ?_) (fun c7 => ?_)
            · rw [if_pos c7] at h
              refine lv_iconst (v := (0 : Int32)) hx hb dX2_readOptions_86 (by decide) ?_
              exact r_bool C hh (by decide) h dX2_readOptions_87
            · rw [if_neg c7] at h
              refine lv_aload_n hx hb dX2_readOptions_72 rfl (lv_at hl 2 rfl) ?_
              refine lv_aload_n hx hb dX2_readOptions_73 rfl (lv_at hl 3 rfl) ?_
              refine lv_iload_n hx hb dX2_readOptions_74 rfl (lv_at hl 4 rfl) ?_
              refine lv_iconst (v := (2 : Int32)) hx hb dX2_readOptions_75 (by decide) ?_
              refine lv_iadd hx hb dX2_readOptions_76 ?_
              refine lv_iload_n hx hb dX2_readOptions_77 rfl (lv_at hl 1 rfl) ?_
              refine lv_iload hx hb dX2_readOptions_78 (lv_at hl 0 rfl) ?_
              obtain ⟨r10, s9, e8, h⟩ := bn_e h
              refine c_int hh (vrun (rest := []) C hh (c_X2_readOption C.2.2.2.1 j0 hj0 j1 hj1 (x2 + (2 : Int32)) (σ 0 j1 (x2).toNatClampNeg) (σ 0 j1 ((x2 + (1 : Int32))).toNatClampNeg) σ e8) LM_2_66 IM_X2_readOption SL_X2_readOption IN_2 CD_X2_readOption HD_X2_readOption ⟨rfl, rfl, Nat.le_of_ble_eq_true rfl, Nat.le_of_ble_eq_true rfl⟩ (rv_2 C hh hj0) rfl hl.1 rfl (Nat.le_of_ble_eq_true rfl) dX2_readOptions_80 ⟨Nat.zero_le _, Nat.zero_le _⟩) (fun H locs hh => ?_)
              refine lv_if_ne (tgt := 88) hx hb dX2_readOptions_83 (by decide) (fun c11 => ?_) (fun c11 => ?_)
              · rw [if_neg c11] at h
                refine lv_iload_n hx hb dX2_readOptions_88 rfl (lv_at hl 4 rfl) ?_
                refine lv_iconst (v := (2 : Int32)) hx hb dX2_readOptions_89 (by decide) ?_
                refine lv_iload hx hb dX2_readOptions_90 (lv_at hl 0 rfl) ?_
                refine lv_iadd hx hb dX2_readOptions_92 ?_
                refine lv_iadd hx hb dX2_readOptions_93 ?_
                obtain ⟨v12, e13, h⟩ := vl_e h
                refine lv_nm e13 ?_
                refine lv_istore_n (lv' := [(2, .int v12), (4, .int (σ 0 j1 ((x2 + (1 : Int32))).toNatClampNeg)), (3, .int (σ 0 j1 (x2).toNatClampNeg)), (0, .ref (ad 299 j0)), (1, .ref (ad 99 j1))]) hx hb dX2_readOptions_94 rfl hl (by decide) rfl (fun ls hl => ?_)
                refine lv_goto (tgt := 3) hx hb dX2_readOptions_95 (by decide) ?_
                exact ih j0 hj0 j1 hj1 v12 s9 h hh (lv_sub hl [3, 4, 0] rfl)
              · rw [if_pos c11] at h
                refine lv_iconst (v := (0 : Int32)) hx hb dX2_readOptions_86 (by decide) ?_
                exact r_bool C hh (by decide) h dX2_readOptions_87
          · rw [if_neg c5] at h
            refine lv_iconst (v := (0 : Int32)) hx hb dX2_readOptions_47 (by decide) ?_
            exact r_bool C hh (by decide) h dX2_readOptions_48
        · rw [if_pos c4] at h
          obtain ⟨v14, e15, h⟩ := vl_e h
          refine lv_iinc (v := v14) (lv' := [(2, .int v14), (3, .int (σ 0 j1 (x2).toNatClampNeg)), (0, .ref (ad 299 j0)), (1, .ref (ad 99 j1))]) hx hb dX2_readOptions_31 hl (k := 3) rfl (by rw [e15]; rfl) (by decide) rfl (fun ls hl => ?_)
          refine lv_goto (tgt := 3) hx hb dX2_readOptions_34 (by decide) ?_
          exact ih j0 hj0 j1 hj1 v14 σ h hh (lv_sub hl [2, 3, 0] rfl)
      · rw [if_pos c3] at h
        refine lv_iconst (v := (1 : Int32)) hx hb dX2_readOptions_25 (by decide) ?_
        exact r_bool C hh (by decide) h dX2_readOptions_26
def f_X2_readOptions (j0 : Nat) (j1 : Nat) (σ : Mem) : Option (Int32 × Mem) := f_X2_readOptions_3 5000 j0 j1 (19 : Int32) σ
set_option maxHeartbeats 4000000 in
set_option maxRecDepth 100000 in
theorem c_X2_readOptions {l : Launch} {D : va_G} {cA : Nat → ClassId} {ad : Nat → Nat → Nat} {A : Nat → Prop} {o : Nat → Int64} (hD0 : ∀ σ, va_D A (wW cA ad σ o)) (j0 : Nat) (hj0 : j0 < 2) (j1 : Nat) (hj1 : j1 < 62) (σ : Mem) {r : Int32 × Mem} (h : f_X2_readOptions j0 j1 σ = some r) : Met l yX2_readOptions (wsG yX2_readOptions cX2_readOptions 5 (some .boolean)) rm_X2_readOptions (va_Pc [.ref (ad 299 j0), .ref (ad 99 j1)] (IW D cA ad o σ)) (Qi D cA ad o A r) 0 0 A := by
  refine metG (by decide) (Nat.le_of_ble_eq_true rfl) hD0 ?_
  intro p e s m args below meth c C ls hh hl
  have C : Cx p s m args meth c cX2_readOptions 5 RX2 (some .boolean) D cA ad A o := C
  have hl : lv_has ls 5 [(0, .ref (ad 299 j0)), (1, .ref (ad 99 j1))] := hl
  obtain ⟨⟨hx, hb, hml, hown, hts⟩, hK, hN, hD, hr, hlocks⟩ := id C
  unfold f_X2_readOptions at h
  refine lv_bipush (v := (19 : Int32)) hx hb dX2_readOptions_0 (by decide) ?_
  refine lv_istore_n (lv' := [(2, .int (19 : Int32)), (0, .ref (ad 299 j0)), (1, .ref (ad 99 j1))]) hx hb dX2_readOptions_2 rfl hl (by decide) rfl (fun ls hl => ?_)
  exact k_X2_readOptions_3 C 5000 j0 hj0 j1 hj1 (19 : Int32) σ h hh (lv_sub hl [1, 2, 0] rfl)
abbrev rm_X2_read : Room := { frames := 3, cells := 0, slots := 0, locals := 71 }
theorem HD_X2_read : yX2_read.cls = RX2 ∧ yX2_read.cls ≠ "java/lang/invoke/MethodHandle" ∧ yX2_read.cls ≠ "java/lang/invoke/VarHandle" ∧ (parseMethodDescriptor yX2_read.desc).map (fun d => d.parameters.length) = some 1 := by decide +kernel
def f_X2_read_89 (j0 : Nat) (j1 : Nat) (σ : Mem) : Option (Int32 × Mem) := bn (f_X2_readOptions j0 j1 σ) (fun r3 s2 => (if r3 = (0 : Int32) then some ((0 : Int32), s2) else some ((1 : Int32), s2)))
set_option maxHeartbeats 4000000 in
set_option maxRecDepth 100000 in
theorem k_X2_read_89 {p : Program} {l : Launch} {e : Env} {s : State} {m : MethodId} {args : Array Value} {below : List Frame} {meth : Method} {c : Code} {D : va_G} {cA : Nat → ClassId} {ad : Nat → Nat → Nat} {A : Nat → Prop} {o : Nat → Int64} (C : Cx p s m args meth c cX2_read 2 RX2 (some .boolean) D cA ad A o) {r : Int32 × Mem} (j0 : Nat) (hj0 : j0 < 2) (j1 : Nat) (hj1 : j1 < 62) (σ : Mem) {H : Heap} {locs : List Loc} (h : f_X2_read_89 j0 j1 σ = some r) (hh : HH D cA ad A o s σ H locs) {ls : Array Slot} (hl : lv_has ls 2 [(0, .ref (ad 299 j0)), (1, .ref (ad 99 j1))]) : W p l e rm_X2_read s m args below meth c H locs 0 0 (MQ below (Qi D cA ad o A r) args s 0 0 A) (F0 m 89 ls []) := by
  obtain ⟨⟨hx, hb, hml, hown, hts⟩, hK, hN, hD, hr, hlocks⟩ := id C
  unfold f_X2_read_89 at h
  refine lv_aload_n hx hb dX2_read_89 rfl (lv_at hl 0 rfl) ?_
  refine lv_aload_n hx hb dX2_read_90 rfl (lv_at hl 1 rfl) ?_
  obtain ⟨r3, s2, e1, h⟩ := bn_e h
  refine c_int hh (vrun (rest := []) C hh (c_X2_readOptions C.2.2.2.1 j0 hj0 j1 hj1 σ e1) LM_2_62 IM_X2_readOptions SL_X2_readOptions IN_2 CD_X2_readOptions HD_X2_readOptions ⟨rfl, rfl, Nat.le_of_ble_eq_true rfl, Nat.le_of_ble_eq_true rfl⟩ (rv_2 C hh hj0) rfl hl.1 rfl (Nat.le_of_ble_eq_true rfl) dX2_read_91 ⟨Nat.zero_le _, Nat.zero_le _⟩) (fun H locs hh => ?_)
  refine lv_if_eq (tgt := 101) hx hb dX2_read_94 (by decide) (fun c4 => ?_) (fun c4 => ?_)
  · rw [if_pos c4] at h
    refine lv_iconst (v := (0 : Int32)) hx hb dX2_read_101 (by decide) ?_
    exact r_bool C hh (by decide) h dX2_read_102
  · rw [if_neg c4] at h
    refine lv_iconst (v := (1 : Int32)) hx hb dX2_read_97 (by decide) ?_
    refine lv_goto (tgt := 102) hx hb dX2_read_98 (by decide) ?_
    exact r_bool C hh (by decide) h dX2_read_102
def f_X2_read (j0 : Nat) (j1 : Nat) (σ : Mem) : Option (Int32 × Mem) := (if (19 : Int32) ≤ (σ 1 j1 0) then gd (vin (0 : Int32) 60) (bn (f_X0_number j1 (2 : Int32) σ) (fun r5 s4 => gd (vin (18 : Int32) 60) (bv (f_X2_start j0 (σ 0 j1 ((0 : Int32)).toNatClampNeg) r5 (s4 0 j1 ((18 : Int32)).toNatClampNeg) s4) (fun s8 => gd (vin (1 : Int32) 60) (vl (up s8 201 j0 0 (s8 0 j1 ((1 : Int32)).toNatClampNeg)) (fun s10 => bn (f_X0_number j1 (6 : Int32) s10) (fun r14 s13 => vl (up s13 203 j0 0 r14) (fun s15 => bn (f_X0_number j1 (10 : Int32) s15) (fun r19 s18 => vl (up s18 204 j0 0 r19) (fun s20 => bn (f_X0_number j1 (14 : Int32) s20) (fun r24 s23 => vl (up s23 205 j0 0 r24) (fun s25 => (if (s25 200 j0 0) = (1 : Int32) then f_X2_read_89 j0 j1 s25 else (if (s25 200 j0 0) = (2 : Int32) then f_X2_read_89 j0 j1 s25 else some ((0 : Int32), s25))))))))))))))) else some ((0 : Int32), σ))
set_option maxHeartbeats 4000000 in
set_option maxRecDepth 100000 in
theorem c_X2_read {l : Launch} {D : va_G} {cA : Nat → ClassId} {ad : Nat → Nat → Nat} {A : Nat → Prop} {o : Nat → Int64} (hD0 : ∀ σ, va_D A (wW cA ad σ o)) (j0 : Nat) (hj0 : j0 < 2) (j1 : Nat) (hj1 : j1 < 62) (σ : Mem) {r : Int32 × Mem} (h : f_X2_read j0 j1 σ = some r) : Met l yX2_read (wsG yX2_read cX2_read 2 (some .boolean)) rm_X2_read (va_Pc [.ref (ad 299 j0), .ref (ad 99 j1)] (IW D cA ad o σ)) (Qi D cA ad o A r) 0 0 A := by
  refine metG (by decide) (Nat.le_of_ble_eq_true rfl) hD0 ?_
  intro p e s m args below meth c C ls hh hl
  have C : Cx p s m args meth c cX2_read 2 RX2 (some .boolean) D cA ad A o := C
  have hl : lv_has ls 2 [(0, .ref (ad 299 j0)), (1, .ref (ad 99 j1))] := hl
  obtain ⟨⟨hx, hb, hml, hown, hts⟩, hK, hN, hD, hr, hlocks⟩ := id C
  unfold f_X2_read at h
  refine lv_aload_n hx hb dX2_read_0 rfl (lv_at hl 1 rfl) ?_
  refine gf_2_45 C hh hj1 dX2_read_1 ?_
  refine lv_bipush (v := (19 : Int32)) hx hb dX2_read_4 (by decide) ?_
  refine lv_icmp_ge (tgt := 11) hx hb dX2_read_6 (by decide) (fun c1 => ?_) (fun c1 => ?_)
  · rw [if_pos c1] at h
    refine lv_aload_n hx hb dX2_read_11 rfl (lv_at hl 0 rfl) ?_
    refine lv_aload_n hx hb dX2_read_12 rfl (lv_at hl 1 rfl) ?_
    refine gf_2_50 C hh hj1 dX2_read_13 ?_
    refine lv_iconst (v := (0 : Int32)) hx hb dX2_read_16 (by decide) ?_
    obtain ⟨b2, h⟩ := gd_e h
    refine al_0 C hh hj1 b2 dX2_read_17 ?_
    refine lv_aload_n hx hb dX2_read_18 rfl (lv_at hl 1 rfl) ?_
    refine lv_iconst (v := (2 : Int32)) hx hb dX2_read_19 (by decide) ?_
    obtain ⟨r5, s4, e3, h⟩ := bn_e h
    refine c_int hh (vrun (rest := [.int (σ 0 j1 ((0 : Int32)).toNatClampNeg), .ref (ad 299 j0)]) C hh (c_X0_number C.2.2.2.1 j1 hj1 (2 : Int32) σ e3) LM_2_54 IM_X0_number SL_X0_number IN_0 CD_X0_number HD_X0_number ⟨rfl, rfl, Nat.le_of_ble_eq_true rfl, Nat.le_of_ble_eq_true rfl⟩ (rv_0 C hh hj1) rfl hl.1 rfl (Nat.le_of_ble_eq_true rfl) dX2_read_20 ⟨Nat.zero_le _, Nat.zero_le _⟩) (fun H locs hh => ?_)
    refine lv_aload_n hx hb dX2_read_23 rfl (lv_at hl 1 rfl) ?_
    refine gf_2_50 C hh hj1 dX2_read_24 ?_
    refine lv_bipush (v := (18 : Int32)) hx hb dX2_read_27 (by decide) ?_
    obtain ⟨b6, h⟩ := gd_e h
    refine al_0 C hh hj1 b6 dX2_read_29 ?_
    obtain ⟨s8, e7, h⟩ := bv_e h
    refine c_void hh (vrun (rest := []) C hh (c_X2_start C.2.2.2.1 j0 hj0 (σ 0 j1 ((0 : Int32)).toNatClampNeg) r5 (s4 0 j1 ((18 : Int32)).toNatClampNeg) s4 e7) LM_2_58 IM_X2_start SL_X2_start IN_2 CD_X2_start HD_X2_start ⟨rfl, rfl, Nat.le_of_ble_eq_true rfl, Nat.le_of_ble_eq_true rfl⟩ (rv_2 C hh hj0) rfl hl.1 rfl (Nat.le_of_ble_eq_true rfl) dX2_read_30 ⟨Nat.zero_le _, Nat.zero_le _⟩) (fun H locs hh => ?_)
    refine lv_aload_n hx hb dX2_read_33 rfl (lv_at hl 0 rfl) ?_
    refine lv_aload_n hx hb dX2_read_34 rfl (lv_at hl 1 rfl) ?_
    refine gf_2_50 C hh hj1 dX2_read_35 ?_
    refine lv_iconst (v := (1 : Int32)) hx hb dX2_read_38 (by decide) ?_
    obtain ⟨b9, h⟩ := gd_e h
    refine al_0 C hh hj1 b9 dX2_read_39 ?_
    obtain ⟨s10, e11, h⟩ := vl_e h
    refine pf_2_15 C hh hj0 dX2_read_40 (fun H locs hh => ?_)
    rw [← e11] at hh
    refine lv_aload_n hx hb dX2_read_43 rfl (lv_at hl 0 rfl) ?_
    refine lv_aload_n hx hb dX2_read_44 rfl (lv_at hl 1 rfl) ?_
    refine lv_bipush (v := (6 : Int32)) hx hb dX2_read_45 (by decide) ?_
    obtain ⟨r14, s13, e12, h⟩ := bn_e h
    refine c_int hh (vrun (rest := [.ref (ad 299 j0)]) C hh (c_X0_number C.2.2.2.1 j1 hj1 (6 : Int32) s10 e12) LM_2_54 IM_X0_number SL_X0_number IN_0 CD_X0_number HD_X0_number ⟨rfl, rfl, Nat.le_of_ble_eq_true rfl, Nat.le_of_ble_eq_true rfl⟩ (rv_0 C hh hj1) rfl hl.1 rfl (Nat.le_of_ble_eq_true rfl) dX2_read_47 ⟨Nat.zero_le _, Nat.zero_le _⟩) (fun H locs hh => ?_)
    obtain ⟨s15, e16, h⟩ := vl_e h
    refine pf_2_21 C hh hj0 dX2_read_50 (fun H locs hh => ?_)
    rw [← e16] at hh
    refine lv_aload_n hx hb dX2_read_53 rfl (lv_at hl 0 rfl) ?_
    refine lv_aload_n hx hb dX2_read_54 rfl (lv_at hl 1 rfl) ?_
    refine lv_bipush (v := (10 : Int32)) hx hb dX2_read_55 (by decide) ?_
    obtain ⟨r19, s18, e17, h⟩ := bn_e h
    refine c_int hh (vrun (rest := [.ref (ad 299 j0)]) C hh (c_X0_number C.2.2.2.1 j1 hj1 (10 : Int32) s15 e17) LM_2_54 IM_X0_number SL_X0_number IN_0 CD_X0_number HD_X0_number ⟨rfl, rfl, Nat.le_of_ble_eq_true rfl, Nat.le_of_ble_eq_true rfl⟩ (rv_0 C hh hj1) rfl hl.1 rfl (Nat.le_of_ble_eq_true rfl) dX2_read_57 ⟨Nat.zero_le _, Nat.zero_le _⟩) (fun H locs hh => ?_)
    obtain ⟨s20, e21, h⟩ := vl_e h
    refine pf_2_24 C hh hj0 dX2_read_60 (fun H locs hh => ?_)
    rw [← e21] at hh
    refine lv_aload_n hx hb dX2_read_63 rfl (lv_at hl 0 rfl) ?_
    refine lv_aload_n hx hb dX2_read_64 rfl (lv_at hl 1 rfl) ?_
    refine lv_bipush (v := (14 : Int32)) hx hb dX2_read_65 (by decide) ?_
    obtain ⟨r24, s23, e22, h⟩ := bn_e h
    refine c_int hh (vrun (rest := [.ref (ad 299 j0)]) C hh (c_X0_number C.2.2.2.1 j1 hj1 (14 : Int32) s20 e22) LM_2_54 IM_X0_number SL_X0_number IN_0 CD_X0_number HD_X0_number ⟨rfl, rfl, Nat.le_of_ble_eq_true rfl, Nat.le_of_ble_eq_true rfl⟩ (rv_0 C hh hj1) rfl hl.1 rfl (Nat.le_of_ble_eq_true rfl) dX2_read_67 ⟨Nat.zero_le _, Nat.zero_le _⟩) (fun H locs hh => ?_)
    obtain ⟨s25, e26, h⟩ := vl_e h
    refine pf_2_27 C hh hj0 dX2_read_70 (fun H locs hh => ?_)
    rw [← e26] at hh
    refine lv_aload_n hx hb dX2_read_73 rfl (lv_at hl 0 rfl) ?_
    refine gf_2_9 C hh hj0 dX2_read_74 ?_
    refine lv_iconst (v := (1 : Int32)) hx hb dX2_read_77 (by decide) ?_
    refine lv_icmp_eq (tgt := 89) hx hb dX2_read_78 (by decide) (fun c27 => ?_) (fun c27 => ?_)
    · rw [if_pos c27] at h
      exact k_X2_read_89 C j0 hj0 j1 hj1 s25 h hh (lv_sub hl [0, 1] rfl)
    · rw [if_neg c27] at h
      refine lv_aload_n hx hb dX2_read_81 rfl (lv_at hl 0 rfl) ?_
      refine gf_2_9 C hh hj0 dX2_read_82 ?_
      refine lv_iconst (v := (2 : Int32)) hx hb dX2_read_85 (by decide) ?_
      refine lv_icmp_ne (tgt := 101) hx hb dX2_read_86 (by decide) (fun c28 => ?_) (fun c28 => ?_)
      · rw [if_neg c28] at h
        refine lv_iconst (v := (0 : Int32)) hx hb dX2_read_101 (by decide) ?_
        exact r_bool C hh (by decide) h dX2_read_102
      · rw [if_pos c28] at h
        exact k_X2_read_89 C j0 hj0 j1 hj1 s25 h hh (lv_sub hl [0, 1] rfl)
  · rw [if_neg c1] at h
    refine lv_iconst (v := (0 : Int32)) hx hb dX2_read_9 (by decide) ?_
    exact r_bool C hh (by decide) h dX2_read_10
abbrev rm_X5_remove : Room := { frames := 0, cells := 0, slots := 0, locals := 0 }
theorem HD_X5_remove : yX5_remove.cls = RX5 ∧ yX5_remove.cls ≠ "java/lang/invoke/MethodHandle" ∧ yX5_remove.cls ≠ "java/lang/invoke/VarHandle" ∧ (parseMethodDescriptor yX5_remove.desc).map (fun d => d.parameters.length) = some 1 := by decide +kernel
def f_X5_remove_11 : Nat → Nat → Int32 → Mem → Option (Mem)
  | 0, _, _, _ => none
  | n + 1, j2, x3, σ => (if (σ 501 0 0) ≤ x3 then vl (up σ 501 0 0 ((σ 501 0 0) - (1 : Int32))) (fun s2 => gd (vin (s2 501 0 0) 60) (vl (up s2 500 0 ((s2 501 0 0)).toNatClampNeg (nI j2)) (fun s5 => some s5))) else gd (vin x3 60) (gd (decide ((σ 500 0 (x3).toNatClampNeg).toNatClampNeg < 60)) (gd (vin (x3 - (1 : Int32)) 60) (vl (up σ 500 0 ((x3 - (1 : Int32))).toNatClampNeg (nI ((σ 500 0 (x3).toNatClampNeg).toNatClampNeg))) (fun s10 => vl (x3 + (1 : Int32)) (fun v12 => f_X5_remove_11 n j2 v12 s10))))))
set_option maxHeartbeats 4000000 in
set_option maxRecDepth 100000 in
theorem k_X5_remove_11 {p : Program} {l : Launch} {e : Env} {s : State} {m : MethodId} {args : Array Value} {below : List Frame} {meth : Method} {c : Code} {D : va_G} {cA : Nat → ClassId} {ad : Nat → Nat → Nat} {A : Nat → Prop} {o : Nat → Int64} (C : Cx p s m args meth c cX5_remove 4 RX5 none D cA ad A o) {r : Mem} : ∀ (n : Nat) (j2 : Nat) (hj2 : j2 < 60) (x3 : Int32) (σ : Mem) {H : Heap} {locs : List Loc} (h : f_X5_remove_11 n j2 x3 σ = some r) (hh : HH D cA ad A o s σ H locs) {ls : Array Slot} (hl : lv_has ls 4 [(0, .ref (ad 599 0)), (2, .ref (ad 399 j2)), (3, .int x3)]), W p l e rm_X5_remove s m args below meth c H locs 0 0 (MQ below (Qv D cA ad o A r) args s 0 0 A) (F0 m 11 ls []) := by
  obtain ⟨⟨hx, hb, hml, hown, hts⟩, hK, hN, hD, hr, hlocks⟩ := id C
  intro n
  induction n with
  | zero =>
    intro j2 hj2 x3 σ H locs h
    rw [f_X5_remove_11.eq_1] at h
    cases h
  | succ n ih =>
    intro j2 hj2 x3 σ H locs h hh ls hl
    rw [f_X5_remove_11.eq_2] at h
    refine lv_iload_n hx hb dX5_remove_11 rfl (lv_at hl 2 rfl) ?_
    refine lv_aload_n hx hb dX5_remove_12 rfl (lv_at hl 0 rfl) ?_
    refine gf_5_17 C hh dX5_remove_13 ?_
    refine lv_icmp_ge (tgt := 39) hx hb dX5_remove_16 (by decide) (fun c1 => ?_) (fun c1 => ?_)
    · rw [if_pos c1] at h
      refine lv_aload_n hx hb dX5_remove_39 rfl (lv_at hl 0 rfl) ?_
      refine lv_dup hx hb dX5_remove_40 rfl ?_
      refine gf_5_17 C hh dX5_remove_41 ?_
      refine lv_iconst (v := (1 : Int32)) hx hb dX5_remove_44 (by decide) ?_
      refine lv_isub hx hb dX5_remove_45 ?_
      obtain ⟨s2, e3, h⟩ := vl_e h
      refine pf_5_17 C hh dX5_remove_46 (fun H locs hh => ?_)
      rw [← e3] at hh
      refine lv_aload_n hx hb dX5_remove_49 rfl (lv_at hl 0 rfl) ?_
      refine gf_5_11 C hh dX5_remove_50 ?_
      refine lv_aload_n hx hb dX5_remove_53 rfl (lv_at hl 0 rfl) ?_
      refine gf_5_17 C hh dX5_remove_54 ?_
      refine lv_aload_n hx hb dX5_remove_57 rfl (lv_at hl 1 rfl) ?_
      obtain ⟨b4, h⟩ := gd_e h
      obtain ⟨s5, e6, h⟩ := vl_e h
      refine as_500 C hh hj2 b4 dX5_remove_58 (fun H locs hh => ?_)
      rw [← e6] at hh
      exact r_void C hh h dX5_remove_59
    · rw [if_neg c1] at h
      refine lv_aload_n hx hb dX5_remove_19 rfl (lv_at hl 0 rfl) ?_
      refine gf_5_11 C hh dX5_remove_20 ?_
      refine lv_iload_n hx hb dX5_remove_23 rfl (lv_at hl 2 rfl) ?_
      refine lv_iconst (v := (1 : Int32)) hx hb dX5_remove_24 (by decide) ?_
      refine lv_isub hx hb dX5_remove_25 ?_
      refine lv_aload_n hx hb dX5_remove_26 rfl (lv_at hl 0 rfl) ?_
      refine gf_5_11 C hh dX5_remove_27 ?_
      refine lv_iload_n hx hb dX5_remove_30 rfl (lv_at hl 2 rfl) ?_
      obtain ⟨b7, h⟩ := gd_e h
      refine al_500 C hh b7 dX5_remove_31 ?_
      obtain ⟨b8, h⟩ := gd_e h
      obtain ⟨b9, h⟩ := gd_e h
      obtain ⟨s10, e11, h⟩ := vl_e h
      refine as_500 C hh (bl_lt b8) b9 dX5_remove_32 (fun H locs hh => ?_)
      rw [← e11] at hh
      obtain ⟨v12, e13, h⟩ := vl_e h
      refine lv_iinc (v := v12) (lv' := [(3, .int v12), (0, .ref (ad 599 0)), (2, .ref (ad 399 j2))]) hx hb dX5_remove_33 hl (k := 2) rfl (by rw [e13]; rfl) (by decide) rfl (fun ls hl => ?_)
      refine lv_goto (tgt := 11) hx hb dX5_remove_36 (by decide) ?_
      exact ih j2 hj2 v12 s10 h hh (lv_sub hl [1, 2, 0] rfl)
def f_X5_remove (x1 : Int32) (σ : Mem) : Option (Mem) := gd (vin x1 60) (gd (decide ((σ 500 0 (x1).toNatClampNeg).toNatClampNeg < 60)) (vl ((x1 + (1 : Int32))) (fun v3 => f_X5_remove_11 5000 ((σ 500 0 (x1).toNatClampNeg).toNatClampNeg) v3 σ)))
set_option maxHeartbeats 4000000 in
set_option maxRecDepth 100000 in
theorem c_X5_remove {l : Launch} {D : va_G} {cA : Nat → ClassId} {ad : Nat → Nat → Nat} {A : Nat → Prop} {o : Nat → Int64} (hD0 : ∀ σ, va_D A (wW cA ad σ o)) (x1 : Int32) (σ : Mem) {r : Mem} (h : f_X5_remove x1 σ = some r) : Met l yX5_remove (wsG yX5_remove cX5_remove 4 none) rm_X5_remove (va_Pc [.ref (ad 599 0), .int x1] (IW D cA ad o σ)) (Qv D cA ad o A r) 0 0 A := by
  refine metG (by decide) (Nat.le_of_ble_eq_true rfl) hD0 ?_
  intro p e s m args below meth c C ls hh hl
  have C : Cx p s m args meth c cX5_remove 4 RX5 none D cA ad A o := C
  have hl : lv_has ls 4 [(0, .ref (ad 599 0)), (1, .int x1)] := hl
  obtain ⟨⟨hx, hb, hml, hown, hts⟩, hK, hN, hD, hr, hlocks⟩ := id C
  unfold f_X5_remove at h
  refine lv_aload_n hx hb dX5_remove_0 rfl (lv_at hl 0 rfl) ?_
  refine gf_5_11 C hh dX5_remove_1 ?_
  refine lv_iload_n hx hb dX5_remove_4 rfl (lv_at hl 1 rfl) ?_
  obtain ⟨b1, h⟩ := gd_e h
  refine al_500 C hh b1 dX5_remove_5 ?_
  obtain ⟨b2, h⟩ := gd_e h
  refine lv_astore_n (lv' := [(2, .ref (ad 399 ((σ 500 0 (x1).toNatClampNeg).toNatClampNeg))), (0, .ref (ad 599 0)), (1, .int x1)]) hx hb dX5_remove_6 rfl hl (by decide) rfl (fun ls hl => ?_)
  refine lv_iload_n hx hb dX5_remove_7 rfl (lv_at hl 2 rfl) ?_
  refine lv_iconst (v := (1 : Int32)) hx hb dX5_remove_8 (by decide) ?_
  refine lv_iadd hx hb dX5_remove_9 ?_
  obtain ⟨v3, e4, h⟩ := vl_e h
  refine lv_nm e4 ?_
  refine lv_istore_n (lv' := [(3, .int v3), (2, .ref (ad 399 ((σ 500 0 (x1).toNatClampNeg).toNatClampNeg))), (0, .ref (ad 599 0)), (1, .int x1)]) hx hb dX5_remove_10 rfl hl (by decide) rfl (fun ls hl => ?_)
  exact k_X5_remove_11 C 5000 ((σ 500 0 (x1).toNatClampNeg).toNatClampNeg) (bl_lt b2) v3 σ h hh (lv_sub hl [2, 1, 0] rfl)
abbrev rm_X4_exists : Room := { frames := 0, cells := 0, slots := 0, locals := 0 }
theorem HD_X4_exists : yX4_exists.cls = RX4 ∧ yX4_exists.cls ≠ "java/lang/invoke/MethodHandle" ∧ yX4_exists.cls ≠ "java/lang/invoke/VarHandle" ∧ (parseMethodDescriptor yX4_exists.desc).map (fun d => d.parameters.length) = some 0 := by decide +kernel
def f_X4_exists (j0 : Nat) (σ : Mem) : Option (Int32 × Mem) := (if (σ 400 j0 0) = (0 : Int32) then some ((0 : Int32), σ) else some ((1 : Int32), σ))
set_option maxHeartbeats 4000000 in
set_option maxRecDepth 100000 in
theorem c_X4_exists {l : Launch} {D : va_G} {cA : Nat → ClassId} {ad : Nat → Nat → Nat} {A : Nat → Prop} {o : Nat → Int64} (hD0 : ∀ σ, va_D A (wW cA ad σ o)) (j0 : Nat) (hj0 : j0 < 4) (σ : Mem) {r : Int32 × Mem} (h : f_X4_exists j0 σ = some r) : Met l yX4_exists (wsG yX4_exists cX4_exists 1 (some .boolean)) rm_X4_exists (va_Pc [.ref (ad 499 j0)] (IW D cA ad o σ)) (Qi D cA ad o A r) 0 0 A := by
  refine metG (by decide) (Nat.le_of_ble_eq_true rfl) hD0 ?_
  intro p e s m args below meth c C ls hh hl
  have C : Cx p s m args meth c cX4_exists 1 RX4 (some .boolean) D cA ad A o := C
  have hl : lv_has ls 1 [(0, .ref (ad 499 j0))] := hl
  obtain ⟨⟨hx, hb, hml, hown, hts⟩, hK, hN, hD, hr, hlocks⟩ := id C
  unfold f_X4_exists at h
  refine lv_aload_n hx hb dX4_exists_0 rfl (lv_at hl 0 rfl) ?_
  refine gf_4_9 C hh hj0 dX4_exists_1 ?_
  refine lv_if_eq (tgt := 11) hx hb dX4_exists_4 (by decide) (fun c1 => ?_) (fun c1 => ?_)
  · rw [if_pos c1] at h
    refine lv_iconst (v := (0 : Int32)) hx hb dX4_exists_11 (by decide) ?_
    exact r_bool C hh (by decide) h dX4_exists_12
  · rw [if_neg c1] at h
    refine lv_iconst (v := (1 : Int32)) hx hb dX4_exists_7 (by decide) ?_
    refine lv_goto (tgt := 12) hx hb dX4_exists_8 (by decide) ?_
    exact r_bool C hh (by decide) h dX4_exists_12
abbrev rm_X6_isOwner : Room := { frames := 1, cells := 0, slots := 0, locals := 20 }
theorem HD_X6_isOwner : yX6_isOwner.cls = RX6 ∧ yX6_isOwner.cls ≠ "java/lang/invoke/MethodHandle" ∧ yX6_isOwner.cls ≠ "java/lang/invoke/VarHandle" ∧ (parseMethodDescriptor yX6_isOwner.desc).map (fun d => d.parameters.length) = some 2 := by decide +kernel
def f_X6_isOwner (x1 : Int32) (x2 : Int32) (σ : Mem) : Option (Int32 × Mem) := bn (f_X7_isAddress x2 σ) (fun r3 s2 => (if r3 = (0 : Int32) then some ((0 : Int32), s2) else gd (vin x2 1024) ((if (s2 603 0 (x2).toNatClampNeg) = x1 then some ((1 : Int32), s2) else some ((0 : Int32), s2)))))
set_option maxHeartbeats 4000000 in
set_option maxRecDepth 100000 in
theorem c_X6_isOwner {l : Launch} {D : va_G} {cA : Nat → ClassId} {ad : Nat → Nat → Nat} {A : Nat → Prop} {o : Nat → Int64} (hD0 : ∀ σ, va_D A (wW cA ad σ o)) (x1 : Int32) (x2 : Int32) (σ : Mem) {r : Int32 × Mem} (h : f_X6_isOwner x1 x2 σ = some r) : Met l yX6_isOwner (wsG yX6_isOwner cX6_isOwner 3 (some .boolean)) rm_X6_isOwner (va_Pc [.ref (ad 699 0), .int x1, .int x2] (IW D cA ad o σ)) (Qi D cA ad o A r) 0 0 A := by
  refine metG (by decide) (Nat.le_of_ble_eq_true rfl) hD0 ?_
  intro p e s m args below meth c C ls hh hl
  have C : Cx p s m args meth c cX6_isOwner 3 RX6 (some .boolean) D cA ad A o := C
  have hl : lv_has ls 3 [(0, .ref (ad 699 0)), (1, .int x1), (2, .int x2)] := hl
  obtain ⟨⟨hx, hb, hml, hown, hts⟩, hK, hN, hD, hr, hlocks⟩ := id C
  unfold f_X6_isOwner at h
  refine lv_iload_n hx hb dX6_isOwner_0 rfl (lv_at hl 2 rfl) ?_
  obtain ⟨r3, s2, e1, h⟩ := bn_e h
  refine c_int hh (nrun (rest := []) C hh (c_X7_isAddress C.2.2.2.1 x2 σ e1) LN_6_157 ST_X7_isAddress IN_7 CD_X7_isAddress HD_X7_isAddress.2 ⟨rfl, rfl, Nat.le_of_ble_eq_true rfl, Nat.le_of_ble_eq_true rfl⟩ rfl hl.1 rfl (Nat.le_of_ble_eq_true rfl) dX6_isOwner_1 ⟨Nat.zero_le _, Nat.zero_le _⟩) (fun H locs hh => ?_)
  refine lv_if_eq (tgt := 21) hx hb dX6_isOwner_4 (by decide) (fun c4 => ?_) (fun c4 => ?_)
  · rw [if_pos c4] at h
    refine lv_iconst (v := (0 : Int32)) hx hb dX6_isOwner_21 (by decide) ?_
    exact r_bool C hh (by decide) h dX6_isOwner_22
  · rw [if_neg c4] at h
    refine lv_aload_n hx hb dX6_isOwner_7 rfl (lv_at hl 0 rfl) ?_
    refine gf_6_25 C hh dX6_isOwner_8 ?_
    refine lv_iload_n hx hb dX6_isOwner_11 rfl (lv_at hl 2 rfl) ?_
    obtain ⟨b5, h⟩ := gd_e h
    refine al_603 C hh b5 dX6_isOwner_12 ?_
    refine lv_iload_n hx hb dX6_isOwner_13 rfl (lv_at hl 1 rfl) ?_
    refine lv_icmp_ne (tgt := 21) hx hb dX6_isOwner_14 (by decide) (fun c6 => ?_) (fun c6 => ?_)
    · rw [if_neg c6] at h
      refine lv_iconst (v := (0 : Int32)) hx hb dX6_isOwner_21 (by decide) ?_
      exact r_bool C hh (by decide) h dX6_isOwner_22
    · rw [if_pos c6] at h
      refine lv_iconst (v := (1 : Int32)) hx hb dX6_isOwner_17 (by decide) ?_
      refine lv_goto (tgt := 22) hx hb dX6_isOwner_18 (by decide) ?_
      exact r_bool C hh (by decide) h dX6_isOwner_22
abbrev rm_X4_holds : Room := { frames := 1, cells := 0, slots := 0, locals := 20 }
theorem HD_X4_holds : yX4_holds.cls = RX4 ∧ yX4_holds.cls ≠ "java/lang/invoke/MethodHandle" ∧ yX4_holds.cls ≠ "java/lang/invoke/VarHandle" ∧ (parseMethodDescriptor yX4_holds.desc).map (fun d => d.parameters.length) = some 1 := by decide +kernel
def f_X4_holds (j0 : Nat) (x1 : Int32) (σ : Mem) : Option (Int32 × Mem) := bn (f_X4_exists j0 σ) (fun r3 s2 => (if r3 = (0 : Int32) then some ((0 : Int32), s2) else (if x1 < (s2 400 j0 0) then some ((0 : Int32), s2) else (if (s2 401 j0 0) < x1 then some ((0 : Int32), s2) else some ((1 : Int32), s2)))))
set_option maxHeartbeats 4000000 in
set_option maxRecDepth 100000 in
theorem c_X4_holds {l : Launch} {D : va_G} {cA : Nat → ClassId} {ad : Nat → Nat → Nat} {A : Nat → Prop} {o : Nat → Int64} (hD0 : ∀ σ, va_D A (wW cA ad σ o)) (j0 : Nat) (hj0 : j0 < 4) (x1 : Int32) (σ : Mem) {r : Int32 × Mem} (h : f_X4_holds j0 x1 σ = some r) : Met l yX4_holds (wsG yX4_holds cX4_holds 2 (some .boolean)) rm_X4_holds (va_Pc [.ref (ad 499 j0), .int x1] (IW D cA ad o σ)) (Qi D cA ad o A r) 0 0 A := by
  refine metG (by decide) (Nat.le_of_ble_eq_true rfl) hD0 ?_
  intro p e s m args below meth c C ls hh hl
  have C : Cx p s m args meth c cX4_holds 2 RX4 (some .boolean) D cA ad A o := C
  have hl : lv_has ls 2 [(0, .ref (ad 499 j0)), (1, .int x1)] := hl
  obtain ⟨⟨hx, hb, hml, hown, hts⟩, hK, hN, hD, hr, hlocks⟩ := id C
  unfold f_X4_holds at h
  refine lv_aload_n hx hb dX4_holds_0 rfl (lv_at hl 0 rfl) ?_
  obtain ⟨r3, s2, e1, h⟩ := bn_e h
  refine c_int hh (vrun (rest := []) C hh (c_X4_exists C.2.2.2.1 j0 hj0 σ e1) LM_4_21 IM_X4_exists SL_X4_exists IN_4 CD_X4_exists HD_X4_exists ⟨rfl, rfl, Nat.le_of_ble_eq_true rfl, Nat.le_of_ble_eq_true rfl⟩ (rv_4 C hh hj0) rfl hl.1 rfl (Nat.le_of_ble_eq_true rfl) dX4_holds_1 ⟨Nat.zero_le _, Nat.zero_le _⟩) (fun H locs hh => ?_)
  refine lv_if_eq (tgt := 27) hx hb dX4_holds_4 (by decide) (fun c4 => ?_) (fun c4 => ?_)
  · rw [if_pos c4] at h
    refine lv_iconst (v := (0 : Int32)) hx hb dX4_holds_27 (by decide) ?_
    exact r_bool C hh (by decide) h dX4_holds_28
  · rw [if_neg c4] at h
    refine lv_iload_n hx hb dX4_holds_7 rfl (lv_at hl 1 rfl) ?_
    refine lv_aload_n hx hb dX4_holds_8 rfl (lv_at hl 0 rfl) ?_
    refine gf_4_9 C hh hj0 dX4_holds_9 ?_
    refine lv_icmp_lt (tgt := 27) hx hb dX4_holds_12 (by decide) (fun c5 => ?_) (fun c5 => ?_)
    · rw [if_pos c5] at h
      refine lv_iconst (v := (0 : Int32)) hx hb dX4_holds_27 (by decide) ?_
      exact r_bool C hh (by decide) h dX4_holds_28
    · rw [if_neg c5] at h
      refine lv_iload_n hx hb dX4_holds_15 rfl (lv_at hl 1 rfl) ?_
      refine lv_aload_n hx hb dX4_holds_16 rfl (lv_at hl 0 rfl) ?_
      refine gf_4_15 C hh hj0 dX4_holds_17 ?_
      refine lv_icmp_gt (tgt := 27) hx hb dX4_holds_20 (by decide) (fun c6 => ?_) (fun c6 => ?_)
      · rw [if_pos c6] at h
        refine lv_iconst (v := (0 : Int32)) hx hb dX4_holds_27 (by decide) ?_
        exact r_bool C hh (by decide) h dX4_holds_28
      · rw [if_neg c6] at h
        refine lv_iconst (v := (1 : Int32)) hx hb dX4_holds_23 (by decide) ?_
        refine lv_goto (tgt := 28) hx hb dX4_holds_24 (by decide) ?_
        exact r_bool C hh (by decide) h dX4_holds_28
abbrev rm_X6_isFree : Room := { frames := 0, cells := 0, slots := 0, locals := 0 }
theorem HD_X6_isFree : yX6_isFree.cls = RX6 ∧ yX6_isFree.cls ≠ "java/lang/invoke/MethodHandle" ∧ yX6_isFree.cls ≠ "java/lang/invoke/VarHandle" ∧ (parseMethodDescriptor yX6_isFree.desc).map (fun d => d.parameters.length) = some 2 := by decide +kernel
def f_X6_isFree_19 (σ : Mem) : Option (Int32 × Mem) := some ((1 : Int32), σ)
set_option maxHeartbeats 4000000 in
set_option maxRecDepth 100000 in
theorem k_X6_isFree_19 {p : Program} {l : Launch} {e : Env} {s : State} {m : MethodId} {args : Array Value} {below : List Frame} {meth : Method} {c : Code} {D : va_G} {cA : Nat → ClassId} {ad : Nat → Nat → Nat} {A : Nat → Prop} {o : Nat → Int64} (C : Cx p s m args meth c cX6_isFree 3 RX6 (some .boolean) D cA ad A o) {r : Int32 × Mem} (σ : Mem) {H : Heap} {locs : List Loc} (h : f_X6_isFree_19 σ = some r) (hh : HH D cA ad A o s σ H locs) {ls : Array Slot} (hl : lv_has ls 3 []) : W p l e rm_X6_isFree s m args below meth c H locs 0 0 (MQ below (Qi D cA ad o A r) args s 0 0 A) (F0 m 19 ls []) := by
  obtain ⟨⟨hx, hb, hml, hown, hts⟩, hK, hN, hD, hr, hlocks⟩ := id C
  unfold f_X6_isFree_19 at h
  refine lv_iconst (v := (1 : Int32)) hx hb dX6_isFree_19 (by decide) ?_
  refine lv_goto (tgt := 24) hx hb dX6_isFree_20 (by decide) ?_
  exact r_bool C hh (by decide) h dX6_isFree_24
def f_X6_isFree (x1 : Int32) (x2 : Int32) (σ : Mem) : Option (Int32 × Mem) := gd (vin x1 1024) ((if (σ 602 0 (x1).toNatClampNeg) = (0 : Int32) then f_X6_isFree_19 σ else gd (vin x1 1024) ((if x2 < (σ 604 0 (x1).toNatClampNeg) then some ((0 : Int32), σ) else f_X6_isFree_19 σ))))
set_option maxHeartbeats 4000000 in
set_option maxRecDepth 100000 in
theorem c_X6_isFree {l : Launch} {D : va_G} {cA : Nat → ClassId} {ad : Nat → Nat → Nat} {A : Nat → Prop} {o : Nat → Int64} (hD0 : ∀ σ, va_D A (wW cA ad σ o)) (x1 : Int32) (x2 : Int32) (σ : Mem) {r : Int32 × Mem} (h : f_X6_isFree x1 x2 σ = some r) : Met l yX6_isFree (wsG yX6_isFree cX6_isFree 3 (some .boolean)) rm_X6_isFree (va_Pc [.ref (ad 699 0), .int x1, .int x2] (IW D cA ad o σ)) (Qi D cA ad o A r) 0 0 A := by
  refine metG (by decide) (Nat.le_of_ble_eq_true rfl) hD0 ?_
  intro p e s m args below meth c C ls hh hl
  have C : Cx p s m args meth c cX6_isFree 3 RX6 (some .boolean) D cA ad A o := C
  have hl : lv_has ls 3 [(0, .ref (ad 699 0)), (1, .int x1), (2, .int x2)] := hl
  obtain ⟨⟨hx, hb, hml, hown, hts⟩, hK, hN, hD, hr, hlocks⟩ := id C
  unfold f_X6_isFree at h
  refine lv_aload_n hx hb dX6_isFree_0 rfl (lv_at hl 0 rfl) ?_
  refine gf_6_21 C hh dX6_isFree_1 ?_
  refine lv_iload_n hx hb dX6_isFree_4 rfl (lv_at hl 1 rfl) ?_
  obtain ⟨b1, h⟩ := gd_e h
  refine al_602 C hh b1 dX6_isFree_5 ?_
  refine lv_if_eq (tgt := 19) hx hb dX6_isFree_6 (by decide) (fun c2 => ?_) (fun c2 => ?_)
  · rw [if_pos c2] at h
    exact k_X6_isFree_19 C σ h hh (lv_sub hl [] rfl)
  · rw [if_neg c2] at h
    refine lv_aload_n hx hb dX6_isFree_9 rfl (lv_at hl 0 rfl) ?_
    refine gf_6_28 C hh dX6_isFree_10 ?_
    refine lv_iload_n hx hb dX6_isFree_13 rfl (lv_at hl 1 rfl) ?_
    obtain ⟨b3, h⟩ := gd_e h
    refine al_604 C hh b3 dX6_isFree_14 ?_
    refine lv_iload_n hx hb dX6_isFree_15 rfl (lv_at hl 2 rfl) ?_
    refine lv_icmp_gt (tgt := 23) hx hb dX6_isFree_16 (by decide) (fun c4 => ?_) (fun c4 => ?_)
    · rw [if_pos c4] at h
      refine lv_iconst (v := (0 : Int32)) hx hb dX6_isFree_23 (by decide) ?_
      exact r_bool C hh (by decide) h dX6_isFree_24
    · rw [if_neg c4] at h
      exact k_X6_isFree_19 C σ h hh (lv_sub hl [] rfl)
abbrev rm_X6_leastOf : Room := { frames := 0, cells := 0, slots := 0, locals := 0 }
theorem HD_X6_leastOf : yX6_leastOf.cls = RX6 ∧ yX6_leastOf.cls ≠ "java/lang/invoke/MethodHandle" ∧ yX6_leastOf.cls ≠ "java/lang/invoke/VarHandle" ∧ (parseMethodDescriptor yX6_leastOf.desc).map (fun d => d.parameters.length) = some 2 := by decide +kernel
def f_X6_leastOf_5 : Nat → Int32 → Nat → Int32 → Mem → Option (Int32 × Mem)
  | 0, _, _, _, _ => none
  | n + 1, x1, j2, x3, σ => (if (σ 401 j2 0) < x3 then some ((0 : Int32), σ) else gd (vin x3 1024) ((if (σ 603 0 (x3).toNatClampNeg) = x1 then some (x3, σ) else vl (x3 + (1 : Int32)) (fun v4 => f_X6_leastOf_5 n x1 j2 v4 σ))))
set_option maxHeartbeats 4000000 in
set_option maxRecDepth 100000 in
theorem k_X6_leastOf_5 {p : Program} {l : Launch} {e : Env} {s : State} {m : MethodId} {args : Array Value} {below : List Frame} {meth : Method} {c : Code} {D : va_G} {cA : Nat → ClassId} {ad : Nat → Nat → Nat} {A : Nat → Prop} {o : Nat → Int64} (C : Cx p s m args meth c cX6_leastOf 4 RX6 (some .int) D cA ad A o) {r : Int32 × Mem} : ∀ (n : Nat) (x1 : Int32) (j2 : Nat) (hj2 : j2 < 4) (x3 : Int32) (σ : Mem) {H : Heap} {locs : List Loc} (h : f_X6_leastOf_5 n x1 j2 x3 σ = some r) (hh : HH D cA ad A o s σ H locs) {ls : Array Slot} (hl : lv_has ls 4 [(0, .ref (ad 699 0)), (1, .int x1), (2, .ref (ad 499 j2)), (3, .int x3)]), W p l e rm_X6_leastOf s m args below meth c H locs 0 0 (MQ below (Qi D cA ad o A r) args s 0 0 A) (F0 m 5 ls []) := by
  obtain ⟨⟨hx, hb, hml, hown, hts⟩, hK, hN, hD, hr, hlocks⟩ := id C
  intro n
  induction n with
  | zero =>
    intro x1 j2 hj2 x3 σ H locs h
    rw [f_X6_leastOf_5.eq_1] at h
    cases h
  | succ n ih =>
    intro x1 j2 hj2 x3 σ H locs h hh ls hl
    rw [f_X6_leastOf_5.eq_2] at h
    refine lv_iload_n hx hb dX6_leastOf_5 rfl (lv_at hl 3 rfl) ?_
    refine lv_aload_n hx hb dX6_leastOf_6 rfl (lv_at hl 2 rfl) ?_
    refine gf_6_52 C hh hj2 dX6_leastOf_7 ?_
    refine lv_icmp_gt (tgt := 31) hx hb dX6_leastOf_10 (by decide) (fun c1 => ?_) (fun c1 => ?_)
    · rw [if_pos c1] at h
      refine lv_iconst (v := (0 : Int32)) hx hb dX6_leastOf_31 (by decide) ?_
      exact r_int C hh h dX6_leastOf_32
    · rw [if_neg c1] at h
      refine lv_aload_n hx hb dX6_leastOf_13 rfl (lv_at hl 0 rfl) ?_
      refine gf_6_25 C hh dX6_leastOf_14 ?_
      refine lv_iload_n hx hb dX6_leastOf_17 rfl (lv_at hl 3 rfl) ?_
      obtain ⟨b2, h⟩ := gd_e h
      refine al_603 C hh b2 dX6_leastOf_18 ?_
      refine lv_iload_n hx hb dX6_leastOf_19 rfl (lv_at hl 1 rfl) ?_
      refine lv_icmp_ne (tgt := 25) hx hb dX6_leastOf_20 (by decide) (fun c3 => ?_) (fun c3 => ?_)
      · rw [if_neg c3] at h
        obtain ⟨v4, e5, h⟩ := vl_e h
        refine lv_iinc (v := v4) (lv' := [(3, .int v4), (0, .ref (ad 699 0)), (1, .int x1), (2, .ref (ad 499 j2))]) hx hb dX6_leastOf_25 hl (k := 3) rfl (by rw [e5]; rfl) (by decide) rfl (fun ls hl => ?_)
        refine lv_goto (tgt := 5) hx hb dX6_leastOf_28 (by decide) ?_
        exact ih x1 j2 hj2 v4 σ h hh (lv_sub hl [1, 2, 3, 0] rfl)
      · rw [if_pos c3] at h
        refine lv_iload_n hx hb dX6_leastOf_23 rfl (lv_at hl 3 rfl) ?_
        exact r_int C hh h dX6_leastOf_24
def f_X6_leastOf (x1 : Int32) (j2 : Nat) (σ : Mem) : Option (Int32 × Mem) := f_X6_leastOf_5 5000 x1 j2 (σ 400 j2 0) σ
set_option maxHeartbeats 4000000 in
set_option maxRecDepth 100000 in
theorem c_X6_leastOf {l : Launch} {D : va_G} {cA : Nat → ClassId} {ad : Nat → Nat → Nat} {A : Nat → Prop} {o : Nat → Int64} (hD0 : ∀ σ, va_D A (wW cA ad σ o)) (x1 : Int32) (j2 : Nat) (hj2 : j2 < 4) (σ : Mem) {r : Int32 × Mem} (h : f_X6_leastOf x1 j2 σ = some r) : Met l yX6_leastOf (wsG yX6_leastOf cX6_leastOf 4 (some .int)) rm_X6_leastOf (va_Pc [.ref (ad 699 0), .int x1, .ref (ad 499 j2)] (IW D cA ad o σ)) (Qi D cA ad o A r) 0 0 A := by
  refine metG (by decide) (Nat.le_of_ble_eq_true rfl) hD0 ?_
  intro p e s m args below meth c C ls hh hl
  have C : Cx p s m args meth c cX6_leastOf 4 RX6 (some .int) D cA ad A o := C
  have hl : lv_has ls 4 [(0, .ref (ad 699 0)), (1, .int x1), (2, .ref (ad 499 j2))] := hl
  obtain ⟨⟨hx, hb, hml, hown, hts⟩, hK, hN, hD, hr, hlocks⟩ := id C
  unfold f_X6_leastOf at h
  refine lv_aload_n hx hb dX6_leastOf_0 rfl (lv_at hl 2 rfl) ?_
  refine gf_6_44 C hh hj2 dX6_leastOf_1 ?_
  refine lv_istore_n (lv' := [(3, .int (σ 400 j2 0)), (0, .ref (ad 699 0)), (1, .int x1), (2, .ref (ad 499 j2))]) hx hb dX6_leastOf_4 rfl hl (by decide) rfl (fun ls hl => ?_)
  exact k_X6_leastOf_5 C 5000 x1 j2 hj2 (σ 400 j2 0) σ h hh (lv_sub hl [1, 2, 3, 0] rfl)
abbrev rm_X6_oldestFree : Room := { frames := 1, cells := 0, slots := 0, locals := 22 }
theorem HD_X6_oldestFree : yX6_oldestFree.cls = RX6 ∧ yX6_oldestFree.cls ≠ "java/lang/invoke/MethodHandle" ∧ yX6_oldestFree.cls ≠ "java/lang/invoke/VarHandle" ∧ (parseMethodDescriptor yX6_oldestFree.desc).map (fun d => d.parameters.length) = some 2 := by decide +kernel
def f_X6_oldestFree_50 (K8 : Nat → Int32 → Int32 → Int32 → Mem → Option (Int32 × Mem)) (j1 : Nat) (x2 : Int32) (x3 : Int32) (x4 : Int32) (σ : Mem) : Option (Int32 × Mem) := vl (x4 + (1 : Int32)) (fun v1 => K8 j1 x2 x3 v1 σ)
set_option maxHeartbeats 4000000 in
set_option maxRecDepth 100000 in
theorem k_X6_oldestFree_50 {p : Program} {l : Launch} {e : Env} {s : State} {m : MethodId} {args : Array Value} {below : List Frame} {meth : Method} {c : Code} {D : va_G} {cA : Nat → ClassId} {ad : Nat → Nat → Nat} {A : Nat → Prop} {o : Nat → Int64} (C : Cx p s m args meth c cX6_oldestFree 5 RX6 (some .int) D cA ad A o) {K8 : Nat → Int32 → Int32 → Int32 → Mem → Option (Int32 × Mem)} {r : Int32 × Mem} (hK8 : ∀ (j1 : Nat) (hj1 : j1 < 4) (x2 : Int32) (x3 : Int32) (x4 : Int32) (σ : Mem) {H : Heap} {locs : List Loc}, K8 j1 x2 x3 x4 σ = some r → HH D cA ad A o s σ H locs → ∀ {ls : Array Slot}, lv_has ls 5 [(0, .ref (ad 699 0)), (1, .ref (ad 499 j1)), (2, .int x2), (3, .int x3), (4, .int x4)] → W p l e rm_X6_oldestFree s m args below meth c H locs 0 0 (MQ below (Qi D cA ad o A r) args s 0 0 A) (F0 m 8 ls [])) (j1 : Nat) (hj1 : j1 < 4) (x2 : Int32) (x3 : Int32) (x4 : Int32) (σ : Mem) {H : Heap} {locs : List Loc} (h : f_X6_oldestFree_50 K8 j1 x2 x3 x4 σ = some r) (hh : HH D cA ad A o s σ H locs) {ls : Array Slot} (hl : lv_has ls 5 [(0, .ref (ad 699 0)), (1, .ref (ad 499 j1)), (2, .int x2), (3, .int x3), (4, .int x4)]) : W p l e rm_X6_oldestFree s m args below meth c H locs 0 0 (MQ below (Qi D cA ad o A r) args s 0 0 A) (F0 m 50 ls []) := by
  obtain ⟨⟨hx, hb, hml, hown, hts⟩, hK, hN, hD, hr, hlocks⟩ := id C
  unfold f_X6_oldestFree_50 at h
  obtain ⟨v1, e2, h⟩ := vl_e h
  refine lv_iinc (v := v1) (lv' := [(4, .int v1), (0, .ref (ad 699 0)), (1, .ref (ad 499 j1)), (2, .int x2), (3, .int x3)]) hx hb dX6_oldestFree_50 hl (k := 4) rfl (by rw [e2]; rfl) (by decide) rfl (fun ls hl => ?_)
  refine lv_goto (tgt := 8) hx hb dX6_oldestFree_53 (by decide) ?_
  exact hK8 j1 hj1 x2 x3 v1 σ h hh (lv_sub hl [1, 2, 3, 4, 0] rfl)
def f_X6_oldestFree_47 (K8 : Nat → Int32 → Int32 → Int32 → Mem → Option (Int32 × Mem)) (j1 : Nat) (x2 : Int32) (x4 : Int32) (σ : Mem) : Option (Int32 × Mem) := f_X6_oldestFree_50 K8 j1 x2 x4 x4 σ
set_option maxHeartbeats 4000000 in
set_option maxRecDepth 100000 in
theorem k_X6_oldestFree_47 {p : Program} {l : Launch} {e : Env} {s : State} {m : MethodId} {args : Array Value} {below : List Frame} {meth : Method} {c : Code} {D : va_G} {cA : Nat → ClassId} {ad : Nat → Nat → Nat} {A : Nat → Prop} {o : Nat → Int64} (C : Cx p s m args meth c cX6_oldestFree 5 RX6 (some .int) D cA ad A o) {K8 : Nat → Int32 → Int32 → Int32 → Mem → Option (Int32 × Mem)} {r : Int32 × Mem} (hK8 : ∀ (j1 : Nat) (hj1 : j1 < 4) (x2 : Int32) (x3 : Int32) (x4 : Int32) (σ : Mem) {H : Heap} {locs : List Loc}, K8 j1 x2 x3 x4 σ = some r → HH D cA ad A o s σ H locs → ∀ {ls : Array Slot}, lv_has ls 5 [(0, .ref (ad 699 0)), (1, .ref (ad 499 j1)), (2, .int x2), (3, .int x3), (4, .int x4)] → W p l e rm_X6_oldestFree s m args below meth c H locs 0 0 (MQ below (Qi D cA ad o A r) args s 0 0 A) (F0 m 8 ls [])) (j1 : Nat) (hj1 : j1 < 4) (x2 : Int32) (x4 : Int32) (σ : Mem) {H : Heap} {locs : List Loc} (h : f_X6_oldestFree_47 K8 j1 x2 x4 σ = some r) (hh : HH D cA ad A o s σ H locs) {ls : Array Slot} (hl : lv_has ls 5 [(0, .ref (ad 699 0)), (1, .ref (ad 499 j1)), (2, .int x2), (4, .int x4)]) : W p l e rm_X6_oldestFree s m args below meth c H locs 0 0 (MQ below (Qi D cA ad o A r) args s 0 0 A) (F0 m 47 ls []) := by
  obtain ⟨⟨hx, hb, hml, hown, hts⟩, hK, hN, hD, hr, hlocks⟩ := id C
  unfold f_X6_oldestFree_47 at h
  refine lv_iload hx hb dX6_oldestFree_47 (lv_at hl 3 rfl) ?_
  refine lv_istore_n (lv' := [(3, .int x4), (0, .ref (ad 699 0)), (1, .ref (ad 499 j1)), (2, .int x2), (4, .int x4)]) hx hb dX6_oldestFree_49 rfl hl (by decide) rfl (fun ls hl => ?_)
  exact k_X6_oldestFree_50 C hK8 j1 hj1 x2 x4 x4 σ h hh (lv_sub hl [1, 2, 3, 0, 4] rfl)
def f_X6_oldestFree_8 : Nat → Nat → Int32 → Int32 → Int32 → Mem → Option (Int32 × Mem)
  | 0, _, _, _, _, _ => none
  | n + 1, j1, x2, x3, x4, σ => (if (σ 401 j1 0) < x4 then some (x3, σ) else bn (f_X6_isFree x4 x2 σ) (fun r4 s3 => (if r4 = (0 : Int32) then f_X6_oldestFree_50 (f_X6_oldestFree_8 n) j1 x2 x3 x4 s3 else (if x3 = (0 : Int32) then f_X6_oldestFree_47 (f_X6_oldestFree_8 n) j1 x2 x4 s3 else gd (vin x4 1024) (gd (vin x3 1024) ((if (s3 604 0 (x3).toNatClampNeg) ≤ (s3 604 0 (x4).toNatClampNeg) then f_X6_oldestFree_50 (f_X6_oldestFree_8 n) j1 x2 x3 x4 s3 else f_X6_oldestFree_47 (f_X6_oldestFree_8 n) j1 x2 x4 s3)))))))
set_option maxHeartbeats 4000000 in
set_option maxRecDepth 100000 in
theorem k_X6_oldestFree_8 {p : Program} {l : Launch} {e : Env} {s : State} {m : MethodId} {args : Array Value} {below : List Frame} {meth : Method} {c : Code} {D : va_G} {cA : Nat → ClassId} {ad : Nat → Nat → Nat} {A : Nat → Prop} {o : Nat → Int64} (C : Cx p s m args meth c cX6_oldestFree 5 RX6 (some .int) D cA ad A o) {r : Int32 × Mem} : ∀ (n : Nat) (j1 : Nat) (hj1 : j1 < 4) (x2 : Int32) (x3 : Int32) (x4 : Int32) (σ : Mem) {H : Heap} {locs : List Loc} (h : f_X6_oldestFree_8 n j1 x2 x3 x4 σ = some r) (hh : HH D cA ad A o s σ H locs) {ls : Array Slot} (hl : lv_has ls 5 [(0, .ref (ad 699 0)), (1, .ref (ad 499 j1)), (2, .int x2), (3, .int x3), (4, .int x4)]), W p l e rm_X6_oldestFree s m args below meth c H locs 0 0 (MQ below (Qi D cA ad o A r) args s 0 0 A) (F0 m 8 ls []) := by
  obtain ⟨⟨hx, hb, hml, hown, hts⟩, hK, hN, hD, hr, hlocks⟩ := id C
  intro n
  induction n with
  | zero =>
    intro j1 hj1 x2 x3 x4 σ H locs h
    rw [f_X6_oldestFree_8.eq_1] at h
    cases h
  | succ n ih =>
    intro j1 hj1 x2 x3 x4 σ H locs h hh ls hl
    rw [f_X6_oldestFree_8.eq_2] at h
    refine lv_iload hx hb dX6_oldestFree_8 (lv_at hl 4 rfl) ?_
    refine lv_aload_n hx hb dX6_oldestFree_10 rfl (lv_at hl 1 rfl) ?_
    refine gf_6_52 C hh hj1 dX6_oldestFree_11 ?_
    refine lv_icmp_gt (tgt := 56) hx hb dX6_oldestFree_14 (by decide) (fun c1 => ?_) (fun c1 => ?_)
    · rw [if_pos c1] at h
      refine lv_iload_n hx hb dX6_oldestFree_56 rfl (lv_at hl 3 rfl) ?_
      exact r_int C hh h dX6_oldestFree_57
    · rw [if_neg c1] at h
      refine lv_aload_n hx hb dX6_oldestFree_17 rfl (lv_at hl 0 rfl) ?_
      refine lv_iload hx hb dX6_oldestFree_18 (lv_at hl 4 rfl) ?_
      refine lv_iload_n hx hb dX6_oldestFree_20 rfl (lv_at hl 2 rfl) ?_
      obtain ⟨r4, s3, e2, h⟩ := bn_e h
      refine c_int hh (vrun (rest := []) C hh (c_X6_isFree C.2.2.2.1 x4 x2 σ e2) LM_6_55 IM_X6_isFree SL_X6_isFree IN_6 CD_X6_isFree HD_X6_isFree ⟨rfl, rfl, Nat.le_of_ble_eq_true rfl, Nat.le_of_ble_eq_true rfl⟩ (rv_6 C hh) rfl hl.1 rfl (Nat.le_of_ble_eq_true rfl) dX6_oldestFree_21 ⟨Nat.zero_le _, Nat.zero_le _⟩) (fun H locs hh => ?_)
      refine lv_if_eq (tgt := 50) hx hb dX6_oldestFree_24 (by decide) (fun c5 => ?_) (fun c5 => ?_)
      · rw [if_pos c5] at h
        exact k_X6_oldestFree_50 C ih j1 hj1 x2 x3 x4 s3 h hh (lv_sub hl [0, 1, 2, 3, 4] rfl)
      · rw [if_neg c5] at h
        refine lv_iload_n hx hb dX6_oldestFree_27 rfl (lv_at hl 3 rfl) ?_
        refine lv_if_eq (tgt := 47) hx hb dX6_oldestFree_28 (by decide) (fun c6 => ?_) (fun c6 => ?_)
        · rw [if_pos c6] at h
          exact k_X6_oldestFree_47 C ih j1 hj1 x2 x4 s3 h hh (lv_sub hl [0, 1, 2, 4] rfl)
        · rw [if_neg c6] at h
          refine lv_aload_n hx hb dX6_oldestFree_31 rfl (lv_at hl 0 rfl) ?_
          refine gf_6_28 C hh dX6_oldestFree_32 ?_
          refine lv_iload hx hb dX6_oldestFree_35 (lv_at hl 4 rfl) ?_
          obtain ⟨b7, h⟩ := gd_e h
          refine al_604 C hh b7 dX6_oldestFree_37 ?_
          refine lv_aload_n hx hb dX6_oldestFree_38 rfl (lv_at hl 0 rfl) ?_
          refine gf_6_28 C hh dX6_oldestFree_39 ?_
          refine lv_iload_n hx hb dX6_oldestFree_42 rfl (lv_at hl 3 rfl) ?_
          obtain ⟨b8, h⟩ := gd_e h
          refine al_604 C hh b8 dX6_oldestFree_43 ?_
          refine lv_icmp_ge (tgt := 50) hx hb dX6_oldestFree_44 (by decide) (fun c9 => ?_) (fun c9 => ?_)
          · rw [if_pos c9] at h
            exact k_X6_oldestFree_50 C ih j1 hj1 x2 x3 x4 s3 h hh (lv_sub hl [0, 1, 2, 3, 4] rfl)
          · rw [if_neg c9] at h
            exact k_X6_oldestFree_47 C ih j1 hj1 x2 x4 s3 h hh (lv_sub hl [0, 1, 2, 4] rfl)
def f_X6_oldestFree (j1 : Nat) (x2 : Int32) (σ : Mem) : Option (Int32 × Mem) := f_X6_oldestFree_8 5000 j1 x2 (0 : Int32) (σ 400 j1 0) σ
set_option maxHeartbeats 4000000 in
set_option maxRecDepth 100000 in
theorem c_X6_oldestFree {l : Launch} {D : va_G} {cA : Nat → ClassId} {ad : Nat → Nat → Nat} {A : Nat → Prop} {o : Nat → Int64} (hD0 : ∀ σ, va_D A (wW cA ad σ o)) (j1 : Nat) (hj1 : j1 < 4) (x2 : Int32) (σ : Mem) {r : Int32 × Mem} (h : f_X6_oldestFree j1 x2 σ = some r) : Met l yX6_oldestFree (wsG yX6_oldestFree cX6_oldestFree 5 (some .int)) rm_X6_oldestFree (va_Pc [.ref (ad 699 0), .ref (ad 499 j1), .int x2] (IW D cA ad o σ)) (Qi D cA ad o A r) 0 0 A := by
  refine metG (by decide) (Nat.le_of_ble_eq_true rfl) hD0 ?_
  intro p e s m args below meth c C ls hh hl
  have C : Cx p s m args meth c cX6_oldestFree 5 RX6 (some .int) D cA ad A o := C
  have hl : lv_has ls 5 [(0, .ref (ad 699 0)), (1, .ref (ad 499 j1)), (2, .int x2)] := hl
  obtain ⟨⟨hx, hb, hml, hown, hts⟩, hK, hN, hD, hr, hlocks⟩ := id C
  unfold f_X6_oldestFree at h
  refine lv_iconst (v := (0 : Int32)) hx hb dX6_oldestFree_0 (by decide) ?_
  refine lv_istore_n (lv' := [(3, .int (0 : Int32)), (0, .ref (ad 699 0)), (1, .ref (ad 499 j1)), (2, .int x2)]) hx hb dX6_oldestFree_1 rfl hl (by decide) rfl (fun ls hl => ?_)
  refine lv_aload_n hx hb dX6_oldestFree_2 rfl (lv_at hl 2 rfl) ?_
  refine gf_6_44 C hh hj1 dX6_oldestFree_3 ?_
  refine lv_istore (lv' := [(4, .int (σ 400 j1 0)), (3, .int (0 : Int32)), (0, .ref (ad 699 0)), (1, .ref (ad 499 j1)), (2, .int x2)]) hx hb dX6_oldestFree_6 hl (by decide) rfl (fun ls hl => ?_)
  exact k_X6_oldestFree_8 C 5000 j1 hj1 x2 (0 : Int32) (σ 400 j1 0) σ h hh (lv_sub hl [2, 3, 4, 1, 0] rfl)
abbrev rm_X6_choose : Room := { frames := 2, cells := 0, slots := 0, locals := 46 }
theorem HD_X6_choose : yX6_choose.cls = RX6 ∧ yX6_choose.cls ≠ "java/lang/invoke/MethodHandle" ∧ yX6_choose.cls ≠ "java/lang/invoke/VarHandle" ∧ (parseMethodDescriptor yX6_choose.desc).map (fun d => d.parameters.length) = some 3 := by decide +kernel
def f_X6_choose_53 : Nat → Nat → Int32 → Int32 → Mem → Option (Int32 × Mem)
  | 0, _, _, _, _ => none
  | n + 1, j2, x3, x5, σ => (if (σ 401 j2 0) < x5 then bn (f_X6_oldestFree j2 x3 σ) (fun r4 s3 => some (r4, s3)) else gd (vin x5 1024) ((if (σ 602 0 (x5).toNatClampNeg) = (0 : Int32) then some (x5, σ) else vl (x5 + (1 : Int32)) (fun v7 => f_X6_choose_53 n j2 x3 v7 σ))))
set_option maxHeartbeats 4000000 in
set_option maxRecDepth 100000 in
theorem k_X6_choose_53 {p : Program} {l : Launch} {e : Env} {s : State} {m : MethodId} {args : Array Value} {below : List Frame} {meth : Method} {c : Code} {D : va_G} {cA : Nat → ClassId} {ad : Nat → Nat → Nat} {A : Nat → Prop} {o : Nat → Int64} (C : Cx p s m args meth c cX6_choose 6 RX6 (some .int) D cA ad A o) {r : Int32 × Mem} : ∀ (n : Nat) (j2 : Nat) (hj2 : j2 < 4) (x3 : Int32) (x5 : Int32) (σ : Mem) {H : Heap} {locs : List Loc} (h : f_X6_choose_53 n j2 x3 x5 σ = some r) (hh : HH D cA ad A o s σ H locs) {ls : Array Slot} (hl : lv_has ls 6 [(0, .ref (ad 699 0)), (2, .ref (ad 499 j2)), (3, .int x3), (5, .int x5)]), W p l e rm_X6_choose s m args below meth c H locs 0 0 (MQ below (Qi D cA ad o A r) args s 0 0 A) (F0 m 53 ls []) := by
  obtain ⟨⟨hx, hb, hml, hown, hts⟩, hK, hN, hD, hr, hlocks⟩ := id C
  intro n
  induction n with
  | zero =>
    intro j2 hj2 x3 x5 σ H locs h
    rw [f_X6_choose_53.eq_1] at h
    cases h
  | succ n ih =>
    intro j2 hj2 x3 x5 σ H locs h hh ls hl
    rw [f_X6_choose_53.eq_2] at h
    refine lv_iload hx hb dX6_choose_53 (lv_at hl 3 rfl) ?_
    refine lv_aload_n hx hb dX6_choose_55 rfl (lv_at hl 1 rfl) ?_
    refine gf_6_52 C hh hj2 dX6_choose_56 ?_
    refine lv_icmp_gt (tgt := 81) hx hb dX6_choose_59 (by decide) (fun c1 => ?_) (fun c1 => ?_)
    · rw [if_pos c1] at h
      refine lv_aload_n hx hb dX6_choose_81 rfl (lv_at hl 0 rfl) ?_
      refine lv_aload_n hx hb dX6_choose_82 rfl (lv_at hl 1 rfl) ?_
      refine lv_iload_n hx hb dX6_choose_83 rfl (lv_at hl 2 rfl) ?_
      obtain ⟨r4, s3, e2, h⟩ := bn_e h
      refine c_int hh (vrun (rest := []) C hh (c_X6_oldestFree C.2.2.2.1 j2 hj2 x3 σ e2) LM_6_133 IM_X6_oldestFree SL_X6_oldestFree IN_6 CD_X6_oldestFree HD_X6_oldestFree ⟨rfl, rfl, Nat.le_of_ble_eq_true rfl, Nat.le_of_ble_eq_true rfl⟩ (rv_6 C hh) rfl hl.1 rfl (Nat.le_of_ble_eq_true rfl) dX6_choose_84 ⟨Nat.zero_le _, Nat.zero_le _⟩) (fun H locs hh => ?_)
      exact r_int C hh h dX6_choose_87
    · rw [if_neg c1] at h
      refine lv_aload_n hx hb dX6_choose_62 rfl (lv_at hl 0 rfl) ?_
      refine gf_6_21 C hh dX6_choose_63 ?_
      refine lv_iload hx hb dX6_choose_66 (lv_at hl 3 rfl) ?_
      obtain ⟨b5, h⟩ := gd_e h
      refine al_602 C hh b5 dX6_choose_68 ?_
      refine lv_if_ne (tgt := 75) hx hb dX6_choose_69 (by decide) (fun c6 => ?_) (fun c6 => ?_)
      · rw [if_neg c6] at h
        obtain ⟨v7, e8, h⟩ := vl_e h
        refine lv_iinc (v := v7) (lv' := [(5, .int v7), (0, .ref (ad 699 0)), (2, .ref (ad 499 j2)), (3, .int x3)]) hx hb dX6_choose_75 hl (k := 3) rfl (by rw [e8]; rfl) (by decide) rfl (fun ls hl => ?_)
        refine lv_goto (tgt := 53) hx hb dX6_choose_78 (by decide) ?_
        exact ih j2 hj2 x3 v7 σ h hh (lv_sub hl [1, 2, 3, 0] rfl)
      · rw [if_pos c6] at h
        refine lv_iload hx hb dX6_choose_72 (lv_at hl 3 rfl) ?_
        exact r_int C hh h dX6_choose_74
def f_X6_choose_47 (j2 : Nat) (x3 : Int32) (σ : Mem) : Option (Int32 × Mem) := f_X6_choose_53 5000 j2 x3 (σ 400 j2 0) σ
set_option maxHeartbeats 4000000 in
set_option maxRecDepth 100000 in
theorem k_X6_choose_47 {p : Program} {l : Launch} {e : Env} {s : State} {m : MethodId} {args : Array Value} {below : List Frame} {meth : Method} {c : Code} {D : va_G} {cA : Nat → ClassId} {ad : Nat → Nat → Nat} {A : Nat → Prop} {o : Nat → Int64} (C : Cx p s m args meth c cX6_choose 6 RX6 (some .int) D cA ad A o) {r : Int32 × Mem} (j2 : Nat) (hj2 : j2 < 4) (x3 : Int32) (σ : Mem) {H : Heap} {locs : List Loc} (h : f_X6_choose_47 j2 x3 σ = some r) (hh : HH D cA ad A o s σ H locs) {ls : Array Slot} (hl : lv_has ls 6 [(0, .ref (ad 699 0)), (2, .ref (ad 499 j2)), (3, .int x3)]) : W p l e rm_X6_choose s m args below meth c H locs 0 0 (MQ below (Qi D cA ad o A r) args s 0 0 A) (F0 m 47 ls []) := by
  obtain ⟨⟨hx, hb, hml, hown, hts⟩, hK, hN, hD, hr, hlocks⟩ := id C
  unfold f_X6_choose_47 at h
  refine lv_aload_n hx hb dX6_choose_47 rfl (lv_at hl 1 rfl) ?_
  refine gf_6_44 C hh hj2 dX6_choose_48 ?_
  refine lv_istore (lv' := [(5, .int (σ 400 j2 0)), (0, .ref (ad 699 0)), (2, .ref (ad 499 j2)), (3, .int x3)]) hx hb dX6_choose_51 hl (by decide) rfl (fun ls hl => ?_)
  exact k_X6_choose_53 C 5000 j2 hj2 x3 (σ 400 j2 0) σ h hh (lv_sub hl [1, 2, 3, 0] rfl)
def f_X6_choose (j1 : Nat) (j2 : Nat) (x3 : Int32) (σ : Mem) : Option (Int32 × Mem) := bn (f_X6_leastOf (σ 206 j1 0) j2 σ) (fun r3 s2 => (if r3 = (0 : Int32) then bn (f_X4_holds j2 (s2 208 j1 0) s2) (fun r7 s6 => (if r7 = (0 : Int32) then f_X6_choose_47 j2 x3 s6 else bn (f_X6_isFree (s6 208 j1 0) x3 s6) (fun r11 s10 => (if r11 = (0 : Int32) then f_X6_choose_47 j2 x3 s10 else some ((s10 208 j1 0), s10))))) else some (r3, s2)))
set_option maxHeartbeats 4000000 in
set_option maxRecDepth 100000 in
theorem c_X6_choose {l : Launch} {D : va_G} {cA : Nat → ClassId} {ad : Nat → Nat → Nat} {A : Nat → Prop} {o : Nat → Int64} (hD0 : ∀ σ, va_D A (wW cA ad σ o)) (j1 : Nat) (hj1 : j1 < 2) (j2 : Nat) (hj2 : j2 < 4) (x3 : Int32) (σ : Mem) {r : Int32 × Mem} (h : f_X6_choose j1 j2 x3 σ = some r) : Met l yX6_choose (wsG yX6_choose cX6_choose 6 (some .int)) rm_X6_choose (va_Pc [.ref (ad 699 0), .ref (ad 299 j1), .ref (ad 499 j2), .int x3] (IW D cA ad o σ)) (Qi D cA ad o A r) 0 0 A := by
  refine metG (by decide) (Nat.le_of_ble_eq_true rfl) hD0 ?_
  intro p e s m args below meth c C ls hh hl
  have C : Cx p s m args meth c cX6_choose 6 RX6 (some .int) D cA ad A o := C
  have hl : lv_has ls 6 [(0, .ref (ad 699 0)), (1, .ref (ad 299 j1)), (2, .ref (ad 499 j2)), (3, .int x3)] := hl
  obtain ⟨⟨hx, hb, hml, hown, hts⟩, hK, hN, hD, hr, hlocks⟩ := id C
  unfold f_X6_choose at h
  refine lv_aload_n hx hb dX6_choose_0 rfl (lv_at hl 0 rfl) ?_
  refine lv_aload_n hx hb dX6_choose_1 rfl (lv_at hl 1 rfl) ?_
  refine gf_6_68 C hh hj1 dX6_choose_2 ?_
  refine lv_aload_n hx hb dX6_choose_5 rfl (lv_at hl 2 rfl) ?_
  obtain ⟨r3, s2, e1, h⟩ := bn_e h
  refine c_int hh (vrun (rest := []) C hh (c_X6_leastOf C.2.2.2.1 (σ 206 j1 0) j2 hj2 σ e1) LM_6_126 IM_X6_leastOf SL_X6_leastOf IN_6 CD_X6_leastOf HD_X6_leastOf ⟨rfl, rfl, Nat.le_of_ble_eq_true rfl, Nat.le_of_ble_eq_true rfl⟩ (rv_6 C hh) rfl hl.1 rfl (Nat.le_of_ble_eq_true rfl) dX6_choose_6 ⟨Nat.zero_le _, Nat.zero_le _⟩) (fun H locs hh => ?_)
  refine lv_istore (lv' := [(4, .int r3), (0, .ref (ad 699 0)), (1, .ref (ad 299 j1)), (2, .ref (ad 499 j2)), (3, .int x3)]) hx hb dX6_choose_9 hl (by decide) rfl (fun ls hl => ?_)
  refine lv_iload hx hb dX6_choose_11 (lv_at hl 0 rfl) ?_
  refine lv_if_eq (tgt := 19) hx hb dX6_choose_13 (by decide) (fun c4 => ?_) (fun c4 => ?_)
  · rw [if_pos c4] at h
    refine lv_aload_n hx hb dX6_choose_19 rfl (lv_at hl 3 rfl) ?_
    refine lv_aload_n hx hb dX6_choose_20 rfl (lv_at hl 2 rfl) ?_
    refine gf_6_108 C hh hj1 dX6_choose_21 ?_
    obtain ⟨r7, s6, e5, h⟩ := bn_e h
    refine c_int hh (vrun (rest := []) C hh (c_X4_holds C.2.2.2.1 j2 hj2 (s2 208 j1 0) s2 e5) LM_6_130 IM_X4_holds SL_X4_holds IN_4 CD_X4_holds HD_X4_holds ⟨rfl, rfl, Nat.le_of_ble_eq_true rfl, Nat.le_of_ble_eq_true rfl⟩ (rv_4 C hh hj2) rfl hl.1 rfl (Nat.le_of_ble_eq_true rfl) dX6_choose_24 ⟨Nat.zero_le _, Nat.zero_le _⟩) (fun H locs hh => ?_)
    refine lv_if_eq (tgt := 47) hx hb dX6_choose_27 (by decide) (fun c8 => ?_) (fun c8 => ?_)
    · rw [if_pos c8] at h
      exact k_X6_choose_47 C j2 hj2 x3 s6 h hh (lv_sub hl [1, 3, 4] rfl)
    · rw [if_neg c8] at h
      refine lv_aload_n hx hb dX6_choose_30 rfl (lv_at hl 1 rfl) ?_
      refine lv_aload_n hx hb dX6_choose_31 rfl (lv_at hl 2 rfl) ?_
      refine gf_6_108 C hh hj1 dX6_choose_32 ?_
      refine lv_iload_n hx hb dX6_choose_35 rfl (lv_at hl 4 rfl) ?_
      obtain ⟨r11, s10, e9, h⟩ := bn_e h
      refine c_int hh (vrun (rest := []) C hh (c_X6_isFree C.2.2.2.1 (s6 208 j1 0) x3 s6 e9) LM_6_55 IM_X6_isFree SL_X6_isFree IN_6 CD_X6_isFree HD_X6_isFree ⟨rfl, rfl, Nat.le_of_ble_eq_true rfl, Nat.le_of_ble_eq_true rfl⟩ (rv_6 C hh) rfl hl.1 rfl (Nat.le_of_ble_eq_true rfl) dX6_choose_36 ⟨Nat.zero_le _, Nat.zero_le _⟩) (fun H locs hh => ?_)
      refine lv_if_eq (tgt := 47) hx hb dX6_choose_39 (by decide) (fun c12 => ?_) (fun c12 => ?_)
      · rw [if_pos c12] at h
        exact k_X6_choose_47 C j2 hj2 x3 s10 h hh (lv_sub hl [1, 3, 4] rfl)
      · rw [if_neg c12] at h
        refine lv_aload_n hx hb dX6_choose_42 rfl (lv_at hl 2 rfl) ?_
        refine gf_6_108 C hh hj1 dX6_choose_43 ?_
        exact r_int C hh h dX6_choose_46
  · rw [if_neg c4] at h
    refine lv_iload hx hb dX6_choose_16 (lv_at hl 0 rfl) ?_
    exact r_int C hh h dX6_choose_18
