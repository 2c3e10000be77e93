abbrev rm_X7_client : Room := { frames := 6, cells := 1, slots := 6, locals := 90 }
theorem HD_X7_client : yX7_client.cls = RX7 ∧ yX7_client.cls ≠ "java/lang/invoke/MethodHandle" ∧ yX7_client.cls ≠ "java/lang/invoke/VarHandle" ∧ (parseMethodDescriptor yX7_client.desc).map (fun d => d.parameters.length) = some 2 := by decide +kernel
def f_X7_client (x1 : Int32) (x2 : Int32) (σ : Mem) : Option (Int32 × Int32 × Mem) := bn (f_X7_isClient x1 σ) (fun r3 s2 => (if r3 = (0 : Int32) then some ((1 : Int32), (0 : Int32), s2) else gd (vin x1 12) ((if x2 = (0 : Int32) then some ((0 : Int32), (s2 101 ((x1).toNatClampNeg) 0), s2) else if x2 = (1 : Int32) then some ((0 : Int32), (s2 103 ((x1).toNatClampNeg) 0), s2) else if x2 = (2 : Int32) then some ((0 : Int32), (s2 104 ((x1).toNatClampNeg) 0), s2) else if x2 = (3 : Int32) then bn (f_X1_uses ((x1).toNatClampNeg) s2) (fun r12 s11 => (if r12 = (0 : Int32) then some ((0 : Int32), (0 : Int32), s11) else some ((0 : Int32), (s11 103 ((x1).toNatClampNeg) 0), s11))) else if x2 = (4 : Int32) then some ((0 : Int32), (s2 107 ((x1).toNatClampNeg) 0), s2) else if x2 = (5 : Int32) then some ((0 : Int32), (s2 108 ((x1).toNatClampNeg) 0), s2) else if x2 = (6 : Int32) then some ((0 : Int32), (s2 102 ((x1).toNatClampNeg) 0), s2) else some ((4 : Int32), (0 : Int32), s2)))))
set_option maxHeartbeats 4000000 in
set_option maxRecDepth 100000 in
theorem c_X7_client {l : Launch} {D : va_G} {cA : Nat → ClassId} {ad : Nat → Nat → Nat} {A : Nat → Prop} {o : Nat → Int64} (hl0 : l.stackTraces = false) (hD0 : ∀ σ, va_D A (wW cA ad σ o)) (x1 : Int32) (x2 : Int32) (σ : Mem) {r : Int32 × Int32 × Mem} (h : f_X7_client x1 x2 σ = some r) : vx_Met l yX7_client (wsG yX7_client cX7_client 4 (some .int)) rm_X7_client (va_Pc [.ref (ad 799 0), .int x1, .int x2] (IX D cA ad A o σ)) (QTi D cA ad o A r) (XT D cA ad o A r) 1 6 A := by
  refine metX (by decide) (Nat.le_of_ble_eq_true rfl) hD0 hl0 ?_
  intro p e s m args below meth c C Tt ls hh hl
  have C : Cx p s m args meth c cX7_client 4 RX7 (some .int) D cA ad A o := C
  have hl : lv_has ls 4 [(0, .ref (ad 799 0)), (1, .int x1), (2, .int x2)] := hl
  obtain ⟨⟨hx, hb, hml, hown, hts⟩, hK, hN, hD, hr, hlocks⟩ := id C
  unfold f_X7_client at h
  refine lv_iload_n hx hb dX7_client_0 rfl (lv_at hl 1 rfl) ?_
  obtain ⟨r3, s2, e1, h⟩ := bn_e h
  refine c_int hh (srun (rest := []) C hh (c_X7_isClient C.2.2.2.1 x1 σ e1) LM_7_80 ST_X7_isClient IN_7 CD_X7_isClient HD_X7_isClient ⟨rfl, rfl, Nat.le_of_ble_eq_true rfl, Nat.le_of_ble_eq_true rfl⟩ rfl hl.1 rfl (Nat.le_of_ble_eq_true rfl) dX7_client_1 ⟨Nat.zero_le _, Nat.zero_le _⟩) (fun H locs hh => ?_)
  refine lv_if_ne (tgt := 15) hx hb dX7_client_4 (by decide) (fun c4 => ?_) (fun c4 => ?_)
  · rw [if_neg c4] at h
    refine lv_aload_n hx hb dX7_client_15 rfl (lv_at hl 0 rfl) ?_
    refine gf_7_25 C hh dX7_client_16 ?_
    refine lv_iload_n hx hb dX7_client_19 rfl (lv_at hl 1 rfl) ?_
    obtain ⟨b5, h⟩ := gd_e h
    refine al_702 C hh b5 dX7_client_20 ?_
    refine lv_astore_n (lv' := [(3, .ref (ad 199 ((x1).toNatClampNeg))), (0, .ref (ad 799 0)), (1, .int x1), (2, .int x2)]) hx hb dX7_client_21 rfl hl (by decide) rfl (fun ls hl => ?_)
    refine lv_iload_n hx hb dX7_client_22 rfl (lv_at hl 3 rfl) ?_
    by_cases c6 : x2 = (0 : Int32)
    · rw [if_pos c6] at h
      refine lv_tableIn (tgt := 64) hx hb dX7_client_23 (by rw [c6]; decide) (by rw [c6]; decide) (by rw [c6]; rfl) (by decide) ?_
      refine lv_aload_n hx hb dX7_client_64 rfl (lv_at hl 0 rfl) ?_
      refine gf_7_83 C hh (vin_l b5) dX7_client_65 ?_
      exact t_int C hh h dX7_client_68
    · rw [if_neg c6] at h
      by_cases c7 : x2 = (1 : Int32)
      · rw [if_pos c7] at h
        refine lv_tableIn (tgt := 69) hx hb dX7_client_23 (by rw [c7]; decide) (by rw [c7]; decide) (by rw [c7]; rfl) (by decide) ?_
        refine lv_aload_n hx hb dX7_client_69 rfl (lv_at hl 0 rfl) ?_
        refine gf_7_164 C hh (vin_l b5) dX7_client_70 ?_
        exact t_int C hh h dX7_client_73
      · rw [if_neg c7] at h
        by_cases c8 : x2 = (2 : Int32)
        · rw [if_pos c8] at h
          refine lv_tableIn (tgt := 74) hx hb dX7_client_23 (by rw [c8]; decide) (by rw [c8]; decide) (by rw [c8]; rfl) (by decide) ?_
          refine lv_aload_n hx hb dX7_client_74 rfl (lv_at hl 0 rfl) ?_
          refine gf_7_167 C hh (vin_l b5) dX7_client_75 ?_
          exact t_int C hh h dX7_client_78
        · rw [if_neg c8] at h
          by_cases c9 : x2 = (3 : Int32)
          · rw [if_pos c9] at h
            refine lv_tableIn (tgt := 79) hx hb dX7_client_23 (by rw [c9]; decide) (by rw [c9]; decide) (by rw [c9]; rfl) (by decide) ?_
            refine lv_aload_n hx hb dX7_client_79 rfl (lv_at hl 0 rfl) ?_
            obtain ⟨r12, s11, e10, h⟩ := bn_e h
            refine c_int hh (vrun (rest := []) C hh (c_X1_uses C.2.2.2.1 ((x1).toNatClampNeg) (vin_l b5) s2 e10) LM_7_170 IM_X1_uses SL_X1_uses IN_1 CD_X1_uses HD_X1_uses ⟨rfl, rfl, Nat.le_of_ble_eq_true rfl, Nat.le_of_ble_eq_true rfl⟩ (rv_1 C hh (vin_l b5)) rfl hl.1 rfl (Nat.le_of_ble_eq_true rfl) dX7_client_80 ⟨Nat.zero_le _, Nat.zero_le _⟩) (fun H locs hh => ?_)
            refine lv_if_eq (tgt := 93) hx hb dX7_client_83 (by decide) (fun c13 => ?_) (fun c13 => ?_)
            · rw [if_pos c13] at h
              refine lv_iconst (v := (0 : Int32)) hx hb dX7_client_93 (by decide) ?_
              exact t_int C hh h dX7_client_94
            · rw [if_neg c13] at h
              refine lv_aload_n hx hb dX7_client_86 rfl (lv_at hl 0 rfl) ?_
              refine gf_7_164 C hh (vin_l b5) dX7_client_87 ?_
              refine lv_goto (tgt := 94) hx hb dX7_client_90 (by decide) ?_
              exact t_int C hh h dX7_client_94
          · rw [if_neg c9] at h
            by_cases c14 : x2 = (4 : Int32)
            · rw [if_pos c14] at h
              refine lv_tableIn (tgt := 95) hx hb dX7_client_23 (by rw [c14]; decide) (by rw [c14]; decide) (by rw [c14]; rfl) (by decide) ?_
              refine lv_aload_n hx hb dX7_client_95 rfl (lv_at hl 0 rfl) ?_
              refine gf_7_174 C hh (vin_l b5) dX7_client_96 ?_
              exact t_int C hh h dX7_client_99
            · rw [if_neg c14] at h
              by_cases c15 : x2 = (5 : Int32)
              · rw [if_pos c15] at h
                refine lv_tableIn (tgt := 100) hx hb dX7_client_23 (by rw [c15]; decide) (by rw [c15]; decide) (by rw [c15]; rfl) (by decide) ?_
                refine lv_aload_n hx hb dX7_client_100 rfl (lv_at hl 0 rfl) ?_
                refine gf_7_177 C hh (vin_l b5) dX7_client_101 ?_
                exact t_int C hh h dX7_client_104
              · rw [if_neg c15] at h
                by_cases c16 : x2 = (6 : Int32)
                · rw [if_pos c16] at h
                  refine lv_tableIn (tgt := 105) hx hb dX7_client_23 (by rw [c16]; decide) (by rw [c16]; decide) (by rw [c16]; rfl) (by decide) ?_
                  refine lv_aload_n hx hb dX7_client_105 rfl (lv_at hl 0 rfl) ?_
                  refine gf_7_180 C hh (vin_l b5) dX7_client_106 ?_
                  exact t_int C hh h dX7_client_109
                · rw [if_neg c16] at h
                  have nc6 := ntI c6 (n := 0) (by decide)
                  have nc7 := ntI c7 (n := 1) (by decide)
                  have nc8 := ntI c8 (n := 2) (by decide)
                  have nc9 := ntI c9 (n := 3) (by decide)
                  have nc14 := ntI c14 (n := 4) (by decide)
                  have nc15 := ntI c15 (n := 5) (by decide)
                  have nc16 := ntI c16 (n := 6) (by decide)
                  refine lv_tableOut (tgt := 110) hx hb dX7_client_23 (by omega) (by decide) ?_
                  exact thr_4 C Tt hh hl.1 h dX7_client_110 dX7_client_113 dX7_client_114 dX7_client_117 ⟨Nat.le_of_ble_eq_true rfl, Nat.le_of_ble_eq_true rfl, Nat.le_of_ble_eq_true rfl, Nat.le_of_ble_eq_true rfl⟩
  · rw [if_pos c4] at h
    exact thr_1 C Tt hh hl.1 h dX7_client_7 dX7_client_10 dX7_client_11 dX7_client_14 ⟨Nat.le_of_ble_eq_true rfl, Nat.le_of_ble_eq_true rfl, Nat.le_of_ble_eq_true rfl, Nat.le_of_ble_eq_true rfl⟩
abbrev rm_X7_record : Room := { frames := 6, cells := 1, slots := 6, locals := 90 }
theorem HD_X7_record : yX7_record.cls = RX7 ∧ yX7_record.cls ≠ "java/lang/invoke/MethodHandle" ∧ yX7_record.cls ≠ "java/lang/invoke/VarHandle" ∧ (parseMethodDescriptor yX7_record.desc).map (fun d => d.parameters.length) = some 2 := by decide +kernel
def f_X7_record (x1 : Int32) (x2 : Int32) (σ : Mem) : Option (Int32 × Int32 × Mem) := bn (f_X7_isAddress x1 σ) (fun r3 s2 => (if r3 = (0 : Int32) then some ((4 : Int32), (0 : Int32), s2) else (if x2 = (0 : Int32) then gd (vin x1 1024) (some ((0 : Int32), (s2 602 0 (x1).toNatClampNeg), s2)) else if x2 = (1 : Int32) then gd (vin x1 1024) (some ((0 : Int32), (s2 603 0 (x1).toNatClampNeg), s2)) else if x2 = (2 : Int32) then gd (vin x1 1024) (some ((0 : Int32), (s2 604 0 (x1).toNatClampNeg), s2)) else some ((4 : Int32), (0 : Int32), s2))))
set_option maxHeartbeats 4000000 in
set_option maxRecDepth 100000 in
theorem c_X7_record {l : Launch} {D : va_G} {cA : Nat → ClassId} {ad : Nat → Nat → Nat} {A : Nat → Prop} {o : Nat → Int64} (hl0 : l.stackTraces = false) (hD0 : ∀ σ, va_D A (wW cA ad σ o)) (x1 : Int32) (x2 : Int32) (σ : Mem) {r : Int32 × Int32 × Mem} (h : f_X7_record x1 x2 σ = some r) : vx_Met l yX7_record (wsG yX7_record cX7_record 3 (some .int)) rm_X7_record (va_Pc [.ref (ad 799 0), .int x1, .int x2] (IX D cA ad A o σ)) (QTi D cA ad o A r) (XT D cA ad o A r) 1 6 A := by
  refine metX (by decide) (Nat.le_of_ble_eq_true rfl) hD0 hl0 ?_
  intro p e s m args below meth c C Tt ls hh hl
  have C : Cx p s m args meth c cX7_record 3 RX7 (some .int) D cA ad A o := C
  have hl : lv_has ls 3 [(0, .ref (ad 799 0)), (1, .int x1), (2, .int x2)] := hl
  obtain ⟨⟨hx, hb, hml, hown, hts⟩, hK, hN, hD, hr, hlocks⟩ := id C
  unfold f_X7_record at h
  refine lv_iload_n hx hb dX7_record_0 rfl (lv_at hl 1 rfl) ?_
  obtain ⟨r3, s2, e1, h⟩ := bn_e h
  refine c_int hh (srun (rest := []) C hh (c_X7_isAddress C.2.2.2.1 x1 σ e1) LM_7_101 ST_X7_isAddress IN_7 CD_X7_isAddress HD_X7_isAddress ⟨rfl, rfl, Nat.le_of_ble_eq_true rfl, Nat.le_of_ble_eq_true rfl⟩ rfl hl.1 rfl (Nat.le_of_ble_eq_true rfl) dX7_record_1 ⟨Nat.zero_le _, Nat.zero_le _⟩) (fun H locs hh => ?_)
  refine lv_if_ne (tgt := 15) hx hb dX7_record_4 (by decide) (fun c4 => ?_) (fun c4 => ?_)
  · rw [if_neg c4] at h
    refine lv_iload_n hx hb dX7_record_15 rfl (lv_at hl 2 rfl) ?_
    by_cases c5 : x2 = (0 : Int32)
    · rw [if_pos c5] at h
      refine lv_tableIn (tgt := 44) hx hb dX7_record_16 (by rw [c5]; decide) (by rw [c5]; decide) (by rw [c5]; rfl) (by decide) ?_
      refine lv_aload_n hx hb dX7_record_44 rfl (lv_at hl 0 rfl) ?_
      refine gf_7_19 C hh dX7_record_45 ?_
      refine gf_7_183 C hh dX7_record_48 ?_
      refine lv_iload_n hx hb dX7_record_51 rfl (lv_at hl 1 rfl) ?_
      obtain ⟨b6, h⟩ := gd_e h
      refine al_602 C hh b6 dX7_record_52 ?_
      exact t_int C hh h dX7_record_53
    · rw [if_neg c5] at h
      by_cases c7 : x2 = (1 : Int32)
      · rw [if_pos c7] at h
        refine lv_tableIn (tgt := 54) hx hb dX7_record_16 (by rw [c7]; decide) (by rw [c7]; decide) (by rw [c7]; rfl) (by decide) ?_
        refine lv_aload_n hx hb dX7_record_54 rfl (lv_at hl 0 rfl) ?_
        refine gf_7_19 C hh dX7_record_55 ?_
        refine gf_7_186 C hh dX7_record_58 ?_
        refine lv_iload_n hx hb dX7_record_61 rfl (lv_at hl 1 rfl) ?_
        obtain ⟨b8, h⟩ := gd_e h
        refine al_603 C hh b8 dX7_record_62 ?_
        exact t_int C hh h dX7_record_63
      · rw [if_neg c7] at h
        by_cases c9 : x2 = (2 : Int32)
        · rw [if_pos c9] at h
          refine lv_tableIn (tgt := 64) hx hb dX7_record_16 (by rw [c9]; decide) (by rw [c9]; decide) (by rw [c9]; rfl) (by decide) ?_
          refine lv_aload_n hx hb dX7_record_64 rfl (lv_at hl 0 rfl) ?_
          refine gf_7_19 C hh dX7_record_65 ?_
          refine gf_7_189 C hh dX7_record_68 ?_
          refine lv_iload_n hx hb dX7_record_71 rfl (lv_at hl 1 rfl) ?_
          obtain ⟨b10, h⟩ := gd_e h
          refine al_604 C hh b10 dX7_record_72 ?_
          exact t_int C hh h dX7_record_73
        · rw [if_neg c9] at h
          have nc5 := ntI c5 (n := 0) (by decide)
          have nc7 := ntI c7 (n := 1) (by decide)
          have nc9 := ntI c9 (n := 2) (by decide)
          refine lv_tableOut (tgt := 74) hx hb dX7_record_16 (by omega) (by decide) ?_
          exact thr_4 C Tt hh hl.1 h dX7_record_74 dX7_record_77 dX7_record_78 dX7_record_81 ⟨Nat.le_of_ble_eq_true rfl, Nat.le_of_ble_eq_true rfl, Nat.le_of_ble_eq_true rfl, Nat.le_of_ble_eq_true rfl⟩
  · rw [if_pos c4] at h
    exact thr_4 C Tt hh hl.1 h dX7_record_7 dX7_record_10 dX7_record_11 dX7_record_14 ⟨Nat.le_of_ble_eq_true rfl, Nat.le_of_ble_eq_true rfl, Nat.le_of_ble_eq_true rfl, Nat.le_of_ble_eq_true rfl⟩
abbrev rm_X7_count : Room := { frames := 6, cells := 1, slots := 6, locals := 90 }
theorem HD_X7_count : yX7_count.cls = RX7 ∧ yX7_count.cls ≠ "java/lang/invoke/MethodHandle" ∧ yX7_count.cls ≠ "java/lang/invoke/VarHandle" ∧ (parseMethodDescriptor yX7_count.desc).map (fun d => d.parameters.length) = some 1 := by decide +kernel
def f_X7_count (x1 : Int32) (σ : Mem) : Option (Int32 × Int32 × Mem) := (if x1 = (0 : Int32) then some ((0 : Int32), (σ 708 0 0), σ) else if x1 = (1 : Int32) then some ((0 : Int32), (σ 502 0 0), σ) else if x1 = (2 : Int32) then bn (f_X6_recordsKept σ) (fun r6 s5 => some ((0 : Int32), r6, s5)) else if x1 = (3 : Int32) then (if (σ 600 0 0) = (0 : Int32) then some ((0 : Int32), (0 : Int32), σ) else some ((0 : Int32), (1 : Int32), σ)) else if x1 = (4 : Int32) then bn (f_X6_freeInPools (σ 708 0 0) σ) (fun r12 s11 => some ((0 : Int32), r12, s11)) else some ((4 : Int32), (0 : Int32), σ))
set_option maxHeartbeats 4000000 in
set_option maxRecDepth 100000 in
theorem c_X7_count {l : Launch} {D : va_G} {cA : Nat → ClassId} {ad : Nat → Nat → Nat} {A : Nat → Prop} {o : Nat → Int64} (hl0 : l.stackTraces = false) (hD0 : ∀ σ, va_D A (wW cA ad σ o)) (x1 : Int32) (σ : Mem) {r : Int32 × Int32 × Mem} (h : f_X7_count x1 σ = some r) : vx_Met l yX7_count (wsG yX7_count cX7_count 2 (some .int)) rm_X7_count (va_Pc [.ref (ad 799 0), .int x1] (IX D cA ad A o σ)) (QTi D cA ad o A r) (XT D cA ad o A r) 1 6 A := by
  refine metX (by decide) (Nat.le_of_ble_eq_true rfl) hD0 hl0 ?_
  intro p e s m args below meth c C Tt ls hh hl
  have C : Cx p s m args meth c cX7_count 2 RX7 (some .int) D cA ad A o := C
  have hl : lv_has ls 2 [(0, .ref (ad 799 0)), (1, .int x1)] := hl
  obtain ⟨⟨hx, hb, hml, hown, hts⟩, hK, hN, hD, hr, hlocks⟩ := id C
  unfold f_X7_count at h
  refine lv_iload_n hx hb dX7_count_0 rfl (lv_at hl 1 rfl) ?_
  by_cases c1 : x1 = (0 : Int32)
  · rw [if_pos c1] at h
    refine lv_tableIn (tgt := 36) hx hb dX7_count_1 (by rw [c1]; decide) (by rw [c1]; decide) (by rw [c1]; rfl) (by decide) ?_
    refine lv_aload_n hx hb dX7_count_36 rfl (lv_at hl 0 rfl) ?_
    refine gf_7_53 C hh dX7_count_37 ?_
    exact t_int C hh h dX7_count_40
  · rw [if_neg c1] at h
    by_cases c2 : x1 = (1 : Int32)
    · rw [if_pos c2] at h
      refine lv_tableIn (tgt := 41) hx hb dX7_count_1 (by rw [c2]; decide) (by rw [c2]; decide) (by rw [c2]; rfl) (by decide) ?_
      refine lv_aload_n hx hb dX7_count_41 rfl (lv_at hl 0 rfl) ?_
      refine gf_7_10 C hh dX7_count_42 ?_
      refine gf_7_192 C hh dX7_count_45 ?_
      exact t_int C hh h dX7_count_48
    · rw [if_neg c2] at h
      by_cases c3 : x1 = (2 : Int32)
      · rw [if_pos c3] at h
        refine lv_tableIn (tgt := 49) hx hb dX7_count_1 (by rw [c3]; decide) (by rw [c3]; decide) (by rw [c3]; rfl) (by decide) ?_
        refine lv_aload_n hx hb dX7_count_49 rfl (lv_at hl 0 rfl) ?_
        refine gf_7_19 C hh dX7_count_50 ?_
        obtain ⟨r6, s5, e4, h⟩ := bn_e h
        refine c_int hh (vrun (rest := []) C hh (c_X6_recordsKept C.2.2.2.1 σ e4) LM_7_195 IM_X6_recordsKept SL_X6_recordsKept IN_6 CD_X6_recordsKept HD_X6_recordsKept ⟨rfl, rfl, Nat.le_of_ble_eq_true rfl, Nat.le_of_ble_eq_true rfl⟩ (rv_6 C hh) rfl hl.1 rfl (Nat.le_of_ble_eq_true rfl) dX7_count_53 ⟨Nat.zero_le _, Nat.zero_le _⟩) (fun H locs hh => ?_)
        exact t_int C hh h dX7_count_56
      · rw [if_neg c3] at h
        by_cases c7 : x1 = (3 : Int32)
        · rw [if_pos c7] at h
          refine lv_tableIn (tgt := 57) hx hb dX7_count_1 (by rw [c7]; decide) (by rw [c7]; decide) (by rw [c7]; rfl) (by decide) ?_
          refine lv_aload_n hx hb dX7_count_57 rfl (lv_at hl 0 rfl) ?_
          refine gf_7_19 C hh dX7_count_58 ?_
          refine gf_7_104 C hh dX7_count_61 ?_
          refine lv_if_eq (tgt := 71) hx hb dX7_count_64 (by decide) (fun c8 => ?_) (fun c8 => ?_)
          · rw [if_pos c8] at h
            refine lv_iconst (v := (0 : Int32)) hx hb dX7_count_71 (by decide) ?_
            exact t_int C hh h dX7_count_72
          · rw [if_neg c8] at h
            refine lv_iconst (v := (1 : Int32)) hx hb dX7_count_67 (by decide) ?_
            refine lv_goto (tgt := 72) hx hb dX7_count_68 (by decide) ?_
            exact t_int C hh h dX7_count_72
        · rw [if_neg c7] at h
          by_cases c9 : x1 = (4 : Int32)
          · rw [if_pos c9] at h
            refine lv_tableIn (tgt := 73) hx hb dX7_count_1 (by rw [c9]; decide) (by rw [c9]; decide) (by rw [c9]; rfl) (by decide) ?_
            refine lv_aload_n hx hb dX7_count_73 rfl (lv_at hl 0 rfl) ?_
            refine gf_7_19 C hh dX7_count_74 ?_
            refine lv_aload_n hx hb dX7_count_77 rfl (lv_at hl 0 rfl) ?_
            refine gf_7_53 C hh dX7_count_78 ?_
            obtain ⟨r12, s11, e10, h⟩ := bn_e h
            refine c_int hh (vrun (rest := []) C hh (c_X6_freeInPools C.2.2.2.1 (σ 708 0 0) σ e10) LM_7_199 IM_X6_freeInPools SL_X6_freeInPools IN_6 CD_X6_freeInPools HD_X6_freeInPools ⟨rfl, rfl, Nat.le_of_ble_eq_true rfl, Nat.le_of_ble_eq_true rfl⟩ (rv_6 C hh) rfl hl.1 rfl (Nat.le_of_ble_eq_true rfl) dX7_count_81 ⟨Nat.zero_le _, Nat.zero_le _⟩) (fun H locs hh => ?_)
            exact t_int C hh h dX7_count_84
          · rw [if_neg c9] at h
            have nc1 := ntI c1 (n := 0) (by decide)
            have nc2 := ntI c2 (n := 1) (by decide)
            have nc3 := ntI c3 (n := 2) (by decide)
            have nc7 := ntI c7 (n := 3) (by decide)
            have nc9 := ntI c9 (n := 4) (by decide)
            refine lv_tableOut (tgt := 85) hx hb dX7_count_1 (by omega) (by decide) ?_
            exact thr_4 C Tt hh hl.1 h dX7_count_85 dX7_count_88 dX7_count_89 dX7_count_92 ⟨Nat.le_of_ble_eq_true rfl, Nat.le_of_ble_eq_true rfl, Nat.le_of_ble_eq_true rfl, Nat.le_of_ble_eq_true rfl⟩
