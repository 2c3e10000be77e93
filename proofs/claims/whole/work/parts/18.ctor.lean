theorem LO_7 : Cond.methodLink RX7 1 objectInit ∈ Gw := gwm 95 (by decide +kernel) (by decide +kernel)
theorem LK_7_7 : Cond.classLink RX7 7 RX5 ∈ Gw := gwm 98 (by decide +kernel) (by decide +kernel)
theorem LO_5 : Cond.methodLink RX5 3 objectInit ∈ Gw := gwm 103 (by decide +kernel) (by decide +kernel)
theorem LK_5_9 : Cond.classLink RX5 9 RX3 ∈ Gw := gwm 104 (by decide +kernel) (by decide +kernel)
theorem LO_3 : Cond.methodLink RX3 3 objectInit ∈ Gw := gwm 110 (by decide +kernel) (by decide +kernel)
theorem LK_3_9 : Cond.classLink RX3 9 RX0 ∈ Gw := gwm 111 (by decide +kernel) (by decide +kernel)
theorem LO_0 : Cond.methodLink RX0 3 objectInit ∈ Gw := gwm 116 (by decide +kernel) (by decide +kernel)
theorem LK_7_16 : Cond.classLink RX7 16 RX6 ∈ Gw := gwm 153 (by decide +kernel) (by decide +kernel)
theorem LO_6 : Cond.methodLink RX6 3 objectInit ∈ Gw := gwm 158 (by decide +kernel) (by decide +kernel)
theorem LK_6_15 : Cond.classLink RX6 15 RX4 ∈ Gw := gwm 159 (by decide +kernel) (by decide +kernel)
theorem LO_4 : Cond.methodLink RX4 3 objectInit ∈ Gw := gwm 165 (by decide +kernel) (by decide +kernel)
theorem LK_7_23 : Cond.classLink RX7 23 RX1 ∈ Gw := gwm 207 (by decide +kernel) (by decide +kernel)
theorem LK_7_33 : Cond.classLink RX7 33 RX0 ∈ Gw := gwm 209 (by decide +kernel) (by decide +kernel)
theorem LK_7_43 : Cond.classLink RX7 43 RX2 ∈ Gw := gwm 211 (by decide +kernel) (by decide +kernel)
theorem LO_2 : Cond.methodLink RX2 3 objectInit ∈ Gw := gwm 216 (by decide +kernel) (by decide +kernel)
theorem LO_1 : Cond.methodLink RX1 3 objectInit ∈ Gw := gwm 280 (by decide +kernel) (by decide +kernel)
theorem LO_8 : Cond.methodLink RX8 1 objectInit ∈ Gw := gwm 833 (by decide +kernel) (by decide +kernel)
theorem IS_0 : Cond.instantiable RX0 2 ∈ Gw := gwm 112 (by decide +kernel) (by decide +kernel)
theorem CD_X0_init : Cond.code yX0_init cX0_init 1 none ∈ Gw := gwm 115 (by decide +kernel) (by decide +kernel)
theorem IM_X0_init : Cond.instanceMethod yX0_init ∈ Gw := gwm 114 (by decide +kernel) (by decide +kernel)
theorem HD_X0_init : yX0_init.cls ≠ "java/lang/invoke/MethodHandle" ∧ yX0_init.cls ≠ "java/lang/invoke/VarHandle" ∧ (parseMethodDescriptor yX0_init.desc).map (fun d => d.parameters.length) = some 0 := by decide +kernel
abbrev df0 : List Value := [.null, .int 0]
theorem dfo0 : ∀ j, j < 2 → defaultValue (tyX0 j) = vp_V df0 j := by
  intro j hj
  match j, hj with
  | 0, _ => rfl
  | 1, _ => rfl
  | j + 2, hj => omega
theorem IS_1 : Cond.instantiable RX1 12 ∈ Gw := gwm 276 (by decide +kernel) (by decide +kernel)
theorem CD_X1_init : Cond.code yX1_init cX1_init 2 none ∈ Gw := gwm 279 (by decide +kernel) (by decide +kernel)
theorem IM_X1_init : Cond.instanceMethod yX1_init ∈ Gw := gwm 278 (by decide +kernel) (by decide +kernel)
theorem HD_X1_init : yX1_init.cls ≠ "java/lang/invoke/MethodHandle" ∧ yX1_init.cls ≠ "java/lang/invoke/VarHandle" ∧ (parseMethodDescriptor yX1_init.desc).map (fun d => d.parameters.length) = some 1 := by decide +kernel
abbrev df1 : List Value := [.int 0, .int 0, .int 0, .int 0, .int 0, .int 0, .int 0, .int 0, .int 0, .int 0, .int 0, .int 0]
theorem dfo1 : ∀ j, j < 12 → defaultValue (tyX1 j) = vp_V df1 j := by
  intro j hj
  match j, hj with
  | 0, _ => rfl
  | 1, _ => rfl
  | 2, _ => rfl
  | 3, _ => rfl
  | 4, _ => rfl
  | 5, _ => rfl
  | 6, _ => rfl
  | 7, _ => rfl
  | 8, _ => rfl
  | 9, _ => rfl
  | 10, _ => rfl
  | 11, _ => rfl
  | j + 12, hj => omega
theorem IS_2 : Cond.instantiable RX2 11 ∈ Gw := gwm 212 (by decide +kernel) (by decide +kernel)
theorem CD_X2_init : Cond.code yX2_init cX2_init 1 none ∈ Gw := gwm 215 (by decide +kernel) (by decide +kernel)
theorem IM_X2_init : Cond.instanceMethod yX2_init ∈ Gw := gwm 214 (by decide +kernel) (by decide +kernel)
theorem HD_X2_init : yX2_init.cls ≠ "java/lang/invoke/MethodHandle" ∧ yX2_init.cls ≠ "java/lang/invoke/VarHandle" ∧ (parseMethodDescriptor yX2_init.desc).map (fun d => d.parameters.length) = some 0 := by decide +kernel
abbrev df2 : List Value := [.int 0, .int 0, .int 0, .int 0, .int 0, .int 0, .int 0, .int 0, .int 0, .int 0, .int 0]
theorem dfo2 : ∀ j, j < 11 → defaultValue (tyX2 j) = vp_V df2 j := by
  intro j hj
  match j, hj with
  | 0, _ => rfl
  | 1, _ => rfl
  | 2, _ => rfl
  | 3, _ => rfl
  | 4, _ => rfl
  | 5, _ => rfl
  | 6, _ => rfl
  | 7, _ => rfl
  | 8, _ => rfl
  | 9, _ => rfl
  | 10, _ => rfl
  | j + 11, hj => omega
theorem IS_3 : Cond.instantiable RX3 2 ∈ Gw := gwm 106 (by decide +kernel) (by decide +kernel)
theorem CD_X3_init : Cond.code yX3_init cX3_init 1 none ∈ Gw := gwm 109 (by decide +kernel) (by decide +kernel)
theorem IM_X3_init : Cond.instanceMethod yX3_init ∈ Gw := gwm 108 (by decide +kernel) (by decide +kernel)
theorem HD_X3_init : yX3_init.cls ≠ "java/lang/invoke/MethodHandle" ∧ yX3_init.cls ≠ "java/lang/invoke/VarHandle" ∧ (parseMethodDescriptor yX3_init.desc).map (fun d => d.parameters.length) = some 0 := by decide +kernel
abbrev df3 : List Value := [.null, .int 0]
theorem dfo3 : ∀ j, j < 2 → defaultValue (tyX3 j) = vp_V df3 j := by
  intro j hj
  match j, hj with
  | 0, _ => rfl
  | 1, _ => rfl
  | j + 2, hj => omega
theorem IS_4 : Cond.instantiable RX4 3 ∈ Gw := gwm 161 (by decide +kernel) (by decide +kernel)
theorem CD_X4_init : Cond.code yX4_init cX4_init 1 none ∈ Gw := gwm 164 (by decide +kernel) (by decide +kernel)
theorem IM_X4_init : Cond.instanceMethod yX4_init ∈ Gw := gwm 163 (by decide +kernel) (by decide +kernel)
theorem HD_X4_init : yX4_init.cls ≠ "java/lang/invoke/MethodHandle" ∧ yX4_init.cls ≠ "java/lang/invoke/VarHandle" ∧ (parseMethodDescriptor yX4_init.desc).map (fun d => d.parameters.length) = some 0 := by decide +kernel
abbrev df4 : List Value := [.int 0, .int 0, .int 0]
theorem dfo4 : ∀ j, j < 3 → defaultValue (tyX4 j) = vp_V df4 j := by
  intro j hj
  match j, hj with
  | 0, _ => rfl
  | 1, _ => rfl
  | 2, _ => rfl
  | j + 3, hj => omega
theorem IS_5 : Cond.instantiable RX5 3 ∈ Gw := gwm 99 (by decide +kernel) (by decide +kernel)
theorem CD_X5_init : Cond.code yX5_init cX5_init 2 none ∈ Gw := gwm 102 (by decide +kernel) (by decide +kernel)
theorem IM_X5_init : Cond.instanceMethod yX5_init ∈ Gw := gwm 101 (by decide +kernel) (by decide +kernel)
theorem HD_X5_init : yX5_init.cls ≠ "java/lang/invoke/MethodHandle" ∧ yX5_init.cls ≠ "java/lang/invoke/VarHandle" ∧ (parseMethodDescriptor yX5_init.desc).map (fun d => d.parameters.length) = some 0 := by decide +kernel
abbrev df5 : List Value := [.null, .int 0, .int 0]
theorem dfo5 : ∀ j, j < 3 → defaultValue (tyX5 j) = vp_V df5 j := by
  intro j hj
  match j, hj with
  | 0, _ => rfl
  | 1, _ => rfl
  | 2, _ => rfl
  | j + 3, hj => omega
theorem IS_6 : Cond.instantiable RX6 6 ∈ Gw := gwm 154 (by decide +kernel) (by decide +kernel)
theorem CD_X6_init : Cond.code yX6_init cX6_init 2 none ∈ Gw := gwm 157 (by decide +kernel) (by decide +kernel)
theorem IM_X6_init : Cond.instanceMethod yX6_init ∈ Gw := gwm 156 (by decide +kernel) (by decide +kernel)
theorem HD_X6_init : yX6_init.cls ≠ "java/lang/invoke/MethodHandle" ∧ yX6_init.cls ≠ "java/lang/invoke/VarHandle" ∧ (parseMethodDescriptor yX6_init.desc).map (fun d => d.parameters.length) = some 0 := by decide +kernel
abbrev df6 : List Value := [.int 0, .null, .null, .null, .null, .null]
theorem dfo6 : ∀ j, j < 6 → defaultValue (tyX6 j) = vp_V df6 j := by
  intro j hj
  match j, hj with
  | 0, _ => rfl
  | 1, _ => rfl
  | 2, _ => rfl
  | 3, _ => rfl
  | 4, _ => rfl
  | 5, _ => rfl
  | j + 6, hj => omega
theorem IS_7 : Cond.instantiable RX7 9 ∈ Gw := gwm 91 (by decide +kernel) (by decide +kernel)
theorem CD_X7_init : Cond.code yX7_init cX7_init 2 none ∈ Gw := gwm 94 (by decide +kernel) (by decide +kernel)
theorem IM_X7_init : Cond.instanceMethod yX7_init ∈ Gw := gwm 93 (by decide +kernel) (by decide +kernel)
theorem HD_X7_init : yX7_init.cls ≠ "java/lang/invoke/MethodHandle" ∧ yX7_init.cls ≠ "java/lang/invoke/VarHandle" ∧ (parseMethodDescriptor yX7_init.desc).map (fun d => d.parameters.length) = some 0 := by decide +kernel
abbrev df7 : List Value := [.null, .null, .null, .null, .null, .null, .null, .null, .int 0]
theorem dfo7 : ∀ j, j < 9 → defaultValue (tyX7 j) = vp_V df7 j := by
  intro j hj
  match j, hj with
  | 0, _ => rfl
  | 1, _ => rfl
  | 2, _ => rfl
  | 3, _ => rfl
  | 4, _ => rfl
  | 5, _ => rfl
  | 6, _ => rfl
  | 7, _ => rfl
  | 8, _ => rfl
  | j + 9, hj => omega
theorem IS_8 : Cond.instantiable RX8 37 ∈ Gw := gwm 829 (by decide +kernel) (by decide +kernel)
theorem CD_X8_init : Cond.code yX8_init cX8_init 1 none ∈ Gw := gwm 832 (by decide +kernel) (by decide +kernel)
theorem IM_X8_init : Cond.instanceMethod yX8_init ∈ Gw := gwm 831 (by decide +kernel) (by decide +kernel)
theorem HD_X8_init : yX8_init.cls ≠ "java/lang/invoke/MethodHandle" ∧ yX8_init.cls ≠ "java/lang/invoke/VarHandle" ∧ (parseMethodDescriptor yX8_init.desc).map (fun d => d.parameters.length) = some 0 := by decide +kernel
abbrev df8 : List Value := [.int 0, .int 0, .null, .null, .null, .null, .int 0, .null, .null, .null, .null, .null, .null, .null, .null, .null, .null, .null, .null, .null, .null, .null, .null, .int 0, .int 0, .null, .null, .null, .int 0, .null, .int 0, .null, .int 0, .int 0, .int 0, .int 0, .int 0]
theorem dfo8 : ∀ j, j < 37 → defaultValue (tyX8 j) = vp_V df8 j := by
  intro j hj
  match j, hj with
  | 0, _ => rfl
  | 1, _ => rfl
  | 2, _ => rfl
  | 3, _ => rfl
  | 4, _ => rfl
  | 5, _ => rfl
  | 6, _ => rfl
  | 7, _ => rfl
  | 8, _ => rfl
  | 9, _ => rfl
  | 10, _ => rfl
  | 11, _ => rfl
  | 12, _ => rfl
  | 13, _ => rfl
  | 14, _ => rfl
  | 15, _ => rfl
  | 16, _ => rfl
  | 17, _ => rfl
  | 18, _ => rfl
  | 19, _ => rfl
  | 20, _ => rfl
  | 21, _ => rfl
  | 22, _ => rfl
  | 23, _ => rfl
  | 24, _ => rfl
  | 25, _ => rfl
  | 26, _ => rfl
  | 27, _ => rfl
  | 28, _ => rfl
  | 29, _ => rfl
  | 30, _ => rfl
  | 31, _ => rfl
  | 32, _ => rfl
  | 33, _ => rfl
  | 34, _ => rfl
  | 35, _ => rfl
  | 36, _ => rfl
  | j + 37, hj => omega
theorem AC_i : Cond.arrayClass .int ∈ Gw := gwm 128 (by decide +kernel) (by decide +kernel)
theorem AC_z : Cond.arrayClass .boolean ∈ Gw := gwm 275 (by decide +kernel) (by decide +kernel)
theorem AC_j : Cond.arrayClass .long ∈ Gw := gwm 1215 (by decide +kernel) (by decide +kernel)
theorem IO : Cond.instanceMethod objectInit ∈ Gw := gwm 96 (by decide +kernel) (by decide +kernel)
theorem CO : Cond.code objectInit ⟨#[0xb1]⟩ 1 none ∈ Gw := gwm 97 (by decide +kernel) (by decide +kernel)
theorem FL_link : Cond.methodLink RX6 35 yJ7_fill_53178 ∈ Gw := gwm 179 (by decide +kernel) (by decide +kernel)
theorem FL_st : Cond.static yJ7_fill_53178 ∈ Gw := gwm 180 (by decide +kernel) (by decide +kernel)
theorem FL_cd : Cond.code yJ7_fill_53178 cJ7_fill_53178 4 none ∈ Gw := gwm 181 (by decide +kernel) (by decide +kernel)
theorem FL_in : Cond.initialized "java/util/Arrays" ∈ Gw := gwm 77 (by decide +kernel) (by decide +kernel)
abbrev ri_0 : Room := { frames := 1, cells := 1, slots := 60, locals := 12 }
set_option maxHeartbeats 4000000 in
set_option maxRecDepth 100000 in
theorem ci_0 {l : Launch} {D : va_G} {cA : Nat → ClassId} {B n : Nat} {F : Nat → va_E} {k : Nat} (hk : k < n) (hF : F k = .inr (0, df0)) : Met l yX0_init (wsG yX0_init cX0_init 1 none) ri_0 (va_Pc [.ref (B + k)] (IB D cA B n F)) (QB D cA B (n + 1) (fun G => G (k) = .inr (0, [.ref (B + (n)), .int 0]) ∧ G (n) = ari cA 60 ∧ ∀ i, i < n ∧ i ≠ k → G i = F i)) 1 60 (fun q => B ≤ q) := by
  refine metB (by decide) rfl (Nat.le_of_ble_eq_true rfl) ?_
  intro p e s m args below meth c C ls hh hl
  have C : Cb p s m args meth c cX0_init 1 RX0 D cA B := C
  have hl : lv_has ls 1 [(0, .ref (B + k))] := hl
  obtain ⟨⟨hx, hb, hml, hown, hts⟩, hK, hN, hB, hr, hlocks, hin⟩ := id C
  have fr : ∀ i, i < n ∧ i ≠ k → F i = F i := fun _ _ => rfl
  refine lv_aload_n hx hb dX0_init_0 rfl (lv_at hl 0 rfl) ?_
  refine b_obj C LO_0 IO CO hl.1 (Nat.le_of_ble_eq_true rfl) (Nat.le_of_ble_eq_true rfl) dX0_init_1 ?_
  refine lv_aload_n hx hb dX0_init_4 rfl (lv_at hl 0 rfl) ?_
  refine lv_bipush (v := (60 : Int32)) hx hb dX0_init_5 (by decide) ?_
  refine b_newa (atype := .int) (ty := .int) (N := 60) (t0 := 0) (a0 := (60, .inl (fun _ => 0))) hx hb hts hK hh AC_i rfl (fun _ h => h) rfl (fun _ => rfl) (by decide) (by decide) (by decide) (Nat.le_of_ble_eq_true rfl) (Nat.le_of_ble_eq_true rfl) dX0_init_7 (fun H hh => ?_)
  obtain ⟨G1, hG1⟩ : ∃ G, G = va_up F (n) (ari cA 60) := ⟨_, rfl⟩
  have hh : HB D B s (n + 1) (va_up F (n) (ari cA 60)) H [] := hh
  rw [← hG1] at hh
  have hF : G1 (k) = .inr (0, df0) := (congrFun hG1 _).trans ((va_up_ne _ _ (by omega)).trans hF)
  have fr : ∀ i, i < n ∧ i ≠ k → G1 i = F i := fun i hi => (congrFun hG1 _).trans ((va_up_ne _ _ (by omega)).trans (fr i hi))
  have g1 : G1 (n) = ari cA 60 := by rw [hG1]; exact va_up_self _ _ _
  refine b_put (Cn := RX0) (T := TX0) (N := 2) (ci := 0) (sl := 0) hx hb hts hown hK hh inG0 tyX0 tyX0_ok nmX0 rfl (by omega) hF (by decide) LF_0_9 hin rfl (tyX0_ok 0 (by decide)) (by first | rfl | decide) (by first | rfl | decide) (Nat.le_of_ble_eq_true rfl) dX0_init_9 (fun H locs hh => ?_)
  obtain ⟨G2, hG2⟩ : ∃ G, G = va_up G1 (k) (.inr (0, [.ref (B + (n)), .int 0])) := ⟨_, rfl⟩
  have hh : HB D B s (n + 1) (va_up G1 (k) (.inr (0, [.ref (B + (n)), .int 0]))) H locs := hh
  rw [← hG2] at hh
  have fr : ∀ i, i < n ∧ i ≠ k → G2 i = F i := fun i hi => (congrFun hG2 _).trans ((va_up_ne _ _ (by omega)).trans (fr i hi))
  have g1 : G2 (n) = ari cA 60 := (congrFun hG2 _).trans ((va_up_ne _ _ (by omega)).trans g1)
  have hF : G2 (k) = .inr (0, [.ref (B + (n)), .int 0]) := by rw [hG2]; exact va_up_self _ _ _
  refine lv_aload_n hx hb dX0_init_12 rfl (lv_at hl 0 rfl) ?_
  refine lv_iconst (v := (0 : Int32)) hx hb dX0_init_13 (by decide) ?_
  refine b_put (Cn := RX0) (T := TX0) (N := 2) (ci := 0) (sl := 1) hx hb hts hown hK hh inG0 tyX0 tyX0_ok nmX0 rfl (by omega) hF (by decide) LF_0_15 hin rfl (tyX0_ok 1 (by decide)) (by first | rfl | decide) (by first | rfl | decide) (Nat.le_of_ble_eq_true rfl) dX0_init_14 (fun H locs hh => ?_)
  obtain ⟨G3, hG3⟩ : ∃ G, G = va_up G2 (k) (.inr (0, [.ref (B + (n)), .int 0])) := ⟨_, rfl⟩
  have hh : HB D B s (n + 1) (va_up G2 (k) (.inr (0, [.ref (B + (n)), .int 0]))) H locs := hh
  rw [← hG3] at hh
  have fr : ∀ i, i < n ∧ i ≠ k → G3 i = F i := fun i hi => (congrFun hG3 _).trans ((va_up_ne _ _ (by omega)).trans (fr i hi))
  have g1 : G3 (n) = ari cA 60 := (congrFun hG3 _).trans ((va_up_ne _ _ (by omega)).trans g1)
  have hF : G3 (k) = .inr (0, [.ref (B + (n)), .int 0]) := by rw [hG3]; exact va_up_self _ _ _
  exact b_ret hx hb hK hN hr hlocks hh ⟨hF, g1, fr⟩ dX0_init_17
abbrev ri_2 : Room := { frames := 1, cells := 0, slots := 0, locals := 12 }
set_option maxHeartbeats 4000000 in
set_option maxRecDepth 100000 in
theorem ci_2 {l : Launch} {D : va_G} {cA : Nat → ClassId} {B n : Nat} {F : Nat → va_E} {k : Nat} (hk : k < n) (hF : F k = .inr (2, df2)) : Met l yX2_init (wsG yX2_init cX2_init 1 none) ri_2 (va_Pc [.ref (B + k)] (IB D cA B n F)) (QB D cA B (n) (fun G => G (k) = .inr (2, df2) ∧ ∀ i, i < n ∧ i ≠ k → G i = F i)) 0 0 (fun q => B ≤ q) := by
  refine metB (by decide) rfl (Nat.le_of_ble_eq_true rfl) ?_
  intro p e s m args below meth c C ls hh hl
  have C : Cb p s m args meth c cX2_init 1 RX2 D cA B := C
  have hl : lv_has ls 1 [(0, .ref (B + k))] := hl
  obtain ⟨⟨hx, hb, hml, hown, hts⟩, hK, hN, hB, hr, hlocks, hin⟩ := id C
  have fr : ∀ i, i < n ∧ i ≠ k → F i = F i := fun _ _ => rfl
  refine lv_aload_n hx hb dX2_init_0 rfl (lv_at hl 0 rfl) ?_
  refine b_obj C LO_2 IO CO hl.1 (Nat.le_of_ble_eq_true rfl) (Nat.le_of_ble_eq_true rfl) dX2_init_1 ?_
  exact b_ret hx hb hK hN hr hlocks hh ⟨hF, fr⟩ dX2_init_4
abbrev ri_4 : Room := { frames := 1, cells := 0, slots := 0, locals := 12 }
set_option maxHeartbeats 4000000 in
set_option maxRecDepth 100000 in
theorem ci_4 {l : Launch} {D : va_G} {cA : Nat → ClassId} {B n : Nat} {F : Nat → va_E} {k : Nat} (hk : k < n) (hF : F k = .inr (4, df4)) : Met l yX4_init (wsG yX4_init cX4_init 1 none) ri_4 (va_Pc [.ref (B + k)] (IB D cA B n F)) (QB D cA B (n) (fun G => G (k) = .inr (4, [.int 0, .int 0, .int 0]) ∧ ∀ i, i < n ∧ i ≠ k → G i = F i)) 0 0 (fun q => B ≤ q) := by
  refine metB (by decide) rfl (Nat.le_of_ble_eq_true rfl) ?_
  intro p e s m args below meth c C ls hh hl
  have C : Cb p s m args meth c cX4_init 1 RX4 D cA B := C
  have hl : lv_has ls 1 [(0, .ref (B + k))] := hl
  obtain ⟨⟨hx, hb, hml, hown, hts⟩, hK, hN, hB, hr, hlocks, hin⟩ := id C
  have fr : ∀ i, i < n ∧ i ≠ k → F i = F i := fun _ _ => rfl
  refine lv_aload_n hx hb dX4_init_0 rfl (lv_at hl 0 rfl) ?_
  refine b_obj C LO_4 IO CO hl.1 (Nat.le_of_ble_eq_true rfl) (Nat.le_of_ble_eq_true rfl) dX4_init_1 ?_
  refine lv_aload_n hx hb dX4_init_4 rfl (lv_at hl 0 rfl) ?_
  refine lv_iconst (v := (0 : Int32)) hx hb dX4_init_5 (by decide) ?_
  refine b_put (Cn := RX4) (T := TX4) (N := 3) (ci := 4) (sl := 0) hx hb hts hown hK hh inG4 tyX4 tyX4_ok nmX4 rfl (by omega) hF (by decide) LF_4_9 hin rfl (tyX4_ok 0 (by decide)) (by first | rfl | decide) (by first | rfl | decide) (Nat.le_of_ble_eq_true rfl) dX4_init_6 (fun H locs hh => ?_)
  obtain ⟨G1, hG1⟩ : ∃ G, G = va_up F (k) (.inr (4, [.int 0, .int 0, .int 0])) := ⟨_, rfl⟩
  have hh : HB D B s (n) (va_up F (k) (.inr (4, [.int 0, .int 0, .int 0]))) H locs := hh
  rw [← hG1] at hh
  have fr : ∀ i, i < n ∧ i ≠ k → G1 i = F i := fun i hi => (congrFun hG1 _).trans ((va_up_ne _ _ (by omega)).trans (fr i hi))
  have hF : G1 (k) = .inr (4, [.int 0, .int 0, .int 0]) := by rw [hG1]; exact va_up_self _ _ _
  refine lv_aload_n hx hb dX4_init_9 rfl (lv_at hl 0 rfl) ?_
  refine lv_iconst (v := (0 : Int32)) hx hb dX4_init_10 (by decide) ?_
  refine b_put (Cn := RX4) (T := TX4) (N := 3) (ci := 4) (sl := 1) hx hb hts hown hK hh inG4 tyX4 tyX4_ok nmX4 rfl (by omega) hF (by decide) LF_4_15 hin rfl (tyX4_ok 1 (by decide)) (by first | rfl | decide) (by first | rfl | decide) (Nat.le_of_ble_eq_true rfl) dX4_init_11 (fun H locs hh => ?_)
  obtain ⟨G2, hG2⟩ : ∃ G, G = va_up G1 (k) (.inr (4, [.int 0, .int 0, .int 0])) := ⟨_, rfl⟩
  have hh : HB D B s (n) (va_up G1 (k) (.inr (4, [.int 0, .int 0, .int 0]))) H locs := hh
  rw [← hG2] at hh
  have fr : ∀ i, i < n ∧ i ≠ k → G2 i = F i := fun i hi => (congrFun hG2 _).trans ((va_up_ne _ _ (by omega)).trans (fr i hi))
  have hF : G2 (k) = .inr (4, [.int 0, .int 0, .int 0]) := by rw [hG2]; exact va_up_self _ _ _
  refine lv_aload_n hx hb dX4_init_14 rfl (lv_at hl 0 rfl) ?_
  refine lv_iconst (v := (0 : Int32)) hx hb dX4_init_15 (by decide) ?_
  refine b_put (Cn := RX4) (T := TX4) (N := 3) (ci := 4) (sl := 2) hx hb hts hown hK hh inG4 tyX4 tyX4_ok nmX4 rfl (by omega) hF (by decide) LF_4_18 hin rfl (tyX4_ok 2 (by decide)) (by first | rfl | decide) (by first | rfl | decide) (Nat.le_of_ble_eq_true rfl) dX4_init_16 (fun H locs hh => ?_)
  obtain ⟨G3, hG3⟩ : ∃ G, G = va_up G2 (k) (.inr (4, [.int 0, .int 0, .int 0])) := ⟨_, rfl⟩
  have hh : HB D B s (n) (va_up G2 (k) (.inr (4, [.int 0, .int 0, .int 0]))) H locs := hh
  rw [← hG3] at hh
  have fr : ∀ i, i < n ∧ i ≠ k → G3 i = F i := fun i hi => (congrFun hG3 _).trans ((va_up_ne _ _ (by omega)).trans (fr i hi))
  have hF : G3 (k) = .inr (4, [.int 0, .int 0, .int 0]) := by rw [hG3]; exact va_up_self _ _ _
  exact b_ret hx hb hK hN hr hlocks hh ⟨hF, fr⟩ dX4_init_19
abbrev ri_1 : Room := { frames := 1, cells := 0, slots := 0, locals := 12 }
set_option maxHeartbeats 4000000 in
set_option maxRecDepth 100000 in
theorem ci_1 {l : Launch} {D : va_G} {cA : Nat → ClassId} {B n : Nat} {F : Nat → va_E} {k : Nat} {x1 : Int32} (hk : k < n) (hF : F k = .inr (1, df1)) : Met l yX1_init (wsG yX1_init cX1_init 2 none) ri_1 (va_Pc [.ref (B + k), .int x1] (IB D cA B n F)) (QB D cA B (n) (fun G => G (k) = .inr (1, [.int x1, .int 0, .int 0, .int 0, .int 0, .int 0, .int 0, .int 0, .int 0, .int 0, .int 0, .int 0]) ∧ ∀ i, i < n ∧ i ≠ k → G i = F i)) 0 0 (fun q => B ≤ q) := by
  refine metB (by decide) rfl (Nat.le_of_ble_eq_true rfl) ?_
  intro p e s m args below meth c C ls hh hl
  have C : Cb p s m args meth c cX1_init 2 RX1 D cA B := C
  have hl : lv_has ls 2 [(0, .ref (B + k)), (1, .int x1)] := hl
  obtain ⟨⟨hx, hb, hml, hown, hts⟩, hK, hN, hB, hr, hlocks, hin⟩ := id C
  have fr : ∀ i, i < n ∧ i ≠ k → F i = F i := fun _ _ => rfl
  refine lv_aload_n hx hb dX1_init_0 rfl (lv_at hl 0 rfl) ?_
  refine b_obj C LO_1 IO CO hl.1 (Nat.le_of_ble_eq_true rfl) (Nat.le_of_ble_eq_true rfl) dX1_init_1 ?_
  refine lv_aload_n hx hb dX1_init_4 rfl (lv_at hl 0 rfl) ?_
  refine lv_iconst (v := (0 : Int32)) hx hb dX1_init_5 (by decide) ?_
  refine b_put (Cn := RX1) (T := TX1) (N := 12) (ci := 1) (sl := 1) hx hb hts hown hK hh inG1 tyX1 tyX1_ok nmX1 rfl (by omega) hF (by decide) LF_1_9 hin rfl (tyX1_ok 1 (by decide)) (by first | rfl | decide) (by first | rfl | decide) (Nat.le_of_ble_eq_true rfl) dX1_init_6 (fun H locs hh => ?_)
  obtain ⟨G1, hG1⟩ : ∃ G, G = va_up F (k) (.inr (1, [.int 0, .int 0, .int 0, .int 0, .int 0, .int 0, .int 0, .int 0, .int 0, .int 0, .int 0, .int 0])) := ⟨_, rfl⟩
  have hh : HB D B s (n) (va_up F (k) (.inr (1, [.int 0, .int 0, .int 0, .int 0, .int 0, .int 0, .int 0, .int 0, .int 0, .int 0, .int 0, .int 0]))) H locs := hh
  rw [← hG1] at hh
  have fr : ∀ i, i < n ∧ i ≠ k → G1 i = F i := fun i hi => (congrFun hG1 _).trans ((va_up_ne _ _ (by omega)).trans (fr i hi))
  have hF : G1 (k) = .inr (1, [.int 0, .int 0, .int 0, .int 0, .int 0, .int 0, .int 0, .int 0, .int 0, .int 0, .int 0, .int 0]) := by rw [hG1]; exact va_up_self _ _ _
  refine lv_aload_n hx hb dX1_init_9 rfl (lv_at hl 0 rfl) ?_
  refine lv_iconst (v := (0 : Int32)) hx hb dX1_init_10 (by decide) ?_
  refine b_put (Cn := RX1) (T := TX1) (N := 12) (ci := 1) (sl := 2) hx hb hts hown hK hh inG1 tyX1 tyX1_ok nmX1 rfl (by omega) hF (by decide) LF_1_15 hin rfl (tyX1_ok 2 (by decide)) (by first | rfl | decide) (by first | rfl | decide) (Nat.le_of_ble_eq_true rfl) dX1_init_11 (fun H locs hh => ?_)
  obtain ⟨G2, hG2⟩ : ∃ G, G = va_up G1 (k) (.inr (1, [.int 0, .int 0, .int 0, .int 0, .int 0, .int 0, .int 0, .int 0, .int 0, .int 0, .int 0, .int 0])) := ⟨_, rfl⟩
  have hh : HB D B s (n) (va_up G1 (k) (.inr (1, [.int 0, .int 0, .int 0, .int 0, .int 0, .int 0, .int 0, .int 0, .int 0, .int 0, .int 0, .int 0]))) H locs := hh
  rw [← hG2] at hh
  have fr : ∀ i, i < n ∧ i ≠ k → G2 i = F i := fun i hi => (congrFun hG2 _).trans ((va_up_ne _ _ (by omega)).trans (fr i hi))
  have hF : G2 (k) = .inr (1, [.int 0, .int 0, .int 0, .int 0, .int 0, .int 0, .int 0, .int 0, .int 0, .int 0, .int 0, .int 0]) := by rw [hG2]; exact va_up_self _ _ _
  refine lv_aload_n hx hb dX1_init_14 rfl (lv_at hl 0 rfl) ?_
  refine lv_iconst (v := (0 : Int32)) hx hb dX1_init_15 (by decide) ?_
  refine b_put (Cn := RX1) (T := TX1) (N := 12) (ci := 1) (sl := 3) hx hb hts hown hK hh inG1 tyX1 tyX1_ok nmX1 rfl (by omega) hF (by decide) LF_1_18 hin rfl (tyX1_ok 3 (by decide)) (by first | rfl | decide) (by first | rfl | decide) (Nat.le_of_ble_eq_true rfl) dX1_init_16 (fun H locs hh => ?_)
  obtain ⟨G3, hG3⟩ : ∃ G, G = va_up G2 (k) (.inr (1, [.int 0, .int 0, .int 0, .int 0, .int 0, .int 0, .int 0, .int 0, .int 0, .int 0, .int 0, .int 0])) := ⟨_, rfl⟩
  have hh : HB D B s (n) (va_up G2 (k) (.inr (1, [.int 0, .int 0, .int 0, .int 0, .int 0, .int 0, .int 0, .int 0, .int 0, .int 0, .int 0, .int 0]))) H locs := hh
  rw [← hG3] at hh
  have fr : ∀ i, i < n ∧ i ≠ k → G3 i = F i := fun i hi => (congrFun hG3 _).trans ((va_up_ne _ _ (by omega)).trans (fr i hi))
  have hF : G3 (k) = .inr (1, [.int 0, .int 0, .int 0, .int 0, .int 0, .int 0, .int 0, .int 0, .int 0, .int 0, .int 0, .int 0]) := by rw [hG3]; exact va_up_self _ _ _
  refine lv_aload_n hx hb dX1_init_19 rfl (lv_at hl 0 rfl) ?_
  refine lv_iconst (v := (0 : Int32)) hx hb dX1_init_20 (by decide) ?_
  refine b_put (Cn := RX1) (T := TX1) (N := 12) (ci := 1) (sl := 4) hx hb hts hown hK hh inG1 tyX1 tyX1_ok nmX1 rfl (by omega) hF (by decide) LF_1_21 hin rfl (tyX1_ok 4 (by decide)) (by first | rfl | decide) (by first | rfl | decide) (Nat.le_of_ble_eq_true rfl) dX1_init_21 (fun H locs hh => ?_)
  obtain ⟨G4, hG4⟩ : ∃ G, G = va_up G3 (k) (.inr (1, [.int 0, .int 0, .int 0, .int 0, .int 0, .int 0, .int 0, .int 0, .int 0, .int 0, .int 0, .int 0])) := ⟨_, rfl⟩
  have hh : HB D B s (n) (va_up G3 (k) (.inr (1, [.int 0, .int 0, .int 0, .int 0, .int 0, .int 0, .int 0, .int 0, .int 0, .int 0, .int 0, .int 0]))) H locs := hh
  rw [← hG4] at hh
  have fr : ∀ i, i < n ∧ i ≠ k → G4 i = F i := fun i hi => (congrFun hG4 _).trans ((va_up_ne _ _ (by omega)).trans (fr i hi))
  have hF : G4 (k) = .inr (1, [.int 0, .int 0, .int 0, .int 0, .int 0, .int 0, .int 0, .int 0, .int 0, .int 0, .int 0, .int 0]) := by rw [hG4]; exact va_up_self _ _ _
  refine lv_aload_n hx hb dX1_init_24 rfl (lv_at hl 0 rfl) ?_
  refine lv_iconst (v := (0 : Int32)) hx hb dX1_init_25 (by decide) ?_
  refine b_put (Cn := RX1) (T := TX1) (N := 12) (ci := 1) (sl := 5) hx hb hts hown hK hh inG1 tyX1 tyX1_ok nmX1 rfl (by omega) hF (by decide) LF_1_24 hin rfl (tyX1_ok 5 (by decide)) (by first | rfl | decide) (by first | rfl | decide) (Nat.le_of_ble_eq_true rfl) dX1_init_26 (fun H locs hh => ?_)
  obtain ⟨G5, hG5⟩ : ∃ G, G = va_up G4 (k) (.inr (1, [.int 0, .int 0, .int 0, .int 0, .int 0, .int 0, .int 0, .int 0, .int 0, .int 0, .int 0, .int 0])) := ⟨_, rfl⟩
  have hh : HB D B s (n) (va_up G4 (k) (.inr (1, [.int 0, .int 0, .int 0, .int 0, .int 0, .int 0, .int 0, .int 0, .int 0, .int 0, .int 0, .int 0]))) H locs := hh
  rw [← hG5] at hh
  have fr : ∀ i, i < n ∧ i ≠ k → G5 i = F i := fun i hi => (congrFun hG5 _).trans ((va_up_ne _ _ (by omega)).trans (fr i hi))
  have hF : G5 (k) = .inr (1, [.int 0, .int 0, .int 0, .int 0, .int 0, .int 0, .int 0, .int 0, .int 0, .int 0, .int 0, .int 0]) := by rw [hG5]; exact va_up_self _ _ _
  refine lv_aload_n hx hb dX1_init_29 rfl (lv_at hl 0 rfl) ?_
  refine lv_iconst (v := (0 : Int32)) hx hb dX1_init_30 (by decide) ?_
  refine b_put (Cn := RX1) (T := TX1) (N := 12) (ci := 1) (sl := 6) hx hb hts hown hK hh inG1 tyX1 tyX1_ok nmX1 rfl (by omega) hF (by decide) LF_1_27 hin rfl (tyX1_ok 6 (by decide)) (by first | rfl | decide) (by first | rfl | decide) (Nat.le_of_ble_eq_true rfl) dX1_init_31 (fun H locs hh => ?_)
  obtain ⟨G6, hG6⟩ : ∃ G, G = va_up G5 (k) (.inr (1, [.int 0, .int 0, .int 0, .int 0, .int 0, .int 0, .int 0, .int 0, .int 0, .int 0, .int 0, .int 0])) := ⟨_, rfl⟩
  have hh : HB D B s (n) (va_up G5 (k) (.inr (1, [.int 0, .int 0, .int 0, .int 0, .int 0, .int 0, .int 0, .int 0, .int 0, .int 0, .int 0, .int 0]))) H locs := hh
  rw [← hG6] at hh
  have fr : ∀ i, i < n ∧ i ≠ k → G6 i = F i := fun i hi => (congrFun hG6 _).trans ((va_up_ne _ _ (by omega)).trans (fr i hi))
  have hF : G6 (k) = .inr (1, [.int 0, .int 0, .int 0, .int 0, .int 0, .int 0, .int 0, .int 0, .int 0, .int 0, .int 0, .int 0]) := by rw [hG6]; exact va_up_self _ _ _
  refine lv_aload_n hx hb dX1_init_34 rfl (lv_at hl 0 rfl) ?_
  refine lv_iconst (v := (0 : Int32)) hx hb dX1_init_35 (by decide) ?_
  refine b_put (Cn := RX1) (T := TX1) (N := 12) (ci := 1) (sl := 7) hx hb hts hown hK hh inG1 tyX1 tyX1_ok nmX1 rfl (by omega) hF (by decide) LF_1_30 hin rfl (tyX1_ok 7 (by decide)) (by first | rfl | decide) (by first | rfl | decide) (Nat.le_of_ble_eq_true rfl) dX1_init_36 (fun H locs hh => ?_)
  obtain ⟨G7, hG7⟩ : ∃ G, G = va_up G6 (k) (.inr (1, [.int 0, .int 0, .int 0, .int 0, .int 0, .int 0, .int 0, .int 0, .int 0, .int 0, .int 0, .int 0])) := ⟨_, rfl⟩
  have hh : HB D B s (n) (va_up G6 (k) (.inr (1, [.int 0, .int 0, .int 0, .int 0, .int 0, .int 0, .int 0, .int 0, .int 0, .int 0, .int 0, .int 0]))) H locs := hh
  rw [← hG7] at hh
  have fr : ∀ i, i < n ∧ i ≠ k → G7 i = F i := fun i hi => (congrFun hG7 _).trans ((va_up_ne _ _ (by omega)).trans (fr i hi))
  have hF : G7 (k) = .inr (1, [.int 0, .int 0, .int 0, .int 0, .int 0, .int 0, .int 0, .int 0, .int 0, .int 0, .int 0, .int 0]) := by rw [hG7]; exact va_up_self _ _ _
  refine lv_aload_n hx hb dX1_init_39 rfl (lv_at hl 0 rfl) ?_
  refine lv_iconst (v := (0 : Int32)) hx hb dX1_init_40 (by decide) ?_
  refine b_put (Cn := RX1) (T := TX1) (N := 12) (ci := 1) (sl := 8) hx hb hts hown hK hh inG1 tyX1 tyX1_ok nmX1 rfl (by omega) hF (by decide) LF_1_33 hin rfl (tyX1_ok 8 (by decide)) (by first | rfl | decide) (by first | rfl | decide) (Nat.le_of_ble_eq_true rfl) dX1_init_41 (fun H locs hh => ?_)
  obtain ⟨G8, hG8⟩ : ∃ G, G = va_up G7 (k) (.inr (1, [.int 0, .int 0, .int 0, .int 0, .int 0, .int 0, .int 0, .int 0, .int 0, .int 0, .int 0, .int 0])) := ⟨_, rfl⟩
  have hh : HB D B s (n) (va_up G7 (k) (.inr (1, [.int 0, .int 0, .int 0, .int 0, .int 0, .int 0, .int 0, .int 0, .int 0, .int 0, .int 0, .int 0]))) H locs := hh
  rw [← hG8] at hh
  have fr : ∀ i, i < n ∧ i ≠ k → G8 i = F i := fun i hi => (congrFun hG8 _).trans ((va_up_ne _ _ (by omega)).trans (fr i hi))
  have hF : G8 (k) = .inr (1, [.int 0, .int 0, .int 0, .int 0, .int 0, .int 0, .int 0, .int 0, .int 0, .int 0, .int 0, .int 0]) := by rw [hG8]; exact va_up_self _ _ _
  refine lv_aload_n hx hb dX1_init_44 rfl (lv_at hl 0 rfl) ?_
  refine lv_iconst (v := (0 : Int32)) hx hb dX1_init_45 (by decide) ?_
  refine b_put (Cn := RX1) (T := TX1) (N := 12) (ci := 1) (sl := 9) hx hb hts hown hK hh inG1 tyX1 tyX1_ok nmX1 rfl (by omega) hF (by decide) LF_1_36 hin rfl (tyX1_ok 9 (by decide)) (by first | rfl | decide) (by first | rfl | decide) (Nat.le_of_ble_eq_true rfl) dX1_init_46 (fun H locs hh => ?_)
  obtain ⟨G9, hG9⟩ : ∃ G, G = va_up G8 (k) (.inr (1, [.int 0, .int 0, .int 0, .int 0, .int 0, .int 0, .int 0, .int 0, .int 0, .int 0, .int 0, .int 0])) := ⟨_, rfl⟩
  have hh : HB D B s (n) (va_up G8 (k) (.inr (1, [.int 0, .int 0, .int 0, .int 0, .int 0, .int 0, .int 0, .int 0, .int 0, .int 0, .int 0, .int 0]))) H locs := hh
  rw [← hG9] at hh
  have fr : ∀ i, i < n ∧ i ≠ k → G9 i = F i := fun i hi => (congrFun hG9 _).trans ((va_up_ne _ _ (by omega)).trans (fr i hi))
  have hF : G9 (k) = .inr (1, [.int 0, .int 0, .int 0, .int 0, .int 0, .int 0, .int 0, .int 0, .int 0, .int 0, .int 0, .int 0]) := by rw [hG9]; exact va_up_self _ _ _
  refine lv_aload_n hx hb dX1_init_49 rfl (lv_at hl 0 rfl) ?_
  refine lv_iconst (v := (0 : Int32)) hx hb dX1_init_50 (by decide) ?_
  refine b_put (Cn := RX1) (T := TX1) (N := 12) (ci := 1) (sl := 10) hx hb hts hown hK hh inG1 tyX1 tyX1_ok nmX1 rfl (by omega) hF (by decide) LF_1_39 hin rfl (tyX1_ok 10 (by decide)) (by first | rfl | decide) (by first | rfl | decide) (Nat.le_of_ble_eq_true rfl) dX1_init_51 (fun H locs hh => ?_)
  obtain ⟨G10, hG10⟩ : ∃ G, G = va_up G9 (k) (.inr (1, [.int 0, .int 0, .int 0, .int 0, .int 0, .int 0, .int 0, .int 0, .int 0, .int 0, .int 0, .int 0])) := ⟨_, rfl⟩
  have hh : HB D B s (n) (va_up G9 (k) (.inr (1, [.int 0, .int 0, .int 0, .int 0, .int 0, .int 0, .int 0, .int 0, .int 0, .int 0, .int 0, .int 0]))) H locs := hh
  rw [← hG10] at hh
  have fr : ∀ i, i < n ∧ i ≠ k → G10 i = F i := fun i hi => (congrFun hG10 _).trans ((va_up_ne _ _ (by omega)).trans (fr i hi))
  have hF : G10 (k) = .inr (1, [.int 0, .int 0, .int 0, .int 0, .int 0, .int 0, .int 0, .int 0, .int 0, .int 0, .int 0, .int 0]) := by rw [hG10]; exact va_up_self _ _ _
  refine lv_aload_n hx hb dX1_init_54 rfl (lv_at hl 0 rfl) ?_
  refine lv_iconst (v := (0 : Int32)) hx hb dX1_init_55 (by decide) ?_
  refine b_put (Cn := RX1) (T := TX1) (N := 12) (ci := 1) (sl := 11) hx hb hts hown hK hh inG1 tyX1 tyX1_ok nmX1 rfl (by omega) hF (by decide) LF_1_42 hin rfl (tyX1_ok 11 (by decide)) (by first | rfl | decide) (by first | rfl | decide) (Nat.le_of_ble_eq_true rfl) dX1_init_56 (fun H locs hh => ?_)
  obtain ⟨G11, hG11⟩ : ∃ G, G = va_up G10 (k) (.inr (1, [.int 0, .int 0, .int 0, .int 0, .int 0, .int 0, .int 0, .int 0, .int 0, .int 0, .int 0, .int 0])) := ⟨_, rfl⟩
  have hh : HB D B s (n) (va_up G10 (k) (.inr (1, [.int 0, .int 0, .int 0, .int 0, .int 0, .int 0, .int 0, .int 0, .int 0, .int 0, .int 0, .int 0]))) H locs := hh
  rw [← hG11] at hh
  have fr : ∀ i, i < n ∧ i ≠ k → G11 i = F i := fun i hi => (congrFun hG11 _).trans ((va_up_ne _ _ (by omega)).trans (fr i hi))
  have hF : G11 (k) = .inr (1, [.int 0, .int 0, .int 0, .int 0, .int 0, .int 0, .int 0, .int 0, .int 0, .int 0, .int 0, .int 0]) := by rw [hG11]; exact va_up_self _ _ _
  refine lv_aload_n hx hb dX1_init_59 rfl (lv_at hl 0 rfl) ?_
  refine lv_iload_n hx hb dX1_init_60 rfl (lv_at hl 1 rfl) ?_
  refine b_put (Cn := RX1) (T := TX1) (N := 12) (ci := 1) (sl := 0) hx hb hts hown hK hh inG1 tyX1 tyX1_ok nmX1 rfl (by omega) hF (by decide) LF_1_45 hin rfl (tyX1_ok 0 (by decide)) (by first | rfl | decide) (by first | rfl | decide) (Nat.le_of_ble_eq_true rfl) dX1_init_61 (fun H locs hh => ?_)
  obtain ⟨G12, hG12⟩ : ∃ G, G = va_up G11 (k) (.inr (1, [.int x1, .int 0, .int 0, .int 0, .int 0, .int 0, .int 0, .int 0, .int 0, .int 0, .int 0, .int 0])) := ⟨_, rfl⟩
  have hh : HB D B s (n) (va_up G11 (k) (.inr (1, [.int x1, .int 0, .int 0, .int 0, .int 0, .int 0, .int 0, .int 0, .int 0, .int 0, .int 0, .int 0]))) H locs := hh
  rw [← hG12] at hh
  have fr : ∀ i, i < n ∧ i ≠ k → G12 i = F i := fun i hi => (congrFun hG12 _).trans ((va_up_ne _ _ (by omega)).trans (fr i hi))
  have hF : G12 (k) = .inr (1, [.int x1, .int 0, .int 0, .int 0, .int 0, .int 0, .int 0, .int 0, .int 0, .int 0, .int 0, .int 0]) := by rw [hG12]; exact va_up_self _ _ _
  exact b_ret hx hb hK hN hr hlocks hh ⟨hF, fr⟩ dX1_init_64
abbrev ri_3 : Room := { frames := 2, cells := 2, slots := 62, locals := 32 }
set_option maxHeartbeats 4000000 in
set_option maxRecDepth 100000 in
theorem ci_3 {l : Launch} {D : va_G} {cA : Nat → ClassId} {B n : Nat} {F : Nat → va_E} {k : Nat} (hk : k < n) (hF : F k = .inr (3, df3)) : Met l yX3_init (wsG yX3_init cX3_init 1 none) ri_3 (va_Pc [.ref (B + k)] (IB D cA B n F)) (QB D cA B (n + 2) (fun G => G (k) = .inr (3, [.ref (B + (n)), .int (-1)]) ∧ G (n) = .inr (0, [.ref (B + (n + 1)), .int 0]) ∧ G (n + 1) = ari cA 60 ∧ ∀ i, i < n ∧ i ≠ k → G i = F i)) 2 62 (fun q => B ≤ q) := by
  refine metB (by decide) rfl (Nat.le_of_ble_eq_true rfl) ?_
  intro p e s m args below meth c C ls hh hl
  have C : Cb p s m args meth c cX3_init 1 RX3 D cA B := C
  have hl : lv_has ls 1 [(0, .ref (B + k))] := hl
  obtain ⟨⟨hx, hb, hml, hown, hts⟩, hK, hN, hB, hr, hlocks, hin⟩ := id C
  have fr : ∀ i, i < n ∧ i ≠ k → F i = F i := fun _ _ => rfl
  refine lv_aload_n hx hb dX3_init_0 rfl (lv_at hl 0 rfl) ?_
  refine b_obj C LO_3 IO CO hl.1 (Nat.le_of_ble_eq_true rfl) (Nat.le_of_ble_eq_true rfl) dX3_init_1 ?_
  refine lv_aload_n hx hb dX3_init_4 rfl (lv_at hl 0 rfl) ?_
  refine b_new (ci := 0) (fs := df0) (N := 2) tyX0 hx hb hts hown hK hh inG0 tyX0_ok rfl LK_3_9 IS_0 IN_0 dfo0 (Nat.le_of_ble_eq_true rfl) (Nat.le_of_ble_eq_true rfl) dX3_init_5 (fun H hh => ?_)
  obtain ⟨G1, hG1⟩ : ∃ G, G = va_up F (n) (.inr (0, df0)) := ⟨_, rfl⟩
  have hh : HB D B s (n + 1) (va_up F (n) (.inr (0, df0))) H [] := hh
  rw [← hG1] at hh
  have hF : G1 (k) = .inr (3, df3) := (congrFun hG1 _).trans ((va_up_ne _ _ (by omega)).trans hF)
  have fr : ∀ i, i < n ∧ i ≠ k → G1 i = F i := fun i hi => (congrFun hG1 _).trans ((va_up_ne _ _ (by omega)).trans (fr i hi))
  have g1 : G1 (n) = .inr (0, df0) := by rw [hG1]; exact va_up_self _ _ _
  refine lv_dup hx hb dX3_init_8 rfl ?_
  refine c_init hh (inrun (rest := [.ref (B + (n)), .ref (B + (k))]) C hh (ci_0 (n := n + 1) (F := G1) (by omega) g1) LI_3_11 IM_X0_init IN_0 CD_X0_init rfl HD_X0_init ⟨rfl, rfl, (Nat.le_of_ble_eq_true rfl), (Nat.le_of_ble_eq_true rfl)⟩ rfl hl.1 rfl (Nat.le_of_ble_eq_true rfl) dX3_init_9 ⟨(Nat.le_of_ble_eq_true rfl), (Nat.le_of_ble_eq_true rfl)⟩) (fun G2 H locs hp hh => ?_)
  obtain ⟨p2a, p2b, p2c⟩ := hp
  have hF : G2 (k) = .inr (3, df3) := (p2c _ (by omega)).trans hF
  have fr : ∀ i, i < n ∧ i ≠ k → G2 i = F i := fun i hi => (p2c _ (by omega)).trans (fr i hi)
  have g1 := p2a
  have p2b : G2 (n + 1) = ari cA 60 := p2b
  refine b_put (Cn := RX3) (T := TX3) (N := 2) (ci := 3) (sl := 0) hx hb hts hown hK hh inG3 tyX3 tyX3_ok nmX3 rfl (by omega) hF (by decide) LF_3_12 hin rfl (tyX3_ok 0 (by decide)) (by first | rfl | decide) (by first | rfl | decide) (Nat.le_of_ble_eq_true rfl) dX3_init_12 (fun H locs hh => ?_)
  obtain ⟨G3, hG3⟩ : ∃ G, G = va_up G2 (k) (.inr (3, [.ref (B + (n)), .int 0])) := ⟨_, rfl⟩
  have hh : HB D B s (n + 2) (va_up G2 (k) (.inr (3, [.ref (B + (n)), .int 0]))) H locs := hh
  rw [← hG3] at hh
  have fr : ∀ i, i < n ∧ i ≠ k → G3 i = F i := fun i hi => (congrFun hG3 _).trans ((va_up_ne _ _ (by omega)).trans (fr i hi))
  have g1 : G3 (n) = .inr (0, [.ref (B + (n + 1)), .int 0]) := (congrFun hG3 _).trans ((va_up_ne _ _ (by omega)).trans g1)
  have p2b : G3 (n + 1) = ari cA 60 := (congrFun hG3 _).trans ((va_up_ne _ _ (by omega)).trans p2b)
  have hF : G3 (k) = .inr (3, [.ref (B + (n)), .int 0]) := by rw [hG3]; exact va_up_self _ _ _
  refine lv_aload_n hx hb dX3_init_15 rfl (lv_at hl 0 rfl) ?_
  refine lv_iconst (v := (-1 : Int32)) hx hb dX3_init_16 (by decide) ?_
  refine b_put (Cn := RX3) (T := TX3) (N := 2) (ci := 3) (sl := 1) hx hb hts hown hK hh inG3 tyX3 tyX3_ok nmX3 rfl (by omega) hF (by decide) LF_3_18 hin rfl (tyX3_ok 1 (by decide)) (by first | rfl | decide) (by first | rfl | decide) (Nat.le_of_ble_eq_true rfl) dX3_init_17 (fun H locs hh => ?_)
  obtain ⟨G4, hG4⟩ : ∃ G, G = va_up G3 (k) (.inr (3, [.ref (B + (n)), .int (-1)])) := ⟨_, rfl⟩
  have hh : HB D B s (n + 2) (va_up G3 (k) (.inr (3, [.ref (B + (n)), .int (-1)]))) H locs := hh
  rw [← hG4] at hh
  have fr : ∀ i, i < n ∧ i ≠ k → G4 i = F i := fun i hi => (congrFun hG4 _).trans ((va_up_ne _ _ (by omega)).trans (fr i hi))
  have g1 : G4 (n) = .inr (0, [.ref (B + (n + 1)), .int 0]) := (congrFun hG4 _).trans ((va_up_ne _ _ (by omega)).trans g1)
  have p2b : G4 (n + 1) = ari cA 60 := (congrFun hG4 _).trans ((va_up_ne _ _ (by omega)).trans p2b)
  have hF : G4 (k) = .inr (3, [.ref (B + (n)), .int (-1)]) := by rw [hG4]; exact va_up_self _ _ _
  exact b_ret hx hb hK hN hr hlocks hh ⟨hF, g1, p2b, fr⟩ dX3_init_20
