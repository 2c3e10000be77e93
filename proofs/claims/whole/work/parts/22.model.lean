abbrev ri_8 : Room := { frames := 1, cells := 25, slots := 8348, locals := 12 }
def modP (cA : Nat → ClassId) (B : Nat) (F : Nat → va_E) : (Nat → va_E) → Prop := fun G => G 213 = .inr (8, [.int 0, .int 0, .ref (B + (214)), .ref (B + (215)), .ref (B + (216)), .ref (B + (217)), .int 0, .ref (B + (218)), .ref (B + (219)), .ref (B + (220)), .ref (B + (221)), .ref (B + (222)), .ref (B + (223)), .ref (B + (224)), .ref (B + (225)), .ref (B + (226)), .ref (B + (227)), .ref (B + (228)), .ref (B + (229)), .ref (B + (230)), .ref (B + (231)), .ref (B + (232)), .ref (B + (233)), .int 0, .int 0, .ref (B + (234)), .ref (B + (235)), .ref (B + (236)), .int 0, .ref (B + (237)), .int 0, .ref (B + (238)), .int 0, .int 0, .int 0, .int 0, .int 0]) ∧ G (214) = ari cA 4 ∧ G (215) = ari cA 4 ∧ G (216) = ari cA 4 ∧ G (217) = arz cA 1024 ∧ G (218) = ari cA 1024 ∧ G (219) = ari cA 1024 ∧ G (220) = ari cA 1024 ∧ G (221) = ari cA 12 ∧ G (222) = arz cA 12 ∧ G (223) = ari cA 12 ∧ G (224) = ari cA 12 ∧ G (225) = ari cA 12 ∧ G (226) = ari cA 12 ∧ G (227) = ari cA 12 ∧ G (228) = ari cA 12 ∧ G (229) = ari cA 12 ∧ G (230) = ari cA 12 ∧ G (231) = ari cA 12 ∧ G (232) = ari cA 12 ∧ G (233) = ari cA 12 ∧ G (234) = ari cA 60 ∧ G (235) = ari cA 60 ∧ G (236) = ari cA 3840 ∧ G (237) = ari cA 64 ∧ G (238) = ari cA 60 ∧ ∀ i, i < 213 → G i = F i
set_option maxHeartbeats 4000000 in
set_option maxRecDepth 100000 in
theorem ci_8 {l : Launch} {D : va_G} {cA : Nat → ClassId} {B : Nat} {F : Nat → va_E} (hF : F 213 = .inr (8, df8)) : Met l yX8_init (wsG yX8_init cX8_init 1 none) ri_8 (va_Pc [.ref (B + 213)] (IB D cA B 214 F)) (QB D cA B 239 (modP cA B F)) 25 8348 (fun q => B ≤ q) := by
  refine metB (by decide) rfl (Nat.le_of_ble_eq_true rfl) ?_
  intro p e s m args below meth c C ls hh hl
  have C : Cb p s m args meth c cX8_init 1 RX8 D cA B := C
  have hl : lv_has ls 1 [(0, .ref (B + (213)))] := hl
  obtain ⟨⟨hx, hb, hml, hown, hts⟩, hK, hN, hB, hr, hlocks, hin⟩ := id C
  have fr : ∀ i, i < 213 → F i = F i := fun _ _ => rfl
  refine lv_aload_n hx hb dX8_init_0 rfl (lv_at hl 0 rfl) ?_
  refine b_obj C LO_8 IO CO hl.1 (Nat.le_of_ble_eq_true rfl) (Nat.le_of_ble_eq_true rfl) dX8_init_1 ?_
  refine lv_aload_n hx hb dX8_init_4 rfl (lv_at hl 0 rfl) ?_
  refine lv_iconst (v := (4 : Int32)) hx hb dX8_init_5 (by decide) ?_
  refine b_newa (atype := .int) (ty := .int) (N := 4) (t0 := 0) (a0 := (4, .inl (fun _ => 0))) hx hb hts hK hh AC_i rfl (fun _ h => h) rfl (fun _ => rfl) (by decide) (by decide) (by decide) (Nat.le_of_ble_eq_true rfl) (Nat.le_of_ble_eq_true rfl) dX8_init_6 (fun H hh => ?_)
  obtain ⟨G1, hG1⟩ : ∃ G, G = va_up F (214) (ari cA 4) := ⟨_, rfl⟩
  have hh : HB D B s (215) (va_up F (214) (ari cA 4)) H [] := hh
  rw [← hG1] at hh
  have hF : G1 (213) = .inr (8, df8) := (congrFun hG1 _).trans ((va_up_ne _ _ (by omega)).trans hF)
  have fr : ∀ i, i < 213 → G1 i = F i := fun i hi => (congrFun hG1 _).trans ((va_up_ne _ _ (by omega)).trans (fr i hi))
  have g1 : G1 (214) = ari cA 4 := by rw [hG1]; exact va_up_self _ _ _
  refine b_put (Cn := RX8) (T := TX8) (N := 37) (ci := 8) (sl := 2) hx hb hts hown hK hh inG8 tyX8 tyX8_ok nmX8 rfl (by omega) hF (by decide) LF_8_7 hin rfl (tyX8_ok 2 (by decide)) (by first | rfl | decide) (by first | rfl | decide) (Nat.le_of_ble_eq_true rfl) dX8_init_8 (fun H locs hh => ?_)
  obtain ⟨G2, hG2⟩ : ∃ G, G = va_up G1 (213) (.inr (8, [.int 0, .int 0, .ref (B + (214)), .null, .null, .null, .int 0, .null, .null, .null, .null, .null, .null, .null, .null, .null, .null, .null, .null, .null, .null, .null, .null, .int 0, .int 0, .null, .null, .null, .int 0, .null, .int 0, .null, .int 0, .int 0, .int 0, .int 0, .int 0])) := ⟨_, rfl⟩
  have hh : HB D B s (215) (va_up G1 (213) (.inr (8, [.int 0, .int 0, .ref (B + (214)), .null, .null, .null, .int 0, .null, .null, .null, .null, .null, .null, .null, .null, .null, .null, .null, .null, .null, .null, .null, .null, .int 0, .int 0, .null, .null, .null, .int 0, .null, .int 0, .null, .int 0, .int 0, .int 0, .int 0, .int 0]))) H locs := hh
  rw [← hG2] at hh
  have fr : ∀ i, i < 213 → G2 i = F i := fun i hi => (congrFun hG2 _).trans ((va_up_ne _ _ (by omega)).trans (fr i hi))
  have g1 : G2 (214) = ari cA 4 := (congrFun hG2 _).trans ((va_up_ne _ _ (by omega)).trans g1)
  have hF : G2 (213) = .inr (8, [.int 0, .int 0, .ref (B + (214)), .null, .null, .null, .int 0, .null, .null, .null, .null, .null, .null, .null, .null, .null, .null, .null, .null, .null, .null, .null, .null, .int 0, .int 0, .null, .null, .null, .int 0, .null, .int 0, .null, .int 0, .int 0, .int 0, .int 0, .int 0]) := by rw [hG2]; exact va_up_self _ _ _
  refine lv_aload_n hx hb dX8_init_11 rfl (lv_at hl 0 rfl) ?_
  refine lv_iconst (v := (4 : Int32)) hx hb dX8_init_12 (by decide) ?_
  refine b_newa (atype := .int) (ty := .int) (N := 4) (t0 := 0) (a0 := (4, .inl (fun _ => 0))) hx hb hts hK hh AC_i rfl (fun _ h => h) rfl (fun _ => rfl) (by decide) (by decide) (by decide) (Nat.le_of_ble_eq_true rfl) (Nat.le_of_ble_eq_true rfl) dX8_init_13 (fun H hh => ?_)
  obtain ⟨G3, hG3⟩ : ∃ G, G = va_up G2 (215) (ari cA 4) := ⟨_, rfl⟩
  have hh : HB D B s (216) (va_up G2 (215) (ari cA 4)) H locs := hh
  rw [← hG3] at hh
  have hF : G3 (213) = .inr (8, [.int 0, .int 0, .ref (B + (214)), .null, .null, .null, .int 0, .null, .null, .null, .null, .null, .null, .null, .null, .null, .null, .null, .null, .null, .null, .null, .null, .int 0, .int 0, .null, .null, .null, .int 0, .null, .int 0, .null, .int 0, .int 0, .int 0, .int 0, .int 0]) := (congrFun hG3 _).trans ((va_up_ne _ _ (by omega)).trans hF)
  have fr : ∀ i, i < 213 → G3 i = F i := fun i hi => (congrFun hG3 _).trans ((va_up_ne _ _ (by omega)).trans (fr i hi))
  have g1 : G3 (214) = ari cA 4 := (congrFun hG3 _).trans ((va_up_ne _ _ (by omega)).trans g1)
  have g3 : G3 (215) = ari cA 4 := by rw [hG3]; exact va_up_self _ _ _
  refine b_put (Cn := RX8) (T := TX8) (N := 37) (ci := 8) (sl := 3) hx hb hts hown hK hh inG8 tyX8 tyX8_ok nmX8 rfl (by omega) hF (by decide) LF_8_13 hin rfl (tyX8_ok 3 (by decide)) (by first | rfl | decide) (by first | rfl | decide) (Nat.le_of_ble_eq_true rfl) dX8_init_15 (fun H locs hh => ?_)
  obtain ⟨G4, hG4⟩ : ∃ G, G = va_up G3 (213) (.inr (8, [.int 0, .int 0, .ref (B + (214)), .ref (B + (215)), .null, .null, .int 0, .null, .null, .null, .null, .null, .null, .null, .null, .null, .null, .null, .null, .null, .null, .null, .null, .int 0, .int 0, .null, .null, .null, .int 0, .null, .int 0, .null, .int 0, .int 0, .int 0, .int 0, .int 0])) := ⟨_, rfl⟩
  have hh : HB D B s (216) (va_up G3 (213) (.inr (8, [.int 0, .int 0, .ref (B + (214)), .ref (B + (215)), .null, .null, .int 0, .null, .null, .null, .null, .null, .null, .null, .null, .null, .null, .null, .null, .null, .null, .null, .null, .int 0, .int 0, .null, .null, .null, .int 0, .null, .int 0, .null, .int 0, .int 0, .int 0, .int 0, .int 0]))) H locs := hh
  rw [← hG4] at hh
  have fr : ∀ i, i < 213 → G4 i = F i := fun i hi => (congrFun hG4 _).trans ((va_up_ne _ _ (by omega)).trans (fr i hi))
  have g1 : G4 (214) = ari cA 4 := (congrFun hG4 _).trans ((va_up_ne _ _ (by omega)).trans g1)
  have g3 : G4 (215) = ari cA 4 := (congrFun hG4 _).trans ((va_up_ne _ _ (by omega)).trans g3)
  have hF : G4 (213) = .inr (8, [.int 0, .int 0, .ref (B + (214)), .ref (B + (215)), .null, .null, .int 0, .null, .null, .null, .null, .null, .null, .null, .null, .null, .null, .null, .null, .null, .null, .null, .null, .int 0, .int 0, .null, .null, .null, .int 0, .null, .int 0, .null, .int 0, .int 0, .int 0, .int 0, .int 0]) := by rw [hG4]; exact va_up_self _ _ _
  refine lv_aload_n hx hb dX8_init_18 rfl (lv_at hl 0 rfl) ?_
  refine lv_iconst (v := (4 : Int32)) hx hb dX8_init_19 (by decide) ?_
  refine b_newa (atype := .int) (ty := .int) (N := 4) (t0 := 0) (a0 := (4, .inl (fun _ => 0))) hx hb hts hK hh AC_i rfl (fun _ h => h) rfl (fun _ => rfl) (by decide) (by decide) (by decide) (Nat.le_of_ble_eq_true rfl) (Nat.le_of_ble_eq_true rfl) dX8_init_20 (fun H hh => ?_)
  obtain ⟨G5, hG5⟩ : ∃ G, G = va_up G4 (216) (ari cA 4) := ⟨_, rfl⟩
  have hh : HB D B s (217) (va_up G4 (216) (ari cA 4)) H locs := hh
  rw [← hG5] at hh
  have hF : G5 (213) = .inr (8, [.int 0, .int 0, .ref (B + (214)), .ref (B + (215)), .null, .null, .int 0, .null, .null, .null, .null, .null, .null, .null, .null, .null, .null, .null, .null, .null, .null, .null, .null, .int 0, .int 0, .null, .null, .null, .int 0, .null, .int 0, .null, .int 0, .int 0, .int 0, .int 0, .int 0]) := (congrFun hG5 _).trans ((va_up_ne _ _ (by omega)).trans hF)
  have fr : ∀ i, i < 213 → G5 i = F i := fun i hi => (congrFun hG5 _).trans ((va_up_ne _ _ (by omega)).trans (fr i hi))
  have g1 : G5 (214) = ari cA 4 := (congrFun hG5 _).trans ((va_up_ne _ _ (by omega)).trans g1)
  have g3 : G5 (215) = ari cA 4 := (congrFun hG5 _).trans ((va_up_ne _ _ (by omega)).trans g3)
  have g5 : G5 (216) = ari cA 4 := by rw [hG5]; exact va_up_self _ _ _
  refine b_put (Cn := RX8) (T := TX8) (N := 37) (ci := 8) (sl := 4) hx hb hts hown hK hh inG8 tyX8 tyX8_ok nmX8 rfl (by omega) hF (by decide) LF_8_16 hin rfl (tyX8_ok 4 (by decide)) (by first | rfl | decide) (by first | rfl | decide) (Nat.le_of_ble_eq_true rfl) dX8_init_22 (fun H locs hh => ?_)
  obtain ⟨G6, hG6⟩ : ∃ G, G = va_up G5 (213) (.inr (8, [.int 0, .int 0, .ref (B + (214)), .ref (B + (215)), .ref (B + (216)), .null, .int 0, .null, .null, .null, .null, .null, .null, .null, .null, .null, .null, .null, .null, .null, .null, .null, .null, .int 0, .int 0, .null, .null, .null, .int 0, .null, .int 0, .null, .int 0, .int 0, .int 0, .int 0, .int 0])) := ⟨_, rfl⟩
  have hh : HB D B s (217) (va_up G5 (213) (.inr (8, [.int 0, .int 0, .ref (B + (214)), .ref (B + (215)), .ref (B + (216)), .null, .int 0, .null, .null, .null, .null, .null, .null, .null, .null, .null, .null, .null, .null, .null, .null, .null, .null, .int 0, .int 0, .null, .null, .null, .int 0, .null, .int 0, .null, .int 0, .int 0, .int 0, .int 0, .int 0]))) H locs := hh
  rw [← hG6] at hh
  have fr : ∀ i, i < 213 → G6 i = F i := fun i hi => (congrFun hG6 _).trans ((va_up_ne _ _ (by omega)).trans (fr i hi))
  have g1 : G6 (214) = ari cA 4 := (congrFun hG6 _).trans ((va_up_ne _ _ (by omega)).trans g1)
  have g3 : G6 (215) = ari cA 4 := (congrFun hG6 _).trans ((va_up_ne _ _ (by omega)).trans g3)
  have g5 : G6 (216) = ari cA 4 := (congrFun hG6 _).trans ((va_up_ne _ _ (by omega)).trans g5)
  have hF : G6 (213) = .inr (8, [.int 0, .int 0, .ref (B + (214)), .ref (B + (215)), .ref (B + (216)), .null, .int 0, .null, .null, .null, .null, .null, .null, .null, .null, .null, .null, .null, .null, .null, .null, .null, .null, .int 0, .int 0, .null, .null, .null, .int 0, .null, .int 0, .null, .int 0, .int 0, .int 0, .int 0, .int 0]) := by rw [hG6]; exact va_up_self _ _ _
  refine lv_aload_n hx hb dX8_init_25 rfl (lv_at hl 0 rfl) ?_
  refine lv_sipush (v := (1024 : Int32)) hx hb dX8_init_26 (by decide) ?_
  refine b_newa (atype := .boolean) (ty := .boolean) (N := 1024) (t0 := 1) (a0 := (1024, .inl (fun _ => 0))) hx hb hts hK hh AC_z rfl (fun _ h => h) rfl (fun _ => rfl) (by decide) (by decide) (by decide) (Nat.le_of_ble_eq_true rfl) (Nat.le_of_ble_eq_true rfl) dX8_init_29 (fun H hh => ?_)
  obtain ⟨G7, hG7⟩ : ∃ G, G = va_up G6 (217) (arz cA 1024) := ⟨_, rfl⟩
  have hh : HB D B s (218) (va_up G6 (217) (arz cA 1024)) H locs := hh
  rw [← hG7] at hh
  have hF : G7 (213) = .inr (8, [.int 0, .int 0, .ref (B + (214)), .ref (B + (215)), .ref (B + (216)), .null, .int 0, .null, .null, .null, .null, .null, .null, .null, .null, .null, .null, .null, .null, .null, .null, .null, .null, .int 0, .int 0, .null, .null, .null, .int 0, .null, .int 0, .null, .int 0, .int 0, .int 0, .int 0, .int 0]) := (congrFun hG7 _).trans ((va_up_ne _ _ (by omega)).trans hF)
  have fr : ∀ i, i < 213 → G7 i = F i := fun i hi => (congrFun hG7 _).trans ((va_up_ne _ _ (by omega)).trans (fr i hi))
  have g1 : G7 (214) = ari cA 4 := (congrFun hG7 _).trans ((va_up_ne _ _ (by omega)).trans g1)
  have g3 : G7 (215) = ari cA 4 := (congrFun hG7 _).trans ((va_up_ne _ _ (by omega)).trans g3)
  have g5 : G7 (216) = ari cA 4 := (congrFun hG7 _).trans ((va_up_ne _ _ (by omega)).trans g5)
  have g7 : G7 (217) = arz cA 1024 := by rw [hG7]; exact va_up_self _ _ _
  refine b_put (Cn := RX8) (T := TX8) (N := 37) (ci := 8) (sl := 5) hx hb hts hown hK hh inG8 tyX8 tyX8_ok nmX8 rfl (by omega) hF (by decide) LF_8_19 hin rfl (tyX8_ok 5 (by decide)) (by first | rfl | decide) (by first | rfl | decide) (Nat.le_of_ble_eq_true rfl) dX8_init_31 (fun H locs hh => ?_)
  obtain ⟨G8, hG8⟩ : ∃ G, G = va_up G7 (213) (.inr (8, [.int 0, .int 0, .ref (B + (214)), .ref (B + (215)), .ref (B + (216)), .ref (B + (217)), .int 0, .null, .null, .null, .null, .null, .null, .null, .null, .null, .null, .null, .null, .null, .null, .null, .null, .int 0, .int 0, .null, .null, .null, .int 0, .null, .int 0, .null, .int 0, .int 0, .int 0, .int 0, .int 0])) := ⟨_, rfl⟩
  have hh : HB D B s (218) (va_up G7 (213) (.inr (8, [.int 0, .int 0, .ref (B + (214)), .ref (B + (215)), .ref (B + (216)), .ref (B + (217)), .int 0, .null, .null, .null, .null, .null, .null, .null, .null, .null, .null, .null, .null, .null, .null, .null, .null, .int 0, .int 0, .null, .null, .null, .int 0, .null, .int 0, .null, .int 0, .int 0, .int 0, .int 0, .int 0]))) H locs := hh
  rw [← hG8] at hh
  have fr : ∀ i, i < 213 → G8 i = F i := fun i hi => (congrFun hG8 _).trans ((va_up_ne _ _ (by omega)).trans (fr i hi))
  have g1 : G8 (214) = ari cA 4 := (congrFun hG8 _).trans ((va_up_ne _ _ (by omega)).trans g1)
  have g3 : G8 (215) = ari cA 4 := (congrFun hG8 _).trans ((va_up_ne _ _ (by omega)).trans g3)
  have g5 : G8 (216) = ari cA 4 := (congrFun hG8 _).trans ((va_up_ne _ _ (by omega)).trans g5)
  have g7 : G8 (217) = arz cA 1024 := (congrFun hG8 _).trans ((va_up_ne _ _ (by omega)).trans g7)
  have hF : G8 (213) = .inr (8, [.int 0, .int 0, .ref (B + (214)), .ref (B + (215)), .ref (B + (216)), .ref (B + (217)), .int 0, .null, .null, .null, .null, .null, .null, .null, .null, .null, .null, .null, .null, .null, .null, .null, .null, .int 0, .int 0, .null, .null, .null, .int 0, .null, .int 0, .null, .int 0, .int 0, .int 0, .int 0, .int 0]) := by rw [hG8]; exact va_up_self _ _ _
  refine lv_aload_n hx hb dX8_init_34 rfl (lv_at hl 0 rfl) ?_
  refine lv_sipush (v := (1024 : Int32)) hx hb dX8_init_35 (by decide) ?_
  refine b_newa (atype := .int) (ty := .int) (N := 1024) (t0 := 0) (a0 := (1024, .inl (fun _ => 0))) hx hb hts hK hh AC_i rfl (fun _ h => h) rfl (fun _ => rfl) (by decide) (by decide) (by decide) (Nat.le_of_ble_eq_true rfl) (Nat.le_of_ble_eq_true rfl) dX8_init_38 (fun H hh => ?_)
  obtain ⟨G9, hG9⟩ : ∃ G, G = va_up G8 (218) (ari cA 1024) := ⟨_, rfl⟩
  have hh : HB D B s (219) (va_up G8 (218) (ari cA 1024)) H locs := hh
  rw [← hG9] at hh
  have hF : G9 (213) = .inr (8, [.int 0, .int 0, .ref (B + (214)), .ref (B + (215)), .ref (B + (216)), .ref (B + (217)), .int 0, .null, .null, .null, .null, .null, .null, .null, .null, .null, .null, .null, .null, .null, .null, .null, .null, .int 0, .int 0, .null, .null, .null, .int 0, .null, .int 0, .null, .int 0, .int 0, .int 0, .int 0, .int 0]) := (congrFun hG9 _).trans ((va_up_ne _ _ (by omega)).trans hF)
  have fr : ∀ i, i < 213 → G9 i = F i := fun i hi => (congrFun hG9 _).trans ((va_up_ne _ _ (by omega)).trans (fr i hi))
  have g1 : G9 (214) = ari cA 4 := (congrFun hG9 _).trans ((va_up_ne _ _ (by omega)).trans g1)
  have g3 : G9 (215) = ari cA 4 := (congrFun hG9 _).trans ((va_up_ne _ _ (by omega)).trans g3)
  have g5 : G9 (216) = ari cA 4 := (congrFun hG9 _).trans ((va_up_ne _ _ (by omega)).trans g5)
  have g7 : G9 (217) = arz cA 1024 := (congrFun hG9 _).trans ((va_up_ne _ _ (by omega)).trans g7)
  have g9 : G9 (218) = ari cA 1024 := by rw [hG9]; exact va_up_self _ _ _
  refine b_put (Cn := RX8) (T := TX8) (N := 37) (ci := 8) (sl := 7) hx hb hts hown hK hh inG8 tyX8 tyX8_ok nmX8 rfl (by omega) hF (by decide) LF_8_23 hin rfl (tyX8_ok 7 (by decide)) (by first | rfl | decide) (by first | rfl | decide) (Nat.le_of_ble_eq_true rfl) dX8_init_40 (fun H locs hh => ?_)
  obtain ⟨G10, hG10⟩ : ∃ G, G = va_up G9 (213) (.inr (8, [.int 0, .int 0, .ref (B + (214)), .ref (B + (215)), .ref (B + (216)), .ref (B + (217)), .int 0, .ref (B + (218)), .null, .null, .null, .null, .null, .null, .null, .null, .null, .null, .null, .null, .null, .null, .null, .int 0, .int 0, .null, .null, .null, .int 0, .null, .int 0, .null, .int 0, .int 0, .int 0, .int 0, .int 0])) := ⟨_, rfl⟩
  have hh : HB D B s (219) (va_up G9 (213) (.inr (8, [.int 0, .int 0, .ref (B + (214)), .ref (B + (215)), .ref (B + (216)), .ref (B + (217)), .int 0, .ref (B + (218)), .null, .null, .null, .null, .null, .null, .null, .null, .null, .null, .null, .null, .null, .null, .null, .int 0, .int 0, .null, .null, .null, .int 0, .null, .int 0, .null, .int 0, .int 0, .int 0, .int 0, .int 0]))) H locs := hh
  rw [← hG10] at hh
  have fr : ∀ i, i < 213 → G10 i = F i := fun i hi => (congrFun hG10 _).trans ((va_up_ne _ _ (by omega)).trans (fr i hi))
  have g1 : G10 (214) = ari cA 4 := (congrFun hG10 _).trans ((va_up_ne _ _ (by omega)).trans g1)
  have g3 : G10 (215) = ari cA 4 := (congrFun hG10 _).trans ((va_up_ne _ _ (by omega)).trans g3)
  have g5 : G10 (216) = ari cA 4 := (congrFun hG10 _).trans ((va_up_ne _ _ (by omega)).trans g5)
  have g7 : G10 (217) = arz cA 1024 := (congrFun hG10 _).trans ((va_up_ne _ _ (by omega)).trans g7)
  have g9 : G10 (218) = ari cA 1024 := (congrFun hG10 _).trans ((va_up_ne _ _ (by omega)).trans g9)
  have hF : G10 (213) = .inr (8, [.int 0, .int 0, .ref (B + (214)), .ref (B + (215)), .ref (B + (216)), .ref (B + (217)), .int 0, .ref (B + (218)), .null, .null, .null, .null, .null, .null, .null, .null, .null, .null, .null, .null, .null, .null, .null, .int 0, .int 0, .null, .null, .null, .int 0, .null, .int 0, .null, .int 0, .int 0, .int 0, .int 0, .int 0]) := by rw [hG10]; exact va_up_self _ _ _
  refine lv_aload_n hx hb dX8_init_43 rfl (lv_at hl 0 rfl) ?_
  refine lv_sipush (v := (1024 : Int32)) hx hb dX8_init_44 (by decide) ?_
  refine b_newa (atype := .int) (ty := .int) (N := 1024) (t0 := 0) (a0 := (1024, .inl (fun _ => 0))) hx hb hts hK hh AC_i rfl (fun _ h => h) rfl (fun _ => rfl) (by decide) (by decide) (by decide) (Nat.le_of_ble_eq_true rfl) (Nat.le_of_ble_eq_true rfl) dX8_init_47 (fun H hh => ?_)
  obtain ⟨G11, hG11⟩ : ∃ G, G = va_up G10 (219) (ari cA 1024) := ⟨_, rfl⟩
  have hh : HB D B s (220) (va_up G10 (219) (ari cA 1024)) H locs := hh
  rw [← hG11] at hh
  have hF : G11 (213) = .inr (8, [.int 0, .int 0, .ref (B + (214)), .ref (B + (215)), .ref (B + (216)), .ref (B + (217)), .int 0, .ref (B + (218)), .null, .null, .null, .null, .null, .null, .null, .null, .null, .null, .null, .null, .null, .null, .null, .int 0, .int 0, .null, .null, .null, .int 0, .null, .int 0, .null, .int 0, .int 0, .int 0, .int 0, .int 0]) := (congrFun hG11 _).trans ((va_up_ne _ _ (by omega)).trans hF)
  have fr : ∀ i, i < 213 → G11 i = F i := fun i hi => (congrFun hG11 _).trans ((va_up_ne _ _ (by omega)).trans (fr i hi))
  have g1 : G11 (214) = ari cA 4 := (congrFun hG11 _).trans ((va_up_ne _ _ (by omega)).trans g1)
  have g3 : G11 (215) = ari cA 4 := (congrFun hG11 _).trans ((va_up_ne _ _ (by omega)).trans g3)
  have g5 : G11 (216) = ari cA 4 := (congrFun hG11 _).trans ((va_up_ne _ _ (by omega)).trans g5)
  have g7 : G11 (217) = arz cA 1024 := (congrFun hG11 _).trans ((va_up_ne _ _ (by omega)).trans g7)
  have g9 : G11 (218) = ari cA 1024 := (congrFun hG11 _).trans ((va_up_ne _ _ (by omega)).trans g9)
  have g11 : G11 (219) = ari cA 1024 := by rw [hG11]; exact va_up_self _ _ _
  refine b_put (Cn := RX8) (T := TX8) (N := 37) (ci := 8) (sl := 8) hx hb hts hown hK hh inG8 tyX8 tyX8_ok nmX8 rfl (by omega) hF (by decide) LF_8_26 hin rfl (tyX8_ok 8 (by decide)) (by first | rfl | decide) (by first | rfl | decide) (Nat.le_of_ble_eq_true rfl) dX8_init_49 (fun H locs hh => ?_)
  obtain ⟨G12, hG12⟩ : ∃ G, G = va_up G11 (213) (.inr (8, [.int 0, .int 0, .ref (B + (214)), .ref (B + (215)), .ref (B + (216)), .ref (B + (217)), .int 0, .ref (B + (218)), .ref (B + (219)), .null, .null, .null, .null, .null, .null, .null, .null, .null, .null, .null, .null, .null, .null, .int 0, .int 0, .null, .null, .null, .int 0, .null, .int 0, .null, .int 0, .int 0, .int 0, .int 0, .int 0])) := ⟨_, rfl⟩
  have hh : HB D B s (220) (va_up G11 (213) (.inr (8, [.int 0, .int 0, .ref (B + (214)), .ref (B + (215)), .ref (B + (216)), .ref (B + (217)), .int 0, .ref (B + (218)), .ref (B + (219)), .null, .null, .null, .null, .null, .null, .null, .null, .null, .null, .null, .null, .null, .null, .int 0, .int 0, .null, .null, .null, .int 0, .null, .int 0, .null, .int 0, .int 0, .int 0, .int 0, .int 0]))) H locs := hh
  rw [← hG12] at hh
  have fr : ∀ i, i < 213 → G12 i = F i := fun i hi => (congrFun hG12 _).trans ((va_up_ne _ _ (by omega)).trans (fr i hi))
  have g1 : G12 (214) = ari cA 4 := (congrFun hG12 _).trans ((va_up_ne _ _ (by omega)).trans g1)
  have g3 : G12 (215) = ari cA 4 := (congrFun hG12 _).trans ((va_up_ne _ _ (by omega)).trans g3)
  have g5 : G12 (216) = ari cA 4 := (congrFun hG12 _).trans ((va_up_ne _ _ (by omega)).trans g5)
  have g7 : G12 (217) = arz cA 1024 := (congrFun hG12 _).trans ((va_up_ne _ _ (by omega)).trans g7)
  have g9 : G12 (218) = ari cA 1024 := (congrFun hG12 _).trans ((va_up_ne _ _ (by omega)).trans g9)
  have g11 : G12 (219) = ari cA 1024 := (congrFun hG12 _).trans ((va_up_ne _ _ (by omega)).trans g11)
  have hF : G12 (213) = .inr (8, [.int 0, .int 0, .ref (B + (214)), .ref (B + (215)), .ref (B + (216)), .ref (B + (217)), .int 0, .ref (B + (218)), .ref (B + (219)), .null, .null, .null, .null, .null, .null, .null, .null, .null, .null, .null, .null, .null, .null, .int 0, .int 0, .null, .null, .null, .int 0, .null, .int 0, .null, .int 0, .int 0, .int 0, .int 0, .int 0]) := by rw [hG12]; exact va_up_self _ _ _
  refine lv_aload_n hx hb dX8_init_52 rfl (lv_at hl 0 rfl) ?_
  refine lv_sipush (v := (1024 : Int32)) hx hb dX8_init_53 (by decide) ?_
  refine b_newa (atype := .int) (ty := .int) (N := 1024) (t0 := 0) (a0 := (1024, .inl (fun _ => 0))) hx hb hts hK hh AC_i rfl (fun _ h => h) rfl (fun _ => rfl) (by decide) (by decide) (by decide) (Nat.le_of_ble_eq_true rfl) (Nat.le_of_ble_eq_true rfl) dX8_init_56 (fun H hh => ?_)
  obtain ⟨G13, hG13⟩ : ∃ G, G = va_up G12 (220) (ari cA 1024) := ⟨_, rfl⟩
  have hh : HB D B s (221) (va_up G12 (220) (ari cA 1024)) H locs := hh
  rw [← hG13] at hh
  have hF : G13 (213) = .inr (8, [.int 0, .int 0, .ref (B + (214)), .ref (B + (215)), .ref (B + (216)), .ref (B + (217)), .int 0, .ref (B + (218)), .ref (B + (219)), .null, .null, .null, .null, .null, .null, .null, .null, .null, .null, .null, .null, .null, .null, .int 0, .int 0, .null, .null, .null, .int 0, .null, .int 0, .null, .int 0, .int 0, .int 0, .int 0, .int 0]) := (congrFun hG13 _).trans ((va_up_ne _ _ (by omega)).trans hF)
  have fr : ∀ i, i < 213 → G13 i = F i := fun i hi => (congrFun hG13 _).trans ((va_up_ne _ _ (by omega)).trans (fr i hi))
  have g1 : G13 (214) = ari cA 4 := (congrFun hG13 _).trans ((va_up_ne _ _ (by omega)).trans g1)
  have g3 : G13 (215) = ari cA 4 := (congrFun hG13 _).trans ((va_up_ne _ _ (by omega)).trans g3)
  have g5 : G13 (216) = ari cA 4 := (congrFun hG13 _).trans ((va_up_ne _ _ (by omega)).trans g5)
  have g7 : G13 (217) = arz cA 1024 := (congrFun hG13 _).trans ((va_up_ne _ _ (by omega)).trans g7)
  have g9 : G13 (218) = ari cA 1024 := (congrFun hG13 _).trans ((va_up_ne _ _ (by omega)).trans g9)
  have g11 : G13 (219) = ari cA 1024 := (congrFun hG13 _).trans ((va_up_ne _ _ (by omega)).trans g11)
  have g13 : G13 (220) = ari cA 1024 := by rw [hG13]; exact va_up_self _ _ _
  refine b_put (Cn := RX8) (T := TX8) (N := 37) (ci := 8) (sl := 9) hx hb hts hown hK hh inG8 tyX8 tyX8_ok nmX8 rfl (by omega) hF (by decide) LF_8_29 hin rfl (tyX8_ok 9 (by decide)) (by first | rfl | decide) (by first | rfl | decide) (Nat.le_of_ble_eq_true rfl) dX8_init_58 (fun H locs hh => ?_)
  obtain ⟨G14, hG14⟩ : ∃ G, G = va_up G13 (213) (.inr (8, [.int 0, .int 0, .ref (B + (214)), .ref (B + (215)), .ref (B + (216)), .ref (B + (217)), .int 0, .ref (B + (218)), .ref (B + (219)), .ref (B + (220)), .null, .null, .null, .null, .null, .null, .null, .null, .null, .null, .null, .null, .null, .int 0, .int 0, .null, .null, .null, .int 0, .null, .int 0, .null, .int 0, .int 0, .int 0, .int 0, .int 0])) := ⟨_, rfl⟩
  have hh : HB D B s (221) (va_up G13 (213) (.inr (8, [.int 0, .int 0, .ref (B + (214)), .ref (B + (215)), .ref (B + (216)), .ref (B + (217)), .int 0, .ref (B + (218)), .ref (B + (219)), .ref (B + (220)), .null, .null, .null, .null, .null, .null, .null, .null, .null, .null, .null, .null, .null, .int 0, .int 0, .null, .null, .null, .int 0, .null, .int 0, .null, .int 0, .int 0, .int 0, .int 0, .int 0]))) H locs := hh
  rw [← hG14] at hh
  have fr : ∀ i, i < 213 → G14 i = F i := fun i hi => (congrFun hG14 _).trans ((va_up_ne _ _ (by omega)).trans (fr i hi))
  have g1 : G14 (214) = ari cA 4 := (congrFun hG14 _).trans ((va_up_ne _ _ (by omega)).trans g1)
  have g3 : G14 (215) = ari cA 4 := (congrFun hG14 _).trans ((va_up_ne _ _ (by omega)).trans g3)
  have g5 : G14 (216) = ari cA 4 := (congrFun hG14 _).trans ((va_up_ne _ _ (by omega)).trans g5)
  have g7 : G14 (217) = arz cA 1024 := (congrFun hG14 _).trans ((va_up_ne _ _ (by omega)).trans g7)
  have g9 : G14 (218) = ari cA 1024 := (congrFun hG14 _).trans ((va_up_ne _ _ (by omega)).trans g9)
  have g11 : G14 (219) = ari cA 1024 := (congrFun hG14 _).trans ((va_up_ne _ _ (by omega)).trans g11)
  have g13 : G14 (220) = ari cA 1024 := (congrFun hG14 _).trans ((va_up_ne _ _ (by omega)).trans g13)
  have hF : G14 (213) = .inr (8, [.int 0, .int 0, .ref (B + (214)), .ref (B + (215)), .ref (B + (216)), .ref (B + (217)), .int 0, .ref (B + (218)), .ref (B + (219)), .ref (B + (220)), .null, .null, .null, .null, .null, .null, .null, .null, .null, .null, .null, .null, .null, .int 0, .int 0, .null, .null, .null, .int 0, .null, .int 0, .null, .int 0, .int 0, .int 0, .int 0, .int 0]) := by rw [hG14]; exact va_up_self _ _ _
  refine lv_aload_n hx hb dX8_init_61 rfl (lv_at hl 0 rfl) ?_
  refine lv_bipush (v := (12 : Int32)) hx hb dX8_init_62 (by decide) ?_
  refine b_newa (atype := .int) (ty := .int) (N := 12) (t0 := 0) (a0 := (12, .inl (fun _ => 0))) hx hb hts hK hh AC_i rfl (fun _ h => h) rfl (fun _ => rfl) (by decide) (by decide) (by decide) (Nat.le_of_ble_eq_true rfl) (Nat.le_of_ble_eq_true rfl) dX8_init_64 (fun H hh => ?_)
  obtain ⟨G15, hG15⟩ : ∃ G, G = va_up G14 (221) (ari cA 12) := ⟨_, rfl⟩
  have hh : HB D B s (222) (va_up G14 (221) (ari cA 12)) H locs := hh
  rw [← hG15] at hh
  have hF : G15 (213) = .inr (8, [.int 0, .int 0, .ref (B + (214)), .ref (B + (215)), .ref (B + (216)), .ref (B + (217)), .int 0, .ref (B + (218)), .ref (B + (219)), .ref (B + (220)), .null, .null, .null, .null, .null, .null, .null, .null, .null, .null, .null, .null, .null, .int 0, .int 0, .null, .null, .null, .int 0, .null, .int 0, .null, .int 0, .int 0, .int 0, .int 0, .int 0]) := (congrFun hG15 _).trans ((va_up_ne _ _ (by omega)).trans hF)
  have fr : ∀ i, i < 213 → G15 i = F i := fun i hi => (congrFun hG15 _).trans ((va_up_ne _ _ (by omega)).trans (fr i hi))
  have g1 : G15 (214) = ari cA 4 := (congrFun hG15 _).trans ((va_up_ne _ _ (by omega)).trans g1)
  have g3 : G15 (215) = ari cA 4 := (congrFun hG15 _).trans ((va_up_ne _ _ (by omega)).trans g3)
  have g5 : G15 (216) = ari cA 4 := (congrFun hG15 _).trans ((va_up_ne _ _ (by omega)).trans g5)
  have g7 : G15 (217) = arz cA 1024 := (congrFun hG15 _).trans ((va_up_ne _ _ (by omega)).trans g7)
  have g9 : G15 (218) = ari cA 1024 := (congrFun hG15 _).trans ((va_up_ne _ _ (by omega)).trans g9)
  have g11 : G15 (219) = ari cA 1024 := (congrFun hG15 _).trans ((va_up_ne _ _ (by omega)).trans g11)
  have g13 : G15 (220) = ari cA 1024 := (congrFun hG15 _).trans ((va_up_ne _ _ (by omega)).trans g13)
  have g15 : G15 (221) = ari cA 12 := by rw [hG15]; exact va_up_self _ _ _
  refine b_put (Cn := RX8) (T := TX8) (N := 37) (ci := 8) (sl := 10) hx hb hts hown hK hh inG8 tyX8 tyX8_ok nmX8 rfl (by omega) hF (by decide) LF_8_32 hin rfl (tyX8_ok 10 (by decide)) (by first | rfl | decide) (by first | rfl | decide) (Nat.le_of_ble_eq_true rfl) dX8_init_66 (fun H locs hh => ?_)
  obtain ⟨G16, hG16⟩ : ∃ G, G = va_up G15 (213) (.inr (8, [.int 0, .int 0, .ref (B + (214)), .ref (B + (215)), .ref (B + (216)), .ref (B + (217)), .int 0, .ref (B + (218)), .ref (B + (219)), .ref (B + (220)), .ref (B + (221)), .null, .null, .null, .null, .null, .null, .null, .null, .null, .null, .null, .null, .int 0, .int 0, .null, .null, .null, .int 0, .null, .int 0, .null, .int 0, .int 0, .int 0, .int 0, .int 0])) := ⟨_, rfl⟩
  have hh : HB D B s (222) (va_up G15 (213) (.inr (8, [.int 0, .int 0, .ref (B + (214)), .ref (B + (215)), .ref (B + (216)), .ref (B + (217)), .int 0, .ref (B + (218)), .ref (B + (219)), .ref (B + (220)), .ref (B + (221)), .null, .null, .null, .null, .null, .null, .null, .null, .null, .null, .null, .null, .int 0, .int 0, .null, .null, .null, .int 0, .null, .int 0, .null, .int 0, .int 0, .int 0, .int 0, .int 0]))) H locs := hh
  rw [← hG16] at hh
  have fr : ∀ i, i < 213 → G16 i = F i := fun i hi => (congrFun hG16 _).trans ((va_up_ne _ _ (by omega)).trans (fr i hi))
  have g1 : G16 (214) = ari cA 4 := (congrFun hG16 _).trans ((va_up_ne _ _ (by omega)).trans g1)
  have g3 : G16 (215) = ari cA 4 := (congrFun hG16 _).trans ((va_up_ne _ _ (by omega)).trans g3)
  have g5 : G16 (216) = ari cA 4 := (congrFun hG16 _).trans ((va_up_ne _ _ (by omega)).trans g5)
  have g7 : G16 (217) = arz cA 1024 := (congrFun hG16 _).trans ((va_up_ne _ _ (by omega)).trans g7)
  have g9 : G16 (218) = ari cA 1024 := (congrFun hG16 _).trans ((va_up_ne _ _ (by omega)).trans g9)
  have g11 : G16 (219) = ari cA 1024 := (congrFun hG16 _).trans ((va_up_ne _ _ (by omega)).trans g11)
  have g13 : G16 (220) = ari cA 1024 := (congrFun hG16 _).trans ((va_up_ne _ _ (by omega)).trans g13)
  have g15 : G16 (221) = ari cA 12 := (congrFun hG16 _).trans ((va_up_ne _ _ (by omega)).trans g15)
  have hF : G16 (213) = .inr (8, [.int 0, .int 0, .ref (B + (214)), .ref (B + (215)), .ref (B + (216)), .ref (B + (217)), .int 0, .ref (B + (218)), .ref (B + (219)), .ref (B + (220)), .ref (B + (221)), .null, .null, .null, .null, .null, .null, .null, .null, .null, .null, .null, .null, .int 0, .int 0, .null, .null, .null, .int 0, .null, .int 0, .null, .int 0, .int 0, .int 0, .int 0, .int 0]) := by rw [hG16]; exact va_up_self _ _ _
  refine lv_aload_n hx hb dX8_init_69 rfl (lv_at hl 0 rfl) ?_
  refine lv_bipush (v := (12 : Int32)) hx hb dX8_init_70 (by decide) ?_
  refine b_newa (atype := .boolean) (ty := .boolean) (N := 12) (t0 := 1) (a0 := (12, .inl (fun _ => 0))) hx hb hts hK hh AC_z rfl (fun _ h => h) rfl (fun _ => rfl) (by decide) (by decide) (by decide) (Nat.le_of_ble_eq_true rfl) (Nat.le_of_ble_eq_true rfl) dX8_init_72 (fun H hh => ?_)
  obtain ⟨G17, hG17⟩ : ∃ G, G = va_up G16 (222) (arz cA 12) := ⟨_, rfl⟩
  have hh : HB D B s (223) (va_up G16 (222) (arz cA 12)) H locs := hh
  rw [← hG17] at hh
  have hF : G17 (213) = .inr (8, [.int 0, .int 0, .ref (B + (214)), .ref (B + (215)), .ref (B + (216)), .ref (B + (217)), .int 0, .ref (B + (218)), .ref (B + (219)), .ref (B + (220)), .ref (B + (221)), .null, .null, .null, .null, .null, .null, .null, .null, .null, .null, .null, .null, .int 0, .int 0, .null, .null, .null, .int 0, .null, .int 0, .null, .int 0, .int 0, .int 0, .int 0, .int 0]) := (congrFun hG17 _).trans ((va_up_ne _ _ (by omega)).trans hF)
  have fr : ∀ i, i < 213 → G17 i = F i := fun i hi => (congrFun hG17 _).trans ((va_up_ne _ _ (by omega)).trans (fr i hi))
  have g1 : G17 (214) = ari cA 4 := (congrFun hG17 _).trans ((va_up_ne _ _ (by omega)).trans g1)
  have g3 : G17 (215) = ari cA 4 := (congrFun hG17 _).trans ((va_up_ne _ _ (by omega)).trans g3)
  have g5 : G17 (216) = ari cA 4 := (congrFun hG17 _).trans ((va_up_ne _ _ (by omega)).trans g5)
  have g7 : G17 (217) = arz cA 1024 := (congrFun hG17 _).trans ((va_up_ne _ _ (by omega)).trans g7)
  have g9 : G17 (218) = ari cA 1024 := (congrFun hG17 _).trans ((va_up_ne _ _ (by omega)).trans g9)
  have g11 : G17 (219) = ari cA 1024 := (congrFun hG17 _).trans ((va_up_ne _ _ (by omega)).trans g11)
  have g13 : G17 (220) = ari cA 1024 := (congrFun hG17 _).trans ((va_up_ne _ _ (by omega)).trans g13)
  have g15 : G17 (221) = ari cA 12 := (congrFun hG17 _).trans ((va_up_ne _ _ (by omega)).trans g15)
  have g17 : G17 (222) = arz cA 12 := by rw [hG17]; exact va_up_self _ _ _
  refine b_put (Cn := RX8) (T := TX8) (N := 37) (ci := 8) (sl := 11) hx hb hts hown hK hh inG8 tyX8 tyX8_ok nmX8 rfl (by omega) hF (by decide) LF_8_35 hin rfl (tyX8_ok 11 (by decide)) (by first | rfl | decide) (by first | rfl | decide) (Nat.le_of_ble_eq_true rfl) dX8_init_74 (fun H locs hh => ?_)
  obtain ⟨G18, hG18⟩ : ∃ G, G = va_up G17 (213) (.inr (8, [.int 0, .int 0, .ref (B + (214)), .ref (B + (215)), .ref (B + (216)), .ref (B + (217)), .int 0, .ref (B + (218)), .ref (B + (219)), .ref (B + (220)), .ref (B + (221)), .ref (B + (222)), .null, .null, .null, .null, .null, .null, .null, .null, .null, .null, .null, .int 0, .int 0, .null, .null, .null, .int 0, .null, .int 0, .null, .int 0, .int 0, .int 0, .int 0, .int 0])) := ⟨_, rfl⟩
  have hh : HB D B s (223) (va_up G17 (213) (.inr (8, [.int 0, .int 0, .ref (B + (214)), .ref (B + (215)), .ref (B + (216)), .ref (B + (217)), .int 0, .ref (B + (218)), .ref (B + (219)), .ref (B + (220)), .ref (B + (221)), .ref (B + (222)), .null, .null, .null, .null, .null, .null, .null, .null, .null, .null, .null, .int 0, .int 0, .null, .null, .null, .int 0, .null, .int 0, .null, .int 0, .int 0, .int 0, .int 0, .int 0]))) H locs := hh
  rw [← hG18] at hh
  have fr : ∀ i, i < 213 → G18 i = F i := fun i hi => (congrFun hG18 _).trans ((va_up_ne _ _ (by omega)).trans (fr i hi))
  have g1 : G18 (214) = ari cA 4 := (congrFun hG18 _).trans ((va_up_ne _ _ (by omega)).trans g1)
  have g3 : G18 (215) = ari cA 4 := (congrFun hG18 _).trans ((va_up_ne _ _ (by omega)).trans g3)
  have g5 : G18 (216) = ari cA 4 := (congrFun hG18 _).trans ((va_up_ne _ _ (by omega)).trans g5)
  have g7 : G18 (217) = arz cA 1024 := (congrFun hG18 _).trans ((va_up_ne _ _ (by omega)).trans g7)
  have g9 : G18 (218) = ari cA 1024 := (congrFun hG18 _).trans ((va_up_ne _ _ (by omega)).trans g9)
  have g11 : G18 (219) = ari cA 1024 := (congrFun hG18 _).trans ((va_up_ne _ _ (by omega)).trans g11)
  have g13 : G18 (220) = ari cA 1024 := (congrFun hG18 _).trans ((va_up_ne _ _ (by omega)).trans g13)
  have g15 : G18 (221) = ari cA 12 := (congrFun hG18 _).trans ((va_up_ne _ _ (by omega)).trans g15)
  have g17 : G18 (222) = arz cA 12 := (congrFun hG18 _).trans ((va_up_ne _ _ (by omega)).trans g17)
  have hF : G18 (213) = .inr (8, [.int 0, .int 0, .ref (B + (214)), .ref (B + (215)), .ref (B + (216)), .ref (B + (217)), .int 0, .ref (B + (218)), .ref (B + (219)), .ref (B + (220)), .ref (B + (221)), .ref (B + (222)), .null, .null, .null, .null, .null, .null, .null, .null, .null, .null, .null, .int 0, .int 0, .null, .null, .null, .int 0, .null, .int 0, .null, .int 0, .int 0, .int 0, .int 0, .int 0]) := by rw [hG18]; exact va_up_self _ _ _
  refine lv_aload_n hx hb dX8_init_77 rfl (lv_at hl 0 rfl) ?_
  refine lv_bipush (v := (12 : Int32)) hx hb dX8_init_78 (by decide) ?_
  refine b_newa (atype := .int) (ty := .int) (N := 12) (t0 := 0) (a0 := (12, .inl (fun _ => 0))) hx hb hts hK hh AC_i rfl (fun _ h => h) rfl (fun _ => rfl) (by decide) (by decide) (by decide) (Nat.le_of_ble_eq_true rfl) (Nat.le_of_ble_eq_true rfl) dX8_init_80 (fun H hh => ?_)
  obtain ⟨G19, hG19⟩ : ∃ G, G = va_up G18 (223) (ari cA 12) := ⟨_, rfl⟩
  have hh : HB D B s (224) (va_up G18 (223) (ari cA 12)) H locs := hh
  rw [← hG19] at hh
  have hF : G19 (213) = .inr (8, [.int 0, .int 0, .ref (B + (214)), .ref (B + (215)), .ref (B + (216)), .ref (B + (217)), .int 0, .ref (B + (218)), .ref (B + (219)), .ref (B + (220)), .ref (B + (221)), .ref (B + (222)), .null, .null, .null, .null, .null, .null, .null, .null, .null, .null, .null, .int 0, .int 0, .null, .null, .null, .int 0, .null, .int 0, .null, .int 0, .int 0, .int 0, .int 0, .int 0]) := (congrFun hG19 _).trans ((va_up_ne _ _ (by omega)).trans hF)
  have fr : ∀ i, i < 213 → G19 i = F i := fun i hi => (congrFun hG19 _).trans ((va_up_ne _ _ (by omega)).trans (fr i hi))
  have g1 : G19 (214) = ari cA 4 := (congrFun hG19 _).trans ((va_up_ne _ _ (by omega)).trans g1)
  have g3 : G19 (215) = ari cA 4 := (congrFun hG19 _).trans ((va_up_ne _ _ (by omega)).trans g3)
  have g5 : G19 (216) = ari cA 4 := (congrFun hG19 _).trans ((va_up_ne _ _ (by omega)).trans g5)
  have g7 : G19 (217) = arz cA 1024 := (congrFun hG19 _).trans ((va_up_ne _ _ (by omega)).trans g7)
  have g9 : G19 (218) = ari cA 1024 := (congrFun hG19 _).trans ((va_up_ne _ _ (by omega)).trans g9)
  have g11 : G19 (219) = ari cA 1024 := (congrFun hG19 _).trans ((va_up_ne _ _ (by omega)).trans g11)
  have g13 : G19 (220) = ari cA 1024 := (congrFun hG19 _).trans ((va_up_ne _ _ (by omega)).trans g13)
  have g15 : G19 (221) = ari cA 12 := (congrFun hG19 _).trans ((va_up_ne _ _ (by omega)).trans g15)
  have g17 : G19 (222) = arz cA 12 := (congrFun hG19 _).trans ((va_up_ne _ _ (by omega)).trans g17)
  have g19 : G19 (223) = ari cA 12 := by rw [hG19]; exact va_up_self _ _ _
  refine b_put (Cn := RX8) (T := TX8) (N := 37) (ci := 8) (sl := 12) hx hb hts hown hK hh inG8 tyX8 tyX8_ok nmX8 rfl (by omega) hF (by decide) LF_8_38 hin rfl (tyX8_ok 12 (by decide)) (by first | rfl | decide) (by first | rfl | decide) (Nat.le_of_ble_eq_true rfl) dX8_init_82 (fun H locs hh => ?_)
  obtain ⟨G20, hG20⟩ : ∃ G, G = va_up G19 (213) (.inr (8, [.int 0, .int 0, .ref (B + (214)), .ref (B + (215)), .ref (B + (216)), .ref (B + (217)), .int 0, .ref (B + (218)), .ref (B + (219)), .ref (B + (220)), .ref (B + (221)), .ref (B + (222)), .ref (B + (223)), .null, .null, .null, .null, .null, .null, .null, .null, .null, .null, .int 0, .int 0, .null, .null, .null, .int 0, .null, .int 0, .null, .int 0, .int 0, .int 0, .int 0, .int 0])) := ⟨_, rfl⟩
  have hh : HB D B s (224) (va_up G19 (213) (.inr (8, [.int 0, .int 0, .ref (B + (214)), .ref (B + (215)), .ref (B + (216)), .ref (B + (217)), .int 0, .ref (B + (218)), .ref (B + (219)), .ref (B + (220)), .ref (B + (221)), .ref (B + (222)), .ref (B + (223)), .null, .null, .null, .null, .null, .null, .null, .null, .null, .null, .int 0, .int 0, .null, .null, .null, .int 0, .null, .int 0, .null, .int 0, .int 0, .int 0, .int 0, .int 0]))) H locs := hh
  rw [← hG20] at hh
  have fr : ∀ i, i < 213 → G20 i = F i := fun i hi => (congrFun hG20 _).trans ((va_up_ne _ _ (by omega)).trans (fr i hi))
  have g1 : G20 (214) = ari cA 4 := (congrFun hG20 _).trans ((va_up_ne _ _ (by omega)).trans g1)
  have g3 : G20 (215) = ari cA 4 := (congrFun hG20 _).trans ((va_up_ne _ _ (by omega)).trans g3)
  have g5 : G20 (216) = ari cA 4 := (congrFun hG20 _).trans ((va_up_ne _ _ (by omega)).trans g5)
  have g7 : G20 (217) = arz cA 1024 := (congrFun hG20 _).trans ((va_up_ne _ _ (by omega)).trans g7)
  have g9 : G20 (218) = ari cA 1024 := (congrFun hG20 _).trans ((va_up_ne _ _ (by omega)).trans g9)
  have g11 : G20 (219) = ari cA 1024 := (congrFun hG20 _).trans ((va_up_ne _ _ (by omega)).trans g11)
  have g13 : G20 (220) = ari cA 1024 := (congrFun hG20 _).trans ((va_up_ne _ _ (by omega)).trans g13)
  have g15 : G20 (221) = ari cA 12 := (congrFun hG20 _).trans ((va_up_ne _ _ (by omega)).trans g15)
  have g17 : G20 (222) = arz cA 12 := (congrFun hG20 _).trans ((va_up_ne _ _ (by omega)).trans g17)
  have g19 : G20 (223) = ari cA 12 := (congrFun hG20 _).trans ((va_up_ne _ _ (by omega)).trans g19)
  have hF : G20 (213) = .inr (8, [.int 0, .int 0, .ref (B + (214)), .ref (B + (215)), .ref (B + (216)), .ref (B + (217)), .int 0, .ref (B + (218)), .ref (B + (219)), .ref (B + (220)), .ref (B + (221)), .ref (B + (222)), .ref (B + (223)), .null, .null, .null, .null, .null, .null, .null, .null, .null, .null, .int 0, .int 0, .null, .null, .null, .int 0, .null, .int 0, .null, .int 0, .int 0, .int 0, .int 0, .int 0]) := by rw [hG20]; exact va_up_self _ _ _
  refine lv_aload_n hx hb dX8_init_85 rfl (lv_at hl 0 rfl) ?_
  refine lv_bipush (v := (12 : Int32)) hx hb dX8_init_86 (by decide) ?_
  refine b_newa (atype := .int) (ty := .int) (N := 12) (t0 := 0) (a0 := (12, .inl (fun _ => 0))) hx hb hts hK hh AC_i rfl (fun _ h => h) rfl (fun _ => rfl) (by decide) (by decide) (by decide) (Nat.le_of_ble_eq_true rfl) (Nat.le_of_ble_eq_true rfl) dX8_init_88 (fun H hh => ?_)
  obtain ⟨G21, hG21⟩ : ∃ G, G = va_up G20 (224) (ari cA 12) := ⟨_, rfl⟩
  have hh : HB D B s (225) (va_up G20 (224) (ari cA 12)) H locs := hh
  rw [← hG21] at hh
  have hF : G21 (213) = .inr (8, [.int 0, .int 0, .ref (B + (214)), .ref (B + (215)), .ref (B + (216)), .ref (B + (217)), .int 0, .ref (B + (218)), .ref (B + (219)), .ref (B + (220)), .ref (B + (221)), .ref (B + (222)), .ref (B + (223)), .null, .null, .null, .null, .null, .null, .null, .null, .null, .null, .int 0, .int 0, .null, .null, .null, .int 0, .null, .int 0, .null, .int 0, .int 0, .int 0, .int 0, .int 0]) := (congrFun hG21 _).trans ((va_up_ne _ _ (by omega)).trans hF)
  have fr : ∀ i, i < 213 → G21 i = F i := fun i hi => (congrFun hG21 _).trans ((va_up_ne _ _ (by omega)).trans (fr i hi))
  have g1 : G21 (214) = ari cA 4 := (congrFun hG21 _).trans ((va_up_ne _ _ (by omega)).trans g1)
  have g3 : G21 (215) = ari cA 4 := (congrFun hG21 _).trans ((va_up_ne _ _ (by omega)).trans g3)
  have g5 : G21 (216) = ari cA 4 := (congrFun hG21 _).trans ((va_up_ne _ _ (by omega)).trans g5)
  have g7 : G21 (217) = arz cA 1024 := (congrFun hG21 _).trans ((va_up_ne _ _ (by omega)).trans g7)
  have g9 : G21 (218) = ari cA 1024 := (congrFun hG21 _).trans ((va_up_ne _ _ (by omega)).trans g9)
  have g11 : G21 (219) = ari cA 1024 := (congrFun hG21 _).trans ((va_up_ne _ _ (by omega)).trans g11)
  have g13 : G21 (220) = ari cA 1024 := (congrFun hG21 _).trans ((va_up_ne _ _ (by omega)).trans g13)
  have g15 : G21 (221) = ari cA 12 := (congrFun hG21 _).trans ((va_up_ne _ _ (by omega)).trans g15)
  have g17 : G21 (222) = arz cA 12 := (congrFun hG21 _).trans ((va_up_ne _ _ (by omega)).trans g17)
  have g19 : G21 (223) = ari cA 12 := (congrFun hG21 _).trans ((va_up_ne _ _ (by omega)).trans g19)
  have g21 : G21 (224) = ari cA 12 := by rw [hG21]; exact va_up_self _ _ _
  refine b_put (Cn := RX8) (T := TX8) (N := 37) (ci := 8) (sl := 13) hx hb hts hown hK hh inG8 tyX8 tyX8_ok nmX8 rfl (by omega) hF (by decide) LF_8_41 hin rfl (tyX8_ok 13 (by decide)) (by first | rfl | decide) (by first | rfl | decide) (Nat.le_of_ble_eq_true rfl) dX8_init_90 (fun H locs hh => ?_)
  obtain ⟨G22, hG22⟩ : ∃ G, G = va_up G21 (213) (.inr (8, [.int 0, .int 0, .ref (B + (214)), .ref (B + (215)), .ref (B + (216)), .ref (B + (217)), .int 0, .ref (B + (218)), .ref (B + (219)), .ref (B + (220)), .ref (B + (221)), .ref (B + (222)), .ref (B + (223)), .ref (B + (224)), .null, .null, .null, .null, .null, .null, .null, .null, .null, .int 0, .int 0, .null, .null, .null, .int 0, .null, .int 0, .null, .int 0, .int 0, .int 0, .int 0, .int 0])) := ⟨_, rfl⟩
  have hh : HB D B s (225) (va_up G21 (213) (.inr (8, [.int 0, .int 0, .ref (B + (214)), .ref (B + (215)), .ref (B + (216)), .ref (B + (217)), .int 0, .ref (B + (218)), .ref (B + (219)), .ref (B + (220)), .ref (B + (221)), .ref (B + (222)), .ref (B + (223)), .ref (B + (224)), .null, .null, .null, .null, .null, .null, .null, .null, .null, .int 0, .int 0, .null, .null, .null, .int 0, .null, .int 0, .null, .int 0, .int 0, .int 0, .int 0, .int 0]))) H locs := hh
  rw [← hG22] at hh
  have fr : ∀ i, i < 213 → G22 i = F i := fun i hi => (congrFun hG22 _).trans ((va_up_ne _ _ (by omega)).trans (fr i hi))
  have g1 : G22 (214) = ari cA 4 := (congrFun hG22 _).trans ((va_up_ne _ _ (by omega)).trans g1)
  have g3 : G22 (215) = ari cA 4 := (congrFun hG22 _).trans ((va_up_ne _ _ (by omega)).trans g3)
  have g5 : G22 (216) = ari cA 4 := (congrFun hG22 _).trans ((va_up_ne _ _ (by omega)).trans g5)
  have g7 : G22 (217) = arz cA 1024 := (congrFun hG22 _).trans ((va_up_ne _ _ (by omega)).trans g7)
  have g9 : G22 (218) = ari cA 1024 := (congrFun hG22 _).trans ((va_up_ne _ _ (by omega)).trans g9)
  have g11 : G22 (219) = ari cA 1024 := (congrFun hG22 _).trans ((va_up_ne _ _ (by omega)).trans g11)
  have g13 : G22 (220) = ari cA 1024 := (congrFun hG22 _).trans ((va_up_ne _ _ (by omega)).trans g13)
  have g15 : G22 (221) = ari cA 12 := (congrFun hG22 _).trans ((va_up_ne _ _ (by omega)).trans g15)
  have g17 : G22 (222) = arz cA 12 := (congrFun hG22 _).trans ((va_up_ne _ _ (by omega)).trans g17)
  have g19 : G22 (223) = ari cA 12 := (congrFun hG22 _).trans ((va_up_ne _ _ (by omega)).trans g19)
  have g21 : G22 (224) = ari cA 12 := (congrFun hG22 _).trans ((va_up_ne _ _ (by omega)).trans g21)
  have hF : G22 (213) = .inr (8, [.int 0, .int 0, .ref (B + (214)), .ref (B + (215)), .ref (B + (216)), .ref (B + (217)), .int 0, .ref (B + (218)), .ref (B + (219)), .ref (B + (220)), .ref (B + (221)), .ref (B + (222)), .ref (B + (223)), .ref (B + (224)), .null, .null, .null, .null, .null, .null, .null, .null, .null, .int 0, .int 0, .null, .null, .null, .int 0, .null, .int 0, .null, .int 0, .int 0, .int 0, .int 0, .int 0]) := by rw [hG22]; exact va_up_self _ _ _
  refine lv_aload_n hx hb dX8_init_93 rfl (lv_at hl 0 rfl) ?_
  refine lv_bipush (v := (12 : Int32)) hx hb dX8_init_94 (by decide) ?_
  refine b_newa (atype := .int) (ty := .int) (N := 12) (t0 := 0) (a0 := (12, .inl (fun _ => 0))) hx hb hts hK hh AC_i rfl (fun _ h => h) rfl (fun _ => rfl) (by decide) (by decide) (by decide) (Nat.le_of_ble_eq_true rfl) (Nat.le_of_ble_eq_true rfl) dX8_init_96 (fun H hh => ?_)
  obtain ⟨G23, hG23⟩ : ∃ G, G = va_up G22 (225) (ari cA 12) := ⟨_, rfl⟩
  have hh : HB D B s (226) (va_up G22 (225) (ari cA 12)) H locs := hh
  rw [← hG23] at hh
  have hF : G23 (213) = .inr (8, [.int 0, .int 0, .ref (B + (214)), .ref (B + (215)), .ref (B + (216)), .ref (B + (217)), .int 0, .ref (B + (218)), .ref (B + (219)), .ref (B + (220)), .ref (B + (221)), .ref (B + (222)), .ref (B + (223)), .ref (B + (224)), .null, .null, .null, .null, .null, .null, .null, .null, .null, .int 0, .int 0, .null, .null, .null, .int 0, .null, .int 0, .null, .int 0, .int 0, .int 0, .int 0, .int 0]) := (congrFun hG23 _).trans ((va_up_ne _ _ (by omega)).trans hF)
  have fr : ∀ i, i < 213 → G23 i = F i := fun i hi => (congrFun hG23 _).trans ((va_up_ne _ _ (by omega)).trans (fr i hi))
  have g1 : G23 (214) = ari cA 4 := (congrFun hG23 _).trans ((va_up_ne _ _ (by omega)).trans g1)
  have g3 : G23 (215) = ari cA 4 := (congrFun hG23 _).trans ((va_up_ne _ _ (by omega)).trans g3)
  have g5 : G23 (216) = ari cA 4 := (congrFun hG23 _).trans ((va_up_ne _ _ (by omega)).trans g5)
  have g7 : G23 (217) = arz cA 1024 := (congrFun hG23 _).trans ((va_up_ne _ _ (by omega)).trans g7)
  have g9 : G23 (218) = ari cA 1024 := (congrFun hG23 _).trans ((va_up_ne _ _ (by omega)).trans g9)
  have g11 : G23 (219) = ari cA 1024 := (congrFun hG23 _).trans ((va_up_ne _ _ (by omega)).trans g11)
  have g13 : G23 (220) = ari cA 1024 := (congrFun hG23 _).trans ((va_up_ne _ _ (by omega)).trans g13)
  have g15 : G23 (221) = ari cA 12 := (congrFun hG23 _).trans ((va_up_ne _ _ (by omega)).trans g15)
  have g17 : G23 (222) = arz cA 12 := (congrFun hG23 _).trans ((va_up_ne _ _ (by omega)).trans g17)
  have g19 : G23 (223) = ari cA 12 := (congrFun hG23 _).trans ((va_up_ne _ _ (by omega)).trans g19)
  have g21 : G23 (224) = ari cA 12 := (congrFun hG23 _).trans ((va_up_ne _ _ (by omega)).trans g21)
  have g23 : G23 (225) = ari cA 12 := by rw [hG23]; exact va_up_self _ _ _
  refine b_put (Cn := RX8) (T := TX8) (N := 37) (ci := 8) (sl := 14) hx hb hts hown hK hh inG8 tyX8 tyX8_ok nmX8 rfl (by omega) hF (by decide) LF_8_44 hin rfl (tyX8_ok 14 (by decide)) (by first | rfl | decide) (by first | rfl | decide) (Nat.le_of_ble_eq_true rfl) dX8_init_98 (fun H locs hh => ?_)
  obtain ⟨G24, hG24⟩ : ∃ G, G = va_up G23 (213) (.inr (8, [.int 0, .int 0, .ref (B + (214)), .ref (B + (215)), .ref (B + (216)), .ref (B + (217)), .int 0, .ref (B + (218)), .ref (B + (219)), .ref (B + (220)), .ref (B + (221)), .ref (B + (222)), .ref (B + (223)), .ref (B + (224)), .ref (B + (225)), .null, .null, .null, .null, .null, .null, .null, .null, .int 0, .int 0, .null, .null, .null, .int 0, .null, .int 0, .null, .int 0, .int 0, .int 0, .int 0, .int 0])) := ⟨_, rfl⟩
  have hh : HB D B s (226) (va_up G23 (213) (.inr (8, [.int 0, .int 0, .ref (B + (214)), .ref (B + (215)), .ref (B + (216)), .ref (B + (217)), .int 0, .ref (B + (218)), .ref (B + (219)), .ref (B + (220)), .ref (B + (221)), .ref (B + (222)), .ref (B + (223)), .ref (B + (224)), .ref (B + (225)), .null, .null, .null, .null, .null, .null, .null, .null, .int 0, .int 0, .null, .null, .null, .int 0, .null, .int 0, .null, .int 0, .int 0, .int 0, .int 0, .int 0]))) H locs := hh
  rw [← hG24] at hh
  have fr : ∀ i, i < 213 → G24 i = F i := fun i hi => (congrFun hG24 _).trans ((va_up_ne _ _ (by omega)).trans (fr i hi))
  have g1 : G24 (214) = ari cA 4 := (congrFun hG24 _).trans ((va_up_ne _ _ (by omega)).trans g1)
  have g3 : G24 (215) = ari cA 4 := (congrFun hG24 _).trans ((va_up_ne _ _ (by omega)).trans g3)
  have g5 : G24 (216) = ari cA 4 := (congrFun hG24 _).trans ((va_up_ne _ _ (by omega)).trans g5)
  have g7 : G24 (217) = arz cA 1024 := (congrFun hG24 _).trans ((va_up_ne _ _ (by omega)).trans g7)
  have g9 : G24 (218) = ari cA 1024 := (congrFun hG24 _).trans ((va_up_ne _ _ (by omega)).trans g9)
  have g11 : G24 (219) = ari cA 1024 := (congrFun hG24 _).trans ((va_up_ne _ _ (by omega)).trans g11)
  have g13 : G24 (220) = ari cA 1024 := (congrFun hG24 _).trans ((va_up_ne _ _ (by omega)).trans g13)
  have g15 : G24 (221) = ari cA 12 := (congrFun hG24 _).trans ((va_up_ne _ _ (by omega)).trans g15)
  have g17 : G24 (222) = arz cA 12 := (congrFun hG24 _).trans ((va_up_ne _ _ (by omega)).trans g17)
  have g19 : G24 (223) = ari cA 12 := (congrFun hG24 _).trans ((va_up_ne _ _ (by omega)).trans g19)
  have g21 : G24 (224) = ari cA 12 := (congrFun hG24 _).trans ((va_up_ne _ _ (by omega)).trans g21)
  have g23 : G24 (225) = ari cA 12 := (congrFun hG24 _).trans ((va_up_ne _ _ (by omega)).trans g23)
  have hF : G24 (213) = .inr (8, [.int 0, .int 0, .ref (B + (214)), .ref (B + (215)), .ref (B + (216)), .ref (B + (217)), .int 0, .ref (B + (218)), .ref (B + (219)), .ref (B + (220)), .ref (B + (221)), .ref (B + (222)), .ref (B + (223)), .ref (B + (224)), .ref (B + (225)), .null, .null, .null, .null, .null, .null, .null, .null, .int 0, .int 0, .null, .null, .null, .int 0, .null, .int 0, .null, .int 0, .int 0, .int 0, .int 0, .int 0]) := by rw [hG24]; exact va_up_self _ _ _
  refine lv_aload_n hx hb dX8_init_101 rfl (lv_at hl 0 rfl) ?_
  refine lv_bipush (v := (12 : Int32)) hx hb dX8_init_102 (by decide) ?_
  refine b_newa (atype := .int) (ty := .int) (N := 12) (t0 := 0) (a0 := (12, .inl (fun _ => 0))) hx hb hts hK hh AC_i rfl (fun _ h => h) rfl (fun _ => rfl) (by decide) (by decide) (by decide) (Nat.le_of_ble_eq_true rfl) (Nat.le_of_ble_eq_true rfl) dX8_init_104 (fun H hh => ?_)
  obtain ⟨G25, hG25⟩ : ∃ G, G = va_up G24 (226) (ari cA 12) := ⟨_, rfl⟩
  have hh : HB D B s (227) (va_up G24 (226) (ari cA 12)) H locs := hh
  rw [← hG25] at hh
  have hF : G25 (213) = .inr (8, [.int 0, .int 0, .ref (B + (214)), .ref (B + (215)), .ref (B + (216)), .ref (B + (217)), .int 0, .ref (B + (218)), .ref (B + (219)), .ref (B + (220)), .ref (B + (221)), .ref (B + (222)), .ref (B + (223)), .ref (B + (224)), .ref (B + (225)), .null, .null, .null, .null, .null, .null, .null, .null, .int 0, .int 0, .null, .null, .null, .int 0, .null, .int 0, .null, .int 0, .int 0, .int 0, .int 0, .int 0]) := (congrFun hG25 _).trans ((va_up_ne _ _ (by omega)).trans hF)
  have fr : ∀ i, i < 213 → G25 i = F i := fun i hi => (congrFun hG25 _).trans ((va_up_ne _ _ (by omega)).trans (fr i hi))
  have g1 : G25 (214) = ari cA 4 := (congrFun hG25 _).trans ((va_up_ne _ _ (by omega)).trans g1)
  have g3 : G25 (215) = ari cA 4 := (congrFun hG25 _).trans ((va_up_ne _ _ (by omega)).trans g3)
  have g5 : G25 (216) = ari cA 4 := (congrFun hG25 _).trans ((va_up_ne _ _ (by omega)).trans g5)
  have g7 : G25 (217) = arz cA 1024 := (congrFun hG25 _).trans ((va_up_ne _ _ (by omega)).trans g7)
  have g9 : G25 (218) = ari cA 1024 := (congrFun hG25 _).trans ((va_up_ne _ _ (by omega)).trans g9)
  have g11 : G25 (219) = ari cA 1024 := (congrFun hG25 _).trans ((va_up_ne _ _ (by omega)).trans g11)
  have g13 : G25 (220) = ari cA 1024 := (congrFun hG25 _).trans ((va_up_ne _ _ (by omega)).trans g13)
  have g15 : G25 (221) = ari cA 12 := (congrFun hG25 _).trans ((va_up_ne _ _ (by omega)).trans g15)
  have g17 : G25 (222) = arz cA 12 := (congrFun hG25 _).trans ((va_up_ne _ _ (by omega)).trans g17)
  have g19 : G25 (223) = ari cA 12 := (congrFun hG25 _).trans ((va_up_ne _ _ (by omega)).trans g19)
  have g21 : G25 (224) = ari cA 12 := (congrFun hG25 _).trans ((va_up_ne _ _ (by omega)).trans g21)
  have g23 : G25 (225) = ari cA 12 := (congrFun hG25 _).trans ((va_up_ne _ _ (by omega)).trans g23)
  have g25 : G25 (226) = ari cA 12 := by rw [hG25]; exact va_up_self _ _ _
  refine b_put (Cn := RX8) (T := TX8) (N := 37) (ci := 8) (sl := 15) hx hb hts hown hK hh inG8 tyX8 tyX8_ok nmX8 rfl (by omega) hF (by decide) LF_8_47 hin rfl (tyX8_ok 15 (by decide)) (by first | rfl | decide) (by first | rfl | decide) (Nat.le_of_ble_eq_true rfl) dX8_init_106 (fun H locs hh => ?_)
  obtain ⟨G26, hG26⟩ : ∃ G, G = va_up G25 (213) (.inr (8, [.int 0, .int 0, .ref (B + (214)), .ref (B + (215)), .ref (B + (216)), .ref (B + (217)), .int 0, .ref (B + (218)), .ref (B + (219)), .ref (B + (220)), .ref (B + (221)), .ref (B + (222)), .ref (B + (223)), .ref (B + (224)), .ref (B + (225)), .ref (B + (226)), .null, .null, .null, .null, .null, .null, .null, .int 0, .int 0, .null, .null, .null, .int 0, .null, .int 0, .null, .int 0, .int 0, .int 0, .int 0, .int 0])) := ⟨_, rfl⟩
  have hh : HB D B s (227) (va_up G25 (213) (.inr (8, [.int 0, .int 0, .ref (B + (214)), .ref (B + (215)), .ref (B + (216)), .ref (B + (217)), .int 0, .ref (B + (218)), .ref (B + (219)), .ref (B + (220)), .ref (B + (221)), .ref (B + (222)), .ref (B + (223)), .ref (B + (224)), .ref (B + (225)), .ref (B + (226)), .null, .null, .null, .null, .null, .null, .null, .int 0, .int 0, .null, .null, .null, .int 0, .null, .int 0, .null, .int 0, .int 0, .int 0, .int 0, .int 0]))) H locs := hh
  rw [← hG26] at hh
  have fr : ∀ i, i < 213 → G26 i = F i := fun i hi => (congrFun hG26 _).trans ((va_up_ne _ _ (by omega)).trans (fr i hi))
  have g1 : G26 (214) = ari cA 4 := (congrFun hG26 _).trans ((va_up_ne _ _ (by omega)).trans g1)
  have g3 : G26 (215) = ari cA 4 := (congrFun hG26 _).trans ((va_up_ne _ _ (by omega)).trans g3)
  have g5 : G26 (216) = ari cA 4 := (congrFun hG26 _).trans ((va_up_ne _ _ (by omega)).trans g5)
  have g7 : G26 (217) = arz cA 1024 := (congrFun hG26 _).trans ((va_up_ne _ _ (by omega)).trans g7)
  have g9 : G26 (218) = ari cA 1024 := (congrFun hG26 _).trans ((va_up_ne _ _ (by omega)).trans g9)
  have g11 : G26 (219) = ari cA 1024 := (congrFun hG26 _).trans ((va_up_ne _ _ (by omega)).trans g11)
  have g13 : G26 (220) = ari cA 1024 := (congrFun hG26 _).trans ((va_up_ne _ _ (by omega)).trans g13)
  have g15 : G26 (221) = ari cA 12 := (congrFun hG26 _).trans ((va_up_ne _ _ (by omega)).trans g15)
  have g17 : G26 (222) = arz cA 12 := (congrFun hG26 _).trans ((va_up_ne _ _ (by omega)).trans g17)
  have g19 : G26 (223) = ari cA 12 := (congrFun hG26 _).trans ((va_up_ne _ _ (by omega)).trans g19)
  have g21 : G26 (224) = ari cA 12 := (congrFun hG26 _).trans ((va_up_ne _ _ (by omega)).trans g21)
  have g23 : G26 (225) = ari cA 12 := (congrFun hG26 _).trans ((va_up_ne _ _ (by omega)).trans g23)
  have g25 : G26 (226) = ari cA 12 := (congrFun hG26 _).trans ((va_up_ne _ _ (by omega)).trans g25)
  have hF : G26 (213) = .inr (8, [.int 0, .int 0, .ref (B + (214)), .ref (B + (215)), .ref (B + (216)), .ref (B + (217)), .int 0, .ref (B + (218)), .ref (B + (219)), .ref (B + (220)), .ref (B + (221)), .ref (B + (222)), .ref (B + (223)), .ref (B + (224)), .ref (B + (225)), .ref (B + (226)), .null, .null, .null, .null, .null, .null, .null, .int 0, .int 0, .null, .null, .null, .int 0, .null, .int 0, .null, .int 0, .int 0, .int 0, .int 0, .int 0]) := by rw [hG26]; exact va_up_self _ _ _
  refine lv_aload_n hx hb dX8_init_109 rfl (lv_at hl 0 rfl) ?_
  refine lv_bipush (v := (12 : Int32)) hx hb dX8_init_110 (by decide) ?_
  refine b_newa (atype := .int) (ty := .int) (N := 12) (t0 := 0) (a0 := (12, .inl (fun _ => 0))) hx hb hts hK hh AC_i rfl (fun _ h => h) rfl (fun _ => rfl) (by decide) (by decide) (by decide) (Nat.le_of_ble_eq_true rfl) (Nat.le_of_ble_eq_true rfl) dX8_init_112 (fun H hh => ?_)
  obtain ⟨G27, hG27⟩ : ∃ G, G = va_up G26 (227) (ari cA 12) := ⟨_, rfl⟩
  have hh : HB D B s (228) (va_up G26 (227) (ari cA 12)) H locs := hh
  rw [← hG27] at hh
  have hF : G27 (213) = .inr (8, [.int 0, .int 0, .ref (B + (214)), .ref (B + (215)), .ref (B + (216)), .ref (B + (217)), .int 0, .ref (B + (218)), .ref (B + (219)), .ref (B + (220)), .ref (B + (221)), .ref (B + (222)), .ref (B + (223)), .ref (B + (224)), .ref (B + (225)), .ref (B + (226)), .null, .null, .null, .null, .null, .null, .null, .int 0, .int 0, .null, .null, .null, .int 0, .null, .int 0, .null, .int 0, .int 0, .int 0, .int 0, .int 0]) := (congrFun hG27 _).trans ((va_up_ne _ _ (by omega)).trans hF)
  have fr : ∀ i, i < 213 → G27 i = F i := fun i hi => (congrFun hG27 _).trans ((va_up_ne _ _ (by omega)).trans (fr i hi))
  have g1 : G27 (214) = ari cA 4 := (congrFun hG27 _).trans ((va_up_ne _ _ (by omega)).trans g1)
  have g3 : G27 (215) = ari cA 4 := (congrFun hG27 _).trans ((va_up_ne _ _ (by omega)).trans g3)
  have g5 : G27 (216) = ari cA 4 := (congrFun hG27 _).trans ((va_up_ne _ _ (by omega)).trans g5)
  have g7 : G27 (217) = arz cA 1024 := (congrFun hG27 _).trans ((va_up_ne _ _ (by omega)).trans g7)
  have g9 : G27 (218) = ari cA 1024 := (congrFun hG27 _).trans ((va_up_ne _ _ (by omega)).trans g9)
  have g11 : G27 (219) = ari cA 1024 := (congrFun hG27 _).trans ((va_up_ne _ _ (by omega)).trans g11)
  have g13 : G27 (220) = ari cA 1024 := (congrFun hG27 _).trans ((va_up_ne _ _ (by omega)).trans g13)
  have g15 : G27 (221) = ari cA 12 := (congrFun hG27 _).trans ((va_up_ne _ _ (by omega)).trans g15)
  have g17 : G27 (222) = arz cA 12 := (congrFun hG27 _).trans ((va_up_ne _ _ (by omega)).trans g17)
  have g19 : G27 (223) = ari cA 12 := (congrFun hG27 _).trans ((va_up_ne _ _ (by omega)).trans g19)
  have g21 : G27 (224) = ari cA 12 := (congrFun hG27 _).trans ((va_up_ne _ _ (by omega)).trans g21)
  have g23 : G27 (225) = ari cA 12 := (congrFun hG27 _).trans ((va_up_ne _ _ (by omega)).trans g23)
  have g25 : G27 (226) = ari cA 12 := (congrFun hG27 _).trans ((va_up_ne _ _ (by omega)).trans g25)
  have g27 : G27 (227) = ari cA 12 := by rw [hG27]; exact va_up_self _ _ _
  refine b_put (Cn := RX8) (T := TX8) (N := 37) (ci := 8) (sl := 16) hx hb hts hown hK hh inG8 tyX8 tyX8_ok nmX8 rfl (by omega) hF (by decide) LF_8_50 hin rfl (tyX8_ok 16 (by decide)) (by first | rfl | decide) (by first | rfl | decide) (Nat.le_of_ble_eq_true rfl) dX8_init_114 (fun H locs hh => ?_)
  obtain ⟨G28, hG28⟩ : ∃ G, G = va_up G27 (213) (.inr (8, [.int 0, .int 0, .ref (B + (214)), .ref (B + (215)), .ref (B + (216)), .ref (B + (217)), .int 0, .ref (B + (218)), .ref (B + (219)), .ref (B + (220)), .ref (B + (221)), .ref (B + (222)), .ref (B + (223)), .ref (B + (224)), .ref (B + (225)), .ref (B + (226)), .ref (B + (227)), .null, .null, .null, .null, .null, .null, .int 0, .int 0, .null, .null, .null, .int 0, .null, .int 0, .null, .int 0, .int 0, .int 0, .int 0, .int 0])) := ⟨_, rfl⟩
  have hh : HB D B s (228) (va_up G27 (213) (.inr (8, [.int 0, .int 0, .ref (B + (214)), .ref (B + (215)), .ref (B + (216)), .ref (B + (217)), .int 0, .ref (B + (218)), .ref (B + (219)), .ref (B + (220)), .ref (B + (221)), .ref (B + (222)), .ref (B + (223)), .ref (B + (224)), .ref (B + (225)), .ref (B + (226)), .ref (B + (227)), .null, .null, .null, .null, .null, .null, .int 0, .int 0, .null, .null, .null, .int 0, .null, .int 0, .null, .int 0, .int 0, .int 0, .int 0, .int 0]))) H locs := hh
  rw [← hG28] at hh
  have fr : ∀ i, i < 213 → G28 i = F i := fun i hi => (congrFun hG28 _).trans ((va_up_ne _ _ (by omega)).trans (fr i hi))
  have g1 : G28 (214) = ari cA 4 := (congrFun hG28 _).trans ((va_up_ne _ _ (by omega)).trans g1)
  have g3 : G28 (215) = ari cA 4 := (congrFun hG28 _).trans ((va_up_ne _ _ (by omega)).trans g3)
  have g5 : G28 (216) = ari cA 4 := (congrFun hG28 _).trans ((va_up_ne _ _ (by omega)).trans g5)
  have g7 : G28 (217) = arz cA 1024 := (congrFun hG28 _).trans ((va_up_ne _ _ (by omega)).trans g7)
  have g9 : G28 (218) = ari cA 1024 := (congrFun hG28 _).trans ((va_up_ne _ _ (by omega)).trans g9)
  have g11 : G28 (219) = ari cA 1024 := (congrFun hG28 _).trans ((va_up_ne _ _ (by omega)).trans g11)
  have g13 : G28 (220) = ari cA 1024 := (congrFun hG28 _).trans ((va_up_ne _ _ (by omega)).trans g13)
  have g15 : G28 (221) = ari cA 12 := (congrFun hG28 _).trans ((va_up_ne _ _ (by omega)).trans g15)
  have g17 : G28 (222) = arz cA 12 := (congrFun hG28 _).trans ((va_up_ne _ _ (by omega)).trans g17)
  have g19 : G28 (223) = ari cA 12 := (congrFun hG28 _).trans ((va_up_ne _ _ (by omega)).trans g19)
  have g21 : G28 (224) = ari cA 12 := (congrFun hG28 _).trans ((va_up_ne _ _ (by omega)).trans g21)
  have g23 : G28 (225) = ari cA 12 := (congrFun hG28 _).trans ((va_up_ne _ _ (by omega)).trans g23)
  have g25 : G28 (226) = ari cA 12 := (congrFun hG28 _).trans ((va_up_ne _ _ (by omega)).trans g25)
  have g27 : G28 (227) = ari cA 12 := (congrFun hG28 _).trans ((va_up_ne _ _ (by omega)).trans g27)
  have hF : G28 (213) = .inr (8, [.int 0, .int 0, .ref (B + (214)), .ref (B + (215)), .ref (B + (216)), .ref (B + (217)), .int 0, .ref (B + (218)), .ref (B + (219)), .ref (B + (220)), .ref (B + (221)), .ref (B + (222)), .ref (B + (223)), .ref (B + (224)), .ref (B + (225)), .ref (B + (226)), .ref (B + (227)), .null, .null, .null, .null, .null, .null, .int 0, .int 0, .null, .null, .null, .int 0, .null, .int 0, .null, .int 0, .int 0, .int 0, .int 0, .int 0]) := by rw [hG28]; exact va_up_self _ _ _
  refine lv_aload_n hx hb dX8_init_117 rfl (lv_at hl 0 rfl) ?_
  refine lv_bipush (v := (12 : Int32)) hx hb dX8_init_118 (by decide) ?_
  refine b_newa (atype := .int) (ty := .int) (N := 12) (t0 := 0) (a0 := (12, .inl (fun _ => 0))) hx hb hts hK hh AC_i rfl (fun _ h => h) rfl (fun _ => rfl) (by decide) (by decide) (by decide) (Nat.le_of_ble_eq_true rfl) (Nat.le_of_ble_eq_true rfl) dX8_init_120 (fun H hh => ?_)
  obtain ⟨G29, hG29⟩ : ∃ G, G = va_up G28 (228) (ari cA 12) := ⟨_, rfl⟩
  have hh : HB D B s (229) (va_up G28 (228) (ari cA 12)) H locs := hh
  rw [← hG29] at hh
  have hF : G29 (213) = .inr (8, [.int 0, .int 0, .ref (B + (214)), .ref (B + (215)), .ref (B + (216)), .ref (B + (217)), .int 0, .ref (B + (218)), .ref (B + (219)), .ref (B + (220)), .ref (B + (221)), .ref (B + (222)), .ref (B + (223)), .ref (B + (224)), .ref (B + (225)), .ref (B + (226)), .ref (B + (227)), .null, .null, .null, .null, .null, .null, .int 0, .int 0, .null, .null, .null, .int 0, .null, .int 0, .null, .int 0, .int 0, .int 0, .int 0, .int 0]) := (congrFun hG29 _).trans ((va_up_ne _ _ (by omega)).trans hF)
  have fr : ∀ i, i < 213 → G29 i = F i := fun i hi => (congrFun hG29 _).trans ((va_up_ne _ _ (by omega)).trans (fr i hi))
  have g1 : G29 (214) = ari cA 4 := (congrFun hG29 _).trans ((va_up_ne _ _ (by omega)).trans g1)
  have g3 : G29 (215) = ari cA 4 := (congrFun hG29 _).trans ((va_up_ne _ _ (by omega)).trans g3)
  have g5 : G29 (216) = ari cA 4 := (congrFun hG29 _).trans ((va_up_ne _ _ (by omega)).trans g5)
  have g7 : G29 (217) = arz cA 1024 := (congrFun hG29 _).trans ((va_up_ne _ _ (by omega)).trans g7)
  have g9 : G29 (218) = ari cA 1024 := (congrFun hG29 _).trans ((va_up_ne _ _ (by omega)).trans g9)
  have g11 : G29 (219) = ari cA 1024 := (congrFun hG29 _).trans ((va_up_ne _ _ (by omega)).trans g11)
  have g13 : G29 (220) = ari cA 1024 := (congrFun hG29 _).trans ((va_up_ne _ _ (by omega)).trans g13)
  have g15 : G29 (221) = ari cA 12 := (congrFun hG29 _).trans ((va_up_ne _ _ (by omega)).trans g15)
  have g17 : G29 (222) = arz cA 12 := (congrFun hG29 _).trans ((va_up_ne _ _ (by omega)).trans g17)
  have g19 : G29 (223) = ari cA 12 := (congrFun hG29 _).trans ((va_up_ne _ _ (by omega)).trans g19)
  have g21 : G29 (224) = ari cA 12 := (congrFun hG29 _).trans ((va_up_ne _ _ (by omega)).trans g21)
  have g23 : G29 (225) = ari cA 12 := (congrFun hG29 _).trans ((va_up_ne _ _ (by omega)).trans g23)
  have g25 : G29 (226) = ari cA 12 := (congrFun hG29 _).trans ((va_up_ne _ _ (by omega)).trans g25)
  have g27 : G29 (227) = ari cA 12 := (congrFun hG29 _).trans ((va_up_ne _ _ (by omega)).trans g27)
  have g29 : G29 (228) = ari cA 12 := by rw [hG29]; exact va_up_self _ _ _
  refine b_put (Cn := RX8) (T := TX8) (N := 37) (ci := 8) (sl := 17) hx hb hts hown hK hh inG8 tyX8 tyX8_ok nmX8 rfl (by omega) hF (by decide) LF_8_53 hin rfl (tyX8_ok 17 (by decide)) (by first | rfl | decide) (by first | rfl | decide) (Nat.le_of_ble_eq_true rfl) dX8_init_122 (fun H locs hh => ?_)
  obtain ⟨G30, hG30⟩ : ∃ G, G = va_up G29 (213) (.inr (8, [.int 0, .int 0, .ref (B + (214)), .ref (B + (215)), .ref (B + (216)), .ref (B + (217)), .int 0, .ref (B + (218)), .ref (B + (219)), .ref (B + (220)), .ref (B + (221)), .ref (B + (222)), .ref (B + (223)), .ref (B + (224)), .ref (B + (225)), .ref (B + (226)), .ref (B + (227)), .ref (B + (228)), .null, .null, .null, .null, .null, .int 0, .int 0, .null, .null, .null, .int 0, .null, .int 0, .null, .int 0, .int 0, .int 0, .int 0, .int 0])) := ⟨_, rfl⟩
  have hh : HB D B s (229) (va_up G29 (213) (.inr (8, [.int 0, .int 0, .ref (B + (214)), .ref (B + (215)), .ref (B + (216)), .ref (B + (217)), .int 0, .ref (B + (218)), .ref (B + (219)), .ref (B + (220)), .ref (B + (221)), .ref (B + (222)), .ref (B + (223)), .ref (B + (224)), .ref (B + (225)), .ref (B + (226)), .ref (B + (227)), .ref (B + (228)), .null, .null, .null, .null, .null, .int 0, .int 0, .null, .null, .null, .int 0, .null, .int 0, .null, .int 0, .int 0, .int 0, .int 0, .int 0]))) H locs := hh
  rw [← hG30] at hh
  have fr : ∀ i, i < 213 → G30 i = F i := fun i hi => (congrFun hG30 _).trans ((va_up_ne _ _ (by omega)).trans (fr i hi))
  have g1 : G30 (214) = ari cA 4 := (congrFun hG30 _).trans ((va_up_ne _ _ (by omega)).trans g1)
  have g3 : G30 (215) = ari cA 4 := (congrFun hG30 _).trans ((va_up_ne _ _ (by omega)).trans g3)
  have g5 : G30 (216) = ari cA 4 := (congrFun hG30 _).trans ((va_up_ne _ _ (by omega)).trans g5)
  have g7 : G30 (217) = arz cA 1024 := (congrFun hG30 _).trans ((va_up_ne _ _ (by omega)).trans g7)
  have g9 : G30 (218) = ari cA 1024 := (congrFun hG30 _).trans ((va_up_ne _ _ (by omega)).trans g9)
  have g11 : G30 (219) = ari cA 1024 := (congrFun hG30 _).trans ((va_up_ne _ _ (by omega)).trans g11)
  have g13 : G30 (220) = ari cA 1024 := (congrFun hG30 _).trans ((va_up_ne _ _ (by omega)).trans g13)
  have g15 : G30 (221) = ari cA 12 := (congrFun hG30 _).trans ((va_up_ne _ _ (by omega)).trans g15)
  have g17 : G30 (222) = arz cA 12 := (congrFun hG30 _).trans ((va_up_ne _ _ (by omega)).trans g17)
  have g19 : G30 (223) = ari cA 12 := (congrFun hG30 _).trans ((va_up_ne _ _ (by omega)).trans g19)
  have g21 : G30 (224) = ari cA 12 := (congrFun hG30 _).trans ((va_up_ne _ _ (by omega)).trans g21)
  have g23 : G30 (225) = ari cA 12 := (congrFun hG30 _).trans ((va_up_ne _ _ (by omega)).trans g23)
  have g25 : G30 (226) = ari cA 12 := (congrFun hG30 _).trans ((va_up_ne _ _ (by omega)).trans g25)
  have g27 : G30 (227) = ari cA 12 := (congrFun hG30 _).trans ((va_up_ne _ _ (by omega)).trans g27)
  have g29 : G30 (228) = ari cA 12 := (congrFun hG30 _).trans ((va_up_ne _ _ (by omega)).trans g29)
  have hF : G30 (213) = .inr (8, [.int 0, .int 0, .ref (B + (214)), .ref (B + (215)), .ref (B + (216)), .ref (B + (217)), .int 0, .ref (B + (218)), .ref (B + (219)), .ref (B + (220)), .ref (B + (221)), .ref (B + (222)), .ref (B + (223)), .ref (B + (224)), .ref (B + (225)), .ref (B + (226)), .ref (B + (227)), .ref (B + (228)), .null, .null, .null, .null, .null, .int 0, .int 0, .null, .null, .null, .int 0, .null, .int 0, .null, .int 0, .int 0, .int 0, .int 0, .int 0]) := by rw [hG30]; exact va_up_self _ _ _
  refine lv_aload_n hx hb dX8_init_125 rfl (lv_at hl 0 rfl) ?_
  refine lv_bipush (v := (12 : Int32)) hx hb dX8_init_126 (by decide) ?_
  refine b_newa (atype := .int) (ty := .int) (N := 12) (t0 := 0) (a0 := (12, .inl (fun _ => 0))) hx hb hts hK hh AC_i rfl (fun _ h => h) rfl (fun _ => rfl) (by decide) (by decide) (by decide) (Nat.le_of_ble_eq_true rfl) (Nat.le_of_ble_eq_true rfl) dX8_init_128 (fun H hh => ?_)
  obtain ⟨G31, hG31⟩ : ∃ G, G = va_up G30 (229) (ari cA 12) := ⟨_, rfl⟩
  have hh : HB D B s (230) (va_up G30 (229) (ari cA 12)) H locs := hh
  rw [← hG31] at hh
  have hF : G31 (213) = .inr (8, [.int 0, .int 0, .ref (B + (214)), .ref (B + (215)), .ref (B + (216)), .ref (B + (217)), .int 0, .ref (B + (218)), .ref (B + (219)), .ref (B + (220)), .ref (B + (221)), .ref (B + (222)), .ref (B + (223)), .ref (B + (224)), .ref (B + (225)), .ref (B + (226)), .ref (B + (227)), .ref (B + (228)), .null, .null, .null, .null, .null, .int 0, .int 0, .null, .null, .null, .int 0, .null, .int 0, .null, .int 0, .int 0, .int 0, .int 0, .int 0]) := (congrFun hG31 _).trans ((va_up_ne _ _ (by omega)).trans hF)
  have fr : ∀ i, i < 213 → G31 i = F i := fun i hi => (congrFun hG31 _).trans ((va_up_ne _ _ (by omega)).trans (fr i hi))
  have g1 : G31 (214) = ari cA 4 := (congrFun hG31 _).trans ((va_up_ne _ _ (by omega)).trans g1)
  have g3 : G31 (215) = ari cA 4 := (congrFun hG31 _).trans ((va_up_ne _ _ (by omega)).trans g3)
  have g5 : G31 (216) = ari cA 4 := (congrFun hG31 _).trans ((va_up_ne _ _ (by omega)).trans g5)
  have g7 : G31 (217) = arz cA 1024 := (congrFun hG31 _).trans ((va_up_ne _ _ (by omega)).trans g7)
  have g9 : G31 (218) = ari cA 1024 := (congrFun hG31 _).trans ((va_up_ne _ _ (by omega)).trans g9)
  have g11 : G31 (219) = ari cA 1024 := (congrFun hG31 _).trans ((va_up_ne _ _ (by omega)).trans g11)
  have g13 : G31 (220) = ari cA 1024 := (congrFun hG31 _).trans ((va_up_ne _ _ (by omega)).trans g13)
  have g15 : G31 (221) = ari cA 12 := (congrFun hG31 _).trans ((va_up_ne _ _ (by omega)).trans g15)
  have g17 : G31 (222) = arz cA 12 := (congrFun hG31 _).trans ((va_up_ne _ _ (by omega)).trans g17)
  have g19 : G31 (223) = ari cA 12 := (congrFun hG31 _).trans ((va_up_ne _ _ (by omega)).trans g19)
  have g21 : G31 (224) = ari cA 12 := (congrFun hG31 _).trans ((va_up_ne _ _ (by omega)).trans g21)
  have g23 : G31 (225) = ari cA 12 := (congrFun hG31 _).trans ((va_up_ne _ _ (by omega)).trans g23)
  have g25 : G31 (226) = ari cA 12 := (congrFun hG31 _).trans ((va_up_ne _ _ (by omega)).trans g25)
  have g27 : G31 (227) = ari cA 12 := (congrFun hG31 _).trans ((va_up_ne _ _ (by omega)).trans g27)
  have g29 : G31 (228) = ari cA 12 := (congrFun hG31 _).trans ((va_up_ne _ _ (by omega)).trans g29)
  have g31 : G31 (229) = ari cA 12 := by rw [hG31]; exact va_up_self _ _ _
  refine b_put (Cn := RX8) (T := TX8) (N := 37) (ci := 8) (sl := 18) hx hb hts hown hK hh inG8 tyX8 tyX8_ok nmX8 rfl (by omega) hF (by decide) LF_8_56 hin rfl (tyX8_ok 18 (by decide)) (by first | rfl | decide) (by first | rfl | decide) (Nat.le_of_ble_eq_true rfl) dX8_init_130 (fun H locs hh => ?_)
  obtain ⟨G32, hG32⟩ : ∃ G, G = va_up G31 (213) (.inr (8, [.int 0, .int 0, .ref (B + (214)), .ref (B + (215)), .ref (B + (216)), .ref (B + (217)), .int 0, .ref (B + (218)), .ref (B + (219)), .ref (B + (220)), .ref (B + (221)), .ref (B + (222)), .ref (B + (223)), .ref (B + (224)), .ref (B + (225)), .ref (B + (226)), .ref (B + (227)), .ref (B + (228)), .ref (B + (229)), .null, .null, .null, .null, .int 0, .int 0, .null, .null, .null, .int 0, .null, .int 0, .null, .int 0, .int 0, .int 0, .int 0, .int 0])) := ⟨_, rfl⟩
  have hh : HB D B s (230) (va_up G31 (213) (.inr (8, [.int 0, .int 0, .ref (B + (214)), .ref (B + (215)), .ref (B + (216)), .ref (B + (217)), .int 0, .ref (B + (218)), .ref (B + (219)), .ref (B + (220)), .ref (B + (221)), .ref (B + (222)), .ref (B + (223)), .ref (B + (224)), .ref (B + (225)), .ref (B + (226)), .ref (B + (227)), .ref (B + (228)), .ref (B + (229)), .null, .null, .null, .null, .int 0, .int 0, .null, .null, .null, .int 0, .null, .int 0, .null, .int 0, .int 0, .int 0, .int 0, .int 0]))) H locs := hh
  rw [← hG32] at hh
  have fr : ∀ i, i < 213 → G32 i = F i := fun i hi => (congrFun hG32 _).trans ((va_up_ne _ _ (by omega)).trans (fr i hi))
  have g1 : G32 (214) = ari cA 4 := (congrFun hG32 _).trans ((va_up_ne _ _ (by omega)).trans g1)
  have g3 : G32 (215) = ari cA 4 := (congrFun hG32 _).trans ((va_up_ne _ _ (by omega)).trans g3)
  have g5 : G32 (216) = ari cA 4 := (congrFun hG32 _).trans ((va_up_ne _ _ (by omega)).trans g5)
  have g7 : G32 (217) = arz cA 1024 := (congrFun hG32 _).trans ((va_up_ne _ _ (by omega)).trans g7)
  have g9 : G32 (218) = ari cA 1024 := (congrFun hG32 _).trans ((va_up_ne _ _ (by omega)).trans g9)
  have g11 : G32 (219) = ari cA 1024 := (congrFun hG32 _).trans ((va_up_ne _ _ (by omega)).trans g11)
  have g13 : G32 (220) = ari cA 1024 := (congrFun hG32 _).trans ((va_up_ne _ _ (by omega)).trans g13)
  have g15 : G32 (221) = ari cA 12 := (congrFun hG32 _).trans ((va_up_ne _ _ (by omega)).trans g15)
  have g17 : G32 (222) = arz cA 12 := (congrFun hG32 _).trans ((va_up_ne _ _ (by omega)).trans g17)
  have g19 : G32 (223) = ari cA 12 := (congrFun hG32 _).trans ((va_up_ne _ _ (by omega)).trans g19)
  have g21 : G32 (224) = ari cA 12 := (congrFun hG32 _).trans ((va_up_ne _ _ (by omega)).trans g21)
  have g23 : G32 (225) = ari cA 12 := (congrFun hG32 _).trans ((va_up_ne _ _ (by omega)).trans g23)
  have g25 : G32 (226) = ari cA 12 := (congrFun hG32 _).trans ((va_up_ne _ _ (by omega)).trans g25)
  have g27 : G32 (227) = ari cA 12 := (congrFun hG32 _).trans ((va_up_ne _ _ (by omega)).trans g27)
  have g29 : G32 (228) = ari cA 12 := (congrFun hG32 _).trans ((va_up_ne _ _ (by omega)).trans g29)
  have g31 : G32 (229) = ari cA 12 := (congrFun hG32 _).trans ((va_up_ne _ _ (by omega)).trans g31)
  have hF : G32 (213) = .inr (8, [.int 0, .int 0, .ref (B + (214)), .ref (B + (215)), .ref (B + (216)), .ref (B + (217)), .int 0, .ref (B + (218)), .ref (B + (219)), .ref (B + (220)), .ref (B + (221)), .ref (B + (222)), .ref (B + (223)), .ref (B + (224)), .ref (B + (225)), .ref (B + (226)), .ref (B + (227)), .ref (B + (228)), .ref (B + (229)), .null, .null, .null, .null, .int 0, .int 0, .null, .null, .null, .int 0, .null, .int 0, .null, .int 0, .int 0, .int 0, .int 0, .int 0]) := by rw [hG32]; exact va_up_self _ _ _
  refine lv_aload_n hx hb dX8_init_133 rfl (lv_at hl 0 rfl) ?_
  refine lv_bipush (v := (12 : Int32)) hx hb dX8_init_134 (by decide) ?_
  refine b_newa (atype := .int) (ty := .int) (N := 12) (t0 := 0) (a0 := (12, .inl (fun _ => 0))) hx hb hts hK hh AC_i rfl (fun _ h => h) rfl (fun _ => rfl) (by decide) (by decide) (by decide) (Nat.le_of_ble_eq_true rfl) (Nat.le_of_ble_eq_true rfl) dX8_init_136 (fun H hh => ?_)
  obtain ⟨G33, hG33⟩ : ∃ G, G = va_up G32 (230) (ari cA 12) := ⟨_, rfl⟩
  have hh : HB D B s (231) (va_up G32 (230) (ari cA 12)) H locs := hh
  rw [← hG33] at hh
  have hF : G33 (213) = .inr (8, [.int 0, .int 0, .ref (B + (214)), .ref (B + (215)), .ref (B + (216)), .ref (B + (217)), .int 0, .ref (B + (218)), .ref (B + (219)), .ref (B + (220)), .ref (B + (221)), .ref (B + (222)), .ref (B + (223)), .ref (B + (224)), .ref (B + (225)), .ref (B + (226)), .ref (B + (227)), .ref (B + (228)), .ref (B + (229)), .null, .null, .null, .null, .int 0, .int 0, .null, .null, .null, .int 0, .null, .int 0, .null, .int 0, .int 0, .int 0, .int 0, .int 0]) := (congrFun hG33 _).trans ((va_up_ne _ _ (by omega)).trans hF)
  have fr : ∀ i, i < 213 → G33 i = F i := fun i hi => (congrFun hG33 _).trans ((va_up_ne _ _ (by omega)).trans (fr i hi))
  have g1 : G33 (214) = ari cA 4 := (congrFun hG33 _).trans ((va_up_ne _ _ (by omega)).trans g1)
  have g3 : G33 (215) = ari cA 4 := (congrFun hG33 _).trans ((va_up_ne _ _ (by omega)).trans g3)
  have g5 : G33 (216) = ari cA 4 := (congrFun hG33 _).trans ((va_up_ne _ _ (by omega)).trans g5)
  have g7 : G33 (217) = arz cA 1024 := (congrFun hG33 _).trans ((va_up_ne _ _ (by omega)).trans g7)
  have g9 : G33 (218) = ari cA 1024 := (congrFun hG33 _).trans ((va_up_ne _ _ (by omega)).trans g9)
  have g11 : G33 (219) = ari cA 1024 := (congrFun hG33 _).trans ((va_up_ne _ _ (by omega)).trans g11)
  have g13 : G33 (220) = ari cA 1024 := (congrFun hG33 _).trans ((va_up_ne _ _ (by omega)).trans g13)
  have g15 : G33 (221) = ari cA 12 := (congrFun hG33 _).trans ((va_up_ne _ _ (by omega)).trans g15)
  have g17 : G33 (222) = arz cA 12 := (congrFun hG33 _).trans ((va_up_ne _ _ (by omega)).trans g17)
  have g19 : G33 (223) = ari cA 12 := (congrFun hG33 _).trans ((va_up_ne _ _ (by omega)).trans g19)
  have g21 : G33 (224) = ari cA 12 := (congrFun hG33 _).trans ((va_up_ne _ _ (by omega)).trans g21)
  have g23 : G33 (225) = ari cA 12 := (congrFun hG33 _).trans ((va_up_ne _ _ (by omega)).trans g23)
  have g25 : G33 (226) = ari cA 12 := (congrFun hG33 _).trans ((va_up_ne _ _ (by omega)).trans g25)
  have g27 : G33 (227) = ari cA 12 := (congrFun hG33 _).trans ((va_up_ne _ _ (by omega)).trans g27)
  have g29 : G33 (228) = ari cA 12 := (congrFun hG33 _).trans ((va_up_ne _ _ (by omega)).trans g29)
  have g31 : G33 (229) = ari cA 12 := (congrFun hG33 _).trans ((va_up_ne _ _ (by omega)).trans g31)
  have g33 : G33 (230) = ari cA 12 := by rw [hG33]; exact va_up_self _ _ _
  refine b_put (Cn := RX8) (T := TX8) (N := 37) (ci := 8) (sl := 19) hx hb hts hown hK hh inG8 tyX8 tyX8_ok nmX8 rfl (by omega) hF (by decide) LF_8_59 hin rfl (tyX8_ok 19 (by decide)) (by first | rfl | decide) (by first | rfl | decide) (Nat.le_of_ble_eq_true rfl) dX8_init_138 (fun H locs hh => ?_)
  obtain ⟨G34, hG34⟩ : ∃ G, G = va_up G33 (213) (.inr (8, [.int 0, .int 0, .ref (B + (214)), .ref (B + (215)), .ref (B + (216)), .ref (B + (217)), .int 0, .ref (B + (218)), .ref (B + (219)), .ref (B + (220)), .ref (B + (221)), .ref (B + (222)), .ref (B + (223)), .ref (B + (224)), .ref (B + (225)), .ref (B + (226)), .ref (B + (227)), .ref (B + (228)), .ref (B + (229)), .ref (B + (230)), .null, .null, .null, .int 0, .int 0, .null, .null, .null, .int 0, .null, .int 0, .null, .int 0, .int 0, .int 0, .int 0, .int 0])) := ⟨_, rfl⟩
  have hh : HB D B s (231) (va_up G33 (213) (.inr (8, [.int 0, .int 0, .ref (B + (214)), .ref (B + (215)), .ref (B + (216)), .ref (B + (217)), .int 0, .ref (B + (218)), .ref (B + (219)), .ref (B + (220)), .ref (B + (221)), .ref (B + (222)), .ref (B + (223)), .ref (B + (224)), .ref (B + (225)), .ref (B + (226)), .ref (B + (227)), .ref (B + (228)), .ref (B + (229)), .ref (B + (230)), .null, .null, .null, .int 0, .int 0, .null, .null, .null, .int 0, .null, .int 0, .null, .int 0, .int 0, .int 0, .int 0, .int 0]))) H locs := hh
  rw [← hG34] at hh
  have fr : ∀ i, i < 213 → G34 i = F i := fun i hi => (congrFun hG34 _).trans ((va_up_ne _ _ (by omega)).trans (fr i hi))
  have g1 : G34 (214) = ari cA 4 := (congrFun hG34 _).trans ((va_up_ne _ _ (by omega)).trans g1)
  have g3 : G34 (215) = ari cA 4 := (congrFun hG34 _).trans ((va_up_ne _ _ (by omega)).trans g3)
  have g5 : G34 (216) = ari cA 4 := (congrFun hG34 _).trans ((va_up_ne _ _ (by omega)).trans g5)
  have g7 : G34 (217) = arz cA 1024 := (congrFun hG34 _).trans ((va_up_ne _ _ (by omega)).trans g7)
  have g9 : G34 (218) = ari cA 1024 := (congrFun hG34 _).trans ((va_up_ne _ _ (by omega)).trans g9)
  have g11 : G34 (219) = ari cA 1024 := (congrFun hG34 _).trans ((va_up_ne _ _ (by omega)).trans g11)
  have g13 : G34 (220) = ari cA 1024 := (congrFun hG34 _).trans ((va_up_ne _ _ (by omega)).trans g13)
  have g15 : G34 (221) = ari cA 12 := (congrFun hG34 _).trans ((va_up_ne _ _ (by omega)).trans g15)
  have g17 : G34 (222) = arz cA 12 := (congrFun hG34 _).trans ((va_up_ne _ _ (by omega)).trans g17)
  have g19 : G34 (223) = ari cA 12 := (congrFun hG34 _).trans ((va_up_ne _ _ (by omega)).trans g19)
  have g21 : G34 (224) = ari cA 12 := (congrFun hG34 _).trans ((va_up_ne _ _ (by omega)).trans g21)
  have g23 : G34 (225) = ari cA 12 := (congrFun hG34 _).trans ((va_up_ne _ _ (by omega)).trans g23)
  have g25 : G34 (226) = ari cA 12 := (congrFun hG34 _).trans ((va_up_ne _ _ (by omega)).trans g25)
  have g27 : G34 (227) = ari cA 12 := (congrFun hG34 _).trans ((va_up_ne _ _ (by omega)).trans g27)
  have g29 : G34 (228) = ari cA 12 := (congrFun hG34 _).trans ((va_up_ne _ _ (by omega)).trans g29)
  have g31 : G34 (229) = ari cA 12 := (congrFun hG34 _).trans ((va_up_ne _ _ (by omega)).trans g31)
  have g33 : G34 (230) = ari cA 12 := (congrFun hG34 _).trans ((va_up_ne _ _ (by omega)).trans g33)
  have hF : G34 (213) = .inr (8, [.int 0, .int 0, .ref (B + (214)), .ref (B + (215)), .ref (B + (216)), .ref (B + (217)), .int 0, .ref (B + (218)), .ref (B + (219)), .ref (B + (220)), .ref (B + (221)), .ref (B + (222)), .ref (B + (223)), .ref (B + (224)), .ref (B + (225)), .ref (B + (226)), .ref (B + (227)), .ref (B + (228)), .ref (B + (229)), .ref (B + (230)), .null, .null, .null, .int 0, .int 0, .null, .null, .null, .int 0, .null, .int 0, .null, .int 0, .int 0, .int 0, .int 0, .int 0]) := by rw [hG34]; exact va_up_self _ _ _
  refine lv_aload_n hx hb dX8_init_141 rfl (lv_at hl 0 rfl) ?_
  refine lv_bipush (v := (12 : Int32)) hx hb dX8_init_142 (by decide) ?_
  refine b_newa (atype := .int) (ty := .int) (N := 12) (t0 := 0) (a0 := (12, .inl (fun _ => 0))) hx hb hts hK hh AC_i rfl (fun _ h => h) rfl (fun _ => rfl) (by decide) (by decide) (by decide) (Nat.le_of_ble_eq_true rfl) (Nat.le_of_ble_eq_true rfl) dX8_init_144 (fun H hh => ?_)
  obtain ⟨G35, hG35⟩ : ∃ G, G = va_up G34 (231) (ari cA 12) := ⟨_, rfl⟩
  have hh : HB D B s (232) (va_up G34 (231) (ari cA 12)) H locs := hh
  rw [← hG35] at hh
  have hF : G35 (213) = .inr (8, [.int 0, .int 0, .ref (B + (214)), .ref (B + (215)), .ref (B + (216)), .ref (B + (217)), .int 0, .ref (B + (218)), .ref (B + (219)), .ref (B + (220)), .ref (B + (221)), .ref (B + (222)), .ref (B + (223)), .ref (B + (224)), .ref (B + (225)), .ref (B + (226)), .ref (B + (227)), .ref (B + (228)), .ref (B + (229)), .ref (B + (230)), .null, .null, .null, .int 0, .int 0, .null, .null, .null, .int 0, .null, .int 0, .null, .int 0, .int 0, .int 0, .int 0, .int 0]) := (congrFun hG35 _).trans ((va_up_ne _ _ (by omega)).trans hF)
  have fr : ∀ i, i < 213 → G35 i = F i := fun i hi => (congrFun hG35 _).trans ((va_up_ne _ _ (by omega)).trans (fr i hi))
  have g1 : G35 (214) = ari cA 4 := (congrFun hG35 _).trans ((va_up_ne _ _ (by omega)).trans g1)
  have g3 : G35 (215) = ari cA 4 := (congrFun hG35 _).trans ((va_up_ne _ _ (by omega)).trans g3)
  have g5 : G35 (216) = ari cA 4 := (congrFun hG35 _).trans ((va_up_ne _ _ (by omega)).trans g5)
  have g7 : G35 (217) = arz cA 1024 := (congrFun hG35 _).trans ((va_up_ne _ _ (by omega)).trans g7)
  have g9 : G35 (218) = ari cA 1024 := (congrFun hG35 _).trans ((va_up_ne _ _ (by omega)).trans g9)
  have g11 : G35 (219) = ari cA 1024 := (congrFun hG35 _).trans ((va_up_ne _ _ (by omega)).trans g11)
  have g13 : G35 (220) = ari cA 1024 := (congrFun hG35 _).trans ((va_up_ne _ _ (by omega)).trans g13)
  have g15 : G35 (221) = ari cA 12 := (congrFun hG35 _).trans ((va_up_ne _ _ (by omega)).trans g15)
  have g17 : G35 (222) = arz cA 12 := (congrFun hG35 _).trans ((va_up_ne _ _ (by omega)).trans g17)
  have g19 : G35 (223) = ari cA 12 := (congrFun hG35 _).trans ((va_up_ne _ _ (by omega)).trans g19)
  have g21 : G35 (224) = ari cA 12 := (congrFun hG35 _).trans ((va_up_ne _ _ (by omega)).trans g21)
  have g23 : G35 (225) = ari cA 12 := (congrFun hG35 _).trans ((va_up_ne _ _ (by omega)).trans g23)
  have g25 : G35 (226) = ari cA 12 := (congrFun hG35 _).trans ((va_up_ne _ _ (by omega)).trans g25)
  have g27 : G35 (227) = ari cA 12 := (congrFun hG35 _).trans ((va_up_ne _ _ (by omega)).trans g27)
  have g29 : G35 (228) = ari cA 12 := (congrFun hG35 _).trans ((va_up_ne _ _ (by omega)).trans g29)
  have g31 : G35 (229) = ari cA 12 := (congrFun hG35 _).trans ((va_up_ne _ _ (by omega)).trans g31)
  have g33 : G35 (230) = ari cA 12 := (congrFun hG35 _).trans ((va_up_ne _ _ (by omega)).trans g33)
  have g35 : G35 (231) = ari cA 12 := by rw [hG35]; exact va_up_self _ _ _
  refine b_put (Cn := RX8) (T := TX8) (N := 37) (ci := 8) (sl := 20) hx hb hts hown hK hh inG8 tyX8 tyX8_ok nmX8 rfl (by omega) hF (by decide) LF_8_62 hin rfl (tyX8_ok 20 (by decide)) (by first | rfl | decide) (by first | rfl | decide) (Nat.le_of_ble_eq_true rfl) dX8_init_146 (fun H locs hh => ?_)
  obtain ⟨G36, hG36⟩ : ∃ G, G = va_up G35 (213) (.inr (8, [.int 0, .int 0, .ref (B + (214)), .ref (B + (215)), .ref (B + (216)), .ref (B + (217)), .int 0, .ref (B + (218)), .ref (B + (219)), .ref (B + (220)), .ref (B + (221)), .ref (B + (222)), .ref (B + (223)), .ref (B + (224)), .ref (B + (225)), .ref (B + (226)), .ref (B + (227)), .ref (B + (228)), .ref (B + (229)), .ref (B + (230)), .ref (B + (231)), .null, .null, .int 0, .int 0, .null, .null, .null, .int 0, .null, .int 0, .null, .int 0, .int 0, .int 0, .int 0, .int 0])) := ⟨_, rfl⟩
  have hh : HB D B s (232) (va_up G35 (213) (.inr (8, [.int 0, .int 0, .ref (B + (214)), .ref (B + (215)), .ref (B + (216)), .ref (B + (217)), .int 0, .ref (B + (218)), .ref (B + (219)), .ref (B + (220)), .ref (B + (221)), .ref (B + (222)), .ref (B + (223)), .ref (B + (224)), .ref (B + (225)), .ref (B + (226)), .ref (B + (227)), .ref (B + (228)), .ref (B + (229)), .ref (B + (230)), .ref (B + (231)), .null, .null, .int 0, .int 0, .null, .null, .null, .int 0, .null, .int 0, .null, .int 0, .int 0, .int 0, .int 0, .int 0]))) H locs := hh
  rw [← hG36] at hh
  have fr : ∀ i, i < 213 → G36 i = F i := fun i hi => (congrFun hG36 _).trans ((va_up_ne _ _ (by omega)).trans (fr i hi))
  have g1 : G36 (214) = ari cA 4 := (congrFun hG36 _).trans ((va_up_ne _ _ (by omega)).trans g1)
  have g3 : G36 (215) = ari cA 4 := (congrFun hG36 _).trans ((va_up_ne _ _ (by omega)).trans g3)
  have g5 : G36 (216) = ari cA 4 := (congrFun hG36 _).trans ((va_up_ne _ _ (by omega)).trans g5)
  have g7 : G36 (217) = arz cA 1024 := (congrFun hG36 _).trans ((va_up_ne _ _ (by omega)).trans g7)
  have g9 : G36 (218) = ari cA 1024 := (congrFun hG36 _).trans ((va_up_ne _ _ (by omega)).trans g9)
  have g11 : G36 (219) = ari cA 1024 := (congrFun hG36 _).trans ((va_up_ne _ _ (by omega)).trans g11)
  have g13 : G36 (220) = ari cA 1024 := (congrFun hG36 _).trans ((va_up_ne _ _ (by omega)).trans g13)
  have g15 : G36 (221) = ari cA 12 := (congrFun hG36 _).trans ((va_up_ne _ _ (by omega)).trans g15)
  have g17 : G36 (222) = arz cA 12 := (congrFun hG36 _).trans ((va_up_ne _ _ (by omega)).trans g17)
  have g19 : G36 (223) = ari cA 12 := (congrFun hG36 _).trans ((va_up_ne _ _ (by omega)).trans g19)
  have g21 : G36 (224) = ari cA 12 := (congrFun hG36 _).trans ((va_up_ne _ _ (by omega)).trans g21)
  have g23 : G36 (225) = ari cA 12 := (congrFun hG36 _).trans ((va_up_ne _ _ (by omega)).trans g23)
  have g25 : G36 (226) = ari cA 12 := (congrFun hG36 _).trans ((va_up_ne _ _ (by omega)).trans g25)
  have g27 : G36 (227) = ari cA 12 := (congrFun hG36 _).trans ((va_up_ne _ _ (by omega)).trans g27)
  have g29 : G36 (228) = ari cA 12 := (congrFun hG36 _).trans ((va_up_ne _ _ (by omega)).trans g29)
  have g31 : G36 (229) = ari cA 12 := (congrFun hG36 _).trans ((va_up_ne _ _ (by omega)).trans g31)
  have g33 : G36 (230) = ari cA 12 := (congrFun hG36 _).trans ((va_up_ne _ _ (by omega)).trans g33)
  have g35 : G36 (231) = ari cA 12 := (congrFun hG36 _).trans ((va_up_ne _ _ (by omega)).trans g35)
  have hF : G36 (213) = .inr (8, [.int 0, .int 0, .ref (B + (214)), .ref (B + (215)), .ref (B + (216)), .ref (B + (217)), .int 0, .ref (B + (218)), .ref (B + (219)), .ref (B + (220)), .ref (B + (221)), .ref (B + (222)), .ref (B + (223)), .ref (B + (224)), .ref (B + (225)), .ref (B + (226)), .ref (B + (227)), .ref (B + (228)), .ref (B + (229)), .ref (B + (230)), .ref (B + (231)), .null, .null, .int 0, .int 0, .null, .null, .null, .int 0, .null, .int 0, .null, .int 0, .int 0, .int 0, .int 0, .int 0]) := by rw [hG36]; exact va_up_self _ _ _
  refine lv_aload_n hx hb dX8_init_149 rfl (lv_at hl 0 rfl) ?_
  refine lv_bipush (v := (12 : Int32)) hx hb dX8_init_150 (by decide) ?_
  refine b_newa (atype := .int) (ty := .int) (N := 12) (t0 := 0) (a0 := (12, .inl (fun _ => 0))) hx hb hts hK hh AC_i rfl (fun _ h => h) rfl (fun _ => rfl) (by decide) (by decide) (by decide) (Nat.le_of_ble_eq_true rfl) (Nat.le_of_ble_eq_true rfl) dX8_init_152 (fun H hh => ?_)
  obtain ⟨G37, hG37⟩ : ∃ G, G = va_up G36 (232) (ari cA 12) := ⟨_, rfl⟩
  have hh : HB D B s (233) (va_up G36 (232) (ari cA 12)) H locs := hh
  rw [← hG37] at hh
  have hF : G37 (213) = .inr (8, [.int 0, .int 0, .ref (B + (214)), .ref (B + (215)), .ref (B + (216)), .ref (B + (217)), .int 0, .ref (B + (218)), .ref (B + (219)), .ref (B + (220)), .ref (B + (221)), .ref (B + (222)), .ref (B + (223)), .ref (B + (224)), .ref (B + (225)), .ref (B + (226)), .ref (B + (227)), .ref (B + (228)), .ref (B + (229)), .ref (B + (230)), .ref (B + (231)), .null, .null, .int 0, .int 0, .null, .null, .null, .int 0, .null, .int 0, .null, .int 0, .int 0, .int 0, .int 0, .int 0]) := (congrFun hG37 _).trans ((va_up_ne _ _ (by omega)).trans hF)
  have fr : ∀ i, i < 213 → G37 i = F i := fun i hi => (congrFun hG37 _).trans ((va_up_ne _ _ (by omega)).trans (fr i hi))
  have g1 : G37 (214) = ari cA 4 := (congrFun hG37 _).trans ((va_up_ne _ _ (by omega)).trans g1)
  have g3 : G37 (215) = ari cA 4 := (congrFun hG37 _).trans ((va_up_ne _ _ (by omega)).trans g3)
  have g5 : G37 (216) = ari cA 4 := (congrFun hG37 _).trans ((va_up_ne _ _ (by omega)).trans g5)
  have g7 : G37 (217) = arz cA 1024 := (congrFun hG37 _).trans ((va_up_ne _ _ (by omega)).trans g7)
  have g9 : G37 (218) = ari cA 1024 := (congrFun hG37 _).trans ((va_up_ne _ _ (by omega)).trans g9)
  have g11 : G37 (219) = ari cA 1024 := (congrFun hG37 _).trans ((va_up_ne _ _ (by omega)).trans g11)
  have g13 : G37 (220) = ari cA 1024 := (congrFun hG37 _).trans ((va_up_ne _ _ (by omega)).trans g13)
  have g15 : G37 (221) = ari cA 12 := (congrFun hG37 _).trans ((va_up_ne _ _ (by omega)).trans g15)
  have g17 : G37 (222) = arz cA 12 := (congrFun hG37 _).trans ((va_up_ne _ _ (by omega)).trans g17)
  have g19 : G37 (223) = ari cA 12 := (congrFun hG37 _).trans ((va_up_ne _ _ (by omega)).trans g19)
  have g21 : G37 (224) = ari cA 12 := (congrFun hG37 _).trans ((va_up_ne _ _ (by omega)).trans g21)
  have g23 : G37 (225) = ari cA 12 := (congrFun hG37 _).trans ((va_up_ne _ _ (by omega)).trans g23)
  have g25 : G37 (226) = ari cA 12 := (congrFun hG37 _).trans ((va_up_ne _ _ (by omega)).trans g25)
  have g27 : G37 (227) = ari cA 12 := (congrFun hG37 _).trans ((va_up_ne _ _ (by omega)).trans g27)
  have g29 : G37 (228) = ari cA 12 := (congrFun hG37 _).trans ((va_up_ne _ _ (by omega)).trans g29)
  have g31 : G37 (229) = ari cA 12 := (congrFun hG37 _).trans ((va_up_ne _ _ (by omega)).trans g31)
  have g33 : G37 (230) = ari cA 12 := (congrFun hG37 _).trans ((va_up_ne _ _ (by omega)).trans g33)
  have g35 : G37 (231) = ari cA 12 := (congrFun hG37 _).trans ((va_up_ne _ _ (by omega)).trans g35)
  have g37 : G37 (232) = ari cA 12 := by rw [hG37]; exact va_up_self _ _ _
  refine b_put (Cn := RX8) (T := TX8) (N := 37) (ci := 8) (sl := 21) hx hb hts hown hK hh inG8 tyX8 tyX8_ok nmX8 rfl (by omega) hF (by decide) LF_8_65 hin rfl (tyX8_ok 21 (by decide)) (by first | rfl | decide) (by first | rfl | decide) (Nat.le_of_ble_eq_true rfl) dX8_init_154 (fun H locs hh => ?_)
  obtain ⟨G38, hG38⟩ : ∃ G, G = va_up G37 (213) (.inr (8, [.int 0, .int 0, .ref (B + (214)), .ref (B + (215)), .ref (B + (216)), .ref (B + (217)), .int 0, .ref (B + (218)), .ref (B + (219)), .ref (B + (220)), .ref (B + (221)), .ref (B + (222)), .ref (B + (223)), .ref (B + (224)), .ref (B + (225)), .ref (B + (226)), .ref (B + (227)), .ref (B + (228)), .ref (B + (229)), .ref (B + (230)), .ref (B + (231)), .ref (B + (232)), .null, .int 0, .int 0, .null, .null, .null, .int 0, .null, .int 0, .null, .int 0, .int 0, .int 0, .int 0, .int 0])) := ⟨_, rfl⟩
  have hh : HB D B s (233) (va_up G37 (213) (.inr (8, [.int 0, .int 0, .ref (B + (214)), .ref (B + (215)), .ref (B + (216)), .ref (B + (217)), .int 0, .ref (B + (218)), .ref (B + (219)), .ref (B + (220)), .ref (B + (221)), .ref (B + (222)), .ref (B + (223)), .ref (B + (224)), .ref (B + (225)), .ref (B + (226)), .ref (B + (227)), .ref (B + (228)), .ref (B + (229)), .ref (B + (230)), .ref (B + (231)), .ref (B + (232)), .null, .int 0, .int 0, .null, .null, .null, .int 0, .null, .int 0, .null, .int 0, .int 0, .int 0, .int 0, .int 0]))) H locs := hh
  rw [← hG38] at hh
  have fr : ∀ i, i < 213 → G38 i = F i := fun i hi => (congrFun hG38 _).trans ((va_up_ne _ _ (by omega)).trans (fr i hi))
  have g1 : G38 (214) = ari cA 4 := (congrFun hG38 _).trans ((va_up_ne _ _ (by omega)).trans g1)
  have g3 : G38 (215) = ari cA 4 := (congrFun hG38 _).trans ((va_up_ne _ _ (by omega)).trans g3)
  have g5 : G38 (216) = ari cA 4 := (congrFun hG38 _).trans ((va_up_ne _ _ (by omega)).trans g5)
  have g7 : G38 (217) = arz cA 1024 := (congrFun hG38 _).trans ((va_up_ne _ _ (by omega)).trans g7)
  have g9 : G38 (218) = ari cA 1024 := (congrFun hG38 _).trans ((va_up_ne _ _ (by omega)).trans g9)
  have g11 : G38 (219) = ari cA 1024 := (congrFun hG38 _).trans ((va_up_ne _ _ (by omega)).trans g11)
  have g13 : G38 (220) = ari cA 1024 := (congrFun hG38 _).trans ((va_up_ne _ _ (by omega)).trans g13)
  have g15 : G38 (221) = ari cA 12 := (congrFun hG38 _).trans ((va_up_ne _ _ (by omega)).trans g15)
  have g17 : G38 (222) = arz cA 12 := (congrFun hG38 _).trans ((va_up_ne _ _ (by omega)).trans g17)
  have g19 : G38 (223) = ari cA 12 := (congrFun hG38 _).trans ((va_up_ne _ _ (by omega)).trans g19)
  have g21 : G38 (224) = ari cA 12 := (congrFun hG38 _).trans ((va_up_ne _ _ (by omega)).trans g21)
  have g23 : G38 (225) = ari cA 12 := (congrFun hG38 _).trans ((va_up_ne _ _ (by omega)).trans g23)
  have g25 : G38 (226) = ari cA 12 := (congrFun hG38 _).trans ((va_up_ne _ _ (by omega)).trans g25)
  have g27 : G38 (227) = ari cA 12 := (congrFun hG38 _).trans ((va_up_ne _ _ (by omega)).trans g27)
  have g29 : G38 (228) = ari cA 12 := (congrFun hG38 _).trans ((va_up_ne _ _ (by omega)).trans g29)
  have g31 : G38 (229) = ari cA 12 := (congrFun hG38 _).trans ((va_up_ne _ _ (by omega)).trans g31)
  have g33 : G38 (230) = ari cA 12 := (congrFun hG38 _).trans ((va_up_ne _ _ (by omega)).trans g33)
  have g35 : G38 (231) = ari cA 12 := (congrFun hG38 _).trans ((va_up_ne _ _ (by omega)).trans g35)
  have g37 : G38 (232) = ari cA 12 := (congrFun hG38 _).trans ((va_up_ne _ _ (by omega)).trans g37)
  have hF : G38 (213) = .inr (8, [.int 0, .int 0, .ref (B + (214)), .ref (B + (215)), .ref (B + (216)), .ref (B + (217)), .int 0, .ref (B + (218)), .ref (B + (219)), .ref (B + (220)), .ref (B + (221)), .ref (B + (222)), .ref (B + (223)), .ref (B + (224)), .ref (B + (225)), .ref (B + (226)), .ref (B + (227)), .ref (B + (228)), .ref (B + (229)), .ref (B + (230)), .ref (B + (231)), .ref (B + (232)), .null, .int 0, .int 0, .null, .null, .null, .int 0, .null, .int 0, .null, .int 0, .int 0, .int 0, .int 0, .int 0]) := by rw [hG38]; exact va_up_self _ _ _
  refine lv_aload_n hx hb dX8_init_157 rfl (lv_at hl 0 rfl) ?_
  refine lv_bipush (v := (12 : Int32)) hx hb dX8_init_158 (by decide) ?_
  refine b_newa (atype := .int) (ty := .int) (N := 12) (t0 := 0) (a0 := (12, .inl (fun _ => 0))) hx hb hts hK hh AC_i rfl (fun _ h => h) rfl (fun _ => rfl) (by decide) (by decide) (by decide) (Nat.le_of_ble_eq_true rfl) (Nat.le_of_ble_eq_true rfl) dX8_init_160 (fun H hh => ?_)
  obtain ⟨G39, hG39⟩ : ∃ G, G = va_up G38 (233) (ari cA 12) := ⟨_, rfl⟩
  have hh : HB D B s (234) (va_up G38 (233) (ari cA 12)) H locs := hh
  rw [← hG39] at hh
  have hF : G39 (213) = .inr (8, [.int 0, .int 0, .ref (B + (214)), .ref (B + (215)), .ref (B + (216)), .ref (B + (217)), .int 0, .ref (B + (218)), .ref (B + (219)), .ref (B + (220)), .ref (B + (221)), .ref (B + (222)), .ref (B + (223)), .ref (B + (224)), .ref (B + (225)), .ref (B + (226)), .ref (B + (227)), .ref (B + (228)), .ref (B + (229)), .ref (B + (230)), .ref (B + (231)), .ref (B + (232)), .null, .int 0, .int 0, .null, .null, .null, .int 0, .null, .int 0, .null, .int 0, .int 0, .int 0, .int 0, .int 0]) := (congrFun hG39 _).trans ((va_up_ne _ _ (by omega)).trans hF)
  have fr : ∀ i, i < 213 → G39 i = F i := fun i hi => (congrFun hG39 _).trans ((va_up_ne _ _ (by omega)).trans (fr i hi))
  have g1 : G39 (214) = ari cA 4 := (congrFun hG39 _).trans ((va_up_ne _ _ (by omega)).trans g1)
  have g3 : G39 (215) = ari cA 4 := (congrFun hG39 _).trans ((va_up_ne _ _ (by omega)).trans g3)
  have g5 : G39 (216) = ari cA 4 := (congrFun hG39 _).trans ((va_up_ne _ _ (by omega)).trans g5)
  have g7 : G39 (217) = arz cA 1024 := (congrFun hG39 _).trans ((va_up_ne _ _ (by omega)).trans g7)
  have g9 : G39 (218) = ari cA 1024 := (congrFun hG39 _).trans ((va_up_ne _ _ (by omega)).trans g9)
  have g11 : G39 (219) = ari cA 1024 := (congrFun hG39 _).trans ((va_up_ne _ _ (by omega)).trans g11)
  have g13 : G39 (220) = ari cA 1024 := (congrFun hG39 _).trans ((va_up_ne _ _ (by omega)).trans g13)
  have g15 : G39 (221) = ari cA 12 := (congrFun hG39 _).trans ((va_up_ne _ _ (by omega)).trans g15)
  have g17 : G39 (222) = arz cA 12 := (congrFun hG39 _).trans ((va_up_ne _ _ (by omega)).trans g17)
  have g19 : G39 (223) = ari cA 12 := (congrFun hG39 _).trans ((va_up_ne _ _ (by omega)).trans g19)
  have g21 : G39 (224) = ari cA 12 := (congrFun hG39 _).trans ((va_up_ne _ _ (by omega)).trans g21)
  have g23 : G39 (225) = ari cA 12 := (congrFun hG39 _).trans ((va_up_ne _ _ (by omega)).trans g23)
  have g25 : G39 (226) = ari cA 12 := (congrFun hG39 _).trans ((va_up_ne _ _ (by omega)).trans g25)
  have g27 : G39 (227) = ari cA 12 := (congrFun hG39 _).trans ((va_up_ne _ _ (by omega)).trans g27)
  have g29 : G39 (228) = ari cA 12 := (congrFun hG39 _).trans ((va_up_ne _ _ (by omega)).trans g29)
  have g31 : G39 (229) = ari cA 12 := (congrFun hG39 _).trans ((va_up_ne _ _ (by omega)).trans g31)
  have g33 : G39 (230) = ari cA 12 := (congrFun hG39 _).trans ((va_up_ne _ _ (by omega)).trans g33)
  have g35 : G39 (231) = ari cA 12 := (congrFun hG39 _).trans ((va_up_ne _ _ (by omega)).trans g35)
  have g37 : G39 (232) = ari cA 12 := (congrFun hG39 _).trans ((va_up_ne _ _ (by omega)).trans g37)
  have g39 : G39 (233) = ari cA 12 := by rw [hG39]; exact va_up_self _ _ _
  refine b_put (Cn := RX8) (T := TX8) (N := 37) (ci := 8) (sl := 22) hx hb hts hown hK hh inG8 tyX8 tyX8_ok nmX8 rfl (by omega) hF (by decide) LF_8_68 hin rfl (tyX8_ok 22 (by decide)) (by first | rfl | decide) (by first | rfl | decide) (Nat.le_of_ble_eq_true rfl) dX8_init_162 (fun H locs hh => ?_)
  obtain ⟨G40, hG40⟩ : ∃ G, G = va_up G39 (213) (.inr (8, [.int 0, .int 0, .ref (B + (214)), .ref (B + (215)), .ref (B + (216)), .ref (B + (217)), .int 0, .ref (B + (218)), .ref (B + (219)), .ref (B + (220)), .ref (B + (221)), .ref (B + (222)), .ref (B + (223)), .ref (B + (224)), .ref (B + (225)), .ref (B + (226)), .ref (B + (227)), .ref (B + (228)), .ref (B + (229)), .ref (B + (230)), .ref (B + (231)), .ref (B + (232)), .ref (B + (233)), .int 0, .int 0, .null, .null, .null, .int 0, .null, .int 0, .null, .int 0, .int 0, .int 0, .int 0, .int 0])) := ⟨_, rfl⟩
  have hh : HB D B s (234) (va_up G39 (213) (.inr (8, [.int 0, .int 0, .ref (B + (214)), .ref (B + (215)), .ref (B + (216)), .ref (B + (217)), .int 0, .ref (B + (218)), .ref (B + (219)), .ref (B + (220)), .ref (B + (221)), .ref (B + (222)), .ref (B + (223)), .ref (B + (224)), .ref (B + (225)), .ref (B + (226)), .ref (B + (227)), .ref (B + (228)), .ref (B + (229)), .ref (B + (230)), .ref (B + (231)), .ref (B + (232)), .ref (B + (233)), .int 0, .int 0, .null, .null, .null, .int 0, .null, .int 0, .null, .int 0, .int 0, .int 0, .int 0, .int 0]))) H locs := hh
  rw [← hG40] at hh
  have fr : ∀ i, i < 213 → G40 i = F i := fun i hi => (congrFun hG40 _).trans ((va_up_ne _ _ (by omega)).trans (fr i hi))
  have g1 : G40 (214) = ari cA 4 := (congrFun hG40 _).trans ((va_up_ne _ _ (by omega)).trans g1)
  have g3 : G40 (215) = ari cA 4 := (congrFun hG40 _).trans ((va_up_ne _ _ (by omega)).trans g3)
  have g5 : G40 (216) = ari cA 4 := (congrFun hG40 _).trans ((va_up_ne _ _ (by omega)).trans g5)
  have g7 : G40 (217) = arz cA 1024 := (congrFun hG40 _).trans ((va_up_ne _ _ (by omega)).trans g7)
  have g9 : G40 (218) = ari cA 1024 := (congrFun hG40 _).trans ((va_up_ne _ _ (by omega)).trans g9)
  have g11 : G40 (219) = ari cA 1024 := (congrFun hG40 _).trans ((va_up_ne _ _ (by omega)).trans g11)
  have g13 : G40 (220) = ari cA 1024 := (congrFun hG40 _).trans ((va_up_ne _ _ (by omega)).trans g13)
  have g15 : G40 (221) = ari cA 12 := (congrFun hG40 _).trans ((va_up_ne _ _ (by omega)).trans g15)
  have g17 : G40 (222) = arz cA 12 := (congrFun hG40 _).trans ((va_up_ne _ _ (by omega)).trans g17)
  have g19 : G40 (223) = ari cA 12 := (congrFun hG40 _).trans ((va_up_ne _ _ (by omega)).trans g19)
  have g21 : G40 (224) = ari cA 12 := (congrFun hG40 _).trans ((va_up_ne _ _ (by omega)).trans g21)
  have g23 : G40 (225) = ari cA 12 := (congrFun hG40 _).trans ((va_up_ne _ _ (by omega)).trans g23)
  have g25 : G40 (226) = ari cA 12 := (congrFun hG40 _).trans ((va_up_ne _ _ (by omega)).trans g25)
  have g27 : G40 (227) = ari cA 12 := (congrFun hG40 _).trans ((va_up_ne _ _ (by omega)).trans g27)
  have g29 : G40 (228) = ari cA 12 := (congrFun hG40 _).trans ((va_up_ne _ _ (by omega)).trans g29)
  have g31 : G40 (229) = ari cA 12 := (congrFun hG40 _).trans ((va_up_ne _ _ (by omega)).trans g31)
  have g33 : G40 (230) = ari cA 12 := (congrFun hG40 _).trans ((va_up_ne _ _ (by omega)).trans g33)
  have g35 : G40 (231) = ari cA 12 := (congrFun hG40 _).trans ((va_up_ne _ _ (by omega)).trans g35)
  have g37 : G40 (232) = ari cA 12 := (congrFun hG40 _).trans ((va_up_ne _ _ (by omega)).trans g37)
  have g39 : G40 (233) = ari cA 12 := (congrFun hG40 _).trans ((va_up_ne _ _ (by omega)).trans g39)
  have hF : G40 (213) = .inr (8, [.int 0, .int 0, .ref (B + (214)), .ref (B + (215)), .ref (B + (216)), .ref (B + (217)), .int 0, .ref (B + (218)), .ref (B + (219)), .ref (B + (220)), .ref (B + (221)), .ref (B + (222)), .ref (B + (223)), .ref (B + (224)), .ref (B + (225)), .ref (B + (226)), .ref (B + (227)), .ref (B + (228)), .ref (B + (229)), .ref (B + (230)), .ref (B + (231)), .ref (B + (232)), .ref (B + (233)), .int 0, .int 0, .null, .null, .null, .int 0, .null, .int 0, .null, .int 0, .int 0, .int 0, .int 0, .int 0]) := by rw [hG40]; exact va_up_self _ _ _
  refine lv_aload_n hx hb dX8_init_165 rfl (lv_at hl 0 rfl) ?_
  refine lv_bipush (v := (60 : Int32)) hx hb dX8_init_166 (by decide) ?_
  refine b_newa (atype := .int) (ty := .int) (N := 60) (t0 := 0) (a0 := (60, .inl (fun _ => 0))) hx hb hts hK hh AC_i rfl (fun _ h => h) rfl (fun _ => rfl) (by decide) (by decide) (by decide) (Nat.le_of_ble_eq_true rfl) (Nat.le_of_ble_eq_true rfl) dX8_init_168 (fun H hh => ?_)
  obtain ⟨G41, hG41⟩ : ∃ G, G = va_up G40 (234) (ari cA 60) := ⟨_, rfl⟩
  have hh : HB D B s (235) (va_up G40 (234) (ari cA 60)) H locs := hh
  rw [← hG41] at hh
  have hF : G41 (213) = .inr (8, [.int 0, .int 0, .ref (B + (214)), .ref (B + (215)), .ref (B + (216)), .ref (B + (217)), .int 0, .ref (B + (218)), .ref (B + (219)), .ref (B + (220)), .ref (B + (221)), .ref (B + (222)), .ref (B + (223)), .ref (B + (224)), .ref (B + (225)), .ref (B + (226)), .ref (B + (227)), .ref (B + (228)), .ref (B + (229)), .ref (B + (230)), .ref (B + (231)), .ref (B + (232)), .ref (B + (233)), .int 0, .int 0, .null, .null, .null, .int 0, .null, .int 0, .null, .int 0, .int 0, .int 0, .int 0, .int 0]) := (congrFun hG41 _).trans ((va_up_ne _ _ (by omega)).trans hF)
  have fr : ∀ i, i < 213 → G41 i = F i := fun i hi => (congrFun hG41 _).trans ((va_up_ne _ _ (by omega)).trans (fr i hi))
  have g1 : G41 (214) = ari cA 4 := (congrFun hG41 _).trans ((va_up_ne _ _ (by omega)).trans g1)
  have g3 : G41 (215) = ari cA 4 := (congrFun hG41 _).trans ((va_up_ne _ _ (by omega)).trans g3)
  have g5 : G41 (216) = ari cA 4 := (congrFun hG41 _).trans ((va_up_ne _ _ (by omega)).trans g5)
  have g7 : G41 (217) = arz cA 1024 := (congrFun hG41 _).trans ((va_up_ne _ _ (by omega)).trans g7)
  have g9 : G41 (218) = ari cA 1024 := (congrFun hG41 _).trans ((va_up_ne _ _ (by omega)).trans g9)
  have g11 : G41 (219) = ari cA 1024 := (congrFun hG41 _).trans ((va_up_ne _ _ (by omega)).trans g11)
  have g13 : G41 (220) = ari cA 1024 := (congrFun hG41 _).trans ((va_up_ne _ _ (by omega)).trans g13)
  have g15 : G41 (221) = ari cA 12 := (congrFun hG41 _).trans ((va_up_ne _ _ (by omega)).trans g15)
  have g17 : G41 (222) = arz cA 12 := (congrFun hG41 _).trans ((va_up_ne _ _ (by omega)).trans g17)
  have g19 : G41 (223) = ari cA 12 := (congrFun hG41 _).trans ((va_up_ne _ _ (by omega)).trans g19)
  have g21 : G41 (224) = ari cA 12 := (congrFun hG41 _).trans ((va_up_ne _ _ (by omega)).trans g21)
  have g23 : G41 (225) = ari cA 12 := (congrFun hG41 _).trans ((va_up_ne _ _ (by omega)).trans g23)
  have g25 : G41 (226) = ari cA 12 := (congrFun hG41 _).trans ((va_up_ne _ _ (by omega)).trans g25)
  have g27 : G41 (227) = ari cA 12 := (congrFun hG41 _).trans ((va_up_ne _ _ (by omega)).trans g27)
  have g29 : G41 (228) = ari cA 12 := (congrFun hG41 _).trans ((va_up_ne _ _ (by omega)).trans g29)
  have g31 : G41 (229) = ari cA 12 := (congrFun hG41 _).trans ((va_up_ne _ _ (by omega)).trans g31)
  have g33 : G41 (230) = ari cA 12 := (congrFun hG41 _).trans ((va_up_ne _ _ (by omega)).trans g33)
  have g35 : G41 (231) = ari cA 12 := (congrFun hG41 _).trans ((va_up_ne _ _ (by omega)).trans g35)
  have g37 : G41 (232) = ari cA 12 := (congrFun hG41 _).trans ((va_up_ne _ _ (by omega)).trans g37)
  have g39 : G41 (233) = ari cA 12 := (congrFun hG41 _).trans ((va_up_ne _ _ (by omega)).trans g39)
  have g41 : G41 (234) = ari cA 60 := by rw [hG41]; exact va_up_self _ _ _
  refine b_put (Cn := RX8) (T := TX8) (N := 37) (ci := 8) (sl := 25) hx hb hts hown hK hh inG8 tyX8 tyX8_ok nmX8 rfl (by omega) hF (by decide) LF_8_71 hin rfl (tyX8_ok 25 (by decide)) (by first | rfl | decide) (by first | rfl | decide) (Nat.le_of_ble_eq_true rfl) dX8_init_170 (fun H locs hh => ?_)
  obtain ⟨G42, hG42⟩ : ∃ G, G = va_up G41 (213) (.inr (8, [.int 0, .int 0, .ref (B + (214)), .ref (B + (215)), .ref (B + (216)), .ref (B + (217)), .int 0, .ref (B + (218)), .ref (B + (219)), .ref (B + (220)), .ref (B + (221)), .ref (B + (222)), .ref (B + (223)), .ref (B + (224)), .ref (B + (225)), .ref (B + (226)), .ref (B + (227)), .ref (B + (228)), .ref (B + (229)), .ref (B + (230)), .ref (B + (231)), .ref (B + (232)), .ref (B + (233)), .int 0, .int 0, .ref (B + (234)), .null, .null, .int 0, .null, .int 0, .null, .int 0, .int 0, .int 0, .int 0, .int 0])) := ⟨_, rfl⟩
  have hh : HB D B s (235) (va_up G41 (213) (.inr (8, [.int 0, .int 0, .ref (B + (214)), .ref (B + (215)), .ref (B + (216)), .ref (B + (217)), .int 0, .ref (B + (218)), .ref (B + (219)), .ref (B + (220)), .ref (B + (221)), .ref (B + (222)), .ref (B + (223)), .ref (B + (224)), .ref (B + (225)), .ref (B + (226)), .ref (B + (227)), .ref (B + (228)), .ref (B + (229)), .ref (B + (230)), .ref (B + (231)), .ref (B + (232)), .ref (B + (233)), .int 0, .int 0, .ref (B + (234)), .null, .null, .int 0, .null, .int 0, .null, .int 0, .int 0, .int 0, .int 0, .int 0]))) H locs := hh
  rw [← hG42] at hh
  have fr : ∀ i, i < 213 → G42 i = F i := fun i hi => (congrFun hG42 _).trans ((va_up_ne _ _ (by omega)).trans (fr i hi))
  have g1 : G42 (214) = ari cA 4 := (congrFun hG42 _).trans ((va_up_ne _ _ (by omega)).trans g1)
  have g3 : G42 (215) = ari cA 4 := (congrFun hG42 _).trans ((va_up_ne _ _ (by omega)).trans g3)
  have g5 : G42 (216) = ari cA 4 := (congrFun hG42 _).trans ((va_up_ne _ _ (by omega)).trans g5)
  have g7 : G42 (217) = arz cA 1024 := (congrFun hG42 _).trans ((va_up_ne _ _ (by omega)).trans g7)
  have g9 : G42 (218) = ari cA 1024 := (congrFun hG42 _).trans ((va_up_ne _ _ (by omega)).trans g9)
  have g11 : G42 (219) = ari cA 1024 := (congrFun hG42 _).trans ((va_up_ne _ _ (by omega)).trans g11)
  have g13 : G42 (220) = ari cA 1024 := (congrFun hG42 _).trans ((va_up_ne _ _ (by omega)).trans g13)
  have g15 : G42 (221) = ari cA 12 := (congrFun hG42 _).trans ((va_up_ne _ _ (by omega)).trans g15)
  have g17 : G42 (222) = arz cA 12 := (congrFun hG42 _).trans ((va_up_ne _ _ (by omega)).trans g17)
  have g19 : G42 (223) = ari cA 12 := (congrFun hG42 _).trans ((va_up_ne _ _ (by omega)).trans g19)
  have g21 : G42 (224) = ari cA 12 := (congrFun hG42 _).trans ((va_up_ne _ _ (by omega)).trans g21)
  have g23 : G42 (225) = ari cA 12 := (congrFun hG42 _).trans ((va_up_ne _ _ (by omega)).trans g23)
  have g25 : G42 (226) = ari cA 12 := (congrFun hG42 _).trans ((va_up_ne _ _ (by omega)).trans g25)
  have g27 : G42 (227) = ari cA 12 := (congrFun hG42 _).trans ((va_up_ne _ _ (by omega)).trans g27)
  have g29 : G42 (228) = ari cA 12 := (congrFun hG42 _).trans ((va_up_ne _ _ (by omega)).trans g29)
  have g31 : G42 (229) = ari cA 12 := (congrFun hG42 _).trans ((va_up_ne _ _ (by omega)).trans g31)
  have g33 : G42 (230) = ari cA 12 := (congrFun hG42 _).trans ((va_up_ne _ _ (by omega)).trans g33)
  have g35 : G42 (231) = ari cA 12 := (congrFun hG42 _).trans ((va_up_ne _ _ (by omega)).trans g35)
  have g37 : G42 (232) = ari cA 12 := (congrFun hG42 _).trans ((va_up_ne _ _ (by omega)).trans g37)
  have g39 : G42 (233) = ari cA 12 := (congrFun hG42 _).trans ((va_up_ne _ _ (by omega)).trans g39)
  have g41 : G42 (234) = ari cA 60 := (congrFun hG42 _).trans ((va_up_ne _ _ (by omega)).trans g41)
  have hF : G42 (213) = .inr (8, [.int 0, .int 0, .ref (B + (214)), .ref (B + (215)), .ref (B + (216)), .ref (B + (217)), .int 0, .ref (B + (218)), .ref (B + (219)), .ref (B + (220)), .ref (B + (221)), .ref (B + (222)), .ref (B + (223)), .ref (B + (224)), .ref (B + (225)), .ref (B + (226)), .ref (B + (227)), .ref (B + (228)), .ref (B + (229)), .ref (B + (230)), .ref (B + (231)), .ref (B + (232)), .ref (B + (233)), .int 0, .int 0, .ref (B + (234)), .null, .null, .int 0, .null, .int 0, .null, .int 0, .int 0, .int 0, .int 0, .int 0]) := by rw [hG42]; exact va_up_self _ _ _
  refine lv_aload_n hx hb dX8_init_173 rfl (lv_at hl 0 rfl) ?_
  refine lv_bipush (v := (60 : Int32)) hx hb dX8_init_174 (by decide) ?_
  refine b_newa (atype := .int) (ty := .int) (N := 60) (t0 := 0) (a0 := (60, .inl (fun _ => 0))) hx hb hts hK hh AC_i rfl (fun _ h => h) rfl (fun _ => rfl) (by decide) (by decide) (by decide) (Nat.le_of_ble_eq_true rfl) (Nat.le_of_ble_eq_true rfl) dX8_init_176 (fun H hh => ?_)
  obtain ⟨G43, hG43⟩ : ∃ G, G = va_up G42 (235) (ari cA 60) := ⟨_, rfl⟩
  have hh : HB D B s (236) (va_up G42 (235) (ari cA 60)) H locs := hh
  rw [← hG43] at hh
  have hF : G43 (213) = .inr (8, [.int 0, .int 0, .ref (B + (214)), .ref (B + (215)), .ref (B + (216)), .ref (B + (217)), .int 0, .ref (B + (218)), .ref (B + (219)), .ref (B + (220)), .ref (B + (221)), .ref (B + (222)), .ref (B + (223)), .ref (B + (224)), .ref (B + (225)), .ref (B + (226)), .ref (B + (227)), .ref (B + (228)), .ref (B + (229)), .ref (B + (230)), .ref (B + (231)), .ref (B + (232)), .ref (B + (233)), .int 0, .int 0, .ref (B + (234)), .null, .null, .int 0, .null, .int 0, .null, .int 0, .int 0, .int 0, .int 0, .int 0]) := (congrFun hG43 _).trans ((va_up_ne _ _ (by omega)).trans hF)
  have fr : ∀ i, i < 213 → G43 i = F i := fun i hi => (congrFun hG43 _).trans ((va_up_ne _ _ (by omega)).trans (fr i hi))
  have g1 : G43 (214) = ari cA 4 := (congrFun hG43 _).trans ((va_up_ne _ _ (by omega)).trans g1)
  have g3 : G43 (215) = ari cA 4 := (congrFun hG43 _).trans ((va_up_ne _ _ (by omega)).trans g3)
  have g5 : G43 (216) = ari cA 4 := (congrFun hG43 _).trans ((va_up_ne _ _ (by omega)).trans g5)
  have g7 : G43 (217) = arz cA 1024 := (congrFun hG43 _).trans ((va_up_ne _ _ (by omega)).trans g7)
  have g9 : G43 (218) = ari cA 1024 := (congrFun hG43 _).trans ((va_up_ne _ _ (by omega)).trans g9)
  have g11 : G43 (219) = ari cA 1024 := (congrFun hG43 _).trans ((va_up_ne _ _ (by omega)).trans g11)
  have g13 : G43 (220) = ari cA 1024 := (congrFun hG43 _).trans ((va_up_ne _ _ (by omega)).trans g13)
  have g15 : G43 (221) = ari cA 12 := (congrFun hG43 _).trans ((va_up_ne _ _ (by omega)).trans g15)
  have g17 : G43 (222) = arz cA 12 := (congrFun hG43 _).trans ((va_up_ne _ _ (by omega)).trans g17)
  have g19 : G43 (223) = ari cA 12 := (congrFun hG43 _).trans ((va_up_ne _ _ (by omega)).trans g19)
  have g21 : G43 (224) = ari cA 12 := (congrFun hG43 _).trans ((va_up_ne _ _ (by omega)).trans g21)
  have g23 : G43 (225) = ari cA 12 := (congrFun hG43 _).trans ((va_up_ne _ _ (by omega)).trans g23)
  have g25 : G43 (226) = ari cA 12 := (congrFun hG43 _).trans ((va_up_ne _ _ (by omega)).trans g25)
  have g27 : G43 (227) = ari cA 12 := (congrFun hG43 _).trans ((va_up_ne _ _ (by omega)).trans g27)
  have g29 : G43 (228) = ari cA 12 := (congrFun hG43 _).trans ((va_up_ne _ _ (by omega)).trans g29)
  have g31 : G43 (229) = ari cA 12 := (congrFun hG43 _).trans ((va_up_ne _ _ (by omega)).trans g31)
  have g33 : G43 (230) = ari cA 12 := (congrFun hG43 _).trans ((va_up_ne _ _ (by omega)).trans g33)
  have g35 : G43 (231) = ari cA 12 := (congrFun hG43 _).trans ((va_up_ne _ _ (by omega)).trans g35)
  have g37 : G43 (232) = ari cA 12 := (congrFun hG43 _).trans ((va_up_ne _ _ (by omega)).trans g37)
  have g39 : G43 (233) = ari cA 12 := (congrFun hG43 _).trans ((va_up_ne _ _ (by omega)).trans g39)
  have g41 : G43 (234) = ari cA 60 := (congrFun hG43 _).trans ((va_up_ne _ _ (by omega)).trans g41)
  have g43 : G43 (235) = ari cA 60 := by rw [hG43]; exact va_up_self _ _ _
  refine b_put (Cn := RX8) (T := TX8) (N := 37) (ci := 8) (sl := 26) hx hb hts hown hK hh inG8 tyX8 tyX8_ok nmX8 rfl (by omega) hF (by decide) LF_8_74 hin rfl (tyX8_ok 26 (by decide)) (by first | rfl | decide) (by first | rfl | decide) (Nat.le_of_ble_eq_true rfl) dX8_init_178 (fun H locs hh => ?_)
  obtain ⟨G44, hG44⟩ : ∃ G, G = va_up G43 (213) (.inr (8, [.int 0, .int 0, .ref (B + (214)), .ref (B + (215)), .ref (B + (216)), .ref (B + (217)), .int 0, .ref (B + (218)), .ref (B + (219)), .ref (B + (220)), .ref (B + (221)), .ref (B + (222)), .ref (B + (223)), .ref (B + (224)), .ref (B + (225)), .ref (B + (226)), .ref (B + (227)), .ref (B + (228)), .ref (B + (229)), .ref (B + (230)), .ref (B + (231)), .ref (B + (232)), .ref (B + (233)), .int 0, .int 0, .ref (B + (234)), .ref (B + (235)), .null, .int 0, .null, .int 0, .null, .int 0, .int 0, .int 0, .int 0, .int 0])) := ⟨_, rfl⟩
  have hh : HB D B s (236) (va_up G43 (213) (.inr (8, [.int 0, .int 0, .ref (B + (214)), .ref (B + (215)), .ref (B + (216)), .ref (B + (217)), .int 0, .ref (B + (218)), .ref (B + (219)), .ref (B + (220)), .ref (B + (221)), .ref (B + (222)), .ref (B + (223)), .ref (B + (224)), .ref (B + (225)), .ref (B + (226)), .ref (B + (227)), .ref (B + (228)), .ref (B + (229)), .ref (B + (230)), .ref (B + (231)), .ref (B + (232)), .ref (B + (233)), .int 0, .int 0, .ref (B + (234)), .ref (B + (235)), .null, .int 0, .null, .int 0, .null, .int 0, .int 0, .int 0, .int 0, .int 0]))) H locs := hh
  rw [← hG44] at hh
  have fr : ∀ i, i < 213 → G44 i = F i := fun i hi => (congrFun hG44 _).trans ((va_up_ne _ _ (by omega)).trans (fr i hi))
  have g1 : G44 (214) = ari cA 4 := (congrFun hG44 _).trans ((va_up_ne _ _ (by omega)).trans g1)
  have g3 : G44 (215) = ari cA 4 := (congrFun hG44 _).trans ((va_up_ne _ _ (by omega)).trans g3)
  have g5 : G44 (216) = ari cA 4 := (congrFun hG44 _).trans ((va_up_ne _ _ (by omega)).trans g5)
  have g7 : G44 (217) = arz cA 1024 := (congrFun hG44 _).trans ((va_up_ne _ _ (by omega)).trans g7)
  have g9 : G44 (218) = ari cA 1024 := (congrFun hG44 _).trans ((va_up_ne _ _ (by omega)).trans g9)
  have g11 : G44 (219) = ari cA 1024 := (congrFun hG44 _).trans ((va_up_ne _ _ (by omega)).trans g11)
  have g13 : G44 (220) = ari cA 1024 := (congrFun hG44 _).trans ((va_up_ne _ _ (by omega)).trans g13)
  have g15 : G44 (221) = ari cA 12 := (congrFun hG44 _).trans ((va_up_ne _ _ (by omega)).trans g15)
  have g17 : G44 (222) = arz cA 12 := (congrFun hG44 _).trans ((va_up_ne _ _ (by omega)).trans g17)
  have g19 : G44 (223) = ari cA 12 := (congrFun hG44 _).trans ((va_up_ne _ _ (by omega)).trans g19)
  have g21 : G44 (224) = ari cA 12 := (congrFun hG44 _).trans ((va_up_ne _ _ (by omega)).trans g21)
  have g23 : G44 (225) = ari cA 12 := (congrFun hG44 _).trans ((va_up_ne _ _ (by omega)).trans g23)
  have g25 : G44 (226) = ari cA 12 := (congrFun hG44 _).trans ((va_up_ne _ _ (by omega)).trans g25)
  have g27 : G44 (227) = ari cA 12 := (congrFun hG44 _).trans ((va_up_ne _ _ (by omega)).trans g27)
  have g29 : G44 (228) = ari cA 12 := (congrFun hG44 _).trans ((va_up_ne _ _ (by omega)).trans g29)
  have g31 : G44 (229) = ari cA 12 := (congrFun hG44 _).trans ((va_up_ne _ _ (by omega)).trans g31)
  have g33 : G44 (230) = ari cA 12 := (congrFun hG44 _).trans ((va_up_ne _ _ (by omega)).trans g33)
  have g35 : G44 (231) = ari cA 12 := (congrFun hG44 _).trans ((va_up_ne _ _ (by omega)).trans g35)
  have g37 : G44 (232) = ari cA 12 := (congrFun hG44 _).trans ((va_up_ne _ _ (by omega)).trans g37)
  have g39 : G44 (233) = ari cA 12 := (congrFun hG44 _).trans ((va_up_ne _ _ (by omega)).trans g39)
  have g41 : G44 (234) = ari cA 60 := (congrFun hG44 _).trans ((va_up_ne _ _ (by omega)).trans g41)
  have g43 : G44 (235) = ari cA 60 := (congrFun hG44 _).trans ((va_up_ne _ _ (by omega)).trans g43)
  have hF : G44 (213) = .inr (8, [.int 0, .int 0, .ref (B + (214)), .ref (B + (215)), .ref (B + (216)), .ref (B + (217)), .int 0, .ref (B + (218)), .ref (B + (219)), .ref (B + (220)), .ref (B + (221)), .ref (B + (222)), .ref (B + (223)), .ref (B + (224)), .ref (B + (225)), .ref (B + (226)), .ref (B + (227)), .ref (B + (228)), .ref (B + (229)), .ref (B + (230)), .ref (B + (231)), .ref (B + (232)), .ref (B + (233)), .int 0, .int 0, .ref (B + (234)), .ref (B + (235)), .null, .int 0, .null, .int 0, .null, .int 0, .int 0, .int 0, .int 0, .int 0]) := by rw [hG44]; exact va_up_self _ _ _
  refine lv_aload_n hx hb dX8_init_181 rfl (lv_at hl 0 rfl) ?_
  refine lv_sipush (v := (3840 : Int32)) hx hb dX8_init_182 (by decide) ?_
  refine b_newa (atype := .int) (ty := .int) (N := 3840) (t0 := 0) (a0 := (3840, .inl (fun _ => 0))) hx hb hts hK hh AC_i rfl (fun _ h => h) rfl (fun _ => rfl) (by decide) (by decide) (by decide) (Nat.le_of_ble_eq_true rfl) (Nat.le_of_ble_eq_true rfl) dX8_init_185 (fun H hh => ?_)
  obtain ⟨G45, hG45⟩ : ∃ G, G = va_up G44 (236) (ari cA 3840) := ⟨_, rfl⟩
  have hh : HB D B s (237) (va_up G44 (236) (ari cA 3840)) H locs := hh
  rw [← hG45] at hh
  have hF : G45 (213) = .inr (8, [.int 0, .int 0, .ref (B + (214)), .ref (B + (215)), .ref (B + (216)), .ref (B + (217)), .int 0, .ref (B + (218)), .ref (B + (219)), .ref (B + (220)), .ref (B + (221)), .ref (B + (222)), .ref (B + (223)), .ref (B + (224)), .ref (B + (225)), .ref (B + (226)), .ref (B + (227)), .ref (B + (228)), .ref (B + (229)), .ref (B + (230)), .ref (B + (231)), .ref (B + (232)), .ref (B + (233)), .int 0, .int 0, .ref (B + (234)), .ref (B + (235)), .null, .int 0, .null, .int 0, .null, .int 0, .int 0, .int 0, .int 0, .int 0]) := (congrFun hG45 _).trans ((va_up_ne _ _ (by omega)).trans hF)
  have fr : ∀ i, i < 213 → G45 i = F i := fun i hi => (congrFun hG45 _).trans ((va_up_ne _ _ (by omega)).trans (fr i hi))
  have g1 : G45 (214) = ari cA 4 := (congrFun hG45 _).trans ((va_up_ne _ _ (by omega)).trans g1)
  have g3 : G45 (215) = ari cA 4 := (congrFun hG45 _).trans ((va_up_ne _ _ (by omega)).trans g3)
  have g5 : G45 (216) = ari cA 4 := (congrFun hG45 _).trans ((va_up_ne _ _ (by omega)).trans g5)
  have g7 : G45 (217) = arz cA 1024 := (congrFun hG45 _).trans ((va_up_ne _ _ (by omega)).trans g7)
  have g9 : G45 (218) = ari cA 1024 := (congrFun hG45 _).trans ((va_up_ne _ _ (by omega)).trans g9)
  have g11 : G45 (219) = ari cA 1024 := (congrFun hG45 _).trans ((va_up_ne _ _ (by omega)).trans g11)
  have g13 : G45 (220) = ari cA 1024 := (congrFun hG45 _).trans ((va_up_ne _ _ (by omega)).trans g13)
  have g15 : G45 (221) = ari cA 12 := (congrFun hG45 _).trans ((va_up_ne _ _ (by omega)).trans g15)
  have g17 : G45 (222) = arz cA 12 := (congrFun hG45 _).trans ((va_up_ne _ _ (by omega)).trans g17)
  have g19 : G45 (223) = ari cA 12 := (congrFun hG45 _).trans ((va_up_ne _ _ (by omega)).trans g19)
  have g21 : G45 (224) = ari cA 12 := (congrFun hG45 _).trans ((va_up_ne _ _ (by omega)).trans g21)
  have g23 : G45 (225) = ari cA 12 := (congrFun hG45 _).trans ((va_up_ne _ _ (by omega)).trans g23)
  have g25 : G45 (226) = ari cA 12 := (congrFun hG45 _).trans ((va_up_ne _ _ (by omega)).trans g25)
  have g27 : G45 (227) = ari cA 12 := (congrFun hG45 _).trans ((va_up_ne _ _ (by omega)).trans g27)
  have g29 : G45 (228) = ari cA 12 := (congrFun hG45 _).trans ((va_up_ne _ _ (by omega)).trans g29)
  have g31 : G45 (229) = ari cA 12 := (congrFun hG45 _).trans ((va_up_ne _ _ (by omega)).trans g31)
  have g33 : G45 (230) = ari cA 12 := (congrFun hG45 _).trans ((va_up_ne _ _ (by omega)).trans g33)
  have g35 : G45 (231) = ari cA 12 := (congrFun hG45 _).trans ((va_up_ne _ _ (by omega)).trans g35)
  have g37 : G45 (232) = ari cA 12 := (congrFun hG45 _).trans ((va_up_ne _ _ (by omega)).trans g37)
  have g39 : G45 (233) = ari cA 12 := (congrFun hG45 _).trans ((va_up_ne _ _ (by omega)).trans g39)
  have g41 : G45 (234) = ari cA 60 := (congrFun hG45 _).trans ((va_up_ne _ _ (by omega)).trans g41)
  have g43 : G45 (235) = ari cA 60 := (congrFun hG45 _).trans ((va_up_ne _ _ (by omega)).trans g43)
  have g45 : G45 (236) = ari cA 3840 := by rw [hG45]; exact va_up_self _ _ _
  refine b_put (Cn := RX8) (T := TX8) (N := 37) (ci := 8) (sl := 27) hx hb hts hown hK hh inG8 tyX8 tyX8_ok nmX8 rfl (by omega) hF (by decide) LF_8_77 hin rfl (tyX8_ok 27 (by decide)) (by first | rfl | decide) (by first | rfl | decide) (Nat.le_of_ble_eq_true rfl) dX8_init_187 (fun H locs hh => ?_)
  obtain ⟨G46, hG46⟩ : ∃ G, G = va_up G45 (213) (.inr (8, [.int 0, .int 0, .ref (B + (214)), .ref (B + (215)), .ref (B + (216)), .ref (B + (217)), .int 0, .ref (B + (218)), .ref (B + (219)), .ref (B + (220)), .ref (B + (221)), .ref (B + (222)), .ref (B + (223)), .ref (B + (224)), .ref (B + (225)), .ref (B + (226)), .ref (B + (227)), .ref (B + (228)), .ref (B + (229)), .ref (B + (230)), .ref (B + (231)), .ref (B + (232)), .ref (B + (233)), .int 0, .int 0, .ref (B + (234)), .ref (B + (235)), .ref (B + (236)), .int 0, .null, .int 0, .null, .int 0, .int 0, .int 0, .int 0, .int 0])) := ⟨_, rfl⟩
  have hh : HB D B s (237) (va_up G45 (213) (.inr (8, [.int 0, .int 0, .ref (B + (214)), .ref (B + (215)), .ref (B + (216)), .ref (B + (217)), .int 0, .ref (B + (218)), .ref (B + (219)), .ref (B + (220)), .ref (B + (221)), .ref (B + (222)), .ref (B + (223)), .ref (B + (224)), .ref (B + (225)), .ref (B + (226)), .ref (B + (227)), .ref (B + (228)), .ref (B + (229)), .ref (B + (230)), .ref (B + (231)), .ref (B + (232)), .ref (B + (233)), .int 0, .int 0, .ref (B + (234)), .ref (B + (235)), .ref (B + (236)), .int 0, .null, .int 0, .null, .int 0, .int 0, .int 0, .int 0, .int 0]))) H locs := hh
  rw [← hG46] at hh
  have fr : ∀ i, i < 213 → G46 i = F i := fun i hi => (congrFun hG46 _).trans ((va_up_ne _ _ (by omega)).trans (fr i hi))
  have g1 : G46 (214) = ari cA 4 := (congrFun hG46 _).trans ((va_up_ne _ _ (by omega)).trans g1)
  have g3 : G46 (215) = ari cA 4 := (congrFun hG46 _).trans ((va_up_ne _ _ (by omega)).trans g3)
  have g5 : G46 (216) = ari cA 4 := (congrFun hG46 _).trans ((va_up_ne _ _ (by omega)).trans g5)
  have g7 : G46 (217) = arz cA 1024 := (congrFun hG46 _).trans ((va_up_ne _ _ (by omega)).trans g7)
  have g9 : G46 (218) = ari cA 1024 := (congrFun hG46 _).trans ((va_up_ne _ _ (by omega)).trans g9)
  have g11 : G46 (219) = ari cA 1024 := (congrFun hG46 _).trans ((va_up_ne _ _ (by omega)).trans g11)
  have g13 : G46 (220) = ari cA 1024 := (congrFun hG46 _).trans ((va_up_ne _ _ (by omega)).trans g13)
  have g15 : G46 (221) = ari cA 12 := (congrFun hG46 _).trans ((va_up_ne _ _ (by omega)).trans g15)
  have g17 : G46 (222) = arz cA 12 := (congrFun hG46 _).trans ((va_up_ne _ _ (by omega)).trans g17)
  have g19 : G46 (223) = ari cA 12 := (congrFun hG46 _).trans ((va_up_ne _ _ (by omega)).trans g19)
  have g21 : G46 (224) = ari cA 12 := (congrFun hG46 _).trans ((va_up_ne _ _ (by omega)).trans g21)
  have g23 : G46 (225) = ari cA 12 := (congrFun hG46 _).trans ((va_up_ne _ _ (by omega)).trans g23)
  have g25 : G46 (226) = ari cA 12 := (congrFun hG46 _).trans ((va_up_ne _ _ (by omega)).trans g25)
  have g27 : G46 (227) = ari cA 12 := (congrFun hG46 _).trans ((va_up_ne _ _ (by omega)).trans g27)
  have g29 : G46 (228) = ari cA 12 := (congrFun hG46 _).trans ((va_up_ne _ _ (by omega)).trans g29)
  have g31 : G46 (229) = ari cA 12 := (congrFun hG46 _).trans ((va_up_ne _ _ (by omega)).trans g31)
  have g33 : G46 (230) = ari cA 12 := (congrFun hG46 _).trans ((va_up_ne _ _ (by omega)).trans g33)
  have g35 : G46 (231) = ari cA 12 := (congrFun hG46 _).trans ((va_up_ne _ _ (by omega)).trans g35)
  have g37 : G46 (232) = ari cA 12 := (congrFun hG46 _).trans ((va_up_ne _ _ (by omega)).trans g37)
  have g39 : G46 (233) = ari cA 12 := (congrFun hG46 _).trans ((va_up_ne _ _ (by omega)).trans g39)
  have g41 : G46 (234) = ari cA 60 := (congrFun hG46 _).trans ((va_up_ne _ _ (by omega)).trans g41)
  have g43 : G46 (235) = ari cA 60 := (congrFun hG46 _).trans ((va_up_ne _ _ (by omega)).trans g43)
  have g45 : G46 (236) = ari cA 3840 := (congrFun hG46 _).trans ((va_up_ne _ _ (by omega)).trans g45)
  have hF : G46 (213) = .inr (8, [.int 0, .int 0, .ref (B + (214)), .ref (B + (215)), .ref (B + (216)), .ref (B + (217)), .int 0, .ref (B + (218)), .ref (B + (219)), .ref (B + (220)), .ref (B + (221)), .ref (B + (222)), .ref (B + (223)), .ref (B + (224)), .ref (B + (225)), .ref (B + (226)), .ref (B + (227)), .ref (B + (228)), .ref (B + (229)), .ref (B + (230)), .ref (B + (231)), .ref (B + (232)), .ref (B + (233)), .int 0, .int 0, .ref (B + (234)), .ref (B + (235)), .ref (B + (236)), .int 0, .null, .int 0, .null, .int 0, .int 0, .int 0, .int 0, .int 0]) := by rw [hG46]; exact va_up_self _ _ _
  refine lv_aload_n hx hb dX8_init_190 rfl (lv_at hl 0 rfl) ?_
  refine lv_bipush (v := (64 : Int32)) hx hb dX8_init_191 (by decide) ?_
  refine b_newa (atype := .int) (ty := .int) (N := 64) (t0 := 0) (a0 := (64, .inl (fun _ => 0))) hx hb hts hK hh AC_i rfl (fun _ h => h) rfl (fun _ => rfl) (by decide) (by decide) (by decide) (Nat.le_of_ble_eq_true rfl) (Nat.le_of_ble_eq_true rfl) dX8_init_193 (fun H hh => ?_)
  obtain ⟨G47, hG47⟩ : ∃ G, G = va_up G46 (237) (ari cA 64) := ⟨_, rfl⟩
  have hh : HB D B s (238) (va_up G46 (237) (ari cA 64)) H locs := hh
  rw [← hG47] at hh
  have hF : G47 (213) = .inr (8, [.int 0, .int 0, .ref (B + (214)), .ref (B + (215)), .ref (B + (216)), .ref (B + (217)), .int 0, .ref (B + (218)), .ref (B + (219)), .ref (B + (220)), .ref (B + (221)), .ref (B + (222)), .ref (B + (223)), .ref (B + (224)), .ref (B + (225)), .ref (B + (226)), .ref (B + (227)), .ref (B + (228)), .ref (B + (229)), .ref (B + (230)), .ref (B + (231)), .ref (B + (232)), .ref (B + (233)), .int 0, .int 0, .ref (B + (234)), .ref (B + (235)), .ref (B + (236)), .int 0, .null, .int 0, .null, .int 0, .int 0, .int 0, .int 0, .int 0]) := (congrFun hG47 _).trans ((va_up_ne _ _ (by omega)).trans hF)
  have fr : ∀ i, i < 213 → G47 i = F i := fun i hi => (congrFun hG47 _).trans ((va_up_ne _ _ (by omega)).trans (fr i hi))
  have g1 : G47 (214) = ari cA 4 := (congrFun hG47 _).trans ((va_up_ne _ _ (by omega)).trans g1)
  have g3 : G47 (215) = ari cA 4 := (congrFun hG47 _).trans ((va_up_ne _ _ (by omega)).trans g3)
  have g5 : G47 (216) = ari cA 4 := (congrFun hG47 _).trans ((va_up_ne _ _ (by omega)).trans g5)
  have g7 : G47 (217) = arz cA 1024 := (congrFun hG47 _).trans ((va_up_ne _ _ (by omega)).trans g7)
  have g9 : G47 (218) = ari cA 1024 := (congrFun hG47 _).trans ((va_up_ne _ _ (by omega)).trans g9)
  have g11 : G47 (219) = ari cA 1024 := (congrFun hG47 _).trans ((va_up_ne _ _ (by omega)).trans g11)
  have g13 : G47 (220) = ari cA 1024 := (congrFun hG47 _).trans ((va_up_ne _ _ (by omega)).trans g13)
  have g15 : G47 (221) = ari cA 12 := (congrFun hG47 _).trans ((va_up_ne _ _ (by omega)).trans g15)
  have g17 : G47 (222) = arz cA 12 := (congrFun hG47 _).trans ((va_up_ne _ _ (by omega)).trans g17)
  have g19 : G47 (223) = ari cA 12 := (congrFun hG47 _).trans ((va_up_ne _ _ (by omega)).trans g19)
  have g21 : G47 (224) = ari cA 12 := (congrFun hG47 _).trans ((va_up_ne _ _ (by omega)).trans g21)
  have g23 : G47 (225) = ari cA 12 := (congrFun hG47 _).trans ((va_up_ne _ _ (by omega)).trans g23)
  have g25 : G47 (226) = ari cA 12 := (congrFun hG47 _).trans ((va_up_ne _ _ (by omega)).trans g25)
  have g27 : G47 (227) = ari cA 12 := (congrFun hG47 _).trans ((va_up_ne _ _ (by omega)).trans g27)
  have g29 : G47 (228) = ari cA 12 := (congrFun hG47 _).trans ((va_up_ne _ _ (by omega)).trans g29)
  have g31 : G47 (229) = ari cA 12 := (congrFun hG47 _).trans ((va_up_ne _ _ (by omega)).trans g31)
  have g33 : G47 (230) = ari cA 12 := (congrFun hG47 _).trans ((va_up_ne _ _ (by omega)).trans g33)
  have g35 : G47 (231) = ari cA 12 := (congrFun hG47 _).trans ((va_up_ne _ _ (by omega)).trans g35)
  have g37 : G47 (232) = ari cA 12 := (congrFun hG47 _).trans ((va_up_ne _ _ (by omega)).trans g37)
  have g39 : G47 (233) = ari cA 12 := (congrFun hG47 _).trans ((va_up_ne _ _ (by omega)).trans g39)
  have g41 : G47 (234) = ari cA 60 := (congrFun hG47 _).trans ((va_up_ne _ _ (by omega)).trans g41)
  have g43 : G47 (235) = ari cA 60 := (congrFun hG47 _).trans ((va_up_ne _ _ (by omega)).trans g43)
  have g45 : G47 (236) = ari cA 3840 := (congrFun hG47 _).trans ((va_up_ne _ _ (by omega)).trans g45)
  have g47 : G47 (237) = ari cA 64 := by rw [hG47]; exact va_up_self _ _ _
  refine b_put (Cn := RX8) (T := TX8) (N := 37) (ci := 8) (sl := 29) hx hb hts hown hK hh inG8 tyX8 tyX8_ok nmX8 rfl (by omega) hF (by decide) LF_8_80 hin rfl (tyX8_ok 29 (by decide)) (by first | rfl | decide) (by first | rfl | decide) (Nat.le_of_ble_eq_true rfl) dX8_init_195 (fun H locs hh => ?_)
  obtain ⟨G48, hG48⟩ : ∃ G, G = va_up G47 (213) (.inr (8, [.int 0, .int 0, .ref (B + (214)), .ref (B + (215)), .ref (B + (216)), .ref (B + (217)), .int 0, .ref (B + (218)), .ref (B + (219)), .ref (B + (220)), .ref (B + (221)), .ref (B + (222)), .ref (B + (223)), .ref (B + (224)), .ref (B + (225)), .ref (B + (226)), .ref (B + (227)), .ref (B + (228)), .ref (B + (229)), .ref (B + (230)), .ref (B + (231)), .ref (B + (232)), .ref (B + (233)), .int 0, .int 0, .ref (B + (234)), .ref (B + (235)), .ref (B + (236)), .int 0, .ref (B + (237)), .int 0, .null, .int 0, .int 0, .int 0, .int 0, .int 0])) := ⟨_, rfl⟩
  have hh : HB D B s (238) (va_up G47 (213) (.inr (8, [.int 0, .int 0, .ref (B + (214)), .ref (B + (215)), .ref (B + (216)), .ref (B + (217)), .int 0, .ref (B + (218)), .ref (B + (219)), .ref (B + (220)), .ref (B + (221)), .ref (B + (222)), .ref (B + (223)), .ref (B + (224)), .ref (B + (225)), .ref (B + (226)), .ref (B + (227)), .ref (B + (228)), .ref (B + (229)), .ref (B + (230)), .ref (B + (231)), .ref (B + (232)), .ref (B + (233)), .int 0, .int 0, .ref (B + (234)), .ref (B + (235)), .ref (B + (236)), .int 0, .ref (B + (237)), .int 0, .null, .int 0, .int 0, .int 0, .int 0, .int 0]))) H locs := hh
  rw [← hG48] at hh
  have fr : ∀ i, i < 213 → G48 i = F i := fun i hi => (congrFun hG48 _).trans ((va_up_ne _ _ (by omega)).trans (fr i hi))
  have g1 : G48 (214) = ari cA 4 := (congrFun hG48 _).trans ((va_up_ne _ _ (by omega)).trans g1)
  have g3 : G48 (215) = ari cA 4 := (congrFun hG48 _).trans ((va_up_ne _ _ (by omega)).trans g3)
  have g5 : G48 (216) = ari cA 4 := (congrFun hG48 _).trans ((va_up_ne _ _ (by omega)).trans g5)
  have g7 : G48 (217) = arz cA 1024 := (congrFun hG48 _).trans ((va_up_ne _ _ (by omega)).trans g7)
  have g9 : G48 (218) = ari cA 1024 := (congrFun hG48 _).trans ((va_up_ne _ _ (by omega)).trans g9)
  have g11 : G48 (219) = ari cA 1024 := (congrFun hG48 _).trans ((va_up_ne _ _ (by omega)).trans g11)
  have g13 : G48 (220) = ari cA 1024 := (congrFun hG48 _).trans ((va_up_ne _ _ (by omega)).trans g13)
  have g15 : G48 (221) = ari cA 12 := (congrFun hG48 _).trans ((va_up_ne _ _ (by omega)).trans g15)
  have g17 : G48 (222) = arz cA 12 := (congrFun hG48 _).trans ((va_up_ne _ _ (by omega)).trans g17)
  have g19 : G48 (223) = ari cA 12 := (congrFun hG48 _).trans ((va_up_ne _ _ (by omega)).trans g19)
  have g21 : G48 (224) = ari cA 12 := (congrFun hG48 _).trans ((va_up_ne _ _ (by omega)).trans g21)
  have g23 : G48 (225) = ari cA 12 := (congrFun hG48 _).trans ((va_up_ne _ _ (by omega)).trans g23)
  have g25 : G48 (226) = ari cA 12 := (congrFun hG48 _).trans ((va_up_ne _ _ (by omega)).trans g25)
  have g27 : G48 (227) = ari cA 12 := (congrFun hG48 _).trans ((va_up_ne _ _ (by omega)).trans g27)
  have g29 : G48 (228) = ari cA 12 := (congrFun hG48 _).trans ((va_up_ne _ _ (by omega)).trans g29)
  have g31 : G48 (229) = ari cA 12 := (congrFun hG48 _).trans ((va_up_ne _ _ (by omega)).trans g31)
  have g33 : G48 (230) = ari cA 12 := (congrFun hG48 _).trans ((va_up_ne _ _ (by omega)).trans g33)
  have g35 : G48 (231) = ari cA 12 := (congrFun hG48 _).trans ((va_up_ne _ _ (by omega)).trans g35)
  have g37 : G48 (232) = ari cA 12 := (congrFun hG48 _).trans ((va_up_ne _ _ (by omega)).trans g37)
  have g39 : G48 (233) = ari cA 12 := (congrFun hG48 _).trans ((va_up_ne _ _ (by omega)).trans g39)
  have g41 : G48 (234) = ari cA 60 := (congrFun hG48 _).trans ((va_up_ne _ _ (by omega)).trans g41)
  have g43 : G48 (235) = ari cA 60 := (congrFun hG48 _).trans ((va_up_ne _ _ (by omega)).trans g43)
  have g45 : G48 (236) = ari cA 3840 := (congrFun hG48 _).trans ((va_up_ne _ _ (by omega)).trans g45)
  have g47 : G48 (237) = ari cA 64 := (congrFun hG48 _).trans ((va_up_ne _ _ (by omega)).trans g47)
  have hF : G48 (213) = .inr (8, [.int 0, .int 0, .ref (B + (214)), .ref (B + (215)), .ref (B + (216)), .ref (B + (217)), .int 0, .ref (B + (218)), .ref (B + (219)), .ref (B + (220)), .ref (B + (221)), .ref (B + (222)), .ref (B + (223)), .ref (B + (224)), .ref (B + (225)), .ref (B + (226)), .ref (B + (227)), .ref (B + (228)), .ref (B + (229)), .ref (B + (230)), .ref (B + (231)), .ref (B + (232)), .ref (B + (233)), .int 0, .int 0, .ref (B + (234)), .ref (B + (235)), .ref (B + (236)), .int 0, .ref (B + (237)), .int 0, .null, .int 0, .int 0, .int 0, .int 0, .int 0]) := by rw [hG48]; exact va_up_self _ _ _
  refine lv_aload_n hx hb dX8_init_198 rfl (lv_at hl 0 rfl) ?_
  refine lv_bipush (v := (60 : Int32)) hx hb dX8_init_199 (by decide) ?_
  refine b_newa (atype := .int) (ty := .int) (N := 60) (t0 := 0) (a0 := (60, .inl (fun _ => 0))) hx hb hts hK hh AC_i rfl (fun _ h => h) rfl (fun _ => rfl) (by decide) (by decide) (by decide) (Nat.le_of_ble_eq_true rfl) (Nat.le_of_ble_eq_true rfl) dX8_init_201 (fun H hh => ?_)
  obtain ⟨G49, hG49⟩ : ∃ G, G = va_up G48 (238) (ari cA 60) := ⟨_, rfl⟩
  have hh : HB D B s (239) (va_up G48 (238) (ari cA 60)) H locs := hh
  rw [← hG49] at hh
  have hF : G49 (213) = .inr (8, [.int 0, .int 0, .ref (B + (214)), .ref (B + (215)), .ref (B + (216)), .ref (B + (217)), .int 0, .ref (B + (218)), .ref (B + (219)), .ref (B + (220)), .ref (B + (221)), .ref (B + (222)), .ref (B + (223)), .ref (B + (224)), .ref (B + (225)), .ref (B + (226)), .ref (B + (227)), .ref (B + (228)), .ref (B + (229)), .ref (B + (230)), .ref (B + (231)), .ref (B + (232)), .ref (B + (233)), .int 0, .int 0, .ref (B + (234)), .ref (B + (235)), .ref (B + (236)), .int 0, .ref (B + (237)), .int 0, .null, .int 0, .int 0, .int 0, .int 0, .int 0]) := (congrFun hG49 _).trans ((va_up_ne _ _ (by omega)).trans hF)
  have fr : ∀ i, i < 213 → G49 i = F i := fun i hi => (congrFun hG49 _).trans ((va_up_ne _ _ (by omega)).trans (fr i hi))
  have g1 : G49 (214) = ari cA 4 := (congrFun hG49 _).trans ((va_up_ne _ _ (by omega)).trans g1)
  have g3 : G49 (215) = ari cA 4 := (congrFun hG49 _).trans ((va_up_ne _ _ (by omega)).trans g3)
  have g5 : G49 (216) = ari cA 4 := (congrFun hG49 _).trans ((va_up_ne _ _ (by omega)).trans g5)
  have g7 : G49 (217) = arz cA 1024 := (congrFun hG49 _).trans ((va_up_ne _ _ (by omega)).trans g7)
  have g9 : G49 (218) = ari cA 1024 := (congrFun hG49 _).trans ((va_up_ne _ _ (by omega)).trans g9)
  have g11 : G49 (219) = ari cA 1024 := (congrFun hG49 _).trans ((va_up_ne _ _ (by omega)).trans g11)
  have g13 : G49 (220) = ari cA 1024 := (congrFun hG49 _).trans ((va_up_ne _ _ (by omega)).trans g13)
  have g15 : G49 (221) = ari cA 12 := (congrFun hG49 _).trans ((va_up_ne _ _ (by omega)).trans g15)
  have g17 : G49 (222) = arz cA 12 := (congrFun hG49 _).trans ((va_up_ne _ _ (by omega)).trans g17)
  have g19 : G49 (223) = ari cA 12 := (congrFun hG49 _).trans ((va_up_ne _ _ (by omega)).trans g19)
  have g21 : G49 (224) = ari cA 12 := (congrFun hG49 _).trans ((va_up_ne _ _ (by omega)).trans g21)
  have g23 : G49 (225) = ari cA 12 := (congrFun hG49 _).trans ((va_up_ne _ _ (by omega)).trans g23)
  have g25 : G49 (226) = ari cA 12 := (congrFun hG49 _).trans ((va_up_ne _ _ (by omega)).trans g25)
  have g27 : G49 (227) = ari cA 12 := (congrFun hG49 _).trans ((va_up_ne _ _ (by omega)).trans g27)
  have g29 : G49 (228) = ari cA 12 := (congrFun hG49 _).trans ((va_up_ne _ _ (by omega)).trans g29)
  have g31 : G49 (229) = ari cA 12 := (congrFun hG49 _).trans ((va_up_ne _ _ (by omega)).trans g31)
  have g33 : G49 (230) = ari cA 12 := (congrFun hG49 _).trans ((va_up_ne _ _ (by omega)).trans g33)
  have g35 : G49 (231) = ari cA 12 := (congrFun hG49 _).trans ((va_up_ne _ _ (by omega)).trans g35)
  have g37 : G49 (232) = ari cA 12 := (congrFun hG49 _).trans ((va_up_ne _ _ (by omega)).trans g37)
  have g39 : G49 (233) = ari cA 12 := (congrFun hG49 _).trans ((va_up_ne _ _ (by omega)).trans g39)
  have g41 : G49 (234) = ari cA 60 := (congrFun hG49 _).trans ((va_up_ne _ _ (by omega)).trans g41)
  have g43 : G49 (235) = ari cA 60 := (congrFun hG49 _).trans ((va_up_ne _ _ (by omega)).trans g43)
  have g45 : G49 (236) = ari cA 3840 := (congrFun hG49 _).trans ((va_up_ne _ _ (by omega)).trans g45)
  have g47 : G49 (237) = ari cA 64 := (congrFun hG49 _).trans ((va_up_ne _ _ (by omega)).trans g47)
  have g49 : G49 (238) = ari cA 60 := by rw [hG49]; exact va_up_self _ _ _
  refine b_put (Cn := RX8) (T := TX8) (N := 37) (ci := 8) (sl := 31) hx hb hts hown hK hh inG8 tyX8 tyX8_ok nmX8 rfl (by omega) hF (by decide) LF_8_83 hin rfl (tyX8_ok 31 (by decide)) (by first | rfl | decide) (by first | rfl | decide) (Nat.le_of_ble_eq_true rfl) dX8_init_203 (fun H locs hh => ?_)
  obtain ⟨G50, hG50⟩ : ∃ G, G = va_up G49 (213) (.inr (8, [.int 0, .int 0, .ref (B + (214)), .ref (B + (215)), .ref (B + (216)), .ref (B + (217)), .int 0, .ref (B + (218)), .ref (B + (219)), .ref (B + (220)), .ref (B + (221)), .ref (B + (222)), .ref (B + (223)), .ref (B + (224)), .ref (B + (225)), .ref (B + (226)), .ref (B + (227)), .ref (B + (228)), .ref (B + (229)), .ref (B + (230)), .ref (B + (231)), .ref (B + (232)), .ref (B + (233)), .int 0, .int 0, .ref (B + (234)), .ref (B + (235)), .ref (B + (236)), .int 0, .ref (B + (237)), .int 0, .ref (B + (238)), .int 0, .int 0, .int 0, .int 0, .int 0])) := ⟨_, rfl⟩
  have hh : HB D B s (239) (va_up G49 (213) (.inr (8, [.int 0, .int 0, .ref (B + (214)), .ref (B + (215)), .ref (B + (216)), .ref (B + (217)), .int 0, .ref (B + (218)), .ref (B + (219)), .ref (B + (220)), .ref (B + (221)), .ref (B + (222)), .ref (B + (223)), .ref (B + (224)), .ref (B + (225)), .ref (B + (226)), .ref (B + (227)), .ref (B + (228)), .ref (B + (229)), .ref (B + (230)), .ref (B + (231)), .ref (B + (232)), .ref (B + (233)), .int 0, .int 0, .ref (B + (234)), .ref (B + (235)), .ref (B + (236)), .int 0, .ref (B + (237)), .int 0, .ref (B + (238)), .int 0, .int 0, .int 0, .int 0, .int 0]))) H locs := hh
  rw [← hG50] at hh
  have fr : ∀ i, i < 213 → G50 i = F i := fun i hi => (congrFun hG50 _).trans ((va_up_ne _ _ (by omega)).trans (fr i hi))
  have g1 : G50 (214) = ari cA 4 := (congrFun hG50 _).trans ((va_up_ne _ _ (by omega)).trans g1)
  have g3 : G50 (215) = ari cA 4 := (congrFun hG50 _).trans ((va_up_ne _ _ (by omega)).trans g3)
  have g5 : G50 (216) = ari cA 4 := (congrFun hG50 _).trans ((va_up_ne _ _ (by omega)).trans g5)
  have g7 : G50 (217) = arz cA 1024 := (congrFun hG50 _).trans ((va_up_ne _ _ (by omega)).trans g7)
  have g9 : G50 (218) = ari cA 1024 := (congrFun hG50 _).trans ((va_up_ne _ _ (by omega)).trans g9)
  have g11 : G50 (219) = ari cA 1024 := (congrFun hG50 _).trans ((va_up_ne _ _ (by omega)).trans g11)
  have g13 : G50 (220) = ari cA 1024 := (congrFun hG50 _).trans ((va_up_ne _ _ (by omega)).trans g13)
  have g15 : G50 (221) = ari cA 12 := (congrFun hG50 _).trans ((va_up_ne _ _ (by omega)).trans g15)
  have g17 : G50 (222) = arz cA 12 := (congrFun hG50 _).trans ((va_up_ne _ _ (by omega)).trans g17)
  have g19 : G50 (223) = ari cA 12 := (congrFun hG50 _).trans ((va_up_ne _ _ (by omega)).trans g19)
  have g21 : G50 (224) = ari cA 12 := (congrFun hG50 _).trans ((va_up_ne _ _ (by omega)).trans g21)
  have g23 : G50 (225) = ari cA 12 := (congrFun hG50 _).trans ((va_up_ne _ _ (by omega)).trans g23)
  have g25 : G50 (226) = ari cA 12 := (congrFun hG50 _).trans ((va_up_ne _ _ (by omega)).trans g25)
  have g27 : G50 (227) = ari cA 12 := (congrFun hG50 _).trans ((va_up_ne _ _ (by omega)).trans g27)
  have g29 : G50 (228) = ari cA 12 := (congrFun hG50 _).trans ((va_up_ne _ _ (by omega)).trans g29)
  have g31 : G50 (229) = ari cA 12 := (congrFun hG50 _).trans ((va_up_ne _ _ (by omega)).trans g31)
  have g33 : G50 (230) = ari cA 12 := (congrFun hG50 _).trans ((va_up_ne _ _ (by omega)).trans g33)
  have g35 : G50 (231) = ari cA 12 := (congrFun hG50 _).trans ((va_up_ne _ _ (by omega)).trans g35)
  have g37 : G50 (232) = ari cA 12 := (congrFun hG50 _).trans ((va_up_ne _ _ (by omega)).trans g37)
  have g39 : G50 (233) = ari cA 12 := (congrFun hG50 _).trans ((va_up_ne _ _ (by omega)).trans g39)
  have g41 : G50 (234) = ari cA 60 := (congrFun hG50 _).trans ((va_up_ne _ _ (by omega)).trans g41)
  have g43 : G50 (235) = ari cA 60 := (congrFun hG50 _).trans ((va_up_ne _ _ (by omega)).trans g43)
  have g45 : G50 (236) = ari cA 3840 := (congrFun hG50 _).trans ((va_up_ne _ _ (by omega)).trans g45)
  have g47 : G50 (237) = ari cA 64 := (congrFun hG50 _).trans ((va_up_ne _ _ (by omega)).trans g47)
  have g49 : G50 (238) = ari cA 60 := (congrFun hG50 _).trans ((va_up_ne _ _ (by omega)).trans g49)
  have hF : G50 (213) = .inr (8, [.int 0, .int 0, .ref (B + (214)), .ref (B + (215)), .ref (B + (216)), .ref (B + (217)), .int 0, .ref (B + (218)), .ref (B + (219)), .ref (B + (220)), .ref (B + (221)), .ref (B + (222)), .ref (B + (223)), .ref (B + (224)), .ref (B + (225)), .ref (B + (226)), .ref (B + (227)), .ref (B + (228)), .ref (B + (229)), .ref (B + (230)), .ref (B + (231)), .ref (B + (232)), .ref (B + (233)), .int 0, .int 0, .ref (B + (234)), .ref (B + (235)), .ref (B + (236)), .int 0, .ref (B + (237)), .int 0, .ref (B + (238)), .int 0, .int 0, .int 0, .int 0, .int 0]) := by rw [hG50]; exact va_up_self _ _ _
  exact b_ret hx hb hK hN hr hlocks hh ⟨hF, g1, g3, g5, g7, g9, g11, g13, g15, g17, g19, g21, g23, g25, g27, g29, g31, g33, g35, g37, g39, g41, g43, g45, g47, g49, fr⟩ dX8_init_206
