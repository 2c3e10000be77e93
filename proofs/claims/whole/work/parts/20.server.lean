abbrev ri_6 : Room := { frames := 2, cells := 9, slots := 3100, locals := 40 }
def srvP (cA : Nat → ClassId) (B : Nat) (F G : Nat → va_E) : Prop := G 183 = .inr (6, [.int 1, .ref (B + (184)), .ref (B + (185)), .ref (B + (186)), .ref (B + (187)), .ref (B + (188))]) ∧ (∃ f : Nat → Option Nat, G 184 = arq (cA 4) 4 f ∧ ∀ j, j < 4 → f j = some (B + (189 + j))) ∧ G 185 = ari cA 1024 ∧ (∃ f : Nat → Int32, G 186 = .inl (cA 0, 1024, .inl f) ∧ ∀ j, j < 1024 → f j = -1) ∧ G 187 = ari cA 1024 ∧ (∃ f : Nat → Int32, G 188 = .inl (cA 0, 12, .inl f) ∧ ∀ j, j < 12 → f j = -2147483648) ∧ (∀ j, j < 4 → G (189 + j) = .inr (4, [.int 0, .int 0, .int 0])) ∧ ∀ i, i < 183 → G i = F i
set_option maxHeartbeats 4000000 in
set_option maxRecDepth 100000 in
theorem srv_loop {p : Program} {l : Launch} {e : Env} {s : State} {m : MethodId} {args : Array Value} {below : List Frame} {meth : Method} {c : Code} {D : va_G} {cA : Nat → ClassId} {B : Nat} {F : Nat → va_E} (C : Cb p s m args meth c cX6_init 2 RX6 D cA B) : ∀ (t i : Nat) (G : Nat → va_E) (f : Nat → Option Nat) {H : Heap} {locs : List Loc} {ls : Array Slot}, i + t = 4 → HB D B s (189 + i) G H locs → G 183 = .inr (6, [.int 1, .ref (B + (184)), .ref (B + (185)), .ref (B + (186)), .ref (B + (187)), .ref (B + (188))]) → G 184 = arq (cA 4) 4 f → (∀ j, j < i → f j = some (B + (189 + j))) → G 185 = ari cA 1024 → G 186 = ari cA 1024 → G 187 = ari cA 1024 → G 188 = ari cA 12 → (∀ j, j < i → G (189 + j) = .inr (4, [.int 0, .int 0, .int 0])) → (∀ q, q < 183 → G q = F q) → lv_has ls 2 [(1, .int (nI i)), (0, .ref (B + 183))] → W p l e ri_6 s m args below meth c H locs (5 + i) (3088 + 3 * i) (MQ below (QB D cA B 193 (srvP cA B F)) args s 9 3100 (fun q => B ≤ q)) (F0 m 54 ls []) := by
  obtain ⟨⟨hx, hb, hml, hown, hts⟩, hK, hN, hB, hr, hlocks, hin⟩ := id C
  intro t
  induction t with
  | zero =>
    intro i G f H locs ls hi hh h1 h2 hf h5 h6 h7 h8 hp h0 hl
    have hi : i = 4 := by omega
    subst hi
    refine lv_iload_n hx hb dX6_init_54 rfl (lv_at hl 0 rfl) ?_
    refine lv_iconst (v := (4 : Int32)) hx hb dX6_init_55 (by decide) ?_
    refine lv_icmp_ge (tgt := 78) hx hb dX6_init_56 (by decide) (fun c1 => ?_) (fun c1 => absurd (by decide) c1)
    refine lv_aload_n hx hb dX6_init_78 rfl (lv_at hl 1 rfl) ?_
    refine b_get (C := RX6) (T := TX6) (N := 6) (ci := 6) (sl := 3) hx hb hts hown hK hh inG6 rfl (by omega) h1 (by decide) LF_6_25 rfl dX6_init_79 ?_
    refine lv_iconst (v := (-1 : Int32)) hx hb dX6_init_82 (by decide) ?_
    refine c_init hh (frun (rest := []) (N := 1024) C hh (by omega) (by decide) h6 ⟨by decide, by decide⟩ hl.1 (Nat.le_of_ble_eq_true rfl) dX6_init_83 ⟨by decide, by decide⟩) (fun G2 H locs hq hh => ?_)
    obtain ⟨⟨f6, a1, a2⟩, a3⟩ := hq
    have h1 := (a3 183 (by omega)).trans h1
    have h8 := (a3 188 (by omega)).trans h8
    refine lv_aload_n hx hb dX6_init_86 rfl (lv_at hl 1 rfl) ?_
    refine b_get (C := RX6) (T := TX6) (N := 6) (ci := 6) (sl := 5) hx hb hts hown hK hh inG6 rfl (by omega) h1 (by decide) LF_6_31 rfl dX6_init_87 ?_
    refine lv_ldc (v := (-2147483648 : Int32)) hx hb hown (hts _ LC_6_43) dX6_init_90 ?_
    refine c_init hh (frun (rest := []) (N := 12) C hh (by omega) (by decide) h8 ⟨by decide, by decide⟩ hl.1 (Nat.le_of_ble_eq_true rfl) dX6_init_92 ⟨by decide, by decide⟩) (fun G3 H locs hq hh => ?_)
    obtain ⟨⟨f8, b1, b2⟩, b3⟩ := hq
    refine b_ret hx hb hK hN hr hlocks hh ⟨(b3 183 (by omega)).trans h1, ⟨f, (b3 184 (by omega)).trans ((a3 184 (by omega)).trans h2), hf⟩, (b3 185 (by omega)).trans ((a3 185 (by omega)).trans h5), ⟨f6, (b3 186 (by omega)).trans a1, a2⟩, (b3 187 (by omega)).trans ((a3 187 (by omega)).trans h7), ⟨f8, b1, b2⟩, fun j hj => (b3 _ (by omega)).trans ((a3 _ (by omega)).trans (hp j hj)), fun q hq => (b3 _ (by omega)).trans ((a3 _ (by omega)).trans (h0 q hq))⟩ dX6_init_95
  | succ t ih =>
    intro i G f H locs ls hi hh h1 h2 hf h5 h6 h7 h8 hp h0 hl
    refine lv_iload_n hx hb dX6_init_54 rfl (lv_at hl 0 rfl) ?_
    refine lv_iconst (v := (4 : Int32)) hx hb dX6_init_55 (by decide) ?_
    refine lv_icmp_ge (tgt := 78) hx hb dX6_init_56 (by decide) (fun c1 => absurd c1 (nI_ge (a := i) (b := 4) (by omega) (by decide))) (fun c1 => ?_)
    refine lv_aload_n hx hb dX6_init_59 rfl (lv_at hl 1 rfl) ?_
    refine b_get (C := RX6) (T := TX6) (N := 6) (ci := 6) (sl := 1) hx hb hts hown hK hh inG6 rfl (by omega) h1 (by decide) LF_6_17 rfl dX6_init_60 ?_
    refine lv_iload_n hx hb dX6_init_63 rfl (lv_at hl 0 rfl) ?_
    refine b_new (ci := 4) (fs := df4) (N := 3) tyX4 hx hb hts hown hK hh inG4 tyX4_ok rfl LK_6_15 IS_4 IN_4 dfo4 (by show _ ≤ 9; omega) (by show _ ≤ 3100; omega) dX6_init_64 (fun H hh => ?_)
    obtain ⟨G1, e1⟩ : ∃ G1, G1 = va_up G (189 + i) (.inr (4, df4)) := ⟨_, rfl⟩
    rw [← e1] at hh
    have a1 : G1 (189 + i) = .inr (4, df4) := by rw [e1]; exact va_up_self _ _ _
    have a2 : ∀ q, q < 189 + i → G1 q = G q := fun q hq => by rw [e1]; exact va_up_ne _ _ (by omega)
    refine lv_dup hx hb dX6_init_67 rfl ?_
    refine c_init hh (inrun (rest := [.ref (B + (189 + i)), .int (nI i), .ref (B + 184)]) C hh (ci_4 (n := 189 + i + 1) (F := G1) (k := 189 + i) (by omega) a1) LI_6_34 IM_X4_init IN_4 CD_X4_init rfl HD_X4_init ⟨rfl, rfl, Nat.le_of_ble_eq_true rfl, Nat.le_of_ble_eq_true rfl⟩ rfl hl.1 rfl (Nat.le_of_ble_eq_true rfl) dX6_init_68 ⟨by show _ ≤ 9; omega, by show _ ≤ 3100; omega⟩) (fun G2 H locs hq hh => ?_)
    obtain ⟨b1, b4⟩ := hq
    have k2 : G2 184 = arq (cA 4) 4 f := (b4 184 (by omega)).trans ((a2 184 (by omega)).trans h2)
    refine b_aast (r := (RX4, TX4, 3)) (ka := 184) (kv := 189 + i) (ci := 4) (t0 := 4) hx hb hK hh (by omega) k2 rfl (by omega) b1 rfl (vp_in_nI (by omega) (by decide)) dX6_init_71 (fun H locs hh => ?_)
    rw [nI_clamp (by omega)] at hh
    obtain ⟨G3, e3⟩ : ∃ G3, G3 = va_up G2 184 (arq (cA 4) 4 (va_up f i (some (B + (189 + i))))) := ⟨_, rfl⟩
    rw [← e3] at hh
    have a3 : ∀ q, q ≠ 184 → G3 q = G2 q := fun q hq => by rw [e3]; exact va_up_ne _ _ hq
    have a4 : ∀ q, q < 189 + i → q ≠ 184 → G3 q = G q := fun q hq h2 => (a3 q h2).trans ((b4 q (by omega)).trans (a2 q hq))
    refine lv_iinc (v := nI (i + 1)) (lv' := [(1, .int (nI (i + 1))), (0, .ref (B + 183))]) hx hb dX6_init_72 hl (k := 0) rfl (nI_1 i) (by decide) rfl (fun ls hl => ?_)
    refine lv_goto (tgt := 54) hx hb dX6_init_75 (by decide) ?_
    refine W.widen (k := 5 + (i + 1)) (n := 3088 + 3 * (i + 1)) (by omega) (by omega) ?_
    have hh : HB D B s (189 + (i + 1)) G3 H locs := hh
    refine ih (i + 1) G3 _ (by omega) hh ((a4 183 (by omega) (by omega)).trans h1) (by rw [e3]; exact va_up_self _ _ _) (fun j hj => ?_) ((a4 185 (by omega) (by omega)).trans h5) ((a4 186 (by omega) (by omega)).trans h6) ((a4 187 (by omega) (by omega)).trans h7) ((a4 188 (by omega) (by omega)).trans h8) (fun j hj => ?_) (fun q hq => (a4 q (by omega) (by omega)).trans (h0 q hq)) hl
    · by_cases ej : j = i
      · subst ej; simp [va_up]
      · simp only [va_up, if_neg ej]; exact hf j (by omega)
    · by_cases ej : j = i
      · subst ej
        exact (a3 _ (by omega)).trans b1
      · exact (a4 _ (by omega) (by omega)).trans (hp j (by omega))
set_option maxHeartbeats 4000000 in
set_option maxRecDepth 100000 in
theorem ci_6 {l : Launch} {D : va_G} {cA : Nat → ClassId} {B : Nat} {F : Nat → va_E} (hF : F 183 = .inr (6, df6)) : Met l yX6_init (wsG yX6_init cX6_init 2 none) ri_6 (va_Pc [.ref (B + 183)] (IB D cA B 184 F)) (QB D cA B 193 (srvP cA B F)) 9 3100 (fun q => B ≤ q) := by
  refine metB (by decide) rfl (Nat.le_of_ble_eq_true rfl) ?_
  intro p e s m args below meth c C ls hh hl
  have C : Cb p s m args meth c cX6_init 2 RX6 D cA B := C
  have hl : lv_has ls 2 [(0, .ref (B + (183)))] := hl
  obtain ⟨⟨hx, hb, hml, hown, hts⟩, hK, hN, hB, hr, hlocks, hin⟩ := id C
  have fr : ∀ i, i < 184 ∧ i ≠ 183 → F i = F i := fun _ _ => rfl
  refine lv_aload_n hx hb dX6_init_0 rfl (lv_at hl 0 rfl) ?_
  refine b_obj C LO_6 IO CO hl.1 (Nat.le_of_ble_eq_true rfl) (Nat.le_of_ble_eq_true rfl) dX6_init_1 ?_
  refine lv_aload_n hx hb dX6_init_4 rfl (lv_at hl 0 rfl) ?_
  refine lv_iconst (v := (1 : Int32)) hx hb dX6_init_5 (by decide) ?_
  refine b_put (Cn := RX6) (T := TX6) (N := 6) (ci := 6) (sl := 0) hx hb hts hown hK hh inG6 tyX6 tyX6_ok nmX6 rfl (by omega) hF (by decide) LF_6_9 hin rfl (tyX6_ok 0 (by decide)) (by first | rfl | decide) (by first | rfl | decide) (Nat.le_of_ble_eq_true rfl) dX6_init_6 (fun H locs hh => ?_)
  obtain ⟨G1, hG1⟩ : ∃ G, G = va_up F (183) (.inr (6, [.int 1, .null, .null, .null, .null, .null])) := ⟨_, rfl⟩
  have hh : HB D B s (184) (va_up F (183) (.inr (6, [.int 1, .null, .null, .null, .null, .null]))) H locs := hh
  rw [← hG1] at hh
  have fr : ∀ i, i < 184 ∧ i ≠ 183 → G1 i = F i := fun i hi => (congrFun hG1 _).trans ((va_up_ne _ _ (by omega)).trans (fr i hi))
  have hF : G1 (183) = .inr (6, [.int 1, .null, .null, .null, .null, .null]) := by rw [hG1]; exact va_up_self _ _ _
  refine lv_aload_n hx hb dX6_init_9 rfl (lv_at hl 0 rfl) ?_
  refine lv_iconst (v := (4 : Int32)) hx hb dX6_init_10 (by decide) ?_
  refine b_newq (N := 4) (t0 := 4) hx hb hts hown hK hh LK_6_15 hN.2.2.2 rfl (by decide) (by decide) (by decide) (Nat.le_of_ble_eq_true rfl) (Nat.le_of_ble_eq_true rfl) dX6_init_11 (fun H hh => ?_)
  obtain ⟨G2, hG2⟩ : ∃ G, G = va_up G1 (184) (arq (cA 4) 4 (fun _ => none)) := ⟨_, rfl⟩
  have hh : HB D B s (185) (va_up G1 (184) (arq (cA 4) 4 (fun _ => none))) H locs := hh
  rw [← hG2] at hh
  have hF : G2 (183) = .inr (6, [.int 1, .null, .null, .null, .null, .null]) := (congrFun hG2 _).trans ((va_up_ne _ _ (by omega)).trans hF)
  have fr : ∀ i, i < 184 ∧ i ≠ 183 → G2 i = F i := fun i hi => (congrFun hG2 _).trans ((va_up_ne _ _ (by omega)).trans (fr i hi))
  have g2 : G2 (184) = arq (cA 4) 4 (fun _ => none) := by rw [hG2]; exact va_up_self _ _ _
  refine b_put (Cn := RX6) (T := TX6) (N := 6) (ci := 6) (sl := 1) hx hb hts hown hK hh inG6 tyX6 tyX6_ok nmX6 rfl (by omega) hF (by decide) LF_6_17 hin rfl (tyX6_ok 1 (by decide)) (by first | rfl | decide) (by first | rfl | decide) (Nat.le_of_ble_eq_true rfl) dX6_init_14 (fun H locs hh => ?_)
  obtain ⟨G3, hG3⟩ : ∃ G, G = va_up G2 (183) (.inr (6, [.int 1, .ref (B + (184)), .null, .null, .null, .null])) := ⟨_, rfl⟩
  have hh : HB D B s (185) (va_up G2 (183) (.inr (6, [.int 1, .ref (B + (184)), .null, .null, .null, .null]))) H locs := hh
  rw [← hG3] at hh
  have fr : ∀ i, i < 184 ∧ i ≠ 183 → G3 i = F i := fun i hi => (congrFun hG3 _).trans ((va_up_ne _ _ (by omega)).trans (fr i hi))
  have g2 : G3 (184) = arq (cA 4) 4 (fun _ => none) := (congrFun hG3 _).trans ((va_up_ne _ _ (by omega)).trans g2)
  have hF : G3 (183) = .inr (6, [.int 1, .ref (B + (184)), .null, .null, .null, .null]) := by rw [hG3]; exact va_up_self _ _ _
  refine lv_aload_n hx hb dX6_init_17 rfl (lv_at hl 0 rfl) ?_
  refine lv_sipush (v := (1024 : Int32)) hx hb dX6_init_18 (by decide) ?_
  refine b_newa (atype := .int) (ty := .int) (N := 1024) (t0 := 0) (a0 := (1024, .inl (fun _ => 0))) hx hb hts hK hh AC_i rfl (fun _ h => h) rfl (fun _ => rfl) (by decide) (by decide) (by decide) (Nat.le_of_ble_eq_true rfl) (Nat.le_of_ble_eq_true rfl) dX6_init_21 (fun H hh => ?_)
  obtain ⟨G4, hG4⟩ : ∃ G, G = va_up G3 (185) (ari cA 1024) := ⟨_, rfl⟩
  have hh : HB D B s (186) (va_up G3 (185) (ari cA 1024)) H locs := hh
  rw [← hG4] at hh
  have hF : G4 (183) = .inr (6, [.int 1, .ref (B + (184)), .null, .null, .null, .null]) := (congrFun hG4 _).trans ((va_up_ne _ _ (by omega)).trans hF)
  have fr : ∀ i, i < 184 ∧ i ≠ 183 → G4 i = F i := fun i hi => (congrFun hG4 _).trans ((va_up_ne _ _ (by omega)).trans (fr i hi))
  have g2 : G4 (184) = arq (cA 4) 4 (fun _ => none) := (congrFun hG4 _).trans ((va_up_ne _ _ (by omega)).trans g2)
  have g4 : G4 (185) = ari cA 1024 := by rw [hG4]; exact va_up_self _ _ _
  refine b_put (Cn := RX6) (T := TX6) (N := 6) (ci := 6) (sl := 2) hx hb hts hown hK hh inG6 tyX6 tyX6_ok nmX6 rfl (by omega) hF (by decide) LF_6_21 hin rfl (tyX6_ok 2 (by decide)) (by first | rfl | decide) (by first | rfl | decide) (Nat.le_of_ble_eq_true rfl) dX6_init_23 (fun H locs hh => ?_)
  obtain ⟨G5, hG5⟩ : ∃ G, G = va_up G4 (183) (.inr (6, [.int 1, .ref (B + (184)), .ref (B + (185)), .null, .null, .null])) := ⟨_, rfl⟩
  have hh : HB D B s (186) (va_up G4 (183) (.inr (6, [.int 1, .ref (B + (184)), .ref (B + (185)), .null, .null, .null]))) H locs := hh
  rw [← hG5] at hh
  have fr : ∀ i, i < 184 ∧ i ≠ 183 → G5 i = F i := fun i hi => (congrFun hG5 _).trans ((va_up_ne _ _ (by omega)).trans (fr i hi))
  have g2 : G5 (184) = arq (cA 4) 4 (fun _ => none) := (congrFun hG5 _).trans ((va_up_ne _ _ (by omega)).trans g2)
  have g4 : G5 (185) = ari cA 1024 := (congrFun hG5 _).trans ((va_up_ne _ _ (by omega)).trans g4)
  have hF : G5 (183) = .inr (6, [.int 1, .ref (B + (184)), .ref (B + (185)), .null, .null, .null]) := by rw [hG5]; exact va_up_self _ _ _
  refine lv_aload_n hx hb dX6_init_26 rfl (lv_at hl 0 rfl) ?_
  refine lv_sipush (v := (1024 : Int32)) hx hb dX6_init_27 (by decide) ?_
  refine b_newa (atype := .int) (ty := .int) (N := 1024) (t0 := 0) (a0 := (1024, .inl (fun _ => 0))) hx hb hts hK hh AC_i rfl (fun _ h => h) rfl (fun _ => rfl) (by decide) (by decide) (by decide) (Nat.le_of_ble_eq_true rfl) (Nat.le_of_ble_eq_true rfl) dX6_init_30 (fun H hh => ?_)
  obtain ⟨G6, hG6⟩ : ∃ G, G = va_up G5 (186) (ari cA 1024) := ⟨_, rfl⟩
  have hh : HB D B s (187) (va_up G5 (186) (ari cA 1024)) H locs := hh
  rw [← hG6] at hh
  have hF : G6 (183) = .inr (6, [.int 1, .ref (B + (184)), .ref (B + (185)), .null, .null, .null]) := (congrFun hG6 _).trans ((va_up_ne _ _ (by omega)).trans hF)
  have fr : ∀ i, i < 184 ∧ i ≠ 183 → G6 i = F i := fun i hi => (congrFun hG6 _).trans ((va_up_ne _ _ (by omega)).trans (fr i hi))
  have g2 : G6 (184) = arq (cA 4) 4 (fun _ => none) := (congrFun hG6 _).trans ((va_up_ne _ _ (by omega)).trans g2)
  have g4 : G6 (185) = ari cA 1024 := (congrFun hG6 _).trans ((va_up_ne _ _ (by omega)).trans g4)
  have g6 : G6 (186) = ari cA 1024 := by rw [hG6]; exact va_up_self _ _ _
  refine b_put (Cn := RX6) (T := TX6) (N := 6) (ci := 6) (sl := 3) hx hb hts hown hK hh inG6 tyX6 tyX6_ok nmX6 rfl (by omega) hF (by decide) LF_6_25 hin rfl (tyX6_ok 3 (by decide)) (by first | rfl | decide) (by first | rfl | decide) (Nat.le_of_ble_eq_true rfl) dX6_init_32 (fun H locs hh => ?_)
  obtain ⟨G7, hG7⟩ : ∃ G, G = va_up G6 (183) (.inr (6, [.int 1, .ref (B + (184)), .ref (B + (185)), .ref (B + (186)), .null, .null])) := ⟨_, rfl⟩
  have hh : HB D B s (187) (va_up G6 (183) (.inr (6, [.int 1, .ref (B + (184)), .ref (B + (185)), .ref (B + (186)), .null, .null]))) H locs := hh
  rw [← hG7] at hh
  have fr : ∀ i, i < 184 ∧ i ≠ 183 → G7 i = F i := fun i hi => (congrFun hG7 _).trans ((va_up_ne _ _ (by omega)).trans (fr i hi))
  have g2 : G7 (184) = arq (cA 4) 4 (fun _ => none) := (congrFun hG7 _).trans ((va_up_ne _ _ (by omega)).trans g2)
  have g4 : G7 (185) = ari cA 1024 := (congrFun hG7 _).trans ((va_up_ne _ _ (by omega)).trans g4)
  have g6 : G7 (186) = ari cA 1024 := (congrFun hG7 _).trans ((va_up_ne _ _ (by omega)).trans g6)
  have hF : G7 (183) = .inr (6, [.int 1, .ref (B + (184)), .ref (B + (185)), .ref (B + (186)), .null, .null]) := by rw [hG7]; exact va_up_self _ _ _
  refine lv_aload_n hx hb dX6_init_35 rfl (lv_at hl 0 rfl) ?_
  refine lv_sipush (v := (1024 : Int32)) hx hb dX6_init_36 (by decide) ?_
  refine b_newa (atype := .int) (ty := .int) (N := 1024) (t0 := 0) (a0 := (1024, .inl (fun _ => 0))) hx hb hts hK hh AC_i rfl (fun _ h => h) rfl (fun _ => rfl) (by decide) (by decide) (by decide) (Nat.le_of_ble_eq_true rfl) (Nat.le_of_ble_eq_true rfl) dX6_init_39 (fun H hh => ?_)
  obtain ⟨G8, hG8⟩ : ∃ G, G = va_up G7 (187) (ari cA 1024) := ⟨_, rfl⟩
  have hh : HB D B s (188) (va_up G7 (187) (ari cA 1024)) H locs := hh
  rw [← hG8] at hh
  have hF : G8 (183) = .inr (6, [.int 1, .ref (B + (184)), .ref (B + (185)), .ref (B + (186)), .null, .null]) := (congrFun hG8 _).trans ((va_up_ne _ _ (by omega)).trans hF)
  have fr : ∀ i, i < 184 ∧ i ≠ 183 → G8 i = F i := fun i hi => (congrFun hG8 _).trans ((va_up_ne _ _ (by omega)).trans (fr i hi))
  have g2 : G8 (184) = arq (cA 4) 4 (fun _ => none) := (congrFun hG8 _).trans ((va_up_ne _ _ (by omega)).trans g2)
  have g4 : G8 (185) = ari cA 1024 := (congrFun hG8 _).trans ((va_up_ne _ _ (by omega)).trans g4)
  have g6 : G8 (186) = ari cA 1024 := (congrFun hG8 _).trans ((va_up_ne _ _ (by omega)).trans g6)
  have g8 : G8 (187) = ari cA 1024 := by rw [hG8]; exact va_up_self _ _ _
  refine b_put (Cn := RX6) (T := TX6) (N := 6) (ci := 6) (sl := 4) hx hb hts hown hK hh inG6 tyX6 tyX6_ok nmX6 rfl (by omega) hF (by decide) LF_6_28 hin rfl (tyX6_ok 4 (by decide)) (by first | rfl | decide) (by first | rfl | decide) (Nat.le_of_ble_eq_true rfl) dX6_init_41 (fun H locs hh => ?_)
  obtain ⟨G9, hG9⟩ : ∃ G, G = va_up G8 (183) (.inr (6, [.int 1, .ref (B + (184)), .ref (B + (185)), .ref (B + (186)), .ref (B + (187)), .null])) := ⟨_, rfl⟩
  have hh : HB D B s (188) (va_up G8 (183) (.inr (6, [.int 1, .ref (B + (184)), .ref (B + (185)), .ref (B + (186)), .ref (B + (187)), .null]))) H locs := hh
  rw [← hG9] at hh
  have fr : ∀ i, i < 184 ∧ i ≠ 183 → G9 i = F i := fun i hi => (congrFun hG9 _).trans ((va_up_ne _ _ (by omega)).trans (fr i hi))
  have g2 : G9 (184) = arq (cA 4) 4 (fun _ => none) := (congrFun hG9 _).trans ((va_up_ne _ _ (by omega)).trans g2)
  have g4 : G9 (185) = ari cA 1024 := (congrFun hG9 _).trans ((va_up_ne _ _ (by omega)).trans g4)
  have g6 : G9 (186) = ari cA 1024 := (congrFun hG9 _).trans ((va_up_ne _ _ (by omega)).trans g6)
  have g8 : G9 (187) = ari cA 1024 := (congrFun hG9 _).trans ((va_up_ne _ _ (by omega)).trans g8)
  have hF : G9 (183) = .inr (6, [.int 1, .ref (B + (184)), .ref (B + (185)), .ref (B + (186)), .ref (B + (187)), .null]) := by rw [hG9]; exact va_up_self _ _ _
  refine lv_aload_n hx hb dX6_init_44 rfl (lv_at hl 0 rfl) ?_
  refine lv_bipush (v := (12 : Int32)) hx hb dX6_init_45 (by decide) ?_
  refine b_newa (atype := .int) (ty := .int) (N := 12) (t0 := 0) (a0 := (12, .inl (fun _ => 0))) hx hb hts hK hh AC_i rfl (fun _ h => h) rfl (fun _ => rfl) (by decide) (by decide) (by decide) (Nat.le_of_ble_eq_true rfl) (Nat.le_of_ble_eq_true rfl) dX6_init_47 (fun H hh => ?_)
  obtain ⟨G10, hG10⟩ : ∃ G, G = va_up G9 (188) (ari cA 12) := ⟨_, rfl⟩
  have hh : HB D B s (189) (va_up G9 (188) (ari cA 12)) H locs := hh
  rw [← hG10] at hh
  have hF : G10 (183) = .inr (6, [.int 1, .ref (B + (184)), .ref (B + (185)), .ref (B + (186)), .ref (B + (187)), .null]) := (congrFun hG10 _).trans ((va_up_ne _ _ (by omega)).trans hF)
  have fr : ∀ i, i < 184 ∧ i ≠ 183 → G10 i = F i := fun i hi => (congrFun hG10 _).trans ((va_up_ne _ _ (by omega)).trans (fr i hi))
  have g2 : G10 (184) = arq (cA 4) 4 (fun _ => none) := (congrFun hG10 _).trans ((va_up_ne _ _ (by omega)).trans g2)
  have g4 : G10 (185) = ari cA 1024 := (congrFun hG10 _).trans ((va_up_ne _ _ (by omega)).trans g4)
  have g6 : G10 (186) = ari cA 1024 := (congrFun hG10 _).trans ((va_up_ne _ _ (by omega)).trans g6)
  have g8 : G10 (187) = ari cA 1024 := (congrFun hG10 _).trans ((va_up_ne _ _ (by omega)).trans g8)
  have g10 : G10 (188) = ari cA 12 := by rw [hG10]; exact va_up_self _ _ _
  refine b_put (Cn := RX6) (T := TX6) (N := 6) (ci := 6) (sl := 5) hx hb hts hown hK hh inG6 tyX6 tyX6_ok nmX6 rfl (by omega) hF (by decide) LF_6_31 hin rfl (tyX6_ok 5 (by decide)) (by first | rfl | decide) (by first | rfl | decide) (Nat.le_of_ble_eq_true rfl) dX6_init_49 (fun H locs hh => ?_)
  obtain ⟨G11, hG11⟩ : ∃ G, G = va_up G10 (183) (.inr (6, [.int 1, .ref (B + (184)), .ref (B + (185)), .ref (B + (186)), .ref (B + (187)), .ref (B + (188))])) := ⟨_, rfl⟩
  have hh : HB D B s (189) (va_up G10 (183) (.inr (6, [.int 1, .ref (B + (184)), .ref (B + (185)), .ref (B + (186)), .ref (B + (187)), .ref (B + (188))]))) H locs := hh
  rw [← hG11] at hh
  have fr : ∀ i, i < 184 ∧ i ≠ 183 → G11 i = F i := fun i hi => (congrFun hG11 _).trans ((va_up_ne _ _ (by omega)).trans (fr i hi))
  have g2 : G11 (184) = arq (cA 4) 4 (fun _ => none) := (congrFun hG11 _).trans ((va_up_ne _ _ (by omega)).trans g2)
  have g4 : G11 (185) = ari cA 1024 := (congrFun hG11 _).trans ((va_up_ne _ _ (by omega)).trans g4)
  have g6 : G11 (186) = ari cA 1024 := (congrFun hG11 _).trans ((va_up_ne _ _ (by omega)).trans g6)
  have g8 : G11 (187) = ari cA 1024 := (congrFun hG11 _).trans ((va_up_ne _ _ (by omega)).trans g8)
  have g10 : G11 (188) = ari cA 12 := (congrFun hG11 _).trans ((va_up_ne _ _ (by omega)).trans g10)
  have hF : G11 (183) = .inr (6, [.int 1, .ref (B + (184)), .ref (B + (185)), .ref (B + (186)), .ref (B + (187)), .ref (B + (188))]) := by rw [hG11]; exact va_up_self _ _ _
  refine lv_iconst (v := (0 : Int32)) hx hb dX6_init_52 (by decide) ?_
  refine lv_istore_n (lv' := [(1, .int 0), (0, .ref (B + (183)))]) hx hb dX6_init_53 rfl hl (by decide) rfl (fun ls hl => ?_)
  exact srv_loop C 4 0 _ _ (by omega) hh hF g2 (fun j hj => absurd hj (Nat.not_lt_zero j)) g4 g6 g8 g10 (fun j hj => absurd hj (Nat.not_lt_zero j)) (fun q hq => fr q (by omega)) hl
