abbrev ri_7 : Room := { frames := 4, cells := 212, slots := 8335, locals := 90 }
theorem rowP.of {cA : Nat → ClassId} {B : Nat} {G G' : Nat → va_E} (h : rowP cA B 60 G) (hq : ∀ q, 1 ≤ q ∧ q < 183 → G' q = G q) : rowP cA B 60 G' := fun j hj => by
  obtain ⟨a, b, c⟩ := h j hj
  exact ⟨(hq _ (by omega)).trans a, (hq _ (by omega)).trans b, (hq _ (by omega)).trans c⟩
def netA (cA : Nat → ClassId) (B : Nat) (G : Nat → va_E) : Prop := G 0 = .inr (7, [.ref (B + (1)), .ref (B + (183)), .ref (B + (193)), .ref (B + (194)), .ref (B + (195)), .ref (B + (197)), .ref (B + (199)), .ref (B + (200)), .int 0]) ∧ (G 1 = .inr (5, [.ref (B + 2), .int 0, .int 0]) ∧ (∃ f : Nat → Option Nat, G 2 = arq (cA 3) 60 f ∧ ∀ j, j < 60 → f j = some (B + (3 + 3 * j))) ∧ rowP cA B 60 G) ∧ (G 183 = .inr (6, [.int 1, .ref (B + (184)), .ref (B + (185)), .ref (B + (186)), .ref (B + (187)), .ref (B + (188))]) ∧ (∃ f : Nat → Option Nat, G 184 = arq (cA 4) 4 f ∧ ∀ j, j < 4 → f j = some (B + (189 + j))) ∧ G 185 = ari cA 1024 ∧ (∃ f : Nat → Int32, G 186 = .inl (cA 0, 1024, .inl f) ∧ ∀ j, j < 1024 → f j = -1) ∧ G 187 = ari cA 1024 ∧ (∃ f : Nat → Int32, G 188 = .inl (cA 0, 12, .inl f) ∧ ∀ j, j < 12 → f j = -2147483648) ∧ (∀ j, j < 4 → G (189 + j) = .inr (4, [.int 0, .int 0, .int 0]))) ∧ G 194 = arz cA 1024 ∧ G 195 = .inr (0, [.ref (B + (196)), .int 0]) ∧ G 196 = ari cA 60 ∧ G 197 = .inr (0, [.ref (B + (198)), .int 0]) ∧ G 198 = ari cA 60 ∧ G 199 = .inr (2, df2) ∧ G 200 = .inr (2, df2)
def netP (cA : Nat → ClassId) (B : Nat) (G : Nat → va_E) : Prop := netA cA B G ∧ (∃ f : Nat → Option Nat, G 193 = arq (cA 2) 12 f ∧ ∀ j, j < 12 → f j = some (B + (201 + j))) ∧ ∀ j, j < 12 → G (201 + j) = .inr (1, [.int (nI j), .int 0, .int 0, .int 0, .int 0, .int 0, .int 0, .int 0, .int 0, .int 0, .int 0, .int 0])
theorem netA.of {cA : Nat → ClassId} {B : Nat} {G G' : Nat → va_E} (h : netA cA B G) (hq : ∀ q, q < 201 ∧ q ≠ 193 → G' q = G q) : netA cA B G' := by
  obtain ⟨a0, ⟨a1, ⟨f2, a2, b2⟩, a3⟩, ⟨c1, ⟨f4, c2, d2⟩, c3, ⟨f6, c4, d4⟩, c5, ⟨f8, c6, d6⟩, c7⟩, e1, e2, e3, e4, e5, e6, e7⟩ := h
  exact ⟨(hq _ (by omega)).trans a0, ⟨(hq _ (by omega)).trans a1, ⟨f2, (hq _ (by omega)).trans a2, b2⟩, a3.of (fun q h => hq q (by omega))⟩, ⟨(hq _ (by omega)).trans c1, ⟨f4, (hq _ (by omega)).trans c2, d2⟩, (hq _ (by omega)).trans c3, ⟨f6, (hq _ (by omega)).trans c4, d4⟩, (hq _ (by omega)).trans c5, ⟨f8, (hq _ (by omega)).trans c6, d6⟩, fun j hj => (hq _ (by omega)).trans (c7 j hj)⟩, (hq _ (by omega)).trans e1, (hq _ (by omega)).trans e2, (hq _ (by omega)).trans e3, (hq _ (by omega)).trans e4, (hq _ (by omega)).trans e5, (hq _ (by omega)).trans e6, (hq _ (by omega)).trans e7⟩
set_option maxHeartbeats 4000000 in
set_option maxRecDepth 100000 in
theorem net_loop {p : Program} {l : Launch} {e : Env} {s : State} {m : MethodId} {args : Array Value} {below : List Frame} {meth : Method} {c : Code} {D : va_G} {cA : Nat → ClassId} {B : Nat} (C : Cb p s m args meth c cX7_init 2 RX7 D cA B) : ∀ (t i : Nat) (G : Nat → va_E) (f : Nat → Option Nat) {H : Heap} {locs : List Loc} {ls : Array Slot}, i + t = 12 → HB D B s (201 + i) G H locs → netA cA B G → G 193 = arq (cA 2) 12 f → (∀ j, j < i → f j = some (B + (201 + j))) → (∀ j, j < i → G (201 + j) = .inr (1, [.int (nI j), .int 0, .int 0, .int 0, .int 0, .int 0, .int 0, .int 0, .int 0, .int 0, .int 0, .int 0])) → lv_has ls 2 [(1, .int (nI i)), (0, .ref (B + 0))] → W p l e ri_7 s m args below meth c H locs (200 + i) (8191 + 12 * i) (MQ below (QB D cA B 213 (netP cA B)) args s 212 8335 (fun q => B ≤ q)) (F0 m 95 ls []) := by
  obtain ⟨⟨hx, hb, hml, hown, hts⟩, hK, hN, hB, hr, hlocks, hin⟩ := id C
  intro t
  induction t with
  | zero =>
    intro i G f H locs ls hi hh hA h2 hf hp hl
    have hi : i = 12 := by omega
    subst hi
    refine lv_iload_n hx hb dX7_init_95 rfl (lv_at hl 0 rfl) ?_
    refine lv_bipush (v := (12 : Int32)) hx hb dX7_init_96 (by decide) ?_
    refine lv_icmp_ge (tgt := 121) hx hb dX7_init_98 (by decide) (fun c1 => ?_) (fun c1 => absurd (by decide) c1)
    exact b_ret hx hb hK hN hr hlocks hh ⟨hA, ⟨f, h2, hf⟩, hp⟩ dX7_init_121
  | succ t ih =>
    intro i G f H locs ls hi hh hA h2 hf hp hl
    refine lv_iload_n hx hb dX7_init_95 rfl (lv_at hl 0 rfl) ?_
    refine lv_bipush (v := (12 : Int32)) hx hb dX7_init_96 (by decide) ?_
    refine lv_icmp_ge (tgt := 121) hx hb dX7_init_98 (by decide) (fun c1 => absurd c1 (nI_ge (a := i) (b := 12) (by omega) (by decide))) (fun c1 => ?_)
    refine lv_aload_n hx hb dX7_init_101 rfl (lv_at hl 1 rfl) ?_
    refine b_get (C := RX7) (T := TX7) (N := 9) (ci := 7) (sl := 2) hx hb hts hown hK hh inG7 rfl (by omega) hA.1 (by decide) LF_7_25 rfl dX7_init_102 ?_
    refine lv_iload_n hx hb dX7_init_105 rfl (lv_at hl 0 rfl) ?_
    refine b_new (ci := 1) (fs := df1) (N := 12) tyX1 hx hb hts hown hK hh inG1 tyX1_ok rfl LK_7_23 IS_1 IN_1 dfo1 (by show _ ≤ 212; omega) (by show _ ≤ 8335; omega) dX7_init_106 (fun H hh => ?_)
    obtain ⟨G1, e1⟩ : ∃ G1, G1 = va_up G (201 + i) (.inr (1, df1)) := ⟨_, rfl⟩
    rw [← e1] at hh
    have a1 : G1 (201 + i) = .inr (1, df1) := by rw [e1]; exact va_up_self _ _ _
    have a2 : ∀ q, q < 201 + i → G1 q = G q := fun q hq => by rw [e1]; exact va_up_ne _ _ (by omega)
    refine lv_dup hx hb dX7_init_109 rfl ?_
    refine lv_iload_n hx hb dX7_init_110 rfl (lv_at hl 0 rfl) ?_
    refine c_init hh (irun (rest := [.ref (B + (201 + i)), .int (nI i), .ref (B + 193)]) C hh (ci_1 (n := 201 + i + 1) (F := G1) (k := 201 + i) (x1 := nI i) (by omega) a1) LM_7_57 IM_X1_init IN_1 CD_X1_init rfl HD_X1_init ⟨rfl, rfl, Nat.le_of_ble_eq_true rfl, Nat.le_of_ble_eq_true rfl⟩ rfl hl.1 rfl (Nat.le_of_ble_eq_true rfl) dX7_init_111 ⟨by show _ ≤ 212; omega, by show _ ≤ 8335; omega⟩) (fun G2 H locs hq hh => ?_)
    obtain ⟨b1, b4⟩ := hq
    have k2 : G2 193 = arq (cA 2) 12 f := (b4 193 (by omega)).trans ((a2 193 (by omega)).trans h2)
    refine b_aast (r := (RX1, TX1, 12)) (ka := 193) (kv := 201 + i) (ci := 1) (t0 := 2) hx hb hK hh (by omega) k2 rfl (by omega) b1 rfl (vp_in_nI (by omega) (by decide)) dX7_init_114 (fun H locs hh => ?_)
    rw [nI_clamp (by omega)] at hh
    obtain ⟨G3, e3⟩ : ∃ G3, G3 = va_up G2 193 (arq (cA 2) 12 (va_up f i (some (B + (201 + i))))) := ⟨_, rfl⟩
    rw [← e3] at hh
    have a3 : ∀ q, q ≠ 193 → G3 q = G2 q := fun q hq => by rw [e3]; exact va_up_ne _ _ hq
    have a4 : ∀ q, q < 201 + i → q ≠ 193 → G3 q = G q := fun q hq h2 => (a3 q h2).trans ((b4 q (by omega)).trans (a2 q hq))
    refine lv_iinc (v := nI (i + 1)) (lv' := [(1, .int (nI (i + 1))), (0, .ref (B + 0))]) hx hb dX7_init_115 hl (k := 0) rfl (nI_1 i) (by decide) rfl (fun ls hl => ?_)
    refine lv_goto (tgt := 95) hx hb dX7_init_118 (by decide) ?_
    refine W.widen (k := 200 + (i + 1)) (n := 8191 + 12 * (i + 1)) (by omega) (by omega) ?_
    have hh : HB D B s (201 + (i + 1)) G3 H locs := hh
    refine ih (i + 1) G3 _ (by omega) hh (hA.of (fun q hq => a4 q (by omega) (by omega))) (by rw [e3]; exact va_up_self _ _ _) (fun j hj => ?_) (fun j hj => ?_) hl
    · by_cases ej : j = i
      · subst ej; simp [va_up]
      · simp only [va_up, if_neg ej]; exact hf j (by omega)
    · by_cases ej : j = i
      · subst ej
        exact (a3 _ (by omega)).trans b1
      · exact (a4 _ (by omega) (by omega)).trans (hp j (by omega))
set_option maxHeartbeats 4000000 in
set_option maxRecDepth 100000 in
theorem ci_7 {l : Launch} {D : va_G} {cA : Nat → ClassId} {B : Nat} {F : Nat → va_E} (hF : F 0 = .inr (7, df7)) : Met l yX7_init (wsG yX7_init cX7_init 2 none) ri_7 (va_Pc [.ref (B + 0)] (IB D cA B 1 F)) (QB D cA B 213 (netP cA B)) 212 8335 (fun q => B ≤ q) := by
  refine metB (by decide) rfl (Nat.le_of_ble_eq_true rfl) ?_
  intro p e s m args below meth c C ls hh hl
  have C : Cb p s m args meth c cX7_init 2 RX7 D cA B := C
  have hl : lv_has ls 2 [(0, .ref (B + (0)))] := hl
  obtain ⟨⟨hx, hb, hml, hown, hts⟩, hK, hN, hB, hr, hlocks, hin⟩ := id C
  refine lv_aload_n hx hb dX7_init_0 rfl (lv_at hl 0 rfl) ?_
  refine b_obj C LO_7 IO CO hl.1 (Nat.le_of_ble_eq_true rfl) (Nat.le_of_ble_eq_true rfl) dX7_init_1 ?_
  refine lv_aload_n hx hb dX7_init_4 rfl (lv_at hl 0 rfl) ?_
  refine b_new (ci := 5) (fs := df5) (N := 3) tyX5 hx hb hts hown hK hh inG5 tyX5_ok rfl LK_7_7 IS_5 IN_5 dfo5 (Nat.le_of_ble_eq_true rfl) (Nat.le_of_ble_eq_true rfl) dX7_init_5 (fun H hh => ?_)
  obtain ⟨G1, hG1⟩ : ∃ G, G = va_up F (1) (.inr (5, df5)) := ⟨_, rfl⟩
  have hh : HB D B s (2) (va_up F (1) (.inr (5, df5))) H [] := hh
  rw [← hG1] at hh
  have hF : G1 (0) = .inr (7, df7) := (congrFun hG1 _).trans ((va_up_ne _ _ (by omega)).trans hF)
  have g1 : G1 (1) = .inr (5, df5) := by rw [hG1]; exact va_up_self _ _ _
  refine lv_dup hx hb dX7_init_8 rfl ?_
  refine c_init hh (irun (rest := [.ref (B + (1)), .ref (B + (0))]) C hh (ci_5 (F := G1) g1) LM_7_9 IM_X5_init IN_5 CD_X5_init rfl HD_X5_init ⟨rfl, rfl, (Nat.le_of_ble_eq_true rfl), (Nat.le_of_ble_eq_true rfl)⟩ rfl hl.1 rfl (Nat.le_of_ble_eq_true rfl) dX7_init_9 ⟨(Nat.le_of_ble_eq_true rfl), (Nat.le_of_ble_eq_true rfl)⟩) (fun G2 H locs hp hh => ?_)
  obtain ⟨r1, ⟨rf, r2, r2b⟩, r3, r4⟩ := hp
  have hF : G2 (0) = .inr (7, df7) := r4.trans hF
  have frR : ∀ i, 1 ≤ i ∧ i < 183 → G2 i = G2 i := fun _ _ => rfl
  refine b_put (Cn := RX7) (T := TX7) (N := 9) (ci := 7) (sl := 0) hx hb hts hown hK hh inG7 tyX7 tyX7_ok nmX7 rfl (by omega) hF (by decide) LF_7_10 hin rfl (tyX7_ok 0 (by decide)) (by first | rfl | decide) (by first | rfl | decide) (Nat.le_of_ble_eq_true rfl) dX7_init_12 (fun H locs hh => ?_)
  obtain ⟨G3, hG3⟩ : ∃ G, G = va_up G2 (0) (.inr (7, [.ref (B + (1)), .null, .null, .null, .null, .null, .null, .null, .int 0])) := ⟨_, rfl⟩
  have hh : HB D B s (183) (va_up G2 (0) (.inr (7, [.ref (B + (1)), .null, .null, .null, .null, .null, .null, .null, .int 0]))) H locs := hh
  rw [← hG3] at hh
  have frR : ∀ i, 1 ≤ i ∧ i < 183 → G3 i = G2 i := fun i hi => (congrFun hG3 _).trans ((va_up_ne _ _ (by omega)).trans (frR i hi))
  have hF : G3 (0) = .inr (7, [.ref (B + (1)), .null, .null, .null, .null, .null, .null, .null, .int 0]) := by rw [hG3]; exact va_up_self _ _ _
  refine lv_aload_n hx hb dX7_init_15 rfl (lv_at hl 0 rfl) ?_
  refine b_new (ci := 6) (fs := df6) (N := 6) tyX6 hx hb hts hown hK hh inG6 tyX6_ok rfl LK_7_16 IS_6 IN_6 dfo6 (Nat.le_of_ble_eq_true rfl) (Nat.le_of_ble_eq_true rfl) dX7_init_16 (fun H hh => ?_)
  obtain ⟨G4, hG4⟩ : ∃ G, G = va_up G3 (183) (.inr (6, df6)) := ⟨_, rfl⟩
  have hh : HB D B s (184) (va_up G3 (183) (.inr (6, df6))) H locs := hh
  rw [← hG4] at hh
  have hF : G4 (0) = .inr (7, [.ref (B + (1)), .null, .null, .null, .null, .null, .null, .null, .int 0]) := (congrFun hG4 _).trans ((va_up_ne _ _ (by omega)).trans hF)
  have frR : ∀ i, 1 ≤ i ∧ i < 183 → G4 i = G2 i := fun i hi => (congrFun hG4 _).trans ((va_up_ne _ _ (by omega)).trans (frR i hi))
  have g4 : G4 (183) = .inr (6, df6) := by rw [hG4]; exact va_up_self _ _ _
  refine lv_dup hx hb dX7_init_19 rfl ?_
  refine c_init hh (irun (rest := [.ref (B + (183)), .ref (B + (0))]) C hh (ci_6 (F := G4) g4) LM_7_18 IM_X6_init IN_6 CD_X6_init rfl HD_X6_init ⟨rfl, rfl, (Nat.le_of_ble_eq_true rfl), (Nat.le_of_ble_eq_true rfl)⟩ rfl hl.1 rfl (Nat.le_of_ble_eq_true rfl) dX7_init_20 ⟨(Nat.le_of_ble_eq_true rfl), (Nat.le_of_ble_eq_true rfl)⟩) (fun G5 H locs hp hh => ?_)
  obtain ⟨v1, v2, v3, v4, v5, v6, v7, v8⟩ := hp
  have hF : G5 (0) = .inr (7, [.ref (B + (1)), .null, .null, .null, .null, .null, .null, .null, .int 0]) := (v8 _ (by omega)).trans hF
  have frR : ∀ i, 1 ≤ i ∧ i < 183 → G5 i = G2 i := fun i hi => (v8 _ (by omega)).trans (frR i hi)
  have frS : ∀ i, 183 ≤ i ∧ i < 193 → G5 i = G5 i := fun _ _ => rfl
  refine b_put (Cn := RX7) (T := TX7) (N := 9) (ci := 7) (sl := 1) hx hb hts hown hK hh inG7 tyX7 tyX7_ok nmX7 rfl (by omega) hF (by decide) LF_7_19 hin rfl (tyX7_ok 1 (by decide)) (by first | rfl | decide) (by first | rfl | decide) (Nat.le_of_ble_eq_true rfl) dX7_init_23 (fun H locs hh => ?_)
  obtain ⟨G6, hG6⟩ : ∃ G, G = va_up G5 (0) (.inr (7, [.ref (B + (1)), .ref (B + (183)), .null, .null, .null, .null, .null, .null, .int 0])) := ⟨_, rfl⟩
  have hh : HB D B s (193) (va_up G5 (0) (.inr (7, [.ref (B + (1)), .ref (B + (183)), .null, .null, .null, .null, .null, .null, .int 0]))) H locs := hh
  rw [← hG6] at hh
  have frR : ∀ i, 1 ≤ i ∧ i < 183 → G6 i = G2 i := fun i hi => (congrFun hG6 _).trans ((va_up_ne _ _ (by omega)).trans (frR i hi))
  have frS : ∀ i, 183 ≤ i ∧ i < 193 → G6 i = G5 i := fun i hi => (congrFun hG6 _).trans ((va_up_ne _ _ (by omega)).trans (frS i hi))
  have hF : G6 (0) = .inr (7, [.ref (B + (1)), .ref (B + (183)), .null, .null, .null, .null, .null, .null, .int 0]) := by rw [hG6]; exact va_up_self _ _ _
  refine lv_aload_n hx hb dX7_init_26 rfl (lv_at hl 0 rfl) ?_
  refine lv_bipush (v := (12 : Int32)) hx hb dX7_init_27 (by decide) ?_
  refine b_newq (N := 12) (t0 := 2) hx hb hts hown hK hh LK_7_23 hN.2.1 rfl (by decide) (by decide) (by decide) (Nat.le_of_ble_eq_true rfl) (Nat.le_of_ble_eq_true rfl) dX7_init_29 (fun H hh => ?_)
  obtain ⟨G7, hG7⟩ : ∃ G, G = va_up G6 (193) (arq (cA 2) 12 (fun _ => none)) := ⟨_, rfl⟩
  have hh : HB D B s (194) (va_up G6 (193) (arq (cA 2) 12 (fun _ => none))) H locs := hh
  rw [← hG7] at hh
  have hF : G7 (0) = .inr (7, [.ref (B + (1)), .ref (B + (183)), .null, .null, .null, .null, .null, .null, .int 0]) := (congrFun hG7 _).trans ((va_up_ne _ _ (by omega)).trans hF)
  have frR : ∀ i, 1 ≤ i ∧ i < 183 → G7 i = G2 i := fun i hi => (congrFun hG7 _).trans ((va_up_ne _ _ (by omega)).trans (frR i hi))
  have frS : ∀ i, 183 ≤ i ∧ i < 193 → G7 i = G5 i := fun i hi => (congrFun hG7 _).trans ((va_up_ne _ _ (by omega)).trans (frS i hi))
  have g7 : G7 (193) = arq (cA 2) 12 (fun _ => none) := by rw [hG7]; exact va_up_self _ _ _
  refine b_put (Cn := RX7) (T := TX7) (N := 9) (ci := 7) (sl := 2) hx hb hts hown hK hh inG7 tyX7 tyX7_ok nmX7 rfl (by omega) hF (by decide) LF_7_25 hin rfl (tyX7_ok 2 (by decide)) (by first | rfl | decide) (by first | rfl | decide) (Nat.le_of_ble_eq_true rfl) dX7_init_32 (fun H locs hh => ?_)
  obtain ⟨G8, hG8⟩ : ∃ G, G = va_up G7 (0) (.inr (7, [.ref (B + (1)), .ref (B + (183)), .ref (B + (193)), .null, .null, .null, .null, .null, .int 0])) := ⟨_, rfl⟩
  have hh : HB D B s (194) (va_up G7 (0) (.inr (7, [.ref (B + (1)), .ref (B + (183)), .ref (B + (193)), .null, .null, .null, .null, .null, .int 0]))) H locs := hh
  rw [← hG8] at hh
  have frR : ∀ i, 1 ≤ i ∧ i < 183 → G8 i = G2 i := fun i hi => (congrFun hG8 _).trans ((va_up_ne _ _ (by omega)).trans (frR i hi))
  have frS : ∀ i, 183 ≤ i ∧ i < 193 → G8 i = G5 i := fun i hi => (congrFun hG8 _).trans ((va_up_ne _ _ (by omega)).trans (frS i hi))
  have g7 : G8 (193) = arq (cA 2) 12 (fun _ => none) := (congrFun hG8 _).trans ((va_up_ne _ _ (by omega)).trans g7)
  have hF : G8 (0) = .inr (7, [.ref (B + (1)), .ref (B + (183)), .ref (B + (193)), .null, .null, .null, .null, .null, .int 0]) := by rw [hG8]; exact va_up_self _ _ _
  refine lv_aload_n hx hb dX7_init_35 rfl (lv_at hl 0 rfl) ?_
  refine lv_sipush (v := (1024 : Int32)) hx hb dX7_init_36 (by decide) ?_
  refine b_newa (atype := .boolean) (ty := .boolean) (N := 1024) (t0 := 1) (a0 := (1024, .inl (fun _ => 0))) hx hb hts hK hh AC_z rfl (fun _ h => h) rfl (fun _ => rfl) (by decide) (by decide) (by decide) (Nat.le_of_ble_eq_true rfl) (Nat.le_of_ble_eq_true rfl) dX7_init_39 (fun H hh => ?_)
  obtain ⟨G9, hG9⟩ : ∃ G, G = va_up G8 (194) (arz cA 1024) := ⟨_, rfl⟩
  have hh : HB D B s (195) (va_up G8 (194) (arz cA 1024)) H locs := hh
  rw [← hG9] at hh
  have hF : G9 (0) = .inr (7, [.ref (B + (1)), .ref (B + (183)), .ref (B + (193)), .null, .null, .null, .null, .null, .int 0]) := (congrFun hG9 _).trans ((va_up_ne _ _ (by omega)).trans hF)
  have frR : ∀ i, 1 ≤ i ∧ i < 183 → G9 i = G2 i := fun i hi => (congrFun hG9 _).trans ((va_up_ne _ _ (by omega)).trans (frR i hi))
  have frS : ∀ i, 183 ≤ i ∧ i < 193 → G9 i = G5 i := fun i hi => (congrFun hG9 _).trans ((va_up_ne _ _ (by omega)).trans (frS i hi))
  have g7 : G9 (193) = arq (cA 2) 12 (fun _ => none) := (congrFun hG9 _).trans ((va_up_ne _ _ (by omega)).trans g7)
  have g9 : G9 (194) = arz cA 1024 := by rw [hG9]; exact va_up_self _ _ _
  refine b_put (Cn := RX7) (T := TX7) (N := 9) (ci := 7) (sl := 3) hx hb hts hown hK hh inG7 tyX7 tyX7_ok nmX7 rfl (by omega) hF (by decide) LF_7_29 hin rfl (tyX7_ok 3 (by decide)) (by first | rfl | decide) (by first | rfl | decide) (Nat.le_of_ble_eq_true rfl) dX7_init_41 (fun H locs hh => ?_)
  obtain ⟨G10, hG10⟩ : ∃ G, G = va_up G9 (0) (.inr (7, [.ref (B + (1)), .ref (B + (183)), .ref (B + (193)), .ref (B + (194)), .null, .null, .null, .null, .int 0])) := ⟨_, rfl⟩
  have hh : HB D B s (195) (va_up G9 (0) (.inr (7, [.ref (B + (1)), .ref (B + (183)), .ref (B + (193)), .ref (B + (194)), .null, .null, .null, .null, .int 0]))) H locs := hh
  rw [← hG10] at hh
  have frR : ∀ i, 1 ≤ i ∧ i < 183 → G10 i = G2 i := fun i hi => (congrFun hG10 _).trans ((va_up_ne _ _ (by omega)).trans (frR i hi))
  have frS : ∀ i, 183 ≤ i ∧ i < 193 → G10 i = G5 i := fun i hi => (congrFun hG10 _).trans ((va_up_ne _ _ (by omega)).trans (frS i hi))
  have g7 : G10 (193) = arq (cA 2) 12 (fun _ => none) := (congrFun hG10 _).trans ((va_up_ne _ _ (by omega)).trans g7)
  have g9 : G10 (194) = arz cA 1024 := (congrFun hG10 _).trans ((va_up_ne _ _ (by omega)).trans g9)
  have hF : G10 (0) = .inr (7, [.ref (B + (1)), .ref (B + (183)), .ref (B + (193)), .ref (B + (194)), .null, .null, .null, .null, .int 0]) := by rw [hG10]; exact va_up_self _ _ _
  refine lv_aload_n hx hb dX7_init_44 rfl (lv_at hl 0 rfl) ?_
  refine b_new (ci := 0) (fs := df0) (N := 2) tyX0 hx hb hts hown hK hh inG0 tyX0_ok rfl LK_7_33 IS_0 IN_0 dfo0 (Nat.le_of_ble_eq_true rfl) (Nat.le_of_ble_eq_true rfl) dX7_init_45 (fun H hh => ?_)
  obtain ⟨G11, hG11⟩ : ∃ G, G = va_up G10 (195) (.inr (0, df0)) := ⟨_, rfl⟩
  have hh : HB D B s (196) (va_up G10 (195) (.inr (0, df0))) H locs := hh
  rw [← hG11] at hh
  have hF : G11 (0) = .inr (7, [.ref (B + (1)), .ref (B + (183)), .ref (B + (193)), .ref (B + (194)), .null, .null, .null, .null, .int 0]) := (congrFun hG11 _).trans ((va_up_ne _ _ (by omega)).trans hF)
  have frR : ∀ i, 1 ≤ i ∧ i < 183 → G11 i = G2 i := fun i hi => (congrFun hG11 _).trans ((va_up_ne _ _ (by omega)).trans (frR i hi))
  have frS : ∀ i, 183 ≤ i ∧ i < 193 → G11 i = G5 i := fun i hi => (congrFun hG11 _).trans ((va_up_ne _ _ (by omega)).trans (frS i hi))
  have g7 : G11 (193) = arq (cA 2) 12 (fun _ => none) := (congrFun hG11 _).trans ((va_up_ne _ _ (by omega)).trans g7)
  have g9 : G11 (194) = arz cA 1024 := (congrFun hG11 _).trans ((va_up_ne _ _ (by omega)).trans g9)
  have g11 : G11 (195) = .inr (0, df0) := by rw [hG11]; exact va_up_self _ _ _
  refine lv_dup hx hb dX7_init_48 rfl ?_
  refine c_init hh (inrun (rest := [.ref (B + (195)), .ref (B + (0))]) C hh (ci_0 (n := 196) (F := G11) (by omega) g11) LI_7_35 IM_X0_init IN_0 CD_X0_init rfl HD_X0_init ⟨rfl, rfl, (Nat.le_of_ble_eq_true rfl), (Nat.le_of_ble_eq_true rfl)⟩ rfl hl.1 rfl (Nat.le_of_ble_eq_true rfl) dX7_init_49 ⟨(Nat.le_of_ble_eq_true rfl), (Nat.le_of_ble_eq_true rfl)⟩) (fun G12 H locs hp hh => ?_)
  obtain ⟨p12a, p12b, p12c⟩ := hp
  have hF : G12 (0) = .inr (7, [.ref (B + (1)), .ref (B + (183)), .ref (B + (193)), .ref (B + (194)), .null, .null, .null, .null, .int 0]) := (p12c _ (by omega)).trans hF
  have frR : ∀ i, 1 ≤ i ∧ i < 183 → G12 i = G2 i := fun i hi => (p12c _ (by omega)).trans (frR i hi)
  have frS : ∀ i, 183 ≤ i ∧ i < 193 → G12 i = G5 i := fun i hi => (p12c _ (by omega)).trans (frS i hi)
  have g7 : G12 (193) = arq (cA 2) 12 (fun _ => none) := (p12c _ (by omega)).trans g7
  have g9 : G12 (194) = arz cA 1024 := (p12c _ (by omega)).trans g9
  have g11 := p12a
  have p12b : G12 (196) = ari cA 60 := p12b
  refine b_put (Cn := RX7) (T := TX7) (N := 9) (ci := 7) (sl := 4) hx hb hts hown hK hh inG7 tyX7 tyX7_ok nmX7 rfl (by omega) hF (by decide) LF_7_36 hin rfl (tyX7_ok 4 (by decide)) (by first | rfl | decide) (by first | rfl | decide) (Nat.le_of_ble_eq_true rfl) dX7_init_52 (fun H locs hh => ?_)
  obtain ⟨G13, hG13⟩ : ∃ G, G = va_up G12 (0) (.inr (7, [.ref (B + (1)), .ref (B + (183)), .ref (B + (193)), .ref (B + (194)), .ref (B + (195)), .null, .null, .null, .int 0])) := ⟨_, rfl⟩
  have hh : HB D B s (197) (va_up G12 (0) (.inr (7, [.ref (B + (1)), .ref (B + (183)), .ref (B + (193)), .ref (B + (194)), .ref (B + (195)), .null, .null, .null, .int 0]))) H locs := hh
  rw [← hG13] at hh
  have frR : ∀ i, 1 ≤ i ∧ i < 183 → G13 i = G2 i := fun i hi => (congrFun hG13 _).trans ((va_up_ne _ _ (by omega)).trans (frR i hi))
  have frS : ∀ i, 183 ≤ i ∧ i < 193 → G13 i = G5 i := fun i hi => (congrFun hG13 _).trans ((va_up_ne _ _ (by omega)).trans (frS i hi))
  have g7 : G13 (193) = arq (cA 2) 12 (fun _ => none) := (congrFun hG13 _).trans ((va_up_ne _ _ (by omega)).trans g7)
  have g9 : G13 (194) = arz cA 1024 := (congrFun hG13 _).trans ((va_up_ne _ _ (by omega)).trans g9)
  have g11 : G13 (195) = .inr (0, [.ref (B + (196)), .int 0]) := (congrFun hG13 _).trans ((va_up_ne _ _ (by omega)).trans g11)
  have p12b : G13 (196) = ari cA 60 := (congrFun hG13 _).trans ((va_up_ne _ _ (by omega)).trans p12b)
  have hF : G13 (0) = .inr (7, [.ref (B + (1)), .ref (B + (183)), .ref (B + (193)), .ref (B + (194)), .ref (B + (195)), .null, .null, .null, .int 0]) := by rw [hG13]; exact va_up_self _ _ _
  refine lv_aload_n hx hb dX7_init_55 rfl (lv_at hl 0 rfl) ?_
  refine b_new (ci := 0) (fs := df0) (N := 2) tyX0 hx hb hts hown hK hh inG0 tyX0_ok rfl LK_7_33 IS_0 IN_0 dfo0 (Nat.le_of_ble_eq_true rfl) (Nat.le_of_ble_eq_true rfl) dX7_init_56 (fun H hh => ?_)
  obtain ⟨G14, hG14⟩ : ∃ G, G = va_up G13 (197) (.inr (0, df0)) := ⟨_, rfl⟩
  have hh : HB D B s (198) (va_up G13 (197) (.inr (0, df0))) H locs := hh
  rw [← hG14] at hh
  have hF : G14 (0) = .inr (7, [.ref (B + (1)), .ref (B + (183)), .ref (B + (193)), .ref (B + (194)), .ref (B + (195)), .null, .null, .null, .int 0]) := (congrFun hG14 _).trans ((va_up_ne _ _ (by omega)).trans hF)
  have frR : ∀ i, 1 ≤ i ∧ i < 183 → G14 i = G2 i := fun i hi => (congrFun hG14 _).trans ((va_up_ne _ _ (by omega)).trans (frR i hi))
  have frS : ∀ i, 183 ≤ i ∧ i < 193 → G14 i = G5 i := fun i hi => (congrFun hG14 _).trans ((va_up_ne _ _ (by omega)).trans (frS i hi))
  have g7 : G14 (193) = arq (cA 2) 12 (fun _ => none) := (congrFun hG14 _).trans ((va_up_ne _ _ (by omega)).trans g7)
  have g9 : G14 (194) = arz cA 1024 := (congrFun hG14 _).trans ((va_up_ne _ _ (by omega)).trans g9)
  have g11 : G14 (195) = .inr (0, [.ref (B + (196)), .int 0]) := (congrFun hG14 _).trans ((va_up_ne _ _ (by omega)).trans g11)
  have p12b : G14 (196) = ari cA 60 := (congrFun hG14 _).trans ((va_up_ne _ _ (by omega)).trans p12b)
  have g14 : G14 (197) = .inr (0, df0) := by rw [hG14]; exact va_up_self _ _ _
  refine lv_dup hx hb dX7_init_59 rfl ?_
  refine c_init hh (inrun (rest := [.ref (B + (197)), .ref (B + (0))]) C hh (ci_0 (n := 198) (F := G14) (by omega) g14) LI_7_35 IM_X0_init IN_0 CD_X0_init rfl HD_X0_init ⟨rfl, rfl, (Nat.le_of_ble_eq_true rfl), (Nat.le_of_ble_eq_true rfl)⟩ rfl hl.1 rfl (Nat.le_of_ble_eq_true rfl) dX7_init_60 ⟨(Nat.le_of_ble_eq_true rfl), (Nat.le_of_ble_eq_true rfl)⟩) (fun G15 H locs hp hh => ?_)
  obtain ⟨p15a, p15b, p15c⟩ := hp
  have hF : G15 (0) = .inr (7, [.ref (B + (1)), .ref (B + (183)), .ref (B + (193)), .ref (B + (194)), .ref (B + (195)), .null, .null, .null, .int 0]) := (p15c _ (by omega)).trans hF
  have frR : ∀ i, 1 ≤ i ∧ i < 183 → G15 i = G2 i := fun i hi => (p15c _ (by omega)).trans (frR i hi)
  have frS : ∀ i, 183 ≤ i ∧ i < 193 → G15 i = G5 i := fun i hi => (p15c _ (by omega)).trans (frS i hi)
  have g7 : G15 (193) = arq (cA 2) 12 (fun _ => none) := (p15c _ (by omega)).trans g7
  have g9 : G15 (194) = arz cA 1024 := (p15c _ (by omega)).trans g9
  have g11 : G15 (195) = .inr (0, [.ref (B + (196)), .int 0]) := (p15c _ (by omega)).trans g11
  have p12b : G15 (196) = ari cA 60 := (p15c _ (by omega)).trans p12b
  have g14 := p15a
  have p15b : G15 (198) = ari cA 60 := p15b
  refine b_put (Cn := RX7) (T := TX7) (N := 9) (ci := 7) (sl := 5) hx hb hts hown hK hh inG7 tyX7 tyX7_ok nmX7 rfl (by omega) hF (by decide) LF_7_40 hin rfl (tyX7_ok 5 (by decide)) (by first | rfl | decide) (by first | rfl | decide) (Nat.le_of_ble_eq_true rfl) dX7_init_63 (fun H locs hh => ?_)
  obtain ⟨G16, hG16⟩ : ∃ G, G = va_up G15 (0) (.inr (7, [.ref (B + (1)), .ref (B + (183)), .ref (B + (193)), .ref (B + (194)), .ref (B + (195)), .ref (B + (197)), .null, .null, .int 0])) := ⟨_, rfl⟩
  have hh : HB D B s (199) (va_up G15 (0) (.inr (7, [.ref (B + (1)), .ref (B + (183)), .ref (B + (193)), .ref (B + (194)), .ref (B + (195)), .ref (B + (197)), .null, .null, .int 0]))) H locs := hh
  rw [← hG16] at hh
  have frR : ∀ i, 1 ≤ i ∧ i < 183 → G16 i = G2 i := fun i hi => (congrFun hG16 _).trans ((va_up_ne _ _ (by omega)).trans (frR i hi))
  have frS : ∀ i, 183 ≤ i ∧ i < 193 → G16 i = G5 i := fun i hi => (congrFun hG16 _).trans ((va_up_ne _ _ (by omega)).trans (frS i hi))
  have g7 : G16 (193) = arq (cA 2) 12 (fun _ => none) := (congrFun hG16 _).trans ((va_up_ne _ _ (by omega)).trans g7)
  have g9 : G16 (194) = arz cA 1024 := (congrFun hG16 _).trans ((va_up_ne _ _ (by omega)).trans g9)
  have g11 : G16 (195) = .inr (0, [.ref (B + (196)), .int 0]) := (congrFun hG16 _).trans ((va_up_ne _ _ (by omega)).trans g11)
  have p12b : G16 (196) = ari cA 60 := (congrFun hG16 _).trans ((va_up_ne _ _ (by omega)).trans p12b)
  have g14 : G16 (197) = .inr (0, [.ref (B + (198)), .int 0]) := (congrFun hG16 _).trans ((va_up_ne _ _ (by omega)).trans g14)
  have p15b : G16 (198) = ari cA 60 := (congrFun hG16 _).trans ((va_up_ne _ _ (by omega)).trans p15b)
  have hF : G16 (0) = .inr (7, [.ref (B + (1)), .ref (B + (183)), .ref (B + (193)), .ref (B + (194)), .ref (B + (195)), .ref (B + (197)), .null, .null, .int 0]) := by rw [hG16]; exact va_up_self _ _ _
  refine lv_aload_n hx hb dX7_init_66 rfl (lv_at hl 0 rfl) ?_
  refine b_new (ci := 2) (fs := df2) (N := 11) tyX2 hx hb hts hown hK hh inG2 tyX2_ok rfl LK_7_43 IS_2 IN_2 dfo2 (Nat.le_of_ble_eq_true rfl) (Nat.le_of_ble_eq_true rfl) dX7_init_67 (fun H hh => ?_)
  obtain ⟨G17, hG17⟩ : ∃ G, G = va_up G16 (199) (.inr (2, df2)) := ⟨_, rfl⟩
  have hh : HB D B s (200) (va_up G16 (199) (.inr (2, df2))) H locs := hh
  rw [← hG17] at hh
  have hF : G17 (0) = .inr (7, [.ref (B + (1)), .ref (B + (183)), .ref (B + (193)), .ref (B + (194)), .ref (B + (195)), .ref (B + (197)), .null, .null, .int 0]) := (congrFun hG17 _).trans ((va_up_ne _ _ (by omega)).trans hF)
  have frR : ∀ i, 1 ≤ i ∧ i < 183 → G17 i = G2 i := fun i hi => (congrFun hG17 _).trans ((va_up_ne _ _ (by omega)).trans (frR i hi))
  have frS : ∀ i, 183 ≤ i ∧ i < 193 → G17 i = G5 i := fun i hi => (congrFun hG17 _).trans ((va_up_ne _ _ (by omega)).trans (frS i hi))
  have g7 : G17 (193) = arq (cA 2) 12 (fun _ => none) := (congrFun hG17 _).trans ((va_up_ne _ _ (by omega)).trans g7)
  have g9 : G17 (194) = arz cA 1024 := (congrFun hG17 _).trans ((va_up_ne _ _ (by omega)).trans g9)
  have g11 : G17 (195) = .inr (0, [.ref (B + (196)), .int 0]) := (congrFun hG17 _).trans ((va_up_ne _ _ (by omega)).trans g11)
  have p12b : G17 (196) = ari cA 60 := (congrFun hG17 _).trans ((va_up_ne _ _ (by omega)).trans p12b)
  have g14 : G17 (197) = .inr (0, [.ref (B + (198)), .int 0]) := (congrFun hG17 _).trans ((va_up_ne _ _ (by omega)).trans g14)
  have p15b : G17 (198) = ari cA 60 := (congrFun hG17 _).trans ((va_up_ne _ _ (by omega)).trans p15b)
  have g17 : G17 (199) = .inr (2, df2) := by rw [hG17]; exact va_up_self _ _ _
  refine lv_dup hx hb dX7_init_70 rfl ?_
  refine c_init hh (inrun (rest := [.ref (B + (199)), .ref (B + (0))]) C hh (ci_2 (n := 200) (F := G17) (by omega) g17) LI_7_45 IM_X2_init IN_2 CD_X2_init rfl HD_X2_init ⟨rfl, rfl, (Nat.le_of_ble_eq_true rfl), (Nat.le_of_ble_eq_true rfl)⟩ rfl hl.1 rfl (Nat.le_of_ble_eq_true rfl) dX7_init_71 ⟨(Nat.le_of_ble_eq_true rfl), (Nat.le_of_ble_eq_true rfl)⟩) (fun G18 H locs hp hh => ?_)
  obtain ⟨p18a, p18b⟩ := hp
  have hF : G18 (0) = .inr (7, [.ref (B + (1)), .ref (B + (183)), .ref (B + (193)), .ref (B + (194)), .ref (B + (195)), .ref (B + (197)), .null, .null, .int 0]) := (p18b _ (by omega)).trans hF
  have frR : ∀ i, 1 ≤ i ∧ i < 183 → G18 i = G2 i := fun i hi => (p18b _ (by omega)).trans (frR i hi)
  have frS : ∀ i, 183 ≤ i ∧ i < 193 → G18 i = G5 i := fun i hi => (p18b _ (by omega)).trans (frS i hi)
  have g7 : G18 (193) = arq (cA 2) 12 (fun _ => none) := (p18b _ (by omega)).trans g7
  have g9 : G18 (194) = arz cA 1024 := (p18b _ (by omega)).trans g9
  have g11 : G18 (195) = .inr (0, [.ref (B + (196)), .int 0]) := (p18b _ (by omega)).trans g11
  have p12b : G18 (196) = ari cA 60 := (p18b _ (by omega)).trans p12b
  have g14 : G18 (197) = .inr (0, [.ref (B + (198)), .int 0]) := (p18b _ (by omega)).trans g14
  have p15b : G18 (198) = ari cA 60 := (p18b _ (by omega)).trans p15b
  have g17 := p18a
  refine b_put (Cn := RX7) (T := TX7) (N := 9) (ci := 7) (sl := 6) hx hb hts hown hK hh inG7 tyX7 tyX7_ok nmX7 rfl (by omega) hF (by decide) LF_7_46 hin rfl (tyX7_ok 6 (by decide)) (by first | rfl | decide) (by first | rfl | decide) (Nat.le_of_ble_eq_true rfl) dX7_init_74 (fun H locs hh => ?_)
  obtain ⟨G19, hG19⟩ : ∃ G, G = va_up G18 (0) (.inr (7, [.ref (B + (1)), .ref (B + (183)), .ref (B + (193)), .ref (B + (194)), .ref (B + (195)), .ref (B + (197)), .ref (B + (199)), .null, .int 0])) := ⟨_, rfl⟩
  have hh : HB D B s (200) (va_up G18 (0) (.inr (7, [.ref (B + (1)), .ref (B + (183)), .ref (B + (193)), .ref (B + (194)), .ref (B + (195)), .ref (B + (197)), .ref (B + (199)), .null, .int 0]))) H locs := hh
  rw [← hG19] at hh
  have frR : ∀ i, 1 ≤ i ∧ i < 183 → G19 i = G2 i := fun i hi => (congrFun hG19 _).trans ((va_up_ne _ _ (by omega)).trans (frR i hi))
  have frS : ∀ i, 183 ≤ i ∧ i < 193 → G19 i = G5 i := fun i hi => (congrFun hG19 _).trans ((va_up_ne _ _ (by omega)).trans (frS i hi))
  have g7 : G19 (193) = arq (cA 2) 12 (fun _ => none) := (congrFun hG19 _).trans ((va_up_ne _ _ (by omega)).trans g7)
  have g9 : G19 (194) = arz cA 1024 := (congrFun hG19 _).trans ((va_up_ne _ _ (by omega)).trans g9)
  have g11 : G19 (195) = .inr (0, [.ref (B + (196)), .int 0]) := (congrFun hG19 _).trans ((va_up_ne _ _ (by omega)).trans g11)
  have p12b : G19 (196) = ari cA 60 := (congrFun hG19 _).trans ((va_up_ne _ _ (by omega)).trans p12b)
  have g14 : G19 (197) = .inr (0, [.ref (B + (198)), .int 0]) := (congrFun hG19 _).trans ((va_up_ne _ _ (by omega)).trans g14)
  have p15b : G19 (198) = ari cA 60 := (congrFun hG19 _).trans ((va_up_ne _ _ (by omega)).trans p15b)
  have g17 : G19 (199) = .inr (2, df2) := (congrFun hG19 _).trans ((va_up_ne _ _ (by omega)).trans g17)
  have hF : G19 (0) = .inr (7, [.ref (B + (1)), .ref (B + (183)), .ref (B + (193)), .ref (B + (194)), .ref (B + (195)), .ref (B + (197)), .ref (B + (199)), .null, .int 0]) := by rw [hG19]; exact va_up_self _ _ _
  refine lv_aload_n hx hb dX7_init_77 rfl (lv_at hl 0 rfl) ?_
  refine b_new (ci := 2) (fs := df2) (N := 11) tyX2 hx hb hts hown hK hh inG2 tyX2_ok rfl LK_7_43 IS_2 IN_2 dfo2 (Nat.le_of_ble_eq_true rfl) (Nat.le_of_ble_eq_true rfl) dX7_init_78 (fun H hh => ?_)
  obtain ⟨G20, hG20⟩ : ∃ G, G = va_up G19 (200) (.inr (2, df2)) := ⟨_, rfl⟩
  have hh : HB D B s (201) (va_up G19 (200) (.inr (2, df2))) H locs := hh
  rw [← hG20] at hh
  have hF : G20 (0) = .inr (7, [.ref (B + (1)), .ref (B + (183)), .ref (B + (193)), .ref (B + (194)), .ref (B + (195)), .ref (B + (197)), .ref (B + (199)), .null, .int 0]) := (congrFun hG20 _).trans ((va_up_ne _ _ (by omega)).trans hF)
  have frR : ∀ i, 1 ≤ i ∧ i < 183 → G20 i = G2 i := fun i hi => (congrFun hG20 _).trans ((va_up_ne _ _ (by omega)).trans (frR i hi))
  have frS : ∀ i, 183 ≤ i ∧ i < 193 → G20 i = G5 i := fun i hi => (congrFun hG20 _).trans ((va_up_ne _ _ (by omega)).trans (frS i hi))
  have g7 : G20 (193) = arq (cA 2) 12 (fun _ => none) := (congrFun hG20 _).trans ((va_up_ne _ _ (by omega)).trans g7)
  have g9 : G20 (194) = arz cA 1024 := (congrFun hG20 _).trans ((va_up_ne _ _ (by omega)).trans g9)
  have g11 : G20 (195) = .inr (0, [.ref (B + (196)), .int 0]) := (congrFun hG20 _).trans ((va_up_ne _ _ (by omega)).trans g11)
  have p12b : G20 (196) = ari cA 60 := (congrFun hG20 _).trans ((va_up_ne _ _ (by omega)).trans p12b)
  have g14 : G20 (197) = .inr (0, [.ref (B + (198)), .int 0]) := (congrFun hG20 _).trans ((va_up_ne _ _ (by omega)).trans g14)
  have p15b : G20 (198) = ari cA 60 := (congrFun hG20 _).trans ((va_up_ne _ _ (by omega)).trans p15b)
  have g17 : G20 (199) = .inr (2, df2) := (congrFun hG20 _).trans ((va_up_ne _ _ (by omega)).trans g17)
  have g20 : G20 (200) = .inr (2, df2) := by rw [hG20]; exact va_up_self _ _ _
  refine lv_dup hx hb dX7_init_81 rfl ?_
  refine c_init hh (inrun (rest := [.ref (B + (200)), .ref (B + (0))]) C hh (ci_2 (n := 201) (F := G20) (by omega) g20) LI_7_45 IM_X2_init IN_2 CD_X2_init rfl HD_X2_init ⟨rfl, rfl, (Nat.le_of_ble_eq_true rfl), (Nat.le_of_ble_eq_true rfl)⟩ rfl hl.1 rfl (Nat.le_of_ble_eq_true rfl) dX7_init_82 ⟨(Nat.le_of_ble_eq_true rfl), (Nat.le_of_ble_eq_true rfl)⟩) (fun G21 H locs hp hh => ?_)
  obtain ⟨p21a, p21b⟩ := hp
  have hF : G21 (0) = .inr (7, [.ref (B + (1)), .ref (B + (183)), .ref (B + (193)), .ref (B + (194)), .ref (B + (195)), .ref (B + (197)), .ref (B + (199)), .null, .int 0]) := (p21b _ (by omega)).trans hF
  have frR : ∀ i, 1 ≤ i ∧ i < 183 → G21 i = G2 i := fun i hi => (p21b _ (by omega)).trans (frR i hi)
  have frS : ∀ i, 183 ≤ i ∧ i < 193 → G21 i = G5 i := fun i hi => (p21b _ (by omega)).trans (frS i hi)
  have g7 : G21 (193) = arq (cA 2) 12 (fun _ => none) := (p21b _ (by omega)).trans g7
  have g9 : G21 (194) = arz cA 1024 := (p21b _ (by omega)).trans g9
  have g11 : G21 (195) = .inr (0, [.ref (B + (196)), .int 0]) := (p21b _ (by omega)).trans g11
  have p12b : G21 (196) = ari cA 60 := (p21b _ (by omega)).trans p12b
  have g14 : G21 (197) = .inr (0, [.ref (B + (198)), .int 0]) := (p21b _ (by omega)).trans g14
  have p15b : G21 (198) = ari cA 60 := (p21b _ (by omega)).trans p15b
  have g17 : G21 (199) = .inr (2, df2) := (p21b _ (by omega)).trans g17
  have g20 := p21a
  refine b_put (Cn := RX7) (T := TX7) (N := 9) (ci := 7) (sl := 7) hx hb hts hown hK hh inG7 tyX7 tyX7_ok nmX7 rfl (by omega) hF (by decide) LF_7_50 hin rfl (tyX7_ok 7 (by decide)) (by first | rfl | decide) (by first | rfl | decide) (Nat.le_of_ble_eq_true rfl) dX7_init_85 (fun H locs hh => ?_)
  obtain ⟨G22, hG22⟩ : ∃ G, G = va_up G21 (0) (.inr (7, [.ref (B + (1)), .ref (B + (183)), .ref (B + (193)), .ref (B + (194)), .ref (B + (195)), .ref (B + (197)), .ref (B + (199)), .ref (B + (200)), .int 0])) := ⟨_, rfl⟩
  have hh : HB D B s (201) (va_up G21 (0) (.inr (7, [.ref (B + (1)), .ref (B + (183)), .ref (B + (193)), .ref (B + (194)), .ref (B + (195)), .ref (B + (197)), .ref (B + (199)), .ref (B + (200)), .int 0]))) H locs := hh
  rw [← hG22] at hh
  have frR : ∀ i, 1 ≤ i ∧ i < 183 → G22 i = G2 i := fun i hi => (congrFun hG22 _).trans ((va_up_ne _ _ (by omega)).trans (frR i hi))
  have frS : ∀ i, 183 ≤ i ∧ i < 193 → G22 i = G5 i := fun i hi => (congrFun hG22 _).trans ((va_up_ne _ _ (by omega)).trans (frS i hi))
  have g7 : G22 (193) = arq (cA 2) 12 (fun _ => none) := (congrFun hG22 _).trans ((va_up_ne _ _ (by omega)).trans g7)
  have g9 : G22 (194) = arz cA 1024 := (congrFun hG22 _).trans ((va_up_ne _ _ (by omega)).trans g9)
  have g11 : G22 (195) = .inr (0, [.ref (B + (196)), .int 0]) := (congrFun hG22 _).trans ((va_up_ne _ _ (by omega)).trans g11)
  have p12b : G22 (196) = ari cA 60 := (congrFun hG22 _).trans ((va_up_ne _ _ (by omega)).trans p12b)
  have g14 : G22 (197) = .inr (0, [.ref (B + (198)), .int 0]) := (congrFun hG22 _).trans ((va_up_ne _ _ (by omega)).trans g14)
  have p15b : G22 (198) = ari cA 60 := (congrFun hG22 _).trans ((va_up_ne _ _ (by omega)).trans p15b)
  have g17 : G22 (199) = .inr (2, df2) := (congrFun hG22 _).trans ((va_up_ne _ _ (by omega)).trans g17)
  have g20 : G22 (200) = .inr (2, df2) := (congrFun hG22 _).trans ((va_up_ne _ _ (by omega)).trans g20)
  have hF : G22 (0) = .inr (7, [.ref (B + (1)), .ref (B + (183)), .ref (B + (193)), .ref (B + (194)), .ref (B + (195)), .ref (B + (197)), .ref (B + (199)), .ref (B + (200)), .int 0]) := by rw [hG22]; exact va_up_self _ _ _
  refine lv_aload_n hx hb dX7_init_88 rfl (lv_at hl 0 rfl) ?_
  refine lv_iconst (v := (0 : Int32)) hx hb dX7_init_89 (by decide) ?_
  refine b_put (Cn := RX7) (T := TX7) (N := 9) (ci := 7) (sl := 8) hx hb hts hown hK hh inG7 tyX7 tyX7_ok nmX7 rfl (by omega) hF (by decide) LF_7_53 hin rfl (tyX7_ok 8 (by decide)) (by first | rfl | decide) (by first | rfl | decide) (Nat.le_of_ble_eq_true rfl) dX7_init_90 (fun H locs hh => ?_)
  obtain ⟨G23, hG23⟩ : ∃ G, G = va_up G22 (0) (.inr (7, [.ref (B + (1)), .ref (B + (183)), .ref (B + (193)), .ref (B + (194)), .ref (B + (195)), .ref (B + (197)), .ref (B + (199)), .ref (B + (200)), .int 0])) := ⟨_, rfl⟩
  have hh : HB D B s (201) (va_up G22 (0) (.inr (7, [.ref (B + (1)), .ref (B + (183)), .ref (B + (193)), .ref (B + (194)), .ref (B + (195)), .ref (B + (197)), .ref (B + (199)), .ref (B + (200)), .int 0]))) H locs := hh
  rw [← hG23] at hh
  have frR : ∀ i, 1 ≤ i ∧ i < 183 → G23 i = G2 i := fun i hi => (congrFun hG23 _).trans ((va_up_ne _ _ (by omega)).trans (frR i hi))
  have frS : ∀ i, 183 ≤ i ∧ i < 193 → G23 i = G5 i := fun i hi => (congrFun hG23 _).trans ((va_up_ne _ _ (by omega)).trans (frS i hi))
  have g7 : G23 (193) = arq (cA 2) 12 (fun _ => none) := (congrFun hG23 _).trans ((va_up_ne _ _ (by omega)).trans g7)
  have g9 : G23 (194) = arz cA 1024 := (congrFun hG23 _).trans ((va_up_ne _ _ (by omega)).trans g9)
  have g11 : G23 (195) = .inr (0, [.ref (B + (196)), .int 0]) := (congrFun hG23 _).trans ((va_up_ne _ _ (by omega)).trans g11)
  have p12b : G23 (196) = ari cA 60 := (congrFun hG23 _).trans ((va_up_ne _ _ (by omega)).trans p12b)
  have g14 : G23 (197) = .inr (0, [.ref (B + (198)), .int 0]) := (congrFun hG23 _).trans ((va_up_ne _ _ (by omega)).trans g14)
  have p15b : G23 (198) = ari cA 60 := (congrFun hG23 _).trans ((va_up_ne _ _ (by omega)).trans p15b)
  have g17 : G23 (199) = .inr (2, df2) := (congrFun hG23 _).trans ((va_up_ne _ _ (by omega)).trans g17)
  have g20 : G23 (200) = .inr (2, df2) := (congrFun hG23 _).trans ((va_up_ne _ _ (by omega)).trans g20)
  have hF : G23 (0) = .inr (7, [.ref (B + (1)), .ref (B + (183)), .ref (B + (193)), .ref (B + (194)), .ref (B + (195)), .ref (B + (197)), .ref (B + (199)), .ref (B + (200)), .int 0]) := by rw [hG23]; exact va_up_self _ _ _
  refine lv_iconst (v := (0 : Int32)) hx hb dX7_init_93 (by decide) ?_
  refine lv_istore_n (lv' := [(1, .int 0), (0, .ref (B + (0)))]) hx hb dX7_init_94 rfl hl (by decide) rfl (fun ls hl => ?_)
  refine W.widen (k := 200 + 0) (n := 8191 + 12 * 0) (by decide) (by decide) ?_
  obtain ⟨vf, v2a, v2b⟩ := v2
  obtain ⟨v6f, v4a, v4b⟩ := v4
  obtain ⟨v8f, v6a, v6b⟩ := v6
  refine net_loop C 12 0 _ _ (by omega) hh ⟨hF, ⟨(frR _ (by omega)).trans r1, ⟨rf, (frR _ (by omega)).trans r2, r2b⟩, r3.of (fun q h => frR q h)⟩, ⟨(frS _ (by omega)).trans v1, ⟨vf, (frS _ (by omega)).trans v2a, v2b⟩, (frS _ (by omega)).trans v3, ⟨v6f, (frS _ (by omega)).trans v4a, v4b⟩, (frS _ (by omega)).trans v5, ⟨v8f, (frS _ (by omega)).trans v6a, v6b⟩, fun j hj => (frS _ (by omega)).trans (v7 j hj)⟩, g9, g11, p12b, g14, p15b, g17, g20⟩ g7 (fun j hj => absurd hj (Nat.not_lt_zero j)) (fun j hj => absurd hj (Nat.not_lt_zero j)) hl
