abbrev rm_fill : Room := { frames := 0, cells := 0, slots := 0, locals := 0 }
theorem HD_fill : yJ7_fill_53178.cls ≠ "java/lang/invoke/MethodHandle" ∧ yJ7_fill_53178.cls ≠ "java/lang/invoke/VarHandle" ∧ (parseMethodDescriptor yJ7_fill_53178.desc).map (fun d => d.parameters.length) = some 2 := by decide +kernel
def fillP (cA : Nat → ClassId) (k N n : Nat) (x : Int32) (F G : Nat → va_E) : Prop := (∃ f : Nat → Int32, G k = .inl (cA 0, N, .inl f) ∧ ∀ j, j < N → f j = x) ∧ ∀ i, i < n ∧ i ≠ k → G i = F i
set_option maxHeartbeats 4000000 in
set_option maxRecDepth 100000 in
theorem fill_loop {p : Program} {l : Launch} {e : Env} {s : State} {m : MethodId} {args : Array Value} {below : List Frame} {meth : Method} {c : Code} {D : va_G} {cA : Nat → ClassId} {B n k N : Nat} {F : Nat → va_E} {x : Int32} (hx : p.tables.exec = Jvm.exec) (hb : c.code = cJ7_fill_53178) (hK : va_K D vwCl (tyW cA) s) (hN : NC s) (hr : meth.sig.returnType = none) (hlocks : meth.locks = false) (hk : k < n) (hNb : N < 2 ^ 31) :
    ∀ (t i : Nat) (G : Nat → va_E) (f : Nat → Int32) {H : Heap} {locs : List Loc} {ls : Array Slot}, i + t = N → HB D B s n G H locs → G k = .inl (cA 0, N, .inl f) → (∀ j, j < i → f j = x) → (∀ q, q < n ∧ q ≠ k → G q = F q) → lv_has ls 4 [(2, .int (nI i)), (3, .int (nI N)), (0, .ref (B + k)), (1, .int x)] → W p l e rm_fill s m args below meth c H locs 0 0 (MQ below (QB D cA B n (fillP cA k N n x F)) args s 0 0 (fun q => B ≤ q)) (F0 m 5 ls []) := by
  intro t
  induction t with
  | zero =>
    intro i G f H locs ls hi hh hG hf fr hl
    have hi : i = N := by omega
    subst hi
    refine lv_iload_n hx hb dJ7_fill_53178_5 rfl (lv_at hl 0 rfl) ?_
    refine lv_iload_n hx hb dJ7_fill_53178_6 rfl (lv_at hl 1 rfl) ?_
    refine lv_icmp_ge (tgt := 20) hx hb dJ7_fill_53178_7 (by decide) (fun c1 => ?_) (fun c1 => ?_)
    · exact b_ret hx hb hK hN hr hlocks hh ⟨⟨f, hG, hf⟩, fr⟩ dJ7_fill_53178_20
    · exact absurd (nI_le (Nat.le_refl _) hNb) c1
  | succ t ih =>
    intro i G f H locs ls hi hh hG hf fr hl
    refine lv_iload_n hx hb dJ7_fill_53178_5 rfl (lv_at hl 0 rfl) ?_
    refine lv_iload_n hx hb dJ7_fill_53178_6 rfl (lv_at hl 1 rfl) ?_
    refine lv_icmp_ge (tgt := 20) hx hb dJ7_fill_53178_7 (by decide) (fun c1 => ?_) (fun c1 => ?_)
    · exact absurd c1 (nI_ge (by omega) hNb)
    · refine lv_aload_n hx hb dJ7_fill_53178_10 rfl (lv_at hl 2 rfl) ?_
      refine lv_iload_n hx hb dJ7_fill_53178_11 rfl (lv_at hl 0 rfl) ?_
      refine lv_iload_n hx hb dJ7_fill_53178_12 rfl (lv_at hl 3 rfl) ?_
      refine b_iast hx hb hK hh hk hG (vp_in_nI (by omega) hNb) dJ7_fill_53178_13 (fun H locs hh => ?_)
      refine lv_iinc (v := nI (i + 1)) (lv' := [(2, .int (nI (i + 1))), (3, .int (nI N)), (0, .ref (B + k)), (1, .int x)]) hx hb dJ7_fill_53178_14 hl (k := 0) rfl (nI_1 i) (by decide) rfl (fun ls hl => ?_)
      refine lv_goto (tgt := 5) hx hb dJ7_fill_53178_17 (by decide) ?_
      rw [nI_clamp (by omega)] at hh
      exact ih (i + 1) _ _ (by omega) hh (va_up_self _ _ _) (fun j hj => by by_cases e1 : j = i; { subst e1; simp [upd] }; { simp [upd, e1]; exact hf j (by omega) }) (fun q hq => (va_up_ne _ _ (by omega)).trans (fr q hq)) hl
set_option maxHeartbeats 4000000 in
set_option maxRecDepth 100000 in
theorem c_fill {l : Launch} {D : va_G} {cA : Nat → ClassId} {B n k N : Nat} {F : Nat → va_E} {f : Nat → Int32} {x : Int32} (hk : k < n) (hNb : N < 2 ^ 31) (hF : F k = .inl (cA 0, N, .inl f)) : Met l yJ7_fill_53178 (wsG yJ7_fill_53178 cJ7_fill_53178 4 none) rm_fill (va_Pc [.ref (B + k), .int x] (IB D cA B n F)) (QB D cA B n (fillP cA k N n x F)) 0 0 (fun q => B ≤ q) := by
  refine Met.ofW (cc := cJ7_fill_53178) (maxL := 4) (ret := none) (by decide) rfl ?_
  intro p e s m args below meth c s₁ Bd hml hv
  obtain ⟨rfl, hP, hK, hN, hz⟩ := hv
  have hts := atoms_spec (ws := wsG yJ7_fill_53178 cJ7_fill_53178 4 none) Bd.pre
  have hx := Bd.exec
  have hb := Bd.bytes
  have hh : HB D B s n F s.heap [] := ⟨hP, va_S.rf, hz⟩
  have hl := lv_entry ([.ref (B + k), .int x]) (n := 4) (Nat.le_of_ble_eq_true rfl)
  rw [lg_entry_eq]
  generalize (lg_sl ([.ref (B + k), .int x]) ++ List.replicate (4 - (lg_sl ([.ref (B + k), .int x])).length) Slot.unset).toArray = ls at hl ⊢
  have hl : lv_has ls 4 [(0, .ref (B + k)), (1, .int x)] := hl
  refine lv_iconst (v := (0 : Int32)) hx hb dJ7_fill_53178_0 (by decide) ?_
  refine lv_istore_n (lv' := [(2, .int 0), (0, .ref (B + k)), (1, .int x)]) hx hb dJ7_fill_53178_1 rfl hl (by decide) rfl (fun ls hl => ?_)
  refine lv_aload_n hx hb dJ7_fill_53178_2 rfl (lv_at hl 1 rfl) ?_
  refine va_alen (v := nI N) hx hb hK hh.1 k 0 (bw_at hk hF) rfl rfl dJ7_fill_53178_3 ?_
  refine lv_istore_n (lv' := [(3, .int (nI N)), (2, .int 0), (0, .ref (B + k)), (1, .int x)]) hx hb dJ7_fill_53178_4 rfl hl (by decide) rfl (fun ls hl => ?_)
  exact fill_loop hx hb hK hN Bd.returns Bd.notSynchronized hk hNb N 0 F f (by omega) hh hF (fun j hj => absurd hj (Nat.not_lt_zero j)) (fun _ _ => rfl) (lv_sub hl [1, 0, 2, 3] rfl)
theorem frun {p : Program} {l : Launch} {e : Env} {R : Room} {s : State} {m : MethodId} {args : Array Value} {below : List Frame} {meth : Method} {c : Code} {H : Heap} {locs : List Loc} {cells slots : Nat} {cc : ByteArray} {nL : Nat} {D : va_G} {cA : Nat → ClassId} {B n k N : Nat} {F : Nat → va_E} {f : Nat → Int32} {x : Int32} {pc : Nat} {ls : Array Slot} {rest : List Value} (C : Cb p s m args meth c cc nL RX6 D cA B) (hh : HB D B s n F H locs) (hk : k < n) (hNb : N < 2 ^ 31) (hF : F k = .inl (cA 0, N, .inl f)) (hR : 1 ≤ R.frames ∧ 23 ≤ R.locals) (hsz : ls.size = nL) (hcat : (rest.map fun v => v.category).sum ≤ 8) (hdg : decode cc pc = .ok (.invokestatic 35, 3)) (hf : cells ≤ R.cells ∧ slots ≤ R.slots) :
    va_Run p l e R s m args below meth c H locs cells slots 0 0 (F0 m pc ls (.int x :: .ref (B + k) :: rest)) rest (QB D cA B n (fillP cA k N n x F) [.ref (B + k), .int x].toArray) (fun q => B ≤ q) := by
  obtain ⟨hS, hK, hN, hB, hr, hlocks, hin⟩ := C
  have hT : GoodIn Gw (wsG yJ7_fill_53178 cJ7_fill_53178 4 none) := by
    intro w hw
    have : w ∈ Gw := by
      rcases List.mem_cons.mp hw with rfl | hw
      · exact FL_cd
      · exact hw
    exact Gw_good w this
  exact va_runS (g := F0 m pc ls (.int x :: .ref (B + k) :: rest)) (As := [.ref (B + k), .int x]) hS (c_fill hk hNb hF) ⟨callB_of 2 hS.2.2.2.2 hT rfl rfl rfl (hS.2.2.2.2 _ FL_in) (hS.2.2.2.2 _ FL_link) HD_fill ⟨by show 0 + 1 ≤ _; omega, by show 8 + (4 + 11) + 0 ≤ _; omega⟩, hS.2.2.2.2 _ FL_st⟩ ⟨IB_blind, fun U hU hW => ⟨rfl, by rw [hU]; exact hh.1, va_K.moved hW.alike hK, hN.moved hW, by rw [hU]; exact hh.2.2⟩⟩ rfl rfl hsz rfl (lv_room hcat) hdg (by omega)
abbrev ri_5 : Room := { frames := 3, cells := 181, slots := 3900, locals := 60 }
def rowP (cA : Nat → ClassId) (B i : Nat) (G : Nat → va_E) : Prop := ∀ j, j < i → G (3 + 3 * j) = .inr (3, [.ref (B + (4 + 3 * j)), .int (-1)]) ∧ G (4 + 3 * j) = .inr (0, [.ref (B + (5 + 3 * j)), .int 0]) ∧ G (5 + 3 * j) = ari cA 60
def rowPost (cA : Nat → ClassId) (B : Nat) (F G : Nat → va_E) : Prop := G 1 = .inr (5, [.ref (B + 2), .int 0, .int 0]) ∧ (∃ f : Nat → Option Nat, G 2 = arq (cA 3) 60 f ∧ ∀ j, j < 60 → f j = some (B + (3 + 3 * j))) ∧ rowP cA B 60 G ∧ G 0 = F 0
set_option maxHeartbeats 4000000 in
set_option maxRecDepth 100000 in
theorem row_loop {p : Program} {l : Launch} {e : Env} {s : State} {m : MethodId} {args : Array Value} {below : List Frame} {meth : Method} {c : Code} {D : va_G} {cA : Nat → ClassId} {B : Nat} {F : Nat → va_E} (C : Cb p s m args meth c cX5_init 2 RX5 D cA B) : ∀ (t i : Nat) (G : Nat → va_E) (f : Nat → Option Nat) {H : Heap} {locs : List Loc} {ls : Array Slot}, i + t = 60 → HB D B s (3 + 3 * i) G H locs → G 1 = .inr (5, [.ref (B + 2), .int 0, .int 0]) → G 2 = arq (cA 3) 60 f → (∀ j, j < i → f j = some (B + (3 + 3 * j))) → rowP cA B i G → G 0 = F 0 → lv_has ls 2 [(1, .int (nI i)), (0, .ref (B + 1))] → W p l e ri_5 s m args below meth c H locs (1 + 3 * i) (60 + 64 * i) (MQ below (QB D cA B 183 (rowPost cA B F)) args s 181 3900 (fun q => B ≤ q)) (F0 m 25 ls []) := by
  obtain ⟨⟨hx, hb, hml, hown, hts⟩, hK, hN, hB, hr, hlocks, hin⟩ := id C
  intro t
  induction t with
  | zero =>
    intro i G f H locs ls hi hh h1 h2 hf hp h0 hl
    have hi : i = 60 := by omega
    subst hi
    refine lv_iload_n hx hb dX5_init_25 rfl (lv_at hl 0 rfl) ?_
    refine lv_bipush (v := (60 : Int32)) hx hb dX5_init_26 (by decide) ?_
    refine lv_icmp_ge (tgt := 50) hx hb dX5_init_28 (by decide) (fun c1 => ?_) (fun c1 => absurd (by decide) c1)
    exact b_ret hx hb hK hN hr hlocks hh ⟨h1, ⟨f, h2, hf⟩, hp, h0⟩ dX5_init_50
  | succ t ih =>
    intro i G f H locs ls hi hh h1 h2 hf hp h0 hl
    refine lv_iload_n hx hb dX5_init_25 rfl (lv_at hl 0 rfl) ?_
    refine lv_bipush (v := (60 : Int32)) hx hb dX5_init_26 (by decide) ?_
    refine lv_icmp_ge (tgt := 50) hx hb dX5_init_28 (by decide) (fun c1 => absurd c1 (nI_ge (a := i) (b := 60) (by omega) (by decide))) (fun c1 => ?_)
    refine lv_aload_n hx hb dX5_init_31 rfl (lv_at hl 1 rfl) ?_
    refine b_get (C := RX5) (T := TX5) (N := 3) (ci := 5) (sl := 0) hx hb hts hown hK hh inG5 rfl (by omega) h1 (by decide) LF_5_11 rfl dX5_init_32 ?_
    refine lv_iload_n hx hb dX5_init_35 rfl (lv_at hl 0 rfl) ?_
    refine b_new (ci := 3) (fs := df3) (N := 2) tyX3 hx hb hts hown hK hh inG3 tyX3_ok rfl LK_5_9 IS_3 IN_3 dfo3 (by show _ ≤ 181; omega) (by show _ ≤ 3900; omega) dX5_init_36 (fun H hh => ?_)
    obtain ⟨G1, e1⟩ : ∃ G1, G1 = va_up G (3 + 3 * i) (.inr (3, df3)) := ⟨_, rfl⟩
    rw [← e1] at hh
    have a1 : G1 (3 + 3 * i) = .inr (3, df3) := by rw [e1]; exact va_up_self _ _ _
    have a2 : ∀ q, q < 3 + 3 * i → G1 q = G q := fun q hq => by rw [e1]; exact va_up_ne _ _ (by omega)
    refine lv_dup hx hb dX5_init_39 rfl ?_
    refine c_init hh (inrun (rest := [.ref (B + (3 + 3 * i)), .int (nI i), .ref (B + 2)]) C hh (ci_3 (n := 3 + 3 * i + 1) (F := G1) (k := 3 + 3 * i) (by omega) a1) LI_5_24 IM_X3_init IN_3 CD_X3_init rfl HD_X3_init ⟨rfl, rfl, Nat.le_of_ble_eq_true rfl, Nat.le_of_ble_eq_true rfl⟩ rfl hl.1 rfl (Nat.le_of_ble_eq_true rfl) dX5_init_40 ⟨by show _ ≤ 181; omega, by show _ ≤ 3900; omega⟩) (fun G2 H locs hq hh => ?_)
    obtain ⟨b1, b2, b3, b4⟩ := hq
    have k2 : G2 2 = arq (cA 3) 60 f := (b4 2 (by omega)).trans ((a2 2 (by omega)).trans h2)
    refine b_aast (r := (RX3, TX3, 2)) (ka := 2) (kv := 3 + 3 * i) (ci := 3) (t0 := 3) hx hb hK hh (by omega) k2 rfl (by omega) b1 rfl (vp_in_nI (by omega) (by decide)) dX5_init_43 (fun H locs hh => ?_)
    rw [nI_clamp (by omega)] at hh
    obtain ⟨G3, e3⟩ : ∃ G3, G3 = va_up G2 2 (arq (cA 3) 60 (va_up f i (some (B + (3 + 3 * i))))) := ⟨_, rfl⟩
    rw [← e3] at hh
    have a3 : ∀ q, q ≠ 2 → G3 q = G2 q := fun q hq => by rw [e3]; exact va_up_ne _ _ hq
    have a4 : ∀ q, q < 3 + 3 * i → q ≠ 2 → G3 q = G q := fun q hq h2 => (a3 q h2).trans ((b4 q (by omega)).trans (a2 q hq))
    refine lv_iinc (v := nI (i + 1)) (lv' := [(1, .int (nI (i + 1))), (0, .ref (B + 1))]) hx hb dX5_init_44 hl (k := 0) rfl (nI_1 i) (by decide) rfl (fun ls hl => ?_)
    refine lv_goto (tgt := 25) hx hb dX5_init_47 (by decide) ?_
    refine W.widen (k := 1 + 3 * (i + 1)) (n := 60 + 64 * (i + 1)) (by omega) (by omega) ?_
    have hh : HB D B s (3 + 3 * (i + 1)) G3 H locs := hh
    refine ih (i + 1) G3 _ (by omega) hh ((a4 1 (by omega) (by omega)).trans h1) (by rw [e3]; exact va_up_self _ _ _) (fun j hj => ?_) (fun j hj => ?_) ((a4 0 (by omega) (by omega)).trans h0) hl
    · by_cases ej : j = i
      · subst ej; simp [va_up]
      · simp only [va_up, if_neg ej]; exact hf j (by omega)
    · by_cases ej : j = i
      · subst ej
        rw [show 3 + 3 * j + 1 = 4 + 3 * j by omega] at b1 b2 b3
        rw [show 4 + 3 * j + 1 = 5 + 3 * j by omega] at b2 b3
        exact ⟨(a3 _ (by omega)).trans b1, (a3 _ (by omega)).trans b2, (a3 _ (by omega)).trans b3⟩
      · obtain ⟨p1, p2, p3⟩ := hp j (by omega)
        exact ⟨(a4 _ (by omega) (by omega)).trans p1, (a4 _ (by omega) (by omega)).trans p2, (a4 _ (by omega) (by omega)).trans p3⟩
set_option maxHeartbeats 4000000 in
set_option maxRecDepth 100000 in
theorem ci_5 {l : Launch} {D : va_G} {cA : Nat → ClassId} {B : Nat} {F : Nat → va_E} (hF : F 1 = .inr (5, df5)) : Met l yX5_init (wsG yX5_init cX5_init 2 none) ri_5 (va_Pc [.ref (B + 1)] (IB D cA B 2 F)) (QB D cA B 183 (rowPost cA B F)) 181 3900 (fun q => B ≤ q) := by
  refine metB (by decide) rfl (Nat.le_of_ble_eq_true rfl) ?_
  intro p e s m args below meth c C ls hh hl
  have C : Cb p s m args meth c cX5_init 2 RX5 D cA B := C
  have hl : lv_has ls 2 [(0, .ref (B + (1)))] := hl
  obtain ⟨⟨hx, hb, hml, hown, hts⟩, hK, hN, hB, hr, hlocks, hin⟩ := id C
  have fr : ∀ i, i < 2 ∧ i ≠ 1 → F i = F i := fun _ _ => rfl
  refine lv_aload_n hx hb dX5_init_0 rfl (lv_at hl 0 rfl) ?_
  refine b_obj C LO_5 IO CO hl.1 (Nat.le_of_ble_eq_true rfl) (Nat.le_of_ble_eq_true rfl) dX5_init_1 ?_
  refine lv_aload_n hx hb dX5_init_4 rfl (lv_at hl 0 rfl) ?_
  refine lv_bipush (v := (60 : Int32)) hx hb dX5_init_5 (by decide) ?_
  refine b_newq (N := 60) (t0 := 3) hx hb hts hown hK hh LK_5_9 hN.2.2.1 rfl (by decide) (by decide) (by decide) (Nat.le_of_ble_eq_true rfl) (Nat.le_of_ble_eq_true rfl) dX5_init_7 (fun H hh => ?_)
  obtain ⟨G1, hG1⟩ : ∃ G, G = va_up F (2) (arq (cA 3) 60 (fun _ => none)) := ⟨_, rfl⟩
  have hh : HB D B s (3) (va_up F (2) (arq (cA 3) 60 (fun _ => none))) H [] := hh
  rw [← hG1] at hh
  have hF : G1 (1) = .inr (5, df5) := (congrFun hG1 _).trans ((va_up_ne _ _ (by omega)).trans hF)
  have fr : ∀ i, i < 2 ∧ i ≠ 1 → G1 i = F i := fun i hi => (congrFun hG1 _).trans ((va_up_ne _ _ (by omega)).trans (fr i hi))
  have g1 : G1 (2) = arq (cA 3) 60 (fun _ => none) := by rw [hG1]; exact va_up_self _ _ _
  refine b_put (Cn := RX5) (T := TX5) (N := 3) (ci := 5) (sl := 0) hx hb hts hown hK hh inG5 tyX5 tyX5_ok nmX5 rfl (by omega) hF (by decide) LF_5_11 hin rfl (tyX5_ok 0 (by decide)) (by first | rfl | decide) (by first | rfl | decide) (Nat.le_of_ble_eq_true rfl) dX5_init_10 (fun H locs hh => ?_)
  obtain ⟨G2, hG2⟩ : ∃ G, G = va_up G1 (1) (.inr (5, [.ref (B + (2)), .int 0, .int 0])) := ⟨_, rfl⟩
  have hh : HB D B s (3) (va_up G1 (1) (.inr (5, [.ref (B + (2)), .int 0, .int 0]))) H locs := hh
  rw [← hG2] at hh
  have fr : ∀ i, i < 2 ∧ i ≠ 1 → G2 i = F i := fun i hi => (congrFun hG2 _).trans ((va_up_ne _ _ (by omega)).trans (fr i hi))
  have g1 : G2 (2) = arq (cA 3) 60 (fun _ => none) := (congrFun hG2 _).trans ((va_up_ne _ _ (by omega)).trans g1)
  have hF : G2 (1) = .inr (5, [.ref (B + (2)), .int 0, .int 0]) := by rw [hG2]; exact va_up_self _ _ _
  refine lv_aload_n hx hb dX5_init_13 rfl (lv_at hl 0 rfl) ?_
  refine lv_iconst (v := (0 : Int32)) hx hb dX5_init_14 (by decide) ?_
  refine b_put (Cn := RX5) (T := TX5) (N := 3) (ci := 5) (sl := 1) hx hb hts hown hK hh inG5 tyX5 tyX5_ok nmX5 rfl (by omega) hF (by decide) LF_5_17 hin rfl (tyX5_ok 1 (by decide)) (by first | rfl | decide) (by first | rfl | decide) (Nat.le_of_ble_eq_true rfl) dX5_init_15 (fun H locs hh => ?_)
  obtain ⟨G3, hG3⟩ : ∃ G, G = va_up G2 (1) (.inr (5, [.ref (B + (2)), .int 0, .int 0])) := ⟨_, rfl⟩
  have hh : HB D B s (3) (va_up G2 (1) (.inr (5, [.ref (B + (2)), .int 0, .int 0]))) H locs := hh
  rw [← hG3] at hh
  have fr : ∀ i, i < 2 ∧ i ≠ 1 → G3 i = F i := fun i hi => (congrFun hG3 _).trans ((va_up_ne _ _ (by omega)).trans (fr i hi))
  have g1 : G3 (2) = arq (cA 3) 60 (fun _ => none) := (congrFun hG3 _).trans ((va_up_ne _ _ (by omega)).trans g1)
  have hF : G3 (1) = .inr (5, [.ref (B + (2)), .int 0, .int 0]) := by rw [hG3]; exact va_up_self _ _ _
  refine lv_aload_n hx hb dX5_init_18 rfl (lv_at hl 0 rfl) ?_
  refine lv_iconst (v := (0 : Int32)) hx hb dX5_init_19 (by decide) ?_
  refine b_put (Cn := RX5) (T := TX5) (N := 3) (ci := 5) (sl := 2) hx hb hts hown hK hh inG5 tyX5 tyX5_ok nmX5 rfl (by omega) hF (by decide) LF_5_21 hin rfl (tyX5_ok 2 (by decide)) (by first | rfl | decide) (by first | rfl | decide) (Nat.le_of_ble_eq_true rfl) dX5_init_20 (fun H locs hh => ?_)
  obtain ⟨G4, hG4⟩ : ∃ G, G = va_up G3 (1) (.inr (5, [.ref (B + (2)), .int 0, .int 0])) := ⟨_, rfl⟩
  have hh : HB D B s (3) (va_up G3 (1) (.inr (5, [.ref (B + (2)), .int 0, .int 0]))) H locs := hh
  rw [← hG4] at hh
  have fr : ∀ i, i < 2 ∧ i ≠ 1 → G4 i = F i := fun i hi => (congrFun hG4 _).trans ((va_up_ne _ _ (by omega)).trans (fr i hi))
  have g1 : G4 (2) = arq (cA 3) 60 (fun _ => none) := (congrFun hG4 _).trans ((va_up_ne _ _ (by omega)).trans g1)
  have hF : G4 (1) = .inr (5, [.ref (B + (2)), .int 0, .int 0]) := by rw [hG4]; exact va_up_self _ _ _
  refine lv_iconst (v := (0 : Int32)) hx hb dX5_init_23 (by decide) ?_
  refine lv_istore_n (lv' := [(1, .int 0), (0, .ref (B + (1)))]) hx hb dX5_init_24 rfl hl (by decide) rfl (fun ls hl => ?_)
  exact row_loop C 60 0 _ _ (by omega) hh hF g1 (fun j hj => absurd hj (Nat.not_lt_zero j)) (fun j hj => absurd hj (Nat.not_lt_zero j)) (fr 0 (by omega)) hl
