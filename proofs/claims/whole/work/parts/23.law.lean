def bl {β : Type} (x : Option (Int32 × Mem × (Nat → Int64))) (k : Int32 → Mem → (Nat → Int64) → Option β) : Option β := match x with
  | some r => k r.1 r.2.1 r.2.2
  | none => none
theorem bl_e {β : Type} {x : Option (Int32 × Mem × (Nat → Int64))} {k : Int32 → Mem → (Nat → Int64) → Option β} {r : β} (h : bl x k = some r) : ∃ a b d, x = some (a, b, d) ∧ k a b d = some r := by
  cases x with
  | none => cases h
  | some q => exact ⟨q.1, q.2.1, q.2.2, rfl, h⟩
def bz (x : Int32) : Int32 := if x = 0 then 0 else 1
theorem LC_L_127 : Cond.constantLong RL 127 4294967295 ∈ Gw := gwm 1214 (by decide +kernel) (by decide +kernel)
section LL
variable {p : Program} {l : Launch} {e : Env} {R : Room} {s : State} {m : MethodId} {args : Array Value} {below : List Frame} {meth : Method} {c : Code} {H : Heap} {locs : List Loc} {cells slots : Nat} {Q : State → Prop} {cc : ByteArray} {nL : Nat} {own : String} {rt : Option FieldType} {D : va_G} {cA : Nat → ClassId} {ad : Nat → Nat → Nat} {A : Nat → Prop} {o : Nat → Int64} {σ : Mem} {pc : Nat} {ls : Array Slot} {rest : List Value} {q : List (Nat × Nat × Nat × Nat)}
theorem w_call {y : MethodName} {bytes : ByteArray} {maxL n idx : Nat} {rm : Room} {As st : List Value} {k : Int32} {σ1 : Mem} {o1 : Nat → Int64} (C : Cx p s m args meth c cc nL RL rt D cA ad A o) (hX : XW s) (hZ : ZU A s s.heap) (hh : HH D cA ad A o s σ H locs)
    (hM : Met l y (wsC y bytes maxL (some .int) q) rm (va_Pc As (IX D cA ad A o σ)) (QL D cA ad A (k, σ1, o1)) 1 6 A) (hL : Cond.methodLink RL idx y ∈ Gw) (hI : Cond.static y ∈ Gw) (hyc : y.cls = RL) (hCd : Cond.codeWith y bytes maxL (some .int) q ∈ Gw)
    (hd : y.cls ≠ "java/lang/invoke/MethodHandle" ∧ y.cls ≠ "java/lang/invoke/VarHandle" ∧ (parseMethodDescriptor y.desc).map (fun d => d.parameters.length) = some n)
    (hrm : rm.cells = 1 ∧ rm.slots = 6 ∧ rm.frames + 1 ≤ R.frames ∧ 8 + (maxL + 11) + rm.locals ≤ R.locals)
    (hn : As.length = n) (hsz : ls.size = nL) (hst : st = As.reverse ++ rest) (hcat : (rest.map fun v => v.category).sum ≤ 8) (hdg : decode cc pc = .ok (.invokestatic idx, 3)) (hf : cells + 1 ≤ R.cells ∧ slots + 6 ≤ R.slots)
    (kk : ∀ (H1 : Heap) (locs1 : List Loc), HH D cA ad A o1 s σ1 H1 locs1 → W p l e R s m args below meth c H1 locs1 (cells + 1) (slots + 6) Q (F0 m (pc + 3) ls (.int k :: rest))) : W p l e R s m args below meth c H locs cells slots Q (F0 m pc ls st) := by
  obtain ⟨hS, hK, hN, hD, hr, hlocks⟩ := C
  have hT : GoodIn Gw (va_wsS RL idx y (wsC y bytes maxL (some .int) q)) := by
    intro w hw
    have : w ∈ Gw := by
      simp only [va_wsS, wsC, List.cons_append, List.nil_append, List.mem_cons] at hw
      rcases hw with rfl | rfl | rfl | rfl | hw
      · exact hL
      · exact hI
      · rw [hyc]; exact IN_L
      · exact hCd
      · exact hw
    exact Gw_good w this
  refine va_calli (vx_runSW (g := F0 m pc ls st) hS hM (vx_cwSW n hS.2.2.2.2 hT rfl hrm.1 hrm.2.1 hd hrm.2.2) ⟨IX_blind, fun U hU hW => ⟨rfl, ⟨by rw [hU]; exact hh.1, va_K.moved hW.alike hK, hN.moved hW⟩, hX.moved hW, hZ.at hh.2 hU hW⟩⟩ rfl hn hsz hst (lv_room hcat) hdg hf) hh.2 (fun q _ h => h) (fun q h => h) (fun r u t H1 locs1 ht hvm hw hB hz1 hk1 hS1 => ?_)
  cases hw
  exact kk H1 locs1 ⟨by rw [← ht]; exact hB.1, hS1⟩
theorem rd_arg {b L i a : Nat} {xs : Nat → Int32} {nc : Int} (hx : p.tables.exec = Jvm.exec) (hb : c.code = cc) (hX : va_X b L xs s s.heap) (hbl : b < s.heap.size) (hbA : ¬ A b) (hS : va_S A s.heap H locs) (h0 : ls[0]? = some (.val (.ref b))) (h4 : ls[4]? = some (.val (.int (nI i)))) (ha : i + a < L) (hL : L < 2 ^ 31) (hc : Int32.ofInt nc = nI a)
    (d0 : decode cc pc = .ok (.aload_n 0, 1)) (d1 : decode cc (pc + 1) = .ok (.iload 4, 2)) (d3 : decode cc (pc + 3) = .ok (.iconst nc, 1)) (d4 : decode cc (pc + 4) = .ok (.iadd, 1)) (d5 : decode cc (pc + 5) = .ok (.iaload, 1))
    (kk : W p l e R s m args below meth c H locs cells slots Q (F0 m (pc + 6) ls (.int (xs (i + a)) :: rest))) : W p l e R s m args below meth c H locs cells slots Q (F0 m pc ls rest) := by
  refine lv_aload_n hx hb d0 rfl h0 ?_
  refine lv_iload hx hb d1 h4 ?_
  refine lv_iconst hx hb d3 hc ?_
  refine lv_iadd hx hb d4 ?_
  rw [nI_add]
  refine va_sld hx hb hX hbl hbA hS (vp_in_nI ha hL) d5 ?_
  rw [nI_clamp (by omega)]
  exact kk
theorem l_out (C : Cx p s m args meth c cc nL own rt D cA ad A o) (hh : HH D cA ad A o s σ H locs) (hdg : decode cc pc = .ok (.laload, 1)) (kk : W p l e R s m args below meth c H locs cells slots Q (F0 m (pc + 1) ls (.long (o 0) :: rest))) : W p l e R s m args below meth c H locs cells slots Q (F0 m pc ls (.int 0 :: .ref (ad 900 0) :: rest)) := va_lald C.1.1 C.1.2.1 C.2.1 hh.1 37 5 wA_900 rfl (vin_e (by decide)) hdg kk
end LL
def lc_0 (a1 a2 a3 a4 : Int32) (σ : Mem) (o : Nat → Int64) : Option (Mem × (Nat → Int64)) := bl (f_L_pool a1 a2 a3 a4 σ o) (fun k1 s2 o3 => bv (f_X8_pool a1 a2 a3 a4 s2) (fun s5 => bn (f_X8_thrown s5) (fun r9 s7 => if r9 = k1 then some (s7, o3) else none)))
set_option maxHeartbeats 4000000 in
set_option maxRecDepth 100000 in
theorem lw_case_0 {p : Program} {l : Launch} {e : Env} {s : State} {m : MethodId} {args : Array Value} {below : List Frame} {meth : Method} {c : Code} {H : Heap} {locs : List Loc} {cells slots : Nat} {Q : State → Prop} {D : va_G} {cA : Nat → ClassId} {ad : Nat → Nat → Nat} {A : Nat → Prop} {o : Nat → Int64} {σ : Mem} {ls : Array Slot} {b L i : Nat} {xs : Nat → Int32} {r : Mem × (Nat → Int64)} {rt : Option FieldType} (hl0 : l.stackTraces = false) (CA : ∀ o, Cx p s m args meth c cL_law 7 RL rt D cA ad A o) (hDa : ∀ σ o, va_D A (wW cA ad σ o)) (hXW : XW s) (hZU : ZU A s s.heap) (hX : va_X b L xs s s.heap) (hbl : b < s.heap.size) (hbA : ¬ A b) (hL31 : L < 2 ^ 31) (hi : i + 5 ≤ L) (hcs : cells + 1 ≤ 600096 ∧ slots + 6 ≤ 7301386) (h : lc_0 (xs (i + 1)) (xs (i + 2)) (xs (i + 3)) (xs (i + 4)) σ o = some r) (hh : HH D cA ad A o s σ H locs) (hl : lv_has ls 7 [(0, .ref b), (1, .ref (ad 799 0)), (2, .ref (ad 899 0)), (3, .ref (ad 900 0)), (4, .int (nI i))])
    (next : ∀ (H : Heap) (locs : List Loc) {ls : Array Slot}, HH D cA ad A r.2 s r.1 H locs → lv_has ls 7 [(0, .ref b), (1, .ref (ad 799 0)), (2, .ref (ad 899 0)), (3, .ref (ad 900 0)), (4, .int (nI i))] → W p l e room_1 s m args below meth c H locs (cells + 1) (slots + 6) Q (F0 m 1054 ls [])) : W p l e room_1 s m args below meth c H locs cells slots Q (F0 m 128 ls []) := by
  obtain ⟨⟨hx, hb, hml, hown, hts⟩, -⟩ := CA o
  unfold lc_0 at h
  refine lv_aload_n hx hb dL_law_128 rfl (lv_at hl 1 rfl) ?_
  refine rd_arg (i := i) (a := 1) hx hb hX hbl hbA hh.2 (lv_at hl 0 rfl) (lv_at hl 4 rfl) (by omega) hL31 (by decide) dL_law_129 dL_law_130 dL_law_132 dL_law_133 dL_law_134 ?_
  refine rd_arg (i := i) (a := 2) hx hb hX hbl hbA hh.2 (lv_at hl 0 rfl) (lv_at hl 4 rfl) (by omega) hL31 (by decide) dL_law_135 dL_law_136 dL_law_138 dL_law_139 dL_law_140 ?_
  refine rd_arg (i := i) (a := 3) hx hb hX hbl hbA hh.2 (lv_at hl 0 rfl) (lv_at hl 4 rfl) (by omega) hL31 (by decide) dL_law_141 dL_law_142 dL_law_144 dL_law_145 dL_law_146 ?_
  refine rd_arg (i := i) (a := 4) hx hb hX hbl hbA hh.2 (lv_at hl 0 rfl) (lv_at hl 4 rfl) (by omega) hL31 (by decide) dL_law_147 dL_law_148 dL_law_150 dL_law_151 dL_law_152 ?_
  obtain ⟨k1, s2, o3, e4, h⟩ := bl_e h
  refine w_call (rest := []) (CA o) hXW hZU hh (c_L_pool hl0 (fun σ => hDa σ o) (xs (i + 1)) (xs (i + 2)) (xs (i + 3)) (xs (i + 4)) σ e4) LM_L_72 ST_L_pool rfl CD_L_pool HD_L_pool ⟨rfl, rfl, (Nat.le_of_ble_eq_true rfl), (Nat.le_of_ble_eq_true rfl)⟩ rfl hl.1 rfl (Nat.le_of_ble_eq_true rfl) dL_law_153 ⟨by show _ ≤ 600096; omega, by show _ ≤ 7301386; omega⟩ (fun H locs hh => ?_)
  refine lv_istore (lv' := [(5, .int k1), (0, .ref b), (1, .ref (ad 799 0)), (2, .ref (ad 899 0)), (3, .ref (ad 900 0)), (4, .int (nI i))]) hx hb dL_law_156 hl (by decide) rfl (fun ls hl => ?_)
  refine lv_aload_n hx hb dL_law_158 rfl (lv_at hl 3 rfl) ?_
  refine rd_arg (i := i) (a := 1) hx hb hX hbl hbA hh.2 (lv_at hl 1 rfl) (lv_at hl 5 rfl) (by omega) hL31 (by decide) dL_law_159 dL_law_160 dL_law_162 dL_law_163 dL_law_164 ?_
  refine rd_arg (i := i) (a := 2) hx hb hX hbl hbA hh.2 (lv_at hl 1 rfl) (lv_at hl 5 rfl) (by omega) hL31 (by decide) dL_law_165 dL_law_166 dL_law_168 dL_law_169 dL_law_170 ?_
  refine rd_arg (i := i) (a := 3) hx hb hX hbl hbA hh.2 (lv_at hl 1 rfl) (lv_at hl 5 rfl) (by omega) hL31 (by decide) dL_law_171 dL_law_172 dL_law_174 dL_law_175 dL_law_176 ?_
  refine rd_arg (i := i) (a := 4) hx hb hX hbl hbA hh.2 (lv_at hl 1 rfl) (lv_at hl 5 rfl) (by omega) hL31 (by decide) dL_law_177 dL_law_178 dL_law_180 dL_law_181 dL_law_182 ?_
  obtain ⟨s5, e6, h⟩ := bv_e h
  refine c_void hh (vrun (rest := []) (CA o3) hh (c_X8_pool (fun σ => hDa σ o3) (xs (i + 1)) (xs (i + 2)) (xs (i + 3)) (xs (i + 4)) s2 e6) LM_L_77 IM_X8_pool SL_X8_pool IN_8 CD_X8_pool HD_X8_pool ⟨rfl, rfl, (Nat.le_of_ble_eq_true rfl), (Nat.le_of_ble_eq_true rfl)⟩ (rv_8 (CA o3) hh) rfl hl.1 rfl (Nat.le_of_ble_eq_true rfl) dL_law_183 ⟨by show _ ≤ 600096; omega, by show _ ≤ 7301386; omega⟩) (fun H locs hh => ?_)
  refine lv_aload_n hx hb dL_law_186 rfl (lv_at hl 3 rfl) ?_
  obtain ⟨r9, s7, e8, h⟩ := bn_e h
  refine c_int hh (vrun (rest := []) (CA o3) hh (c_X8_thrown (fun σ => hDa σ o3) s5 e8) LM_L_78 IM_X8_thrown SL_X8_thrown IN_8 CD_X8_thrown HD_X8_thrown ⟨rfl, rfl, (Nat.le_of_ble_eq_true rfl), (Nat.le_of_ble_eq_true rfl)⟩ (rv_8 (CA o3) hh) rfl hl.1 rfl (Nat.le_of_ble_eq_true rfl) dL_law_187 ⟨by show _ ≤ 600096; omega, by show _ ≤ 7301386; omega⟩) (fun H locs hh => ?_)
  refine lv_iload hx hb dL_law_190 (lv_at hl 0 rfl) ?_
  refine lv_icmp_eq (tgt := 197) hx hb dL_law_192 (by decide) (fun c10 => ?_) (fun c10 => ?_)
  · rw [if_pos c10] at h
    refine lv_goto (tgt := 1054) hx hb dL_law_197 (by decide) ?_
    cases h
    exact next H locs hh (lv_sub hl [1, 2, 3, 4, 5] rfl)
  · rw [if_neg c10] at h; cases h
def lc_1 (a1 a2 a3 a4 : Int32) (σ : Mem) (o : Nat → Int64) : Option (Mem × (Nat → Int64)) := bl (f_L_join a1 a2 σ o) (fun k1 s2 o3 => bv (f_X8_join a1 a2 s2) (fun s5 => bn (f_X8_thrown s5) (fun r9 s7 => if r9 = k1 then some (s7, o3) else none)))
set_option maxHeartbeats 4000000 in
set_option maxRecDepth 100000 in
theorem lw_case_1 {p : Program} {l : Launch} {e : Env} {s : State} {m : MethodId} {args : Array Value} {below : List Frame} {meth : Method} {c : Code} {H : Heap} {locs : List Loc} {cells slots : Nat} {Q : State → Prop} {D : va_G} {cA : Nat → ClassId} {ad : Nat → Nat → Nat} {A : Nat → Prop} {o : Nat → Int64} {σ : Mem} {ls : Array Slot} {b L i : Nat} {xs : Nat → Int32} {r : Mem × (Nat → Int64)} {rt : Option FieldType} (hl0 : l.stackTraces = false) (CA : ∀ o, Cx p s m args meth c cL_law 7 RL rt D cA ad A o) (hDa : ∀ σ o, va_D A (wW cA ad σ o)) (hXW : XW s) (hZU : ZU A s s.heap) (hX : va_X b L xs s s.heap) (hbl : b < s.heap.size) (hbA : ¬ A b) (hL31 : L < 2 ^ 31) (hi : i + 5 ≤ L) (hcs : cells + 1 ≤ 600096 ∧ slots + 6 ≤ 7301386) (h : lc_1 (xs (i + 1)) (xs (i + 2)) (xs (i + 3)) (xs (i + 4)) σ o = some r) (hh : HH D cA ad A o s σ H locs) (hl : lv_has ls 7 [(0, .ref b), (1, .ref (ad 799 0)), (2, .ref (ad 899 0)), (3, .ref (ad 900 0)), (4, .int (nI i))])
    (next : ∀ (H : Heap) (locs : List Loc) {ls : Array Slot}, HH D cA ad A r.2 s r.1 H locs → lv_has ls 7 [(0, .ref b), (1, .ref (ad 799 0)), (2, .ref (ad 899 0)), (3, .ref (ad 900 0)), (4, .int (nI i))] → W p l e room_1 s m args below meth c H locs (cells + 1) (slots + 6) Q (F0 m 1054 ls [])) : W p l e room_1 s m args below meth c H locs cells slots Q (F0 m 200 ls []) := by
  obtain ⟨⟨hx, hb, hml, hown, hts⟩, -⟩ := CA o
  unfold lc_1 at h
  refine lv_aload_n hx hb dL_law_200 rfl (lv_at hl 1 rfl) ?_
  refine rd_arg (i := i) (a := 1) hx hb hX hbl hbA hh.2 (lv_at hl 0 rfl) (lv_at hl 4 rfl) (by omega) hL31 (by decide) dL_law_201 dL_law_202 dL_law_204 dL_law_205 dL_law_206 ?_
  refine rd_arg (i := i) (a := 2) hx hb hX hbl hbA hh.2 (lv_at hl 0 rfl) (lv_at hl 4 rfl) (by omega) hL31 (by decide) dL_law_207 dL_law_208 dL_law_210 dL_law_211 dL_law_212 ?_
  obtain ⟨k1, s2, o3, e4, h⟩ := bl_e h
  refine w_call (rest := []) (CA o) hXW hZU hh (c_L_join hl0 (fun σ => hDa σ o) (xs (i + 1)) (xs (i + 2)) σ e4) LM_L_82 ST_L_join rfl CD_L_join HD_L_join ⟨rfl, rfl, (Nat.le_of_ble_eq_true rfl), (Nat.le_of_ble_eq_true rfl)⟩ rfl hl.1 rfl (Nat.le_of_ble_eq_true rfl) dL_law_213 ⟨by show _ ≤ 600096; omega, by show _ ≤ 7301386; omega⟩ (fun H locs hh => ?_)
  refine lv_istore (lv' := [(5, .int k1), (0, .ref b), (1, .ref (ad 799 0)), (2, .ref (ad 899 0)), (3, .ref (ad 900 0)), (4, .int (nI i))]) hx hb dL_law_216 hl (by decide) rfl (fun ls hl => ?_)
  refine lv_aload_n hx hb dL_law_218 rfl (lv_at hl 3 rfl) ?_
  refine rd_arg (i := i) (a := 1) hx hb hX hbl hbA hh.2 (lv_at hl 1 rfl) (lv_at hl 5 rfl) (by omega) hL31 (by decide) dL_law_219 dL_law_220 dL_law_222 dL_law_223 dL_law_224 ?_
  refine rd_arg (i := i) (a := 2) hx hb hX hbl hbA hh.2 (lv_at hl 1 rfl) (lv_at hl 5 rfl) (by omega) hL31 (by decide) dL_law_225 dL_law_226 dL_law_228 dL_law_229 dL_law_230 ?_
  obtain ⟨s5, e6, h⟩ := bv_e h
  refine c_void hh (vrun (rest := []) (CA o3) hh (c_X8_join (fun σ => hDa σ o3) (xs (i + 1)) (xs (i + 2)) s2 e6) LM_L_85 IM_X8_join SL_X8_join IN_8 CD_X8_join HD_X8_join ⟨rfl, rfl, (Nat.le_of_ble_eq_true rfl), (Nat.le_of_ble_eq_true rfl)⟩ (rv_8 (CA o3) hh) rfl hl.1 rfl (Nat.le_of_ble_eq_true rfl) dL_law_231 ⟨by show _ ≤ 600096; omega, by show _ ≤ 7301386; omega⟩) (fun H locs hh => ?_)
  refine lv_aload_n hx hb dL_law_234 rfl (lv_at hl 3 rfl) ?_
  obtain ⟨r9, s7, e8, h⟩ := bn_e h
  refine c_int hh (vrun (rest := []) (CA o3) hh (c_X8_thrown (fun σ => hDa σ o3) s5 e8) LM_L_78 IM_X8_thrown SL_X8_thrown IN_8 CD_X8_thrown HD_X8_thrown ⟨rfl, rfl, (Nat.le_of_ble_eq_true rfl), (Nat.le_of_ble_eq_true rfl)⟩ (rv_8 (CA o3) hh) rfl hl.1 rfl (Nat.le_of_ble_eq_true rfl) dL_law_235 ⟨by show _ ≤ 600096; omega, by show _ ≤ 7301386; omega⟩) (fun H locs hh => ?_)
  refine lv_iload hx hb dL_law_238 (lv_at hl 0 rfl) ?_
  refine lv_icmp_eq (tgt := 245) hx hb dL_law_240 (by decide) (fun c10 => ?_) (fun c10 => ?_)
  · rw [if_pos c10] at h
    refine lv_goto (tgt := 1054) hx hb dL_law_245 (by decide) ?_
    cases h
    exact next H locs hh (lv_sub hl [1, 2, 3, 4, 5] rfl)
  · rw [if_neg c10] at h; cases h
def lc_2 (a1 a2 a3 a4 : Int32) (σ : Mem) (o : Nat → Int64) : Option (Mem × (Nat → Int64)) := bl (f_L_off a1 σ o) (fun k1 s2 o3 => bv (f_X8_off a1 s2) (fun s5 => bn (f_X8_thrown s5) (fun r9 s7 => if r9 = k1 then some (s7, o3) else none)))
set_option maxHeartbeats 4000000 in
set_option maxRecDepth 100000 in
theorem lw_case_2 {p : Program} {l : Launch} {e : Env} {s : State} {m : MethodId} {args : Array Value} {below : List Frame} {meth : Method} {c : Code} {H : Heap} {locs : List Loc} {cells slots : Nat} {Q : State → Prop} {D : va_G} {cA : Nat → ClassId} {ad : Nat → Nat → Nat} {A : Nat → Prop} {o : Nat → Int64} {σ : Mem} {ls : Array Slot} {b L i : Nat} {xs : Nat → Int32} {r : Mem × (Nat → Int64)} {rt : Option FieldType} (hl0 : l.stackTraces = false) (CA : ∀ o, Cx p s m args meth c cL_law 7 RL rt D cA ad A o) (hDa : ∀ σ o, va_D A (wW cA ad σ o)) (hXW : XW s) (hZU : ZU A s s.heap) (hX : va_X b L xs s s.heap) (hbl : b < s.heap.size) (hbA : ¬ A b) (hL31 : L < 2 ^ 31) (hi : i + 5 ≤ L) (hcs : cells + 1 ≤ 600096 ∧ slots + 6 ≤ 7301386) (h : lc_2 (xs (i + 1)) (xs (i + 2)) (xs (i + 3)) (xs (i + 4)) σ o = some r) (hh : HH D cA ad A o s σ H locs) (hl : lv_has ls 7 [(0, .ref b), (1, .ref (ad 799 0)), (2, .ref (ad 899 0)), (3, .ref (ad 900 0)), (4, .int (nI i))])
    (next : ∀ (H : Heap) (locs : List Loc) {ls : Array Slot}, HH D cA ad A r.2 s r.1 H locs → lv_has ls 7 [(0, .ref b), (1, .ref (ad 799 0)), (2, .ref (ad 899 0)), (3, .ref (ad 900 0)), (4, .int (nI i))] → W p l e room_1 s m args below meth c H locs (cells + 1) (slots + 6) Q (F0 m 1054 ls [])) : W p l e room_1 s m args below meth c H locs cells slots Q (F0 m 248 ls []) := by
  obtain ⟨⟨hx, hb, hml, hown, hts⟩, -⟩ := CA o
  unfold lc_2 at h
  refine lv_aload_n hx hb dL_law_248 rfl (lv_at hl 1 rfl) ?_
  refine rd_arg (i := i) (a := 1) hx hb hX hbl hbA hh.2 (lv_at hl 0 rfl) (lv_at hl 4 rfl) (by omega) hL31 (by decide) dL_law_249 dL_law_250 dL_law_252 dL_law_253 dL_law_254 ?_
  obtain ⟨k1, s2, o3, e4, h⟩ := bl_e h
  refine w_call (rest := []) (CA o) hXW hZU hh (c_L_off hl0 (fun σ => hDa σ o) (xs (i + 1)) σ e4) LM_L_86 ST_L_off rfl CD_L_off HD_L_off ⟨rfl, rfl, (Nat.le_of_ble_eq_true rfl), (Nat.le_of_ble_eq_true rfl)⟩ rfl hl.1 rfl (Nat.le_of_ble_eq_true rfl) dL_law_255 ⟨by show _ ≤ 600096; omega, by show _ ≤ 7301386; omega⟩ (fun H locs hh => ?_)
  refine lv_istore (lv' := [(5, .int k1), (0, .ref b), (1, .ref (ad 799 0)), (2, .ref (ad 899 0)), (3, .ref (ad 900 0)), (4, .int (nI i))]) hx hb dL_law_258 hl (by decide) rfl (fun ls hl => ?_)
  refine lv_aload_n hx hb dL_law_260 rfl (lv_at hl 3 rfl) ?_
  refine rd_arg (i := i) (a := 1) hx hb hX hbl hbA hh.2 (lv_at hl 1 rfl) (lv_at hl 5 rfl) (by omega) hL31 (by decide) dL_law_261 dL_law_262 dL_law_264 dL_law_265 dL_law_266 ?_
  obtain ⟨s5, e6, h⟩ := bv_e h
  refine c_void hh (vrun (rest := []) (CA o3) hh (c_X8_off (fun σ => hDa σ o3) (xs (i + 1)) s2 e6) LM_L_89 IM_X8_off SL_X8_off IN_8 CD_X8_off HD_X8_off ⟨rfl, rfl, (Nat.le_of_ble_eq_true rfl), (Nat.le_of_ble_eq_true rfl)⟩ (rv_8 (CA o3) hh) rfl hl.1 rfl (Nat.le_of_ble_eq_true rfl) dL_law_267 ⟨by show _ ≤ 600096; omega, by show _ ≤ 7301386; omega⟩) (fun H locs hh => ?_)
  refine lv_aload_n hx hb dL_law_270 rfl (lv_at hl 3 rfl) ?_
  obtain ⟨r9, s7, e8, h⟩ := bn_e h
  refine c_int hh (vrun (rest := []) (CA o3) hh (c_X8_thrown (fun σ => hDa σ o3) s5 e8) LM_L_78 IM_X8_thrown SL_X8_thrown IN_8 CD_X8_thrown HD_X8_thrown ⟨rfl, rfl, (Nat.le_of_ble_eq_true rfl), (Nat.le_of_ble_eq_true rfl)⟩ (rv_8 (CA o3) hh) rfl hl.1 rfl (Nat.le_of_ble_eq_true rfl) dL_law_271 ⟨by show _ ≤ 600096; omega, by show _ ≤ 7301386; omega⟩) (fun H locs hh => ?_)
  refine lv_iload hx hb dL_law_274 (lv_at hl 0 rfl) ?_
  refine lv_icmp_eq (tgt := 281) hx hb dL_law_276 (by decide) (fun c10 => ?_) (fun c10 => ?_)
  · rw [if_pos c10] at h
    refine lv_goto (tgt := 1054) hx hb dL_law_281 (by decide) ?_
    cases h
    exact next H locs hh (lv_sub hl [1, 2, 3, 4, 5] rfl)
  · rw [if_neg c10] at h; cases h
def lc_3 (a1 a2 a3 a4 : Int32) (σ : Mem) (o : Nat → Int64) : Option (Mem × (Nat → Int64)) := bl (f_L_leave a1 σ o) (fun k1 s2 o3 => bv (f_X8_leave a1 s2) (fun s5 => bn (f_X8_thrown s5) (fun r9 s7 => if r9 = k1 then some (s7, o3) else none)))
set_option maxHeartbeats 4000000 in
set_option maxRecDepth 100000 in
theorem lw_case_3 {p : Program} {l : Launch} {e : Env} {s : State} {m : MethodId} {args : Array Value} {below : List Frame} {meth : Method} {c : Code} {H : Heap} {locs : List Loc} {cells slots : Nat} {Q : State → Prop} {D : va_G} {cA : Nat → ClassId} {ad : Nat → Nat → Nat} {A : Nat → Prop} {o : Nat → Int64} {σ : Mem} {ls : Array Slot} {b L i : Nat} {xs : Nat → Int32} {r : Mem × (Nat → Int64)} {rt : Option FieldType} (hl0 : l.stackTraces = false) (CA : ∀ o, Cx p s m args meth c cL_law 7 RL rt D cA ad A o) (hDa : ∀ σ o, va_D A (wW cA ad σ o)) (hXW : XW s) (hZU : ZU A s s.heap) (hX : va_X b L xs s s.heap) (hbl : b < s.heap.size) (hbA : ¬ A b) (hL31 : L < 2 ^ 31) (hi : i + 5 ≤ L) (hcs : cells + 1 ≤ 600096 ∧ slots + 6 ≤ 7301386) (h : lc_3 (xs (i + 1)) (xs (i + 2)) (xs (i + 3)) (xs (i + 4)) σ o = some r) (hh : HH D cA ad A o s σ H locs) (hl : lv_has ls 7 [(0, .ref b), (1, .ref (ad 799 0)), (2, .ref (ad 899 0)), (3, .ref (ad 900 0)), (4, .int (nI i))])
    (next : ∀ (H : Heap) (locs : List Loc) {ls : Array Slot}, HH D cA ad A r.2 s r.1 H locs → lv_has ls 7 [(0, .ref b), (1, .ref (ad 799 0)), (2, .ref (ad 899 0)), (3, .ref (ad 900 0)), (4, .int (nI i))] → W p l e room_1 s m args below meth c H locs (cells + 1) (slots + 6) Q (F0 m 1054 ls [])) : W p l e room_1 s m args below meth c H locs cells slots Q (F0 m 284 ls []) := by
  obtain ⟨⟨hx, hb, hml, hown, hts⟩, -⟩ := CA o
  unfold lc_3 at h
  refine lv_aload_n hx hb dL_law_284 rfl (lv_at hl 1 rfl) ?_
  refine rd_arg (i := i) (a := 1) hx hb hX hbl hbA hh.2 (lv_at hl 0 rfl) (lv_at hl 4 rfl) (by omega) hL31 (by decide) dL_law_285 dL_law_286 dL_law_288 dL_law_289 dL_law_290 ?_
  obtain ⟨k1, s2, o3, e4, h⟩ := bl_e h
  refine w_call (rest := []) (CA o) hXW hZU hh (c_L_leave hl0 (fun σ => hDa σ o) (xs (i + 1)) σ e4) LM_L_90 ST_L_leave rfl CD_L_leave HD_L_leave ⟨rfl, rfl, (Nat.le_of_ble_eq_true rfl), (Nat.le_of_ble_eq_true rfl)⟩ rfl hl.1 rfl (Nat.le_of_ble_eq_true rfl) dL_law_291 ⟨by show _ ≤ 600096; omega, by show _ ≤ 7301386; omega⟩ (fun H locs hh => ?_)
  refine lv_istore (lv' := [(5, .int k1), (0, .ref b), (1, .ref (ad 799 0)), (2, .ref (ad 899 0)), (3, .ref (ad 900 0)), (4, .int (nI i))]) hx hb dL_law_294 hl (by decide) rfl (fun ls hl => ?_)
  refine lv_aload_n hx hb dL_law_296 rfl (lv_at hl 3 rfl) ?_
  refine rd_arg (i := i) (a := 1) hx hb hX hbl hbA hh.2 (lv_at hl 1 rfl) (lv_at hl 5 rfl) (by omega) hL31 (by decide) dL_law_297 dL_law_298 dL_law_300 dL_law_301 dL_law_302 ?_
  obtain ⟨s5, e6, h⟩ := bv_e h
  refine c_void hh (vrun (rest := []) (CA o3) hh (c_X8_leave (fun σ => hDa σ o3) (xs (i + 1)) s2 e6) LM_L_92 IM_X8_leave SL_X8_leave IN_8 CD_X8_leave HD_X8_leave ⟨rfl, rfl, (Nat.le_of_ble_eq_true rfl), (Nat.le_of_ble_eq_true rfl)⟩ (rv_8 (CA o3) hh) rfl hl.1 rfl (Nat.le_of_ble_eq_true rfl) dL_law_303 ⟨by show _ ≤ 600096; omega, by show _ ≤ 7301386; omega⟩) (fun H locs hh => ?_)
  refine lv_aload_n hx hb dL_law_306 rfl (lv_at hl 3 rfl) ?_
  obtain ⟨r9, s7, e8, h⟩ := bn_e h
  refine c_int hh (vrun (rest := []) (CA o3) hh (c_X8_thrown (fun σ => hDa σ o3) s5 e8) LM_L_78 IM_X8_thrown SL_X8_thrown IN_8 CD_X8_thrown HD_X8_thrown ⟨rfl, rfl, (Nat.le_of_ble_eq_true rfl), (Nat.le_of_ble_eq_true rfl)⟩ (rv_8 (CA o3) hh) rfl hl.1 rfl (Nat.le_of_ble_eq_true rfl) dL_law_307 ⟨by show _ ≤ 600096; omega, by show _ ≤ 7301386; omega⟩) (fun H locs hh => ?_)
  refine lv_iload hx hb dL_law_310 (lv_at hl 0 rfl) ?_
  refine lv_icmp_eq (tgt := 317) hx hb dL_law_312 (by decide) (fun c10 => ?_) (fun c10 => ?_)
  · rw [if_pos c10] at h
    refine lv_goto (tgt := 1054) hx hb dL_law_317 (by decide) ?_
    cases h
    exact next H locs hh (lv_sub hl [1, 2, 3, 4, 5] rfl)
  · rw [if_neg c10] at h; cases h
def lc_4 (a1 a2 a3 a4 : Int32) (σ : Mem) (o : Nat → Int64) : Option (Mem × (Nat → Int64)) := bl (f_L_strange a1 (bz a2) σ o) (fun k2 s3 o4 => bv (f_X8_strange a1 (bz a2) s3) (fun s7 => bn (f_X8_thrown s7) (fun r11 s9 => if r11 = k2 then some (s9, o4) else none)))
set_option maxHeartbeats 4000000 in
set_option maxRecDepth 100000 in
theorem lw_case_4 {p : Program} {l : Launch} {e : Env} {s : State} {m : MethodId} {args : Array Value} {below : List Frame} {meth : Method} {c : Code} {H : Heap} {locs : List Loc} {cells slots : Nat} {Q : State → Prop} {D : va_G} {cA : Nat → ClassId} {ad : Nat → Nat → Nat} {A : Nat → Prop} {o : Nat → Int64} {σ : Mem} {ls : Array Slot} {b L i : Nat} {xs : Nat → Int32} {r : Mem × (Nat → Int64)} {rt : Option FieldType} (hl0 : l.stackTraces = false) (CA : ∀ o, Cx p s m args meth c cL_law 7 RL rt D cA ad A o) (hDa : ∀ σ o, va_D A (wW cA ad σ o)) (hXW : XW s) (hZU : ZU A s s.heap) (hX : va_X b L xs s s.heap) (hbl : b < s.heap.size) (hbA : ¬ A b) (hL31 : L < 2 ^ 31) (hi : i + 5 ≤ L) (hcs : cells + 1 ≤ 600096 ∧ slots + 6 ≤ 7301386) (h : lc_4 (xs (i + 1)) (xs (i + 2)) (xs (i + 3)) (xs (i + 4)) σ o = some r) (hh : HH D cA ad A o s σ H locs) (hl : lv_has ls 7 [(0, .ref b), (1, .ref (ad 799 0)), (2, .ref (ad 899 0)), (3, .ref (ad 900 0)), (4, .int (nI i))])
    (next : ∀ (H : Heap) (locs : List Loc) {ls : Array Slot}, HH D cA ad A r.2 s r.1 H locs → lv_has ls 7 [(0, .ref b), (1, .ref (ad 799 0)), (2, .ref (ad 899 0)), (3, .ref (ad 900 0)), (4, .int (nI i))] → W p l e room_1 s m args below meth c H locs (cells + 1) (slots + 6) Q (F0 m 1054 ls [])) : W p l e room_1 s m args below meth c H locs cells slots Q (F0 m 320 ls []) := by
  obtain ⟨⟨hx, hb, hml, hown, hts⟩, -⟩ := CA o
  unfold lc_4 at h
  refine lv_aload_n hx hb dL_law_320 rfl (lv_at hl 1 rfl) ?_
  refine rd_arg (i := i) (a := 1) hx hb hX hbl hbA hh.2 (lv_at hl 0 rfl) (lv_at hl 4 rfl) (by omega) hL31 (by decide) dL_law_321 dL_law_322 dL_law_324 dL_law_325 dL_law_326 ?_
  refine rd_arg (i := i) (a := 2) hx hb hX hbl hbA hh.2 (lv_at hl 0 rfl) (lv_at hl 4 rfl) (by omega) hL31 (by decide) dL_law_327 dL_law_328 dL_law_330 dL_law_331 dL_law_332 ?_
  have hj : W p l e room_1 s m args below meth c H locs cells slots Q (F0 m 341 ls [.int (bz (xs (i + 2))), .int (xs (i + 1)), .ref (ad 799 0)]) → W p l e room_1 s m args below meth c H locs cells slots Q (F0 m 333 ls [.int (xs (i + 2)), .int (xs (i + 1)), .ref (ad 799 0)]) := fun hj => by
    refine lv_if_eq (tgt := 340) hx hb dL_law_333 (by decide) (fun c1 => ?_) (fun c1 => ?_)
    · refine lv_iconst (v := (0 : Int32)) hx hb dL_law_340 (by decide) ?_
      have ez : (0 : Int32) = bz (xs (i + 2)) := by unfold bz; rw [if_pos c1]
      rw [ez]; exact hj
    · refine lv_iconst (v := (1 : Int32)) hx hb dL_law_336 (by decide) ?_
      refine lv_goto (tgt := 341) hx hb dL_law_337 (by decide) ?_
      have ez : (1 : Int32) = bz (xs (i + 2)) := by unfold bz; rw [if_neg c1]
      rw [ez]; exact hj
  refine hj ?_
  obtain ⟨k2, s3, o4, e5, h⟩ := bl_e h
  refine w_call (rest := []) (CA o) hXW hZU hh (c_L_strange hl0 (fun σ => hDa σ o) (xs (i + 1)) (bz (xs (i + 2))) σ e5) LM_L_93 ST_L_strange rfl CD_L_strange HD_L_strange ⟨rfl, rfl, (Nat.le_of_ble_eq_true rfl), (Nat.le_of_ble_eq_true rfl)⟩ rfl hl.1 rfl (Nat.le_of_ble_eq_true rfl) dL_law_341 ⟨by show _ ≤ 600096; omega, by show _ ≤ 7301386; omega⟩ (fun H locs hh => ?_)
  refine lv_istore (lv' := [(5, .int k2), (0, .ref b), (1, .ref (ad 799 0)), (2, .ref (ad 899 0)), (3, .ref (ad 900 0)), (4, .int (nI i))]) hx hb dL_law_344 hl (by decide) rfl (fun ls hl => ?_)
  refine lv_aload_n hx hb dL_law_346 rfl (lv_at hl 3 rfl) ?_
  refine rd_arg (i := i) (a := 1) hx hb hX hbl hbA hh.2 (lv_at hl 1 rfl) (lv_at hl 5 rfl) (by omega) hL31 (by decide) dL_law_347 dL_law_348 dL_law_350 dL_law_351 dL_law_352 ?_
  refine rd_arg (i := i) (a := 2) hx hb hX hbl hbA hh.2 (lv_at hl 1 rfl) (lv_at hl 5 rfl) (by omega) hL31 (by decide) dL_law_353 dL_law_354 dL_law_356 dL_law_357 dL_law_358 ?_
  have hj : W p l e room_1 s m args below meth c H locs (cells + 1) (slots + 6) Q (F0 m 367 ls [.int (bz (xs (i + 2))), .int (xs (i + 1)), .ref (ad 899 0)]) → W p l e room_1 s m args below meth c H locs (cells + 1) (slots + 6) Q (F0 m 359 ls [.int (xs (i + 2)), .int (xs (i + 1)), .ref (ad 899 0)]) := fun hj => by
    refine lv_if_eq (tgt := 366) hx hb dL_law_359 (by decide) (fun c6 => ?_) (fun c6 => ?_)
    · refine lv_iconst (v := (0 : Int32)) hx hb dL_law_366 (by decide) ?_
      have ez : (0 : Int32) = bz (xs (i + 2)) := by unfold bz; rw [if_pos c6]
      rw [ez]; exact hj
    · refine lv_iconst (v := (1 : Int32)) hx hb dL_law_362 (by decide) ?_
      refine lv_goto (tgt := 367) hx hb dL_law_363 (by decide) ?_
      have ez : (1 : Int32) = bz (xs (i + 2)) := by unfold bz; rw [if_neg c6]
      rw [ez]; exact hj
  refine hj ?_
  obtain ⟨s7, e8, h⟩ := bv_e h
  refine c_void hh (vrun (rest := []) (CA o4) hh (c_X8_strange (fun σ => hDa σ o4) (xs (i + 1)) (bz (xs (i + 2))) s3 e8) LM_L_96 IM_X8_strange SL_X8_strange IN_8 CD_X8_strange HD_X8_strange ⟨rfl, rfl, (Nat.le_of_ble_eq_true rfl), (Nat.le_of_ble_eq_true rfl)⟩ (rv_8 (CA o4) hh) rfl hl.1 rfl (Nat.le_of_ble_eq_true rfl) dL_law_367 ⟨by show _ ≤ 600096; omega, by show _ ≤ 7301386; omega⟩) (fun H locs hh => ?_)
  refine lv_aload_n hx hb dL_law_370 rfl (lv_at hl 3 rfl) ?_
  obtain ⟨r11, s9, e10, h⟩ := bn_e h
  refine c_int hh (vrun (rest := []) (CA o4) hh (c_X8_thrown (fun σ => hDa σ o4) s7 e10) LM_L_78 IM_X8_thrown SL_X8_thrown IN_8 CD_X8_thrown HD_X8_thrown ⟨rfl, rfl, (Nat.le_of_ble_eq_true rfl), (Nat.le_of_ble_eq_true rfl)⟩ (rv_8 (CA o4) hh) rfl hl.1 rfl (Nat.le_of_ble_eq_true rfl) dL_law_371 ⟨by show _ ≤ 600096; omega, by show _ ≤ 7301386; omega⟩) (fun H locs hh => ?_)
  refine lv_iload hx hb dL_law_374 (lv_at hl 0 rfl) ?_
  refine lv_icmp_eq (tgt := 381) hx hb dL_law_376 (by decide) (fun c12 => ?_) (fun c12 => ?_)
  · rw [if_pos c12] at h
    refine lv_goto (tgt := 1054) hx hb dL_law_381 (by decide) ?_
    cases h
    exact next H locs hh (lv_sub hl [1, 2, 3, 4, 5] rfl)
  · rw [if_neg c12] at h; cases h
def lc_5 (a1 a2 a3 a4 : Int32) (σ : Mem) (o : Nat → Int64) : Option (Mem × (Nat → Int64)) := bv (f_X7_down (bz a1) σ) (fun s2 => bv (f_X8_down (bz a1) s2) (fun s5 => some (s5, o)))
set_option maxHeartbeats 4000000 in
set_option maxRecDepth 100000 in
theorem lw_case_5 {p : Program} {l : Launch} {e : Env} {s : State} {m : MethodId} {args : Array Value} {below : List Frame} {meth : Method} {c : Code} {H : Heap} {locs : List Loc} {cells slots : Nat} {Q : State → Prop} {D : va_G} {cA : Nat → ClassId} {ad : Nat → Nat → Nat} {A : Nat → Prop} {o : Nat → Int64} {σ : Mem} {ls : Array Slot} {b L i : Nat} {xs : Nat → Int32} {r : Mem × (Nat → Int64)} {rt : Option FieldType} (hl0 : l.stackTraces = false) (CA : ∀ o, Cx p s m args meth c cL_law 7 RL rt D cA ad A o) (hDa : ∀ σ o, va_D A (wW cA ad σ o)) (hXW : XW s) (hZU : ZU A s s.heap) (hX : va_X b L xs s s.heap) (hbl : b < s.heap.size) (hbA : ¬ A b) (hL31 : L < 2 ^ 31) (hi : i + 5 ≤ L) (hcs : cells + 1 ≤ 600096 ∧ slots + 6 ≤ 7301386) (h : lc_5 (xs (i + 1)) (xs (i + 2)) (xs (i + 3)) (xs (i + 4)) σ o = some r) (hh : HH D cA ad A o s σ H locs) (hl : lv_has ls 7 [(0, .ref b), (1, .ref (ad 799 0)), (2, .ref (ad 899 0)), (3, .ref (ad 900 0)), (4, .int (nI i))])
    (next : ∀ (H : Heap) (locs : List Loc) {ls : Array Slot}, HH D cA ad A r.2 s r.1 H locs → lv_has ls 7 [(0, .ref b), (1, .ref (ad 799 0)), (2, .ref (ad 899 0)), (3, .ref (ad 900 0)), (4, .int (nI i))] → W p l e room_1 s m args below meth c H locs (cells + 1) (slots + 6) Q (F0 m 1054 ls [])) : W p l e room_1 s m args below meth c H locs cells slots Q (F0 m 384 ls []) := by
  obtain ⟨⟨hx, hb, hml, hown, hts⟩, -⟩ := CA o
  unfold lc_5 at h
  refine lv_aload_n hx hb dL_law_384 rfl (lv_at hl 1 rfl) ?_
  refine rd_arg (i := i) (a := 1) hx hb hX hbl hbA hh.2 (lv_at hl 0 rfl) (lv_at hl 4 rfl) (by omega) hL31 (by decide) dL_law_385 dL_law_386 dL_law_388 dL_law_389 dL_law_390 ?_
  have hj : W p l e room_1 s m args below meth c H locs cells slots Q (F0 m 399 ls [.int (bz (xs (i + 1))), .ref (ad 799 0)]) → W p l e room_1 s m args below meth c H locs cells slots Q (F0 m 391 ls [.int (xs (i + 1)), .ref (ad 799 0)]) := fun hj => by
    refine lv_if_eq (tgt := 398) hx hb dL_law_391 (by decide) (fun c1 => ?_) (fun c1 => ?_)
    · refine lv_iconst (v := (0 : Int32)) hx hb dL_law_398 (by decide) ?_
      have ez : (0 : Int32) = bz (xs (i + 1)) := by unfold bz; rw [if_pos c1]
      rw [ez]; exact hj
    · refine lv_iconst (v := (1 : Int32)) hx hb dL_law_394 (by decide) ?_
      refine lv_goto (tgt := 399) hx hb dL_law_395 (by decide) ?_
      have ez : (1 : Int32) = bz (xs (i + 1)) := by unfold bz; rw [if_neg c1]
      rw [ez]; exact hj
  refine hj ?_
  obtain ⟨s2, e3, h⟩ := bv_e h
  refine c_void hh (vrun (rest := []) (CA o) hh (c_X7_down (fun σ => hDa σ o) (bz (xs (i + 1))) σ e3) LM_L_97 IM_X7_down SL_X7_down IN_7 CD_X7_down HD_X7_down ⟨rfl, rfl, (Nat.le_of_ble_eq_true rfl), (Nat.le_of_ble_eq_true rfl)⟩ (rv_7 (CA o) hh) rfl hl.1 rfl (Nat.le_of_ble_eq_true rfl) dL_law_399 ⟨by show _ ≤ 600096; omega, by show _ ≤ 7301386; omega⟩) (fun H locs hh => ?_)
  refine lv_aload_n hx hb dL_law_402 rfl (lv_at hl 2 rfl) ?_
  refine rd_arg (i := i) (a := 1) hx hb hX hbl hbA hh.2 (lv_at hl 0 rfl) (lv_at hl 4 rfl) (by omega) hL31 (by decide) dL_law_403 dL_law_404 dL_law_406 dL_law_407 dL_law_408 ?_
  have hj : W p l e room_1 s m args below meth c H locs cells slots Q (F0 m 417 ls [.int (bz (xs (i + 1))), .ref (ad 899 0)]) → W p l e room_1 s m args below meth c H locs cells slots Q (F0 m 409 ls [.int (xs (i + 1)), .ref (ad 899 0)]) := fun hj => by
    refine lv_if_eq (tgt := 416) hx hb dL_law_409 (by decide) (fun c4 => ?_) (fun c4 => ?_)
    · refine lv_iconst (v := (0 : Int32)) hx hb dL_law_416 (by decide) ?_
      have ez : (0 : Int32) = bz (xs (i + 1)) := by unfold bz; rw [if_pos c4]
      rw [ez]; exact hj
    · refine lv_iconst (v := (1 : Int32)) hx hb dL_law_412 (by decide) ?_
      refine lv_goto (tgt := 417) hx hb dL_law_413 (by decide) ?_
      have ez : (1 : Int32) = bz (xs (i + 1)) := by unfold bz; rw [if_neg c4]
      rw [ez]; exact hj
  refine hj ?_
  obtain ⟨s5, e6, h⟩ := bv_e h
  refine c_void hh (vrun (rest := []) (CA o) hh (c_X8_down (fun σ => hDa σ o) (bz (xs (i + 1))) s2 e6) LM_L_101 IM_X8_down SL_X8_down IN_8 CD_X8_down HD_X8_down ⟨rfl, rfl, (Nat.le_of_ble_eq_true rfl), (Nat.le_of_ble_eq_true rfl)⟩ (rv_8 (CA o) hh) rfl hl.1 rfl (Nat.le_of_ble_eq_true rfl) dL_law_417 ⟨by show _ ≤ 600096; omega, by show _ ≤ 7301386; omega⟩) (fun H locs hh => ?_)
  refine lv_goto (tgt := 1054) hx hb dL_law_420 (by decide) ?_
  refine W.widen (k := cells + 1) (n := slots + 6) (by omega) (by omega) ?_
  cases h
  exact next H locs hh (lv_sub hl [0, 1, 2, 3, 4] rfl)
def lc_6 (a1 a2 a3 a4 : Int32) (σ : Mem) (o : Nat → Int64) : Option (Mem × (Nat → Int64)) := bn (f_X7_tick σ) (fun r3 s1 => bn (f_X8_tick s1) (fun r6 s4 => if r3 = r6 then some (s4, o) else none))
set_option maxHeartbeats 4000000 in
set_option maxRecDepth 100000 in
theorem lw_case_6 {p : Program} {l : Launch} {e : Env} {s : State} {m : MethodId} {args : Array Value} {below : List Frame} {meth : Method} {c : Code} {H : Heap} {locs : List Loc} {cells slots : Nat} {Q : State → Prop} {D : va_G} {cA : Nat → ClassId} {ad : Nat → Nat → Nat} {A : Nat → Prop} {o : Nat → Int64} {σ : Mem} {ls : Array Slot} {b L i : Nat} {xs : Nat → Int32} {r : Mem × (Nat → Int64)} {rt : Option FieldType} (hl0 : l.stackTraces = false) (CA : ∀ o, Cx p s m args meth c cL_law 7 RL rt D cA ad A o) (hDa : ∀ σ o, va_D A (wW cA ad σ o)) (hXW : XW s) (hZU : ZU A s s.heap) (hX : va_X b L xs s s.heap) (hbl : b < s.heap.size) (hbA : ¬ A b) (hL31 : L < 2 ^ 31) (hi : i + 5 ≤ L) (hcs : cells + 1 ≤ 600096 ∧ slots + 6 ≤ 7301386) (h : lc_6 (xs (i + 1)) (xs (i + 2)) (xs (i + 3)) (xs (i + 4)) σ o = some r) (hh : HH D cA ad A o s σ H locs) (hl : lv_has ls 7 [(0, .ref b), (1, .ref (ad 799 0)), (2, .ref (ad 899 0)), (3, .ref (ad 900 0)), (4, .int (nI i))])
    (next : ∀ (H : Heap) (locs : List Loc) {ls : Array Slot}, HH D cA ad A r.2 s r.1 H locs → lv_has ls 7 [(0, .ref b), (1, .ref (ad 799 0)), (2, .ref (ad 899 0)), (3, .ref (ad 900 0)), (4, .int (nI i))] → W p l e room_1 s m args below meth c H locs (cells + 1) (slots + 6) Q (F0 m 1054 ls [])) : W p l e room_1 s m args below meth c H locs cells slots Q (F0 m 423 ls []) := by
  obtain ⟨⟨hx, hb, hml, hown, hts⟩, -⟩ := CA o
  unfold lc_6 at h
  refine lv_aload_n hx hb dL_law_423 rfl (lv_at hl 1 rfl) ?_
  obtain ⟨r3, s1, e2, h⟩ := bn_e h
  refine c_int hh (vrun (rest := []) (CA o) hh (c_X7_tick (fun σ => hDa σ o) σ e2) LM_L_102 IM_X7_tick SL_X7_tick IN_7 CD_X7_tick HD_X7_tick ⟨rfl, rfl, (Nat.le_of_ble_eq_true rfl), (Nat.le_of_ble_eq_true rfl)⟩ (rv_7 (CA o) hh) rfl hl.1 rfl (Nat.le_of_ble_eq_true rfl) dL_law_424 ⟨by show _ ≤ 600096; omega, by show _ ≤ 7301386; omega⟩) (fun H locs hh => ?_)
  refine lv_aload_n hx hb dL_law_427 rfl (lv_at hl 2 rfl) ?_
  obtain ⟨r6, s4, e5, h⟩ := bn_e h
  refine c_int hh (vrun (rest := [.int r3]) (CA o) hh (c_X8_tick (fun σ => hDa σ o) s1 e5) LM_L_105 IM_X8_tick SL_X8_tick IN_8 CD_X8_tick HD_X8_tick ⟨rfl, rfl, (Nat.le_of_ble_eq_true rfl), (Nat.le_of_ble_eq_true rfl)⟩ (rv_8 (CA o) hh) rfl hl.1 rfl (Nat.le_of_ble_eq_true rfl) dL_law_428 ⟨by show _ ≤ 600096; omega, by show _ ≤ 7301386; omega⟩) (fun H locs hh => ?_)
  refine lv_icmp_eq (tgt := 1054) hx hb dL_law_431 (by decide) (fun c7 => ?_) (fun c7 => ?_)
  · rw [if_pos c7] at h
    refine W.widen (k := cells + 1) (n := slots + 6) (by omega) (by omega) ?_
    cases h
    exact next H locs hh (lv_sub hl [0, 1, 2, 3, 4] rfl)
  · rw [if_neg c7] at h; cases h
def lc_7 (a1 a2 a3 a4 : Int32) (σ : Mem) (o : Nat → Int64) : Option (Mem × (Nat → Int64)) := bn (f_X7_packets σ) (fun r3 s1 => bn (f_X8_packets s1) (fun r6 s4 => if r3 = r6 then some (s4, o) else none))
set_option maxHeartbeats 4000000 in
set_option maxRecDepth 100000 in
theorem lw_case_7 {p : Program} {l : Launch} {e : Env} {s : State} {m : MethodId} {args : Array Value} {below : List Frame} {meth : Method} {c : Code} {H : Heap} {locs : List Loc} {cells slots : Nat} {Q : State → Prop} {D : va_G} {cA : Nat → ClassId} {ad : Nat → Nat → Nat} {A : Nat → Prop} {o : Nat → Int64} {σ : Mem} {ls : Array Slot} {b L i : Nat} {xs : Nat → Int32} {r : Mem × (Nat → Int64)} {rt : Option FieldType} (hl0 : l.stackTraces = false) (CA : ∀ o, Cx p s m args meth c cL_law 7 RL rt D cA ad A o) (hDa : ∀ σ o, va_D A (wW cA ad σ o)) (hXW : XW s) (hZU : ZU A s s.heap) (hX : va_X b L xs s s.heap) (hbl : b < s.heap.size) (hbA : ¬ A b) (hL31 : L < 2 ^ 31) (hi : i + 5 ≤ L) (hcs : cells + 1 ≤ 600096 ∧ slots + 6 ≤ 7301386) (h : lc_7 (xs (i + 1)) (xs (i + 2)) (xs (i + 3)) (xs (i + 4)) σ o = some r) (hh : HH D cA ad A o s σ H locs) (hl : lv_has ls 7 [(0, .ref b), (1, .ref (ad 799 0)), (2, .ref (ad 899 0)), (3, .ref (ad 900 0)), (4, .int (nI i))])
    (next : ∀ (H : Heap) (locs : List Loc) {ls : Array Slot}, HH D cA ad A r.2 s r.1 H locs → lv_has ls 7 [(0, .ref b), (1, .ref (ad 799 0)), (2, .ref (ad 899 0)), (3, .ref (ad 900 0)), (4, .int (nI i))] → W p l e room_1 s m args below meth c H locs (cells + 1) (slots + 6) Q (F0 m 1054 ls [])) : W p l e room_1 s m args below meth c H locs cells slots Q (F0 m 436 ls []) := by
  obtain ⟨⟨hx, hb, hml, hown, hts⟩, -⟩ := CA o
  unfold lc_7 at h
  refine lv_aload_n hx hb dL_law_436 rfl (lv_at hl 1 rfl) ?_
  obtain ⟨r3, s1, e2, h⟩ := bn_e h
  refine c_int hh (vrun (rest := []) (CA o) hh (c_X7_packets (fun σ => hDa σ o) σ e2) LM_L_106 IM_X7_packets SL_X7_packets IN_7 CD_X7_packets HD_X7_packets ⟨rfl, rfl, (Nat.le_of_ble_eq_true rfl), (Nat.le_of_ble_eq_true rfl)⟩ (rv_7 (CA o) hh) rfl hl.1 rfl (Nat.le_of_ble_eq_true rfl) dL_law_437 ⟨by show _ ≤ 600096; omega, by show _ ≤ 7301386; omega⟩) (fun H locs hh => ?_)
  refine lv_aload_n hx hb dL_law_440 rfl (lv_at hl 2 rfl) ?_
  obtain ⟨r6, s4, e5, h⟩ := bn_e h
  refine c_int hh (vrun (rest := [.int r3]) (CA o) hh (c_X8_packets (fun σ => hDa σ o) s1 e5) LM_L_109 IM_X8_packets SL_X8_packets IN_8 CD_X8_packets HD_X8_packets ⟨rfl, rfl, (Nat.le_of_ble_eq_true rfl), (Nat.le_of_ble_eq_true rfl)⟩ (rv_8 (CA o) hh) rfl hl.1 rfl (Nat.le_of_ble_eq_true rfl) dL_law_441 ⟨by show _ ≤ 600096; omega, by show _ ≤ 7301386; omega⟩) (fun H locs hh => ?_)
  refine lv_icmp_eq (tgt := 1054) hx hb dL_law_444 (by decide) (fun c7 => ?_) (fun c7 => ?_)
  · rw [if_pos c7] at h
    refine W.widen (k := cells + 1) (n := slots + 6) (by omega) (by omega) ?_
    cases h
    exact next H locs hh (lv_sub hl [0, 1, 2, 3, 4] rfl)
  · rw [if_neg c7] at h; cases h
def lc_8 (a1 a2 a3 a4 : Int32) (σ : Mem) (o : Nat → Int64) : Option (Mem × (Nat → Int64)) := bl (f_L_packet a1 a2 σ o) (fun k1 s2 o3 => bn (f_X8_packet a1 a2 s2) (fun r7 s5 => bn (f_X8_thrown s5) (fun r10 s8 => if r10 = k1 then if k1 = 0 then if (lg_cmp (o3 0) (r7.toInt64)) = 0 then some (s8, o3) else none else some (s8, o3) else none)))
set_option maxHeartbeats 4000000 in
set_option maxRecDepth 100000 in
theorem lw_case_8 {p : Program} {l : Launch} {e : Env} {s : State} {m : MethodId} {args : Array Value} {below : List Frame} {meth : Method} {c : Code} {H : Heap} {locs : List Loc} {cells slots : Nat} {Q : State → Prop} {D : va_G} {cA : Nat → ClassId} {ad : Nat → Nat → Nat} {A : Nat → Prop} {o : Nat → Int64} {σ : Mem} {ls : Array Slot} {b L i : Nat} {xs : Nat → Int32} {r : Mem × (Nat → Int64)} {rt : Option FieldType} (hl0 : l.stackTraces = false) (CA : ∀ o, Cx p s m args meth c cL_law 7 RL rt D cA ad A o) (hDa : ∀ σ o, va_D A (wW cA ad σ o)) (hXW : XW s) (hZU : ZU A s s.heap) (hX : va_X b L xs s s.heap) (hbl : b < s.heap.size) (hbA : ¬ A b) (hL31 : L < 2 ^ 31) (hi : i + 5 ≤ L) (hcs : cells + 1 ≤ 600096 ∧ slots + 6 ≤ 7301386) (h : lc_8 (xs (i + 1)) (xs (i + 2)) (xs (i + 3)) (xs (i + 4)) σ o = some r) (hh : HH D cA ad A o s σ H locs) (hl : lv_has ls 7 [(0, .ref b), (1, .ref (ad 799 0)), (2, .ref (ad 899 0)), (3, .ref (ad 900 0)), (4, .int (nI i))])
    (next : ∀ (H : Heap) (locs : List Loc) {ls : Array Slot}, HH D cA ad A r.2 s r.1 H locs → lv_has ls 7 [(0, .ref b), (1, .ref (ad 799 0)), (2, .ref (ad 899 0)), (3, .ref (ad 900 0)), (4, .int (nI i))] → W p l e room_1 s m args below meth c H locs (cells + 1) (slots + 6) Q (F0 m 1054 ls [])) : W p l e room_1 s m args below meth c H locs cells slots Q (F0 m 449 ls []) := by
  obtain ⟨⟨hx, hb, hml, hown, hts⟩, -⟩ := CA o
  unfold lc_8 at h
  refine lv_aload_n hx hb dL_law_449 rfl (lv_at hl 1 rfl) ?_
  refine rd_arg (i := i) (a := 1) hx hb hX hbl hbA hh.2 (lv_at hl 0 rfl) (lv_at hl 4 rfl) (by omega) hL31 (by decide) dL_law_450 dL_law_451 dL_law_453 dL_law_454 dL_law_455 ?_
  refine rd_arg (i := i) (a := 2) hx hb hX hbl hbA hh.2 (lv_at hl 0 rfl) (lv_at hl 4 rfl) (by omega) hL31 (by decide) dL_law_456 dL_law_457 dL_law_459 dL_law_460 dL_law_461 ?_
  refine lv_aload_n hx hb dL_law_462 rfl (lv_at hl 3 rfl) ?_
  obtain ⟨k1, s2, o3, e4, h⟩ := bl_e h
  refine w_call (rest := []) (CA o) hXW hZU hh (c_L_packet hl0 (fun σ => hDa σ o) (xs (i + 1)) (xs (i + 2)) σ e4) LM_L_110 ST_L_packet rfl CD_L_packet HD_L_packet ⟨rfl, rfl, (Nat.le_of_ble_eq_true rfl), (Nat.le_of_ble_eq_true rfl)⟩ rfl hl.1 rfl (Nat.le_of_ble_eq_true rfl) dL_law_463 ⟨by show _ ≤ 600096; omega, by show _ ≤ 7301386; omega⟩ (fun H locs hh => ?_)
  refine lv_istore (lv' := [(5, .int k1), (0, .ref b), (1, .ref (ad 799 0)), (2, .ref (ad 899 0)), (3, .ref (ad 900 0)), (4, .int (nI i))]) hx hb dL_law_466 hl (by decide) rfl (fun ls hl => ?_)
  refine lv_aload_n hx hb dL_law_468 rfl (lv_at hl 3 rfl) ?_
  refine rd_arg (i := i) (a := 1) hx hb hX hbl hbA hh.2 (lv_at hl 1 rfl) (lv_at hl 5 rfl) (by omega) hL31 (by decide) dL_law_469 dL_law_470 dL_law_472 dL_law_473 dL_law_474 ?_
  refine rd_arg (i := i) (a := 2) hx hb hX hbl hbA hh.2 (lv_at hl 1 rfl) (lv_at hl 5 rfl) (by omega) hL31 (by decide) dL_law_475 dL_law_476 dL_law_478 dL_law_479 dL_law_480 ?_
  obtain ⟨r7, s5, e6, h⟩ := bn_e h
  refine c_int hh (vrun (rest := []) (CA o3) hh (c_X8_packet (fun σ => hDa σ o3) (xs (i + 1)) (xs (i + 2)) s2 e6) LM_L_113 IM_X8_packet SL_X8_packet IN_8 CD_X8_packet HD_X8_packet ⟨rfl, rfl, (Nat.le_of_ble_eq_true rfl), (Nat.le_of_ble_eq_true rfl)⟩ (rv_8 (CA o3) hh) rfl hl.1 rfl (Nat.le_of_ble_eq_true rfl) dL_law_481 ⟨by show _ ≤ 600096; omega, by show _ ≤ 7301386; omega⟩) (fun H locs hh => ?_)
  refine lv_istore (lv' := [(6, .int r7), (5, .int k1), (0, .ref b), (1, .ref (ad 799 0)), (2, .ref (ad 899 0)), (3, .ref (ad 900 0)), (4, .int (nI i))]) hx hb dL_law_484 hl (by decide) rfl (fun ls hl => ?_)
  refine lv_aload_n hx hb dL_law_486 rfl (lv_at hl 4 rfl) ?_
  obtain ⟨r10, s8, e9, h⟩ := bn_e h
  refine c_int hh (vrun (rest := []) (CA o3) hh (c_X8_thrown (fun σ => hDa σ o3) s5 e9) LM_L_78 IM_X8_thrown SL_X8_thrown IN_8 CD_X8_thrown HD_X8_thrown ⟨rfl, rfl, (Nat.le_of_ble_eq_true rfl), (Nat.le_of_ble_eq_true rfl)⟩ (rv_8 (CA o3) hh) rfl hl.1 rfl (Nat.le_of_ble_eq_true rfl) dL_law_487 ⟨by show _ ≤ 600096; omega, by show _ ≤ 7301386; omega⟩) (fun H locs hh => ?_)
  refine lv_iload hx hb dL_law_490 (lv_at hl 1 rfl) ?_
  refine lv_icmp_eq (tgt := 497) hx hb dL_law_492 (by decide) (fun c11 => ?_) (fun c11 => ?_)
  · rw [if_pos c11] at h
    refine lv_iload hx hb dL_law_497 (lv_at hl 1 rfl) ?_
    refine lv_if_ne (tgt := 514) hx hb dL_law_499 (by decide) (fun c12 => ?_) (fun c12 => ?_)
    · rw [if_neg c12] at h
      refine lv_goto (tgt := 1054) hx hb dL_law_514 (by decide) ?_
      cases h
      exact next H locs hh (lv_sub hl [2, 3, 4, 5, 6] rfl)
    · rw [if_pos c12] at h
      refine lv_aload_n hx hb dL_law_502 rfl (lv_at hl 5 rfl) ?_
      refine lv_iconst (v := (0 : Int32)) hx hb dL_law_503 (by decide) ?_
      refine l_out (CA o3) hh dL_law_504 ?_
      refine lv_iload hx hb dL_law_505 (lv_at hl 0 rfl) ?_
      refine lv_i2l (v := r7.toInt64) hx hb dL_law_507 rfl ?_
      refine W.lcmp hx hb dL_law_508 ?_
      refine lv_if_eq (tgt := 514) hx hb dL_law_509 (by decide) (fun c13 => ?_) (fun c13 => ?_)
      · rw [if_pos c13] at h
        refine lv_goto (tgt := 1054) hx hb dL_law_514 (by decide) ?_
        cases h
        exact next H locs hh (lv_sub hl [2, 3, 4, 5, 6] rfl)
      · rw [if_neg c13] at h; cases h
  · rw [if_neg c11] at h; cases h
def lc_9 (a1 a2 a3 a4 : Int32) (σ : Mem) (o : Nat → Int64) : Option (Mem × (Nat → Int64)) := bl (f_L_carry a1 σ o) (fun k1 s2 o3 => bn (f_X8_carry a1 s2) (fun r7 s5 => bn (f_X8_thrown s5) (fun r10 s8 => if r10 = k1 then if k1 = 0 then if (lg_cmp (o3 0) (r7.toInt64)) = 0 then some (s8, o3) else none else some (s8, o3) else none)))
set_option maxHeartbeats 4000000 in
set_option maxRecDepth 100000 in
theorem lw_case_9 {p : Program} {l : Launch} {e : Env} {s : State} {m : MethodId} {args : Array Value} {below : List Frame} {meth : Method} {c : Code} {H : Heap} {locs : List Loc} {cells slots : Nat} {Q : State → Prop} {D : va_G} {cA : Nat → ClassId} {ad : Nat → Nat → Nat} {A : Nat → Prop} {o : Nat → Int64} {σ : Mem} {ls : Array Slot} {b L i : Nat} {xs : Nat → Int32} {r : Mem × (Nat → Int64)} {rt : Option FieldType} (hl0 : l.stackTraces = false) (CA : ∀ o, Cx p s m args meth c cL_law 7 RL rt D cA ad A o) (hDa : ∀ σ o, va_D A (wW cA ad σ o)) (hXW : XW s) (hZU : ZU A s s.heap) (hX : va_X b L xs s s.heap) (hbl : b < s.heap.size) (hbA : ¬ A b) (hL31 : L < 2 ^ 31) (hi : i + 5 ≤ L) (hcs : cells + 1 ≤ 600096 ∧ slots + 6 ≤ 7301386) (h : lc_9 (xs (i + 1)) (xs (i + 2)) (xs (i + 3)) (xs (i + 4)) σ o = some r) (hh : HH D cA ad A o s σ H locs) (hl : lv_has ls 7 [(0, .ref b), (1, .ref (ad 799 0)), (2, .ref (ad 899 0)), (3, .ref (ad 900 0)), (4, .int (nI i))])
    (next : ∀ (H : Heap) (locs : List Loc) {ls : Array Slot}, HH D cA ad A r.2 s r.1 H locs → lv_has ls 7 [(0, .ref b), (1, .ref (ad 799 0)), (2, .ref (ad 899 0)), (3, .ref (ad 900 0)), (4, .int (nI i))] → W p l e room_1 s m args below meth c H locs (cells + 1) (slots + 6) Q (F0 m 1054 ls [])) : W p l e room_1 s m args below meth c H locs cells slots Q (F0 m 517 ls []) := by
  obtain ⟨⟨hx, hb, hml, hown, hts⟩, -⟩ := CA o
  unfold lc_9 at h
  refine lv_aload_n hx hb dL_law_517 rfl (lv_at hl 1 rfl) ?_
  refine rd_arg (i := i) (a := 1) hx hb hX hbl hbA hh.2 (lv_at hl 0 rfl) (lv_at hl 4 rfl) (by omega) hL31 (by decide) dL_law_518 dL_law_519 dL_law_521 dL_law_522 dL_law_523 ?_
  refine lv_aload_n hx hb dL_law_524 rfl (lv_at hl 3 rfl) ?_
  obtain ⟨k1, s2, o3, e4, h⟩ := bl_e h
  refine w_call (rest := []) (CA o) hXW hZU hh (c_L_carry hl0 (fun σ => hDa σ o) (xs (i + 1)) σ e4) LM_L_114 ST_L_carry rfl CD_L_carry HD_L_carry ⟨rfl, rfl, (Nat.le_of_ble_eq_true rfl), (Nat.le_of_ble_eq_true rfl)⟩ rfl hl.1 rfl (Nat.le_of_ble_eq_true rfl) dL_law_525 ⟨by show _ ≤ 600096; omega, by show _ ≤ 7301386; omega⟩ (fun H locs hh => ?_)
  refine lv_istore (lv' := [(5, .int k1), (0, .ref b), (1, .ref (ad 799 0)), (2, .ref (ad 899 0)), (3, .ref (ad 900 0)), (4, .int (nI i))]) hx hb dL_law_528 hl (by decide) rfl (fun ls hl => ?_)
  refine lv_aload_n hx hb dL_law_530 rfl (lv_at hl 3 rfl) ?_
  refine rd_arg (i := i) (a := 1) hx hb hX hbl hbA hh.2 (lv_at hl 1 rfl) (lv_at hl 5 rfl) (by omega) hL31 (by decide) dL_law_531 dL_law_532 dL_law_534 dL_law_535 dL_law_536 ?_
  obtain ⟨r7, s5, e6, h⟩ := bn_e h
  refine c_int hh (vrun (rest := []) (CA o3) hh (c_X8_carry (fun σ => hDa σ o3) (xs (i + 1)) s2 e6) LM_L_117 IM_X8_carry SL_X8_carry IN_8 CD_X8_carry HD_X8_carry ⟨rfl, rfl, (Nat.le_of_ble_eq_true rfl), (Nat.le_of_ble_eq_true rfl)⟩ (rv_8 (CA o3) hh) rfl hl.1 rfl (Nat.le_of_ble_eq_true rfl) dL_law_537 ⟨by show _ ≤ 600096; omega, by show _ ≤ 7301386; omega⟩) (fun H locs hh => ?_)
  refine lv_istore (lv' := [(6, .int r7), (5, .int k1), (0, .ref b), (1, .ref (ad 799 0)), (2, .ref (ad 899 0)), (3, .ref (ad 900 0)), (4, .int (nI i))]) hx hb dL_law_540 hl (by decide) rfl (fun ls hl => ?_)
  refine lv_aload_n hx hb dL_law_542 rfl (lv_at hl 4 rfl) ?_
  obtain ⟨r10, s8, e9, h⟩ := bn_e h
  refine c_int hh (vrun (rest := []) (CA o3) hh (c_X8_thrown (fun σ => hDa σ o3) s5 e9) LM_L_78 IM_X8_thrown SL_X8_thrown IN_8 CD_X8_thrown HD_X8_thrown ⟨rfl, rfl, (Nat.le_of_ble_eq_true rfl), (Nat.le_of_ble_eq_true rfl)⟩ (rv_8 (CA o3) hh) rfl hl.1 rfl (Nat.le_of_ble_eq_true rfl) dL_law_543 ⟨by show _ ≤ 600096; omega, by show _ ≤ 7301386; omega⟩) (fun H locs hh => ?_)
  refine lv_iload hx hb dL_law_546 (lv_at hl 1 rfl) ?_
  refine lv_icmp_eq (tgt := 553) hx hb dL_law_548 (by decide) (fun c11 => ?_) (fun c11 => ?_)
  · rw [if_pos c11] at h
    refine lv_iload hx hb dL_law_553 (lv_at hl 1 rfl) ?_
    refine lv_if_ne (tgt := 570) hx hb dL_law_555 (by decide) (fun c12 => ?_) (fun c12 => ?_)
    · rw [if_neg c12] at h
      refine lv_goto (tgt := 1054) hx hb dL_law_570 (by decide) ?_
      cases h
      exact next H locs hh (lv_sub hl [2, 3, 4, 5, 6] rfl)
    · rw [if_pos c12] at h
      refine lv_aload_n hx hb dL_law_558 rfl (lv_at hl 5 rfl) ?_
      refine lv_iconst (v := (0 : Int32)) hx hb dL_law_559 (by decide) ?_
      refine l_out (CA o3) hh dL_law_560 ?_
      refine lv_iload hx hb dL_law_561 (lv_at hl 0 rfl) ?_
      refine lv_i2l (v := r7.toInt64) hx hb dL_law_563 rfl ?_
      refine W.lcmp hx hb dL_law_564 ?_
      refine lv_if_eq (tgt := 570) hx hb dL_law_565 (by decide) (fun c13 => ?_) (fun c13 => ?_)
      · rw [if_pos c13] at h
        refine lv_goto (tgt := 1054) hx hb dL_law_570 (by decide) ?_
        cases h
        exact next H locs hh (lv_sub hl [2, 3, 4, 5, 6] rfl)
      · rw [if_neg c13] at h; cases h
  · rw [if_neg c11] at h; cases h
def lc_10 (a1 a2 a3 a4 : Int32) (σ : Mem) (o : Nat → Int64) : Option (Mem × (Nat → Int64)) := bl (f_L_twice a1 σ o) (fun k1 s2 o3 => bv (f_X8_twice a1 s2) (fun s5 => bn (f_X8_thrown s5) (fun r9 s7 => if r9 = k1 then some (s7, o3) else none)))
set_option maxHeartbeats 4000000 in
set_option maxRecDepth 100000 in
theorem lw_case_10 {p : Program} {l : Launch} {e : Env} {s : State} {m : MethodId} {args : Array Value} {below : List Frame} {meth : Method} {c : Code} {H : Heap} {locs : List Loc} {cells slots : Nat} {Q : State → Prop} {D : va_G} {cA : Nat → ClassId} {ad : Nat → Nat → Nat} {A : Nat → Prop} {o : Nat → Int64} {σ : Mem} {ls : Array Slot} {b L i : Nat} {xs : Nat → Int32} {r : Mem × (Nat → Int64)} {rt : Option FieldType} (hl0 : l.stackTraces = false) (CA : ∀ o, Cx p s m args meth c cL_law 7 RL rt D cA ad A o) (hDa : ∀ σ o, va_D A (wW cA ad σ o)) (hXW : XW s) (hZU : ZU A s s.heap) (hX : va_X b L xs s s.heap) (hbl : b < s.heap.size) (hbA : ¬ A b) (hL31 : L < 2 ^ 31) (hi : i + 5 ≤ L) (hcs : cells + 1 ≤ 600096 ∧ slots + 6 ≤ 7301386) (h : lc_10 (xs (i + 1)) (xs (i + 2)) (xs (i + 3)) (xs (i + 4)) σ o = some r) (hh : HH D cA ad A o s σ H locs) (hl : lv_has ls 7 [(0, .ref b), (1, .ref (ad 799 0)), (2, .ref (ad 899 0)), (3, .ref (ad 900 0)), (4, .int (nI i))])
    (next : ∀ (H : Heap) (locs : List Loc) {ls : Array Slot}, HH D cA ad A r.2 s r.1 H locs → lv_has ls 7 [(0, .ref b), (1, .ref (ad 799 0)), (2, .ref (ad 899 0)), (3, .ref (ad 900 0)), (4, .int (nI i))] → W p l e room_1 s m args below meth c H locs (cells + 1) (slots + 6) Q (F0 m 1054 ls [])) : W p l e room_1 s m args below meth c H locs cells slots Q (F0 m 573 ls []) := by
  obtain ⟨⟨hx, hb, hml, hown, hts⟩, -⟩ := CA o
  unfold lc_10 at h
  refine lv_aload_n hx hb dL_law_573 rfl (lv_at hl 1 rfl) ?_
  refine rd_arg (i := i) (a := 1) hx hb hX hbl hbA hh.2 (lv_at hl 0 rfl) (lv_at hl 4 rfl) (by omega) hL31 (by decide) dL_law_574 dL_law_575 dL_law_577 dL_law_578 dL_law_579 ?_
  obtain ⟨k1, s2, o3, e4, h⟩ := bl_e h
  refine w_call (rest := []) (CA o) hXW hZU hh (c_L_twice hl0 (fun σ => hDa σ o) (xs (i + 1)) σ e4) LM_L_118 ST_L_twice rfl CD_L_twice HD_L_twice ⟨rfl, rfl, (Nat.le_of_ble_eq_true rfl), (Nat.le_of_ble_eq_true rfl)⟩ rfl hl.1 rfl (Nat.le_of_ble_eq_true rfl) dL_law_580 ⟨by show _ ≤ 600096; omega, by show _ ≤ 7301386; omega⟩ (fun H locs hh => ?_)
  refine lv_istore (lv' := [(5, .int k1), (0, .ref b), (1, .ref (ad 799 0)), (2, .ref (ad 899 0)), (3, .ref (ad 900 0)), (4, .int (nI i))]) hx hb dL_law_583 hl (by decide) rfl (fun ls hl => ?_)
  refine lv_aload_n hx hb dL_law_585 rfl (lv_at hl 3 rfl) ?_
  refine rd_arg (i := i) (a := 1) hx hb hX hbl hbA hh.2 (lv_at hl 1 rfl) (lv_at hl 5 rfl) (by omega) hL31 (by decide) dL_law_586 dL_law_587 dL_law_589 dL_law_590 dL_law_591 ?_
  obtain ⟨s5, e6, h⟩ := bv_e h
  refine c_void hh (vrun (rest := []) (CA o3) hh (c_X8_twice (fun σ => hDa σ o3) (xs (i + 1)) s2 e6) LM_L_120 IM_X8_twice SL_X8_twice IN_8 CD_X8_twice HD_X8_twice ⟨rfl, rfl, (Nat.le_of_ble_eq_true rfl), (Nat.le_of_ble_eq_true rfl)⟩ (rv_8 (CA o3) hh) rfl hl.1 rfl (Nat.le_of_ble_eq_true rfl) dL_law_592 ⟨by show _ ≤ 600096; omega, by show _ ≤ 7301386; omega⟩) (fun H locs hh => ?_)
  refine lv_aload_n hx hb dL_law_595 rfl (lv_at hl 3 rfl) ?_
  obtain ⟨r9, s7, e8, h⟩ := bn_e h
  refine c_int hh (vrun (rest := []) (CA o3) hh (c_X8_thrown (fun σ => hDa σ o3) s5 e8) LM_L_78 IM_X8_thrown SL_X8_thrown IN_8 CD_X8_thrown HD_X8_thrown ⟨rfl, rfl, (Nat.le_of_ble_eq_true rfl), (Nat.le_of_ble_eq_true rfl)⟩ (rv_8 (CA o3) hh) rfl hl.1 rfl (Nat.le_of_ble_eq_true rfl) dL_law_596 ⟨by show _ ≤ 600096; omega, by show _ ≤ 7301386; omega⟩) (fun H locs hh => ?_)
  refine lv_iload hx hb dL_law_599 (lv_at hl 0 rfl) ?_
  refine lv_icmp_eq (tgt := 606) hx hb dL_law_601 (by decide) (fun c10 => ?_) (fun c10 => ?_)
  · rw [if_pos c10] at h
    refine lv_goto (tgt := 1054) hx hb dL_law_606 (by decide) ?_
    cases h
    exact next H locs hh (lv_sub hl [1, 2, 3, 4, 5] rfl)
  · rw [if_neg c10] at h; cases h
def lc_11 (a1 a2 a3 a4 : Int32) (σ : Mem) (o : Nat → Int64) : Option (Mem × (Nat → Int64)) := bl (f_L_drop a1 σ o) (fun k1 s2 o3 => bv (f_X8_drop a1 s2) (fun s5 => bn (f_X8_thrown s5) (fun r9 s7 => if r9 = k1 then some (s7, o3) else none)))
set_option maxHeartbeats 4000000 in
set_option maxRecDepth 100000 in
theorem lw_case_11 {p : Program} {l : Launch} {e : Env} {s : State} {m : MethodId} {args : Array Value} {below : List Frame} {meth : Method} {c : Code} {H : Heap} {locs : List Loc} {cells slots : Nat} {Q : State → Prop} {D : va_G} {cA : Nat → ClassId} {ad : Nat → Nat → Nat} {A : Nat → Prop} {o : Nat → Int64} {σ : Mem} {ls : Array Slot} {b L i : Nat} {xs : Nat → Int32} {r : Mem × (Nat → Int64)} {rt : Option FieldType} (hl0 : l.stackTraces = false) (CA : ∀ o, Cx p s m args meth c cL_law 7 RL rt D cA ad A o) (hDa : ∀ σ o, va_D A (wW cA ad σ o)) (hXW : XW s) (hZU : ZU A s s.heap) (hX : va_X b L xs s s.heap) (hbl : b < s.heap.size) (hbA : ¬ A b) (hL31 : L < 2 ^ 31) (hi : i + 5 ≤ L) (hcs : cells + 1 ≤ 600096 ∧ slots + 6 ≤ 7301386) (h : lc_11 (xs (i + 1)) (xs (i + 2)) (xs (i + 3)) (xs (i + 4)) σ o = some r) (hh : HH D cA ad A o s σ H locs) (hl : lv_has ls 7 [(0, .ref b), (1, .ref (ad 799 0)), (2, .ref (ad 899 0)), (3, .ref (ad 900 0)), (4, .int (nI i))])
    (next : ∀ (H : Heap) (locs : List Loc) {ls : Array Slot}, HH D cA ad A r.2 s r.1 H locs → lv_has ls 7 [(0, .ref b), (1, .ref (ad 799 0)), (2, .ref (ad 899 0)), (3, .ref (ad 900 0)), (4, .int (nI i))] → W p l e room_1 s m args below meth c H locs (cells + 1) (slots + 6) Q (F0 m 1054 ls [])) : W p l e room_1 s m args below meth c H locs cells slots Q (F0 m 609 ls []) := by
  obtain ⟨⟨hx, hb, hml, hown, hts⟩, -⟩ := CA o
  unfold lc_11 at h
  refine lv_aload_n hx hb dL_law_609 rfl (lv_at hl 1 rfl) ?_
  refine rd_arg (i := i) (a := 1) hx hb hX hbl hbA hh.2 (lv_at hl 0 rfl) (lv_at hl 4 rfl) (by omega) hL31 (by decide) dL_law_610 dL_law_611 dL_law_613 dL_law_614 dL_law_615 ?_
  obtain ⟨k1, s2, o3, e4, h⟩ := bl_e h
  refine w_call (rest := []) (CA o) hXW hZU hh (c_L_drop hl0 (fun σ => hDa σ o) (xs (i + 1)) σ e4) LM_L_121 ST_L_drop rfl CD_L_drop HD_L_drop ⟨rfl, rfl, (Nat.le_of_ble_eq_true rfl), (Nat.le_of_ble_eq_true rfl)⟩ rfl hl.1 rfl (Nat.le_of_ble_eq_true rfl) dL_law_616 ⟨by show _ ≤ 600096; omega, by show _ ≤ 7301386; omega⟩ (fun H locs hh => ?_)
  refine lv_istore (lv' := [(5, .int k1), (0, .ref b), (1, .ref (ad 799 0)), (2, .ref (ad 899 0)), (3, .ref (ad 900 0)), (4, .int (nI i))]) hx hb dL_law_619 hl (by decide) rfl (fun ls hl => ?_)
  refine lv_aload_n hx hb dL_law_621 rfl (lv_at hl 3 rfl) ?_
  refine rd_arg (i := i) (a := 1) hx hb hX hbl hbA hh.2 (lv_at hl 1 rfl) (lv_at hl 5 rfl) (by omega) hL31 (by decide) dL_law_622 dL_law_623 dL_law_625 dL_law_626 dL_law_627 ?_
  obtain ⟨s5, e6, h⟩ := bv_e h
  refine c_void hh (vrun (rest := []) (CA o3) hh (c_X8_drop (fun σ => hDa σ o3) (xs (i + 1)) s2 e6) LM_L_123 IM_X8_drop SL_X8_drop IN_8 CD_X8_drop HD_X8_drop ⟨rfl, rfl, (Nat.le_of_ble_eq_true rfl), (Nat.le_of_ble_eq_true rfl)⟩ (rv_8 (CA o3) hh) rfl hl.1 rfl (Nat.le_of_ble_eq_true rfl) dL_law_628 ⟨by show _ ≤ 600096; omega, by show _ ≤ 7301386; omega⟩) (fun H locs hh => ?_)
  refine lv_aload_n hx hb dL_law_631 rfl (lv_at hl 3 rfl) ?_
  obtain ⟨r9, s7, e8, h⟩ := bn_e h
  refine c_int hh (vrun (rest := []) (CA o3) hh (c_X8_thrown (fun σ => hDa σ o3) s5 e8) LM_L_78 IM_X8_thrown SL_X8_thrown IN_8 CD_X8_thrown HD_X8_thrown ⟨rfl, rfl, (Nat.le_of_ble_eq_true rfl), (Nat.le_of_ble_eq_true rfl)⟩ (rv_8 (CA o3) hh) rfl hl.1 rfl (Nat.le_of_ble_eq_true rfl) dL_law_632 ⟨by show _ ≤ 600096; omega, by show _ ≤ 7301386; omega⟩) (fun H locs hh => ?_)
  refine lv_iload hx hb dL_law_635 (lv_at hl 0 rfl) ?_
  refine lv_icmp_eq (tgt := 642) hx hb dL_law_637 (by decide) (fun c10 => ?_) (fun c10 => ?_)
  · rw [if_pos c10] at h
    refine lv_goto (tgt := 1054) hx hb dL_law_642 (by decide) ?_
    cases h
    exact next H locs hh (lv_sub hl [1, 2, 3, 4, 5] rfl)
  · rw [if_neg c10] at h; cases h
def lc_12 (a1 a2 a3 a4 : Int32) (σ : Mem) (o : Nat → Int64) : Option (Mem × (Nat → Int64)) := bl (f_L_run a1 σ o) (fun k1 s2 o3 => bn (f_X8_run a1 s2) (fun r7 s5 => bn (f_X8_thrown s5) (fun r10 s8 => if r10 = k1 then if k1 = 0 then if (lg_cmp (o3 0) (r7.toInt64)) = 0 then some (s8, o3) else none else some (s8, o3) else none)))
set_option maxHeartbeats 4000000 in
set_option maxRecDepth 100000 in
theorem lw_case_12 {p : Program} {l : Launch} {e : Env} {s : State} {m : MethodId} {args : Array Value} {below : List Frame} {meth : Method} {c : Code} {H : Heap} {locs : List Loc} {cells slots : Nat} {Q : State → Prop} {D : va_G} {cA : Nat → ClassId} {ad : Nat → Nat → Nat} {A : Nat → Prop} {o : Nat → Int64} {σ : Mem} {ls : Array Slot} {b L i : Nat} {xs : Nat → Int32} {r : Mem × (Nat → Int64)} {rt : Option FieldType} (hl0 : l.stackTraces = false) (CA : ∀ o, Cx p s m args meth c cL_law 7 RL rt D cA ad A o) (hDa : ∀ σ o, va_D A (wW cA ad σ o)) (hXW : XW s) (hZU : ZU A s s.heap) (hX : va_X b L xs s s.heap) (hbl : b < s.heap.size) (hbA : ¬ A b) (hL31 : L < 2 ^ 31) (hi : i + 5 ≤ L) (hcs : cells + 1 ≤ 600096 ∧ slots + 6 ≤ 7301386) (h : lc_12 (xs (i + 1)) (xs (i + 2)) (xs (i + 3)) (xs (i + 4)) σ o = some r) (hh : HH D cA ad A o s σ H locs) (hl : lv_has ls 7 [(0, .ref b), (1, .ref (ad 799 0)), (2, .ref (ad 899 0)), (3, .ref (ad 900 0)), (4, .int (nI i))])
    (next : ∀ (H : Heap) (locs : List Loc) {ls : Array Slot}, HH D cA ad A r.2 s r.1 H locs → lv_has ls 7 [(0, .ref b), (1, .ref (ad 799 0)), (2, .ref (ad 899 0)), (3, .ref (ad 900 0)), (4, .int (nI i))] → W p l e room_1 s m args below meth c H locs (cells + 1) (slots + 6) Q (F0 m 1054 ls [])) : W p l e room_1 s m args below meth c H locs cells slots Q (F0 m 645 ls []) := by
  obtain ⟨⟨hx, hb, hml, hown, hts⟩, -⟩ := CA o
  unfold lc_12 at h
  refine lv_aload_n hx hb dL_law_645 rfl (lv_at hl 1 rfl) ?_
  refine rd_arg (i := i) (a := 1) hx hb hX hbl hbA hh.2 (lv_at hl 0 rfl) (lv_at hl 4 rfl) (by omega) hL31 (by decide) dL_law_646 dL_law_647 dL_law_649 dL_law_650 dL_law_651 ?_
  refine lv_aload_n hx hb dL_law_652 rfl (lv_at hl 3 rfl) ?_
  obtain ⟨k1, s2, o3, e4, h⟩ := bl_e h
  refine w_call (rest := []) (CA o) hXW hZU hh (c_L_run hl0 (fun σ => hDa σ o) (xs (i + 1)) σ e4) LM_L_124 ST_L_run rfl CD_L_run HD_L_run ⟨rfl, rfl, (Nat.le_of_ble_eq_true rfl), (Nat.le_of_ble_eq_true rfl)⟩ rfl hl.1 rfl (Nat.le_of_ble_eq_true rfl) dL_law_653 ⟨by show _ ≤ 600096; omega, by show _ ≤ 7301386; omega⟩ (fun H locs hh => ?_)
  refine lv_istore (lv' := [(5, .int k1), (0, .ref b), (1, .ref (ad 799 0)), (2, .ref (ad 899 0)), (3, .ref (ad 900 0)), (4, .int (nI i))]) hx hb dL_law_656 hl (by decide) rfl (fun ls hl => ?_)
  refine lv_aload_n hx hb dL_law_658 rfl (lv_at hl 3 rfl) ?_
  refine rd_arg (i := i) (a := 1) hx hb hX hbl hbA hh.2 (lv_at hl 1 rfl) (lv_at hl 5 rfl) (by omega) hL31 (by decide) dL_law_659 dL_law_660 dL_law_662 dL_law_663 dL_law_664 ?_
  obtain ⟨r7, s5, e6, h⟩ := bn_e h
  refine c_int hh (vrun (rest := []) (CA o3) hh (c_X8_run (fun σ => hDa σ o3) (xs (i + 1)) s2 e6) LM_L_126 IM_X8_run SL_X8_run IN_8 CD_X8_run HD_X8_run ⟨rfl, rfl, (Nat.le_of_ble_eq_true rfl), (Nat.le_of_ble_eq_true rfl)⟩ (rv_8 (CA o3) hh) rfl hl.1 rfl (Nat.le_of_ble_eq_true rfl) dL_law_665 ⟨by show _ ≤ 600096; omega, by show _ ≤ 7301386; omega⟩) (fun H locs hh => ?_)
  refine lv_istore (lv' := [(6, .int r7), (5, .int k1), (0, .ref b), (1, .ref (ad 799 0)), (2, .ref (ad 899 0)), (3, .ref (ad 900 0)), (4, .int (nI i))]) hx hb dL_law_668 hl (by decide) rfl (fun ls hl => ?_)
  refine lv_aload_n hx hb dL_law_670 rfl (lv_at hl 4 rfl) ?_
  obtain ⟨r10, s8, e9, h⟩ := bn_e h
  refine c_int hh (vrun (rest := []) (CA o3) hh (c_X8_thrown (fun σ => hDa σ o3) s5 e9) LM_L_78 IM_X8_thrown SL_X8_thrown IN_8 CD_X8_thrown HD_X8_thrown ⟨rfl, rfl, (Nat.le_of_ble_eq_true rfl), (Nat.le_of_ble_eq_true rfl)⟩ (rv_8 (CA o3) hh) rfl hl.1 rfl (Nat.le_of_ble_eq_true rfl) dL_law_671 ⟨by show _ ≤ 600096; omega, by show _ ≤ 7301386; omega⟩) (fun H locs hh => ?_)
  refine lv_iload hx hb dL_law_674 (lv_at hl 1 rfl) ?_
  refine lv_icmp_eq (tgt := 681) hx hb dL_law_676 (by decide) (fun c11 => ?_) (fun c11 => ?_)
  · rw [if_pos c11] at h
    refine lv_iload hx hb dL_law_681 (lv_at hl 1 rfl) ?_
    refine lv_if_ne (tgt := 698) hx hb dL_law_683 (by decide) (fun c12 => ?_) (fun c12 => ?_)
    · rw [if_neg c12] at h
      refine lv_goto (tgt := 1054) hx hb dL_law_698 (by decide) ?_
      cases h
      exact next H locs hh (lv_sub hl [2, 3, 4, 5, 6] rfl)
    · rw [if_pos c12] at h
      refine lv_aload_n hx hb dL_law_686 rfl (lv_at hl 5 rfl) ?_
      refine lv_iconst (v := (0 : Int32)) hx hb dL_law_687 (by decide) ?_
      refine l_out (CA o3) hh dL_law_688 ?_
      refine lv_iload hx hb dL_law_689 (lv_at hl 0 rfl) ?_
      refine lv_i2l (v := r7.toInt64) hx hb dL_law_691 rfl ?_
      refine W.lcmp hx hb dL_law_692 ?_
      refine lv_if_eq (tgt := 698) hx hb dL_law_693 (by decide) (fun c13 => ?_) (fun c13 => ?_)
      · rw [if_pos c13] at h
        refine lv_goto (tgt := 1054) hx hb dL_law_698 (by decide) ?_
        cases h
        exact next H locs hh (lv_sub hl [2, 3, 4, 5, 6] rfl)
      · rw [if_neg c13] at h; cases h
  · rw [if_neg c11] at h; cases h
def lc_13 (a1 a2 a3 a4 : Int32) (σ : Mem) (o : Nat → Int64) : Option (Mem × (Nat → Int64)) := bn (f_X7_type (((a1.toInt64) <<< ((32 : Int32).toInt64 &&& 63)) ||| ((a2.toInt64) &&& (4294967295 : Int64))) a3 σ) (fun r3 s1 => bn (f_X8_type (((a1.toInt64) <<< ((32 : Int32).toInt64 &&& 63)) ||| ((a2.toInt64) &&& (4294967295 : Int64))) a3 s1) (fun r6 s4 => if r3 = r6 then some (s4, o) else none))
set_option maxHeartbeats 4000000 in
set_option maxRecDepth 100000 in
theorem lw_case_13 {p : Program} {l : Launch} {e : Env} {s : State} {m : MethodId} {args : Array Value} {below : List Frame} {meth : Method} {c : Code} {H : Heap} {locs : List Loc} {cells slots : Nat} {Q : State → Prop} {D : va_G} {cA : Nat → ClassId} {ad : Nat → Nat → Nat} {A : Nat → Prop} {o : Nat → Int64} {σ : Mem} {ls : Array Slot} {b L i : Nat} {xs : Nat → Int32} {r : Mem × (Nat → Int64)} {rt : Option FieldType} (hl0 : l.stackTraces = false) (CA : ∀ o, Cx p s m args meth c cL_law 7 RL rt D cA ad A o) (hDa : ∀ σ o, va_D A (wW cA ad σ o)) (hXW : XW s) (hZU : ZU A s s.heap) (hX : va_X b L xs s s.heap) (hbl : b < s.heap.size) (hbA : ¬ A b) (hL31 : L < 2 ^ 31) (hi : i + 5 ≤ L) (hcs : cells + 1 ≤ 600096 ∧ slots + 6 ≤ 7301386) (h : lc_13 (xs (i + 1)) (xs (i + 2)) (xs (i + 3)) (xs (i + 4)) σ o = some r) (hh : HH D cA ad A o s σ H locs) (hl : lv_has ls 7 [(0, .ref b), (1, .ref (ad 799 0)), (2, .ref (ad 899 0)), (3, .ref (ad 900 0)), (4, .int (nI i))])
    (next : ∀ (H : Heap) (locs : List Loc) {ls : Array Slot}, HH D cA ad A r.2 s r.1 H locs → lv_has ls 7 [(0, .ref b), (1, .ref (ad 799 0)), (2, .ref (ad 899 0)), (3, .ref (ad 900 0)), (4, .int (nI i))] → W p l e room_1 s m args below meth c H locs (cells + 1) (slots + 6) Q (F0 m 1054 ls [])) : W p l e room_1 s m args below meth c H locs cells slots Q (F0 m 701 ls []) := by
  obtain ⟨⟨hx, hb, hml, hown, hts⟩, -⟩ := CA o
  unfold lc_13 at h
  refine lv_aload_n hx hb dL_law_701 rfl (lv_at hl 1 rfl) ?_
  refine rd_arg (i := i) (a := 1) hx hb hX hbl hbA hh.2 (lv_at hl 0 rfl) (lv_at hl 4 rfl) (by omega) hL31 (by decide) dL_law_702 dL_law_703 dL_law_705 dL_law_706 dL_law_707 ?_
  refine lv_i2l (v := (xs (i + 1)).toInt64) hx hb dL_law_708 rfl ?_
  refine lv_bipush (v := (32 : Int32)) hx hb dL_law_709 (by decide) ?_
  refine lv_lshl (v := ((xs (i + 1)).toInt64) <<< ((32 : Int32).toInt64 &&& 63)) hx hb dL_law_711 rfl ?_
  refine rd_arg (i := i) (a := 2) hx hb hX hbl hbA hh.2 (lv_at hl 0 rfl) (lv_at hl 4 rfl) (by omega) hL31 (by decide) dL_law_712 dL_law_713 dL_law_715 dL_law_716 dL_law_717 ?_
  refine lv_i2l (v := (xs (i + 2)).toInt64) hx hb dL_law_718 rfl ?_
  refine lv_ldc2 (v := (4294967295 : Int64)) hx hb hown (hts _ LC_L_127) dL_law_719 ?_
  refine lv_land hx hb dL_law_722 ?_
  refine lv_lor hx hb dL_law_723 ?_
  refine rd_arg (i := i) (a := 3) hx hb hX hbl hbA hh.2 (lv_at hl 0 rfl) (lv_at hl 4 rfl) (by omega) hL31 (by decide) dL_law_724 dL_law_725 dL_law_727 dL_law_728 dL_law_729 ?_
  obtain ⟨r3, s1, e2, h⟩ := bn_e h
  refine c_int hh (vrun (rest := []) (CA o) hh (c_X7_type (fun σ => hDa σ o) ((((xs (i + 1)).toInt64) <<< ((32 : Int32).toInt64 &&& 63)) ||| (((xs (i + 2)).toInt64) &&& (4294967295 : Int64))) (xs (i + 3)) σ e2) LM_L_129 IM_X7_type SL_X7_type IN_7 CD_X7_type HD_X7_type ⟨rfl, rfl, (Nat.le_of_ble_eq_true rfl), (Nat.le_of_ble_eq_true rfl)⟩ (rv_7 (CA o) hh) rfl hl.1 rfl (Nat.le_of_ble_eq_true rfl) dL_law_730 ⟨by show _ ≤ 600096; omega, by show _ ≤ 7301386; omega⟩) (fun H locs hh => ?_)
  refine lv_aload_n hx hb dL_law_733 rfl (lv_at hl 2 rfl) ?_
  refine rd_arg (i := i) (a := 1) hx hb hX hbl hbA hh.2 (lv_at hl 0 rfl) (lv_at hl 4 rfl) (by omega) hL31 (by decide) dL_law_734 dL_law_735 dL_law_737 dL_law_738 dL_law_739 ?_
  refine lv_i2l (v := (xs (i + 1)).toInt64) hx hb dL_law_740 rfl ?_
  refine lv_bipush (v := (32 : Int32)) hx hb dL_law_741 (by decide) ?_
  refine lv_lshl (v := ((xs (i + 1)).toInt64) <<< ((32 : Int32).toInt64 &&& 63)) hx hb dL_law_743 rfl ?_
  refine rd_arg (i := i) (a := 2) hx hb hX hbl hbA hh.2 (lv_at hl 0 rfl) (lv_at hl 4 rfl) (by omega) hL31 (by decide) dL_law_744 dL_law_745 dL_law_747 dL_law_748 dL_law_749 ?_
  refine lv_i2l (v := (xs (i + 2)).toInt64) hx hb dL_law_750 rfl ?_
  refine lv_ldc2 (v := (4294967295 : Int64)) hx hb hown (hts _ LC_L_127) dL_law_751 ?_
  refine lv_land hx hb dL_law_754 ?_
  refine lv_lor hx hb dL_law_755 ?_
  refine rd_arg (i := i) (a := 3) hx hb hX hbl hbA hh.2 (lv_at hl 0 rfl) (lv_at hl 4 rfl) (by omega) hL31 (by decide) dL_law_756 dL_law_757 dL_law_759 dL_law_760 dL_law_761 ?_
  obtain ⟨r6, s4, e5, h⟩ := bn_e h
  refine c_int hh (vrun (rest := [.int r3]) (CA o) hh (c_X8_type (fun σ => hDa σ o) ((((xs (i + 1)).toInt64) <<< ((32 : Int32).toInt64 &&& 63)) ||| (((xs (i + 2)).toInt64) &&& (4294967295 : Int64))) (xs (i + 3)) s1 e5) LM_L_133 IM_X8_type SL_X8_type IN_8 CD_X8_type HD_X8_type ⟨rfl, rfl, (Nat.le_of_ble_eq_true rfl), (Nat.le_of_ble_eq_true rfl)⟩ (rv_8 (CA o) hh) rfl hl.1 rfl (Nat.le_of_ble_eq_true rfl) dL_law_762 ⟨by show _ ≤ 600096; omega, by show _ ≤ 7301386; omega⟩) (fun H locs hh => ?_)
  refine lv_icmp_eq (tgt := 1054) hx hb dL_law_765 (by decide) (fun c7 => ?_) (fun c7 => ?_)
  · rw [if_pos c7] at h
    refine W.widen (k := cells + 1) (n := slots + 6) (by omega) (by omega) ?_
    cases h
    exact next H locs hh (lv_sub hl [0, 1, 2, 3, 4] rfl)
  · rw [if_neg c7] at h; cases h
def lc_14 (a1 a2 a3 a4 : Int32) (σ : Mem) (o : Nat → Int64) : Option (Mem × (Nat → Int64)) := bl (f_L_told a1 σ o) (fun k1 s2 o3 => bn (f_X8_told a1 s2) (fun r7 s5 => bn (f_X8_thrown s5) (fun r10 s8 => if r10 = k1 then if k1 = 0 then if (lg_cmp (o3 0) (r7.toInt64)) = 0 then some (s8, o3) else none else some (s8, o3) else none)))
set_option maxHeartbeats 4000000 in
set_option maxRecDepth 100000 in
theorem lw_case_14 {p : Program} {l : Launch} {e : Env} {s : State} {m : MethodId} {args : Array Value} {below : List Frame} {meth : Method} {c : Code} {H : Heap} {locs : List Loc} {cells slots : Nat} {Q : State → Prop} {D : va_G} {cA : Nat → ClassId} {ad : Nat → Nat → Nat} {A : Nat → Prop} {o : Nat → Int64} {σ : Mem} {ls : Array Slot} {b L i : Nat} {xs : Nat → Int32} {r : Mem × (Nat → Int64)} {rt : Option FieldType} (hl0 : l.stackTraces = false) (CA : ∀ o, Cx p s m args meth c cL_law 7 RL rt D cA ad A o) (hDa : ∀ σ o, va_D A (wW cA ad σ o)) (hXW : XW s) (hZU : ZU A s s.heap) (hX : va_X b L xs s s.heap) (hbl : b < s.heap.size) (hbA : ¬ A b) (hL31 : L < 2 ^ 31) (hi : i + 5 ≤ L) (hcs : cells + 1 ≤ 600096 ∧ slots + 6 ≤ 7301386) (h : lc_14 (xs (i + 1)) (xs (i + 2)) (xs (i + 3)) (xs (i + 4)) σ o = some r) (hh : HH D cA ad A o s σ H locs) (hl : lv_has ls 7 [(0, .ref b), (1, .ref (ad 799 0)), (2, .ref (ad 899 0)), (3, .ref (ad 900 0)), (4, .int (nI i))])
    (next : ∀ (H : Heap) (locs : List Loc) {ls : Array Slot}, HH D cA ad A r.2 s r.1 H locs → lv_has ls 7 [(0, .ref b), (1, .ref (ad 799 0)), (2, .ref (ad 899 0)), (3, .ref (ad 900 0)), (4, .int (nI i))] → W p l e room_1 s m args below meth c H locs (cells + 1) (slots + 6) Q (F0 m 1054 ls [])) : W p l e room_1 s m args below meth c H locs cells slots Q (F0 m 770 ls []) := by
  obtain ⟨⟨hx, hb, hml, hown, hts⟩, -⟩ := CA o
  unfold lc_14 at h
  refine lv_aload_n hx hb dL_law_770 rfl (lv_at hl 1 rfl) ?_
  refine rd_arg (i := i) (a := 1) hx hb hX hbl hbA hh.2 (lv_at hl 0 rfl) (lv_at hl 4 rfl) (by omega) hL31 (by decide) dL_law_771 dL_law_772 dL_law_774 dL_law_775 dL_law_776 ?_
  refine lv_aload_n hx hb dL_law_777 rfl (lv_at hl 3 rfl) ?_
  obtain ⟨k1, s2, o3, e4, h⟩ := bl_e h
  refine w_call (rest := []) (CA o) hXW hZU hh (c_L_told hl0 (fun σ => hDa σ o) (xs (i + 1)) σ e4) LM_L_134 ST_L_told rfl CD_L_told HD_L_told ⟨rfl, rfl, (Nat.le_of_ble_eq_true rfl), (Nat.le_of_ble_eq_true rfl)⟩ rfl hl.1 rfl (Nat.le_of_ble_eq_true rfl) dL_law_778 ⟨by show _ ≤ 600096; omega, by show _ ≤ 7301386; omega⟩ (fun H locs hh => ?_)
  refine lv_istore (lv' := [(5, .int k1), (0, .ref b), (1, .ref (ad 799 0)), (2, .ref (ad 899 0)), (3, .ref (ad 900 0)), (4, .int (nI i))]) hx hb dL_law_781 hl (by decide) rfl (fun ls hl => ?_)
  refine lv_aload_n hx hb dL_law_783 rfl (lv_at hl 3 rfl) ?_
  refine rd_arg (i := i) (a := 1) hx hb hX hbl hbA hh.2 (lv_at hl 1 rfl) (lv_at hl 5 rfl) (by omega) hL31 (by decide) dL_law_784 dL_law_785 dL_law_787 dL_law_788 dL_law_789 ?_
  obtain ⟨r7, s5, e6, h⟩ := bn_e h
  refine c_int hh (vrun (rest := []) (CA o3) hh (c_X8_told (fun σ => hDa σ o3) (xs (i + 1)) s2 e6) LM_L_136 IM_X8_told SL_X8_told IN_8 CD_X8_told HD_X8_told ⟨rfl, rfl, (Nat.le_of_ble_eq_true rfl), (Nat.le_of_ble_eq_true rfl)⟩ (rv_8 (CA o3) hh) rfl hl.1 rfl (Nat.le_of_ble_eq_true rfl) dL_law_790 ⟨by show _ ≤ 600096; omega, by show _ ≤ 7301386; omega⟩) (fun H locs hh => ?_)
  refine lv_istore (lv' := [(6, .int r7), (5, .int k1), (0, .ref b), (1, .ref (ad 799 0)), (2, .ref (ad 899 0)), (3, .ref (ad 900 0)), (4, .int (nI i))]) hx hb dL_law_793 hl (by decide) rfl (fun ls hl => ?_)
  refine lv_aload_n hx hb dL_law_795 rfl (lv_at hl 4 rfl) ?_
  obtain ⟨r10, s8, e9, h⟩ := bn_e h
  refine c_int hh (vrun (rest := []) (CA o3) hh (c_X8_thrown (fun σ => hDa σ o3) s5 e9) LM_L_78 IM_X8_thrown SL_X8_thrown IN_8 CD_X8_thrown HD_X8_thrown ⟨rfl, rfl, (Nat.le_of_ble_eq_true rfl), (Nat.le_of_ble_eq_true rfl)⟩ (rv_8 (CA o3) hh) rfl hl.1 rfl (Nat.le_of_ble_eq_true rfl) dL_law_796 ⟨by show _ ≤ 600096; omega, by show _ ≤ 7301386; omega⟩) (fun H locs hh => ?_)
  refine lv_iload hx hb dL_law_799 (lv_at hl 1 rfl) ?_
  refine lv_icmp_eq (tgt := 806) hx hb dL_law_801 (by decide) (fun c11 => ?_) (fun c11 => ?_)
  · rw [if_pos c11] at h
    refine lv_iload hx hb dL_law_806 (lv_at hl 1 rfl) ?_
    refine lv_if_ne (tgt := 823) hx hb dL_law_808 (by decide) (fun c12 => ?_) (fun c12 => ?_)
    · rw [if_neg c12] at h
      refine lv_goto (tgt := 1054) hx hb dL_law_823 (by decide) ?_
      cases h
      exact next H locs hh (lv_sub hl [2, 3, 4, 5, 6] rfl)
    · rw [if_pos c12] at h
      refine lv_aload_n hx hb dL_law_811 rfl (lv_at hl 5 rfl) ?_
      refine lv_iconst (v := (0 : Int32)) hx hb dL_law_812 (by decide) ?_
      refine l_out (CA o3) hh dL_law_813 ?_
      refine lv_iload hx hb dL_law_814 (lv_at hl 0 rfl) ?_
      refine lv_i2l (v := r7.toInt64) hx hb dL_law_816 rfl ?_
      refine W.lcmp hx hb dL_law_817 ?_
      refine lv_if_eq (tgt := 823) hx hb dL_law_818 (by decide) (fun c13 => ?_) (fun c13 => ?_)
      · rw [if_pos c13] at h
        refine lv_goto (tgt := 1054) hx hb dL_law_823 (by decide) ?_
        cases h
        exact next H locs hh (lv_sub hl [2, 3, 4, 5, 6] rfl)
      · rw [if_neg c13] at h; cases h
  · rw [if_neg c11] at h; cases h
def lc_15 (a1 a2 a3 a4 : Int32) (σ : Mem) (o : Nat → Int64) : Option (Mem × (Nat → Int64)) := bl (f_L_inject a1 σ o) (fun k1 s2 o3 => bv (f_X8_inject a1 s2) (fun s5 => bn (f_X8_thrown s5) (fun r9 s7 => if r9 = k1 then some (s7, o3) else none)))
set_option maxHeartbeats 4000000 in
set_option maxRecDepth 100000 in
theorem lw_case_15 {p : Program} {l : Launch} {e : Env} {s : State} {m : MethodId} {args : Array Value} {below : List Frame} {meth : Method} {c : Code} {H : Heap} {locs : List Loc} {cells slots : Nat} {Q : State → Prop} {D : va_G} {cA : Nat → ClassId} {ad : Nat → Nat → Nat} {A : Nat → Prop} {o : Nat → Int64} {σ : Mem} {ls : Array Slot} {b L i : Nat} {xs : Nat → Int32} {r : Mem × (Nat → Int64)} {rt : Option FieldType} (hl0 : l.stackTraces = false) (CA : ∀ o, Cx p s m args meth c cL_law 7 RL rt D cA ad A o) (hDa : ∀ σ o, va_D A (wW cA ad σ o)) (hXW : XW s) (hZU : ZU A s s.heap) (hX : va_X b L xs s s.heap) (hbl : b < s.heap.size) (hbA : ¬ A b) (hL31 : L < 2 ^ 31) (hi : i + 5 ≤ L) (hcs : cells + 1 ≤ 600096 ∧ slots + 6 ≤ 7301386) (h : lc_15 (xs (i + 1)) (xs (i + 2)) (xs (i + 3)) (xs (i + 4)) σ o = some r) (hh : HH D cA ad A o s σ H locs) (hl : lv_has ls 7 [(0, .ref b), (1, .ref (ad 799 0)), (2, .ref (ad 899 0)), (3, .ref (ad 900 0)), (4, .int (nI i))])
    (next : ∀ (H : Heap) (locs : List Loc) {ls : Array Slot}, HH D cA ad A r.2 s r.1 H locs → lv_has ls 7 [(0, .ref b), (1, .ref (ad 799 0)), (2, .ref (ad 899 0)), (3, .ref (ad 900 0)), (4, .int (nI i))] → W p l e room_1 s m args below meth c H locs (cells + 1) (slots + 6) Q (F0 m 1054 ls [])) : W p l e room_1 s m args below meth c H locs cells slots Q (F0 m 826 ls []) := by
  obtain ⟨⟨hx, hb, hml, hown, hts⟩, -⟩ := CA o
  unfold lc_15 at h
  refine lv_aload_n hx hb dL_law_826 rfl (lv_at hl 1 rfl) ?_
  refine rd_arg (i := i) (a := 1) hx hb hX hbl hbA hh.2 (lv_at hl 0 rfl) (lv_at hl 4 rfl) (by omega) hL31 (by decide) dL_law_827 dL_law_828 dL_law_830 dL_law_831 dL_law_832 ?_
  obtain ⟨k1, s2, o3, e4, h⟩ := bl_e h
  refine w_call (rest := []) (CA o) hXW hZU hh (c_L_inject hl0 (fun σ => hDa σ o) (xs (i + 1)) σ e4) LM_L_137 ST_L_inject rfl CD_L_inject HD_L_inject ⟨rfl, rfl, (Nat.le_of_ble_eq_true rfl), (Nat.le_of_ble_eq_true rfl)⟩ rfl hl.1 rfl (Nat.le_of_ble_eq_true rfl) dL_law_833 ⟨by show _ ≤ 600096; omega, by show _ ≤ 7301386; omega⟩ (fun H locs hh => ?_)
  refine lv_istore (lv' := [(5, .int k1), (0, .ref b), (1, .ref (ad 799 0)), (2, .ref (ad 899 0)), (3, .ref (ad 900 0)), (4, .int (nI i))]) hx hb dL_law_836 hl (by decide) rfl (fun ls hl => ?_)
  refine lv_aload_n hx hb dL_law_838 rfl (lv_at hl 3 rfl) ?_
  refine rd_arg (i := i) (a := 1) hx hb hX hbl hbA hh.2 (lv_at hl 1 rfl) (lv_at hl 5 rfl) (by omega) hL31 (by decide) dL_law_839 dL_law_840 dL_law_842 dL_law_843 dL_law_844 ?_
  obtain ⟨s5, e6, h⟩ := bv_e h
  refine c_void hh (vrun (rest := []) (CA o3) hh (c_X8_inject (fun σ => hDa σ o3) (xs (i + 1)) s2 e6) LM_L_139 IM_X8_inject SL_X8_inject IN_8 CD_X8_inject HD_X8_inject ⟨rfl, rfl, (Nat.le_of_ble_eq_true rfl), (Nat.le_of_ble_eq_true rfl)⟩ (rv_8 (CA o3) hh) rfl hl.1 rfl (Nat.le_of_ble_eq_true rfl) dL_law_845 ⟨by show _ ≤ 600096; omega, by show _ ≤ 7301386; omega⟩) (fun H locs hh => ?_)
  refine lv_aload_n hx hb dL_law_848 rfl (lv_at hl 3 rfl) ?_
  obtain ⟨r9, s7, e8, h⟩ := bn_e h
  refine c_int hh (vrun (rest := []) (CA o3) hh (c_X8_thrown (fun σ => hDa σ o3) s5 e8) LM_L_78 IM_X8_thrown SL_X8_thrown IN_8 CD_X8_thrown HD_X8_thrown ⟨rfl, rfl, (Nat.le_of_ble_eq_true rfl), (Nat.le_of_ble_eq_true rfl)⟩ (rv_8 (CA o3) hh) rfl hl.1 rfl (Nat.le_of_ble_eq_true rfl) dL_law_849 ⟨by show _ ≤ 600096; omega, by show _ ≤ 7301386; omega⟩) (fun H locs hh => ?_)
  refine lv_iload hx hb dL_law_852 (lv_at hl 0 rfl) ?_
  refine lv_icmp_eq (tgt := 859) hx hb dL_law_854 (by decide) (fun c10 => ?_) (fun c10 => ?_)
  · rw [if_pos c10] at h
    refine lv_goto (tgt := 1054) hx hb dL_law_859 (by decide) ?_
    cases h
    exact next H locs hh (lv_sub hl [1, 2, 3, 4, 5] rfl)
  · rw [if_neg c10] at h; cases h
def lc_16 (a1 a2 a3 a4 : Int32) (σ : Mem) (o : Nat → Int64) : Option (Mem × (Nat → Int64)) := bl (f_L_client a1 a2 σ o) (fun k1 s2 o3 => bn (f_X8_client a1 a2 s2) (fun r7 s5 => bn (f_X8_thrown s5) (fun r10 s8 => if r10 = k1 then if k1 = 0 then if (lg_cmp (o3 0) (r7.toInt64)) = 0 then some (s8, o3) else none else some (s8, o3) else none)))
set_option maxHeartbeats 4000000 in
set_option maxRecDepth 100000 in
theorem lw_case_16 {p : Program} {l : Launch} {e : Env} {s : State} {m : MethodId} {args : Array Value} {below : List Frame} {meth : Method} {c : Code} {H : Heap} {locs : List Loc} {cells slots : Nat} {Q : State → Prop} {D : va_G} {cA : Nat → ClassId} {ad : Nat → Nat → Nat} {A : Nat → Prop} {o : Nat → Int64} {σ : Mem} {ls : Array Slot} {b L i : Nat} {xs : Nat → Int32} {r : Mem × (Nat → Int64)} {rt : Option FieldType} (hl0 : l.stackTraces = false) (CA : ∀ o, Cx p s m args meth c cL_law 7 RL rt D cA ad A o) (hDa : ∀ σ o, va_D A (wW cA ad σ o)) (hXW : XW s) (hZU : ZU A s s.heap) (hX : va_X b L xs s s.heap) (hbl : b < s.heap.size) (hbA : ¬ A b) (hL31 : L < 2 ^ 31) (hi : i + 5 ≤ L) (hcs : cells + 1 ≤ 600096 ∧ slots + 6 ≤ 7301386) (h : lc_16 (xs (i + 1)) (xs (i + 2)) (xs (i + 3)) (xs (i + 4)) σ o = some r) (hh : HH D cA ad A o s σ H locs) (hl : lv_has ls 7 [(0, .ref b), (1, .ref (ad 799 0)), (2, .ref (ad 899 0)), (3, .ref (ad 900 0)), (4, .int (nI i))])
    (next : ∀ (H : Heap) (locs : List Loc) {ls : Array Slot}, HH D cA ad A r.2 s r.1 H locs → lv_has ls 7 [(0, .ref b), (1, .ref (ad 799 0)), (2, .ref (ad 899 0)), (3, .ref (ad 900 0)), (4, .int (nI i))] → W p l e room_1 s m args below meth c H locs (cells + 1) (slots + 6) Q (F0 m 1054 ls [])) : W p l e room_1 s m args below meth c H locs cells slots Q (F0 m 862 ls []) := by
  obtain ⟨⟨hx, hb, hml, hown, hts⟩, -⟩ := CA o
  unfold lc_16 at h
  refine lv_aload_n hx hb dL_law_862 rfl (lv_at hl 1 rfl) ?_
  refine rd_arg (i := i) (a := 1) hx hb hX hbl hbA hh.2 (lv_at hl 0 rfl) (lv_at hl 4 rfl) (by omega) hL31 (by decide) dL_law_863 dL_law_864 dL_law_866 dL_law_867 dL_law_868 ?_
  refine rd_arg (i := i) (a := 2) hx hb hX hbl hbA hh.2 (lv_at hl 0 rfl) (lv_at hl 4 rfl) (by omega) hL31 (by decide) dL_law_869 dL_law_870 dL_law_872 dL_law_873 dL_law_874 ?_
  refine lv_aload_n hx hb dL_law_875 rfl (lv_at hl 3 rfl) ?_
  obtain ⟨k1, s2, o3, e4, h⟩ := bl_e h
  refine w_call (rest := []) (CA o) hXW hZU hh (c_L_client hl0 (fun σ => hDa σ o) (xs (i + 1)) (xs (i + 2)) σ e4) LM_L_140 ST_L_client rfl CD_L_client HD_L_client ⟨rfl, rfl, (Nat.le_of_ble_eq_true rfl), (Nat.le_of_ble_eq_true rfl)⟩ rfl hl.1 rfl (Nat.le_of_ble_eq_true rfl) dL_law_876 ⟨by show _ ≤ 600096; omega, by show _ ≤ 7301386; omega⟩ (fun H locs hh => ?_)
  refine lv_istore (lv' := [(5, .int k1), (0, .ref b), (1, .ref (ad 799 0)), (2, .ref (ad 899 0)), (3, .ref (ad 900 0)), (4, .int (nI i))]) hx hb dL_law_879 hl (by decide) rfl (fun ls hl => ?_)
  refine lv_aload_n hx hb dL_law_881 rfl (lv_at hl 3 rfl) ?_
  refine rd_arg (i := i) (a := 1) hx hb hX hbl hbA hh.2 (lv_at hl 1 rfl) (lv_at hl 5 rfl) (by omega) hL31 (by decide) dL_law_882 dL_law_883 dL_law_885 dL_law_886 dL_law_887 ?_
  refine rd_arg (i := i) (a := 2) hx hb hX hbl hbA hh.2 (lv_at hl 1 rfl) (lv_at hl 5 rfl) (by omega) hL31 (by decide) dL_law_888 dL_law_889 dL_law_891 dL_law_892 dL_law_893 ?_
  obtain ⟨r7, s5, e6, h⟩ := bn_e h
  refine c_int hh (vrun (rest := []) (CA o3) hh (c_X8_client (fun σ => hDa σ o3) (xs (i + 1)) (xs (i + 2)) s2 e6) LM_L_142 IM_X8_client SL_X8_client IN_8 CD_X8_client HD_X8_client ⟨rfl, rfl, (Nat.le_of_ble_eq_true rfl), (Nat.le_of_ble_eq_true rfl)⟩ (rv_8 (CA o3) hh) rfl hl.1 rfl (Nat.le_of_ble_eq_true rfl) dL_law_894 ⟨by show _ ≤ 600096; omega, by show _ ≤ 7301386; omega⟩) (fun H locs hh => ?_)
  refine lv_istore (lv' := [(6, .int r7), (5, .int k1), (0, .ref b), (1, .ref (ad 799 0)), (2, .ref (ad 899 0)), (3, .ref (ad 900 0)), (4, .int (nI i))]) hx hb dL_law_897 hl (by decide) rfl (fun ls hl => ?_)
  refine lv_aload_n hx hb dL_law_899 rfl (lv_at hl 4 rfl) ?_
  obtain ⟨r10, s8, e9, h⟩ := bn_e h
  refine c_int hh (vrun (rest := []) (CA o3) hh (c_X8_thrown (fun σ => hDa σ o3) s5 e9) LM_L_78 IM_X8_thrown SL_X8_thrown IN_8 CD_X8_thrown HD_X8_thrown ⟨rfl, rfl, (Nat.le_of_ble_eq_true rfl), (Nat.le_of_ble_eq_true rfl)⟩ (rv_8 (CA o3) hh) rfl hl.1 rfl (Nat.le_of_ble_eq_true rfl) dL_law_900 ⟨by show _ ≤ 600096; omega, by show _ ≤ 7301386; omega⟩) (fun H locs hh => ?_)
  refine lv_iload hx hb dL_law_903 (lv_at hl 1 rfl) ?_
  refine lv_icmp_eq (tgt := 910) hx hb dL_law_905 (by decide) (fun c11 => ?_) (fun c11 => ?_)
  · rw [if_pos c11] at h
    refine lv_iload hx hb dL_law_910 (lv_at hl 1 rfl) ?_
    refine lv_if_ne (tgt := 927) hx hb dL_law_912 (by decide) (fun c12 => ?_) (fun c12 => ?_)
    · rw [if_neg c12] at h
      refine lv_goto (tgt := 1054) hx hb dL_law_927 (by decide) ?_
      cases h
      exact next H locs hh (lv_sub hl [2, 3, 4, 5, 6] rfl)
    · rw [if_pos c12] at h
      refine lv_aload_n hx hb dL_law_915 rfl (lv_at hl 5 rfl) ?_
      refine lv_iconst (v := (0 : Int32)) hx hb dL_law_916 (by decide) ?_
      refine l_out (CA o3) hh dL_law_917 ?_
      refine lv_iload hx hb dL_law_918 (lv_at hl 0 rfl) ?_
      refine lv_i2l (v := r7.toInt64) hx hb dL_law_920 rfl ?_
      refine W.lcmp hx hb dL_law_921 ?_
      refine lv_if_eq (tgt := 927) hx hb dL_law_922 (by decide) (fun c13 => ?_) (fun c13 => ?_)
      · rw [if_pos c13] at h
        refine lv_goto (tgt := 1054) hx hb dL_law_927 (by decide) ?_
        cases h
        exact next H locs hh (lv_sub hl [2, 3, 4, 5, 6] rfl)
      · rw [if_neg c13] at h; cases h
  · rw [if_neg c11] at h; cases h
def lc_17 (a1 a2 a3 a4 : Int32) (σ : Mem) (o : Nat → Int64) : Option (Mem × (Nat → Int64)) := bl (f_L_record a1 a2 σ o) (fun k1 s2 o3 => bn (f_X8_record a1 a2 s2) (fun r7 s5 => bn (f_X8_thrown s5) (fun r10 s8 => if r10 = k1 then if k1 = 0 then if (lg_cmp (o3 0) (r7.toInt64)) = 0 then some (s8, o3) else none else some (s8, o3) else none)))
set_option maxHeartbeats 4000000 in
set_option maxRecDepth 100000 in
theorem lw_case_17 {p : Program} {l : Launch} {e : Env} {s : State} {m : MethodId} {args : Array Value} {below : List Frame} {meth : Method} {c : Code} {H : Heap} {locs : List Loc} {cells slots : Nat} {Q : State → Prop} {D : va_G} {cA : Nat → ClassId} {ad : Nat → Nat → Nat} {A : Nat → Prop} {o : Nat → Int64} {σ : Mem} {ls : Array Slot} {b L i : Nat} {xs : Nat → Int32} {r : Mem × (Nat → Int64)} {rt : Option FieldType} (hl0 : l.stackTraces = false) (CA : ∀ o, Cx p s m args meth c cL_law 7 RL rt D cA ad A o) (hDa : ∀ σ o, va_D A (wW cA ad σ o)) (hXW : XW s) (hZU : ZU A s s.heap) (hX : va_X b L xs s s.heap) (hbl : b < s.heap.size) (hbA : ¬ A b) (hL31 : L < 2 ^ 31) (hi : i + 5 ≤ L) (hcs : cells + 1 ≤ 600096 ∧ slots + 6 ≤ 7301386) (h : lc_17 (xs (i + 1)) (xs (i + 2)) (xs (i + 3)) (xs (i + 4)) σ o = some r) (hh : HH D cA ad A o s σ H locs) (hl : lv_has ls 7 [(0, .ref b), (1, .ref (ad 799 0)), (2, .ref (ad 899 0)), (3, .ref (ad 900 0)), (4, .int (nI i))])
    (next : ∀ (H : Heap) (locs : List Loc) {ls : Array Slot}, HH D cA ad A r.2 s r.1 H locs → lv_has ls 7 [(0, .ref b), (1, .ref (ad 799 0)), (2, .ref (ad 899 0)), (3, .ref (ad 900 0)), (4, .int (nI i))] → W p l e room_1 s m args below meth c H locs (cells + 1) (slots + 6) Q (F0 m 1054 ls [])) : W p l e room_1 s m args below meth c H locs cells slots Q (F0 m 930 ls []) := by
  obtain ⟨⟨hx, hb, hml, hown, hts⟩, -⟩ := CA o
  unfold lc_17 at h
  refine lv_aload_n hx hb dL_law_930 rfl (lv_at hl 1 rfl) ?_
  refine rd_arg (i := i) (a := 1) hx hb hX hbl hbA hh.2 (lv_at hl 0 rfl) (lv_at hl 4 rfl) (by omega) hL31 (by decide) dL_law_931 dL_law_932 dL_law_934 dL_law_935 dL_law_936 ?_
  refine rd_arg (i := i) (a := 2) hx hb hX hbl hbA hh.2 (lv_at hl 0 rfl) (lv_at hl 4 rfl) (by omega) hL31 (by decide) dL_law_937 dL_law_938 dL_law_940 dL_law_941 dL_law_942 ?_
  refine lv_aload_n hx hb dL_law_943 rfl (lv_at hl 3 rfl) ?_
  obtain ⟨k1, s2, o3, e4, h⟩ := bl_e h
  refine w_call (rest := []) (CA o) hXW hZU hh (c_L_record hl0 (fun σ => hDa σ o) (xs (i + 1)) (xs (i + 2)) σ e4) LM_L_143 ST_L_record rfl CD_L_record HD_L_record ⟨rfl, rfl, (Nat.le_of_ble_eq_true rfl), (Nat.le_of_ble_eq_true rfl)⟩ rfl hl.1 rfl (Nat.le_of_ble_eq_true rfl) dL_law_944 ⟨by show _ ≤ 600096; omega, by show _ ≤ 7301386; omega⟩ (fun H locs hh => ?_)
  refine lv_istore (lv' := [(5, .int k1), (0, .ref b), (1, .ref (ad 799 0)), (2, .ref (ad 899 0)), (3, .ref (ad 900 0)), (4, .int (nI i))]) hx hb dL_law_947 hl (by decide) rfl (fun ls hl => ?_)
  refine lv_aload_n hx hb dL_law_949 rfl (lv_at hl 3 rfl) ?_
  refine rd_arg (i := i) (a := 1) hx hb hX hbl hbA hh.2 (lv_at hl 1 rfl) (lv_at hl 5 rfl) (by omega) hL31 (by decide) dL_law_950 dL_law_951 dL_law_953 dL_law_954 dL_law_955 ?_
  refine rd_arg (i := i) (a := 2) hx hb hX hbl hbA hh.2 (lv_at hl 1 rfl) (lv_at hl 5 rfl) (by omega) hL31 (by decide) dL_law_956 dL_law_957 dL_law_959 dL_law_960 dL_law_961 ?_
  obtain ⟨r7, s5, e6, h⟩ := bn_e h
  refine c_int hh (vrun (rest := []) (CA o3) hh (c_X8_record (fun σ => hDa σ o3) (xs (i + 1)) (xs (i + 2)) s2 e6) LM_L_145 IM_X8_record SL_X8_record IN_8 CD_X8_record HD_X8_record ⟨rfl, rfl, (Nat.le_of_ble_eq_true rfl), (Nat.le_of_ble_eq_true rfl)⟩ (rv_8 (CA o3) hh) rfl hl.1 rfl (Nat.le_of_ble_eq_true rfl) dL_law_962 ⟨by show _ ≤ 600096; omega, by show _ ≤ 7301386; omega⟩) (fun H locs hh => ?_)
  refine lv_istore (lv' := [(6, .int r7), (5, .int k1), (0, .ref b), (1, .ref (ad 799 0)), (2, .ref (ad 899 0)), (3, .ref (ad 900 0)), (4, .int (nI i))]) hx hb dL_law_965 hl (by decide) rfl (fun ls hl => ?_)
  refine lv_aload_n hx hb dL_law_967 rfl (lv_at hl 4 rfl) ?_
  obtain ⟨r10, s8, e9, h⟩ := bn_e h
  refine c_int hh (vrun (rest := []) (CA o3) hh (c_X8_thrown (fun σ => hDa σ o3) s5 e9) LM_L_78 IM_X8_thrown SL_X8_thrown IN_8 CD_X8_thrown HD_X8_thrown ⟨rfl, rfl, (Nat.le_of_ble_eq_true rfl), (Nat.le_of_ble_eq_true rfl)⟩ (rv_8 (CA o3) hh) rfl hl.1 rfl (Nat.le_of_ble_eq_true rfl) dL_law_968 ⟨by show _ ≤ 600096; omega, by show _ ≤ 7301386; omega⟩) (fun H locs hh => ?_)
  refine lv_iload hx hb dL_law_971 (lv_at hl 1 rfl) ?_
  refine lv_icmp_eq (tgt := 978) hx hb dL_law_973 (by decide) (fun c11 => ?_) (fun c11 => ?_)
  · rw [if_pos c11] at h
    refine lv_iload hx hb dL_law_978 (lv_at hl 1 rfl) ?_
    refine lv_if_ne (tgt := 995) hx hb dL_law_980 (by decide) (fun c12 => ?_) (fun c12 => ?_)
    · rw [if_neg c12] at h
      refine lv_goto (tgt := 1054) hx hb dL_law_995 (by decide) ?_
      cases h
      exact next H locs hh (lv_sub hl [2, 3, 4, 5, 6] rfl)
    · rw [if_pos c12] at h
      refine lv_aload_n hx hb dL_law_983 rfl (lv_at hl 5 rfl) ?_
      refine lv_iconst (v := (0 : Int32)) hx hb dL_law_984 (by decide) ?_
      refine l_out (CA o3) hh dL_law_985 ?_
      refine lv_iload hx hb dL_law_986 (lv_at hl 0 rfl) ?_
      refine lv_i2l (v := r7.toInt64) hx hb dL_law_988 rfl ?_
      refine W.lcmp hx hb dL_law_989 ?_
      refine lv_if_eq (tgt := 995) hx hb dL_law_990 (by decide) (fun c13 => ?_) (fun c13 => ?_)
      · rw [if_pos c13] at h
        refine lv_goto (tgt := 1054) hx hb dL_law_995 (by decide) ?_
        cases h
        exact next H locs hh (lv_sub hl [2, 3, 4, 5, 6] rfl)
      · rw [if_neg c13] at h; cases h
  · rw [if_neg c11] at h; cases h
def lc_18 (a1 a2 a3 a4 : Int32) (σ : Mem) (o : Nat → Int64) : Option (Mem × (Nat → Int64)) := bl (f_L_count a1 σ o) (fun k1 s2 o3 => bn (f_X8_count a1 s2) (fun r7 s5 => bn (f_X8_thrown s5) (fun r10 s8 => if r10 = k1 then if k1 = 0 then if (lg_cmp (o3 0) (r7.toInt64)) = 0 then some (s8, o3) else none else some (s8, o3) else none)))
set_option maxHeartbeats 4000000 in
set_option maxRecDepth 100000 in
theorem lw_case_18 {p : Program} {l : Launch} {e : Env} {s : State} {m : MethodId} {args : Array Value} {below : List Frame} {meth : Method} {c : Code} {H : Heap} {locs : List Loc} {cells slots : Nat} {Q : State → Prop} {D : va_G} {cA : Nat → ClassId} {ad : Nat → Nat → Nat} {A : Nat → Prop} {o : Nat → Int64} {σ : Mem} {ls : Array Slot} {b L i : Nat} {xs : Nat → Int32} {r : Mem × (Nat → Int64)} {rt : Option FieldType} (hl0 : l.stackTraces = false) (CA : ∀ o, Cx p s m args meth c cL_law 7 RL rt D cA ad A o) (hDa : ∀ σ o, va_D A (wW cA ad σ o)) (hXW : XW s) (hZU : ZU A s s.heap) (hX : va_X b L xs s s.heap) (hbl : b < s.heap.size) (hbA : ¬ A b) (hL31 : L < 2 ^ 31) (hi : i + 5 ≤ L) (hcs : cells + 1 ≤ 600096 ∧ slots + 6 ≤ 7301386) (h : lc_18 (xs (i + 1)) (xs (i + 2)) (xs (i + 3)) (xs (i + 4)) σ o = some r) (hh : HH D cA ad A o s σ H locs) (hl : lv_has ls 7 [(0, .ref b), (1, .ref (ad 799 0)), (2, .ref (ad 899 0)), (3, .ref (ad 900 0)), (4, .int (nI i))])
    (next : ∀ (H : Heap) (locs : List Loc) {ls : Array Slot}, HH D cA ad A r.2 s r.1 H locs → lv_has ls 7 [(0, .ref b), (1, .ref (ad 799 0)), (2, .ref (ad 899 0)), (3, .ref (ad 900 0)), (4, .int (nI i))] → W p l e room_1 s m args below meth c H locs (cells + 1) (slots + 6) Q (F0 m 1054 ls [])) : W p l e room_1 s m args below meth c H locs cells slots Q (F0 m 998 ls []) := by
  obtain ⟨⟨hx, hb, hml, hown, hts⟩, -⟩ := CA o
  unfold lc_18 at h
  refine lv_aload_n hx hb dL_law_998 rfl (lv_at hl 1 rfl) ?_
  refine rd_arg (i := i) (a := 1) hx hb hX hbl hbA hh.2 (lv_at hl 0 rfl) (lv_at hl 4 rfl) (by omega) hL31 (by decide) dL_law_999 dL_law_1000 dL_law_1002 dL_law_1003 dL_law_1004 ?_
  refine lv_aload_n hx hb dL_law_1005 rfl (lv_at hl 3 rfl) ?_
  obtain ⟨k1, s2, o3, e4, h⟩ := bl_e h
  refine w_call (rest := []) (CA o) hXW hZU hh (c_L_count hl0 (fun σ => hDa σ o) (xs (i + 1)) σ e4) LM_L_146 ST_L_count rfl CD_L_count HD_L_count ⟨rfl, rfl, (Nat.le_of_ble_eq_true rfl), (Nat.le_of_ble_eq_true rfl)⟩ rfl hl.1 rfl (Nat.le_of_ble_eq_true rfl) dL_law_1006 ⟨by show _ ≤ 600096; omega, by show _ ≤ 7301386; omega⟩ (fun H locs hh => ?_)
  refine lv_istore (lv' := [(5, .int k1), (0, .ref b), (1, .ref (ad 799 0)), (2, .ref (ad 899 0)), (3, .ref (ad 900 0)), (4, .int (nI i))]) hx hb dL_law_1009 hl (by decide) rfl (fun ls hl => ?_)
  refine lv_aload_n hx hb dL_law_1011 rfl (lv_at hl 3 rfl) ?_
  refine rd_arg (i := i) (a := 1) hx hb hX hbl hbA hh.2 (lv_at hl 1 rfl) (lv_at hl 5 rfl) (by omega) hL31 (by decide) dL_law_1012 dL_law_1013 dL_law_1015 dL_law_1016 dL_law_1017 ?_
  obtain ⟨r7, s5, e6, h⟩ := bn_e h
  refine c_int hh (vrun (rest := []) (CA o3) hh (c_X8_count (fun σ => hDa σ o3) (xs (i + 1)) s2 e6) LM_L_148 IM_X8_count SL_X8_count IN_8 CD_X8_count HD_X8_count ⟨rfl, rfl, (Nat.le_of_ble_eq_true rfl), (Nat.le_of_ble_eq_true rfl)⟩ (rv_8 (CA o3) hh) rfl hl.1 rfl (Nat.le_of_ble_eq_true rfl) dL_law_1018 ⟨by show _ ≤ 600096; omega, by show _ ≤ 7301386; omega⟩) (fun H locs hh => ?_)
  refine lv_istore (lv' := [(6, .int r7), (5, .int k1), (0, .ref b), (1, .ref (ad 799 0)), (2, .ref (ad 899 0)), (3, .ref (ad 900 0)), (4, .int (nI i))]) hx hb dL_law_1021 hl (by decide) rfl (fun ls hl => ?_)
  refine lv_aload_n hx hb dL_law_1023 rfl (lv_at hl 4 rfl) ?_
  obtain ⟨r10, s8, e9, h⟩ := bn_e h
  refine c_int hh (vrun (rest := []) (CA o3) hh (c_X8_thrown (fun σ => hDa σ o3) s5 e9) LM_L_78 IM_X8_thrown SL_X8_thrown IN_8 CD_X8_thrown HD_X8_thrown ⟨rfl, rfl, (Nat.le_of_ble_eq_true rfl), (Nat.le_of_ble_eq_true rfl)⟩ (rv_8 (CA o3) hh) rfl hl.1 rfl (Nat.le_of_ble_eq_true rfl) dL_law_1024 ⟨by show _ ≤ 600096; omega, by show _ ≤ 7301386; omega⟩) (fun H locs hh => ?_)
  refine lv_iload hx hb dL_law_1027 (lv_at hl 1 rfl) ?_
  refine lv_icmp_eq (tgt := 1034) hx hb dL_law_1029 (by decide) (fun c11 => ?_) (fun c11 => ?_)
  · rw [if_pos c11] at h
    refine lv_iload hx hb dL_law_1034 (lv_at hl 1 rfl) ?_
    refine lv_if_ne (tgt := 1051) hx hb dL_law_1036 (by decide) (fun c12 => ?_) (fun c12 => ?_)
    · rw [if_neg c12] at h
      refine lv_goto (tgt := 1054) hx hb dL_law_1051 (by decide) ?_
      cases h
      exact next H locs hh (lv_sub hl [2, 3, 4, 5, 6] rfl)
    · rw [if_pos c12] at h
      refine lv_aload_n hx hb dL_law_1039 rfl (lv_at hl 5 rfl) ?_
      refine lv_iconst (v := (0 : Int32)) hx hb dL_law_1040 (by decide) ?_
      refine l_out (CA o3) hh dL_law_1041 ?_
      refine lv_iload hx hb dL_law_1042 (lv_at hl 0 rfl) ?_
      refine lv_i2l (v := r7.toInt64) hx hb dL_law_1044 rfl ?_
      refine W.lcmp hx hb dL_law_1045 ?_
      refine lv_if_eq (tgt := 1051) hx hb dL_law_1046 (by decide) (fun c13 => ?_) (fun c13 => ?_)
      · rw [if_pos c13] at h
        refine lv_goto (tgt := 1054) hx hb dL_law_1051 (by decide) ?_
        cases h
        exact next H locs hh (lv_sub hl [2, 3, 4, 5, 6] rfl)
      · rw [if_neg c13] at h; cases h
  · rw [if_neg c11] at h; cases h
