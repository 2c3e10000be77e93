section BS
variable {p : Program} {l : Launch} {e : Env} {R : Room} {s : State} {m : MethodId} {args : Array Value} {below : List Frame} {meth : Method} {c : Code} {H : Heap} {locs : List Loc} {cells slots : Nat} {Q : State → Prop} {cc : ByteArray} {nL : Nat} {own : String} {D : va_G} {cA : Nat → ClassId} {B n : Nat} {F : Nat → va_E} {pc : Nat} {ls : Array Slot} {rest : List Value}
theorem b_put {Cn : String} {T : u_T} {N ci idx k sl : Nat} {fs : List Value} {ty : FieldType} {v : Value} (hx : p.tables.exec = Jvm.exec) (hb : c.code = cc) (hts : ∀ w ∈ Gw, w.before args s = true) (hown : s.vm.findClass own = some m.cls) (hK : va_K D vwCl (tyW cA) s) (hh : HB D B s n F H locs) (hin : ∀ w ∈ u_ws Cn T N, w ∈ Gw) (ty0 : Nat → FieldType) (hty : ∀ k, k < N → parseFieldDescriptor (T k).2.2.1 = some (ty0 k)) (hnm : ∀ a, a < N → ∀ b, b < N → a ≠ b → (T a).2.1 ≠ (T b).2.1) (hc : vwCl[ci]? = some (Cn, T, N)) (hk : k < n) (hF : F k = .inr (ci, fs)) (hsl : sl < N) (hlink : Cond.fieldLink own idx (T sl).1 (T sl).2.1 (T sl).2.2.1 ∈ Gw) (hin2 : meth.name = "<init>") (hdecl : (T sl).1 = own) (hd : parseFieldDescriptor (T sl).2.2.1 = some ty) (hn : narrow ty v = v) (hfit : fits ty v = true) (hl : sl < fs.length) (hdg : decode cc pc = .ok (.putfield idx, 3))
    (kk : ∀ (H1 : Heap) (locs1 : List Loc), HB D B s n (va_up F k (.inr (ci, fs.set sl v))) H1 locs1 → W p l e R s m args below meth c H1 locs1 cells slots Q (F0 m (pc + 3) ls rest)) : W p l e R s m args below meth c H locs cells slots Q (F0 m pc ls (v :: .ref (B + k) :: rest)) := by
  have he := bw_at (B := B) hk hF
  have hP := hh.1
  have hD := bw_D (B := B) (n := n) (F := F)
  have hap := va_apart (own := own) hts hin ty0 hty hnm hK hc
  obtain ⟨r, h1, cell, q1, q2, q3, q4⟩ := hP k _ he
  have hr : r = (Cn, T, N) := Option.some.inj (h1.symm.trans hc)
  subst hr
  obtain ⟨hS, hfc, kC, hkC, hkind⟩ := hK.1 ci _ hc
  obtain ⟨cf, kf, fi, f, hi, hsl2⟩ := hS sl hsl
  have hlay := hts _ (hin _ (u_in_lay hsl))
  have hst := (u_facts hfc hkC (u_lays hts hin hsl) hi).1
  have fin : ∀ H' : Heap, H'[B + k]? = some (cell.setSlot (D.2 ci sl) v) → H'.size = H.size → (∀ q : Nat, q ≠ B + k → H'[q]? = H[q]?) → W p l e R s m args below meth c H' (locs ++ [⟨B + k, D.2 ci sl⟩]) cells slots Q (F0 m (pc + 3) ls rest) := by
    intro H' e1 e2 e3
    exact kk H' _ (b_upd hh (hP.set hD he ⟨_, hc, t_OB.to (V := updV (vp_V fs) sl v) ⟨_, e1, q2, q3, t_set q4 hap hsl v⟩ (fun j _ => vp_updV_set hl v j)⟩ e3) (hh.2.1.put e2 e3 (hD.2 k _ he)) e2)
  unfold u_lay at hlay
  by_cases hfin : (T sl).2.2.2 = true
  · rw [if_pos hfin] at hlay
    have hcf : m.cls = cf := by
      obtain ⟨_, _, c', _, _, _, -, -, hf', -, -, -, hown2, -⟩ := Cond.laysFinal_spec hlay
      have e1 : c' = cf := by have := hi.symm.trans hf'; simp at this; exact this.1.symm
      rw [hdecl] at hown2
      rw [← e1]; exact Option.some.inj (hown.symm.trans hown2)
    have h6 := u_fits hfc hkC hkind (Or.inr hlay) hi hd hn hfit
    refine W.putFinK hx hb hown (hts _ hlink) hi hst hcf hin2 (by rw [q2]; exact h6) q1 q3 (by rw [hsl2]; exact k2_hasslot (q4 sl hsl)) rfl rfl hdg fun H' e1 e2 e3 => ?_
    rw [hsl2] at e1 ⊢
    exact fin H' e1 e2 e3
  · rw [if_neg hfin] at hlay
    have h6 := u_store hfc hkC hkind hlay hi hd hn hfit
    refine W.putK hx hb (f := f) ⟨hown, hts _ hlink, ⟨_, _, _, hi⟩, hst⟩ (by rw [q2]; exact h6) q1 q3 (by rw [hsl2]; exact k2_hasslot (q4 sl hsl)) rfl rfl hdg fun H' e1 e2 e3 => ?_
    rw [hsl2] at e1 ⊢
    exact fin H' e1 e2 e3
theorem b_aast {ka kv t0 ci N : Nat} {r : vw_C} {vs : List Value} {f : Nat → Option Nat} {i : Int32} (hx : p.tables.exec = Jvm.exec) (hb : c.code = cc) (hK : va_K D vwCl (tyW cA) s) (hh : HB D B s n F H locs) (hka : ka < n) (hFa : F ka = arq (cA t0) N f) (ht : (tyW cA)[t0]? = some (cA t0, .object r.1)) (hkv : kv < n) (hFv : F kv = .inr (ci, vs)) (hc : vwCl[ci]? = some r) (hin : vp_in i N) (hdg : decode cc pc = .ok (.aastore, 1))
    (kk : ∀ (H1 : Heap) (locs1 : List Loc), HB D B s n (va_up F ka (arq (cA t0) N (va_up f i.toNatClampNeg (some (B + kv))))) H1 locs1 → W p l e R s m args below meth c H1 locs1 cells slots Q (F0 m (pc + 1) ls rest)) : W p l e R s m args below meth c H locs cells slots Q (F0 m pc ls (.ref (B + kv) :: .int i :: .ref (B + ka) :: rest)) := by
  have ha := bw_at (B := B) hka hFa
  have hv := bw_at (B := B) hkv hFv
  have hP := hh.1
  have hD := bw_D (B := B) (n := n) (F := F)
  have hlt : i.toNatClampNeg < N := Nat.not_le.mp fun q => hin (Or.inr q)
  have h0 : ¬ i < 0 := fun q => hin (Or.inl q)
  obtain ⟨r', hr', cellV, g1, g2, g3, -⟩ := hP kv _ hv
  have hcls := (hK.1 ci r hc).2
  obtain ⟨kA, comp, k1, k2, k3, -⟩ := (hK.2 t0 _ ht).2
  have hcomp : comp = D.1 ci := Option.some.inj (k3.symm.trans hcls.1)
  subst hcomp
  obtain ⟨kC, hkC, -⟩ := hcls.2
  refine W.aast hx hb (hP ka _ ha) (fun q h => by cases h) (fun h => by cases h) k1 k2 rfl hkC ⟨h0, by show _ < (arrV _ _ _).slots.size; rw [arrV_size]; exact hlt⟩ g1 (fun q h => by rw [g3] at h; cases h) (by rw [g2]; exact hkC) (by rw [g2]; exact va_assign hcls) rfl rfl hdg fun H1 e1 z oq => ?_
  refine kk H1 _ (b_upd hh (hP.set hD ha ?_ oq) (hh.2.1.put z oq (hD.2 ka _ ha)) z)
  show H1[B + ka]? = some (vp_cell _ _)
  rw [e1]
  rw [vp_cell_q, vp_cell_q, arrV_store]
  congr 2
  funext q
  by_cases hq : q = i.toNatClampNeg
  · subst hq
    simp [updV, va_up, va_rf]
  · simp [updV, va_up, hq]
theorem b_iast {ka N : Nat} {f : Nat → Int32} {i x : Int32} (hx : p.tables.exec = Jvm.exec) (hb : c.code = cc) (hK : va_K D vwCl (tyW cA) s) (hh : HB D B s n F H locs) (hka : ka < n) (hFa : F ka = .inl (cA 0, N, .inl f)) (hin : vp_in i N) (hdg : decode cc pc = .ok (.iastore, 1))
    (kk : ∀ (H1 : Heap) (locs1 : List Loc), HB D B s n (va_up F ka (.inl (cA 0, N, .inl (upd f i.toNatClampNeg x)))) H1 locs1 → W p l e R s m args below meth c H1 locs1 cells slots Q (F0 m (pc + 1) ls rest)) : W p l e R s m args below meth c H locs cells slots Q (F0 m pc ls (.int x :: .int i :: .ref (B + ka) :: rest)) := by
  have ha := bw_at (B := B) hka hFa
  have hP := hh.1
  have hD := bw_D (B := B) (n := n) (F := F)
  refine W.iast hx hb (hP ka _ ha) ((hK.2 0 _ rfl).1 N (fun j => .int (f j))) (fun q => by cases q) (by show ¬ (i < 0 ∨ (arrV _ _ _).slots.size ≤ _); rw [arrV_size]; exact hin) rfl rfl hdg fun H1 e1 z oq => ?_
  refine kk H1 _ (b_upd hh (hP.set hD ha ?_ oq) (hh.2.1.put z oq (hD.2 ka _ ha)) z)
  show H1[B + ka]? = some (vp_cell _ _)
  rw [e1]
  rw [vp_cell_i, vp_cell_i, arrV_store]
  congr 2
  funext q
  by_cases hq : q = i.toNatClampNeg
  · subst hq
    simp [updV, upd]
  · simp [updV, upd, hq]
theorem b_obj {idx a : Nat} (C : Cb p s m args meth c cc nL own D cA B) (hL : Cond.methodLink own idx objectInit ∈ Gw) (hI : Cond.instanceMethod objectInit ∈ Gw) (hCd : Cond.code objectInit ⟨#[0xb1]⟩ 1 none ∈ Gw) (hsz : ls.size = nL) (hfr : 1 ≤ R.frames) (hlo : (rest.map fun v => v.category).sum + 12 ≤ R.locals) (hdg : decode cc pc = .ok (.invokespecial idx, 3))
    (kk : W p l e R s m args below meth c H locs cells slots Q (F0 m (pc + 3) ls rest)) : W p l e R s m args below meth c H locs cells slots Q (F0 m pc ls (.ref a :: rest)) := by
  obtain ⟨⟨hx, hb, hml, hown, hts⟩, -⟩ := C
  exact W.objInit hx hb hown (hts _ hL) (hts _ hI) (hts _ hCd) rfl (by rw [hml]; exact hsz) rfl hdg hfr (by show 2 * 0 + _ + 12 ≤ _; omega) kk
end BS
