/-! the server answers, on both sides -/
def SMG (c : Nat) (xid yi gi kind le : Int32) : List Int32 := encH 2 0 xid 0 yi gi (nI c) kind ++ (o6 51 le ++ (o6 54 1 ++ [255]))
def mpl (gi ch : Int32) : Int32 := if gi >>> ((8 : Int32) &&& 31) ≤ 0 then ch else 12 + gi >>> ((8 : Int32) &&& 31)
theorem m_ans32 {τ0 s : Mem} {c : Nat} {gi : Int32} {Q : List Pk} {L : List Int32} (hm : ML s L) (hL : L.length ≤ 30) (S : Sm [828, 829] τ0 s) (hQ : MU τ0 Q) : ∃ τ', f_X8_answer_32 gi (nI c) s = some τ' ∧ Sm M7 τ0 τ' ∧ MU τ' (qp Q (mpl gi (nI c), L ++ (o6 54 1 ++ [255]))) ∧ τ' 824 0 0 = lqx Q (τ0 824 0 0) := by
  unfold f_X8_answer_32 f_X8_answer_66
  obtain ⟨s1, e1, m1, S1⟩ := v_option 54 1 hm (by decide) (by omega)
  have l1 := o6_len 54 1
  obtain ⟨s2, e2, m2, S2⟩ := v_finish m1 (by rw [List.length_append]; omega)
  have S3 := S.tr (S1.tr S2)
  have hQ2 : MU s2 Q := hQ.mv (S3 _ (by decide)) (S3 _ (by decide)) (S3 _ (by decide)) (S3 _ (by decide))
  obtain ⟨τ', e4, m4, l4, S4⟩ := v_send (mpl gi (nI c)) hQ2 m2 (by rw [List.length_append, List.length_append]; show L.length + _ + 1 ≤ 60; omega)
  rw [e1, bv_s, e2, bv_s, vl_d, bv_id, bv_id]
  refine ⟨τ', ?_, (S3.mono (by decide)).tr (S4.mono (by decide)), ?_, ?_⟩
  · unfold mpl at e4
    by_cases q : gi >>> ((8 : Int32) &&& 31) ≤ 0
    · rw [if_pos q] at e4 ⊢; exact e4
    · rw [if_neg q] at e4 ⊢; exact e4
  · rw [List.append_assoc] at m4; exact m4
  · rw [l4, S3 824 (by decide)]; rfl
theorem m_answer {τ : Mem} {c s : Nat} {kind yi xid gi : Int32} {Q : List Pk} (hs : s < 4) (hk : ¬ kind = 6) (hle : ¬ τ 804 0 s = 0) (hQ : MU τ Q) : ∃ τ', f_X8_answer (nI s) kind yi xid gi (nI c) τ = some τ' ∧ Sm M7 τ τ' ∧ MU τ' (qp Q (mpl gi (nI c), SMG c xid yi gi kind (τ 804 0 s))) ∧ τ' 824 0 0 = lqx Q (τ 824 0 0) := by
  unfold f_X8_answer
  obtain ⟨s1, e1, m1, S1⟩ := v_make (σ := τ) 2 xid 0 yi gi (nI c) kind
  rw [e1, bv_s, if_neg hk, gd_p (v4 hs), cln (by omega), S1 804 (by decide)]
  have l0 := encH_len 2 0 xid 0 yi gi (nI c) kind
  have l1 := o6_len 51 (τ 804 0 s)
  obtain ⟨s2, e2, m2, S2⟩ := v_option 51 (τ 804 0 s) m1 hle (by omega)
  rw [e2, bv_s]
  obtain ⟨τ', e3, S3, m3, l3⟩ := m_ans32 (c := c) (gi := gi) m2 (by rw [List.length_append]; omega) (S1.tr S2) hQ
  refine ⟨τ', e3, S3, ?_, l3⟩
  rw [List.append_assoc] at m3
  exact m3
theorem m_nak {τ : Mem} {c s : Nat} {xid gi : Int32} {Q : List Pk} (hQ : MU τ Q) : ∃ τ', f_X8_answer (nI s) 6 0 xid gi (nI c) τ = some τ' ∧ Sm M7 τ τ' ∧ MU τ' (qp Q (mpl gi (nI c), SMG c xid 0 gi 6 0)) ∧ τ' 824 0 0 = lqx Q (τ 824 0 0) := by
  unfold f_X8_answer
  obtain ⟨s1, e1, m1, S1⟩ := v_make (σ := τ) 2 xid 0 0 gi (nI c) 6
  rw [e1, bv_s, if_pos rfl]
  have l0 := encH_len 2 0 xid 0 0 gi (nI c) 6
  obtain ⟨τ', e3, S3, m3, l3⟩ := m_ans32 (c := c) (gi := gi) m1 (by omega) S1 hQ
  exact ⟨τ', e3, S3, m3, l3⟩
/-- the answer that is begun -/
def DRB (σ : Mem) (c : Nat) (xid gi : Int32) : Prop := σ 200 1 0 = 2 ∧ σ 201 1 0 = 0 ∧ σ 202 1 0 = xid ∧ σ 203 1 0 = 0 ∧ σ 204 1 0 = 0 ∧ σ 205 1 0 = gi ∧ σ 206 1 0 = nI c ∧ σ 207 1 0 = -1 ∧ σ 208 1 0 = 0 ∧ σ 209 1 0 = 0 ∧ σ 210 1 0 = 0
theorem DRB.mv {σ σ' : Mem} {c : Nat} {xid gi : Int32} (h : DRB σ c xid gi) (a : ∀ f, 200 ≤ f → f < 211 → σ' f = σ f) : DRB σ' c xid gi := by
  unfold DRB
  rw [a 200 (by omega) (by omega), a 201 (by omega) (by omega), a 202 (by omega) (by omega), a 203 (by omega) (by omega), a 204 (by omega) (by omega), a 205 (by omega) (by omega), a 206 (by omega) (by omega), a 207 (by omega) (by omega), a 208 (by omega) (by omega), a 209 (by omega) (by omega), a 210 (by omega) (by omega)]
  exact h
theorem mEnc_sv {σ : Mem} {c : Nat} {xid yi gi kind le : Int32} (hc : c < 12) (h0 : σ 200 1 0 = 2) (h1 : σ 201 1 0 = 0) (h2 : σ 202 1 0 = xid) (h3 : σ 203 1 0 = 0) (h4 : σ 204 1 0 = yi) (h5 : σ 205 1 0 = gi) (h6 : σ 206 1 0 = nI c) (h7 : σ 207 1 0 = kind) (h8 : σ 208 1 0 = 0) (h9 : σ 209 1 0 = le) (h10 : σ 210 1 0 = 1) (hk : kind &&& 255 = kind) : mEnc σ 1 = SMG c xid yi gi kind le := by
  unfold mEnc SMG encO
  rw [h0, h1, h2, h3, h4, h5, h6, h7, h8, h9, h10, hk, c255 ⟨c, hc⟩]
  rfl
abbrev SFL : List Nat := [200, 201, 202, 203, 204, 205, 206, 207, 208, 209, 210, 602, 603, 604]
abbrev MFL : List Nat := [807, 808, 809, 823, 824, 825, 826, 827, 828, 829]
def LOK (Q : List Pk) (pl : Int32) (σ τ σ' τ' : Mem) : Prop := Sm SFL σ σ' ∧ Sm MFL τ τ' ∧ RRE σ' τ' ∧ (∀ f j, 200 ≤ f → f < 211 → j ≠ 1 → σ' f j = σ f j) ∧ ((σ' 207 1 0 = -1 ∧ MU τ' Q ∧ τ' 824 0 0 = τ 824 0 0) ∨ (¬ σ' 207 1 0 = -1 ∧ MU τ' (qp Q (pl, mEnc σ' 1)) ∧ τ' 824 0 0 = lqx Q (τ 824 0 0)))
theorem LOK.pre {Q : List Pk} {pl : Int32} {σ τ σ0 τ0 σ' τ' : Mem} (h : LOK Q pl σ0 τ0 σ' τ') (a : Sm [602, 603, 604] σ σ0) (b : Sm [807, 808, 809] τ τ0) : LOK Q pl σ τ σ' τ' := by
  obtain ⟨h1, h2, h3, h4, h5⟩ := h
  refine ⟨(a.mono (by decide)).tr h1, (b.mono (by decide)).tr h2, h3, fun f j q1 q2 q3 => ?_, ?_⟩
  · rw [h4 f j q1 q2 q3, a f (by simp; omega)]
  · rw [← b 824 (by decide)]; exact h5
theorem LOK.no {Q : List Pk} {pl : Int32} {c : Nat} {xid gi : Int32} {σ τ σ' τ' : Mem} (hD : DRB σ c xid gi) (hQ : MU τ Q) (hR : RRE σ' τ') (a : Sm [602, 603, 604] σ σ') (b : Sm [807, 808, 809] τ τ') : LOK Q pl σ τ σ' τ' :=
  ⟨a.mono (by decide), b.mono (by decide), hR, fun f j q1 q2 q3 => by rw [a f (by simp; omega)], Or.inl ⟨by rw [a 207 (by decide)]; exact hD.2.2.2.2.2.2.2.1, hQ.mv (b _ (by decide)) (b _ (by decide)) (b _ (by decide)) (b _ (by decide)), by rw [b 824 (by decide)]⟩⟩
theorem b_grant {σ τ : Mem} {c s lo hi : Nat} {kind yi xid gi : Int32} {Q : List Pk} (hc : c < 12) (hP : PXS σ τ s lo hi) (hR : RRE σ τ) (hD : DRB σ c xid gi) (hQ : MU τ Q) (hk : kind = 2 ∨ kind = 5) : ∃ σ' τ', f_X6_grant kind yi s 1 σ = some σ' ∧ f_X8_answer (nI s) kind yi xid gi (nI c) τ = some τ' ∧ LOK Q (mpl gi (nI c)) σ τ σ' τ' := by
  obtain ⟨hs, -, -, -, -, -, -, -, hl, hl0⟩ := hP
  obtain ⟨τ', e, S, m, l⟩ := m_answer (c := c) (kind := kind) (yi := yi) (xid := xid) (gi := gi) hs (by rcases hk with rfl | rfl <;> decide) hl0 hQ
  unfold f_X6_grant
  simp only [vl_d]
  rw [show up (up σ 207 1 0 kind) 204 1 0 yi 402 s 0 = τ 804 0 s by rw [up_fn (by decide), up_fn (by decide)]; exact hl]
  obtain ⟨d0, d1, d2, d3, d4, d5, d6, d7, d8, d9, d10⟩ := hD
  have Sσ : Sm [204, 207, 209, 210] σ (up (up (up (up σ 207 1 0 kind) 204 1 0 yi) 209 1 0 (τ 804 0 s)) 210 1 0 1) := Sm.up (by decide) (Sm.up (by decide) (Sm.up (by decide) (Sm.up (by decide) Sm.rf)))
  have k7 : up (up (up (up σ 207 1 0 kind) 204 1 0 yi) 209 1 0 (τ 804 0 s)) 210 1 0 1 207 1 0 = kind := by simp [up_rd]
  refine ⟨_, τ', rfl, e, Sσ.mono (by decide), S.mono (by decide), hR.mv (fun f a b => Sσ f (by simp; omega)) (fun f a b => S f (by simp; omega)), fun f j a b d => by rw [up_fj d, up_fj d, up_fj d, up_fj d], Or.inr ⟨by rw [k7]; rcases hk with rfl | rfl <;> decide, ?_, l⟩⟩
  rw [mEnc_sv (c := c) (xid := xid) (yi := yi) (gi := gi) (kind := kind) (le := τ 804 0 s) hc (by rw [Sσ 200 (by decide)]; exact d0) (by rw [Sσ 201 (by decide)]; exact d1) (by rw [Sσ 202 (by decide)]; exact d2) (by rw [Sσ 203 (by decide)]; exact d3) (by simp [up_rd]) (by rw [Sσ 205 (by decide)]; exact d5) (by rw [Sσ 206 (by decide)]; exact d6) k7 (by rw [Sσ 208 (by decide)]; exact d8) (by simp [up_rd]) (by simp [up_rd]) (by rcases hk with rfl | rfl <;> decide)]
  exact m
theorem b_nak {σ τ : Mem} {c s : Nat} {x xid gi t : Int32} {Q : List Pk} (hc : c < 12) (hR : RRE σ τ) (hD : DRB σ c xid gi) (hQ : MU τ Q) : ∃ σ' τ', f_X6_decide 0 x s t 1 σ = some σ' ∧ f_X8_answer (nI s) 6 0 xid gi (nI c) τ = some τ' ∧ LOK Q (mpl gi (nI c)) σ τ σ' τ' := by
  obtain ⟨τ', e, S, m, l⟩ := m_nak (c := c) (s := s) (xid := xid) (gi := gi) hQ
  unfold f_X6_decide
  rw [if_pos rfl, vl_d, vl_d]
  obtain ⟨d0, d1, d2, d3, d4, d5, d6, d7, d8, d9, d10⟩ := hD
  have Sσ : Sm [207, 210] σ (up (up σ 207 1 0 6) 210 1 0 1) := Sm.up (by decide) (Sm.up (by decide) Sm.rf)
  have k7 : up (up σ 207 1 0 6) 210 1 0 1 207 1 0 = 6 := by simp [up_rd]
  refine ⟨_, τ', rfl, e, Sσ.mono (by decide), S.mono (by decide), hR.mv (fun f a b => Sσ f (by simp; omega)) (fun f a b => S f (by simp; omega)), fun f j a b d => by rw [up_fj d, up_fj d], Or.inr ⟨by rw [k7]; decide, ?_, l⟩⟩
  rw [mEnc_sv (c := c) (xid := xid) (yi := 0) (gi := gi) (kind := 6) (le := 0) hc (by rw [Sσ 200 (by decide)]; exact d0) (by rw [Sσ 201 (by decide)]; exact d1) (by rw [Sσ 202 (by decide)]; exact d2) (by rw [Sσ 203 (by decide)]; exact d3) (by rw [Sσ 204 (by decide)]; exact d4) (by rw [Sσ 205 (by decide)]; exact d5) (by rw [Sσ 206 (by decide)]; exact d6) k7 (by rw [Sσ 208 (by decide)]; exact d8) (by rw [Sσ 209 (by decide)]; exact d9) (by simp [up_rd]) (by decide)]
  exact m
/-! records written -/
def WR (σ : Mem) (a : Nat) (st ow e : Int32) : Mem := up (up (up σ 602 0 a st) 603 0 a ow) 604 0 a e
def MR (τ : Mem) (a : Nat) (st ow e : Int32) : Mem := up (up (up τ 807 0 a st) 808 0 a ow) 809 0 a e
theorem k_write {σ : Mem} {a : Nat} {st ow e : Int32} (ha : a < 1024) : f_X6_write (nI a) st ow e σ = some (WR σ a st ow e) := by
  unfold f_X6_write WR
  simp only [gd_p (vin_n ha (by decide)), vl_d, cln (show a < 2 ^ 31 by omega)]
theorem m_write {τ : Mem} {a : Nat} {st ow e : Int32} (ha : a < 1024) : f_X8_setRecord (nI a) st ow e τ = some (MR τ a st ow e) := by
  unfold f_X8_setRecord MR
  simp only [gd_p (vin_n ha (by decide)), vl_d, cln (show a < 2 ^ 31 by omega)]
theorem WR_S {σ : Mem} {a : Nat} {st ow e : Int32} : Sm [602, 603, 604] σ (WR σ a st ow e) := by unfold WR; exact Sm.up (by decide) (Sm.up (by decide) (Sm.up (by decide) Sm.rf))
theorem MR_S {τ : Mem} {a : Nat} {st ow e : Int32} : Sm [807, 808, 809] τ (MR τ a st ow e) := by unfold MR; exact Sm.up (by decide) (Sm.up (by decide) (Sm.up (by decide) Sm.rf))
theorem RRE.wr {σ τ : Mem} {a : Nat} {st ow ow2 e : Int32} (h : RRE σ τ) (ha0 : 1 ≤ a) (hst : st = 0 ∨ st = 1 ∨ st = 2 ∨ st = 3) (ho : ow = if st = 1 ∨ st = 2 then ow2 else -1) : RRE (WR σ a st ow e) (MR τ a st ow2 e) := by
  refine h.put (a := a) (fun b hb => ?_) ?_
  · unfold WR MR
    simp [up_rd, hb]
  · unfold RC1 WR MR
    refine ⟨by simp [up_rd], by simp [up_rd], ?_, ?_, fun q => by omega⟩
    · rw [up_fn (by decide), up_fn (by decide), up_at]; exact hst
    · rw [up_fn (by decide), up_at, up_fn (by decide), up_fn (by decide), up_at, up_fn (by decide), up_at]; exact ho
theorem b_lease {σ τ : Mem} {c s lo hi a : Nat} {xid gi t : Int32} {Q : List Pk} (hc : c < 12) (hP : PXS σ τ s lo hi) (hR : RRE σ τ) (hD : DRB σ c xid gi) (hQ : MU τ Q) (ht : t = τ 801 0 0) (ha1 : 1 ≤ a) (ha : a < 1024) (ho : OWC (nI c) σ a) : ∃ σ' τ', f_X6_decide 1 (nI a) s t 1 σ = some σ' ∧ bv (f_X8_leaseTo (nI s) (nI c) (nI a) τ) (fun s3 => f_X8_answer (nI s) 5 (nI a) xid gi (nI c) s3) = some τ' ∧ LOK Q (mpl gi (nI c)) σ τ σ' τ' := by
  have hP2 := hP
  obtain ⟨hs, -, -, -, -, -, -, -, hl, hl0⟩ := hP
  obtain ⟨r1, r2, r3, r4⟩ := hR a ha
  have core : ∀ v : Int32, ∃ σ' τ', f_X6_decide_50 (nI a) s 1 v σ = some σ' ∧ bv (f_X8_leaseTo_45 (nI c) (nI a) v τ) (fun s3 => f_X8_answer (nI s) 5 (nI a) xid gi (nI c) s3) = some τ' ∧ LOK Q (mpl gi (nI c)) σ τ σ' τ' := by
    intro v
    unfold f_X6_decide_50 f_X8_leaseTo_45
    rw [gd_p (vin_n ha (by decide)), vl_d, gd_p (vin_n ha (by decide)), vl_d, cln (by omega), m_write ha, bv_s, bv_s, bv_id]
    have eW : up (up σ 602 0 a 2) 604 0 a v = WR σ a 2 (nI c) v := by
      unfold WR
      rw [up_same (σ := up σ 602 0 a 2) (f := 603) (by rw [up_fn (by decide)]; exact ho)]
    rw [eW]
    obtain ⟨σ', τ', e1, e2, L⟩ := b_grant (kind := 5) (yi := nI a) hc (hP2.mv (fun f x y => WR_S f (by simp; omega)) (fun f x y => MR_S f (by simp; omega))) (hR.wr (a := a) (st := 2) (ow := nI c) (ow2 := nI c) (e := v) ha1 (by simp) (by simp)) (hD.mv (fun f x y => WR_S f (by simp; omega))) (hQ.mv (MR_S _ (by decide)) (MR_S _ (by decide)) (MR_S _ (by decide)) (MR_S _ (by decide))) (Or.inr rfl)
    exact ⟨σ', τ', e1, e2, L.pre WR_S MR_S⟩
  have K : f_X6_decide 1 (nI a) s t 1 σ = if σ 602 0 a = 2 then f_X6_decide_50 (nI a) s 1 (if t + σ 402 s 0 < σ 604 0 a then σ 604 0 a else t + σ 402 s 0) σ else f_X6_decide_50 (nI a) s 1 (t + σ 402 s 0) σ := by
    unfold f_X6_decide
    rw [if_neg (by decide)]
    simp only [gd_p (vin_n ha (by decide)), vl_d, cln (show a < 2 ^ 31 by omega)]
  have M : f_X8_leaseTo (nI s) (nI c) (nI a) τ = if τ 807 0 a = 2 then (if τ 809 0 a ≤ τ 801 0 0 + τ 804 0 s then f_X8_leaseTo_45 (nI c) (nI a) (τ 801 0 0 + τ 804 0 s) τ else f_X8_leaseTo_45 (nI c) (nI a) (τ 809 0 a) τ) else f_X8_leaseTo_45 (nI c) (nI a) (τ 801 0 0 + τ 804 0 s) τ := by
    unfold f_X8_leaseTo f_X8_leaseTo_43
    simp only [gd_p (vin_n ha (by decide)), gd_p (v4 hs), vl_d, cln (show a < 2 ^ 31 by omega), cln (show s < 2 ^ 31 by omega)]
  rw [K, M, r1, r2, hl, ← ht]
  by_cases c2 : τ 807 0 a = 2
  · rw [if_pos c2, if_pos c2]
    by_cases c3 : t + τ 804 0 s < τ 809 0 a
    · rw [if_pos c3, if_neg (Int32.not_le.mpr c3)]
      exact core _
    · rw [if_neg c3, if_pos (Int32.not_lt.mp c3)]
      exact core _
  · rw [if_neg c2, if_neg c2]
    exact core _
