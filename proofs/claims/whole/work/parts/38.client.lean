/-! the clients of both sides -/
theorem bn_id (x : Option (Int32 × Mem)) : bn x (fun r s => some (r, s)) = x := by cases x with | none => rfl | some p => rfl
theorem bv_id (x : Option Mem) : bv x (fun s => some s) = x := by cases x with | none => rfl | some p => rfl
theorem up_comm {σ : Mem} {f g j i j2 i2 : Nat} {x y : Int32} (h : f ≠ g) : up (up σ f j i x) g j2 i2 y = up (up σ g j2 i2 y) f j i x := by
  funext a b c
  rw [up_rd, up_rd, up_rd, up_rd]
  by_cases h1 : a = g ∧ b = j2 ∧ c = i2
  · rw [if_pos h1, if_neg (fun q => h (q.1.symm.trans h1.1)), if_pos h1]
  · rw [if_neg h1, if_neg h1]
abbrev PRS : List (Nat × Nat) := [(101, 812), (102, 813), (103, 814), (104, 815), (105, 816), (106, 817), (107, 818), (108, 820), (109, 819), (110, 821), (111, 822)]
def REQ (σ τ : Mem) : Prop := ∀ p ∈ PRS, ∀ c, c < 12 → σ p.1 c 0 = τ p.2 0 c
theorem PRS_inj : ∀ p ∈ PRS, ∀ q ∈ PRS, (q.1 = p.1 ↔ q.2 = p.2) := by decide
theorem PRS_r : ∀ p ∈ PRS, (101 ≤ p.1 ∧ p.1 < 112) ∧ (812 ≤ p.2 ∧ p.2 < 823) := by decide
theorem REQ.up {σ τ : Mem} {f g c : Nat} {x : Int32} (hp : (f, g) ∈ PRS) (h : REQ σ τ) : REQ (up σ f c 0 x) (up τ g 0 c x) := by
  intro q hq d hd
  rw [up_rd, up_rd]
  have hi := PRS_inj (f, g) hp q hq
  by_cases e : q.1 = f
  · by_cases e2 : d = c
    · rw [if_pos ⟨e, e2, rfl⟩, if_pos ⟨hi.mp e, rfl, e2⟩]
    · rw [if_neg (fun a => e2 a.2.1), if_neg (fun a => e2 a.2.2)]; exact h q hq d hd
  · rw [if_neg (fun a => e a.1), if_neg (fun a => e (hi.mpr a.1))]; exact h q hq d hd
theorem REQ.mv {σ τ σ' τ' : Mem} (h : REQ σ τ) (a : ∀ f, 101 ≤ f → f < 112 → σ' f = σ f) (b : ∀ f, 812 ≤ f → f < 823 → τ' f = τ f) : REQ σ' τ' := by
  intro p hp c hc
  obtain ⟨q1, q2⟩ := PRS_r p hp
  rw [a p.1 q1.1 q1.2, b p.2 q2.1 q2.2]
  exact h p hp c hc
def CIV (m s a tr o r : Int32) : Prop := (s = 0 ∨ s = 1 ∨ s = 2 ∨ s = 3) ∧ (m = 1 ∨ m = 2 ∨ m = 6 → tr = 1 ∨ tr = 2 ∨ tr = 3) ∧ (m = 2 → ¬ o = 0 ∧ ¬ r = 0) ∧ (m = 6 → ¬ a = 0)
def cIV (σ : Mem) (c : Nat) : Prop := CIV (σ 101 c 0) (σ 102 c 0) (σ 103 c 0) (σ 108 c 0) (σ 110 c 0) (σ 111 c 0)
/-- what a client's doing leaves as it was -/
def FC (c : Nat) (σ σ' : Mem) : Prop := (∀ f, (f < 101 ∨ (111 < f ∧ f < 200) ∨ 210 < f) → σ' f = σ f) ∧ (∀ f j, f < 200 → j ≠ c → σ' f j = σ f j) ∧ ∀ f j, 200 ≤ f → j ≠ 1 → σ' f j = σ f j
theorem FC.rf {c : Nat} {σ : Mem} : FC c σ σ := ⟨fun _ _ => rfl, fun _ _ _ _ => rfl, fun _ _ _ _ => rfl⟩
theorem FC.tr {c : Nat} {σ σ1 σ2 : Mem} (h : FC c σ σ1) (h2 : FC c σ1 σ2) : FC c σ σ2 := ⟨fun f a => (h2.1 f a).trans (h.1 f a), fun f j a b => (h2.2.1 f j a b).trans (h.2.1 f j a b), fun f j a b => (h2.2.2 f j a b).trans (h.2.2 f j a b)⟩
theorem FC.uc {c : Nat} {σ σ1 : Mem} {f i : Nat} {x : Int32} (a : 101 ≤ f) (b : f < 112) (h : FC c σ σ1) : FC c σ (up σ1 f c i x) := h.tr ⟨fun g hg => up_fn (by omega), fun g j hg hj => up_fj hj, fun g j hg hj => by rw [up_fn (by omega)]⟩
theorem FC.ud {c : Nat} {σ σ1 : Mem} {f i : Nat} {x : Int32} (a : 200 ≤ f) (b : f < 211) (h : FC c σ σ1) : FC c σ (up σ1 f 1 i x) := h.tr ⟨fun g hg => up_fn (by omega), fun g j hg hj => by rw [up_fn (by omega)], fun g j hg hj => up_fj hj⟩
def bpl (s : Int32) : Int32 := if s = 0 then 16 else 12 + s
def PLC (r : Int32) : Prop := ∃ n, r = nI n ∧ n ≤ 16 ∧ n ≠ 12
theorem bpl_ok {s : Int32} (h : s = 0 ∨ s = 1 ∨ s = 2 ∨ s = 3) : PLC (bpl s) := by
  rcases h with rfl | rfl | rfl | rfl
  · exact ⟨16, rfl, by decide, by decide⟩
  · exact ⟨13, rfl, by decide, by decide⟩
  · exact ⟨14, rfl, by decide, by decide⟩
  · exact ⟨15, rfl, by decide, by decide⟩
def lqx (Q : List Pk) (x : Int32) : Int32 := if Q.length < 60 then x else x + 1
/-- a client's message -/
def CM (c : Nat) (x ci kind wa se : Int32) : List Int32 := encH 1 0 x ci 0 0 (nI c) kind ++ (o6 50 wa ++ (o6 54 se ++ [255]))
theorem c255 : ∀ c : Fin 12, nI c.val &&& 255 = nI c.val := by decide
theorem mEnc_dr {σ : Mem} {c : Nat} {x ci kind wa se : Int32} (hc : c < 12) (h0 : σ 200 1 0 = 1) (h1 : σ 201 1 0 = 0) (h2 : σ 202 1 0 = x) (h3 : σ 203 1 0 = ci) (h4 : σ 204 1 0 = 0) (h5 : σ 205 1 0 = 0) (h6 : σ 206 1 0 = nI c) (h7 : σ 207 1 0 = kind) (h8 : σ 208 1 0 = wa) (h9 : σ 209 1 0 = 0) (h10 : σ 210 1 0 = se) (hk : kind &&& 255 = kind) : mEnc σ 1 = CM c x ci kind wa se := by
  unfold mEnc CM encO
  rw [h0, h1, h2, h3, h4, h5, h6, h7, h8, h9, h10, hk, c255 ⟨c, hc⟩]
  rfl
def PRE (c : Nat) (kind t : Int32) (σ : Mem) : Mem := up (up (up (up (up (up (up (up (up (up (up (up (up (up σ 107 c 0 (σ 107 c 0 + 1)) 109 c 0 t) 200 1 0 1) 201 1 0 0) 202 1 0 (σ 107 c 0 + 1)) 203 1 0 0) 204 1 0 0) 205 1 0 0) 206 1 0 (σ 100 c 0)) 207 1 0 (-1)) 208 1 0 0) 209 1 0 0) 210 1 0 0) 207 1 0 kind
theorem k_prepare (c : Nat) (kind t : Int32) (σ : Mem) : f_X1_prepare c kind t 1 σ = some (PRE c kind t σ) := by
  unfold f_X1_prepare f_X2_start PRE
  simp only [vl_d, bv_s]
  rw [show up (up σ 107 c 0 (σ 107 c 0 + 1)) 109 c 0 t 107 c 0 = σ 107 c 0 + 1 by rw [up_fn (by decide), up_at], show up (up σ 107 c 0 (σ 107 c 0 + 1)) 109 c 0 t 100 c 0 = σ 100 c 0 by rw [up_fn (by decide), up_fn (by decide)]]
theorem PRE_fc {c : Nat} {kind t : Int32} {σ : Mem} : FC c σ (PRE c kind t σ) := by
  unfold PRE
  exact FC.ud (by decide) (by decide) (FC.ud (by decide) (by decide) (FC.ud (by decide) (by decide) (FC.ud (by decide) (by decide) (FC.ud (by decide) (by decide) (FC.ud (by decide) (by decide) (FC.ud (by decide) (by decide) (FC.ud (by decide) (by decide) (FC.ud (by decide) (by decide) (FC.ud (by decide) (by decide) (FC.ud (by decide) (by decide) (FC.ud (by decide) (by decide) (FC.uc (by decide) (by decide) (FC.uc (by decide) (by decide) FC.rf)))))))))))))
theorem PRE_lo {c : Nat} {kind t : Int32} {σ : Mem} {f : Nat} (h : f < 200) : PRE c kind t σ f = up (up σ 107 c 0 (σ 107 c 0 + 1)) 109 c 0 t f := by
  unfold PRE
  rw [up_fn (by omega), up_fn (by omega), up_fn (by omega), up_fn (by omega), up_fn (by omega), up_fn (by omega), up_fn (by omega), up_fn (by omega), up_fn (by omega), up_fn (by omega), up_fn (by omega), up_fn (by omega)]
/-- what a client has said -/
def KSD (c : Nat) (t kind ci wa se : Int32) (σ σ' : Mem) : Prop := FC c σ σ' ∧ (∀ f, f < 200 → σ' f = up (up σ 107 c 0 (σ 107 c 0 + 1)) 109 c 0 t f) ∧ mEnc σ' 1 = CM c (σ 107 c 0 + 1) ci kind wa se
theorem ksd_pre {c : Nat} {t kind ci wa se : Int32} {σ : Mem} (hc : c < 12) (hid : σ 100 c 0 = nI c) (hk : kind &&& 255 = kind) : KSD c t kind ci wa se σ (up (up (up (PRE c kind t σ) 203 1 0 ci) 208 1 0 wa) 210 1 0 se) := by
  refine ⟨FC.ud (by decide) (by decide) (FC.ud (by decide) (by decide) (FC.ud (by decide) (by decide) PRE_fc)), fun f hf => ?_, ?_⟩
  · rw [up_fn (by omega), up_fn (by omega), up_fn (by omega), PRE_lo hf]
  · unfold PRE
    apply mEnc_dr hc _ _ _ _ _ _ _ _ _ _ _ hk <;> simp [up_rd, hid]
theorem up_same {σ : Mem} {f j i : Nat} {x : Int32} (h : σ f j i = x) : up σ f j i x = σ := by
  funext a b c
  rw [up_rd]
  by_cases q : a = f ∧ b = j ∧ c = i
  · rw [if_pos q, q.1, q.2.1, q.2.2]; exact h.symm
  · rw [if_neg q]
theorem k_place (c : Nat) (σ : Mem) : f_X1_broadcastPlace c σ = some (bpl (σ 102 c 0), σ) := by
  unfold f_X1_broadcastPlace f_X7_relayOf bpl
  by_cases h : σ 102 c 0 = 0
  · rw [if_pos h, if_pos h]
  · rw [if_neg h, if_neg h, bn_s]
