/-! both sides as a whole -/
def PQS (Q : List Pk) : Prop := ∀ p ∈ Q, PLC p.1 ∧ BY p.2 ∧ p.2.length ≤ 60
def RST (σ τ : Mem) : Prop := σ 708 0 0 = τ 801 0 0 ∧ (∀ c, c < 12 → σ 100 c 0 = nI c ∧ cIV σ c) ∧ REQ σ τ ∧ RPO σ τ ∧ (∀ a, a < 1024 → σ 703 0 a = τ 805 0 a) ∧ RDN σ τ ∧ RRE σ τ ∧ RXI σ τ
def RQT (σ τ : Mem) (Q : List Pk) (T : List Int32) : Prop := CQ σ Q ∧ MU τ Q ∧ σ 502 0 0 = τ 824 0 0 ∧ PQS Q ∧ BL σ 60 T ∧ MT τ T ∧ BY T
theorem RST.mv {σ τ σ' τ' : Mem} (h : RST σ τ) (a : ∀ f, (100 ≤ f ∧ f < 112) ∨ (400 ≤ f ∧ f < 403) ∨ (600 ≤ f ∧ f < 800) → σ' f = σ f) (b : ∀ f, 801 ≤ f → f < 823 → τ' f = τ f) : RST σ' τ' := by
  obtain ⟨h1, h2, h3, h4, h5, h6, h7, h8⟩ := h
  refine ⟨?_, fun c hc => ?_, h3.mv (fun f x y => a f (by omega)) (fun f x y => b f (by omega) (by omega)), h4.mv (fun f x y => a f (by omega)) (fun f x y => b f (by omega) (by omega)), fun n hn => ?_, ?_, h7.mv (fun f x y => a f (by omega)) (fun f x y => b f (by omega) (by omega)), h8.mv (a 605 (by omega)) (b 810 (by omega) (by omega)) (b 811 (by omega) (by omega))⟩
  · rw [a 708 (by omega), b 801 (by omega) (by omega)]; exact h1
  · rw [a 100 (by omega)]
    refine ⟨(h2 c hc).1, ?_⟩
    unfold cIV
    rw [a 101 (by omega), a 102 (by omega), a 103 (by omega), a 108 (by omega), a 110 (by omega), a 111 (by omega)]
    exact (h2 c hc).2
  · rw [a 703 (by omega), b 805 (by omega) (by omega)]; exact h5 n hn
  · unfold RDN
    rw [a 600 (by omega), b 806 (by omega) (by omega)]; exact h6
theorem CQ.mv {σ σ' : Mem} {Q : List Pk} (h : CQ σ Q) (a : ∀ f, f = 301 ∨ (500 ≤ f ∧ f < 502) → σ' f = σ f) (b : ∀ f j, f < 2 → j < 60 → σ' f j = σ f j) : CQ σ' Q := by
  obtain ⟨h1, h2, h3, h4, h5⟩ := h
  have ep : ∀ k, pi σ' k = pi σ k := fun k => by unfold pi; rw [a 500 (by omega)]
  refine ⟨by rw [a 501 (by omega)]; exact h1, h2, fun k hk => by rw [ep]; exact h3 k hk, fun x y hx hy e => h4 x y hx hy (by rw [← ep, ← ep]; exact e), fun k p hk => ?_⟩
  have hkl := q_lt hk
  rw [ep, a 301 (by omega)]
  obtain ⟨p1, p2⟩ := h5 k p hk
  exact ⟨p1, p2.mv (b 0 _ (by omega) (h3 k (by omega))) (b 1 _ (by omega) (h3 k (by omega)))⟩
theorem MT.mv {σ σ' : Mem} {T : List Int32} (h : MT σ T) (a : σ' 830 = σ 830) (b : σ' 831 = σ 831) : MT σ' T := ⟨by rw [a]; exact h.1, h.2.1, fun i hi => by rw [b]; exact h.2.2 i hi⟩
theorem RQT.mv {σ τ σ' τ' : Mem} {Q : List Pk} {T : List Int32} (h : RQT σ τ Q T) (a : ∀ f, f = 301 ∨ (500 ≤ f ∧ f < 503) → σ' f = σ f) (b : ∀ f j, f < 2 → j ≤ 60 → σ' f j = σ f j) (d : ∀ f, (823 ≤ f ∧ f < 828) ∨ f = 830 ∨ f = 831 → τ' f = τ f) : RQT σ' τ' Q T := by
  obtain ⟨h1, h2, h3, h4, h5, h6, h7⟩ := h
  refine ⟨h1.mv (fun f x => a f (by omega)) (fun f j x y => b f j x (by omega)), h2.mv (d _ (by omega)) (d _ (by omega)) (d _ (by omega)) (d _ (by omega)), ?_, h4, h5.mv (b _ _ (by omega) (by omega)) (b _ _ (by omega) (by omega)), h6.mv (d _ (by omega)) (d _ (by omega)), h7⟩
  rw [a 502 (by omega), d 824 (by omega)]; exact h3
def CLO (σ σ' : Mem) : Prop := ∀ f, 800 ≤ f → σ' f = σ f
def MHI (τ τ' : Mem) : Prop := ∀ f, f < 801 → τ' f = τ f
theorem CLO.tr {σ σ1 σ2 : Mem} (h : CLO σ σ1) (h2 : CLO σ1 σ2) : CLO σ σ2 := fun f a => (h2 f a).trans (h f a)
theorem MHI.tr {σ σ1 σ2 : Mem} (h : MHI σ σ1) (h2 : MHI σ1 σ2) : MHI σ σ2 := fun f a => (h2 f a).trans (h f a)
theorem bys (x : Int32) : ∃ n, n < 256 ∧ x &&& 255 = nI n := pk_andE x (m := 255) 8 (by decide)
theorem BY.ap {L M : List Int32} (h : ∀ x ∈ L, ∃ n, n < 256 ∧ x = nI n) (h2 : ∀ x ∈ M, ∃ n, n < 256 ∧ x = nI n) : ∀ x ∈ L ++ M, ∃ n, n < 256 ∧ x = nI n := by
  intro x hx
  rcases List.mem_append.mp hx with q | q
  · exact h x q
  · exact h2 x q
theorem BY.of {L : List Int32} (h : ∀ x ∈ L, ∃ n, n < 256 ∧ x = nI n) : BY L := by
  intro i
  rw [List.getD_eq_getElem?_getD]
  cases e : L[i]? with
  | none => exact ⟨0, by decide, rfl⟩
  | some y => exact h y (List.mem_of_getElem? e)
theorem by_b4 (v : Int32) : ∀ x ∈ b4 v, ∃ n, n < 256 ∧ x = nI n := by
  intro x hx
  simp only [b4, List.mem_cons, List.not_mem_nil, or_false] at hx
  rcases hx with rfl | rfl | rfl | rfl
  · rw [← bb24]; exact bys _
  · exact bys _
  · exact bys _
  · exact bys _
theorem by_o6 (code : Nat) (v : Int32) (h : code < 256) : ∀ x ∈ o6 (nI code) v, ∃ n, n < 256 ∧ x = nI n := by
  unfold o6
  split
  · intro x hx; cases hx
  · exact BY.ap (fun x hx => by
      simp only [List.mem_cons, List.not_mem_nil, or_false] at hx
      rcases hx with rfl | rfl
      · exact ⟨code, h, rfl⟩
      · exact ⟨4, by decide, rfl⟩) (by_b4 v)
theorem by_mEnc (σ : Mem) (j : Nat) : BY (mEnc σ j) := by
  apply BY.of
  unfold mEnc encH encO
  refine BY.ap (BY.ap (fun x hx => ?_) (BY.ap (by_b4 _) (BY.ap (by_b4 _) (BY.ap (by_b4 _) (BY.ap (by_b4 _) (fun x hx => ?_)))))) (BY.ap (by_o6 50 _ (by decide)) (BY.ap (by_o6 51 _ (by decide)) (BY.ap (by_o6 54 _ (by decide)) (fun x hx => ?_))))
  · simp only [List.mem_cons, List.not_mem_nil, or_false] at hx
    rcases hx with rfl | rfl
    · exact bys _
    · exact bys _
  · simp only [List.mem_cons, List.not_mem_nil, or_false] at hx
    rcases hx with rfl | rfl | rfl | rfl
    · exact bys _
    · exact ⟨53, by decide, rfl⟩
    · exact ⟨1, by decide, rfl⟩
    · exact bys _
  · simp only [List.mem_cons, List.not_mem_nil, or_false] at hx
    subst hx
    exact ⟨255, by decide, rfl⟩
theorem len_mEnc (σ : Mem) (j : Nat) : (mEnc σ j).length ≤ 60 := by
  unfold mEnc
  rw [List.length_append, encH_len]
  have := encO_len (σ 208 j 0) (σ 209 j 0) (σ 210 j 0)
  omega
theorem PQS.push {Q : List Pk} {p : Pk} (h : PQS Q) (h2 : PLC p.1 ∧ BY p.2 ∧ p.2.length ≤ 60) : PQS (qp Q p) := by
  unfold qp
  split
  · intro q hq
    rcases List.mem_append.mp hq with w | w
    · exact h q w
    · rw [List.mem_singleton.mp w]; exact h2
  · exact h
theorem PLC.ne {r : Int32} (h : PLC r) : ¬ r = -1 := by
  obtain ⟨n, rfl, h1, h2⟩ := h
  exact fun q => absurd (q ▸ nI_pos (n := n) (by omega)) (by decide)
theorem fin_post {σ τ : Mem} {Q : List Pk} {r l0 : Int32} (hC : CQ σ Q) (hl : σ 502 0 0 = l0) (h : (r = -1 ∧ MU τ Q ∧ τ 824 0 0 = l0) ∨ (PLC r ∧ MU τ (qp Q (r, mEnc σ 1)) ∧ τ 824 0 0 = lqx Q l0)) (hp : PQS Q) : ∃ σ' Q', f_X5_post r 1 σ = some σ' ∧ CQ σ' Q' ∧ MU τ Q' ∧ σ' 502 0 0 = τ 824 0 0 ∧ PQS Q' ∧ FR σ σ' := by
  rcases h with ⟨rfl, h1, h2⟩ | ⟨h0, h1, h2⟩
  · refine ⟨σ, Q, ?_, hC, h1, hl.trans h2.symm, hp, Sm.rf, fun _ _ _ => rfl⟩
    unfold f_X5_post
    rw [if_pos rfl]
  · obtain ⟨σ', e, c1, c2, c3⟩ := v_post (j := 1) hC h0.ne
    refine ⟨σ', _, e, c1, h1, ?_, hp.push ⟨h0, by_mEnc σ 1, len_mEnc σ 1⟩, c3⟩
    rw [c2, h2, hl]; rfl
theorem rst_client {c : Nat} {r : Int32} {Q : List Pk} {σ τ σ' τ' : Mem} (hc : c < 12) (h : RST σ τ) (o : OPR c r Q σ τ σ' τ') : RST σ' τ' := by
  obtain ⟨h1, h2, h3, h4, h5, h6, h7, h8⟩ := h
  obtain ⟨o1, o2, o3, o4, -⟩ := o
  have a : ∀ f, (f < 101 ∨ (111 < f ∧ f < 200) ∨ 210 < f) → σ' f = σ f := o1.1
  have b : ∀ f, 801 ≤ f → f < 812 → τ' f = τ f := fun f x y => o2 f (by simp; omega)
  refine ⟨?_, fun d hd => ?_, o3, h4.mv (fun f x y => a f (by omega)) (fun f x y => b f (by omega) (by omega)), fun n hn => ?_, ?_, h7.mv (fun f x y => a f (by omega)) (fun f x y => b f (by omega) (by omega)), h8.mv (a 605 (by omega)) (b 810 (by omega) (by omega)) (b 811 (by omega) (by omega))⟩
  · rw [a 708 (by omega), b 801 (by omega) (by omega)]; exact h1
  · rw [a 100 (by omega)]
    refine ⟨(h2 d hd).1, ?_⟩
    by_cases q : d = c
    · rw [q]; exact o4
    · have w := o1.2.1
      unfold cIV
      rw [w 101 d (by omega) q, w 102 d (by omega) q, w 103 d (by omega) q, w 108 d (by omega) q, w 110 d (by omega) q, w 111 d (by omega) q]
      exact (h2 d hd).2
  · rw [a 703 (by omega), b 805 (by omega) (by omega)]; exact h5 n hn
  · unfold RDN
    rw [a 600 (by omega), b 806 (by omega) (by omega)]; exact h6
theorem rst_server {r : Int32} {Q : List Pk} {σ τ σ' τ' : Mem} (h : RST σ τ) (o : OPS r Q σ τ σ' τ') : RST σ' τ' := by
  obtain ⟨h1, h2, h3, h4, h5, h6, h7, h8⟩ := h
  obtain ⟨o1, o2, o3, o4, -⟩ := o
  have a : ∀ f, (f < 200 ∨ (210 < f ∧ f < 602) ∨ 605 < f) → σ' f = σ f := fun f x => o1 f (by simp; omega)
  have b : ∀ f, (f < 807 ∨ (811 < f ∧ f < 823) ∨ 829 < f) → τ' f = τ f := fun f x => o2 f (by simp; omega)
  refine ⟨?_, fun d hd => ?_, h3.mv (fun f x y => a f (by omega)) (fun f x y => b f (by omega)), h4.mv (fun f x y => a f (by omega)) (fun f x y => b f (by omega)), fun n hn => ?_, ?_, o3, o4⟩
  · rw [a 708 (by omega), b 801 (by omega)]; exact h1
  · rw [a 100 (by omega)]
    refine ⟨(h2 d hd).1, ?_⟩
    unfold cIV
    rw [a 101 (by omega), a 102 (by omega), a 103 (by omega), a 108 (by omega), a 110 (by omega), a 111 (by omega)]
    exact (h2 d hd).2
  · rw [a 703 (by omega), b 805 (by omega)]; exact h5 n hn
  · unfold RDN
    rw [a 600 (by omega), b 806 (by omega)]; exact h6
/-- a client's doing, and the posting after it -/
theorem end_client {c : Nat} {r : Int32} {Q : List Pk} {T : List Int32} {σ τ σ' τ' : Mem} (hc : c < 12) (h : RST σ τ) (hq : RQT σ τ Q T) (o : OPR c r Q σ τ σ' τ') : ∃ σ'' Q', f_X5_post r 1 σ' = some σ'' ∧ RST σ'' τ' ∧ RQT σ'' τ' Q' T ∧ CLO σ σ'' ∧ MHI τ τ' := by
  have hs := rst_client hc h o
  obtain ⟨o1, o2, o3, o4, o5⟩ := o
  obtain ⟨q1, q2, q3, q4, q5, q6, q7⟩ := hq
  have a : ∀ f, (f < 101 ∨ (111 < f ∧ f < 200) ∨ 210 < f) → σ' f = σ f := o1.1
  obtain ⟨σ'', Q', e, p1, p2, p3, p4, p5⟩ := fin_post (σ := σ') (τ := τ') (l0 := τ 824 0 0) (q1.mv (fun f x => a f (by omega)) (fun f j x y => by rw [a f (by omega)])) (by rw [a 502 (by omega)]; exact q3) o5 q4
  refine ⟨σ'', Q', e, hs.mv (fun f x => p5.1 f (by simp; omega)) (fun f x y => rfl), ⟨p1, p2, p3, p4, ?_, q6.mv (o2 _ (by decide)) (o2 _ (by decide)), q7⟩, fun f x => ?_, fun f x => o2 f (by simp; omega)⟩
  · exact q5.mv (by rw [p5.2 0 60 (by omega), a 0 (by omega)]) (by rw [p5.2 1 60 (by omega), a 1 (by omega)])
  · rw [p5.1 f (by simp; omega), a f (by omega)]
theorem end_server {r : Int32} {Q : List Pk} {T : List Int32} {σ τ σ' τ' : Mem} (h : RST σ τ) (hq : RQT σ τ Q T) (o : OPS r Q σ τ σ' τ') : ∃ σ'' Q', f_X5_post r 1 σ' = some σ'' ∧ RST σ'' τ' ∧ RQT σ'' τ' Q' T ∧ CLO σ σ'' ∧ MHI τ τ' := by
  have hs := rst_server h o
  obtain ⟨o1, o2, o3, o4, o5⟩ := o
  obtain ⟨q1, q2, q3, q4, q5, q6, q7⟩ := hq
  have a : ∀ f, (f < 200 ∨ (210 < f ∧ f < 602) ∨ 605 < f) → σ' f = σ f := fun f x => o1 f (by simp; omega)
  obtain ⟨σ'', Q', e, p1, p2, p3, p4, p5⟩ := fin_post (σ := σ') (τ := τ') (l0 := τ 824 0 0) (q1.mv (fun f x => a f (by omega)) (fun f j x y => by rw [a f (by omega)])) (by rw [a 502 (by omega)]; exact q3) o5 q4
  refine ⟨σ'', Q', e, hs.mv (fun f x => p5.1 f (by simp; omega)) (fun f x y => rfl), ⟨p1, p2, p3, p4, ?_, q6.mv (o2 _ (by decide)) (o2 _ (by decide)), q7⟩, fun f x => ?_, fun f x => o2 f (by simp; omega)⟩
  · exact q5.mv (by rw [p5.2 0 60 (by omega), a 0 (by omega)]) (by rw [p5.2 1 60 (by omega), a 1 (by omega)])
  · rw [p5.1 f (by simp; omega), a f (by omega)]
