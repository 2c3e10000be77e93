/-! typing, on both sides -/
theorem tyg (w : BitVec 64) (k i : Nat) (hk : k ≤ 56) (hi : i < 32) : ((BitVec.signExtend 32 (w >>> k))[i] && decide (i < 8)) = ((BitVec.signExtend 32 (w.sshiftRight k))[i] && decide (i < 8)) := by
  by_cases h8 : i < 8
  · rw [BitVec.getElem_signExtend, BitVec.getElem_signExtend]
    simp [h8, show i < 64 by omega, show k + i < 64 by omega]
    rw [BitVec.getElem_sshiftRight]
    simp [show k + i < 64 by omega, BitVec.getLsbD_eq_getElem]
  · simp [h8]
theorem tyb0 (w : Int64) : (((w.toUInt64 >>> ((8 * nI 0).toInt64.toUInt64 &&& Int64.toUInt64 63)).toInt64).toInt32) &&& 255 = (((w >>> ((8 * nI 0).toInt64 &&& 63)) &&& (255 : Int64))).toInt32 := by
  apply Int32.toBitVec_inj.mp
  rw [show (8 * nI 0).toInt64 = 0 from rfl, show (0 : Int64).toUInt64 &&& Int64.toUInt64 63 = 0 from rfl, show (0 : Int64) &&& 63 = 0 from rfl]
  ext i hi
  simp only [Int32.toBitVec_and, Int64.toBitVec_toInt32, Int64.toBitVec_and, Int64.toBitVec_shiftRight]
  simp [b255 hi]
theorem tyb1 (w : Int64) : (((w.toUInt64 >>> ((8 * nI 1).toInt64.toUInt64 &&& Int64.toUInt64 63)).toInt64).toInt32) &&& 255 = (((w >>> ((8 * nI 1).toInt64 &&& 63)) &&& (255 : Int64))).toInt32 := by
  apply Int32.toBitVec_inj.mp
  rw [show (8 * nI 1).toInt64 = 8 from rfl, show (8 : Int64).toUInt64 &&& Int64.toUInt64 63 = 8 from rfl, show (8 : Int64) &&& 63 = 8 from rfl]
  ext i hi
  simp only [Int32.toBitVec_and, Int64.toBitVec_toInt32, Int64.toBitVec_and, Int64.toBitVec_shiftRight]
  simp [b255 hi]
  exact tyg _ 8 i (by decide) hi
theorem tyb2 (w : Int64) : (((w.toUInt64 >>> ((8 * nI 2).toInt64.toUInt64 &&& Int64.toUInt64 63)).toInt64).toInt32) &&& 255 = (((w >>> ((8 * nI 2).toInt64 &&& 63)) &&& (255 : Int64))).toInt32 := by
  apply Int32.toBitVec_inj.mp
  rw [show (8 * nI 2).toInt64 = 16 from rfl, show (16 : Int64).toUInt64 &&& Int64.toUInt64 63 = 16 from rfl, show (16 : Int64) &&& 63 = 16 from rfl]
  ext i hi
  simp only [Int32.toBitVec_and, Int64.toBitVec_toInt32, Int64.toBitVec_and, Int64.toBitVec_shiftRight]
  simp [b255 hi]
  exact tyg _ 16 i (by decide) hi
theorem tyb3 (w : Int64) : (((w.toUInt64 >>> ((8 * nI 3).toInt64.toUInt64 &&& Int64.toUInt64 63)).toInt64).toInt32) &&& 255 = (((w >>> ((8 * nI 3).toInt64 &&& 63)) &&& (255 : Int64))).toInt32 := by
  apply Int32.toBitVec_inj.mp
  rw [show (8 * nI 3).toInt64 = 24 from rfl, show (24 : Int64).toUInt64 &&& Int64.toUInt64 63 = 24 from rfl, show (24 : Int64) &&& 63 = 24 from rfl]
  ext i hi
  simp only [Int32.toBitVec_and, Int64.toBitVec_toInt32, Int64.toBitVec_and, Int64.toBitVec_shiftRight]
  simp [b255 hi]
  exact tyg _ 24 i (by decide) hi
theorem tyb4 (w : Int64) : (((w.toUInt64 >>> ((8 * nI 4).toInt64.toUInt64 &&& Int64.toUInt64 63)).toInt64).toInt32) &&& 255 = (((w >>> ((8 * nI 4).toInt64 &&& 63)) &&& (255 : Int64))).toInt32 := by
  apply Int32.toBitVec_inj.mp
  rw [show (8 * nI 4).toInt64 = 32 from rfl, show (32 : Int64).toUInt64 &&& Int64.toUInt64 63 = 32 from rfl, show (32 : Int64) &&& 63 = 32 from rfl]
  ext i hi
  simp only [Int32.toBitVec_and, Int64.toBitVec_toInt32, Int64.toBitVec_and, Int64.toBitVec_shiftRight]
  simp [b255 hi]
  exact tyg _ 32 i (by decide) hi
theorem tyb5 (w : Int64) : (((w.toUInt64 >>> ((8 * nI 5).toInt64.toUInt64 &&& Int64.toUInt64 63)).toInt64).toInt32) &&& 255 = (((w >>> ((8 * nI 5).toInt64 &&& 63)) &&& (255 : Int64))).toInt32 := by
  apply Int32.toBitVec_inj.mp
  rw [show (8 * nI 5).toInt64 = 40 from rfl, show (40 : Int64).toUInt64 &&& Int64.toUInt64 63 = 40 from rfl, show (40 : Int64) &&& 63 = 40 from rfl]
  ext i hi
  simp only [Int32.toBitVec_and, Int64.toBitVec_toInt32, Int64.toBitVec_and, Int64.toBitVec_shiftRight]
  simp [b255 hi]
  exact tyg _ 40 i (by decide) hi
theorem tyb6 (w : Int64) : (((w.toUInt64 >>> ((8 * nI 6).toInt64.toUInt64 &&& Int64.toUInt64 63)).toInt64).toInt32) &&& 255 = (((w >>> ((8 * nI 6).toInt64 &&& 63)) &&& (255 : Int64))).toInt32 := by
  apply Int32.toBitVec_inj.mp
  rw [show (8 * nI 6).toInt64 = 48 from rfl, show (48 : Int64).toUInt64 &&& Int64.toUInt64 63 = 48 from rfl, show (48 : Int64) &&& 63 = 48 from rfl]
  ext i hi
  simp only [Int32.toBitVec_and, Int64.toBitVec_toInt32, Int64.toBitVec_and, Int64.toBitVec_shiftRight]
  simp [b255 hi]
  exact tyg _ 48 i (by decide) hi
theorem tyb7 (w : Int64) : (((w.toUInt64 >>> ((8 * nI 7).toInt64.toUInt64 &&& Int64.toUInt64 63)).toInt64).toInt32) &&& 255 = (((w >>> ((8 * nI 7).toInt64 &&& 63)) &&& (255 : Int64))).toInt32 := by
  apply Int32.toBitVec_inj.mp
  rw [show (8 * nI 7).toInt64 = 56 from rfl, show (56 : Int64).toUInt64 &&& Int64.toUInt64 63 = 56 from rfl, show (56 : Int64) &&& 63 = 56 from rfl]
  ext i hi
  simp only [Int32.toBitVec_and, Int64.toBitVec_toInt32, Int64.toBitVec_and, Int64.toBitVec_shiftRight]
  simp [b255 hi]
  exact tyg _ 56 i (by decide) hi
theorem tyb (w : Int64) {i : Nat} (hi : i < 8) : (((w.toUInt64 >>> ((8 * nI i).toInt64.toUInt64 &&& Int64.toUInt64 63)).toInt64).toInt32) &&& 255 = (((w >>> ((8 * nI i).toInt64 &&& 63)) &&& (255 : Int64))).toInt32 := by
  rcases (show i = 0 ∨ i = 1 ∨ i = 2 ∨ i = 3 ∨ i = 4 ∨ i = 5 ∨ i = 6 ∨ i = 7 by omega) with rfl | rfl | rfl | rfl | rfl | rfl | rfl | rfl
  · exact tyb0 w
  · exact tyb1 w
  · exact tyb2 w
  · exact tyb3 w
  · exact tyb4 w
  · exact tyb5 w
  · exact tyb6 w
  · exact tyb7 w
theorem BY.snoc {L : List Int32} {x : Int32} (h : BY L) (hx : ∃ n, n < 256 ∧ x = nI n) : BY (L ++ [x]) := by
  intro i
  by_cases q : i < L.length
  · rw [getD_app_l q]; exact h i
  · by_cases q2 : i = L.length
    · subst q2; rw [getD_app_r]; exact hx
    · rw [List.getD_eq_getElem?_getD, List.getElem?_eq_none (by rw [List.length_append]; show L.length + 1 ≤ i; omega)]
      exact ⟨0, by decide, rfl⟩
theorem MT.snoc {τ : Mem} {T : List Int32} {x : Int32} (h : MT τ T) (hl : T.length < 60) : MT (up (up τ 831 0 T.length x) 830 0 0 (nI (T.length + 1))) (T ++ [x]) := by
  refine ⟨by rw [up_at, List.length_append]; rfl, by rw [List.length_append]; show T.length + 1 ≤ 60; omega, fun i hi => ?_⟩
  rw [List.length_append] at hi
  have hi : i < T.length + 1 := hi
  rw [up_fn (by decide), up_rd]
  by_cases e : i = T.length
  · subst e; rw [if_pos ⟨rfl, rfl, rfl⟩, getD_app_r]
  · rw [if_neg (fun q => e q.2.2), getD_app_l (by omega)]; exact h.2.2 i (by omega)
theorem b_type {n : Nat} {w : Int64} (hn : n ≤ 8) : ∀ (t i : Nat) (σ τ : Mem) (T : List Int32), n - i < t → i ≤ n → T.length + (n - i) ≤ 60 → BL σ 60 T → MT τ T → BY T → ∃ σ' τ' T', f_X7_type_30 t w (nI n) (nI i) σ = some (1, σ') ∧ f_X8_type_32 t w (nI n) (nI i) τ = some (1, τ') ∧ BL σ' 60 T' ∧ MT τ' T' ∧ BY T' ∧ FB 60 σ σ' ∧ Sm [830, 831] τ τ' := by
  intro t
  induction t with
  | zero => intro i σ τ T h; omega
  | succ t ih =>
    intro i σ τ T ht hi hl hb hm hy
    rw [f_X7_type_30.eq_2, f_X8_type_32.eq_2]
    by_cases c : n ≤ i
    · rw [if_pos (nI_le c (by omega)), if_pos (nI_le c (by omega))]
      exact ⟨σ, τ, T, rfl, rfl, hb, hm, hy, FB.rf, Sm.rf⟩
    · rw [if_neg (nI_ge (by omega) (by omega)), if_neg (nI_ge (by omega) (by omega))]
      obtain ⟨σ1, e1, b1, F1⟩ := v_add (((w.toUInt64 >>> ((8 * nI i).toInt64.toUInt64 &&& Int64.toUInt64 63)).toInt64).toInt32) hb (by omega)
      rw [e1, bv_s, vl_d, hm.1, gd_p (vin_n (by omega) (by decide)), vl_d, vl_d, vl_d, up_fn (f := 831) (f' := 830) (by decide), hm.1, cln (by omega), nI_1, nI_1]
      have yb := bys (((w.toUInt64 >>> ((8 * nI i).toInt64.toUInt64 &&& Int64.toUInt64 63)).toInt64).toInt32)
      rw [tyb w (by omega)] at b1 yb
      obtain ⟨σ2, τ2, T2, z1, z2, z3, z4, z5, z6, z7⟩ := ih (i + 1) σ1 (up (up τ 831 0 T.length (((w >>> ((8 * nI i).toInt64 &&& 63)) &&& (255 : Int64))).toInt32) 830 0 0 (nI (T.length + 1))) _ (by omega) (by omega) (by rw [List.length_append]; show T.length + 1 + _ ≤ 60; omega) b1 (hm.snoc (by omega)) (hy.snoc yb)
      exact ⟨σ2, τ2, T2, z1, z2, z3, z4, z5, F1.tr z6, (Sm.up (by decide) (Sm.up (by decide) Sm.rf)).tr z7⟩
theorem h_type {σ τ : Mem} {Q : List Pk} {T : List Int32} (w : Int64) (x : Int32) (h : RST σ τ) (hq : RQT σ τ Q T) : ∃ (a : Int32) (b : Int32) (σ' τ' : Mem), f_X7_type w x σ = some (a, σ') ∧ f_X8_type w x τ = some (b, τ') ∧ a = b ∧ REL σ τ σ' τ' := by
  have bad : ∃ (a : Int32) (b : Int32) (σ' τ' : Mem), some ((0 : Int32), σ) = some (a, σ') ∧ some ((0 : Int32), up τ 800 0 0 0) = some (b, τ') ∧ a = b ∧ REL σ τ σ' τ' := ⟨0, 0, _, _, rfl, rfl, rfl, REL.thr 0 h hq⟩
  unfold f_X7_type f_X8_type
  rw [vl_d, up_fn (f := 800) (f' := 830) (by decide)]
  by_cases c1 : x < 1
  · rw [if_pos c1, if_pos c1]; exact bad
  rw [if_neg c1, if_neg c1]
  by_cases c2 : 8 < x
  · rw [if_pos c2, if_pos c2]; exact bad
  rw [if_neg c2, if_neg c2]
  obtain ⟨n, n1, n2, rfl⟩ := rng (A := 1) (B := 8) (by decide) (by decide) c1 c2
  obtain ⟨q1, q2, q3, q4, q5, q6, q7⟩ := hq.z (x := 0)
  have hl := q6.2.1
  rw [q5.1, (hq.2.2.2.2.2.1).1, nI_add]
  by_cases c3 : T.length + n ≤ 60
  · rw [if_pos (show nI (T.length + n) ≤ 60 from nI_le (b := 60) c3 (by decide)), if_pos (show nI (T.length + n) ≤ 60 from nI_le (b := 60) c3 (by decide))]
    obtain ⟨σ', τ', T', z1, z2, z3, z4, z5, z6, z7⟩ := b_type (w := w) n2 5000 0 σ (up τ 800 0 0 0) T (by omega) (by omega) (by omega) q5 q6 q7
    refine ⟨1, 1, σ', τ', z1, z2, rfl, (h.z (x := 0)).mv (fun f x => z6.1 f (by omega) (by omega)) (fun f x y => z7 f (by simp; omega)), ⟨Q, T', q1.mv (fun f x => z6.1 f (by omega) (by omega)) (fun f j x y => z6.2 f j (by omega)), q2.mv (z7 _ (by decide)) (z7 _ (by decide)) (z7 _ (by decide)) (z7 _ (by decide)), ?_, q4, z3, z4, z5⟩, fun f x => z6.1 f (by omega) (by omega), fun f x => by rw [z7 f (by simp; omega), up_fn (by omega)]⟩
    rw [z6.1 502 (by decide) (by decide), z7 824 (by decide)]; exact q3
  · rw [if_neg (show ¬ nI (T.length + n) ≤ 60 from nI_ge (a := 60) (by omega) (by omega)), if_neg (show ¬ nI (T.length + n) ≤ 60 from nI_ge (a := 60) (by omega) (by omega))]; exact bad
theorem s_13 {σ : Mem} {o : Nat → Int64} (a1 a2 a3 a4 : Int32) (hI : INV σ) : ∃ r, lc_13 a1 a2 a3 a4 σ o = some r ∧ INV r.1 := by
  unfold lc_13
  generalize (((a1.toInt64) <<< ((32 : Int32).toInt64 &&& 63)) ||| ((a2.toInt64) &&& (4294967295 : Int64))) = w
  obtain ⟨a, b, σ', τ', e1, e2, rv, hI'⟩ := sync (fun (a : Int32) (s : Mem) => f_X7_type w a3 σ = some (a, s)) (fun τ (b : Int32) τ' => f_X8_type w a3 τ = some (b, τ')) (fun a b _ => a = b) uqN hI (fun τ Q T h hq => h_type w a3 h hq)
  rw [e1, bn_s, e2, bn_s, if_pos rv]
  exact ⟨(τ', o), rfl, hI'⟩
