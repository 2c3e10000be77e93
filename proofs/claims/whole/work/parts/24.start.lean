def adB (B f j : Nat) : Nat := if f = 399 then B + (3 + 3 * j) else if f = 99 then (if j < 60 then B + (4 + 3 * j) else B + (195 + 2 * (j - 60))) else if f = 0 then (if j < 60 then B + (5 + 3 * j) else B + (196 + 2 * (j - 60))) else if f = 499 then B + (189 + j) else if f = 299 then B + (199 + j) else if f = 199 then B + (201 + j) else if f = 799 then B + 0 else if f = 599 then B + 1 else if f = 500 then B + 2 else if f = 699 then B + 183 else if f = 601 then B + 184 else if f = 602 then B + 185 else if f = 603 then B + 186 else if f = 604 then B + 187 else if f = 605 then B + 188 else if f = 702 then B + 193 else if f = 703 then B + 194 else if f = 899 then B + 213 else if f = 900 then B + 239 else if f = 802 then B + 214 else if f = 803 then B + 215 else if f = 804 then B + 216 else if f = 805 then B + 217 else if f = 807 then B + 218 else if f = 808 then B + 219 else if f = 809 then B + 220 else if f = 810 then B + 221 else if f = 811 then B + 222 else if f = 812 then B + 223 else if f = 813 then B + 224 else if f = 814 then B + 225 else if f = 815 then B + 226 else if f = 816 then B + 227 else if f = 817 then B + 228 else if f = 818 then B + 229 else if f = 819 then B + 230 else if f = 820 then B + 231 else if f = 821 then B + 232 else if f = 822 then B + 233 else if f = 825 then B + 234 else if f = 826 then B + 235 else if f = 827 then B + 236 else if f = 829 then B + 237 else if f = 831 then B + 238 else B
def pmL : List Nat := [0, 193, 194, 1, 2, 183, 184, 185, 186, 187, 188, 213, 214, 215, 216, 217, 218, 219, 220, 221, 222, 223, 224, 225, 226, 227, 228, 229, 230, 231, 232, 233, 234, 235, 236, 237, 238, 239, 199, 200, 189, 190, 191, 192, 201, 202, 203, 204, 205, 206, 207, 208, 209, 210, 211, 212, 3, 6, 9, 12, 15, 18, 21, 24, 27, 30, 33, 36, 39, 42, 45, 48, 51, 54, 57, 60, 63, 66, 69, 72, 75, 78, 81, 84, 87, 90, 93, 96, 99, 102, 105, 108, 111, 114, 117, 120, 123, 126, 129, 132, 135, 138, 141, 144, 147, 150, 153, 156, 159, 162, 165, 168, 171, 174, 177, 180, 4, 7, 10, 13, 16, 19, 22, 25, 28, 31, 34, 37, 40, 43, 46, 49, 52, 55, 58, 61, 64, 67, 70, 73, 76, 79, 82, 85, 88, 91, 94, 97, 100, 103, 106, 109, 112, 115, 118, 121, 124, 127, 130, 133, 136, 139, 142, 145, 148, 151, 154, 157, 160, 163, 166, 169, 172, 175, 178, 181, 195, 197, 5, 8, 11, 14, 17, 20, 23, 26, 29, 32, 35, 38, 41, 44, 47, 50, 53, 56, 59, 62, 65, 68, 71, 74, 77, 80, 83, 86, 89, 92, 95, 98, 101, 104, 107, 110, 113, 116, 119, 122, 125, 128, 131, 134, 137, 140, 143, 146, 149, 152, 155, 158, 161, 164, 167, 170, 173, 176, 179, 182, 196, 198]
def piL : List Nat := [0, 3, 4, 56, 116, 178, 57, 117, 179, 58, 118, 180, 59, 119, 181, 60, 120, 182, 61, 121, 183, 62, 122, 184, 63, 123, 185, 64, 124, 186, 65, 125, 187, 66, 126, 188, 67, 127, 189, 68, 128, 190, 69, 129, 191, 70, 130, 192, 71, 131, 193, 72, 132, 194, 73, 133, 195, 74, 134, 196, 75, 135, 197, 76, 136, 198, 77, 137, 199, 78, 138, 200, 79, 139, 201, 80, 140, 202, 81, 141, 203, 82, 142, 204, 83, 143, 205, 84, 144, 206, 85, 145, 207, 86, 146, 208, 87, 147, 209, 88, 148, 210, 89, 149, 211, 90, 150, 212, 91, 151, 213, 92, 152, 214, 93, 153, 215, 94, 154, 216, 95, 155, 217, 96, 156, 218, 97, 157, 219, 98, 158, 220, 99, 159, 221, 100, 160, 222, 101, 161, 223, 102, 162, 224, 103, 163, 225, 104, 164, 226, 105, 165, 227, 106, 166, 228, 107, 167, 229, 108, 168, 230, 109, 169, 231, 110, 170, 232, 111, 171, 233, 112, 172, 234, 113, 173, 235, 114, 174, 236, 115, 175, 237, 5, 6, 7, 8, 9, 10, 40, 41, 42, 43, 1, 2, 176, 238, 177, 239, 38, 39, 44, 45, 46, 47, 48, 49, 50, 51, 52, 53, 54, 55, 11, 12, 13, 14, 15, 16, 17, 18, 19, 20, 21, 22, 23, 24, 25, 26, 27, 28, 29, 30, 31, 32, 33, 34, 35, 36, 37]
def pm (k : Nat) : Nat := pmL.getD k 0
theorem pm_all : (List.range 240).all (fun k => decide (piL.getD (pm k) 0 = k) && decide (pm k < 240)) = true := by decide +kernel
theorem pm_ok {k : Nat} (h : k < 240) : piL.getD (pm k) 0 = k ∧ pm k < 240 := by
  have := List.all_eq_true.mp pm_all k (List.mem_range.mpr h)
  simpa using this
theorem pm_inj {i j : Nat} (hi : i < 240) (hj : j < 240) (h : pm i = pm j) : i = j := by
  rw [← (pm_ok hi).1, ← (pm_ok hj).1, h]
theorem pm_f1 : (List.range 2).all (fun j => decide (pm (38 + j) = 199 + j)) = true := by decide +kernel
theorem pm_f2 : (List.range 4).all (fun j => decide (pm (40 + j) = 189 + j)) = true := by decide +kernel
theorem pm_f3 : (List.range 12).all (fun j => decide (pm (44 + j) = 201 + j)) = true := by decide +kernel
theorem pm_f4 : (List.range 60).all (fun j => decide (pm (56 + j) = 3 + 3 * j)) = true := by decide +kernel
theorem pm_f5 : (List.range 62).all (fun j => decide (pm (116 + j) = if j < 60 then 4 + 3 * j else 195 + 2 * (j - 60))) = true := by decide +kernel
theorem pm_f6 : (List.range 62).all (fun j => decide (pm (178 + j) = if j < 60 then 5 + 3 * j else 196 + 2 * (j - 60))) = true := by decide +kernel
theorem pm_use {n : Nat} {f g : Nat → Nat} (h : (List.range n).all (fun j => decide (f j = g j)) = true) {j : Nat} (hj : j < n) : f j = g j := by
  have := List.all_eq_true.mp h j (List.mem_range.mpr hj)
  simpa using this
set_option maxRecDepth 20000 in
theorem sg_ad {cA : Nat → ClassId} {B : Nat} {σ : Mem} {o : Nat → Int64} {k : Nat} (h : k < 38) : ((sg cA (adB B) σ o).getD k (0, .inr (0, []))).1 = B + pm k := by
  match k, h with
  | 0, _ => rfl
  | 1, _ => rfl
  | 2, _ => rfl
  | 3, _ => rfl
  | 4, _ => rfl
  | 5, _ => rfl
  | 6, _ => rfl
  | 7, _ => rfl
  | 8, _ => rfl
  | 9, _ => rfl
  | 10, _ => rfl
  | 11, _ => rfl
  | 12, _ => rfl
  | 13, _ => rfl
  | 14, _ => rfl
  | 15, _ => rfl
  | 16, _ => rfl
  | 17, _ => rfl
  | 18, _ => rfl
  | 19, _ => rfl
  | 20, _ => rfl
  | 21, _ => rfl
  | 22, _ => rfl
  | 23, _ => rfl
  | 24, _ => rfl
  | 25, _ => rfl
  | 26, _ => rfl
  | 27, _ => rfl
  | 28, _ => rfl
  | 29, _ => rfl
  | 30, _ => rfl
  | 31, _ => rfl
  | 32, _ => rfl
  | 33, _ => rfl
  | 34, _ => rfl
  | 35, _ => rfl
  | 36, _ => rfl
  | 37, _ => rfl
  | k + 38, h => omega
theorem cW_ad {cA : Nat → ClassId} {B : Nat} {σ : Mem} {o : Nat → Int64} {k : Nat} (h : k < 240) : (cW cA (adB B) σ o k).1 = B + pm k := by
  unfold cW
  by_cases h38 : k < 38
  · rw [if_pos h38]; exact sg_ad h38
  · rw [if_neg h38]
    by_cases h1 : k < 40
    · obtain ⟨j, rfl⟩ : ∃ j, k = 38 + j := ⟨k - 38, by omega⟩
      rw [fm_2 (by omega), pm_use pm_f1 (by omega)]; rfl
    · by_cases h2 : k < 44
      · obtain ⟨j, rfl⟩ : ∃ j, k = 40 + j := ⟨k - 40, by omega⟩
        rw [fm_4 (by omega), pm_use pm_f2 (by omega)]; rfl
      · by_cases h3 : k < 56
        · obtain ⟨j, rfl⟩ : ∃ j, k = 44 + j := ⟨k - 44, by omega⟩
          rw [fm_1 (by omega), pm_use pm_f3 (by omega)]; rfl
        · by_cases h4 : k < 116
          · obtain ⟨j, rfl⟩ : ∃ j, k = 56 + j := ⟨k - 56, by omega⟩
            rw [fm_3 (by omega), pm_use pm_f4 (by omega)]; rfl
          · by_cases h5 : k < 178
            · obtain ⟨j, rfl⟩ : ∃ j, k = 116 + j := ⟨k - 116, by omega⟩
              rw [fm_0 (by omega), pm_use pm_f5 (by omega)]
              show (if j < 60 then B + (4 + 3 * j) else B + (195 + 2 * (j - 60))) = _
              split <;> rfl
            · obtain ⟨j, rfl⟩ : ∃ j, k = 178 + j := ⟨k - 178, by omega⟩
              rw [fm_A0, pm_use pm_f6 (by omega)]
              show (if j < 60 then B + (5 + 3 * j) else B + (196 + 2 * (j - 60))) = _
              split <;> rfl
theorem adB_D {cA : Nat → ClassId} {B : Nat} (σ : Mem) (o : Nat → Int64) : va_D (fun q => B ≤ q) (wW cA (adB B) σ o) := by
  have key : ∀ (i : Nat) (p : Nat × va_E), (wW cA (adB B) σ o)[i]? = some p → i < 240 ∧ p.1 = B + pm i := by
    intro i p h
    by_cases hi : i < 240
    · rw [w_get hi] at h
      cases h
      exact ⟨hi, cW_ad hi⟩
    · simp [wW, hi] at h
  refine ⟨fun i j p q h1 h2 e => ?_, fun k q h => ?_⟩
  · obtain ⟨a1, a2⟩ := key i p h1
    obtain ⟨b1, b2⟩ := key j q h2
    exact pm_inj a1 b1 (by omega)
  · obtain ⟨a1, a2⟩ := key k q h
    show B ≤ q.1
    omega
def sig0 : Mem := fun f j i => if f = 100 then nI j else if f = 301 then -1 else if f = 500 then nI i else if f = 600 then 1 else if f = 603 then -1 else if f = 605 then -2147483648 else 0
def out0 : Nat → Int64 := fun _ => 0
theorem arrV_cg {cc : ClassId} {N : Nat} {f g : Nat → Value} (h : ∀ j, j < N → f j = g j) : arrV cc N f = arrV cc N g := by
  unfold arrV
  congr 2
  funext j
  exact h j.1 j.2
theorem at_i {D : va_G} {a n : Nat} {cc : ClassId} {f g : Nat → Int32} {H : Heap} (h : va_at D vwCl (a, .inl (cc, n, .inl f)) H) (e : ∀ j, j < n → f j = g j) : va_at D vwCl (a, .inl (cc, n, .inl g)) H := by
  show H[a]? = some (vp_cell _ _)
  rw [show H[a]? = some (vp_cell cc (n, .inl f)) from h, vp_cell_i, vp_cell_i]
  congr 1
  apply arrV_cg
  intro j hj
  rw [e j hj]
theorem at_q {D : va_G} {a n : Nat} {cc : ClassId} {f g : Nat → Option Nat} {H : Heap} (h : va_at D vwCl (a, arq cc n f) H) (e : ∀ j, j < n → f j = g j) : va_at D vwCl (a, arq cc n g) H := by
  show H[a]? = some (vp_cell _ _)
  rw [show H[a]? = some (vp_cell cc (n, .inr (.inr (.inr (.inr f))))) from h, vp_cell_q, vp_cell_q]
  congr 1
  apply arrV_cg
  intro j hj
  rw [e j hj]
def modQ (cA : Nat → ClassId) (B : Nat) (G : Nat → va_E) : Prop := G 213 = .inr (8, [.int 0, .int 0, .ref (B + (214)), .ref (B + (215)), .ref (B + (216)), .ref (B + (217)), .int 0, .ref (B + (218)), .ref (B + (219)), .ref (B + (220)), .ref (B + (221)), .ref (B + (222)), .ref (B + (223)), .ref (B + (224)), .ref (B + (225)), .ref (B + (226)), .ref (B + (227)), .ref (B + (228)), .ref (B + (229)), .ref (B + (230)), .ref (B + (231)), .ref (B + (232)), .ref (B + (233)), .int 0, .int 0, .ref (B + (234)), .ref (B + (235)), .ref (B + (236)), .int 0, .ref (B + (237)), .int 0, .ref (B + (238)), .int 0, .int 0, .int 0, .int 0, .int 0]) ∧ G (214) = ari cA 4 ∧ G (215) = ari cA 4 ∧ G (216) = ari cA 4 ∧ G (217) = arz cA 1024 ∧ G (218) = ari cA 1024 ∧ G (219) = ari cA 1024 ∧ G (220) = ari cA 1024 ∧ G (221) = ari cA 12 ∧ G (222) = arz cA 12 ∧ G (223) = ari cA 12 ∧ G (224) = ari cA 12 ∧ G (225) = ari cA 12 ∧ G (226) = ari cA 12 ∧ G (227) = ari cA 12 ∧ G (228) = ari cA 12 ∧ G (229) = ari cA 12 ∧ G (230) = ari cA 12 ∧ G (231) = ari cA 12 ∧ G (232) = ari cA 12 ∧ G (233) = ari cA 12 ∧ G (234) = ari cA 60 ∧ G (235) = ari cA 60 ∧ G (236) = ari cA 3840 ∧ G (237) = ari cA 64 ∧ G (238) = ari cA 60
theorem modQ.mk {cA : Nat → ClassId} {B : Nat} {F G G1 : Nat → va_E} (h : modP cA B F G) (hq : ∀ q, 213 ≤ q ∧ q < 239 → G1 q = G q) : modQ cA B G1 := by
  obtain ⟨m0, m214, m215, m216, m217, m218, m219, m220, m221, m222, m223, m224, m225, m226, m227, m228, m229, m230, m231, m232, m233, m234, m235, m236, m237, m238, -⟩ := h
  exact ⟨(hq _ (by omega)).trans m0, (hq _ (by omega)).trans m214, (hq _ (by omega)).trans m215, (hq _ (by omega)).trans m216, (hq _ (by omega)).trans m217, (hq _ (by omega)).trans m218, (hq _ (by omega)).trans m219, (hq _ (by omega)).trans m220, (hq _ (by omega)).trans m221, (hq _ (by omega)).trans m222, (hq _ (by omega)).trans m223, (hq _ (by omega)).trans m224, (hq _ (by omega)).trans m225, (hq _ (by omega)).trans m226, (hq _ (by omega)).trans m227, (hq _ (by omega)).trans m228, (hq _ (by omega)).trans m229, (hq _ (by omega)).trans m230, (hq _ (by omega)).trans m231, (hq _ (by omega)).trans m232, (hq _ (by omega)).trans m233, (hq _ (by omega)).trans m234, (hq _ (by omega)).trans m235, (hq _ (by omega)).trans m236, (hq _ (by omega)).trans m237, (hq _ (by omega)).trans m238⟩
theorem netP.of {cA : Nat → ClassId} {B : Nat} {G G' : Nat → va_E} (h : netP cA B G) (hq : ∀ q, q < 213 → G' q = G q) : netP cA B G' := by
  obtain ⟨h1, ⟨f, h2, h3⟩, h4⟩ := h
  exact ⟨h1.of (fun q h => hq q (by omega)), ⟨f, (hq _ (by omega)).trans h2, h3⟩, fun j hj => (hq _ (by omega)).trans (h4 j hj)⟩
set_option maxHeartbeats 4000000 in
set_option maxRecDepth 100000 in
theorem toW {D : va_G} {cA : Nat → ClassId} {B : Nat} {s : State} {G : Nat → va_E} {H : Heap} {locs : List Loc} (hh : HB D B s 240 G H locs) (hN : netP cA B G) (hM : modQ cA B G) (ho : G 239 = arj cA 1) : va_P D vwCl (wW cA (adB B) sig0 out0) H := by
  have base : ∀ j, j < 240 → ∀ x, G j = x → va_at D vwCl (B + j, x) H := fun j hj x he => hh.1 j _ (bw_at hj he)
  obtain ⟨⟨a0, ⟨a1, ⟨f2, a2, b2⟩, a3⟩, ⟨c1, ⟨f4, c2, d2⟩, c3, ⟨f6, c4, d4⟩, c5, ⟨f8, c6, d6⟩, c7⟩, e1, e2, e3, e4, e5, e6, e7⟩, ⟨f3, h3, k3⟩, h4⟩ := hN
  obtain ⟨m0, m214, m215, m216, m217, m218, m219, m220, m221, m222, m223, m224, m225, m226, m227, m228, m229, m230, m231, m232, m233, m234, m235, m236, m237, m238⟩ := hM
  intro k q hk
  have hk2 : k < 240 := by
    have := (List.getElem?_eq_some_iff.mp hk).1
    simpa [wW] using this
  rw [w_get hk2] at hk
  cases hk
  by_cases h38 : k < 38
  · match k, h38 with
    | 0, _ => exact base 0 (by omega) _ a0
    | 1, _ => exact at_q (base 193 (by omega) _ h3) (fun j hj => by rw [k3 j hj]; rfl)
    | 2, _ => exact at_i (base 194 (by omega) _ e1) (fun j hj => rfl)
    | 3, _ => exact base 1 (by omega) _ a1
    | 4, _ => exact at_q (base 2 (by omega) _ a2) (fun j hj => by rw [b2 j hj]; show _ = some (B + (3 + 3 * (nI j).toNatClampNeg)); rw [nI_clamp (by omega)])
    | 5, _ => exact base 183 (by omega) _ c1
    | 6, _ => exact at_q (base 184 (by omega) _ c2) (fun j hj => by rw [d2 j hj]; rfl)
    | 7, _ => exact at_i (base 185 (by omega) _ c3) (fun j hj => rfl)
    | 8, _ => exact at_i (base 186 (by omega) _ c4) (fun j hj => by rw [d4 j hj]; rfl)
    | 9, _ => exact at_i (base 187 (by omega) _ c5) (fun j hj => rfl)
    | 10, _ => exact at_i (base 188 (by omega) _ c6) (fun j hj => by rw [d6 j hj]; rfl)
    | 11, _ => exact base 213 (by omega) _ m0
    | 12, _ => exact at_i (base 214 (by omega) _ m214) (fun j hj => rfl)
    | 13, _ => exact at_i (base 215 (by omega) _ m215) (fun j hj => rfl)
    | 14, _ => exact at_i (base 216 (by omega) _ m216) (fun j hj => rfl)
    | 15, _ => exact at_i (base 217 (by omega) _ m217) (fun j hj => rfl)
    | 16, _ => exact at_i (base 218 (by omega) _ m218) (fun j hj => rfl)
    | 17, _ => exact at_i (base 219 (by omega) _ m219) (fun j hj => rfl)
    | 18, _ => exact at_i (base 220 (by omega) _ m220) (fun j hj => rfl)
    | 19, _ => exact at_i (base 221 (by omega) _ m221) (fun j hj => rfl)
    | 20, _ => exact at_i (base 222 (by omega) _ m222) (fun j hj => rfl)
    | 21, _ => exact at_i (base 223 (by omega) _ m223) (fun j hj => rfl)
    | 22, _ => exact at_i (base 224 (by omega) _ m224) (fun j hj => rfl)
    | 23, _ => exact at_i (base 225 (by omega) _ m225) (fun j hj => rfl)
    | 24, _ => exact at_i (base 226 (by omega) _ m226) (fun j hj => rfl)
    | 25, _ => exact at_i (base 227 (by omega) _ m227) (fun j hj => rfl)
    | 26, _ => exact at_i (base 228 (by omega) _ m228) (fun j hj => rfl)
    | 27, _ => exact at_i (base 229 (by omega) _ m229) (fun j hj => rfl)
    | 28, _ => exact at_i (base 230 (by omega) _ m230) (fun j hj => rfl)
    | 29, _ => exact at_i (base 231 (by omega) _ m231) (fun j hj => rfl)
    | 30, _ => exact at_i (base 232 (by omega) _ m232) (fun j hj => rfl)
    | 31, _ => exact at_i (base 233 (by omega) _ m233) (fun j hj => rfl)
    | 32, _ => exact at_i (base 234 (by omega) _ m234) (fun j hj => rfl)
    | 33, _ => exact at_i (base 235 (by omega) _ m235) (fun j hj => rfl)
    | 34, _ => exact at_i (base 236 (by omega) _ m236) (fun j hj => rfl)
    | 35, _ => exact at_i (base 237 (by omega) _ m237) (fun j hj => rfl)
    | 36, _ => exact at_i (base 238 (by omega) _ m238) (fun j hj => rfl)
    | 37, _ => exact base 239 (by omega) _ ho
    | k + 38, h => omega
  · unfold cW
    rw [if_neg h38]
    by_cases g1 : k < 40
    · obtain ⟨j, rfl⟩ : ∃ j, k = 38 + j := ⟨k - 38, by omega⟩
      rw [fm_2 (by omega)]
      rcases (show j = 0 ∨ j = 1 by omega) with rfl | rfl
      · exact base 199 (by omega) _ e6
      · exact base 200 (by omega) _ e7
    · by_cases g2 : k < 44
      · obtain ⟨j, rfl⟩ : ∃ j, k = 40 + j := ⟨k - 40, by omega⟩
        rw [fm_4 (by omega)]
        exact base (189 + j) (by omega) _ (c7 j (by omega))
      · by_cases g3 : k < 56
        · obtain ⟨j, rfl⟩ : ∃ j, k = 44 + j := ⟨k - 44, by omega⟩
          rw [fm_1 (by omega)]
          exact base (201 + j) (by omega) _ (h4 j (by omega))
        · by_cases g4 : k < 116
          · obtain ⟨j, rfl⟩ : ∃ j, k = 56 + j := ⟨k - 56, by omega⟩
            rw [fm_3 (by omega)]
            have q := base (3 + 3 * j) (by omega) _ (a3 j (by omega)).1
            have ea : adB B 99 j = B + (4 + 3 * j) := by show (if j < 60 then _ else _) = _; rw [if_pos (by omega)]
            show va_at D vwCl (B + (3 + 3 * j), .inr (3, [.ref (adB B 99 j), .int (-1)])) H
            rw [ea]; exact q
          · by_cases g5 : k < 178
            · obtain ⟨j, rfl⟩ : ∃ j, k = 116 + j := ⟨k - 116, by omega⟩
              rw [fm_0 (by omega)]
              by_cases g6 : j < 60
              · have q := base (4 + 3 * j) (by omega) _ (a3 j g6).2.1
                have ea : adB B 99 j = B + (4 + 3 * j) := by show (if j < 60 then _ else _) = _; rw [if_pos g6]
                have eb : adB B 0 j = B + (5 + 3 * j) := by show (if j < 60 then _ else _) = _; rw [if_pos g6]
                show va_at D vwCl (adB B 99 j, .inr (0, [.ref (adB B 0 j), .int 0])) H
                rw [ea, eb]; exact q
              · rcases (show j = 60 ∨ j = 61 by omega) with rfl | rfl
                · exact base 195 (by omega) _ e2
                · exact base 197 (by omega) _ e4
            · obtain ⟨j, rfl⟩ : ∃ j, k = 178 + j := ⟨k - 178, by omega⟩
              rw [fm_A0]
              by_cases g6 : j < 60
              · have q := base (5 + 3 * j) (by omega) _ (a3 j g6).2.2
                have eb : adB B 0 j = B + (5 + 3 * j) := by show (if j < 60 then _ else _) = _; rw [if_pos g6]
                rw [eb]; exact at_i q (fun j hj => rfl)
              · rcases (show j = 60 ∨ j = 61 by omega) with rfl | rfl
                · exact at_i (base 196 (by omega) _ e3) (fun j hj => rfl)
                · exact at_i (base 198 (by omega) _ e5) (fun j hj => rfl)
