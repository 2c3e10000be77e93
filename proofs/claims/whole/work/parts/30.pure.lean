/-! The pure part: what the functions do with the memory. -/
theorem bv_s {β : Type} (x : Mem) (k : Mem → Option β) : bv (some x) k = k x := rfl
theorem bn_s {β : Type} (a : Int32) (b : Mem) (k : Int32 → Mem → Option β) : bn (some (a, b)) k = k a b := rfl
theorem bt_s {β : Type} (a : Int32 × Int32 × Mem) (k : Int32 × Int32 × Mem → Option β) : bt (some a) k = k a := rfl
theorem bl_s {β : Type} (a : Int32) (b : Mem) (d : Nat → Int64) (k : Int32 → Mem → (Nat → Int64) → Option β) : bl (some (a, b, d)) k = k a b d := rfl
theorem gd_t {β : Type} (k : Option β) : gd true k = k := rfl
theorem gd_p {β : Type} {b : Bool} (h : b = true) (k : Option β) : gd b k = k := by rw [h]; rfl
theorem vl_d {α β : Type} (a : α) (k : α → Option β) : vl a k = k a := rfl
theorem up_rd (σ : Mem) (f j i : Nat) (x : Int32) (f' j' i' : Nat) : up σ f j i x f' j' i' = if f' = f ∧ j' = j ∧ i' = i then x else σ f' j' i' := by
  unfold up upA
  by_cases h1 : f' = f
  · subst h1
    rw [if_pos rfl]
    by_cases h2 : j' = j
    · subst h2
      rw [if_pos rfl]
      simp [upd]
    · simp [h2]
  · simp [h1]
theorem up_fn {σ : Mem} {f f' j i : Nat} {x : Int32} (h : f' ≠ f) : up σ f j i x f' = σ f' := by
  unfold up upA
  rw [if_neg h]
theorem up_fj {σ : Mem} {f f' j j' i : Nat} {x : Int32} (h : j' ≠ j) : up σ f j i x f' j' = σ f' j' := by
  unfold up upA
  by_cases h1 : f' = f
  · subst h1; rw [if_pos rfl, if_neg h]
  · rw [if_neg h1]
theorem up_at (σ : Mem) (f j i : Nat) (x : Int32) : up σ f j i x f j i = x := by rw [up_rd, if_pos ⟨rfl, rfl, rfl⟩]
theorem upA_rd (σ : Mem) (f j : Nat) (g : Nat → Int32) (f' j' i' : Nat) : upA σ f j g f' j' i' = if f' = f ∧ j' = j then g i' else σ f' j' i' := by
  unfold upA
  by_cases h1 : f' = f
  · subst h1
    rw [if_pos rfl]
    by_cases h2 : j' = j
    · subst h2; simp
    · simp [h2]
  · simp [h1]
/-- the memory has changed in the fields of S alone -/
def Sm (S : List Nat) (σ σ' : Mem) : Prop := ∀ f, f ∉ S → σ' f = σ f
theorem Sm.rf {S : List Nat} {σ : Mem} : Sm S σ σ := fun _ _ => rfl
theorem Sm.up {S : List Nat} {σ σ' : Mem} {f j i : Nat} {x : Int32} (hf : f ∈ S) (h : Sm S σ σ') : Sm S σ (up σ' f j i x) := fun f' hf' => (up_fn (f := f) (f' := f') (fun e => hf' (by rw [e]; exact hf))).trans (h f' hf')
theorem Sm.tr {S : List Nat} {σ σ1 σ2 : Mem} (h : Sm S σ σ1) (h2 : Sm S σ1 σ2) : Sm S σ σ2 := fun f hf => (h2 f hf).trans (h f hf)
theorem Sm.mono {S S2 : List Nat} {σ σ1 : Mem} (h : Sm S σ σ1) (hs : ∀ f ∈ S, f ∈ S2) : Sm S2 σ σ1 := fun f hf => h f (fun q => hf (hs f q))
theorem Sm.at {S : List Nat} {σ σ1 : Mem} (h : Sm S σ σ1) {f : Nat} (hf : f ∉ S) (j i : Nat) : σ1 f j i = σ f j i := by rw [h f hf]
theorem vin_n {n N : Nat} (h : n < N) (hN : N < 2 ^ 31) : vin (nI n) N = true := by
  have h1 := nI_pos (n := n) (by omega)
  unfold vin
  rw [nI_clamp (by omega)]
  simp [h1]
  exact h
theorem cln {n : Nat} (h : n < 2 ^ 31) : (nI n).toNatClampNeg = n := nI_clamp h
/-! bytes of a number -/
abbrev ushr (x s : Int32) : Int32 := (x.toUInt32 >>> (s.toUInt32 &&& Int32.toUInt32 31)).toInt32
def b4 (v : Int32) : List Int32 := [ushr v 24, (v >>> ((16 : Int32) &&& 31)) &&& 255, (v >>> ((8 : Int32) &&& 31)) &&& 255, v &&& 255]
theorem b255a : ∀ i : Fin 32, (255#32)[i.val] = decide (i.val < 8) := by decide
theorem b255 {i : Nat} (h : i < 32) : (255#32)[i] = decide (i < 8) := b255a ⟨i, h⟩
theorem e8 : ((8 : Int32) &&& 31).toBitVec.smod 32 = 8#32 := by decide
theorem e16 : ((16 : Int32) &&& 31).toBitVec.smod 32 = 16#32 := by decide
theorem e24 : ((24 : Int32) &&& 31).toBitVec.smod 32 = 24#32 := by decide
theorem bb24 (v : Int32) : ushr v 24 &&& 255 = ushr v 24 := by
  apply Int32.toBitVec_inj.mp
  ext i hi
  simp [ushr]
  intro h
  rw [b255 hi]
  by_cases h8 : i < 8
  · simp [h8]
  · rw [BitVec.getLsbD_of_ge _ _ (by omega)] at h
    cases h
theorem bb16 (v : Int32) : ushr v 16 &&& 255 = (v >>> ((16 : Int32) &&& 31)) &&& 255 := by
  apply Int32.toBitVec_inj.mp
  ext i hi
  simp only [ushr, Int32.toBitVec_and, Int32.toBitVec_shiftRight, e16]
  simp [b255 hi]
  by_cases h8 : i < 8
  · simp only [h8, decide_true, Bool.and_true]
    rw [BitVec.getElem_sshiftRight]
    simp [show 16 + i < 32 by omega, BitVec.getLsbD_eq_getElem]
  · simp [h8]
theorem bb8 (v : Int32) : ushr v 8 &&& 255 = (v >>> ((8 : Int32) &&& 31)) &&& 255 := by
  apply Int32.toBitVec_inj.mp
  ext i hi
  simp only [ushr, Int32.toBitVec_and, Int32.toBitVec_shiftRight, e8]
  simp [b255 hi]
  by_cases h8 : i < 8
  · simp only [h8, decide_true, Bool.and_true]
    rw [BitVec.getElem_sshiftRight]
    simp [show 8 + i < 32 by omega, BitVec.getLsbD_eq_getElem]
  · simp [h8]
theorem bb0 (v : Int32) : ushr v 0 &&& 255 = v &&& 255 := by
  apply Int32.toBitVec_inj.mp
  ext i hi
  simp [ushr]
theorem s8 (x : BitVec 32) : x <<< 8#32 = x <<< (8 : Nat) := rfl
theorem s16 (x : BitVec 32) : x <<< 16#32 = x <<< (16 : Nat) := rfl
theorem s24 (x : BitVec 32) : x <<< 24#32 = x <<< (24 : Nat) := rfl
theorem or_four (a b c d : Int32) : ((((((((0 : Int32) <<< ((8 : Int32) &&& 31)) ||| a) <<< ((8 : Int32) &&& 31)) ||| b) <<< ((8 : Int32) &&& 31)) ||| c) <<< ((8 : Int32) &&& 31)) ||| d = (((a <<< ((24 : Int32) &&& 31)) ||| (b <<< ((16 : Int32) &&& 31))) ||| (c <<< ((8 : Int32) &&& 31))) ||| d := by
  apply Int32.toBitVec_inj.mp
  simp only [Int32.toBitVec_or, Int32.toBitVec_shiftLeft, e8, e16, e24, s8, s16, s24]
  generalize a.toBitVec = A
  generalize b.toBitVec = B
  generalize c.toBitVec = C
  generalize d.toBitVec = E
  rw [show (0 : Int32).toBitVec = 0#32 from rfl, BitVec.zero_shiftLeft, BitVec.zero_or, BitVec.shiftLeft_or_distrib, BitVec.shiftLeft_or_distrib, BitVec.shiftLeft_or_distrib, ← BitVec.shiftLeft_add, ← BitVec.shiftLeft_add, ← BitVec.shiftLeft_add]
