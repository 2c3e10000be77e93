abbrev Mem : Type := Nat → Nat → Nat → Int32
def upA (σ : Mem) (f j : Nat) (g : Nat → Int32) : Mem := fun f' => if f' = f then (fun j' => if j' = j then g else σ f j') else σ f'
def up (σ : Mem) (f j i : Nat) (x : Int32) : Mem := upA σ f j (upd (σ f j) i x)
def tyW (cA : Nat → ClassId) : List (ClassId × FieldType) := [(cA 0, .int), (cA 1, .boolean), (cA 2, .object "LeaseNet$Client"), (cA 3, .object "LeaseNet$Packet"), (cA 4, .object "LeaseNet$Pool"), (cA 5, .long)]
def fX0 (ad : Nat → Nat → Nat) (σ : Mem) (j : Nat) : List Value := [.ref (ad 0 j), .int (σ 1 j 0)]
def fX1 (ad : Nat → Nat → Nat) (σ : Mem) (j : Nat) : List Value := [.int (σ 100 j 0), .int (σ 101 j 0), .int (σ 102 j 0), .int (σ 103 j 0), .int (σ 104 j 0), .int (σ 105 j 0), .int (σ 106 j 0), .int (σ 107 j 0), .int (σ 108 j 0), .int (σ 109 j 0), .int (σ 110 j 0), .int (σ 111 j 0)]
def fX2 (ad : Nat → Nat → Nat) (σ : Mem) (j : Nat) : List Value := [.int (σ 200 j 0), .int (σ 201 j 0), .int (σ 202 j 0), .int (σ 203 j 0), .int (σ 204 j 0), .int (σ 205 j 0), .int (σ 206 j 0), .int (σ 207 j 0), .int (σ 208 j 0), .int (σ 209 j 0), .int (σ 210 j 0)]
def fX3 (ad : Nat → Nat → Nat) (σ : Mem) (j : Nat) : List Value := [.ref (ad 99 j), .int (σ 301 j 0)]
def fX4 (ad : Nat → Nat → Nat) (σ : Mem) (j : Nat) : List Value := [.int (σ 400 j 0), .int (σ 401 j 0), .int (σ 402 j 0)]
def fX5 (ad : Nat → Nat → Nat) (σ : Mem) : List Value := [.ref (ad 500 0), .int (σ 501 0 0), .int (σ 502 0 0)]
def fX6 (ad : Nat → Nat → Nat) (σ : Mem) : List Value := [.int (σ 600 0 0), .ref (ad 601 0), .ref (ad 602 0), .ref (ad 603 0), .ref (ad 604 0), .ref (ad 605 0)]
def fX7 (ad : Nat → Nat → Nat) (σ : Mem) : List Value := [.ref (ad 599 0), .ref (ad 699 0), .ref (ad 702 0), .ref (ad 703 0), .ref (ad 99 60), .ref (ad 99 61), .ref (ad 299 0), .ref (ad 299 1), .int (σ 708 0 0)]
def fX8 (ad : Nat → Nat → Nat) (σ : Mem) : List Value := [.int (σ 800 0 0), .int (σ 801 0 0), .ref (ad 802 0), .ref (ad 803 0), .ref (ad 804 0), .ref (ad 805 0), .int (σ 806 0 0), .ref (ad 807 0), .ref (ad 808 0), .ref (ad 809 0), .ref (ad 810 0), .ref (ad 811 0), .ref (ad 812 0), .ref (ad 813 0), .ref (ad 814 0), .ref (ad 815 0), .ref (ad 816 0), .ref (ad 817 0), .ref (ad 818 0), .ref (ad 819 0), .ref (ad 820 0), .ref (ad 821 0), .ref (ad 822 0), .int (σ 823 0 0), .int (σ 824 0 0), .ref (ad 825 0), .ref (ad 826 0), .ref (ad 827 0), .int (σ 828 0 0), .ref (ad 829 0), .int (σ 830 0 0), .ref (ad 831 0), .int (σ 832 0 0), .int (σ 833 0 0), .int (σ 834 0 0), .int (σ 835 0 0), .int (σ 836 0 0)]
def sg (cA : Nat → ClassId) (ad : Nat → Nat → Nat) (σ : Mem) (o : Nat → Int64) : List (Nat × va_E) := [(ad 799 0, .inr (7, fX7 ad σ)), (ad 702 0, .inl (cA 2, 12, .inr (.inr (.inr (.inr (fun i => some (ad 199 i))))))), (ad 703 0, .inl (cA 1, 1024, .inl (σ 703 0))), (ad 599 0, .inr (5, fX5 ad σ)), (ad 500 0, .inl (cA 3, 60, .inr (.inr (.inr (.inr (fun i => some (ad 399 (σ 500 0 i).toNatClampNeg))))))), (ad 699 0, .inr (6, fX6 ad σ)), (ad 601 0, .inl (cA 4, 4, .inr (.inr (.inr (.inr (fun i => some (ad 499 i))))))), (ad 602 0, .inl (cA 0, 1024, .inl (σ 602 0))), (ad 603 0, .inl (cA 0, 1024, .inl (σ 603 0))), (ad 604 0, .inl (cA 0, 1024, .inl (σ 604 0))), (ad 605 0, .inl (cA 0, 12, .inl (σ 605 0))), (ad 899 0, .inr (8, fX8 ad σ)), (ad 802 0, .inl (cA 0, 4, .inl (σ 802 0))), (ad 803 0, .inl (cA 0, 4, .inl (σ 803 0))), (ad 804 0, .inl (cA 0, 4, .inl (σ 804 0))), (ad 805 0, .inl (cA 1, 1024, .inl (σ 805 0))), (ad 807 0, .inl (cA 0, 1024, .inl (σ 807 0))), (ad 808 0, .inl (cA 0, 1024, .inl (σ 808 0))), (ad 809 0, .inl (cA 0, 1024, .inl (σ 809 0))), (ad 810 0, .inl (cA 0, 12, .inl (σ 810 0))), (ad 811 0, .inl (cA 1, 12, .inl (σ 811 0))), (ad 812 0, .inl (cA 0, 12, .inl (σ 812 0))), (ad 813 0, .inl (cA 0, 12, .inl (σ 813 0))), (ad 814 0, .inl (cA 0, 12, .inl (σ 814 0))), (ad 815 0, .inl (cA 0, 12, .inl (σ 815 0))), (ad 816 0, .inl (cA 0, 12, .inl (σ 816 0))), (ad 817 0, .inl (cA 0, 12, .inl (σ 817 0))), (ad 818 0, .inl (cA 0, 12, .inl (σ 818 0))), (ad 819 0, .inl (cA 0, 12, .inl (σ 819 0))), (ad 820 0, .inl (cA 0, 12, .inl (σ 820 0))), (ad 821 0, .inl (cA 0, 12, .inl (σ 821 0))), (ad 822 0, .inl (cA 0, 12, .inl (σ 822 0))), (ad 825 0, .inl (cA 0, 60, .inl (σ 825 0))), (ad 826 0, .inl (cA 0, 60, .inl (σ 826 0))), (ad 827 0, .inl (cA 0, 3840, .inl (σ 827 0))), (ad 829 0, .inl (cA 0, 64, .inl (σ 829 0))), (ad 831 0, .inl (cA 0, 60, .inl (σ 831 0))), (ad 900 0, .inl (cA 5, 1, .inr (.inl o)))]
def fam (cA : Nat → ClassId) (ad : Nat → Nat → Nat) (σ : Mem) (k : Nat) : Nat × va_E := if k < 40 then (ad 299 (k - 38), .inr (2, fX2 ad σ (k - 38))) else if k < 44 then (ad 499 (k - 40), .inr (4, fX4 ad σ (k - 40))) else if k < 56 then (ad 199 (k - 44), .inr (1, fX1 ad σ (k - 44))) else if k < 116 then (ad 399 (k - 56), .inr (3, fX3 ad σ (k - 56))) else if k < 178 then (ad 99 (k - 116), .inr (0, fX0 ad σ (k - 116))) else (ad 0 (k - 178), .inl (cA 0, 60, .inl (σ 0 (k - 178))))
def cW (cA : Nat → ClassId) (ad : Nat → Nat → Nat) (σ : Mem) (o : Nat → Int64) (k : Nat) : Nat × va_E := if k < 38 then (sg cA ad σ o).getD k (0, .inr (0, [])) else fam cA ad σ k
def wW (cA : Nat → ClassId) (ad : Nat → Nat → Nat) (σ : Mem) (o : Nat → Int64) : va_W := (List.range 240).map (cW cA ad σ o)
section WW
variable {cA : Nat → ClassId} {ad : Nat → Nat → Nat} {σ σ' : Mem} {o o' : Nat → Int64} {j : Nat}
theorem w_get {k : Nat} (hk : k < 240) : (wW cA ad σ o)[k]? = some (cW cA ad σ o k) := by
  simp [wW, hk]
theorem w_set {k : Nat} {e : Nat × va_E} (h : ∀ k', k' < 240 → cW cA ad σ' o' k' = if k' = k then e else cW cA ad σ o k') : (wW cA ad σ o).set k e = wW cA ad σ' o' := by
  apply List.ext_getElem?
  intro i
  by_cases hi : i < 240
  · rw [w_get hi, h i hi, List.getElem?_set]
    by_cases e1 : k = i
    · subst e1
      rw [if_pos rfl, if_pos rfl]
      simp [wW, hi]
    · rw [if_neg e1, if_neg (Ne.symm e1), w_get hi]
  · have h1 : ((wW cA ad σ o).set k e).length ≤ i := by simp [wW]; omega
    have h2 : (wW cA ad σ' o').length ≤ i := by simp [wW]; omega
    rw [List.getElem?_eq_none h1, List.getElem?_eq_none h2]
theorem sg_len : (sg cA ad σ o).length = 38 := rfl
theorem w_setS {k : Nat} (hk : k < 38) {e : Nat × va_E} (hs : sg cA ad σ' o' = (sg cA ad σ o).set k e) (hf : ∀ k', fam cA ad σ' k' = fam cA ad σ k') : (wW cA ad σ o).set k e = wW cA ad σ' o' := by
  refine w_set (fun k' hk' => ?_)
  unfold cW
  by_cases h : k' < 38
  · rw [if_pos h, if_pos h, hs, List.getD_eq_getElem?_getD, List.getD_eq_getElem?_getD, List.getElem?_set]
    by_cases e1 : k = k'
    · subst e1
      rw [if_pos rfl, if_pos rfl, if_pos (by rw [sg_len]; exact hk)]
      rfl
    · rw [if_neg e1, if_neg (Ne.symm e1)]
  · rw [if_neg h, if_neg h, if_neg (by omega), hf]
theorem w_setF {k : Nat} (hk : 38 ≤ k) {e : Nat × va_E} (hs : sg cA ad σ' o = sg cA ad σ o) (he : fam cA ad σ' k = e) (hf : ∀ k', 38 ≤ k' → k' ≠ k → fam cA ad σ' k' = fam cA ad σ k') : (wW cA ad σ o).set k e = wW cA ad σ' o := by
  refine w_set (fun k' hk' => ?_)
  unfold cW
  by_cases h : k' < 38
  · rw [if_pos h, if_pos h, hs, if_neg (by omega)]
  · rw [if_neg h, if_neg h]
    by_cases e1 : k' = k
    · subst e1
      rw [if_pos rfl, he]
    · rw [if_neg e1, hf k' (by omega) e1]
theorem wO_7 : (wW cA ad σ o)[0]? = some (ad 799 0, .inr (7, fX7 ad σ)) := by rw [w_get (by decide)]; rfl
theorem wA_702 : (wW cA ad σ o)[1]? = some (ad 702 0, .inl (cA 2, 12, .inr (.inr (.inr (.inr (fun i => some (ad 199 i))))))) := by rw [w_get (by decide)]; rfl
theorem wA_703 : (wW cA ad σ o)[2]? = some (ad 703 0, .inl (cA 1, 1024, .inl (σ 703 0))) := by rw [w_get (by decide)]; rfl
theorem wO_5 : (wW cA ad σ o)[3]? = some (ad 599 0, .inr (5, fX5 ad σ)) := by rw [w_get (by decide)]; rfl
theorem wA_500 : (wW cA ad σ o)[4]? = some (ad 500 0, .inl (cA 3, 60, .inr (.inr (.inr (.inr (fun i => some (ad 399 (σ 500 0 i).toNatClampNeg))))))) := by rw [w_get (by decide)]; rfl
theorem wO_6 : (wW cA ad σ o)[5]? = some (ad 699 0, .inr (6, fX6 ad σ)) := by rw [w_get (by decide)]; rfl
theorem wA_601 : (wW cA ad σ o)[6]? = some (ad 601 0, .inl (cA 4, 4, .inr (.inr (.inr (.inr (fun i => some (ad 499 i))))))) := by rw [w_get (by decide)]; rfl
theorem wA_602 : (wW cA ad σ o)[7]? = some (ad 602 0, .inl (cA 0, 1024, .inl (σ 602 0))) := by rw [w_get (by decide)]; rfl
theorem wA_603 : (wW cA ad σ o)[8]? = some (ad 603 0, .inl (cA 0, 1024, .inl (σ 603 0))) := by rw [w_get (by decide)]; rfl
theorem wA_604 : (wW cA ad σ o)[9]? = some (ad 604 0, .inl (cA 0, 1024, .inl (σ 604 0))) := by rw [w_get (by decide)]; rfl
theorem wA_605 : (wW cA ad σ o)[10]? = some (ad 605 0, .inl (cA 0, 12, .inl (σ 605 0))) := by rw [w_get (by decide)]; rfl
theorem wO_8 : (wW cA ad σ o)[11]? = some (ad 899 0, .inr (8, fX8 ad σ)) := by rw [w_get (by decide)]; rfl
theorem wA_802 : (wW cA ad σ o)[12]? = some (ad 802 0, .inl (cA 0, 4, .inl (σ 802 0))) := by rw [w_get (by decide)]; rfl
theorem wA_803 : (wW cA ad σ o)[13]? = some (ad 803 0, .inl (cA 0, 4, .inl (σ 803 0))) := by rw [w_get (by decide)]; rfl
theorem wA_804 : (wW cA ad σ o)[14]? = some (ad 804 0, .inl (cA 0, 4, .inl (σ 804 0))) := by rw [w_get (by decide)]; rfl
theorem wA_805 : (wW cA ad σ o)[15]? = some (ad 805 0, .inl (cA 1, 1024, .inl (σ 805 0))) := by rw [w_get (by decide)]; rfl
theorem wA_807 : (wW cA ad σ o)[16]? = some (ad 807 0, .inl (cA 0, 1024, .inl (σ 807 0))) := by rw [w_get (by decide)]; rfl
theorem wA_808 : (wW cA ad σ o)[17]? = some (ad 808 0, .inl (cA 0, 1024, .inl (σ 808 0))) := by rw [w_get (by decide)]; rfl
theorem wA_809 : (wW cA ad σ o)[18]? = some (ad 809 0, .inl (cA 0, 1024, .inl (σ 809 0))) := by rw [w_get (by decide)]; rfl
theorem wA_810 : (wW cA ad σ o)[19]? = some (ad 810 0, .inl (cA 0, 12, .inl (σ 810 0))) := by rw [w_get (by decide)]; rfl
theorem wA_811 : (wW cA ad σ o)[20]? = some (ad 811 0, .inl (cA 1, 12, .inl (σ 811 0))) := by rw [w_get (by decide)]; rfl
theorem wA_812 : (wW cA ad σ o)[21]? = some (ad 812 0, .inl (cA 0, 12, .inl (σ 812 0))) := by rw [w_get (by decide)]; rfl
theorem wA_813 : (wW cA ad σ o)[22]? = some (ad 813 0, .inl (cA 0, 12, .inl (σ 813 0))) := by rw [w_get (by decide)]; rfl
theorem wA_814 : (wW cA ad σ o)[23]? = some (ad 814 0, .inl (cA 0, 12, .inl (σ 814 0))) := by rw [w_get (by decide)]; rfl
theorem wA_815 : (wW cA ad σ o)[24]? = some (ad 815 0, .inl (cA 0, 12, .inl (σ 815 0))) := by rw [w_get (by decide)]; rfl
theorem wA_816 : (wW cA ad σ o)[25]? = some (ad 816 0, .inl (cA 0, 12, .inl (σ 816 0))) := by rw [w_get (by decide)]; rfl
theorem wA_817 : (wW cA ad σ o)[26]? = some (ad 817 0, .inl (cA 0, 12, .inl (σ 817 0))) := by rw [w_get (by decide)]; rfl
theorem wA_818 : (wW cA ad σ o)[27]? = some (ad 818 0, .inl (cA 0, 12, .inl (σ 818 0))) := by rw [w_get (by decide)]; rfl
theorem wA_819 : (wW cA ad σ o)[28]? = some (ad 819 0, .inl (cA 0, 12, .inl (σ 819 0))) := by rw [w_get (by decide)]; rfl
theorem wA_820 : (wW cA ad σ o)[29]? = some (ad 820 0, .inl (cA 0, 12, .inl (σ 820 0))) := by rw [w_get (by decide)]; rfl
theorem wA_821 : (wW cA ad σ o)[30]? = some (ad 821 0, .inl (cA 0, 12, .inl (σ 821 0))) := by rw [w_get (by decide)]; rfl
theorem wA_822 : (wW cA ad σ o)[31]? = some (ad 822 0, .inl (cA 0, 12, .inl (σ 822 0))) := by rw [w_get (by decide)]; rfl
theorem wA_825 : (wW cA ad σ o)[32]? = some (ad 825 0, .inl (cA 0, 60, .inl (σ 825 0))) := by rw [w_get (by decide)]; rfl
theorem wA_826 : (wW cA ad σ o)[33]? = some (ad 826 0, .inl (cA 0, 60, .inl (σ 826 0))) := by rw [w_get (by decide)]; rfl
theorem wA_827 : (wW cA ad σ o)[34]? = some (ad 827 0, .inl (cA 0, 3840, .inl (σ 827 0))) := by rw [w_get (by decide)]; rfl
theorem wA_829 : (wW cA ad σ o)[35]? = some (ad 829 0, .inl (cA 0, 64, .inl (σ 829 0))) := by rw [w_get (by decide)]; rfl
theorem wA_831 : (wW cA ad σ o)[36]? = some (ad 831 0, .inl (cA 0, 60, .inl (σ 831 0))) := by rw [w_get (by decide)]; rfl
theorem wA_900 : (wW cA ad σ o)[37]? = some (ad 900 0, .inl (cA 5, 1, .inr (.inl o))) := by rw [w_get (by decide)]; rfl
theorem fm_2 (hj : j < 2) : fam cA ad σ (38 + j) = (ad 299 j, .inr (2, fX2 ad σ j)) := by
  unfold fam
  rw [if_pos (by omega), Nat.add_sub_cancel_left]
theorem wO_2 (hj : j < 2) : (wW cA ad σ o)[38 + j]? = some (ad 299 j, .inr (2, fX2 ad σ j)) := by
  rw [w_get (by omega)]
  unfold cW
  rw [if_neg (by omega), fm_2 hj]
theorem fm_4 (hj : j < 4) : fam cA ad σ (40 + j) = (ad 499 j, .inr (4, fX4 ad σ j)) := by
  unfold fam
  rw [if_neg (by omega), if_pos (by omega), Nat.add_sub_cancel_left]
theorem wO_4 (hj : j < 4) : (wW cA ad σ o)[40 + j]? = some (ad 499 j, .inr (4, fX4 ad σ j)) := by
  rw [w_get (by omega)]
  unfold cW
  rw [if_neg (by omega), fm_4 hj]
theorem fm_1 (hj : j < 12) : fam cA ad σ (44 + j) = (ad 199 j, .inr (1, fX1 ad σ j)) := by
  unfold fam
  rw [if_neg (by omega), if_neg (by omega), if_pos (by omega), Nat.add_sub_cancel_left]
theorem wO_1 (hj : j < 12) : (wW cA ad σ o)[44 + j]? = some (ad 199 j, .inr (1, fX1 ad σ j)) := by
  rw [w_get (by omega)]
  unfold cW
  rw [if_neg (by omega), fm_1 hj]
theorem fm_3 (hj : j < 60) : fam cA ad σ (56 + j) = (ad 399 j, .inr (3, fX3 ad σ j)) := by
  unfold fam
  rw [if_neg (by omega), if_neg (by omega), if_neg (by omega), if_pos (by omega), Nat.add_sub_cancel_left]
theorem wO_3 (hj : j < 60) : (wW cA ad σ o)[56 + j]? = some (ad 399 j, .inr (3, fX3 ad σ j)) := by
  rw [w_get (by omega)]
  unfold cW
  rw [if_neg (by omega), fm_3 hj]
theorem fm_0 (hj : j < 62) : fam cA ad σ (116 + j) = (ad 99 j, .inr (0, fX0 ad σ j)) := by
  unfold fam
  rw [if_neg (by omega), if_neg (by omega), if_neg (by omega), if_neg (by omega), if_pos (by omega), Nat.add_sub_cancel_left]
theorem wO_0 (hj : j < 62) : (wW cA ad σ o)[116 + j]? = some (ad 99 j, .inr (0, fX0 ad σ j)) := by
  rw [w_get (by omega)]
  unfold cW
  rw [if_neg (by omega), fm_0 hj]
theorem fm_A0 : fam cA ad σ (178 + j) = (ad 0 j, .inl (cA 0, 60, .inl (σ 0 j))) := by
  unfold fam
  rw [if_neg (by omega), if_neg (by omega), if_neg (by omega), if_neg (by omega), if_neg (by omega), Nat.add_sub_cancel_left]
theorem wA_0 (hj : j < 62) : (wW cA ad σ o)[178 + j]? = some (ad 0 j, .inl (cA 0, 60, .inl (σ 0 j))) := by
  rw [w_get (by omega)]
  unfold cW
  rw [if_neg (by omega), fm_A0]
theorem ss_1 {x : Int32} (hj : j < 62) : (wW cA ad σ o).set (116 + j) (ad 99 j, .inr (0, (fX0 ad σ j).set 1 (.int x))) = wW cA ad (up σ 1 j 0 x) o := by
  refine w_setF (by omega) rfl ?_ (fun k' hk8 hk' => ?_)
  · rw [fm_0 hj]
    simp [fX0, up, upA, upd]
  · unfold fam
    repeat' split
    all_goals first | rfl | omega | (have h7 : k' - 116 ≠ j := by omega
                                     simp [fX0, up, upA, h7])
theorem ss_100 {x : Int32} (hj : j < 12) : (wW cA ad σ o).set (44 + j) (ad 199 j, .inr (1, (fX1 ad σ j).set 0 (.int x))) = wW cA ad (up σ 100 j 0 x) o := by
  refine w_setF (by omega) rfl ?_ (fun k' hk8 hk' => ?_)
  · rw [fm_1 hj]
    simp [fX1, up, upA, upd]
  · unfold fam
    repeat' split
    all_goals first | rfl | omega | (have h7 : k' - 44 ≠ j := by omega
                                     simp [fX1, up, upA, h7])
theorem ss_101 {x : Int32} (hj : j < 12) : (wW cA ad σ o).set (44 + j) (ad 199 j, .inr (1, (fX1 ad σ j).set 1 (.int x))) = wW cA ad (up σ 101 j 0 x) o := by
  refine w_setF (by omega) rfl ?_ (fun k' hk8 hk' => ?_)
  · rw [fm_1 hj]
    simp [fX1, up, upA, upd]
  · unfold fam
    repeat' split
    all_goals first | rfl | omega | (have h7 : k' - 44 ≠ j := by omega
                                     simp [fX1, up, upA, h7])
theorem ss_102 {x : Int32} (hj : j < 12) : (wW cA ad σ o).set (44 + j) (ad 199 j, .inr (1, (fX1 ad σ j).set 2 (.int x))) = wW cA ad (up σ 102 j 0 x) o := by
  refine w_setF (by omega) rfl ?_ (fun k' hk8 hk' => ?_)
  · rw [fm_1 hj]
    simp [fX1, up, upA, upd]
  · unfold fam
    repeat' split
    all_goals first | rfl | omega | (have h7 : k' - 44 ≠ j := by omega
                                     simp [fX1, up, upA, h7])
theorem ss_103 {x : Int32} (hj : j < 12) : (wW cA ad σ o).set (44 + j) (ad 199 j, .inr (1, (fX1 ad σ j).set 3 (.int x))) = wW cA ad (up σ 103 j 0 x) o := by
  refine w_setF (by omega) rfl ?_ (fun k' hk8 hk' => ?_)
  · rw [fm_1 hj]
    simp [fX1, up, upA, upd]
  · unfold fam
    repeat' split
    all_goals first | rfl | omega | (have h7 : k' - 44 ≠ j := by omega
                                     simp [fX1, up, upA, h7])
theorem ss_104 {x : Int32} (hj : j < 12) : (wW cA ad σ o).set (44 + j) (ad 199 j, .inr (1, (fX1 ad σ j).set 4 (.int x))) = wW cA ad (up σ 104 j 0 x) o := by
  refine w_setF (by omega) rfl ?_ (fun k' hk8 hk' => ?_)
  · rw [fm_1 hj]
    simp [fX1, up, upA, upd]
  · unfold fam
    repeat' split
    all_goals first | rfl | omega | (have h7 : k' - 44 ≠ j := by omega
                                     simp [fX1, up, upA, h7])
theorem ss_105 {x : Int32} (hj : j < 12) : (wW cA ad σ o).set (44 + j) (ad 199 j, .inr (1, (fX1 ad σ j).set 5 (.int x))) = wW cA ad (up σ 105 j 0 x) o := by
  refine w_setF (by omega) rfl ?_ (fun k' hk8 hk' => ?_)
  · rw [fm_1 hj]
    simp [fX1, up, upA, upd]
  · unfold fam
    repeat' split
    all_goals first | rfl | omega | (have h7 : k' - 44 ≠ j := by omega
                                     simp [fX1, up, upA, h7])
theorem ss_106 {x : Int32} (hj : j < 12) : (wW cA ad σ o).set (44 + j) (ad 199 j, .inr (1, (fX1 ad σ j).set 6 (.int x))) = wW cA ad (up σ 106 j 0 x) o := by
  refine w_setF (by omega) rfl ?_ (fun k' hk8 hk' => ?_)
  · rw [fm_1 hj]
    simp [fX1, up, upA, upd]
  · unfold fam
    repeat' split
    all_goals first | rfl | omega | (have h7 : k' - 44 ≠ j := by omega
                                     simp [fX1, up, upA, h7])
theorem ss_107 {x : Int32} (hj : j < 12) : (wW cA ad σ o).set (44 + j) (ad 199 j, .inr (1, (fX1 ad σ j).set 7 (.int x))) = wW cA ad (up σ 107 j 0 x) o := by
  refine w_setF (by omega) rfl ?_ (fun k' hk8 hk' => ?_)
  · rw [fm_1 hj]
    simp [fX1, up, upA, upd]
  · unfold fam
    repeat' split
    all_goals first | rfl | omega | (have h7 : k' - 44 ≠ j := by omega
                                     simp [fX1, up, upA, h7])
theorem ss_108 {x : Int32} (hj : j < 12) : (wW cA ad σ o).set (44 + j) (ad 199 j, .inr (1, (fX1 ad σ j).set 8 (.int x))) = wW cA ad (up σ 108 j 0 x) o := by
  refine w_setF (by omega) rfl ?_ (fun k' hk8 hk' => ?_)
  · rw [fm_1 hj]
    simp [fX1, up, upA, upd]
  · unfold fam
    repeat' split
    all_goals first | rfl | omega | (have h7 : k' - 44 ≠ j := by omega
                                     simp [fX1, up, upA, h7])
theorem ss_109 {x : Int32} (hj : j < 12) : (wW cA ad σ o).set (44 + j) (ad 199 j, .inr (1, (fX1 ad σ j).set 9 (.int x))) = wW cA ad (up σ 109 j 0 x) o := by
  refine w_setF (by omega) rfl ?_ (fun k' hk8 hk' => ?_)
  · rw [fm_1 hj]
    simp [fX1, up, upA, upd]
  · unfold fam
    repeat' split
    all_goals first | rfl | omega | (have h7 : k' - 44 ≠ j := by omega
                                     simp [fX1, up, upA, h7])
theorem ss_110 {x : Int32} (hj : j < 12) : (wW cA ad σ o).set (44 + j) (ad 199 j, .inr (1, (fX1 ad σ j).set 10 (.int x))) = wW cA ad (up σ 110 j 0 x) o := by
  refine w_setF (by omega) rfl ?_ (fun k' hk8 hk' => ?_)
  · rw [fm_1 hj]
    simp [fX1, up, upA, upd]
  · unfold fam
    repeat' split
    all_goals first | rfl | omega | (have h7 : k' - 44 ≠ j := by omega
                                     simp [fX1, up, upA, h7])
theorem ss_111 {x : Int32} (hj : j < 12) : (wW cA ad σ o).set (44 + j) (ad 199 j, .inr (1, (fX1 ad σ j).set 11 (.int x))) = wW cA ad (up σ 111 j 0 x) o := by
  refine w_setF (by omega) rfl ?_ (fun k' hk8 hk' => ?_)
  · rw [fm_1 hj]
    simp [fX1, up, upA, upd]
  · unfold fam
    repeat' split
    all_goals first | rfl | omega | (have h7 : k' - 44 ≠ j := by omega
                                     simp [fX1, up, upA, h7])
theorem ss_200 {x : Int32} (hj : j < 2) : (wW cA ad σ o).set (38 + j) (ad 299 j, .inr (2, (fX2 ad σ j).set 0 (.int x))) = wW cA ad (up σ 200 j 0 x) o := by
  refine w_setF (by omega) rfl ?_ (fun k' hk8 hk' => ?_)
  · rw [fm_2 hj]
    simp [fX2, up, upA, upd]
  · unfold fam
    repeat' split
    all_goals first | rfl | omega | (have h7 : k' - 38 ≠ j := by omega
                                     simp [fX2, up, upA, h7])
theorem ss_201 {x : Int32} (hj : j < 2) : (wW cA ad σ o).set (38 + j) (ad 299 j, .inr (2, (fX2 ad σ j).set 1 (.int x))) = wW cA ad (up σ 201 j 0 x) o := by
  refine w_setF (by omega) rfl ?_ (fun k' hk8 hk' => ?_)
  · rw [fm_2 hj]
    simp [fX2, up, upA, upd]
  · unfold fam
    repeat' split
    all_goals first | rfl | omega | (have h7 : k' - 38 ≠ j := by omega
                                     simp [fX2, up, upA, h7])
theorem ss_202 {x : Int32} (hj : j < 2) : (wW cA ad σ o).set (38 + j) (ad 299 j, .inr (2, (fX2 ad σ j).set 2 (.int x))) = wW cA ad (up σ 202 j 0 x) o := by
  refine w_setF (by omega) rfl ?_ (fun k' hk8 hk' => ?_)
  · rw [fm_2 hj]
    simp [fX2, up, upA, upd]
  · unfold fam
    repeat' split
    all_goals first | rfl | omega | (have h7 : k' - 38 ≠ j := by omega
                                     simp [fX2, up, upA, h7])
theorem ss_203 {x : Int32} (hj : j < 2) : (wW cA ad σ o).set (38 + j) (ad 299 j, .inr (2, (fX2 ad σ j).set 3 (.int x))) = wW cA ad (up σ 203 j 0 x) o := by
  refine w_setF (by omega) rfl ?_ (fun k' hk8 hk' => ?_)
  · rw [fm_2 hj]
    simp [fX2, up, upA, upd]
  · unfold fam
    repeat' split
    all_goals first | rfl | omega | (have h7 : k' - 38 ≠ j := by omega
                                     simp [fX2, up, upA, h7])
theorem ss_204 {x : Int32} (hj : j < 2) : (wW cA ad σ o).set (38 + j) (ad 299 j, .inr (2, (fX2 ad σ j).set 4 (.int x))) = wW cA ad (up σ 204 j 0 x) o := by
  refine w_setF (by omega) rfl ?_ (fun k' hk8 hk' => ?_)
  · rw [fm_2 hj]
    simp [fX2, up, upA, upd]
  · unfold fam
    repeat' split
    all_goals first | rfl | omega | (have h7 : k' - 38 ≠ j := by omega
                                     simp [fX2, up, upA, h7])
theorem ss_205 {x : Int32} (hj : j < 2) : (wW cA ad σ o).set (38 + j) (ad 299 j, .inr (2, (fX2 ad σ j).set 5 (.int x))) = wW cA ad (up σ 205 j 0 x) o := by
  refine w_setF (by omega) rfl ?_ (fun k' hk8 hk' => ?_)
  · rw [fm_2 hj]
    simp [fX2, up, upA, upd]
  · unfold fam
    repeat' split
    all_goals first | rfl | omega | (have h7 : k' - 38 ≠ j := by omega
                                     simp [fX2, up, upA, h7])
theorem ss_206 {x : Int32} (hj : j < 2) : (wW cA ad σ o).set (38 + j) (ad 299 j, .inr (2, (fX2 ad σ j).set 6 (.int x))) = wW cA ad (up σ 206 j 0 x) o := by
  refine w_setF (by omega) rfl ?_ (fun k' hk8 hk' => ?_)
  · rw [fm_2 hj]
    simp [fX2, up, upA, upd]
  · unfold fam
    repeat' split
    all_goals first | rfl | omega | (have h7 : k' - 38 ≠ j := by omega
                                     simp [fX2, up, upA, h7])
theorem ss_207 {x : Int32} (hj : j < 2) : (wW cA ad σ o).set (38 + j) (ad 299 j, .inr (2, (fX2 ad σ j).set 7 (.int x))) = wW cA ad (up σ 207 j 0 x) o := by
  refine w_setF (by omega) rfl ?_ (fun k' hk8 hk' => ?_)
  · rw [fm_2 hj]
    simp [fX2, up, upA, upd]
  · unfold fam
    repeat' split
    all_goals first | rfl | omega | (have h7 : k' - 38 ≠ j := by omega
                                     simp [fX2, up, upA, h7])
theorem ss_208 {x : Int32} (hj : j < 2) : (wW cA ad σ o).set (38 + j) (ad 299 j, .inr (2, (fX2 ad σ j).set 8 (.int x))) = wW cA ad (up σ 208 j 0 x) o := by
  refine w_setF (by omega) rfl ?_ (fun k' hk8 hk' => ?_)
  · rw [fm_2 hj]
    simp [fX2, up, upA, upd]
  · unfold fam
    repeat' split
    all_goals first | rfl | omega | (have h7 : k' - 38 ≠ j := by omega
                                     simp [fX2, up, upA, h7])
theorem ss_209 {x : Int32} (hj : j < 2) : (wW cA ad σ o).set (38 + j) (ad 299 j, .inr (2, (fX2 ad σ j).set 9 (.int x))) = wW cA ad (up σ 209 j 0 x) o := by
  refine w_setF (by omega) rfl ?_ (fun k' hk8 hk' => ?_)
  · rw [fm_2 hj]
    simp [fX2, up, upA, upd]
  · unfold fam
    repeat' split
    all_goals first | rfl | omega | (have h7 : k' - 38 ≠ j := by omega
                                     simp [fX2, up, upA, h7])
theorem ss_210 {x : Int32} (hj : j < 2) : (wW cA ad σ o).set (38 + j) (ad 299 j, .inr (2, (fX2 ad σ j).set 10 (.int x))) = wW cA ad (up σ 210 j 0 x) o := by
  refine w_setF (by omega) rfl ?_ (fun k' hk8 hk' => ?_)
  · rw [fm_2 hj]
    simp [fX2, up, upA, upd]
  · unfold fam
    repeat' split
    all_goals first | rfl | omega | (have h7 : k' - 38 ≠ j := by omega
                                     simp [fX2, up, upA, h7])
theorem ss_301 {x : Int32} (hj : j < 60) : (wW cA ad σ o).set (56 + j) (ad 399 j, .inr (3, (fX3 ad σ j).set 1 (.int x))) = wW cA ad (up σ 301 j 0 x) o := by
  refine w_setF (by omega) rfl ?_ (fun k' hk8 hk' => ?_)
  · rw [fm_3 hj]
    simp [fX3, up, upA, upd]
  · unfold fam
    repeat' split
    all_goals first | rfl | omega | (have h7 : k' - 56 ≠ j := by omega
                                     simp [fX3, up, upA, h7])
theorem ss_400 {x : Int32} (hj : j < 4) : (wW cA ad σ o).set (40 + j) (ad 499 j, .inr (4, (fX4 ad σ j).set 0 (.int x))) = wW cA ad (up σ 400 j 0 x) o := by
  refine w_setF (by omega) rfl ?_ (fun k' hk8 hk' => ?_)
  · rw [fm_4 hj]
    simp [fX4, up, upA, upd]
  · unfold fam
    repeat' split
    all_goals first | rfl | omega | (have h7 : k' - 40 ≠ j := by omega
                                     simp [fX4, up, upA, h7])
theorem ss_401 {x : Int32} (hj : j < 4) : (wW cA ad σ o).set (40 + j) (ad 499 j, .inr (4, (fX4 ad σ j).set 1 (.int x))) = wW cA ad (up σ 401 j 0 x) o := by
  refine w_setF (by omega) rfl ?_ (fun k' hk8 hk' => ?_)
  · rw [fm_4 hj]
    simp [fX4, up, upA, upd]
  · unfold fam
    repeat' split
    all_goals first | rfl | omega | (have h7 : k' - 40 ≠ j := by omega
                                     simp [fX4, up, upA, h7])
theorem ss_402 {x : Int32} (hj : j < 4) : (wW cA ad σ o).set (40 + j) (ad 499 j, .inr (4, (fX4 ad σ j).set 2 (.int x))) = wW cA ad (up σ 402 j 0 x) o := by
  refine w_setF (by omega) rfl ?_ (fun k' hk8 hk' => ?_)
  · rw [fm_4 hj]
    simp [fX4, up, upA, upd]
  · unfold fam
    repeat' split
    all_goals first | rfl | omega | (have h7 : k' - 40 ≠ j := by omega
                                     simp [fX4, up, upA, h7])
theorem ss_501 {x : Int32} : (wW cA ad σ o).set 3 (ad 599 0, .inr (5, (fX5 ad σ).set 1 (.int x))) = wW cA ad (up σ 501 0 0 x) o := w_setS (by decide) rfl (fun _ => rfl)
theorem ss_502 {x : Int32} : (wW cA ad σ o).set 3 (ad 599 0, .inr (5, (fX5 ad σ).set 2 (.int x))) = wW cA ad (up σ 502 0 0 x) o := w_setS (by decide) rfl (fun _ => rfl)
theorem ss_600 {x : Int32} : (wW cA ad σ o).set 5 (ad 699 0, .inr (6, (fX6 ad σ).set 0 (.int x))) = wW cA ad (up σ 600 0 0 x) o := w_setS (by decide) rfl (fun _ => rfl)
theorem ss_708 {x : Int32} : (wW cA ad σ o).set 0 (ad 799 0, .inr (7, (fX7 ad σ).set 8 (.int x))) = wW cA ad (up σ 708 0 0 x) o := w_setS (by decide) rfl (fun _ => rfl)
theorem ss_800 {x : Int32} : (wW cA ad σ o).set 11 (ad 899 0, .inr (8, (fX8 ad σ).set 0 (.int x))) = wW cA ad (up σ 800 0 0 x) o := w_setS (by decide) rfl (fun _ => rfl)
theorem ss_801 {x : Int32} : (wW cA ad σ o).set 11 (ad 899 0, .inr (8, (fX8 ad σ).set 1 (.int x))) = wW cA ad (up σ 801 0 0 x) o := w_setS (by decide) rfl (fun _ => rfl)
theorem ss_806 {x : Int32} : (wW cA ad σ o).set 11 (ad 899 0, .inr (8, (fX8 ad σ).set 6 (.int x))) = wW cA ad (up σ 806 0 0 x) o := w_setS (by decide) rfl (fun _ => rfl)
theorem ss_823 {x : Int32} : (wW cA ad σ o).set 11 (ad 899 0, .inr (8, (fX8 ad σ).set 23 (.int x))) = wW cA ad (up σ 823 0 0 x) o := w_setS (by decide) rfl (fun _ => rfl)
theorem ss_824 {x : Int32} : (wW cA ad σ o).set 11 (ad 899 0, .inr (8, (fX8 ad σ).set 24 (.int x))) = wW cA ad (up σ 824 0 0 x) o := w_setS (by decide) rfl (fun _ => rfl)
theorem ss_828 {x : Int32} : (wW cA ad σ o).set 11 (ad 899 0, .inr (8, (fX8 ad σ).set 28 (.int x))) = wW cA ad (up σ 828 0 0 x) o := w_setS (by decide) rfl (fun _ => rfl)
theorem ss_830 {x : Int32} : (wW cA ad σ o).set 11 (ad 899 0, .inr (8, (fX8 ad σ).set 30 (.int x))) = wW cA ad (up σ 830 0 0 x) o := w_setS (by decide) rfl (fun _ => rfl)
theorem ss_832 {x : Int32} : (wW cA ad σ o).set 11 (ad 899 0, .inr (8, (fX8 ad σ).set 32 (.int x))) = wW cA ad (up σ 832 0 0 x) o := w_setS (by decide) rfl (fun _ => rfl)
theorem ss_833 {x : Int32} : (wW cA ad σ o).set 11 (ad 899 0, .inr (8, (fX8 ad σ).set 33 (.int x))) = wW cA ad (up σ 833 0 0 x) o := w_setS (by decide) rfl (fun _ => rfl)
theorem ss_834 {x : Int32} : (wW cA ad σ o).set 11 (ad 899 0, .inr (8, (fX8 ad σ).set 34 (.int x))) = wW cA ad (up σ 834 0 0 x) o := w_setS (by decide) rfl (fun _ => rfl)
theorem ss_835 {x : Int32} : (wW cA ad σ o).set 11 (ad 899 0, .inr (8, (fX8 ad σ).set 35 (.int x))) = wW cA ad (up σ 835 0 0 x) o := w_setS (by decide) rfl (fun _ => rfl)
theorem ss_836 {x : Int32} : (wW cA ad σ o).set 11 (ad 899 0, .inr (8, (fX8 ad σ).set 36 (.int x))) = wW cA ad (up σ 836 0 0 x) o := w_setS (by decide) rfl (fun _ => rfl)
theorem sa_703 {g : Nat → Int32} : (wW cA ad σ o).set 2 (ad 703 0, .inl (cA 1, 1024, .inl g)) = wW cA ad (upA σ 703 0 g) o := w_setS (by decide) rfl (fun _ => rfl)
theorem sa_602 {g : Nat → Int32} : (wW cA ad σ o).set 7 (ad 602 0, .inl (cA 0, 1024, .inl g)) = wW cA ad (upA σ 602 0 g) o := w_setS (by decide) rfl (fun _ => rfl)
theorem sa_603 {g : Nat → Int32} : (wW cA ad σ o).set 8 (ad 603 0, .inl (cA 0, 1024, .inl g)) = wW cA ad (upA σ 603 0 g) o := w_setS (by decide) rfl (fun _ => rfl)
theorem sa_604 {g : Nat → Int32} : (wW cA ad σ o).set 9 (ad 604 0, .inl (cA 0, 1024, .inl g)) = wW cA ad (upA σ 604 0 g) o := w_setS (by decide) rfl (fun _ => rfl)
theorem sa_605 {g : Nat → Int32} : (wW cA ad σ o).set 10 (ad 605 0, .inl (cA 0, 12, .inl g)) = wW cA ad (upA σ 605 0 g) o := w_setS (by decide) rfl (fun _ => rfl)
theorem sa_802 {g : Nat → Int32} : (wW cA ad σ o).set 12 (ad 802 0, .inl (cA 0, 4, .inl g)) = wW cA ad (upA σ 802 0 g) o := w_setS (by decide) rfl (fun _ => rfl)
theorem sa_803 {g : Nat → Int32} : (wW cA ad σ o).set 13 (ad 803 0, .inl (cA 0, 4, .inl g)) = wW cA ad (upA σ 803 0 g) o := w_setS (by decide) rfl (fun _ => rfl)
theorem sa_804 {g : Nat → Int32} : (wW cA ad σ o).set 14 (ad 804 0, .inl (cA 0, 4, .inl g)) = wW cA ad (upA σ 804 0 g) o := w_setS (by decide) rfl (fun _ => rfl)
theorem sa_805 {g : Nat → Int32} : (wW cA ad σ o).set 15 (ad 805 0, .inl (cA 1, 1024, .inl g)) = wW cA ad (upA σ 805 0 g) o := w_setS (by decide) rfl (fun _ => rfl)
theorem sa_807 {g : Nat → Int32} : (wW cA ad σ o).set 16 (ad 807 0, .inl (cA 0, 1024, .inl g)) = wW cA ad (upA σ 807 0 g) o := w_setS (by decide) rfl (fun _ => rfl)
theorem sa_808 {g : Nat → Int32} : (wW cA ad σ o).set 17 (ad 808 0, .inl (cA 0, 1024, .inl g)) = wW cA ad (upA σ 808 0 g) o := w_setS (by decide) rfl (fun _ => rfl)
theorem sa_809 {g : Nat → Int32} : (wW cA ad σ o).set 18 (ad 809 0, .inl (cA 0, 1024, .inl g)) = wW cA ad (upA σ 809 0 g) o := w_setS (by decide) rfl (fun _ => rfl)
theorem sa_810 {g : Nat → Int32} : (wW cA ad σ o).set 19 (ad 810 0, .inl (cA 0, 12, .inl g)) = wW cA ad (upA σ 810 0 g) o := w_setS (by decide) rfl (fun _ => rfl)
theorem sa_811 {g : Nat → Int32} : (wW cA ad σ o).set 20 (ad 811 0, .inl (cA 1, 12, .inl g)) = wW cA ad (upA σ 811 0 g) o := w_setS (by decide) rfl (fun _ => rfl)
theorem sa_812 {g : Nat → Int32} : (wW cA ad σ o).set 21 (ad 812 0, .inl (cA 0, 12, .inl g)) = wW cA ad (upA σ 812 0 g) o := w_setS (by decide) rfl (fun _ => rfl)
theorem sa_813 {g : Nat → Int32} : (wW cA ad σ o).set 22 (ad 813 0, .inl (cA 0, 12, .inl g)) = wW cA ad (upA σ 813 0 g) o := w_setS (by decide) rfl (fun _ => rfl)
theorem sa_814 {g : Nat → Int32} : (wW cA ad σ o).set 23 (ad 814 0, .inl (cA 0, 12, .inl g)) = wW cA ad (upA σ 814 0 g) o := w_setS (by decide) rfl (fun _ => rfl)
theorem sa_815 {g : Nat → Int32} : (wW cA ad σ o).set 24 (ad 815 0, .inl (cA 0, 12, .inl g)) = wW cA ad (upA σ 815 0 g) o := w_setS (by decide) rfl (fun _ => rfl)
theorem sa_816 {g : Nat → Int32} : (wW cA ad σ o).set 25 (ad 816 0, .inl (cA 0, 12, .inl g)) = wW cA ad (upA σ 816 0 g) o := w_setS (by decide) rfl (fun _ => rfl)
theorem sa_817 {g : Nat → Int32} : (wW cA ad σ o).set 26 (ad 817 0, .inl (cA 0, 12, .inl g)) = wW cA ad (upA σ 817 0 g) o := w_setS (by decide) rfl (fun _ => rfl)
theorem sa_818 {g : Nat → Int32} : (wW cA ad σ o).set 27 (ad 818 0, .inl (cA 0, 12, .inl g)) = wW cA ad (upA σ 818 0 g) o := w_setS (by decide) rfl (fun _ => rfl)
theorem sa_819 {g : Nat → Int32} : (wW cA ad σ o).set 28 (ad 819 0, .inl (cA 0, 12, .inl g)) = wW cA ad (upA σ 819 0 g) o := w_setS (by decide) rfl (fun _ => rfl)
theorem sa_820 {g : Nat → Int32} : (wW cA ad σ o).set 29 (ad 820 0, .inl (cA 0, 12, .inl g)) = wW cA ad (upA σ 820 0 g) o := w_setS (by decide) rfl (fun _ => rfl)
theorem sa_821 {g : Nat → Int32} : (wW cA ad σ o).set 30 (ad 821 0, .inl (cA 0, 12, .inl g)) = wW cA ad (upA σ 821 0 g) o := w_setS (by decide) rfl (fun _ => rfl)
theorem sa_822 {g : Nat → Int32} : (wW cA ad σ o).set 31 (ad 822 0, .inl (cA 0, 12, .inl g)) = wW cA ad (upA σ 822 0 g) o := w_setS (by decide) rfl (fun _ => rfl)
theorem sa_825 {g : Nat → Int32} : (wW cA ad σ o).set 32 (ad 825 0, .inl (cA 0, 60, .inl g)) = wW cA ad (upA σ 825 0 g) o := w_setS (by decide) rfl (fun _ => rfl)
theorem sa_826 {g : Nat → Int32} : (wW cA ad σ o).set 33 (ad 826 0, .inl (cA 0, 60, .inl g)) = wW cA ad (upA σ 826 0 g) o := w_setS (by decide) rfl (fun _ => rfl)
theorem sa_827 {g : Nat → Int32} : (wW cA ad σ o).set 34 (ad 827 0, .inl (cA 0, 3840, .inl g)) = wW cA ad (upA σ 827 0 g) o := w_setS (by decide) rfl (fun _ => rfl)
theorem sa_829 {g : Nat → Int32} : (wW cA ad σ o).set 35 (ad 829 0, .inl (cA 0, 64, .inl g)) = wW cA ad (upA σ 829 0 g) o := w_setS (by decide) rfl (fun _ => rfl)
theorem sa_831 {g : Nat → Int32} : (wW cA ad σ o).set 36 (ad 831 0, .inl (cA 0, 60, .inl g)) = wW cA ad (upA σ 831 0 g) o := w_setS (by decide) rfl (fun _ => rfl)
set_option maxRecDepth 40000 in
theorem sa_0 {g : Nat → Int32} : (wW cA ad σ o).set (178 + j) (ad 0 j, .inl (cA 0, 60, .inl g)) = wW cA ad (upA σ 0 j g) o := by
  refine w_setF (by omega) rfl ?_ (fun k' hk8 hk' => ?_)
  · rw [fm_A0]
    simp [upA]
  · unfold fam
    repeat' split
    all_goals first | rfl | omega | (have h7 : k' - 178 ≠ j := by omega
                                     simp [upA, h7])
theorem sa_900 {g : Nat → Int64} : (wW cA ad σ o).set 37 (ad 900 0, .inl (cA 5, 1, .inr (.inl g))) = wW cA ad σ g := w_setS (by decide) rfl (fun _ => rfl)
theorem ncl {q : Nat} (h : q < 60) : (nI q).toNatClampNeg = q := nI_clamp (by omega)
theorem sa_500 {i q : Nat} (hq : q < 60) : (wW cA ad σ o).set 4 (ad 500 0, .inl (cA 3, 60, .inr (.inr (.inr (.inr (va_up (fun i => some (ad 399 (σ 500 0 i).toNatClampNeg)) i (some (ad 399 q)))))))) = wW cA ad (up σ 500 0 i (nI q)) o := by
  have e : va_up (fun i => some (ad 399 (σ 500 0 i).toNatClampNeg)) i (some (ad 399 q)) = fun k => some (ad 399 ((up σ 500 0 i (nI q)) 500 0 k).toNatClampNeg) := by
    funext k
    by_cases h : k = i
    · subst h
      simp [va_up, up, upA, upd, ncl hq]
    · simp [va_up, up, upA, upd, h]
  rw [e]
  exact w_setS (by decide) rfl (fun _ => rfl)
end WW
