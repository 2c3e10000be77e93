/-! every call, and the start -/
theorem h_step (k : Nat) (σ : Mem) (o : Nat → Int64) (c a1 a2 a3 a4 : Int32) (hI : INV σ) : ∃ r, lstep c a1 a2 a3 a4 σ o = some r ∧ INV r.1 := by
  unfold lstep
  by_cases c0 : c &&& 31 = 0
  · rw [if_pos c0]; exact s_0 a1 a2 a3 a4 hI
  rw [if_neg c0]
  by_cases c1 : c &&& 31 = 1
  · rw [if_pos c1]; exact s_1 a1 a2 a3 a4 hI
  rw [if_neg c1]
  by_cases c2 : c &&& 31 = 2
  · rw [if_pos c2]; exact s_2 a1 a2 a3 a4 hI
  rw [if_neg c2]
  by_cases c3 : c &&& 31 = 3
  · rw [if_pos c3]; exact s_3 a1 a2 a3 a4 hI
  rw [if_neg c3]
  by_cases c4 : c &&& 31 = 4
  · rw [if_pos c4]; exact s_4 a1 a2 a3 a4 hI
  rw [if_neg c4]
  by_cases c5 : c &&& 31 = 5
  · rw [if_pos c5]; exact s_5 a1 a2 a3 a4 hI
  rw [if_neg c5]
  by_cases c6 : c &&& 31 = 6
  · rw [if_pos c6]; exact s_6 a1 a2 a3 a4 hI
  rw [if_neg c6]
  by_cases c7 : c &&& 31 = 7
  · rw [if_pos c7]; exact s_7 a1 a2 a3 a4 hI
  rw [if_neg c7]
  by_cases c8 : c &&& 31 = 8
  · rw [if_pos c8]; exact s_8 a1 a2 a3 a4 hI
  rw [if_neg c8]
  by_cases c9 : c &&& 31 = 9
  · rw [if_pos c9]; exact s_9 a1 a2 a3 a4 hI
  rw [if_neg c9]
  by_cases c10 : c &&& 31 = 10
  · rw [if_pos c10]; exact s_10 a1 a2 a3 a4 hI
  rw [if_neg c10]
  by_cases c11 : c &&& 31 = 11
  · rw [if_pos c11]; exact s_11 a1 a2 a3 a4 hI
  rw [if_neg c11]
  by_cases c12 : c &&& 31 = 12
  · rw [if_pos c12]; exact s_12 a1 a2 a3 a4 hI
  rw [if_neg c12]
  by_cases c13 : c &&& 31 = 13
  · rw [if_pos c13]; exact s_13 a1 a2 a3 a4 hI
  rw [if_neg c13]
  by_cases c14 : c &&& 31 = 14
  · rw [if_pos c14]; exact s_14 a1 a2 a3 a4 hI
  rw [if_neg c14]
  by_cases c15 : c &&& 31 = 15
  · rw [if_pos c15]; exact s_15 a1 a2 a3 a4 hI
  rw [if_neg c15]
  by_cases c16 : c &&& 31 = 16
  · rw [if_pos c16]; exact s_16 a1 a2 a3 a4 hI
  rw [if_neg c16]
  by_cases c17 : c &&& 31 = 17
  · rw [if_pos c17]; exact s_17 a1 a2 a3 a4 hI
  rw [if_neg c17]
  by_cases c18 : c &&& 31 = 18
  · rw [if_pos c18]; exact s_18 a1 a2 a3 a4 hI
  rw [if_neg c18]
  exact ⟨(σ, o), rfl, hI⟩
theorem inv_0 : INV sig0 := by
  refine ⟨[], [], ⟨rfl, fun c hc => ⟨rfl, ?_⟩, ?_, fun s hs => Or.inl ⟨rfl, rfl⟩, fun a ha => rfl, Or.inl ⟨rfl, rfl⟩, fun a ha => ⟨rfl, rfl, Or.inl rfl, ?_, fun _ => rfl⟩, fun c hc => Or.inl ⟨rfl, rfl⟩⟩, ?_, ?_, rfl, ?_, ?_, ?_, ?_⟩
  · have m0 : sig0 101 c 0 = 0 := rfl
    unfold cIV CIV
    rw [m0]
    exact ⟨Or.inl rfl, fun e => by rcases e with e | e | e <;> exact absurd e (by decide), fun e => absurd e (by decide), fun e => absurd e (by decide)⟩
  · intro p hp c hc
    simp only [List.mem_cons, List.not_mem_nil, or_false] at hp
    rcases hp with rfl | rfl | rfl | rfl | rfl | rfl | rfl | rfl | rfl | rfl | rfl <;> rfl
  · have m0 : sig0 807 0 a = 0 := rfl
    rw [m0, if_neg (by decide)]
    rfl
  · have e : ∀ k, k < 60 → pi sig0 k = k := fun k hk => by
      unfold pi
      exact ncl hk
    exact ⟨rfl, by decide, fun k hk => by rw [e k hk]; exact hk, fun a b ha hb q => by rw [e a ha, e b hb] at q; exact q, fun k p hk => by cases hk⟩
  · exact ⟨rfl, by decide, fun k p hk => by cases hk⟩
  · intro p hp; cases hp
  · exact ⟨rfl, fun i hi => absurd hi (Nat.not_lt_zero i)⟩
  · exact ⟨rfl, by decide, fun i hi => absurd hi (Nat.not_lt_zero i)⟩
  · exact fun i => ⟨0, by decide, rfl⟩
