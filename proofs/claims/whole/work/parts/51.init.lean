/-! ===== a new object: the first table ===== -/
def A0 : AS := fun q i => if q = 9 then (if i < 11 then atF i else 0) else if q = 10 then 400 else if q = 11 then 400 else 0
theorem A0_z {q i : Nat} (h9 : q ≠ 9) (h10 : q ≠ 10) (h11 : q ≠ 11) : A0 q i = 0 := by
  unfold A0
  rw [if_neg h9, if_neg h10, if_neg h11]
theorem A0_9 {i : Nat} (h : i < 11) : A0 9 i = atF i := by
  unfold A0
  rw [if_pos rfl, if_pos h]
theorem WF_A0 : WF A0 := by
  refine ⟨⟨?_, ?_, ?_, ?_⟩, ⟨?_, ?_, ?_⟩, ?_, ⟨?_, ?_, ?_, ?_, ?_⟩, ?_, ?_⟩
  · rw [A0_z (by omega) (by omega) (by omega)]; omega
  · intro b hb
    rw [A0_z (by omega) (by omega) (by omega)] at hb
    omega
  · intro b
    rw [A0_z (by omega) (by omega) (by omega), A0_z (by omega) (by omega) (by omega)]
    omega
  · intro b _
    exact ⟨A0_z (by omega) (by omega) (by omega), A0_z (by omega) (by omega) (by omega)⟩
  · intro i
    rw [A0_z (by omega) (by omega) (by omega), A0_z (by omega) (by omega) (by omega), A0_z (by omega) (by omega) (by omega)]
    omega
  · intro j b _ _ _
    exact ⟨A0_z (by omega) (by omega) (by omega), A0_z (by omega) (by omega) (by omega)⟩
  · intro j b _ _ _
    exact A0_z (by omega) (by omega) (by omega)
  · intro k hk
    rw [A0_9 hk]
    exact okD_at k hk
  · intro s
    exact Nat.le_refl 400
  · intro k
    exact Nat.le_refl 400
  · intro x
    rw [A0_z (by omega) (by omega) (by omega), A0_z (by omega) (by omega) (by omega)]
    omega
  · intro x i _ hi
    rw [A0_z (by omega) (by omega) (by omega)] at hi
    omega
  · intro x i k _ hi
    rw [A0_z (by omega) (by omega) (by omega)] at hi
    omega
  · rw [A0_z (by omega) (by omega) (by omega)]; omega
  · intro i
    rw [A0_z (by omega) (by omega) (by omega)]; omega
theorem σD0_4 : ∀ k, k < 11 → σD0 4 k = nI (atF k) := by decide
theorem σD0_19 : ∀ k, k < 7 → σD0 19 k = -1 := by decide
theorem σD0_22 : ∀ k, k < 7 → σD0 22 k = -1 := by decide
theorem σD0_35 : ∀ k, k < 3 → σD0 35 k = nI 400 := by decide
theorem σM0_2 : ∀ k, k < 11 → σM0 2 k = nI (atF k) := by decide
theorem σM0_12 : ∀ k, k < 2 → σM0 12 k = nI 400 := by decide
theorem σM0_13 : ∀ k, k < 3 → σM0 13 k = nI 400 := by decide
theorem RD_A0 : RD A0 σD0 := by
  have z : ∀ q i, q ≠ 9 → q ≠ 10 → q ≠ 11 → A0 q i = 0 := fun q i a b c => A0_z a b c
  refine ⟨⟨?_, ?_⟩, ?_, ⟨?_, ?_, ?_, ?_⟩, ?_, ⟨?_, ?_⟩, ⟨?_, ?_⟩, ?_⟩
  · rw [z 15 0 (by omega) (by omega) (by omega)]; rfl
  · intro i hi
    rw [z 15 0 (by omega) (by omega) (by omega)] at hi
    omega
  · intro k hk
    rw [A0_9 hk]; exact σD0_4 k hk
  · rw [z 0 0 (by omega) (by omega) (by omega)]; rfl
  · intro b hb
    rw [z 0 0 (by omega) (by omega) (by omega)] at hb
    omega
  · intro i hi
    rw [z 4 i (by omega) (by omega) (by omega), decide_eq_false (p := (0 : Nat) = 1) (by omega), Bool.and_false]
    exact b_0 i
  · intro i hi
    rw [z 5 i (by omega) (by omega) (by omega), decide_eq_false (p := (0 : Nat) = 1) (by omega), Bool.and_false]
    exact b_0 i
  · intro j hj
    refine ⟨fun i hi => ?_, fun i hi => ?_, fun i hi => ?_, fun i hi => ?_, fun b hb hn => ?_⟩
    · rw [z 6 _ (by omega) (by omega) (by omega), decide_eq_false (p := (0 : Nat) = 1) (by omega), Bool.and_false]
      exact b_0 i
    · rw [z 7 _ (by omega) (by omega) (by omega), decide_eq_false (p := (0 : Nat) = 1) (by omega), Bool.and_false]
      exact b_0 i
    · rw [z 0 0 (by omega) (by omega) (by omega), decide_eq_false (p := i < 0) (by omega), Bool.false_and]
      exact b_0 i
    · rw [z 8 _ (by omega) (by omega) (by omega), decide_eq_false (p := (0 : Nat) ≠ 0) (by omega), Bool.and_false]
      exact b_0 i
    · exact absurd (z 8 _ (by omega) (by omega) (by omega)) hn
  · rfl
  · intro j hj
    rw [z 12 _ (by omega) (by omega) (by omega), if_pos rfl]
    exact ⟨σD0_19 j hj, fun h => absurd rfl h⟩
  · rfl
  · intro j hj
    rw [z 12 _ (by omega) (by omega) (by omega), if_pos rfl]
    exact ⟨σD0_22 j hj, fun h => absurd rfl h⟩
  · intro k hk
    exact σD0_35 k hk
theorem RM_A0 : RM A0 σM0 := by
  have z : ∀ q i, q ≠ 9 → q ≠ 10 → q ≠ 11 → A0 q i = 0 := fun q i a b c => A0_z a b c
  refine ⟨⟨?_, ?_⟩, ?_, ⟨?_, ?_, ?_⟩, ⟨?_, ?_, ?_⟩, ⟨?_, ?_⟩, ?_⟩
  · rw [z 15 0 (by omega) (by omega) (by omega)]; rfl
  · intro i hi
    rw [z 15 0 (by omega) (by omega) (by omega)] at hi
    omega
  · intro k hk
    rw [A0_9 hk]; exact σM0_2 k hk
  · rw [z 0 0 (by omega) (by omega) (by omega)]; rfl
  · intro b hb
    rw [z 0 0 (by omega) (by omega) (by omega)] at hb
    omega
  · intro b hb
    rw [z 4 _ (by omega) (by omega) (by omega), z 5 _ (by omega) (by omega) (by omega)]
    exact ⟨rfl, rfl⟩
  · intro i hi
    rw [z 6 _ (by omega) (by omega) (by omega)]; rfl
  · intro i hi
    rw [z 7 _ (by omega) (by omega) (by omega)]; rfl
  · intro j b hj hb
    rw [z 0 0 (by omega) (by omega) (by omega)] at hb
    omega
  · intro s hs
    exact σM0_12 s hs
  · intro x hx
    rw [z 12 _ (by omega) (by omega) (by omega), if_pos rfl]
    exact ⟨rfl, fun h => absurd rfl h⟩
  · intro k hk
    exact σM0_13 k hk
