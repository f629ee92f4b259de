theorem find_cases (q : Nat → Bool) (n : Nat) : ((List.range n).find? q = none ∧ ∀ k, k < n → q k = false) ∨ ∃ e, e < n ∧ q e = true ∧ (∀ k, k < e → q k = false) ∧ (List.range n).find? q = some e := by
  cases h : (List.range n).find? q with
  | none =>
    left
    refine ⟨rfl, fun k hk => ?_⟩
    have := List.find?_eq_none.mp h k (List.mem_range.mpr hk)
    simpa using this
  | some e =>
    right
    obtain ⟨h1, h2, h3⟩ := List.find?_range_eq_some.mp h
    exact ⟨e, List.mem_range.mp h2, h1, fun k hk => by simpa using h3 k hk, rfl⟩
def nthI (p : Nat → Bool) (i : Int32) : Int32 := match (List.range 24).find? (fun b => p b && decide (nI (cnt p b) = i)) with
  | some b => nI b
  | none => -1
theorem d_nthOf {N : Nat} {σ : ZS} (hN : 200 ≤ N) {p : Nat → Bool} {i : Int32} : f_X7_nthOf N σ (maskN p 24) i = some (nthI p i) := by
  unfold f_X7_nthOf L_X7_nthOf_4
  have stp : ∀ K rc (k : Nat), k < 24 → (p k && decide (nI (cnt p k) = i)) = false → B_X7_nthOf_4 N σ (maskN p 24) i K rc (nI (cnt p k)) (nI k) = rc (nI (cnt p (k + 1))) (nI (k + 1)) := by
    intro K rc k hk hq
    unfold B_X7_nthOf_4
    rw [k_24]
    simp only [n_le (show 24 < 2147483648 by omega) (show k < 2147483648 by omega)]
    rw [if_neg (by omega), d_contains (by omega), Option.bind_some, bt_mask _ (by omega) (by omega), decide_eq_true hk, Bool.true_and]
    simp only [zb_0, g_lt_e, nI_1]
    show _ = rc (nI (cnt p k + if p k = true then 1 else 0)) _
    by_cases hp : p k = true
    · rw [if_neg (by rw [hp]; decide), if_pos hp]
      rw [hp, Bool.true_and] at hq
      rw [if_neg (of_decide_eq_false hq)]
    · have hp' : p k = false := by simpa using hp
      rw [if_pos hp', if_neg hp]
      rfl
  rcases find_cases (fun b => p b && decide (nI (cnt p b) = i)) 24 with ⟨hf, hall⟩ | ⟨e, he, hqe, hlt, hf⟩
  · unfold nthI
    rw [hf]
    refine lq2_seq (fun k => nI (cnt p k)) (fun k => nI k) _ 24 (fun k hk rc => stp _ rc k hk (hall k hk)) ?_ N (by omega)
    intro rc
    unfold B_X7_nthOf_4
    rw [if_pos (by decide)]
  · unfold nthI
    rw [hf]
    refine lq2_seq (fun k => nI (cnt p k)) (fun k => nI k) _ e (fun k hk rc => stp _ rc k (by omega) (hlt k hk)) ?_ N (by omega)
    intro rc
    unfold B_X7_nthOf_4
    rw [k_24]
    simp only [n_le (show 24 < 2147483648 by omega) (show e < 2147483648 by omega)]
    rw [Bool.and_eq_true] at hqe
    rw [if_neg (by omega), d_contains (by omega), Option.bind_some, bt_mask _ (by omega) (by omega), decide_eq_true he, Bool.true_and]
    simp only [zb_0]
    rw [if_neg (by rw [hqe.1]; decide), if_pos (of_decide_eq_true hqe.2)]
/-! ===== the judges who met ===== -/
def shr (A : AS) (j k b : Nat) : Bool := decide (A 8 (24 * j + b) ≠ 0) && decide (A 8 (24 * k + b) ≠ 0)
def smI (A : AS) (j k : Nat) : Nat → Int32
  | 0 => 0
  | b + 1 => if shr A j k b then smI A j k b + (nI (A 8 (24 * j + b) - 1) - nI (A 8 (24 * k + b) - 1)) else smI A j k b
section Met
variable {N : Nat} {σ : ZS} {A : AS}
theorem mk_mask (h : RDj A σ) {j : Nat} (hj : j < 7) : σ 15 j = maskN (fun b => decide (A 8 (24 * j + b) ≠ 0)) 24 := mask_ext (by omega) (fun i hi => (h j hj).2.2.2.1 i hi)
theorem d_shared (h : RDj A σ) {j k : Nat} (hj : j < 7) (hk : k < 7) : f_X0_sharedBooks N σ (nI j) (nI k) = some (maskN (shr A j k) 24) := by
  unfold f_X0_sharedBooks
  rw [d_isJudge (by omega), Option.bind_some, decide_eq_true hj, if_neg (by decide), d_isJudge (by omega), Option.bind_some, decide_eq_true hk, if_neg (by decide), g_rd_in hj (by omega), g_rd_in hk (by omega)]
  congr 1
  apply mask_ext (by omega)
  intro i hi
  rw [b_and, (h j hj).2.2.2.1 i hi, (h k hk).2.2.2.1 i hi]
  unfold shr
  cases decide (i < 24) <;> simp
theorem d_sumAbove (hN : 200 ≤ N) (h : RDj A σ) {j k : Nat} (hj : j < 7) (hk : k < 7) : f_X0_sumAbove N σ (nI j) (nI k) = some (smI A j k 24) := by
  unfold f_X0_sumAbove
  rw [d_shared h hj hk, Option.bind_some]
  unfold L_X0_sumAbove_13
  refine lq2_seq (fun b => smI A j k b) (fun b => nI b) _ 24 ?_ ?_ N (by omega)
  · intro b hb rc
    unfold B_X0_sumAbove_13
    rw [k_24]
    simp only [n_le (show 24 < 2147483648 by omega) (show b < 2147483648 by omega)]
    rw [if_neg (by omega), d_contains (by omega), Option.bind_some, bt_mask _ (by omega) (by omega), decide_eq_true hb, Bool.true_and]
    simp only [zb_0, g_lt_e, nI_1]
    rw [d_markOf h hj hb, d_markOf h hk hb, Option.bind_some, Option.bind_some]
    show _ = rc (if shr A j k b then _ else _) _
    by_cases hs : shr A j k b = true
    · rw [if_neg (by rw [hs]; decide), if_pos hs]
      unfold shr at hs
      rw [Bool.and_eq_true] at hs
      rw [if_neg (of_decide_eq_true hs.1), if_neg (of_decide_eq_true hs.2)]
    · have hs' : shr A j k b = false := by simpa using hs
      rw [if_pos hs', if_neg hs]
  · intro rc
    unfold B_X0_sumAbove_13
    rw [if_pos (by decide)]
end Met
