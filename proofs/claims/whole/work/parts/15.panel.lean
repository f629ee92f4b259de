/-! ===== the panel: marks, who is barred ===== -/
theorem n_jb {j b c : Nat} : nI j * nI c + nI b = nI (c * j + b) := by rw [pk_mul, nI_add, Nat.mul_comm]
def mlo (A : AS) (b : Nat) : Nat → Nat
  | 0 => 100
  | k + 1 => if A 8 (24 * k + b) = 0 then mlo A b k else if A 8 (24 * k + b) - 1 < mlo A b k then A 8 (24 * k + b) - 1 else mlo A b k
def mhi (A : AS) (b : Nat) : Nat → Nat
  | 0 => 0
  | k + 1 => if A 8 (24 * k + b) = 0 then mhi A b k else if mhi A b k < A 8 (24 * k + b) - 1 then A 8 (24 * k + b) - 1 else mhi A b k
theorem mlo_le (A : AS) (b : Nat) : ∀ k, mlo A b k ≤ 100
  | 0 => Nat.le_refl _
  | k + 1 => by
    have := mlo_le A b k
    unfold mlo
    split
    · exact this
    · split <;> omega
theorem mhi_le (A : AS) (b : Nat) (h : ∀ i, A 8 i ≤ 101) : ∀ k, mhi A b k ≤ 100
  | 0 => by unfold mhi; omega
  | k + 1 => by
    have := mhi_le A b h k
    have := h (24 * k + b)
    unfold mhi
    split
    · assumption
    · split <;> omega
def apd (A : AS) (b : Nat) : Bool := decide (mks A b = 2) && decide (A 9 6 + mlo A b 7 < mhi A b 7)
def wth (A : AS) (b : Nat) : Bool := inb A b && apd A b
theorem sms_le {A : AS} (h : ∀ i, A 8 i ≤ 101) (b : Nat) : sms A b ≤ 700 := by
  have := sumN_le (g := fun j => A 8 (24 * j + b) - 1) (c := 100) (n := 7) (fun k _ => by have := h (24 * k + b); show A 8 (24 * k + b) - 1 ≤ 100; omega)
  exact this
theorem mks_le (A : AS) (b : Nat) : mks A b ≤ 7 := cnt_le _ 7
section Panel
variable {N : Nat} {σ : ZS} {A : AS}
theorem d_hasMark (h : RDj A σ) {j b : Nat} (hj : j < 7) (hb : b < 24) : f_X0_hasMark N σ (nI j) (nI b) = some (zb (decide (A 8 (24 * j + b) ≠ 0))) := by
  unfold f_X0_hasMark
  rw [d_isJudge (by omega), Option.bind_some, decide_eq_true hj, if_neg (by decide), d_isBookNumber (by omega), Option.bind_some, decide_eq_true hb, if_neg (by decide), g_rd_in hj (by omega), d_contains (by omega), Option.bind_some, (h j hj).2.2.2.1 b (by omega), decide_eq_true hb, Bool.true_and]
  cases decide (A 8 (24 * j + b) ≠ 0) <;> rfl
theorem d_markOf (h : RDj A σ) {j b : Nat} (hj : j < 7) (hb : b < 24) : f_X0_markOf N σ (nI j) (nI b) = some (if A 8 (24 * j + b) = 0 then -1 else nI (A 8 (24 * j + b) - 1)) := by
  unfold f_X0_markOf
  rw [d_hasMark h hj hb, Option.bind_some]
  by_cases hm : A 8 (24 * j + b) = 0
  · rw [decide_eq_false (fun e => e hm), if_pos (by decide), if_pos hm]
  · rw [decide_eq_true hm, if_neg (by decide), if_neg hm, k_24, n_jb, g_rd_in (by omega) (by omega), (h j hj).2.2.2.2 b hb hm]
theorem d_isBarred (h : RDj A σ) (hw : WFb A) {j b : Nat} (hj : j < 7) (hb : b < 24) : f_X0_isBarred N σ (nI j) (nI b) = some (zb (decide (b < A 0 0) && brd A j b)) := by
  unfold f_X0_isBarred
  rw [d_isJudge (by omega), Option.bind_some, decide_eq_true hj, if_neg (by decide), g_rd_in hj (by omega), d_contains (by omega), Option.bind_some, (h j hj).2.2.1 b (by omega)]
  cases (decide (b < A 0 0) && brd A j b) <;> rfl
theorem d_marksOn (hN : 200 ≤ N) (h : RDj A σ) {b : Nat} (hb : b < 24) : f_X0_marksOn N σ (nI b) = some (nI (mks A b)) := by
  unfold f_X0_marksOn L_X0_marksOn_4
  refine lq2_seq (fun k => nI (cnt (fun j => decide (A 8 (24 * j + b) ≠ 0)) k)) (fun k => nI k) _ 7 ?_ ?_ N (by omega)
  · intro k hk rc
    unfold B_X0_marksOn_4
    rw [k_7]
    simp only [n_le (show 7 < 2147483648 by omega) (show k < 2147483648 by omega)]
    rw [if_neg (by omega), d_hasMark h hk hb, Option.bind_some]
    simp only [zb_0, g_lt_e, nI_1]
    show _ = rc (nI (cnt _ k + if decide (A 8 (24 * k + b) ≠ 0) = true then 1 else 0)) _
    cases decide (A 8 (24 * k + b) ≠ 0) <;> rfl
  · intro rc
    unfold B_X0_marksOn_4
    rw [if_pos (by decide)]
    rfl
theorem d_sumOn (hN : 200 ≤ N) (h : RDj A σ) (hw : WFj A) {b : Nat} (hb : b < 24) : f_X0_sumOn N σ (nI b) = some (nI (sms A b)) := by
  unfold f_X0_sumOn L_X0_sumOn_4
  refine lq2_seq (fun k => nI (sumN (fun j => A 8 (24 * j + b) - 1) k)) (fun k => nI k) _ 7 ?_ ?_ N (by omega)
  · intro k hk rc
    unfold B_X0_sumOn_4
    rw [k_7]
    simp only [n_le (show 7 < 2147483648 by omega) (show k < 2147483648 by omega)]
    rw [if_neg (by omega), d_markOf h hk hb, Option.bind_some]
    simp only [g_lt_e, nI_1]
    have hm := (hw.1 (24 * k + b)).2.2
    show _ = rc (nI (sumN _ k + (A 8 (24 * k + b) - 1))) _
    by_cases h0 : A 8 (24 * k + b) = 0
    · rw [if_pos h0, if_neg (by decide), h0]
      congr 1
      rw [k_0, nI_add]
    · rw [if_neg h0]
      by_cases h1 : (0 : Int32) < nI (A 8 (24 * k + b) - 1)
      · rw [if_pos h1, nI_add]
      · rw [if_neg h1]
        rw [k_0, n_lt (by omega) (by omega)] at h1
        rw [k_0, nI_add]
        congr 2
        omega
  · intro rc
    unfold B_X0_sumOn_4
    rw [if_pos (by decide)]
    rfl
theorem d_areTwoApart (hN : 200 ≤ N) (h : RDj A σ) (hw : WFj A) {b d : Nat} (hb : b < 24) (hd : d = A 9 6) (hdl : d ≤ 9999) : f_X0_areTwoApart N σ (nI b) (nI d) = some (zb (apd A b)) := by
  unfold f_X0_areTwoApart L_X0_areTwoApart_9
  refine lq3_seq (fun k => nI (mlo A b k)) (fun k => nI (mhi A b k)) (fun k => nI k) _ 7 ?_ ?_ N (by omega)
  · intro k hk rc
    unfold B_X0_areTwoApart_9
    rw [k_7]
    simp only [n_le (show 7 < 2147483648 by omega) (show k < 2147483648 by omega)]
    rw [if_neg (by omega), d_hasMark h hk hb, Option.bind_some]
    simp only [zb_0, g_lt_e, nI_1]
    have hm := (hw.1 (24 * k + b)).2.2
    have hl := mlo_le A b k
    have hh := mhi_le A b (fun i => (hw.1 i).2.2) k
    by_cases h0 : A 8 (24 * k + b) = 0
    · rw [decide_eq_false (fun e => e h0), if_pos rfl]
      show _ = rc (nI (if A 8 (24 * k + b) = 0 then _ else _)) (nI (if A 8 (24 * k + b) = 0 then _ else _)) _
      rw [if_pos h0, if_pos h0]
    · rw [decide_eq_true h0, if_neg (by decide), d_markOf h hk hb, Option.bind_some, if_neg h0, Option.bind_some]
      simp only [n_lt (show A 8 (24 * k + b) - 1 < 2147483648 by omega) (show mlo A b k < 2147483648 by omega), n_lt (show mhi A b k < 2147483648 by omega) (show A 8 (24 * k + b) - 1 < 2147483648 by omega)]
      show _ = rc (nI (if A 8 (24 * k + b) = 0 then _ else if A 8 (24 * k + b) - 1 < mlo A b k then _ else _)) (nI (if A 8 (24 * k + b) = 0 then _ else if mhi A b k < A 8 (24 * k + b) - 1 then _ else _)) _
      rw [if_neg h0, if_neg h0]
      congr 1
      · split <;> rfl
      · split <;> rfl
  · intro rc
    unfold B_X0_areTwoApart_9
    rw [if_pos (by decide)]
    dsimp only
    rw [d_marksOn hN h hb, Option.bind_some, k_2]
    have hk := mks_le A b
    have hl := mlo_le A b 7
    have hh := mhi_le A b (fun i => (hw.1 i).2.2) 7
    simp only [n_eq (show mks A b < 2147483648 by omega) (show 2 < 2147483648 by omega)]
    unfold apd
    by_cases h2 : mks A b = 2
    · rw [if_pos h2, decide_eq_true h2, Bool.true_and]
      have e : (nI (mhi A b 7) - nI (mlo A b 7) ≤ nI d) = (mhi A b 7 ≤ A 9 6 + mlo A b 7) := by
        apply propext
        rw [Int32.le_iff_toInt_le, pk_sub_toInt (by omega) (by omega), nI_toInt (by omega)]
        omega
      simp only [e]
      by_cases h3 : mhi A b 7 ≤ A 9 6 + mlo A b 7
      · rw [if_pos h3, decide_eq_false (by omega)]; rfl
      · rw [if_neg h3, decide_eq_true (by omega)]; rfl
    · rw [if_neg h2, decide_eq_false h2]; rfl
theorem d_standing {s m : Nat} (hm : 0 < m) (hm7 : m ≤ 7) (hs : s ≤ 700) : f_X0_standing N σ (nI s) (nI m) = some (nI (8 * s * (420 / m) + m)) := by
  unfold f_X0_standing
  rw [k_1]
  simp only [n_le (show 1 < 2147483648 by omega) (show m < 2147483648 by omega)]
  rw [if_pos (by omega)]
  unfold g_dv
  rw [if_neg (by rw [k_0, n_eq (by omega) (by omega)]; omega), k_8, k_420, pk_mul, pk_div (by omega) hm (by omega), pk_mul, nI_add]
theorem d_booksForThird (hN : 200 ≤ N) (h : RDb A σ) (hr : RDr A σ) (hj : RDj A σ) (hw : WFb A) (hv : WFr A) (hwj : WFj A) : f_X7_booksForThird N σ = some (maskN (wth A) 24, rT A σ 24) := by
  have h6 := hv.le (k := 6) (by omega)
  have hr' : RDr A (rT A σ 24) := hr.of4 (rT_q (by omega))
  have hj' : RDj A (rT A σ 24) := by
    unfold RDj
    rw [rT_q (by omega), rT_q (by omega), rT_q (by omega), rT_q (by omega), rT_q (by omega)]
    exact hj
  unfold f_X7_booksForThird
  rw [d_admitted hN h hr hw hv, g_b2_e]
  unfold L_X7_booksForThird_16
  refine lq2_seq (fun k => maskN (wth A) k) (fun k => nI k) _ 24 ?_ ?_ N (by omega)
  · intro k hk rc
    unfold B_X7_booksForThird_16
    rw [k_24]
    simp only [n_le (show 24 < 2147483648 by omega) (show k < 2147483648 by omega)]
    rw [if_neg (by omega), d_contains (by omega), Option.bind_some, bt_mask _ (by omega) (by omega), decide_eq_true hk, Bool.true_and]
    simp only [zb_0, g_lt_e, nI_1, d_num6 hr', Option.bind_some, d_areTwoApart hN hj' hwj hk rfl h6, d_bit]
    by_cases hi : inb A k = true
    · rw [if_neg (by rw [hi]; decide)]
      by_cases ha : apd A k = true
      · rw [if_neg (by rw [ha]; decide), mask_t (show wth A k = true by unfold wth; rw [hi, ha]; rfl)]
      · have ha : apd A k = false := by simpa using ha
        rw [if_pos ha, mask_f (show wth A k = false by unfold wth; rw [ha]; simp)]
    · have hi : inb A k = false := by simpa using hi
      rw [if_pos hi, mask_f (show wth A k = false by unfold wth; rw [hi]; rfl)]
  · intro rc
    unfold B_X7_booksForThird_16
    rw [if_pos (by decide)]
end Panel
