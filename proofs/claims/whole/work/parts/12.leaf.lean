/-! ===== the class, leaf by leaf ===== -/
theorem k_0 : (0 : Int32) = nI 0 := rfl
theorem k_1 : (1 : Int32) = nI 1 := rfl
theorem k_2 : (2 : Int32) = nI 2 := rfl
theorem k_3 : (3 : Int32) = nI 3 := rfl
theorem k_4 : (4 : Int32) = nI 4 := rfl
theorem k_5 : (5 : Int32) = nI 5 := rfl
theorem k_6 : (6 : Int32) = nI 6 := rfl
theorem k_7 : (7 : Int32) = nI 7 := rfl
theorem k_8 : (8 : Int32) = nI 8 := rfl
theorem k_9 : (9 : Int32) = nI 9 := rfl
theorem k_10 : (10 : Int32) = nI 10 := rfl
theorem k_11 : (11 : Int32) = nI 11 := rfl
theorem k_12 : (12 : Int32) = nI 12 := rfl
theorem k_20 : (20 : Int32) = nI 20 := rfl
theorem k_24 : (24 : Int32) = nI 24 := rfl
theorem k_31 : (31 : Int32) = nI 31 := rfl
theorem k_32 : (32 : Int32) = nI 32 := rfl
theorem k_48 : (48 : Int32) = nI 48 := rfl
theorem k_57 : (57 : Int32) = nI 57 := rfl
theorem k_59 : (59 : Int32) = nI 59 := rfl
theorem k_80 : (80 : Int32) = nI 80 := rfl
theorem k_84 : (84 : Int32) = nI 84 := rfl
theorem k_100 : (100 : Int32) = nI 100 := rfl
theorem k_128 : (128 : Int32) = nI 128 := rfl
theorem k_168 : (168 : Int32) = nI 168 := rfl
theorem k_200 : (200 : Int32) = nI 200 := rfl
theorem k_255 : (255 : Int32) = nI 255 := rfl
theorem k_300 : (300 : Int32) = nI 300 := rfl
theorem k_400 : (400 : Int32) = nI 400 := rfl
theorem k_420 : (420 : Int32) = nI 420 := rfl
theorem k_500 : (500 : Int32) = nI 500 := rfl
theorem k_1000 : (1000 : Int32) = nI 1000 := rfl
theorem k_2000 : (2000 : Int32) = nI 2000 := rfl
def zb (b : Bool) : Int32 := if b then 1 else 0
theorem zb_t : zb true = 1 := rfl
theorem zb_f : zb false = 0 := rfl
theorem zb_0 {b : Bool} : (zb b = 0) = (b = false) := by cases b <;> simp [zb]
theorem zb_01 (b : Bool) : zb b = 0 ∨ zb b = 1 := by cases b <;> simp [zb]
theorem g_zr_b {R0 : Type} {b : Bool} {T : Option R0} : g_zr (zb b) T = T := by unfold g_zr; rw [if_pos (zb_01 b)]
theorem g_lt_e {A R0 : Type} {x : A} {K : A → Option R0} : g_lt x K = K x := rfl
theorem g_b2_e {R0 : Type} {v : Int32} {τ : ZS} {K : Int32 → ZS → Option R0} : g_b2 (some (v, τ)) K = K v τ := rfl
theorem i_nlt {a b : Int32} : (¬ a < b) = (b ≤ a) := by rw [Int32.not_lt]
theorem i_nle {a b : Int32} : (¬ a ≤ b) = (b < a) := by rw [Int32.not_le]
def bitm (i : Nat) : Int32 := (1 : Int32) <<< (nI i &&& 31)
def maskN (p : Nat → Bool) : Nat → Int32
  | 0 => 0
  | k + 1 => if p k then maskN p k ||| bitm k else maskN p k
theorem mask_t {p : Nat → Bool} {k : Nat} (h : p k = true) : maskN p (k + 1) = maskN p k ||| bitm k := by
  show (if p k then _ else _) = _
  rw [if_pos h]
theorem mask_f {p : Nat → Bool} {k : Nat} (h : p k = false) : maskN p (k + 1) = maskN p k := by
  show (if p k then _ else _) = _
  rw [if_neg (by rw [h]; decide)]
theorem bt_bitm {i k : Nat} (hi : i < 32) (hk : k < 32) : bt (bitm i) k = decide (k = i) := bt_bit hi hk
theorem bt_mask (p : Nat → Bool) : ∀ {n : Nat}, n ≤ 32 → ∀ {i : Nat}, i < 32 → bt (maskN p n) i = (decide (i < n) && p i)
  | 0, _, i, hi => by simp [maskN, b_0]
  | n + 1, hn, i, hi => by
    have ih := bt_mask p (n := n) (by omega) hi
    unfold maskN
    by_cases hp : p n = true
    · rw [if_pos hp, b_or, ih, bt_bitm (by omega) hi]
      by_cases h : i = n
      · subst h; simp [hp]
      · have h1 : (decide (i < n + 1)) = decide (i < n) := by apply decide_eq_decide.mpr; omega
        rw [h1]; simp [h]
    · rw [if_neg hp, ih]
      by_cases h : i = n
      · subst h; simp [hp]
      · have h1 : (decide (i < n + 1)) = decide (i < n) := by apply decide_eq_decide.mpr; omega
        rw [h1]
/-- two masks with like bits are one -/
theorem mask_ext {x : Int32} {p : Nat → Bool} {n : Nat} (hn : n ≤ 32) (h : ∀ i, i < 32 → bt x i = (decide (i < n) && p i)) : x = maskN p n := b_ext (fun i hi => by rw [h i hi, bt_mask p hn hi])
section Leaf
variable {N : Nat} {σ : ZS} {A : AS}
theorem d_isWithin {n lo hi : Int32} : f_X7_isWithin N σ n lo hi = some (zb (decide (lo ≤ n) && decide (n ≤ hi))) := by
  unfold f_X7_isWithin
  by_cases h1 : n < lo
  · rw [if_pos h1, decide_eq_false (by rw [Int32.not_le]; exact h1)]; rfl
  · rw [if_neg h1]
    by_cases h2 : hi < n
    · rw [if_pos h2, decide_eq_false (p := n ≤ hi) (by rw [Int32.not_le]; exact h2)]; simp [zb]
    · rw [if_neg h2, decide_eq_true (Int32.not_lt.mp h1), decide_eq_true (Int32.not_lt.mp h2)]; rfl
theorem d_within {n lo hi : Nat} (h1 : n < 2147483648) (h2 : lo < 2147483648) (h3 : hi < 2147483648) : f_X7_isWithin N σ (nI n) (nI lo) (nI hi) = some (zb (decide (lo ≤ n) && decide (n ≤ hi))) := by
  rw [d_isWithin]
  simp only [n_le h2 h1, n_le h1 h3]
theorem d_contains {x : Int32} {i : Nat} (hi : i < 32) : f_X7_contains N σ x (nI i) = some (zb (bt x i)) := by
  unfold f_X7_contains
  simp only [bt_contains x hi]
  cases bt x i <;> simp [zb]
theorem d_bit {i : Nat} : f_X7_bit N σ (nI i) = some (bitm i) := rfl
theorem d_isJudge {j : Nat} (hj : j < 2147483648) : f_X7_isJudge N σ (nI j) = some (zb (decide (j < 7))) := by
  unfold f_X7_isJudge
  rw [if_neg (nI_pos hj)]
  simp only [k_7, n_le (show 7 < 2147483648 by omega) hj]
  by_cases h : 7 ≤ j
  · rw [if_pos h, decide_eq_false (by omega)]; rfl
  · rw [if_neg h, decide_eq_true (by omega)]; rfl
theorem d_isBookNumber {j : Nat} (hj : j < 2147483648) : f_X7_isBookNumber N σ (nI j) = some (zb (decide (j < 24))) := by
  unfold f_X7_isBookNumber
  rw [if_neg (nI_pos hj)]
  simp only [k_24, n_le (show 24 < 2147483648 by omega) hj]
  by_cases h : 24 ≤ j
  · rw [if_pos h, decide_eq_false (by omega)]; rfl
  · rw [if_neg h, decide_eq_true (by omega)]; rfl
theorem d_isBookNumber_m1 : f_X7_isBookNumber N σ (-1) = some (zb false) := by
  unfold f_X7_isBookNumber
  rw [if_pos (by decide)]; rfl
theorem d_has (h : RDb A σ) (hw : WFb A) {b : Nat} (hb : b < 2147483648) : f_X4_has N σ (nI b) = some (zb (decide (b < A 0 0))) := by
  have := hw.1
  unfold f_X4_has
  rw [if_neg (nI_pos hb), h.1]
  simp only [n_le (show A 0 0 < 2147483648 by omega) hb]
  by_cases h : A 0 0 ≤ b
  · rw [if_pos h, decide_eq_false (by omega)]; rfl
  · rw [if_neg h, decide_eq_true (by omega)]; rfl
theorem d_number (h : RDr A σ) {k : Nat} (hk : k < 11) : f_X3_number N σ (nI k) = some (nI (A 9 k)) := by
  unfold f_X3_number
  rw [show (0 : Int32) = nI 0 from rfl, show (10 : Int32) = nI 10 from rfl, d_within (by omega) (by omega) (by omega), decide_eq_true (by omega), decide_eq_true (show k ≤ 10 by omega), Option.bind_some, if_neg (by decide), g_rd_in hk (by omega), h k hk]
theorem d_num0 (h : RDr A σ) : f_X3_number N σ (0 : Int32) = some (nI (A 9 0)) := d_number (k := 0) h (by omega)
theorem d_num1 (h : RDr A σ) : f_X3_number N σ (1 : Int32) = some (nI (A 9 1)) := d_number (k := 1) h (by omega)
theorem d_num2 (h : RDr A σ) : f_X3_number N σ (2 : Int32) = some (nI (A 9 2)) := d_number (k := 2) h (by omega)
theorem d_num3 (h : RDr A σ) : f_X3_number N σ (3 : Int32) = some (nI (A 9 3)) := d_number (k := 3) h (by omega)
theorem d_num4 (h : RDr A σ) : f_X3_number N σ (4 : Int32) = some (nI (A 9 4)) := d_number (k := 4) h (by omega)
theorem d_num5 (h : RDr A σ) : f_X3_number N σ (5 : Int32) = some (nI (A 9 5)) := d_number (k := 5) h (by omega)
theorem d_num6 (h : RDr A σ) : f_X3_number N σ (6 : Int32) = some (nI (A 9 6)) := d_number (k := 6) h (by omega)
theorem d_num7 (h : RDr A σ) : f_X3_number N σ (7 : Int32) = some (nI (A 9 7)) := d_number (k := 7) h (by omega)
theorem d_num8 (h : RDr A σ) : f_X3_number N σ (8 : Int32) = some (nI (A 9 8)) := d_number (k := 8) h (by omega)
theorem d_num9 (h : RDr A σ) : f_X3_number N σ (9 : Int32) = some (nI (A 9 9)) := d_number (k := 9) h (by omega)
theorem d_num10 (h : RDr A σ) : f_X3_number N σ (10 : Int32) = some (nI (A 9 10)) := d_number (k := 10) h (by omega)
theorem d_isPublisher {p : Nat} (hp : p < 2147483648) : f_X7_isPublisher N σ (nI p) = some (zb (decide (p < 8))) := by
  unfold f_X7_isPublisher
  rw [k_0, k_7, d_within hp (by omega) (by omega), Option.bind_some, g_zr_b]
  congr 2
  rw [decide_eq_true (Nat.zero_le p), Bool.true_and]
  exact decide_eq_decide.mpr (by omega)
theorem d_calledIn (h : RDb A σ) {b : Nat} (hb : b < 24) : f_X4_isCalledIn N σ (nI b) = some (zb (decide (A 4 b = 1))) := by
  unfold f_X4_isCalledIn
  rw [d_contains (by omega), Option.bind_some, g_zr_b, h.2.2.1 b (by omega), decide_eq_true hb, Bool.true_and]
theorem d_takenOut (h : RDb A σ) {b : Nat} (hb : b < 24) : f_X4_isTakenOut N σ (nI b) = some (zb (decide (A 5 b = 1))) := by
  unfold f_X4_isTakenOut
  rw [d_contains (by omega), Option.bind_some, g_zr_b, h.2.2.2 b (by omega), decide_eq_true hb, Bool.true_and]
theorem d_publisherOf (h : RDb A σ) (hw : WFb A) {b : Nat} (hb : b < 24) : f_X4_publisherOf N σ (nI b) = some (if b < A 0 0 then nI (A 1 b) else -1) := by
  unfold f_X4_publisherOf
  rw [d_has h hw (by omega), Option.bind_some]
  by_cases hn : b < A 0 0
  · rw [decide_eq_true hn, if_neg (by decide), g_rd_in hb (by omega), (h.2.1 b hn).1, if_pos hn]
  · rw [decide_eq_false hn, if_pos (by decide), if_neg hn]
theorem d_pagesOf (h : RDb A σ) (hw : WFb A) {b : Nat} (hb : b < A 0 0) : f_X4_pagesOf N σ (nI b) = some (nI (A 2 b)) := by
  have := hw.1
  unfold f_X4_pagesOf
  rw [d_has h hw (by omega), Option.bind_some, decide_eq_true hb, if_neg (by decide), g_rd_in (by omega) (by omega), (h.2.1 b hb).2.1]
theorem d_dayOf (h : RDb A σ) (hw : WFb A) {b : Nat} (hb : b < A 0 0) : f_X4_dayOf N σ (nI b) = some (nI (A 3 b)) := by
  have := hw.1
  unfold f_X4_dayOf
  rw [d_has h hw (by omega), Option.bind_some, decide_eq_true hb, if_neg (by decide), g_rd_in (by omega) (by omega), (h.2.1 b hb).2.2]
theorem rhi_le : ∀ k, k < 11 → rhi k ≤ 9999 := by decide
theorem WFr.le {A : AS} (h : WFr A) {k : Nat} (hk : k < 11) : A 9 k ≤ 9999 := Nat.le_trans (h k hk).2 (rhi_le k hk)
theorem d_withinRules (h : RDb A σ) (hr : RDr A σ) (hw : WFb A) (hv : WFr A) {b : Nat} (hb : b < A 0 0) : f_X4_isWithinRules N σ (nI b) = some (zb (wrl A b)) := by
  have h0 := hv.le (k := 0) (by omega); have h1 := hv.le (k := 1) (by omega); have h2 := hv.le (k := 2) (by omega); have h3 := hv.le (k := 3) (by omega)
  obtain ⟨-, w2, w3, w4⟩ := hw.2.1 b hb
  unfold f_X4_isWithinRules
  rw [d_pagesOf h hw hb, Option.bind_some, d_num0 hr, Option.bind_some, d_num1 hr, Option.bind_some, d_within (by omega) (by omega) (by omega), Option.bind_some, d_dayOf h hw hb]
  simp only [Option.bind_some, d_num2 hr, d_num3 hr]
  rw [d_within (by omega) (by omega) (by omega)]
  unfold wrl
  simp only [Option.bind_some, zb_0]
  cases (decide (A 9 0 ≤ A 2 b) && decide (A 2 b ≤ A 9 1)) <;> cases (decide (A 9 2 ≤ A 3 b) && decide (A 3 b ≤ A 9 3)) <;> simp [zb]
theorem d_takesPlace (hr : RDr A σ) (hv : WFr A) {p r : Nat} (hp : p < 8) (hc : r < 1000) (hσ : σ 10 p = nI r) : f_X4_takesPlace N σ (nI p) = some (zb (decide (r < A 9 4)), zu σ 10 p (nI (r + 1))) := by
  have h4 := hv.le (k := 4) (by omega)
  unfold f_X4_takesPlace
  rw [d_isPublisher (by omega), Option.bind_some, decide_eq_true hp, if_neg (by decide), g_rd_in hp (by omega), hσ, d_num4 hr, Option.bind_some]
  simp only [n_le (show A 9 4 < 2147483648 by omega) (show r < 2147483648 by omega)]
  by_cases h : A 9 4 ≤ r
  · rw [if_pos h, g_rd_in hp (by omega), hσ, g_wr_in hp (by omega), decide_eq_false (by omega), nI_1]; rfl
  · rw [if_neg h, g_rd_in hp (by omega), hσ, g_wr_in hp (by omega), decide_eq_true (by omega), nI_1]; rfl
end Leaf
