/-! ===== all ballots heard; what a count knows ===== -/
def fl (σ : ZS) (p : Nat) (g : Nat → Int32) (k : Nat) : ZS := fun q i => if q = p ∧ i < k then g i else σ q i
theorem fl_0 {σ : ZS} {p : Nat} {g : Nat → Int32} : fl σ p g 0 = σ := by
  funext q i
  unfold fl
  rw [if_neg (by omega)]
theorem fl_s {σ : ZS} {p : Nat} {g : Nat → Int32} {k : Nat} : zu (fl σ p g k) p k (g k) = fl σ p g (k + 1) := by
  funext q i
  rw [zu_e]
  unfold fl
  by_cases h1 : q = p ∧ i = k
  · rw [if_pos h1, if_pos (by omega), h1.2]
  · rw [if_neg h1]
    by_cases h2 : q = p ∧ i < k
    · rw [if_pos h2, if_pos (by omega)]
    · rw [if_neg h2, if_neg (by omega)]
theorem fl_q {σ : ZS} {p q : Nat} {g : Nat → Int32} {k : Nat} (h : q ≠ p) : fl σ p g k q = σ q := by
  funext i
  unfold fl
  rw [if_neg (by omega)]
theorem fl_p {σ : ZS} {p : Nat} {g : Nat → Int32} {k i : Nat} (h : i < k) : fl σ p g k p i = g i := by
  unfold fl
  rw [if_pos ⟨rfl, h⟩]
theorem fl_up {σ : ZS} {p : Nat} {g h : Nat → Int32} {k j : Nat} {x : Int32} (hj : j < k) (h1 : h j = x) (h2 : ∀ i, i < k → i ≠ j → h i = g i) : zu (fl σ p g k) p j x = fl σ p h k := by
  funext q i
  rw [zu_e]
  unfold fl
  by_cases hq : q = p ∧ i = j
  · rw [if_pos hq, if_pos (by omega), hq.2, h1]
  · rw [if_neg hq]
    by_cases h3 : q = p ∧ i < k
    · rw [if_pos h3, if_pos h3, h2 i h3.2 (by omega)]
    · rw [if_neg h3, if_neg h3]
theorem fl_congr {σ : ZS} {p : Nat} {g h : Nat → Int32} {k : Nat} (he : ∀ i, i < k → g i = h i) : fl σ p g k = fl σ p h k := by
  funext q i
  unfold fl
  by_cases h3 : q = p ∧ i < k
  · rw [if_pos h3, if_pos h3, he i h3.2]
  · rw [if_neg h3, if_neg h3]
def hA (A : AS) (s : Nat) (T : Nat → Bool) (σ : ZS) (k : Nat) : ZS := fun q i => if q = 25 ∧ i < 12 * k then rowk A s T (i / 12) 12 (i % 12) else if q = 26 ∧ i < 24 * k then nI (plc A s T (i / 24) (i % 24)) else σ q i
theorem hA_0 {A : AS} {s : Nat} {T : Nat → Bool} {σ : ZS} : hA A s T σ 0 = σ := by
  funext q i
  unfold hA
  rw [if_neg (by omega), if_neg (by omega)]
theorem hA_q {A : AS} {s : Nat} {T : Nat → Bool} {σ : ZS} {k q : Nat} (h1 : q ≠ 25) (h2 : q ≠ 26) : hA A s T σ k q = σ q := by
  funext i
  unfold hA
  rw [if_neg (by omega), if_neg (by omega)]
theorem hA_s {A : AS} {s : Nat} {T : Nat → Bool} {σ : ZS} {k : Nat} : hK A s T (hA A s T σ k) k 12 = hA A s T σ (k + 1) := by
  funext q i
  unfold hK
  by_cases h1 : q = 25 ∧ 12 * k ≤ i ∧ i < 12 * k + 12
  · rw [if_pos h1]
    unfold hA
    rw [if_pos (by omega), show i / 12 = k by omega, show i % 12 = i - 12 * k by omega]
  · rw [if_neg h1]
    by_cases h2 : q = 26 ∧ 24 * k ≤ i ∧ i < 24 * k + 24
    · rw [if_pos h2]
      unfold hA
      rw [if_neg (by omega), if_pos (by omega), show i / 24 = k by omega, show i % 24 = i - 24 * k by omega]
    · rw [if_neg h2]
      unfold hA
      by_cases h3 : q = 25 ∧ i < 12 * k
      · rw [if_pos h3, if_pos (by omega)]
      · rw [if_neg h3, if_neg (show ¬ (q = 25 ∧ i < 12 * (k + 1)) by omega)]
        by_cases h4 : q = 26 ∧ i < 24 * k
        · rw [if_pos h4, if_pos (by omega)]
        · rw [if_neg h4, if_neg (by omega)]
def tieN (A : AS) (s : Nat) (T : Nat → Bool) (c : Bool) (b : Nat) : Nat := if c then 24 - plc A s T 0 b else 0
def hS (A : AS) (s : Nat) (T : Nat → Bool) (c : Bool) (σ : ZS) : ZS := fl (hA A s T (zu σ 24 7 (maskN T 24)) 7) 27 (fun b => nI (tieN A s T c b)) 24
def TL (A : AS) (s : Nat) (T : Nat → Bool) (c : Bool) (τ : ZS) : Prop := τ 24 7 = maskN T 24 ∧ (∀ j x, j < 7 → x < 12 → τ 25 (12 * j + x) = rowk A s T j 12 x) ∧ (∀ j b, j < 7 → b < 24 → τ 26 (24 * j + b) = nI (plc A s T j b)) ∧ (∀ b, b < 24 → τ 27 b = nI (tieN A s T c b))
theorem TL_hS {A : AS} {s : Nat} {T : Nat → Bool} {c : Bool} {σ : ZS} : TL A s T c (hS A s T c σ) := by
  unfold hS
  refine ⟨?_, fun j x hj hx => ?_, fun j b hj hb => ?_, fun b hb => fl_p hb⟩
  · rw [fl_q (by omega), hA_q (by omega) (by omega)]; exact zu_p
  · rw [fl_q (by omega)]
    unfold hA
    rw [if_pos (by omega), show (12 * j + x) / 12 = j by omega, show (12 * j + x) % 12 = x by omega]
  · rw [fl_q (by omega)]
    unfold hA
    rw [if_neg (by omega), if_pos (by omega), show (24 * j + b) / 24 = j by omega, show (24 * j + b) % 24 = b by omega]
theorem hS_q {A : AS} {s : Nat} {T : Nat → Bool} {c : Bool} {σ : ZS} {q : Nat} (h1 : q ≠ 24) (h2 : q ≠ 25) (h3 : q ≠ 26) (h4 : q ≠ 27) : hS A s T c σ q = σ q := by
  unfold hS
  rw [fl_q h4, hA_q h2 h3, zu_q h1]
theorem TL.of {A : AS} {s : Nat} {T : Nat → Bool} {c : Bool} {σ τ : ZS} (h : TL A s T c σ) (h0 : τ 24 = σ 24) (h1 : τ 25 = σ 25) (h2 : τ 26 = σ 26) (h3 : τ 27 = σ 27) : TL A s T c τ := by
  unfold TL
  rw [h0, h1, h2, h3]
  exact h
theorem plc_le (A : AS) (s : Nat) (T : Nat → Bool) (j b : Nat) : plc A s T j b ≤ 24 := by
  rcases plk_le (A := A) (s := s) (T := T) (j := j) (k := 12) (b := b) (Nat.le_refl _) with h | h
  · exact Nat.le_of_eq h
  · show plk A s T j 12 b ≤ 24
    omega
theorem tieN_le (A : AS) (s : Nat) (T : Nat → Bool) (c : Bool) (b : Nat) : tieN A s T c b ≤ 24 := by
  unfold tieN
  split <;> omega
/-- a row of a judge's, and the place of the book in it -/
theorem row_plc {A : AS} {s : Nat} {T : Nat → Bool} {j i : Nat} (hw : WFq A) (hj : j < 7) (hs : s < 2) (hi : i < 12) (hT : ∀ b, T b = true → b < 24) : (rowk A s T j 12 i = -1 ∧ ∀ b, plc A s T j b ≠ i) ∨ ∃ b, b < 24 ∧ T b = true ∧ rowk A s T j 12 i = nI b ∧ plc A s T j b = i ∧ ∀ c, plc A s T j c = i → c = b := by
  have back : ∀ c, plc A s T j c = i → ∃ e, e < 12 ∧ okb A s T j e = true ∧ chs A s j e = c ∧ cnt (okb A s T j) e = i := by
    intro c hc
    have hc : plk A s T j 12 c = i := hc
    unfold plk at hc
    rcases find_cases (fun i => okb A s T j i && decide (chs A s j i = c)) 12 with ⟨hf, -⟩ | ⟨e, he, hq, -, hf⟩
    · rw [hf] at hc
      have hc : 24 = i := hc
      omega
    · rw [hf] at hc
      rw [Bool.and_eq_true] at hq
      exact ⟨e, he, hq.1, of_decide_eq_true hq.2, hc⟩
  rcases find_cases (fun e => okb A s T j e && decide (cnt (okb A s T j) e = i)) 12 with ⟨hf, hall⟩ | ⟨e, he, hq, -, hf⟩
  · left
    refine ⟨by unfold rowk; rw [hf], fun b hb => ?_⟩
    obtain ⟨e, he, h1, -, h3⟩ := back b hb
    have := hall e he
    rw [h1, decide_eq_true h3] at this
    cases this
  · right
    rw [Bool.and_eq_true] at hq
    have hq2 := of_decide_eq_true hq.2
    have hTb : T (chs A s j e) = true := by
      have := hq.1
      unfold okb at this
      simp only [Bool.and_eq_true] at this
      exact this.2.1
    refine ⟨chs A s j e, hT _ hTb, hTb, by unfold rowk; rw [hf], ?_, fun c hc => ?_⟩
    · show plk A s T j 12 (chs A s j e) = i
      unfold plk
      rcases find_cases (fun i => okb A s T j i && decide (chs A s j i = chs A s j e)) 12 with ⟨hf2, hall⟩ | ⟨e2, he2, hq3, -, hf2⟩
      · have := hall e he
        rw [hq.1, decide_eq_true rfl] at this
        cases this
      · rw [hf2]
        rw [Bool.and_eq_true] at hq3
        have := okb_chs hw hj hs hq3.1 hq.1 (of_decide_eq_true hq3.2)
        subst this
        exact hq2
    · obtain ⟨e2, he2, h1, h2, h3⟩ := back c hc
      have : e2 = e := by
        rcases Nat.lt_trichotomy e2 e with h | h | h
        · have := cnt_ok h h1; omega
        · exact h
        · have := cnt_ok h hq.1; omega
      subst this
      exact h2.symm
/-- a book that is on a judge's ballot is listed -/
theorem plc_T {A : AS} {s : Nat} {T : Nat → Bool} {j b : Nat} (h : plc A s T j b < 24) : T b = true := by
  have h : plk A s T j 12 b < 24 := h
  unfold plk at h
  rcases find_cases (fun i => okb A s T j i && decide (chs A s j i = b)) 12 with ⟨hf, -⟩ | ⟨e, he, hq, -, hf⟩
  · rw [hf] at h
    exact absurd h (Nat.lt_irrefl 24)
  · rw [Bool.and_eq_true] at hq
    have h2 := of_decide_eq_true hq.2
    have := hq.1
    unfold okb at this
    simp only [Bool.and_eq_true] at this
    rw [← h2]
    exact this.2.1
section HearAll18
variable {N : Nat} {σ : ZS} {A : AS} {T : Nat → Bool}
theorem d_hear_18 (hN : 200 ≤ N) (h : RDp A σ 0) (hjj : RDj A σ) (hb : WFb A) (hw : WFq A) (hT : ∀ b, T b = true → b < A 0 0) (c : Bool) : f_X5_hear_24_18_11 N σ (maskN T 24) (zb c) = some (hS A 0 T c σ) := by
  unfold f_X5_hear_24_18_11
  rw [g_lt_e]
  unfold L_X5_hear_24_18_11_8
  refine Eq.trans (congrArg (lq2 _ N 0) (hA_0 (A := A) (s := 0) (T := T)).symm) ?_
  refine lq2_seq (fun k => nI k) (fun k => hA A 0 T (zu σ 24 7 (maskN T 24)) k) _ 7 ?_ ?_ N (by omega)
  · intro k hk rc
    have hpp : RDp A (hA A 0 T (zu σ 24 7 (maskN T 24)) k) 0 := by
      unfold RDp
      rw [hA_q (by omega) (by omega), hA_q (by omega) (by omega), hA_q (by omega) (by omega), zu_q (by omega), zu_q (by omega), zu_q (by omega)]
      exact h
    have hj7 : RDj A (hA A 0 T (zu σ 24 7 (maskN T 24)) k) := by
      unfold RDj
      rw [hA_q (by omega) (by omega), hA_q (by omega) (by omega), hA_q (by omega) (by omega), hA_q (by omega) (by omega), hA_q (by omega) (by omega), zu_q (by omega), zu_q (by omega), zu_q (by omega), zu_q (by omega), zu_q (by omega)]
      exact hjj
    unfold B_X5_hear_24_18_11_8
    rw [k_7]
    simp only [n_le (show 7 < 2147483648 by omega) (show k < 2147483648 by omega)]
    rw [if_neg (by omega), d_hearJudge_18 hN hpp hj7 hb hw hT (by rw [hA_q (by omega) (by omega)]; exact zu_p) hk, Option.bind_some, hA_s]
    simp only [g_lt_e, nI_1]
  · intro rc
    unfold B_X5_hear_24_18_11_8
    rw [if_pos (by decide)]
    dsimp only
    unfold L_X5_hear_24_18_11_32
    refine Eq.trans (congrArg (lq2 _ N 0) (fl_0 (p := 27) (g := fun b => nI (tieN A 0 T c b))).symm) ?_
    refine lq2_seq (fun k => nI k) (fun k => fl (hA A 0 T (zu σ 24 7 (maskN T 24)) 7) 27 (fun b => nI (tieN A 0 T c b)) k) _ 24 ?_ ?_ N (by omega)
    · intro k hk rc
      unfold B_X5_hear_24_18_11_32
      rw [k_24]
      simp only [n_le (show 24 < 2147483648 by omega) (show k < 2147483648 by omega), zb_0, g_lt_e, nI_1]
      rw [if_neg (by omega)]
      cases c with
      | false =>
        rw [if_pos rfl, g_wr_in hk (by omega)]
        rw [← fl_s]
        rfl
      | true =>
        have hp := plc_le A 0 T 0 k
        rw [if_neg (by decide), k_0, nI_add, Nat.zero_add, g_rd_in (by omega) (by omega), g_wr_in hk (by omega), fl_q (by omega)]
        rw [show hA A 0 T (zu σ 24 7 (maskN T 24)) 7 26 k = nI (plc A 0 T 0 k) by
          unfold hA
          rw [if_neg (by omega), if_pos (by omega), show k / 24 = 0 by omega, show k % 24 = k by omega], pk_sub hp]
        rw [← fl_s]
        rfl
    · intro rc
      unfold B_X5_hear_24_18_11_32
      rw [if_pos (by decide)]
      rfl
end HearAll18
section HearAll21
variable {N : Nat} {σ : ZS} {A : AS} {T : Nat → Bool}
theorem d_hear_21 (hN : 200 ≤ N) (h : RDp A σ 1) (hjj : RDj A σ) (hb : WFb A) (hw : WFq A) (hT : ∀ b, T b = true → b < A 0 0) (c : Bool) : f_X5_hear_24_21_11 N σ (maskN T 24) (zb c) = some (hS A 1 T c σ) := by
  unfold f_X5_hear_24_21_11
  rw [g_lt_e]
  unfold L_X5_hear_24_21_11_8
  refine Eq.trans (congrArg (lq2 _ N 0) (hA_0 (A := A) (s := 1) (T := T)).symm) ?_
  refine lq2_seq (fun k => nI k) (fun k => hA A 1 T (zu σ 24 7 (maskN T 24)) k) _ 7 ?_ ?_ N (by omega)
  · intro k hk rc
    have hpp : RDp A (hA A 1 T (zu σ 24 7 (maskN T 24)) k) 1 := by
      unfold RDp
      rw [hA_q (by omega) (by omega), hA_q (by omega) (by omega), hA_q (by omega) (by omega), zu_q (by omega), zu_q (by omega), zu_q (by omega)]
      exact h
    have hj7 : RDj A (hA A 1 T (zu σ 24 7 (maskN T 24)) k) := by
      unfold RDj
      rw [hA_q (by omega) (by omega), hA_q (by omega) (by omega), hA_q (by omega) (by omega), hA_q (by omega) (by omega), hA_q (by omega) (by omega), zu_q (by omega), zu_q (by omega), zu_q (by omega), zu_q (by omega), zu_q (by omega)]
      exact hjj
    unfold B_X5_hear_24_21_11_8
    rw [k_7]
    simp only [n_le (show 7 < 2147483648 by omega) (show k < 2147483648 by omega)]
    rw [if_neg (by omega), d_hearJudge_21 hN hpp hj7 hb hw hT (by rw [hA_q (by omega) (by omega)]; exact zu_p) hk, Option.bind_some, hA_s]
    simp only [g_lt_e, nI_1]
  · intro rc
    unfold B_X5_hear_24_21_11_8
    rw [if_pos (by decide)]
    dsimp only
    unfold L_X5_hear_24_21_11_32
    refine Eq.trans (congrArg (lq2 _ N 0) (fl_0 (p := 27) (g := fun b => nI (tieN A 1 T c b))).symm) ?_
    refine lq2_seq (fun k => nI k) (fun k => fl (hA A 1 T (zu σ 24 7 (maskN T 24)) 7) 27 (fun b => nI (tieN A 1 T c b)) k) _ 24 ?_ ?_ N (by omega)
    · intro k hk rc
      unfold B_X5_hear_24_21_11_32
      rw [k_24]
      simp only [n_le (show 24 < 2147483648 by omega) (show k < 2147483648 by omega), zb_0, g_lt_e, nI_1]
      rw [if_neg (by omega)]
      cases c with
      | false =>
        rw [if_pos rfl, g_wr_in hk (by omega)]
        rw [← fl_s]
        rfl
      | true =>
        have hp := plc_le A 1 T 0 k
        rw [if_neg (by decide), k_0, nI_add, Nat.zero_add, g_rd_in (by omega) (by omega), g_wr_in hk (by omega), fl_q (by omega)]
        rw [show hA A 1 T (zu σ 24 7 (maskN T 24)) 7 26 k = nI (plc A 1 T 0 k) by
          unfold hA
          rw [if_neg (by omega), if_pos (by omega), show k / 24 = 0 by omega, show k % 24 = k by omega], pk_sub hp]
        rw [← fl_s]
        rfl
    · intro rc
      unfold B_X5_hear_24_21_11_32
      rw [if_pos (by decide)]
      rfl
end HearAll21
