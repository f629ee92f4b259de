/-! ===== ballots as they are looked at ===== -/
def cts (A : AS) (s j : Nat) : Bool := decide (A 12 (2 * j + s) ≠ 0) && decide (A 12 (2 * j + s) - 1 ≤ A 10 s)
def chs (A : AS) (s j i : Nat) : Nat := A 14 (12 * (2 * j + s) + i)
def okb (A : AS) (s : Nat) (T : Nat → Bool) (j i : Nat) : Bool := (cts A s j && decide (i < A 13 (2 * j + s))) && (T (chs A s j i) && !brd A j (chs A s j i))
def rowk (A : AS) (s : Nat) (T : Nat → Bool) (j k x : Nat) : Int32 := match (List.range k).find? (fun i => okb A s T j i && decide (cnt (okb A s T j) i = x)) with
  | some i => nI (chs A s j i)
  | none => -1
def plk (A : AS) (s : Nat) (T : Nat → Bool) (j k b : Nat) : Nat := match (List.range k).find? (fun i => okb A s T j i && decide (chs A s j i = b)) with
  | some i => cnt (okb A s T j) i
  | none => 24
abbrev plc (A : AS) (s : Nat) (T : Nat → Bool) (j b : Nat) : Nat := plk A s T j 12 b
theorem find_s {p : Nat → Bool} {k : Nat} : (List.range (k + 1)).find? p = ((List.range k).find? p).or (if p k then some k else none) := by
  rw [List.range_succ, List.find?_append]
  congr 1
  simp [List.find?]
  cases p k <;> rfl
theorem okb_chs {A : AS} {s : Nat} {T : Nat → Bool} {j i k : Nat} (hw : WFq A) (hj : j < 7) (hs : s < 2) (h1 : okb A s T j i = true) (h2 : okb A s T j k = true) (he : chs A s j i = chs A s j k) : i = k := by
  unfold okb at h1 h2
  simp only [Bool.and_eq_true, decide_eq_true_eq] at h1 h2
  exact hw.2.2.2.2 (2 * j + s) i k (by omega) h1.1.2 h2.1.2 he
theorem cnt_ok {p : Nat → Bool} {i k : Nat} (h : i < k) (hp : p i = true) : cnt p i < cnt p k := by
  induction k with
  | zero => omega
  | succ k ih =>
    show cnt p i < cnt p k + (if p k = true then 1 else 0)
    by_cases he : i = k
    · subst he; rw [if_pos hp]; omega
    · have := ih (by omega)
      omega
theorem cnt_mo {p : Nat → Bool} {i k : Nat} (h : i ≤ k) : cnt p i ≤ cnt p k := by
  induction k with
  | zero => have : i = 0 := by omega
            subst this; exact Nat.le_refl _
  | succ k ih =>
    show cnt p i ≤ cnt p k + (if p k = true then 1 else 0)
    by_cases he : i = k + 1
    · subst he
      show cnt p k + _ ≤ _
      exact Nat.le_refl _
    · have := ih (by omega)
      omega
theorem rowk_s {A : AS} {s : Nat} {T : Nat → Bool} {j k x : Nat} (hx : x < k + 1) : rowk A s T j (k + 1) x = if okb A s T j k = true ∧ x = cnt (okb A s T j) k then nI (chs A s j k) else if x = k then -1 else rowk A s T j k x := by
  have none_of : ∀ x, (∀ i, i < k → okb A s T j i = true → cnt (okb A s T j) i ≠ x) → (List.range k).find? (fun i => okb A s T j i && decide (cnt (okb A s T j) i = x)) = none := by
    intro x h
    rcases find_cases (fun i => okb A s T j i && decide (cnt (okb A s T j) i = x)) k with ⟨hf, -⟩ | ⟨e, he, hq, -, -⟩
    · exact hf
    · rw [Bool.and_eq_true] at hq
      exact absurd (of_decide_eq_true hq.2) (h e he hq.1)
  unfold rowk
  rw [find_s]
  by_cases h1 : okb A s T j k = true ∧ x = cnt (okb A s T j) k
  · rw [if_pos h1, none_of x (fun i hi ho => by have := cnt_ok hi ho; omega), if_pos (by rw [h1.1, decide_eq_true h1.2.symm]; rfl)]
    rfl
  · have hn : ¬ (okb A s T j k && decide (cnt (okb A s T j) k = x)) = true := by
      rw [Bool.and_eq_true, decide_eq_true_eq]
      exact fun h => h1 ⟨h.1, h.2.symm⟩
    rw [if_neg h1, if_neg hn, Option.or_none]
    by_cases h2 : x = k
    · rw [if_pos h2, none_of x (fun i hi _ => by have := cnt_le (okb A s T j) i; omega)]
    · rw [if_neg h2]
theorem plk_s {A : AS} {s : Nat} {T : Nat → Bool} {j k b : Nat} (hw : WFq A) (hj : j < 7) (hs : s < 2) : plk A s T j (k + 1) b = if okb A s T j k = true ∧ b = chs A s j k then cnt (okb A s T j) k else plk A s T j k b := by
  unfold plk
  rw [find_s]
  by_cases h1 : okb A s T j k = true ∧ b = chs A s j k
  · rw [if_pos h1, if_pos (by rw [h1.1, decide_eq_true h1.2.symm]; rfl)]
    have : (List.range k).find? (fun i => okb A s T j i && decide (chs A s j i = b)) = none := by
      rcases find_cases (fun i => okb A s T j i && decide (chs A s j i = b)) k with ⟨hf, -⟩ | ⟨e, he, hq, -, -⟩
      · exact hf
      · rw [Bool.and_eq_true] at hq
        have := okb_chs hw hj hs hq.1 h1.1 ((of_decide_eq_true hq.2).trans h1.2)
        omega
    rw [this]
    rfl
  · have hn : ¬ (okb A s T j k && decide (chs A s j k = b)) = true := by
      rw [Bool.and_eq_true, decide_eq_true_eq]
      exact fun h => h1 ⟨h.1, h.2.symm⟩
    rw [if_neg h1, if_neg hn, Option.or_none]
theorem plk_le {A : AS} {s : Nat} {T : Nat → Bool} {j k b : Nat} (hk : k ≤ 12) : plk A s T j k b = 24 ∨ plk A s T j k b < 12 := by
  unfold plk
  rcases find_cases (fun i => okb A s T j i && decide (chs A s j i = b)) k with ⟨hf, -⟩ | ⟨e, he, hq, -, hf⟩
  · rw [hf]; exact Or.inl rfl
  · rw [hf]
    right
    have := cnt_le (okb A s T j) e
    show cnt (okb A s T j) e < 12
    omega
def hK (A : AS) (s : Nat) (T : Nat → Bool) (τ : ZS) (j k : Nat) : ZS := fun q i => if q = 25 ∧ 12 * j ≤ i ∧ i < 12 * j + k then rowk A s T j k (i - 12 * j) else if q = 26 ∧ 24 * j ≤ i ∧ i < 24 * j + 24 then nI (plk A s T j k (i - 24 * j)) else τ q i
def pF (τ : ZS) (j k : Nat) : ZS := fun q i => if q = 26 ∧ 24 * j ≤ i ∧ i < 24 * j + k then 24 else τ q i
theorem pF_s {τ : ZS} {j k : Nat} : zu (pF τ j k) 26 (24 * j + k) 24 = pF τ j (k + 1) := by
  funext q i
  rw [zu_e]
  unfold pF
  by_cases h1 : q = 26 ∧ i = 24 * j + k
  · rw [if_pos h1, if_pos (by omega)]
  · rw [if_neg h1]
    by_cases h2 : q = 26 ∧ 24 * j ≤ i ∧ i < 24 * j + k
    · rw [if_pos h2, if_pos (by omega)]
    · rw [if_neg h2, if_neg (by omega)]
theorem pF_0 {τ : ZS} {j : Nat} : pF τ j 0 = τ := by
  funext q i
  unfold pF
  rw [if_neg (by omega)]
theorem hK_0 {A : AS} {s : Nat} {T : Nat → Bool} {τ : ZS} {j : Nat} : hK A s T τ j 0 = pF τ j 24 := by
  funext q i
  unfold hK pF
  rw [if_neg (by omega)]
  by_cases h2 : q = 26 ∧ 24 * j ≤ i ∧ i < 24 * j + 24
  · rw [if_pos h2, if_pos h2]; rfl
  · rw [if_neg h2, if_neg h2]
theorem hK_q {A : AS} {s : Nat} {T : Nat → Bool} {τ : ZS} {j k q : Nat} (h1 : q ≠ 25) (h2 : q ≠ 26) : hK A s T τ j k q = τ q := by
  funext i
  unfold hK
  rw [if_neg (by omega), if_neg (by omega)]
/-- a choice that is not looked at -/
theorem hK_no {A : AS} {s : Nat} {T : Nat → Bool} {τ : ZS} {j k : Nat} (hw : WFq A) (hj : j < 7) (hs : s < 2) (h : okb A s T j k = false) : zu (hK A s T τ j k) 25 (12 * j + k) (-1) = hK A s T τ j (k + 1) := by
  funext q i
  rw [zu_e]
  unfold hK
  by_cases h1 : q = 25 ∧ i = 12 * j + k
  · rw [if_pos h1, if_pos (by omega), rowk_s (by omega), if_neg (by rw [h]; simp), if_pos (by omega)]
  · rw [if_neg h1]
    by_cases h2 : q = 25 ∧ 12 * j ≤ i ∧ i < 12 * j + k
    · rw [if_pos h2, if_pos (by omega), rowk_s (by omega), if_neg (by rw [h]; simp), if_neg (by omega)]
    · rw [if_neg h2, if_neg (show ¬ (q = 25 ∧ 12 * j ≤ i ∧ i < 12 * j + (k + 1)) by omega)]
      by_cases h3 : q = 26 ∧ 24 * j ≤ i ∧ i < 24 * j + 24
      · rw [if_pos h3, if_pos h3, plk_s hw hj hs, if_neg (by rw [h]; simp)]
      · rw [if_neg h3, if_neg h3]
/-- one that is -/
theorem hK_yes {A : AS} {s : Nat} {T : Nat → Bool} {τ : ZS} {j k : Nat} (hw : WFq A) (hj : j < 7) (hs : s < 2) (hc : chs A s j k < 24) (h : okb A s T j k = true) : zu (zu (zu (hK A s T τ j k) 25 (12 * j + k) (-1)) 26 (24 * j + chs A s j k) (nI (cnt (okb A s T j) k))) 25 (12 * j + cnt (okb A s T j) k) (nI (chs A s j k)) = hK A s T τ j (k + 1) := by
  have hl := cnt_le (okb A s T j) k
  funext q i
  rw [zu_e, zu_e, zu_e]
  unfold hK
  by_cases h1 : q = 25 ∧ i = 12 * j + cnt (okb A s T j) k
  · rw [if_pos h1, if_pos (by omega), rowk_s (by omega), if_pos ⟨h, by omega⟩]
  · rw [if_neg h1]
    by_cases h2 : q = 26 ∧ i = 24 * j + chs A s j k
    · rw [if_pos h2, if_neg (by omega), if_pos (by omega), plk_s hw hj hs, if_pos ⟨h, by omega⟩]
    · rw [if_neg h2]
      by_cases h3 : q = 25 ∧ i = 12 * j + k
      · rw [if_pos h3, if_pos (by omega), rowk_s (by omega), if_neg (by omega), if_pos (by omega)]
      · rw [if_neg h3]
        by_cases h4 : q = 25 ∧ 12 * j ≤ i ∧ i < 12 * j + k
        · rw [if_pos h4, if_pos (by omega), rowk_s (by omega), if_neg (by omega), if_neg (by omega)]
        · rw [if_neg h4, if_neg (show ¬ (q = 25 ∧ 12 * j ≤ i ∧ i < 12 * j + (k + 1)) by omega)]
          by_cases h5 : q = 26 ∧ 24 * j ≤ i ∧ i < 24 * j + 24
          · rw [if_pos h5, if_pos h5, plk_s hw hj hs, if_neg (by omega)]
          · rw [if_neg h5, if_neg h5]
theorem d_isListed {N : Nat} {σ : ZS} {T : Nat → Bool} (h : σ 24 7 = maskN T 24) {b : Nat} (hb : b < 24) : f_X5_isListed N σ (nI b) = some (zb (T b)) := by
  unfold f_X5_isListed
  rw [d_isBookNumber (by omega), Option.bind_some, decide_eq_true hb, if_neg (by decide), h, d_contains (by omega), Option.bind_some, bt_mask _ (by omega) (by omega), decide_eq_true hb, Bool.true_and]
  cases T b <;> rfl
theorem d_isListed_m1 {N : Nat} {σ : ZS} : f_X5_isListed N σ (-1) = some 0 := by
  unfold f_X5_isListed
  rw [d_isBookNumber_m1, Option.bind_some, if_pos (by decide)]
section Hear18
variable {N : Nat} {σ : ZS} {A : AS} {T : Nat → Bool}
theorem d_counting_18 (h : RDp A σ 0) (hw : WFq A) {j : Nat} (hj : j < 7) : f_X1_isCounting_18 N σ (nI j) = some (zb (cts A 0 j)) := by
  have h1 : σ 18 2 = nI (A 10 0) := h.1
  have h2 : σ 19 j = (if A 12 (2 * j + 0) = 0 then -1 else nI (A 12 (2 * j + 0) - 1)) := (h.2 j hj).1
  have w1 := hw.1 0
  have w2 := (hw.2.2.1 (2 * j + 0)).1
  unfold f_X1_isCounting_18
  rw [if_neg (nI_pos (by omega)), k_7]
  simp only [n_le (show 7 < 2147483648 by omega) (show j < 2147483648 by omega)]
  rw [if_neg (by omega), g_rd_in hj (by omega), g_rd_in hj (by omega), h2, h1]
  unfold cts
  by_cases h0 : A 12 (2 * j + 0) = 0
  · rw [if_pos h0, if_pos rfl, decide_eq_false (fun e => e h0)]; rfl
  · rw [if_neg h0, decide_eq_true h0, Bool.true_and, if_neg (by rw [n_m1 (by omega)]; exact id)]
    simp only [n_lt (show A 10 0 < 2147483648 by omega) (show A 12 (2 * j + 0) - 1 < 2147483648 by omega)]
    by_cases h3 : A 10 0 < A 12 (2 * j + 0) - 1
    · rw [if_pos h3, decide_eq_false (by omega)]; rfl
    · rw [if_neg h3, decide_eq_true (by omega)]; rfl
theorem d_pbook_18 (h : RDp A σ 0) (hw : WFq A) {j i : Nat} (hj : j < 7) (hi : i < 12) : f_X1_bookAt_18 N σ (nI j) (nI i) = some (if cts A 0 j = true ∧ i < A 13 (2 * j + 0) then nI (chs A 0 j i) else -1) := by
  unfold f_X1_bookAt_18
  rw [d_counting_18 h hw hj, Option.bind_some]
  simp only [zb_0]
  by_cases hc : cts A 0 j = true
  · rw [if_neg (by rw [hc]; decide), k_0, k_11, d_within (by omega) (by omega) (by omega), decide_eq_true (Nat.zero_le _), decide_eq_true (show i ≤ 11 by omega), Option.bind_some, if_neg (by decide), k_12, n_jb, g_rd_in (by omega) (by omega)]
    have hc' := hc
    unfold cts at hc'
    rw [Bool.and_eq_true] at hc'
    have e : σ 20 (12 * j + i) = if i < A 13 (2 * j + 0) then nI (A 14 (12 * (2 * j + 0) + i)) else -1 := (h.2 j hj).2 (of_decide_eq_true hc'.1) i hi
    rw [e]
    by_cases hm : i < A 13 (2 * j + 0)
    · rw [if_pos hm, if_pos ⟨hc, hm⟩]; rfl
    · rw [if_neg hm, if_neg (fun x => hm x.2)]
  · have hc' : cts A 0 j = false := by simpa using hc
    rw [if_pos hc', if_neg (fun x => hc x.1)]
theorem d_hearJudge_18 (hN : 200 ≤ N) (h : RDp A σ 0) (hjj : RDj A σ) (hb : WFb A) (hw : WFq A) (hT : ∀ b, T b = true → b < A 0 0) (hl : σ 24 7 = maskN T 24) {j : Nat} (hj : j < 7) : f_X5_hearJudge_24_18_11 N σ (nI j) = some (hK A 0 T σ j 12) := by
  have hnb := hb.1
  unfold f_X5_hearJudge_24_18_11
  rw [d_isJudge (by omega), Option.bind_some, decide_eq_true hj, if_neg (by decide)]
  unfold L_X5_hearJudge_24_18_11_11
  refine Eq.trans (congrArg (lq2 _ N 0) (pF_0 (j := j)).symm) ?_
  refine lq2_seq (fun k => nI k) (fun k => pF σ j k) _ 24 ?_ ?_ N (by omega)
  · intro k hk rc
    unfold B_X5_hearJudge_24_18_11_11
    rw [k_24]
    simp only [n_le (show 24 < 2147483648 by omega) (show k < 2147483648 by omega)]
    rw [if_neg (by omega), n_jb, g_wr_in (by omega) (by omega)]
    simp only [g_lt_e, nI_1]
    rw [← k_24, pF_s]
  · intro rc
    unfold B_X5_hearJudge_24_18_11_11
    rw [if_pos (by decide)]
    dsimp only
    unfold L_X5_hearJudge_24_18_11_44
    refine Eq.trans (congrArg (lq3 _ N 0 0) (hK_0 (A := A) (s := 0) (T := T)).symm) ?_
    refine lq3_seq (fun k => nI (cnt (okb A 0 T j) k)) (fun k => nI k) (fun k => hK A 0 T σ j k) _ 12 ?_ ?_ N (by omega)
    · intro k hk rc2
      have hpp : RDp A (hK A 0 T σ j k) 0 := by
        unfold RDp
        rw [hK_q (by omega) (by omega), hK_q (by omega) (by omega), hK_q (by omega) (by omega)]
        exact h
      have hcl := cnt_le (okb A 0 T j) k
      unfold B_X5_hearJudge_24_18_11_44
      rw [k_12]
      simp only [n_le (show 12 < 2147483648 by omega) (show k < 2147483648 by omega)]
      rw [if_neg (by omega), d_pbook_18 hpp hw hj hk, Option.bind_some, n_jb, g_wr_in (by omega) (by omega)]
      simp only [g_lt_e, nI_1]
      have hl7 : zu (hK A 0 T σ j k) 25 (12 * j + k) (-1) 24 7 = maskN T 24 := by
        rw [zu_q (by omega), hK_q (by omega) (by omega)]; exact hl
      have hj7 : RDj A (zu (hK A 0 T σ j k) 25 (12 * j + k) (-1)) := by
        unfold RDj
        rw [zu_q (by omega), zu_q (by omega), zu_q (by omega), zu_q (by omega), zu_q (by omega), hK_q (by omega) (by omega), hK_q (by omega) (by omega), hK_q (by omega) (by omega), hK_q (by omega) (by omega), hK_q (by omega) (by omega)]
        exact hjj
      have cs : cnt (okb A 0 T j) (k + 1) = cnt (okb A 0 T j) k + if okb A 0 T j k = true then 1 else 0 := rfl
      by_cases hc : cts A 0 j = true ∧ k < A 13 (2 * j + 0)
      · have hch : chs A 0 j k < A 0 0 := hw.2.2.2.1 (2 * j + 0) k (by omega) hc.2
        rw [if_pos hc, d_isListed hl7 (by omega), Option.bind_some]
        simp only [zb_0]
        by_cases ht : T (chs A 0 j k) = true
        · rw [if_neg (by rw [ht]; decide), d_isBarred hj7 hb hj (by omega), Option.bind_some, decide_eq_true hch, Bool.true_and]
          simp only [zb_0]
          by_cases hq : brd A j (chs A 0 j k) = true
          · have ho : okb A 0 T j k = false := by unfold okb; rw [hq]; simp
            rw [if_neg (by rw [hq]; decide), hK_no hw hj (by omega) ho, cs, if_neg (by rw [ho]; decide)]
            rfl
          · have hq' : brd A j (chs A 0 j k) = false := by simpa using hq
            have ho : okb A 0 T j k = true := by unfold okb; rw [hc.1, decide_eq_true hc.2, ht, hq']; rfl
            rw [if_pos hq', k_24, n_jb, g_wr_in (by omega) (by omega), n_jb, g_wr_in (by omega) (by omega), hK_yes hw hj (by omega) (by omega) ho, cs, if_pos ho]
        · have ht' : T (chs A 0 j k) = false := by simpa using ht
          have ho : okb A 0 T j k = false := by unfold okb; rw [ht']; simp
          rw [if_pos ht', hK_no hw hj (by omega) ho, cs, if_neg (by rw [ho]; decide)]
          rfl
      · have ho : okb A 0 T j k = false := by
          unfold okb
          cases h1 : cts A 0 j with
          | false => rfl
          | true => rw [decide_eq_false (fun x => hc ⟨h1, x⟩)]; rfl
        rw [if_neg hc, d_isListed_m1, Option.bind_some, if_pos rfl, hK_no hw hj (by omega) ho, cs, if_neg (by rw [ho]; decide)]
        rfl
    · intro rc2
      unfold B_X5_hearJudge_24_18_11_44
      rw [if_pos (by decide)]
end Hear18
section Hear21
variable {N : Nat} {σ : ZS} {A : AS} {T : Nat → Bool}
theorem d_counting_21 (h : RDp A σ 1) (hw : WFq A) {j : Nat} (hj : j < 7) : f_X1_isCounting_21 N σ (nI j) = some (zb (cts A 1 j)) := by
  have h1 : σ 21 2 = nI (A 10 1) := h.1
  have h2 : σ 22 j = (if A 12 (2 * j + 1) = 0 then -1 else nI (A 12 (2 * j + 1) - 1)) := (h.2 j hj).1
  have w1 := hw.1 1
  have w2 := (hw.2.2.1 (2 * j + 1)).1
  unfold f_X1_isCounting_21
  rw [if_neg (nI_pos (by omega)), k_7]
  simp only [n_le (show 7 < 2147483648 by omega) (show j < 2147483648 by omega)]
  rw [if_neg (by omega), g_rd_in hj (by omega), g_rd_in hj (by omega), h2, h1]
  unfold cts
  by_cases h0 : A 12 (2 * j + 1) = 0
  · rw [if_pos h0, if_pos rfl, decide_eq_false (fun e => e h0)]; rfl
  · rw [if_neg h0, decide_eq_true h0, Bool.true_and, if_neg (by rw [n_m1 (by omega)]; exact id)]
    simp only [n_lt (show A 10 1 < 2147483648 by omega) (show A 12 (2 * j + 1) - 1 < 2147483648 by omega)]
    by_cases h3 : A 10 1 < A 12 (2 * j + 1) - 1
    · rw [if_pos h3, decide_eq_false (by omega)]; rfl
    · rw [if_neg h3, decide_eq_true (by omega)]; rfl
theorem d_pbook_21 (h : RDp A σ 1) (hw : WFq A) {j i : Nat} (hj : j < 7) (hi : i < 12) : f_X1_bookAt_21 N σ (nI j) (nI i) = some (if cts A 1 j = true ∧ i < A 13 (2 * j + 1) then nI (chs A 1 j i) else -1) := by
  unfold f_X1_bookAt_21
  rw [d_counting_21 h hw hj, Option.bind_some]
  simp only [zb_0]
  by_cases hc : cts A 1 j = true
  · rw [if_neg (by rw [hc]; decide), k_0, k_11, d_within (by omega) (by omega) (by omega), decide_eq_true (Nat.zero_le _), decide_eq_true (show i ≤ 11 by omega), Option.bind_some, if_neg (by decide), k_12, n_jb, g_rd_in (by omega) (by omega)]
    have hc' := hc
    unfold cts at hc'
    rw [Bool.and_eq_true] at hc'
    have e : σ 23 (12 * j + i) = if i < A 13 (2 * j + 1) then nI (A 14 (12 * (2 * j + 1) + i)) else -1 := (h.2 j hj).2 (of_decide_eq_true hc'.1) i hi
    rw [e]
    by_cases hm : i < A 13 (2 * j + 1)
    · rw [if_pos hm, if_pos ⟨hc, hm⟩]; rfl
    · rw [if_neg hm, if_neg (fun x => hm x.2)]
  · have hc' : cts A 1 j = false := by simpa using hc
    rw [if_pos hc', if_neg (fun x => hc x.1)]
theorem d_hearJudge_21 (hN : 200 ≤ N) (h : RDp A σ 1) (hjj : RDj A σ) (hb : WFb A) (hw : WFq A) (hT : ∀ b, T b = true → b < A 0 0) (hl : σ 24 7 = maskN T 24) {j : Nat} (hj : j < 7) : f_X5_hearJudge_24_21_11 N σ (nI j) = some (hK A 1 T σ j 12) := by
  have hnb := hb.1
  unfold f_X5_hearJudge_24_21_11
  rw [d_isJudge (by omega), Option.bind_some, decide_eq_true hj, if_neg (by decide)]
  unfold L_X5_hearJudge_24_21_11_11
  refine Eq.trans (congrArg (lq2 _ N 0) (pF_0 (j := j)).symm) ?_
  refine lq2_seq (fun k => nI k) (fun k => pF σ j k) _ 24 ?_ ?_ N (by omega)
  · intro k hk rc
    unfold B_X5_hearJudge_24_21_11_11
    rw [k_24]
    simp only [n_le (show 24 < 2147483648 by omega) (show k < 2147483648 by omega)]
    rw [if_neg (by omega), n_jb, g_wr_in (by omega) (by omega)]
    simp only [g_lt_e, nI_1]
    rw [← k_24, pF_s]
  · intro rc
    unfold B_X5_hearJudge_24_21_11_11
    rw [if_pos (by decide)]
    dsimp only
    unfold L_X5_hearJudge_24_21_11_44
    refine Eq.trans (congrArg (lq3 _ N 0 0) (hK_0 (A := A) (s := 1) (T := T)).symm) ?_
    refine lq3_seq (fun k => nI (cnt (okb A 1 T j) k)) (fun k => nI k) (fun k => hK A 1 T σ j k) _ 12 ?_ ?_ N (by omega)
    · intro k hk rc2
      have hpp : RDp A (hK A 1 T σ j k) 1 := by
        unfold RDp
        rw [hK_q (by omega) (by omega), hK_q (by omega) (by omega), hK_q (by omega) (by omega)]
        exact h
      have hcl := cnt_le (okb A 1 T j) k
      unfold B_X5_hearJudge_24_21_11_44
      rw [k_12]
      simp only [n_le (show 12 < 2147483648 by omega) (show k < 2147483648 by omega)]
      rw [if_neg (by omega), d_pbook_21 hpp hw hj hk, Option.bind_some, n_jb, g_wr_in (by omega) (by omega)]
      simp only [g_lt_e, nI_1]
      have hl7 : zu (hK A 1 T σ j k) 25 (12 * j + k) (-1) 24 7 = maskN T 24 := by
        rw [zu_q (by omega), hK_q (by omega) (by omega)]; exact hl
      have hj7 : RDj A (zu (hK A 1 T σ j k) 25 (12 * j + k) (-1)) := by
        unfold RDj
        rw [zu_q (by omega), zu_q (by omega), zu_q (by omega), zu_q (by omega), zu_q (by omega), hK_q (by omega) (by omega), hK_q (by omega) (by omega), hK_q (by omega) (by omega), hK_q (by omega) (by omega), hK_q (by omega) (by omega)]
        exact hjj
      have cs : cnt (okb A 1 T j) (k + 1) = cnt (okb A 1 T j) k + if okb A 1 T j k = true then 1 else 0 := rfl
      by_cases hc : cts A 1 j = true ∧ k < A 13 (2 * j + 1)
      · have hch : chs A 1 j k < A 0 0 := hw.2.2.2.1 (2 * j + 1) k (by omega) hc.2
        rw [if_pos hc, d_isListed hl7 (by omega), Option.bind_some]
        simp only [zb_0]
        by_cases ht : T (chs A 1 j k) = true
        · rw [if_neg (by rw [ht]; decide), d_isBarred hj7 hb hj (by omega), Option.bind_some, decide_eq_true hch, Bool.true_and]
          simp only [zb_0]
          by_cases hq : brd A j (chs A 1 j k) = true
          · have ho : okb A 1 T j k = false := by unfold okb; rw [hq]; simp
            rw [if_neg (by rw [hq]; decide), hK_no hw hj (by omega) ho, cs, if_neg (by rw [ho]; decide)]
            rfl
          · have hq' : brd A j (chs A 1 j k) = false := by simpa using hq
            have ho : okb A 1 T j k = true := by unfold okb; rw [hc.1, decide_eq_true hc.2, ht, hq']; rfl
            rw [if_pos hq', k_24, n_jb, g_wr_in (by omega) (by omega), n_jb, g_wr_in (by omega) (by omega), hK_yes hw hj (by omega) (by omega) ho, cs, if_pos ho]
        · have ht' : T (chs A 1 j k) = false := by simpa using ht
          have ho : okb A 1 T j k = false := by unfold okb; rw [ht']; simp
          rw [if_pos ht', hK_no hw hj (by omega) ho, cs, if_neg (by rw [ho]; decide)]
          rfl
      · have ho : okb A 1 T j k = false := by
          unfold okb
          cases h1 : cts A 1 j with
          | false => rfl
          | true => rw [decide_eq_false (fun x => hc ⟨h1, x⟩)]; rfl
        rw [if_neg hc, d_isListed_m1, Option.bind_some, if_pos rfl, hK_no hw hj (by omega) ho, cs, if_neg (by rw [ho]; decide)]
        rfl
    · intro rc2
      unfold B_X5_hearJudge_24_21_11_44
      rw [if_pos (by decide)]
end Hear21
