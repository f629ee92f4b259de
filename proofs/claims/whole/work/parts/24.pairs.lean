/-! ===== pairs ===== -/
def ldj (A : AS) (s : Nat) (T : Nat → Bool) (a b j : Nat) : Int := if plc A s T j a < plc A s T j b then 1 else if plc A s T j b < plc A s T j a then -1 else 0
def lead (A : AS) (s : Nat) (T : Nat → Bool) (a b : Nat) : Int := sumI (ldj A s T a b) 7
def bts (A : AS) (s : Nat) (T : Nat → Bool) (a b : Nat) : Bool := T a && T b && decide (0 < lead A s T a b)
theorem lead_neg (A : AS) (s : Nat) (T : Nat → Bool) (a b : Nat) : lead A s T b a = -lead A s T a b := by
  have : ∀ n, sumI (ldj A s T b a) n = -sumI (ldj A s T a b) n := by
    intro n
    induction n with
    | zero => rfl
    | succ n ih =>
      show sumI _ n + ldj A s T b a n = -(sumI _ n + ldj A s T a b n)
      have : ldj A s T b a n = -ldj A s T a b n := by
        unfold ldj
        split <;> split <;> omega
      omega
  exact this 7
theorem lead_bd (A : AS) (s : Nat) (T : Nat → Bool) (a b : Nat) : ∀ n, n ≤ 7 → -100 ≤ sumI (ldj A s T a b) n ∧ sumI (ldj A s T a b) n ≤ 100 := by
  intro n hn
  have := sumI_bd (g := ldj A s T a b) (c := 1) (n := n) (fun j _ => by
    unfold ldj
    split
    · omega
    · split <;> omega)
  omega
def vQ (A : AS) (s : Nat) (T : Nat → Bool) (b : Nat) : Int := (cnt (bts A s T b) 24 : Int) - cnt (fun o => bts A s T o b) 24
theorem vQ_bd (A : AS) (s : Nat) (T : Nat → Bool) (b : Nat) : -1000 ≤ vQ A s T b ∧ vQ A s T b ≤ 1000 := by
  have h1 := cnt_le (bts A s T b) 24
  have h2 := cnt_le (fun o => bts A s T o b) 24
  unfold vQ
  omega
/-- the pairs that were compared when a and b stand at the head -/
def prc (a b x y : Nat) : Bool := (decide (x < y) && (decide (x < a) || (decide (x = a) && decide (y < b)))) || (decide (y < x) && (decide (y < a) || (decide (y = a) && decide (x < b))))
def bk (A : AS) (s : Nat) (T : Nat → Bool) (a b x : Nat) : Int32 := maskN (fun y => bts A s T x y && prc a b x y) 24
theorem bts_self (A : AS) (s : Nat) (T : Nat → Bool) (a : Nat) : bts A s T a a = false := by
  have := lead_neg A s T a a
  unfold bts
  rw [decide_eq_false (by omega), Bool.and_false]
section Pairs
variable {N : Nat} {σ : ZS} {A : AS} {T : Nat → Bool} {s : Nat} {c : Bool}
theorem d_leadOf (hN : 200 ≤ N) (h : TL A s T c σ) {a b : Nat} (ha : a < 24) (hb : b < 24) : f_X5_leadOf N σ (nI a) (nI b) = some (iI (lead A s T a b)) := by
  unfold f_X5_leadOf
  rw [d_isBookNumber (by omega), Option.bind_some, decide_eq_true ha, if_neg (by decide), d_isBookNumber (by omega), Option.bind_some, decide_eq_true hb, if_neg (by decide)]
  unfold L_X5_leadOf_21
  refine lq2_seq (fun j => iI (sumI (ldj A s T a b) j)) (fun j => nI j) _ 7 ?_ ?_ N (by omega)
  · intro j hj rc
    have h1 := plc_le A s T j a
    have h2 := plc_le A s T j b
    unfold B_X5_leadOf_21
    rw [k_7]
    simp only [n_le (show 7 < 2147483648 by omega) (show j < 2147483648 by omega)]
    rw [if_neg (by omega), k_24, n_jb, n_jb, g_rd_in (by omega) (by omega), g_rd_in (by omega) (by omega), h.2.2.1 j a hj ha, h.2.2.1 j b hj hb]
    simp only [n_le (show plc A s T j b < 2147483648 by omega) (show plc A s T j a < 2147483648 by omega), n_le (show plc A s T j a < 2147483648 by omega) (show plc A s T j b < 2147483648 by omega), g_lt_e, nI_1]
    show _ = rc (iI (sumI _ j + ldj A s T a b j)) _
    unfold ldj
    by_cases c1 : plc A s T j b ≤ plc A s T j a
    · rw [if_pos c1, if_neg (show ¬ plc A s T j a < plc A s T j b by omega)]
      by_cases c2 : plc A s T j a ≤ plc A s T j b
      · rw [if_pos c2, if_neg (by omega), Int.add_zero]
      · rw [if_neg c2, if_pos (by omega), ← iI_add]
        rfl
    · rw [if_neg c1, if_pos (by omega), ← iI_add]
      rfl
  · intro rc
    unfold B_X5_leadOf_21
    rw [if_pos (by decide)]
    rfl
theorem bk_step {a b : Nat} (hab : a < b) (hb : b < 24) {x : Nat} (hx : x < 24) : bk A s T a (b + 1) x = if x = a then (if bts A s T a b then bk A s T a b a ||| bitm b else bk A s T a b a) else if x = b then (if bts A s T b a then bk A s T a b b ||| bitm a else bk A s T a b b) else bk A s T a b x := by
  have gen : ∀ x y, prc a (b + 1) x y = (prc a b x y || ((decide (x = a) && decide (y = b)) || (decide (x = b) && decide (y = a)))) := by
    intro x y
    apply Bool.eq_iff_iff.mpr
    unfold prc
    simp only [Bool.or_eq_true, Bool.and_eq_true, decide_eq_true_eq]
    omega
  have no : prc a b a b = false ∧ prc a b b a = false := by
    constructor
    · cases hh : prc a b a b with
      | false => rfl
      | true =>
        unfold prc at hh
        simp only [Bool.or_eq_true, Bool.and_eq_true, decide_eq_true_eq] at hh
        omega
    · cases hh : prc a b b a with
      | false => rfl
      | true =>
        unfold prc at hh
        simp only [Bool.or_eq_true, Bool.and_eq_true, decide_eq_true_eq] at hh
        omega
  by_cases h1 : x = a
  · subst h1
    rw [if_pos rfl]
    by_cases hq : bts A s T x b = true
    · rw [if_pos hq]
      symm
      apply mask_ext (by omega)
      intro i hi
      unfold bk
      rw [b_or, bt_bitm (by omega) hi, bt_mask _ (by omega) hi, gen]
      by_cases hib : i = b
      · subst hib; rw [hq]; simp [hb]
      · have : ¬ (x = b) := by omega
        simp [hib, this]
    · have hq' : bts A s T x b = false := by simpa using hq
      rw [if_neg hq]
      unfold bk
      congr 1
      funext y
      rw [gen]
      by_cases hib : y = b
      · subst hib; rw [hq']; rfl
      · have : ¬ (x = b) := by omega
        simp [hib, this]
  · rw [if_neg h1]
    by_cases h2 : x = b
    · subst h2
      rw [if_pos rfl]
      by_cases hq : bts A s T x a = true
      · rw [if_pos hq]
        symm
        apply mask_ext (by omega)
        intro i hi
        unfold bk
        rw [b_or, bt_bitm (by omega) hi, bt_mask _ (by omega) hi, gen]
        by_cases hia : i = a
        · subst hia; rw [hq]; simp [show i < 24 by omega]
        · simp [hia, h1]
      · have hq' : bts A s T x a = false := by simpa using hq
        rw [if_neg hq]
        unfold bk
        congr 1
        funext y
        rw [gen]
        by_cases hia : y = a
        · subst hia; rw [hq']; rfl
        · simp [hia, h1]
    · rw [if_neg h2]
      unfold bk
      congr 1
      funext y
      rw [gen]
      simp [h1, h2]
theorem bk_next {a x : Nat} (ha : a < 24) (hx : x < 24) : bk A s T a 24 x = bk A s T (a + 1) (a + 1 + 1) x := by
  unfold bk
  apply mask_ext (by omega)
  intro i hi
  rw [bt_mask _ (by omega) hi]
  by_cases h24 : i < 24
  · congr 2
    apply Bool.eq_iff_iff.mpr
    unfold prc
    simp only [Bool.or_eq_true, Bool.and_eq_true, decide_eq_true_eq]
    omega
  · rw [decide_eq_false h24]; rfl
theorem bk_no {a b b' x : Nat} (hn : T a = false) : bk A s T a b x = bk A s T a b' x := by
  unfold bk
  congr 1
  funext y
  cases hq : bts A s T x y with
  | false => rfl
  | true =>
    have hT : T x = true ∧ T y = true := by
      unfold bts at hq
      simp only [Bool.and_eq_true] at hq
      exact hq.1
    rw [Bool.true_and, Bool.true_and]
    apply Bool.eq_iff_iff.mpr
    have hxa : x ≠ a := fun e => by rw [e, hn] at hT; cases hT.1
    have hya : y ≠ a := fun e => by rw [e, hn] at hT; cases hT.2
    unfold prc
    simp only [Bool.or_eq_true, Bool.and_eq_true, decide_eq_true_eq]
    omega
theorem d_comparePairs (hN : 200 ≤ N) (h : TL A s T c σ) : f_X5_comparePairs N σ = some (fl σ 30 (fun x => maskN (bts A s T x) 24) 24) := by
  have hL : ∀ g : Nat → Int32, TL A s T c (fl σ 30 g 24) := fun g => h.of (fl_q (by omega)) (fl_q (by omega)) (fl_q (by omega)) (fl_q (by omega))
  unfold f_X5_comparePairs L_X5_comparePairs_2
  refine Eq.trans (congrArg (lq2 _ N 0) (fl_0 (p := 30) (g := fun _ => 0)).symm) ?_
  refine lq2_seq (fun k => nI k) (fun k => fl σ 30 (fun _ => 0) k) _ 24 ?_ ?_ N (by omega)
  · intro k hk rc
    unfold B_X5_comparePairs_2
    rw [k_24]
    simp only [n_le (show 24 < 2147483648 by omega) (show k < 2147483648 by omega)]
    rw [if_neg (by omega), g_wr_in hk (by omega)]
    simp only [g_lt_e, nI_1]
    rw [← fl_s]
  · intro rc
    unfold B_X5_comparePairs_2
    rw [if_pos (by decide)]
    dsimp only
    unfold L_X5_comparePairs_23
    have e0 : fl σ 30 (fun _ => (0 : Int32)) 24 = fl σ 30 (fun x => bk A s T 0 (0 + 1) x) 24 := by
      apply fl_congr
      intro x hx
      symm
      unfold bk
      rw [mask_0]
      apply Nat.eq_zero_of_not_pos
      intro hp
      obtain ⟨y, hy, hh⟩ := cnt_pos.mp hp
      unfold prc at hh
      simp only [Bool.or_eq_true, Bool.and_eq_true, decide_eq_true_eq] at hh
      omega
    rw [e0]
    refine lq2_seq (fun a => nI a) (fun a => fl σ 30 (fun x => bk A s T a (a + 1) x) 24) _ 24 ?_ ?_ N (by omega)
    · intro a ha rc
      unfold B_X5_comparePairs_23
      rw [k_24]
      simp only [n_le (show 24 < 2147483648 by omega) (show a < 2147483648 by omega)]
      rw [if_neg (by omega)]
      simp only [g_lt_e, nI_1]
      unfold L_X5_comparePairs_33
      by_cases hTa : T a = true
      · -- the row of a book that is listed: the counter goes from a + 1 to 24
        refine lq2_seq (fun d => nI (a + 1 + d)) (fun d => fl σ 30 (fun x => bk A s T a (a + 1 + d) x) 24) _ (23 - a) ?_ ?_ N (by omega)
        · intro d hd rc2
          have hb24 : a + 1 + d < 24 := by omega
          unfold B_X5_comparePairs_33
          rw [k_24]
          simp only [n_le (show 24 < 2147483648 by omega) (show a + 1 + d < 2147483648 by omega)]
          rw [if_neg (by omega), d_isListed (hL _).1 ha, Option.bind_some, hTa, if_neg (by decide), d_isListed (hL _).1 hb24, Option.bind_some]
          simp only [zb_0, g_lt_e, nI_1]
          have ee : a + 1 + (d + 1) = a + 1 + d + 1 := by omega
          rw [ee]
          generalize hbe : a + 1 + d = b at *
          have hab : a < b := by omega
          by_cases hTb : T b = true
          · rw [if_neg (by rw [hTb]; decide), d_leadOf hN (hL _) ha hb24, Option.bind_some]
            have hld := lead_bd A s T a b 7 (Nat.le_refl _)
            have eL : (iI (lead A s T a b) ≤ (0 : Int32)) = (lead A s T a b ≤ 0) := by
              rw [Int32.le_iff_toInt_le, show lead A s T a b = sumI (ldj A s T a b) 7 from rfl, iI_T (by omega) (by omega)]
              rfl
            have eR : ((0 : Int32) ≤ iI (lead A s T a b)) = (0 ≤ lead A s T a b) := by
              rw [Int32.le_iff_toInt_le, show lead A s T a b = sumI (ldj A s T a b) 7 from rfl, iI_T (by omega) (by omega)]
              rfl
            simp only [eL, eR]
            have hneg := lead_neg A s T a b
            have b1 : bts A s T a b = decide (0 < lead A s T a b) := by unfold bts; rw [hTa, hTb]; rfl
            have b2 : bts A s T b a = decide (lead A s T a b < 0) := by
              unfold bts
              rw [hTa, hTb, hneg]
              apply decide_eq_decide.mpr
              omega
            by_cases c1 : lead A s T a b ≤ 0
            · rw [if_pos c1]
              by_cases c2 : 0 ≤ lead A s T a b
              · rw [if_pos c2]
                congr 1
                apply fl_congr
                intro x hx
                rw [bk_step hab hb24 hx, b1, b2, decide_eq_false (by omega), decide_eq_false (by omega)]
                split
                · rename_i e; rw [e]; rfl
                · split
                  · rename_i e; rw [e]; rfl
                  · rfl
              · rw [if_neg c2, g_rd_in hb24 (by omega), fl_p hb24, d_bit, Option.bind_some, g_wr_in hb24 (by omega)]
                congr 1
                apply fl_up hb24
                · rw [bk_step hab hb24 hb24, if_neg (by omega), if_pos rfl, b2, decide_eq_true (by omega)]; rfl
                · intro x hx hne
                  rw [bk_step hab hb24 hx, b1, decide_eq_false (by omega)]
                  split
                  · rename_i e; rw [e]; rfl
                  · rfl
            · rw [if_neg c1, g_rd_in ha (by omega), fl_p ha, d_bit, Option.bind_some, g_wr_in ha (by omega)]
              congr 1
              apply fl_up ha
              · rw [bk_step hab hb24 ha, if_pos rfl, b1, decide_eq_true (by omega)]; rfl
              · intro x hx hne
                rw [bk_step hab hb24 hx, if_neg hne, b2, decide_eq_false (by omega)]
                split
                · rename_i e; rw [e]; rfl
                · rfl
          · have hTb' : T b = false := by simpa using hTb
            rw [if_pos hTb', if_pos (by decide), if_pos (by decide)]
            congr 1
            apply fl_congr
            intro x hx
            have b1 : bts A s T a b = false := by unfold bts; rw [hTb']; simp
            have b2 : bts A s T b a = false := by unfold bts; rw [hTb']; simp
            rw [bk_step hab hb24 hx, b1, b2]
            split
            · rename_i e; rw [e]; rfl
            · split
              · rename_i e; rw [e]; rfl
              · rfl
        · intro rc2
          unfold B_X5_comparePairs_33
          rw [if_pos (by rw [k_24, n_le (by omega) (by omega)]; omega)]
          simp only [g_lt_e, nI_1]
          congr 1
          apply fl_congr
          intro x hx
          rw [show a + 1 + (23 - a) = 24 by omega]
          exact bk_next ha hx
      · have hTa' : T a = false := by simpa using hTa
        refine lq2_seq (fun _ => nI (a + 1)) (fun _ => fl σ 30 (fun x => bk A s T a (a + 1) x) 24) _ 0 (fun k hk => absurd hk (Nat.not_lt_zero _)) ?_ N (by omega)
        intro rc2
        have fin : fl σ 30 (fun x => bk A s T a (a + 1) x) 24 = fl σ 30 (fun x => bk A s T (a + 1) (a + 1 + 1) x) 24 := by
          apply fl_congr
          intro x hx
          rw [bk_no (b' := 24) hTa']
          exact bk_next ha hx
        unfold B_X5_comparePairs_33
        by_cases h24 : (24 : Int32) ≤ nI (a + 1)
        · rw [if_pos h24]
          simp only [g_lt_e, nI_1]
          rw [fin]
        · rw [if_neg h24, d_isListed (hL _).1 ha, Option.bind_some, hTa', if_pos (by decide)]
          simp only [g_lt_e, nI_1]
          rw [fin]
    · intro rc
      unfold B_X5_comparePairs_23
      rw [if_pos (by decide)]
      dsimp only
      congr 1
      apply fl_congr
      intro x hx
      unfold bk
      apply mask_ext (by omega)
      intro i hi
      rw [bt_mask _ (by omega) hi]
      by_cases h24 : i < 24
      · congr 1
        by_cases he : i = x
        · subst he; rw [bts_self]; rfl
        · have : prc 24 (24 + 1) x i = true := by
            unfold prc
            simp only [Bool.or_eq_true, Bool.and_eq_true, decide_eq_true_eq]
            omega
          rw [this, Bool.and_true]
      · rw [decide_eq_false h24]; rfl
end Pairs
