/-! ===== the class's questions, answered out of the table ===== -/
def ix (x : Int32) (n : Nat) : Option Nat := if 0 ≤ x ∧ x < nI n then some x.toNatClampNeg else none
theorem ix_in {k n : Nat} (h : k < n) (hn : n < 2147483648) : ix (nI k) n = some k := by
  unfold ix
  rw [if_pos ⟨nI_pos' (by omega), nI_lt h (by omega)⟩, n_cl (by omega)]
theorem ix_cases (x : Int32) {n : Nat} (hn : n < 2147483648) : (∃ k, k < n ∧ x = nI k ∧ ix x n = some k) ∨ ((x < 0 ∨ nI n ≤ x) ∧ ix x n = none) := by
  rcases pk_ix x (show n < 2 ^ 31 by omega) with h1 | h1 | ⟨k, hk, rfl⟩
  · right
    refine ⟨Or.inl h1, ?_⟩
    unfold ix
    rw [if_neg (fun y => Int32.not_le.mpr h1 y.1)]
  · right
    refine ⟨Or.inr h1, ?_⟩
    unfold ix
    rw [if_neg (fun y => Int32.not_lt.mpr h1 y.2)]
  · left
    exact ⟨k, hk, rfl, ix_in hk hn⟩
section Out
variable {N : Nat} {σ : ZS} {A : AS}
theorem d_isJudge_out {x : Int32} (h : x < 0 ∨ nI 7 ≤ x) : f_X7_isJudge N σ x = some 0 := by
  unfold f_X7_isJudge
  by_cases h0 : x < 0
  · rw [if_pos h0]
  · rw [if_neg h0, k_7, if_pos (h.resolve_left h0)]
theorem d_within_out {x : Int32} {n : Nat} (hn : n < 1000000) (h : x < 0 ∨ nI (n + 1) ≤ x) : f_X7_isWithin N σ x 0 (nI n) = some 0 := by
  rw [d_isWithin]
  rcases h with h | h
  · rw [decide_eq_false (p := (0 : Int32) ≤ x) (Int32.not_le.mpr h)]; rfl
  · rw [decide_eq_false (p := x ≤ nI n) (fun y => by
      rw [Int32.le_iff_toInt_le] at h y
      rw [nI_toInt (by omega)] at h y
      omega)]
    simp [zb]
theorem d_within_in {k n : Nat} (hn : n < 1000000) (h : k < n + 1) : f_X7_isWithin N σ (nI k) 0 (nI n) = some 1 := by
  rw [k_0, d_within (by omega) (by omega) (by omega), decide_eq_true (Nat.zero_le _), decide_eq_true (show k ≤ n by omega)]
  rfl
theorem d_has_out (h : RDb A σ) {x : Int32} (hx : x < 0 ∨ nI (A 0 0) ≤ x) : f_X4_has N σ x = some 0 := by
  unfold f_X4_has
  by_cases h0 : x < 0
  · rw [if_pos h0]
  · rw [if_neg h0, h.1, if_pos (hx.resolve_left h0)]
theorem d_isStage_in {k : Nat} (h : k < 2) : f_X7_isStage N σ (nI k) = some 1 := by
  unfold f_X7_isStage
  rw [k_1, d_within_in (by omega) h, Option.bind_some]; rfl
theorem d_isStage_out {x : Int32} (h : x < 0 ∨ nI 2 ≤ x) : f_X7_isStage N σ x = some 0 := by
  unfold f_X7_isStage
  rw [k_1, d_within_out (by omega) h, Option.bind_some]; rfl
theorem d_isKind_in {k : Nat} (h : k < 3) : f_X7_isKind N σ (nI k) = some 1 := by
  unfold f_X7_isKind
  rw [k_2, d_within_in (by omega) h, Option.bind_some]; rfl
theorem d_isKind_out {x : Int32} (h : x < 0 ∨ nI 3 ≤ x) : f_X7_isKind N σ x = some 0 := by
  unfold f_X7_isKind
  rw [k_2, d_within_out (by omega) h, Option.bind_some]; rfl
theorem d_isList_in {k : Nat} (h : k < 3) : f_X7_isList N σ (nI k) = some 1 := by
  unfold f_X7_isList
  rw [k_2, d_within_in (by omega) h, Option.bind_some]; rfl
theorem d_isList_out {x : Int32} (h : x < 0 ∨ nI 3 ≤ x) : f_X7_isList N σ x = some 0 := by
  unfold f_X7_isList
  rw [k_2, d_within_out (by omega) h, Option.bind_some]; rfl
theorem d_isDay_in {k : Nat} (h : k < 401) : f_X7_isDay N σ (nI k) = some 1 := by
  unfold f_X7_isDay
  rw [k_400, d_within_in (by omega) h, Option.bind_some]; rfl
theorem d_isDay_out {x : Int32} (h : x < 0 ∨ nI 401 ≤ x) : f_X7_isDay N σ x = some 0 := by
  unfold f_X7_isDay
  rw [k_400, d_within_out (by omega) h, Option.bind_some]; rfl
theorem d_isPub_out {x : Int32} (h : x < 0 ∨ nI 8 ≤ x) : f_X7_isPublisher N σ x = some 0 := by
  unfold f_X7_isPublisher
  rw [k_7, d_within_out (by omega) h, Option.bind_some]; rfl
end Out
/-! rule, third, met -/
def lix (x : Int32) : Option Nat := (List.range 11).find? (fun k => decide (zTb 0 k = x))
def anRule (A : AS) (x : Int32) : Int32 := match lix x with
  | some k => nI (A 9 k)
  | none => -1
def anMet (A : AS) (x y w : Int32) : Int32 := match ix x 7, ix y 7 with
  | some j, some k => if j = k then -1 else if w = 0 then nI (cnt (shr A j k) 24) else if w = 1 then smI A j k 24 else if w = 2 then zb (!hit A (tOut A j 7) k) else -1
  | _, _ => -1
def kS1 (A : AS) : Nat → Int := kK A 1 (ST A) (cC A) (A 9 9)
def anTold (A : AS) (x y z i : Int32) : Int32 := match ix x 8, ix y 401, ix z 3 with
  | some w, some d, some l => if w = 0 ∨ (l = 0 ∧ w < 7) ∨ A 11 l ≤ d then (if l = 0 then bkI (cand A) (kL A) (nL0 A) i else if l = 1 then bkI (LT A) (kS0 A) (nS0 A) i else bkI (ST A) (kS1 A) (min 1 (cnt (ST A) 24)) i) else -2
  | _, _, _ => -2
def lsT (A : AS) (s : Nat) : Nat → Bool := if s = 0 then LT A else ST A
def anCounted (A : AS) (x y i : Int32) : Int32 := match ix x 2, ix y 3 with
  | some s, some k => bkI (lsT A s) (kK A s (lsT A s) (cC A) k) (cnt (lsT A s) 24) i
  | _, _ => -1
def anWorth (A : AS) (x y z : Int32) : Int32 := match ix x 2, ix y 3, ix z (A 0 0) with
  | some s, some k, some b => if lsT A s b = true then (if k = 1 then iI (vK A s (lsT A s) (cC A) k b) + 1000 else iI (vK A s (lsT A s) (cC A) k b)) else -1
  | _, _, _ => -1
def anParadox (A : AS) (x y : Int32) : Int32 := match ix x 2, ix y 3 with
  | some s, some w => ringI A s (lsT A s) w
  | _, _ => -1
def anLook (A : AS) (x w : Int32) : Int32 := match ix x (A 0 0) with
  | none => -1
  | some b => match ix (w - 10) 7 with
    | some j => if A 8 (24 * j + b) = 0 then -1 else nI (A 8 (24 * j + b) - 1)
    | none => match ix (w - 20) 7 with
      | some j => zb (brd A j b)
      | none => if w = 0 then zb (isin A b) else if w = 1 then nI (mks A b) else if w = 2 then nI (sms A b) else if w = 3 then zb (decide (A 4 b = 1)) else if w = 4 then zb (decide (A 5 b = 1)) else if w = 5 then nI (A 1 b) else if w = 6 then nI (A 2 b) else if w = 7 then nI (A 3 b) else -1
def anCount (A : AS) (w : Int32) : Int32 := if w = 0 then nI (A 0 0) else if w = 1 then nI (cnt (inb A) 24) else if w = 2 then nI (cnt (wth A) 24) else if w = 3 then nI (nL0 A) else if w = 4 then nI (nS0 A) else if w = 5 then nI (A 15 0) else if w = 10 then nI (cnt (cts A 0) 7) else if w = 11 then nI (cnt (cts A 1) 7) else -1
def anLoad (A : AS) : Int32 := if (List.range 24).find? (lacks A (A 9 5)) = none then nI (ldm A (A 9 5) 127) else -1
section Ask
variable {N : Nat} {σ : ZS} {A : AS}
theorem d_indexOf (hN : 200 ≤ N) (x : Int32) : f_X3_indexOf N σ x = some (match lix x with | some k => nI k | none => -1) := by
  have stp : ∀ K rc k, k < 11 → decide (zTb 0 k = x) = false → B_X3_indexOf_2 N σ x K rc (nI k) = rc (nI (k + 1)) := by
    intro K rc k hk hq
    unfold B_X3_indexOf_2
    rw [k_11]
    simp only [n_le (show 11 < 2147483648 by omega) (show k < 2147483648 by omega)]
    rw [if_neg (by omega), g_rd_in hk (by omega), if_neg (of_decide_eq_false hq)]
    simp only [g_lt_e, nI_1]
  unfold f_X3_indexOf L_X3_indexOf_2 lix
  rcases find_cases (fun k => decide (zTb 0 k = x)) 11 with ⟨hf, hall⟩ | ⟨e, he, hq, hlt, hf⟩
  · rw [hf]
    refine lq1_seq (fun k => nI k) _ 11 (fun k hk rc => stp _ rc k hk (hall k hk)) ?_ N (by omega)
    intro rc
    unfold B_X3_indexOf_2
    rw [if_pos (by decide)]
  · rw [hf]
    refine lq1_seq (fun k => nI k) _ e (fun k hk rc => stp _ rc k (by omega) (hlt k hk)) ?_ N (by omega)
    intro rc
    unfold B_X3_indexOf_2
    rw [k_11]
    simp only [n_le (show 11 < 2147483648 by omega) (show e < 2147483648 by omega)]
    rw [if_neg (by omega), g_rd_in he (by omega), if_pos (of_decide_eq_true hq)]
theorem lix_lt {x : Int32} {k : Nat} (h : lix x = some k) : k < 11 := by
  unfold lix at h
  exact List.mem_range.mp (List.find?_range_eq_some.mp h).2.1
theorem D_rule (hN : 200 ≤ N) (h : RD A σ) (x : Int32) : f_X7_rule N σ x = some (anRule A x) := by
  unfold f_X7_rule anRule
  rw [d_indexOf hN, Option.bind_some]
  cases hl : lix x with
  | none =>
    show (f_X3_number N σ (-1)).bind _ = _
    unfold f_X3_number
    rw [show (10 : Int32) = nI 10 from rfl, d_within_out (by omega) (Or.inl (by decide)), Option.bind_some, if_pos rfl, Option.bind_some]
  | some k =>
    show (f_X3_number N σ (nI k)).bind _ = _
    rw [d_number h.2.1 (lix_lt hl), Option.bind_some]
theorem rT_D : eqD σ (rT A σ 24) := fun p hp => rT_q (fun e => by rw [e] at hp; cases hp)
theorem D_third (hN : 200 ≤ N) (h : RD A σ) (hw : WF A) (i : Int32) : ∃ τ, eqD σ τ ∧ f_X7_third N σ i = some (nthI (wth A) i, τ) := by
  refine ⟨rT A σ 24, rT_D, ?_⟩
  unfold f_X7_third
  rw [d_booksForThird hN h.2.2.1 h.2.1 h.2.2.2.1 hw.1 hw.2.2.1 hw.2.1, g_b2_e, d_nthOf hN, Option.bind_some]
theorem D_load (hN : 200 ≤ N) (h : RD A σ) (hw : WF A) : ∃ τ, eqD σ τ ∧ f_X7_load N σ = some (anLoad A, τ) := d_load hN h hw
theorem d_asInt {b : Bool} : f_X7_asInt N σ (zb b) = some (zb b) := by
  unfold f_X7_asInt
  cases b <;> rfl
theorem D_met (hN : 200 ≤ N) (h : RD A σ) (x y w : Int32) : f_X7_met N σ x y w = some (anMet A x y w) := by
  have hj := h.2.2.2.1
  unfold f_X7_met anMet
  rcases ix_cases x (show 7 < 2147483648 by omega) with ⟨j, hjl, rfl, ej⟩ | ⟨ho, ej⟩
  · rw [ej, d_isJudge (by omega), Option.bind_some, decide_eq_true hjl, if_neg (by decide)]
    rcases ix_cases y (show 7 < 2147483648 by omega) with ⟨k, hk, rfl, ek⟩ | ⟨ho, ek⟩
    · rw [ek, d_isJudge (by omega), Option.bind_some, decide_eq_true hk, if_neg (by decide)]
      simp only [n_eq (show j < 2147483648 by omega) (show k < 2147483648 by omega)]
      by_cases hjk : j = k
      · rw [if_pos hjk, if_pos hjk]
      · rw [if_neg hjk, if_neg hjk]
        by_cases h0 : w = 0
        · rw [if_pos h0, if_pos h0, d_shared hj hjl hk, Option.bind_some, d_bitCount, Option.bind_some]
        · rw [if_neg h0, if_neg h0]
          by_cases h1 : w = 1
          · rw [if_pos h1, if_pos h1, d_sumAbove hN hj hjl hk, Option.bind_some]
          · rw [if_neg h1, if_neg h1]
            by_cases h2 : w = 2
            · rw [if_pos h2, if_pos h2, d_isApart hN hj hjl hk, Option.bind_some, d_asInt, Option.bind_some]
            · rw [if_neg h2, if_neg h2]
    · rw [ek, d_isJudge_out ho, Option.bind_some, if_pos rfl]
  · rw [ej, d_isJudge_out ho, Option.bind_some, if_pos rfl]
theorem d_mayKnow (h : RD A σ) (hw : WF A) {w d l : Nat} (hw8 : w < 8) (hd : d < 401) (hl : l < 3) : f_X7_mayKnow N σ (nI w) (nI d) (nI l) = some (zb (decide (w = 0 ∨ (l = 0 ∧ w < 7) ∨ A 11 l ≤ d))) := by
  have hk : RDk A σ := h.2.2.2.2.2.2
  have ht := (hw.2.2.2.1).2.1 l
  have fin : (f_X7_isList N σ (nI l)).bind (fun v4 => if v4 = (0 : Int32) then (some (0 : Int32)) else (g_rd 3 (σ 35) (nI l) (fun v5 => if (nI d) < v5 then (some (0 : Int32)) else (some (1 : Int32))))) = some (zb (decide (A 11 l ≤ d))) := by
    rw [d_isList_in hl, Option.bind_some, if_neg (by decide), g_rd_in hl (by omega), hk l hl]
    simp only [n_lt (show d < 2147483648 by omega) (show A 11 l < 2147483648 by omega)]
    by_cases hh : d < A 11 l
    · rw [if_pos hh, decide_eq_false (by omega)]; rfl
    · rw [if_neg hh, decide_eq_true (by omega)]; rfl
  unfold f_X7_mayKnow
  rw [k_0]
  simp only [n_eq (show w < 2147483648 by omega) (show 0 < 2147483648 by omega), n_eq (show l < 2147483648 by omega) (show 0 < 2147483648 by omega)]
  by_cases h0 : w = 0
  · rw [if_pos h0, decide_eq_true (Or.inl h0)]; rfl
  · rw [if_neg h0]
    by_cases hl0 : l = 0
    · rw [if_pos hl0, d_isJudge (by omega), Option.bind_some]
      by_cases h7 : w < 7
      · rw [decide_eq_true h7, if_neg (by decide), decide_eq_true (Or.inr (Or.inl ⟨hl0, h7⟩))]; rfl
      · rw [decide_eq_false h7, if_pos (by decide)]
        refine fin.trans ?_
        congr 2
        apply decide_eq_decide.mpr
        omega
    · rw [if_neg hl0]
      refine fin.trans ?_
      congr 2
      apply decide_eq_decide.mpr
      omega
theorem cand_nb {b : Nat} (h : cand A b = true) : b < A 0 0 := by
  unfold cand inb at h
  simp only [Bool.and_eq_true, decide_eq_true_eq] at h
  exact h.1.1
theorem D_told (hN : 200 ≤ N) (h : RD A σ) (hw : WF A) (x y z i : Int32) : ∃ τ, eqD σ τ ∧ f_X7_told N σ x y z i = some (anTold A x y z i, τ) := by
  unfold f_X7_told anTold
  rcases ix_cases x (show 8 < 2147483648 by omega) with ⟨w, hw8, rfl, ew⟩ | ⟨ho, ew⟩
  · rw [ew, k_7, d_within_in (by omega) hw8, Option.bind_some, if_neg (by decide)]
    rcases ix_cases y (show 401 < 2147483648 by omega) with ⟨d, hd, rfl, ed⟩ | ⟨ho, ed⟩
    · rw [ed, d_isDay_in hd, Option.bind_some, if_neg (by decide)]
      rcases ix_cases z (show 3 < 2147483648 by omega) with ⟨l, hl, rfl, el⟩ | ⟨ho, el⟩
      · rw [el, d_isList_in hl, Option.bind_some, if_neg (by decide), d_mayKnow h hw hw8 hd hl, Option.bind_some]
        simp only [zb_0]
        by_cases hm : w = 0 ∨ (l = 0 ∧ w < 7) ∨ A 11 l ≤ d
        · rw [decide_eq_true hm, if_neg (by decide), if_pos hm, g_lt_e]
          rcases (show l = 0 ∨ l = 1 ∨ l = 2 by omega) with rfl | rfl | rfl
          · obtain ⟨τ, e1, e2, e3⟩ := d_rankList0 hN h hw
            refine ⟨τ, e3, ?_⟩
            rw [if_neg (by decide), if_pos rfl, show nI 0 = 0 from rfl, e1, Option.bind_some, if_neg (by decide), d_bookAtI e2, Option.bind_some]
          · obtain ⟨τ, e1, e2, e3⟩ := d_rankList1 hN h hw
            refine ⟨τ, e3, ?_⟩
            rw [if_neg (by decide), if_neg (by omega), if_pos rfl, show nI 1 = 1 from rfl, e1, Option.bind_some, if_neg (by decide), d_bookAtI e2, Option.bind_some]
          · obtain ⟨τ, e1, e2, e3⟩ := d_rankList1 hN h hw
            have h1 := h.eq e3
            have w9 : A 9 9 ≤ 2 := (hw.2.2.1 9 (by omega)).2
            obtain ⟨τ2, f1, f2, f3, f4, f5⟩ := d_recount_21 hN h1 hw e2 (fun b hb => LT_nb hb) (kind := A 9 9) (by omega)
            obtain ⟨τ3, g1, g2, g3⟩ := d_cut (N := N) f2 (m := 1) (by omega)
            refine ⟨τ3, (e3.tr f5).tr (fun q hq => g3 q (fun e => by rw [e] at hq; cases hq)), ?_⟩
            rw [if_pos (by decide), if_neg (by omega), if_neg (by omega), e1, Option.bind_some, if_pos (by decide), d_num9 h1.2.1, Option.bind_some, f1, Option.bind_some, show (1 : Int32) = nI 1 from rfl, g1, Option.bind_some, d_bookAtI g2, Option.bind_some]
            rfl
        · refine ⟨σ, eqD.rf, ?_⟩
          rw [decide_eq_false hm, if_pos rfl, if_neg hm]
      · exact ⟨σ, eqD.rf, by rw [el, d_isList_out ho, Option.bind_some, if_pos rfl]⟩
    · exact ⟨σ, eqD.rf, by rw [ed, d_isDay_out ho, Option.bind_some, if_pos rfl]⟩
  · exact ⟨σ, eqD.rf, by rw [ew, k_7, d_within_out (by omega) ho, Option.bind_some, if_pos rfl]⟩
/-- a stage's list, counted -/
theorem d_stage (hN : 200 ≤ N) (h : RD A σ) (hw : WF A) {k : Nat} (hk : k < 3) : (∃ τ ρ, f_X7_rankList N σ (nI 0) = some τ ∧ f_X2_asSet N τ = some (maskN (LT A) 24) ∧ f_X7_recount_0_18 N τ (nI k) = some ρ ∧ RKD ρ (LT A) (kK A 0 (LT A) (cC A) k) (cnt (LT A) 24) ∧ (∀ b, LT A b = true → ρ 28 b = iI (vK A 0 (LT A) (cC A) k b)) ∧ (k = 1 → ∀ x, x < 24 → ρ 30 x = maskN (bts A 0 (LT A) x) 24) ∧ eqD σ τ ∧ eqD σ ρ) ∧ (∃ τ ρ, f_X7_rankList N σ (nI 1) = some τ ∧ f_X2_asSet N τ = some (maskN (ST A) 24) ∧ f_X7_recount_0_21 N τ (nI k) = some ρ ∧ RKD ρ (ST A) (kK A 1 (ST A) (cC A) k) (cnt (ST A) 24) ∧ (∀ b, ST A b = true → ρ 28 b = iI (vK A 1 (ST A) (cC A) k b)) ∧ (k = 1 → ∀ x, x < 24 → ρ 30 x = maskN (bts A 1 (ST A) x) 24) ∧ eqD σ τ ∧ eqD σ ρ) := by
  constructor
  · obtain ⟨τ, e1, e2, e3⟩ := d_rankList0 hN h hw
    obtain ⟨ρ, f1, f2, f3, f4, f5⟩ := d_recount_18 hN (h.eq e3) hw e2 (fun b hb => cand_nb hb) hk
    exact ⟨τ, ρ, e1, d_asSet hN e2, f1, f2, f3, f4, e3, e3.tr f5⟩
  · obtain ⟨τ, e1, e2, e3⟩ := d_rankList1 hN h hw
    obtain ⟨ρ, f1, f2, f3, f4, f5⟩ := d_recount_21 hN (h.eq e3) hw e2 (fun b hb => LT_nb hb) hk
    exact ⟨τ, ρ, e1, d_asSet hN e2, f1, f2, f3, f4, e3, e3.tr f5⟩
theorem D_counted (hN : 200 ≤ N) (h : RD A σ) (hw : WF A) (x y i : Int32) : ∃ τ, eqD σ τ ∧ f_X7_counted N σ x y i = some (anCounted A x y i, τ) := by
  unfold f_X7_counted anCounted
  rcases ix_cases x (show 2 < 2147483648 by omega) with ⟨s, hs, rfl, es⟩ | ⟨ho, es⟩
  · rw [es, d_isStage_in hs, Option.bind_some, if_neg (by decide)]
    rcases ix_cases y (show 3 < 2147483648 by omega) with ⟨k, hk, rfl, ek⟩ | ⟨ho, ek⟩
    · rw [ek, d_isKind_in hk, Option.bind_some, if_neg (by decide)]
      obtain ⟨⟨τ, ρ, a1, -, a3, a4, -, -, -, a8⟩, ⟨τ2, ρ2, b1, -, b3, b4, -, -, -, b8⟩⟩ := d_stage hN h hw hk
      rcases (show s = 0 ∨ s = 1 by omega) with rfl | rfl
      · exact ⟨ρ, a8, by rw [a1, Option.bind_some, if_pos (by decide), a3, Option.bind_some, d_bookAtI a4, Option.bind_some]; rfl⟩
      · exact ⟨ρ2, b8, by rw [b1, Option.bind_some, if_neg (by decide), b3, Option.bind_some, d_bookAtI b4, Option.bind_some]; rfl⟩
    · exact ⟨σ, eqD.rf, by rw [ek, d_isKind_out ho, Option.bind_some, if_pos rfl]⟩
  · exact ⟨σ, eqD.rf, by rw [es, d_isStage_out ho, Option.bind_some, if_pos rfl]⟩
theorem d_valueOf {b : Nat} (hb : b < 24) : f_X5_valueOf N σ (nI b) = some (σ 28 b) := by
  unfold f_X5_valueOf
  rw [d_isBookNumber (by omega), Option.bind_some, decide_eq_true hb, if_neg (by decide), g_rd_in hb (by omega)]
theorem D_worth (hN : 200 ≤ N) (h : RD A σ) (hw : WF A) (x y z : Int32) : ∃ τ, eqD σ τ ∧ f_X7_worth N σ x y z = some (anWorth A x y z, τ) := by
  have hnb := hw.1.1
  unfold f_X7_worth anWorth
  rcases ix_cases x (show 2 < 2147483648 by omega) with ⟨s, hs, rfl, es⟩ | ⟨ho, es⟩
  · rw [es, d_isStage_in hs, Option.bind_some, if_neg (by decide)]
    rcases ix_cases y (show 3 < 2147483648 by omega) with ⟨k, hk, rfl, ek⟩ | ⟨ho, ek⟩
    · rw [ek, d_isKind_in hk, Option.bind_some, if_neg (by decide)]
      rcases ix_cases z (show A 0 0 < 2147483648 by omega) with ⟨b, hb, rfl, eb⟩ | ⟨ho, eb⟩
      · rw [eb, d_has h.2.2.1 hw.1 (by omega), Option.bind_some, decide_eq_true hb, if_neg (by decide)]
        obtain ⟨⟨τ, ρ, a1, a2, a3, a4, a5, -, a7, a8⟩, ⟨τ2, ρ2, b1, b2, b3, b4, b5, -, b7, b8⟩⟩ := d_stage hN h hw hk
        have e1 : (nI k = (1 : Int32)) = (k = 1) := by rw [k_1, n_eq (by omega) (by omega)]
        rcases (show s = 0 ∨ s = 1 by omega) with rfl | rfl
        · rw [a1, Option.bind_some, a2, Option.bind_some, d_contains (by omega), Option.bind_some, bt_mask _ (by omega) (by omega), decide_eq_true (show b < 24 by omega), Bool.true_and]
          simp only [zb_0, e1, show lsT A 0 = LT A from rfl]
          by_cases hT : LT A b = true
          · refine ⟨ρ, a8, ?_⟩
            rw [if_neg (by rw [hT]; decide), if_pos (by decide), a3, Option.bind_some, d_valueOf (by omega), Option.bind_some, Option.bind_some, a5 b hT, if_pos hT]
            split <;> rfl
          · have hT' : LT A b = false := by simpa using hT
            exact ⟨τ, a7, by rw [if_pos hT', if_neg hT]⟩
        · rw [b1, Option.bind_some, b2, Option.bind_some, d_contains (by omega), Option.bind_some, bt_mask _ (by omega) (by omega), decide_eq_true (show b < 24 by omega), Bool.true_and]
          simp only [zb_0, e1, show lsT A 1 = ST A from rfl]
          by_cases hT : ST A b = true
          · refine ⟨ρ2, b8, ?_⟩
            rw [if_neg (by rw [hT]; decide), if_neg (by decide), b3, Option.bind_some, d_valueOf (by omega), Option.bind_some, Option.bind_some, b5 b hT, if_pos hT]
            split <;> rfl
          · have hT' : ST A b = false := by simpa using hT
            exact ⟨τ2, b7, by rw [if_pos hT', if_neg hT]⟩
      · exact ⟨σ, eqD.rf, by rw [eb, d_has_out h.2.2.1 ho, Option.bind_some, if_pos rfl]⟩
    · exact ⟨σ, eqD.rf, by rw [ek, d_isKind_out ho, Option.bind_some, if_pos rfl]⟩
  · exact ⟨σ, eqD.rf, by rw [es, d_isStage_out ho, Option.bind_some, if_pos rfl]⟩
theorem D_paradox (hN : 200 ≤ N) (h : RD A σ) (hw : WF A) (x y : Int32) : ∃ τ, eqD σ τ ∧ f_X7_paradox N σ x y = some (anParadox A x y, τ) := by
  unfold f_X7_paradox anParadox
  rcases ix_cases x (show 2 < 2147483648 by omega) with ⟨s, hs, rfl, es⟩ | ⟨ho, es⟩
  · rw [es, d_isStage_in hs, Option.bind_some, if_neg (by decide)]
    obtain ⟨⟨τ, ρ, a1, a2, a3, a4, a5, a6, a7, a8⟩, ⟨τ2, ρ2, b1, b2, b3, b4, b5, b6, b7, b8⟩⟩ := d_stage hN h hw (k := 1) (by omega)
    rw [show nI 1 = (1 : Int32) from rfl] at a3 b3
    rcases (show s = 0 ∨ s = 1 by omega) with rfl | rfl
    · rw [a1, Option.bind_some, if_pos (by decide), a3, Option.bind_some]
      rcases ix_cases y (show 3 < 2147483648 by omega) with ⟨w, hw3, rfl, ew⟩ | ⟨ho, ew⟩
      · obtain ⟨τ', q1, q2⟩ := d_ringBook (N := N) hN (a6 rfl) hw3
        exact ⟨τ', a8.tr q1, by rw [ew, q2, g_b2_e]; rfl⟩
      · exact ⟨ρ, a8, by rw [ew, d_ringBook_out ho, g_b2_e]⟩
    · rw [b1, Option.bind_some, if_neg (by decide), b3, Option.bind_some]
      rcases ix_cases y (show 3 < 2147483648 by omega) with ⟨w, hw3, rfl, ew⟩ | ⟨ho, ew⟩
      · obtain ⟨τ', q1, q2⟩ := d_ringBook (N := N) hN (b6 rfl) hw3
        exact ⟨τ', b8.tr q1, by rw [ew, q2, g_b2_e]; rfl⟩
      · exact ⟨ρ2, b8, by rw [ew, d_ringBook_out ho, g_b2_e]⟩
  · exact ⟨σ, eqD.rf, by rw [es, d_isStage_out ho, Option.bind_some, if_pos rfl]⟩
theorem D_look (hN : 200 ≤ N) (h : RD A σ) (hw : WF A) (x w : Int32) : ∃ τ, eqD σ τ ∧ f_X7_look N σ x w = some (anLook A x w, τ) := by
  have hnb := hw.1.1
  have hb0 := h.2.2.1
  have hj0 := h.2.2.2.1
  unfold f_X7_look anLook
  rcases ix_cases x (show A 0 0 < 2147483648 by omega) with ⟨b, hb, rfl, eb⟩ | ⟨ho, eb⟩
  · rw [eb, d_has hb0 hw.1 (by omega), Option.bind_some, decide_eq_true hb, if_neg (by decide)]
    rcases ix_cases (w - 10) (show 7 < 2147483648 by omega) with ⟨j, hj, ej, ejj⟩ | ⟨ho, ejj⟩
    · refine ⟨σ, eqD.rf, ?_⟩
      rw [ejj, ej, d_isJudge (by omega), Option.bind_some, decide_eq_true hj, if_neg (by decide), d_markOf hj0 hj (by omega), Option.bind_some]
    · rw [ejj, d_isJudge_out ho, Option.bind_some, if_pos rfl]
      rcases ix_cases (w - 20) (show 7 < 2147483648 by omega) with ⟨j, hj, ej, ej2⟩ | ⟨ho2, ej2⟩
      · refine ⟨σ, eqD.rf, ?_⟩
        rw [ej2, ej, d_isJudge (by omega), Option.bind_some, decide_eq_true hj, if_neg (by decide), d_isBarred hj0 hw.1 hj (by omega), Option.bind_some, decide_eq_true hb, Bool.true_and, d_asInt, Option.bind_some]
      · rw [ej2, d_isJudge_out ho2, Option.bind_some, if_pos rfl]
        dsimp only
        by_cases h0 : w = 0
        · refine ⟨rT A σ 24, rT_D, ?_⟩
          rw [if_pos h0, if_pos h0, d_admitted hN hb0 h.2.1 hw.1 hw.2.2.1, g_b2_e, d_contains (by omega), Option.bind_some, bt_mask _ (by omega) (by omega), decide_eq_true (show b < 24 by omega), Bool.true_and, d_asInt, Option.bind_some]
          unfold inb
          rw [decide_eq_true hb, Bool.true_and]
        · refine ⟨σ, eqD.rf, ?_⟩
          rw [if_neg h0, if_neg h0]
          by_cases h1 : w = 1
          · rw [if_pos h1, if_pos h1, d_marksOn hN hj0 (by omega), Option.bind_some]
          rw [if_neg h1, if_neg h1]
          by_cases h2 : w = 2
          · rw [if_pos h2, if_pos h2, d_sumOn hN hj0 hw.2.1 (by omega), Option.bind_some]
          rw [if_neg h2, if_neg h2]
          by_cases h3 : w = 3
          · rw [if_pos h3, if_pos h3, d_calledIn hb0 (by omega), Option.bind_some, d_asInt, Option.bind_some]
          rw [if_neg h3, if_neg h3]
          by_cases h4 : w = 4
          · rw [if_pos h4, if_pos h4, d_takenOut hb0 (by omega), Option.bind_some, d_asInt, Option.bind_some]
          rw [if_neg h4, if_neg h4]
          by_cases h5 : w = 5
          · rw [if_pos h5, if_pos h5, d_publisherOf hb0 hw.1 (by omega), Option.bind_some, if_pos hb]
          rw [if_neg h5, if_neg h5]
          by_cases h6 : w = 6
          · rw [if_pos h6, if_pos h6, d_pagesOf hb0 hw.1 hb, Option.bind_some]
          rw [if_neg h6, if_neg h6]
          by_cases h7 : w = 7
          · rw [if_pos h7, if_pos h7, d_dayOf hb0 hw.1 hb, Option.bind_some]
          rw [if_neg h7, if_neg h7]
  · exact ⟨σ, eqD.rf, by rw [eb, d_has_out hb0 ho, Option.bind_some, if_pos rfl]⟩
end Ask
section Cnt18
theorem d_ballots_18 {N : Nat} {σ : ZS} {A : AS} (hN : 200 ≤ N) (h : RDp A σ 0) (hw : WFq A) : f_X1_ballotsThatCount_18 N σ = some (nI (cnt (cts A 0) 7)) := by
  unfold f_X1_ballotsThatCount_18 L_X1_ballotsThatCount_18_4
  refine lq2_seq (fun k => nI (cnt (cts A 0) k)) (fun k => nI k) _ 7 ?_ ?_ N (by omega)
  · intro k hk rc
    unfold B_X1_ballotsThatCount_18_4
    rw [k_7]
    simp only [n_le (show 7 < 2147483648 by omega) (show k < 2147483648 by omega)]
    rw [if_neg (by omega), d_counting_18 h hw hk, Option.bind_some]
    simp only [zb_0, g_lt_e, nI_1]
    show _ = rc (nI (cnt (cts A 0) k + if cts A 0 k = true then 1 else 0)) _
    cases cts A 0 k <;> rfl
  · intro rc
    unfold B_X1_ballotsThatCount_18_4
    rw [if_pos (by decide)]
end Cnt18
section Cnt21
theorem d_ballots_21 {N : Nat} {σ : ZS} {A : AS} (hN : 200 ≤ N) (h : RDp A σ 1) (hw : WFq A) : f_X1_ballotsThatCount_21 N σ = some (nI (cnt (cts A 1) 7)) := by
  unfold f_X1_ballotsThatCount_21 L_X1_ballotsThatCount_21_4
  refine lq2_seq (fun k => nI (cnt (cts A 1) k)) (fun k => nI k) _ 7 ?_ ?_ N (by omega)
  · intro k hk rc
    unfold B_X1_ballotsThatCount_21_4
    rw [k_7]
    simp only [n_le (show 7 < 2147483648 by omega) (show k < 2147483648 by omega)]
    rw [if_neg (by omega), d_counting_21 h hw hk, Option.bind_some]
    simp only [zb_0, g_lt_e, nI_1]
    show _ = rc (nI (cnt (cts A 1) k + if cts A 1 k = true then 1 else 0)) _
    cases cts A 1 k <;> rfl
  · intro rc
    unfold B_X1_ballotsThatCount_21_4
    rw [if_pos (by decide)]
end Cnt21
theorem D_count {N : Nat} {σ : ZS} {A : AS} (hN : 200 ≤ N) (h : RD A σ) (hw : WF A) (w : Int32) : ∃ τ, eqD σ τ ∧ f_X7_count N σ w = some (anCount A w, τ) := by
  unfold f_X7_count anCount
  by_cases h0 : w = 0
  · exact ⟨σ, eqD.rf, by rw [if_pos h0, if_pos h0]; unfold f_X4_books; rw [Option.bind_some, h.2.2.1.1]⟩
  rw [if_neg h0, if_neg h0]
  by_cases h1 : w = 1
  · exact ⟨rT A σ 24, rT_D, by rw [if_pos h1, if_pos h1, d_admitted hN h.2.2.1 h.2.1 hw.1 hw.2.2.1, g_b2_e, d_bitCount, Option.bind_some]⟩
  rw [if_neg h1, if_neg h1]
  by_cases h2 : w = 2
  · exact ⟨rT A σ 24, rT_D, by rw [if_pos h2, if_pos h2, d_booksForThird hN h.2.2.1 h.2.1 h.2.2.2.1 hw.1 hw.2.2.1 hw.2.1, g_b2_e, d_bitCount, Option.bind_some]⟩
  rw [if_neg h2, if_neg h2]
  by_cases h3 : w = 3
  · obtain ⟨τ, e1, e2, e3⟩ := d_rankList0 hN h hw
    exact ⟨τ, e3, by rw [if_pos h3, if_pos h3, e1, Option.bind_some]; unfold f_X2_length; rw [Option.bind_some, e2.1]⟩
  rw [if_neg h3, if_neg h3]
  by_cases h4 : w = 4
  · obtain ⟨τ, e1, e2, e3⟩ := d_rankList1 hN h hw
    exact ⟨τ, e3, by rw [if_pos h4, if_pos h4, e1, Option.bind_some]; unfold f_X2_length; rw [Option.bind_some, e2.1]⟩
  rw [if_neg h4, if_neg h4]
  refine ⟨σ, eqD.rf, ?_⟩
  by_cases h5 : w = 5
  · rw [if_pos h5, if_pos h5]; unfold f_X6_length; rw [Option.bind_some, h.1.1]
  rw [if_neg h5, if_neg h5]
  by_cases h10 : w = 10
  · rw [if_pos h10, if_pos h10, d_ballots_18 hN h.2.2.2.2.1 hw.2.2.2.1, Option.bind_some]
  rw [if_neg h10, if_neg h10]
  by_cases h11 : w = 11
  · rw [if_pos h11, if_pos h11, d_ballots_21 hN h.2.2.2.2.2.1 hw.2.2.2.1, Option.bind_some]
  rw [if_neg h11, if_neg h11]
