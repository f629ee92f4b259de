/-! ===== the least load, on the class's side ===== -/
def outs (A : AS) (b g : Nat) : Nat := cnt (fun j => !g.testBit j && !brd A j b) 7
def need (A : AS) (r g : Nat) : Nat := sumN (fun b => if inb A b then r - outs A b g else 0) 24
def pcn (g : Nat) : Nat := cnt (fun i => g.testBit i) 7
def ldm (A : AS) (r : Nat) : Nat → Nat
  | 0 => 0
  | k + 1 => if ldm A r k < (need A r (k + 1) + pcn (k + 1) - 1) / pcn (k + 1) then (need A r (k + 1) + pcn (k + 1) - 1) / pcn (k + 1) else ldm A r k
theorem pcn_pos : ∀ g, g < 128 → 0 < g → 0 < pcn g ∧ pcn g ≤ 7 := by decide
theorem pc24 : ∀ g, g < 128 → cnt (fun i => g.testBit i) 24 = pcn g := by decide +kernel
theorem nI_mask {g : Nat} (h : g < 2147483648) (n : Nat) (hn : n ≤ 32) (hg : g < 2 ^ n) : nI g = maskN (fun i => g.testBit i) n := by
  apply mask_ext hn
  intro i hi
  rw [bt_nI _ _ hi]
  by_cases h2 : i < n
  · rw [decide_eq_true h2, Bool.true_and]
  · rw [decide_eq_false h2, Bool.false_and]
    exact Nat.testBit_lt_two_pow (Nat.lt_of_lt_of_le hg (Nat.pow_le_pow_right (by omega) (by omega)))
theorem cnt_ext {p : Nat → Bool} {n m : Nat} (h : n ≤ m) : cnt (fun i => decide (i < n) && p i) m = cnt p n := by
  obtain ⟨d, rfl⟩ : ∃ d, m = n + d := ⟨m - n, by omega⟩
  induction d with
  | zero => exact cnt_congr (fun k hk => by rw [decide_eq_true (show k < n from hk), Bool.true_and])
  | succ d ih =>
    show cnt _ (n + d) + _ = _
    rw [ih (by omega), if_neg (by show ¬ (decide (n + d < n) && p (n + d)) = true; rw [decide_eq_false (by omega)]; simp)]
    rfl
theorem mask_wide {p : Nat → Bool} {n m : Nat} (h : n ≤ m) (hm : m ≤ 32) : maskN p n = maskN (fun i => decide (i < n) && p i) m := by
  apply mask_ext hm
  intro i hi
  rw [bt_mask p (by omega) hi]
  by_cases h2 : i < m
  · rw [decide_eq_true h2, Bool.true_and]
  · rw [decide_eq_false h2, decide_eq_false (show ¬ i < n by omega)]; rfl
theorem d_bits7 {N : Nat} {σ : ZS} {p : Nat → Bool} : f_J6_bitCount_0f7a4 N σ (maskN p 7) = some (nI (cnt p 7)) := by
  rw [mask_wide (show 7 ≤ 24 by omega) (by omega), d_bitCount, cnt_ext (by omega)]
theorem d_bitsN {N : Nat} {σ : ZS} {g : Nat} (h : g < 128) : f_J6_bitCount_0f7a4 N σ (nI g) = some (nI (pcn g)) := by
  rw [nI_mask (by omega) 24 (by omega) (by omega), d_bitCount, pc24 g h]
def frm (A : AS) (b : Nat) : Int32 := maskN (fun j => !brd A j b) 7
def fT (A : AS) (σ : ZS) : Nat → ZS
  | 0 => σ
  | k + 1 => if inb A k then zu (fT A σ k) 17 (cnt (inb A) k) (frm A k) else fT A σ k
theorem fT_q {A : AS} {σ : ZS} {q : Nat} (h : q ≠ 17) : ∀ k, fT A σ k q = σ q
  | 0 => rfl
  | k + 1 => by
    unfold fT
    split
    · rw [zu_q h, fT_q h k]
    · exact fT_q h k
theorem fT_sum {A : AS} {σ : ZS} (g : Int32 → Nat) : ∀ k, sumN (fun i => g (fT A σ k 17 i)) (cnt (inb A) k) = sumN (fun b => if inb A b then g (frm A b) else 0) k
  | 0 => rfl
  | k + 1 => by
    have ih := fT_sum (A := A) (σ := σ) g k
    show sumN _ (cnt (inb A) k + if inb A k then 1 else 0) = sumN _ k + if inb A k then g (frm A k) else 0
    by_cases hi : inb A k = true
    · rw [if_pos hi, if_pos hi]
      show sumN _ (cnt (inb A) k) + g (fT A σ (k + 1) 17 (cnt (inb A) k)) = _
      have e : fT A σ (k + 1) = zu (fT A σ k) 17 (cnt (inb A) k) (frm A k) := by
        show (if _ then _ else _) = _
        rw [if_pos hi]
      rw [e, zu_p, ← ih]
      congr 1
      apply sumN_congr
      intro i hl
      rw [zu_i (by omega)]
    · rw [if_neg hi, if_neg hi]
      have e : fT A σ (k + 1) = fT A σ k := by
        show (if _ then _ else _) = _
        rw [if_neg hi]
      rw [e]
      exact ih
section Load
variable {N : Nat} {σ : ZS} {A : AS}
theorem d_freeJudges (hN : 200 ≤ N) (h : RDj A σ) (hw : WFb A) {b : Nat} (hb : b < A 0 0) : f_X0_freeJudgesOf N σ (nI b) = some (frm A b) := by
  have := hw.1
  unfold f_X0_freeJudgesOf L_X0_freeJudgesOf_4
  refine lq2_seq (fun k => maskN (fun j => !brd A j b) k) (fun k => nI k) _ 7 ?_ ?_ N (by omega)
  · intro k hk rc
    unfold B_X0_freeJudgesOf_4
    rw [k_7]
    simp only [n_le (show 7 < 2147483648 by omega) (show k < 2147483648 by omega)]
    rw [if_neg (by omega), d_isBarred h hw hk (by omega), Option.bind_some, decide_eq_true hb, Bool.true_and]
    simp only [zb_0, g_lt_e, nI_1, d_bit, Option.bind_some]
    by_cases hq : brd A k b = true
    · rw [if_neg (by rw [hq]; decide), mask_f (show (!brd A k b) = false by rw [hq]; rfl)]
    · have hq' : brd A k b = false := by simpa using hq
      rw [if_pos hq', mask_t (show (!brd A k b) = true by rw [hq']; rfl)]
  · intro rc
    unfold B_X0_freeJudgesOf_4
    rw [if_pos (by decide)]
    rfl
theorem d_outs {g b : Nat} (hg : g < 128) : f_J6_bitCount_0f7a4 N σ (frm A b &&& (nI g ^^^ (-1))) = some (nI (outs A b g)) := by
  have e : frm A b &&& (nI g ^^^ (-1)) = maskN (fun j => !g.testBit j && !brd A j b) 7 := by
    apply mask_ext (by omega)
    intro i hi
    rw [b_and, bt_not hi, bt_nI _ _ hi]
    unfold frm
    rw [bt_mask _ (by omega) hi]
    cases decide (i < 7) <;> simp [Bool.and_comm]
  rw [e, d_bits7]
  rfl
theorem outs_le (A : AS) (b g : Nat) : outs A b g ≤ 7 := cnt_le _ 7
theorem need_le (A : AS) {r g : Nat} (hr : r ≤ 3) : need A r g ≤ 72 := by
  have := sumN_le (g := fun b => if inb A b then r - outs A b g else 0) (c := 3) (n := 24) (fun k _ => by
    show (if inb A k then r - outs A k g else 0) ≤ 3
    split <;> omega)
  exact this
theorem d_readingsLeft (hN : 200 ≤ N) {r g : Nat} (hr : r ≤ 3) (hg : g < 128) : f_X0_readingsLeftTo N (fT A σ 24) (nI g) (nI (cnt (inb A) 24)) (nI r) = some (nI (need A r g)) := by
  have hc := cnt_le (inb A) 24
  -- each of the kept rows is the row of a book that is in
  have hrow : ∀ k, k ≤ 24 → ∀ i, i < cnt (inb A) k → ∃ b, fT A σ k 17 i = frm A b := by
    intro k
    induction k with
    | zero => intro _ i hi; exact absurd hi (Nat.not_lt_zero _)
    | succ k ih =>
      intro hk i hi
      have hi : i < cnt (inb A) k + if inb A k then 1 else 0 := hi
      show ∃ b, (if inb A k then zu (fT A σ k) 17 (cnt (inb A) k) (frm A k) else fT A σ k) 17 i = frm A b
      by_cases hq : inb A k = true
      · rw [if_pos hq] at hi ⊢
        by_cases he : i = cnt (inb A) k
        · subst he; exact ⟨k, zu_p⟩
        · rw [zu_i he]; exact ih (by omega) i (by omega)
      · rw [if_neg hq] at hi ⊢
        exact ih (by omega) i (by omega)
  -- what a row leaves, as a number
  have hval : ∀ b, ∃ m, m ≤ 7 ∧ f_J6_bitCount_0f7a4 N (fT A σ 24) (frm A b &&& (nI g ^^^ (-1))) = some (nI m) := fun b => ⟨_, outs_le A b g, d_outs hg⟩
  let gg : Int32 → Nat := fun x => match f_J6_bitCount_0f7a4 N (fT A σ 24) (x &&& (nI g ^^^ (-1))) with
    | some y => r - y.toNatClampNeg
    | none => 0
  have hgg : ∀ b, gg (frm A b) = r - outs A b g := by
    intro b
    show (match f_J6_bitCount_0f7a4 N (fT A σ 24) (frm A b &&& (nI g ^^^ (-1))) with | some y => r - y.toNatClampNeg | none => 0) = _
    rw [d_outs hg]
    have := outs_le A b g
    show r - (nI (outs A b g)).toNatClampNeg = _
    rw [n_cl (by omega)]
  have hsum : sumN (fun i => gg (fT A σ 24 17 i)) (cnt (inb A) 24) = need A r g := by
    rw [fT_sum gg 24]
    apply sumN_congr
    intro b _
    show (if inb A b then gg (frm A b) else 0) = _
    rw [hgg]
  have hle : ∀ k, k ≤ cnt (inb A) 24 → sumN (fun i => gg (fT A σ 24 17 i)) k ≤ 72 := by
    intro k hk
    have := sumN_le (g := fun i => gg (fT A σ 24 17 i)) (c := 3) (n := k) (fun i hi => by
      obtain ⟨b, e⟩ := hrow 24 (by omega) i (by omega)
      show gg (fT A σ 24 17 i) ≤ 3
      rw [e, hgg]
      omega)
    omega
  rw [← hsum]
  unfold f_X0_readingsLeftTo L_X0_readingsLeftTo_6
  refine lq2_seq (fun k => nI (sumN (fun i => gg (fT A σ 24 17 i)) k)) (fun k => nI k) _ (cnt (inb A) 24) ?_ ?_ N (by omega)
  · intro k hk rc
    unfold B_X0_readingsLeftTo_6
    rw [k_24]
    simp only [n_le (show cnt (inb A) 24 < 2147483648 by omega) (show k < 2147483648 by omega), n_le (show 24 < 2147483648 by omega) (show k < 2147483648 by omega)]
    rw [if_neg (by omega), if_neg (by omega), g_rd_in (by omega) (by omega)]
    obtain ⟨b, e⟩ := hrow 24 (by omega) k hk
    show _ = rc (nI (sumN _ k + gg (fT A σ 24 17 k))) _
    rw [e, hgg, d_outs hg, Option.bind_some]
    have ho := outs_le A b g
    simp only [n_le (show r < 2147483648 by omega) (show outs A b g < 2147483648 by omega), g_lt_e, nI_1]
    by_cases hl : r ≤ outs A b g
    · rw [if_pos hl, show r - outs A b g = 0 by omega]
      rfl
    · rw [if_neg hl, pk_sub (by omega), nI_add]
  · intro rc
    unfold B_X0_readingsLeftTo_6
    rw [if_pos (by rw [n_le (by omega) (by omega)]; omega)]
/-- is there a book that is in and hasn't enough judges -/
def lacks (A : AS) (r b : Nat) : Bool := inb A b && decide (cnt (fun j => !brd A j b) 7 < r)
theorem ldm_le (A : AS) {r : Nat} (hr : r ≤ 3) : ∀ k, ldm A r k ≤ 200
  | 0 => by unfold ldm; omega
  | k + 1 => by
    have ih := ldm_le A hr k
    have hn := need_le A (g := k + 1) hr
    have hp : pcn (k + 1) ≤ 7 := cnt_le _ 7
    have hd : (need A r (k + 1) + pcn (k + 1) - 1) / pcn (k + 1) ≤ need A r (k + 1) + pcn (k + 1) - 1 := Nat.div_le_self _ _
    unfold ldm
    split <;> omega
theorem d_leastLoad (hN : 200 ≤ N) (h : RDj A σ) (hw : WFb A) {r : Nat} (hr1 : 1 ≤ r) (hr : r ≤ 3) : ∃ τ, eqD σ τ ∧ f_X0_leastLoad N σ (maskN (inb A) 24) (nI r) = some (if (List.range 24).find? (lacks A r) = none then nI (ldm A r 127) else -1, τ) := by
  have hcn : ∀ k, cnt (inb A) k ≤ k := cnt_le (inb A)
  have hjT : ∀ k, RDj A (fT A σ k) := by
    intro k
    unfold RDj
    rw [fT_q (by omega), fT_q (by omega), fT_q (by omega), fT_q (by omega), fT_q (by omega)]
    exact h
  have hq : ∀ k, eqD σ (fT A σ k) := fun k p hp => fT_q (fun e => by rw [e] at hp; cases hp) k
  have stp : ∀ K rc (k : Nat), k < 24 → lacks A r k = false → B_X0_leastLoad_5 N (maskN (inb A) 24) (nI r) K rc (nI (cnt (inb A) k)) (nI k) (fT A σ k) = rc (nI (cnt (inb A) (k + 1))) (nI (k + 1)) (fT A σ (k + 1)) := by
    intro K rc k hk hl
    have hck := hcn k
    unfold B_X0_leastLoad_5
    rw [k_24]
    simp only [n_le (show 24 < 2147483648 by omega) (show k < 2147483648 by omega)]
    rw [if_neg (by omega), d_contains (by omega), Option.bind_some, bt_mask _ (by omega) (by omega), decide_eq_true hk, Bool.true_and]
    simp only [zb_0, g_lt_e, nI_1]
    show _ = rc (nI (cnt (inb A) k + if inb A k = true then 1 else 0)) _ (if inb A k = true then _ else _)
    by_cases hi : inb A k = true
    · have hkn : k < A 0 0 := by unfold inb at hi; rw [Bool.and_eq_true] at hi; exact of_decide_eq_true hi.1
      rw [if_neg (by rw [hi]; decide), if_pos hi, if_pos hi, d_freeJudges hN (hjT k) hw hkn, Option.bind_some, g_wr_in (by omega) (by omega), g_rd_in (by omega) (by omega), zu_p]
      unfold frm
      rw [d_bits7, Option.bind_some]
      have hc7 := cnt_le (fun j => !brd A j k) 7
      simp only [n_le (show r < 2147483648 by omega) (show cnt (fun j => !brd A j k) 7 < 2147483648 by omega)]
      unfold lacks at hl
      rw [hi, Bool.true_and] at hl
      have hl := of_decide_eq_false hl
      rw [if_pos (by omega)]
    · have hi' : inb A k = false := by simpa using hi
      rw [if_pos hi', if_neg hi, if_neg hi]
      rfl
  unfold f_X0_leastLoad L_X0_leastLoad_5
  rcases find_cases (lacks A r) 24 with ⟨hf, hall⟩ | ⟨e, he, hqe, hlt, hf⟩
  · refine ⟨fT A σ 24, hq 24, ?_⟩
    rw [hf, if_pos rfl]
    refine lq3_seq (fun k => nI (cnt (inb A) k)) (fun k => nI k) (fun k => fT A σ k) _ 24 (fun k hk rc => stp _ rc k hk (hall k hk)) ?_ N (by omega)
    intro rc
    unfold B_X0_leastLoad_5
    rw [if_pos (by decide)]
    dsimp only
    unfold L_X0_leastLoad_63
    refine lq2_seq (fun k => nI (ldm A r k)) (fun k => nI (k + 1)) _ 127 ?_ ?_ N (by omega)
    · intro k hk rc
      unfold B_X0_leastLoad_63
      rw [k_128]
      simp only [n_le (show 128 < 2147483648 by omega) (show k + 1 < 2147483648 by omega)]
      have hp := pcn_pos (k + 1) (by omega) (by omega)
      rw [if_neg (by omega), d_bitsN (by omega), Option.bind_some, k_0]
      simp only [n_le (show pcn (k + 1) < 2147483648 by omega) (show 0 < 2147483648 by omega)]
      rw [if_neg (by omega), d_readingsLeft hN hr (by omega), Option.bind_some]
      unfold g_dv
      have hn := need_le A (g := k + 1) hr
      have hd : (need A r (k + 1) + pcn (k + 1) - 1) / pcn (k + 1) ≤ need A r (k + 1) + pcn (k + 1) - 1 := Nat.div_le_self _ _
      have hm := ldm_le A hr k
      rw [if_neg (by rw [k_0, n_eq (by omega) (by omega)]; omega), nI_add, k_1, pk_sub (by omega), pk_div (by omega) (by omega) (by omega)]
      simp only [n_lt (show ldm A r k < 2147483648 by omega) (show (need A r (k + 1) + pcn (k + 1) - 1) / pcn (k + 1) < 2147483648 by omega), g_lt_e, nI_add]
      show _ = rc (nI (if _ then _ else _)) _
      split <;> rfl
    · intro rc
      unfold B_X0_leastLoad_63
      rw [if_pos (by decide)]
  · refine ⟨zu (fT A σ e) 17 (cnt (inb A) e) (frm A e), (hq e).put rfl, ?_⟩
    rw [hf, if_neg (by simp)]
    refine lq3_seq (fun k => nI (cnt (inb A) k)) (fun k => nI k) (fun k => fT A σ k) _ e (fun k hk rc => stp _ rc k (by omega) (hlt k hk)) ?_ N (by omega)
    intro rc
    have hck := hcn e
    unfold lacks at hqe
    rw [Bool.and_eq_true] at hqe
    have hi := hqe.1
    have hkn : e < A 0 0 := by unfold inb at hi; rw [Bool.and_eq_true] at hi; exact of_decide_eq_true hi.1
    unfold B_X0_leastLoad_5
    rw [k_24]
    simp only [n_le (show 24 < 2147483648 by omega) (show e < 2147483648 by omega)]
    rw [if_neg (by omega), d_contains (by omega), Option.bind_some, bt_mask _ (by omega) (by omega), decide_eq_true he, Bool.true_and]
    simp only [zb_0, g_lt_e]
    rw [if_neg (by rw [hi]; decide), d_freeJudges hN (hjT e) hw hkn, Option.bind_some, g_wr_in (by omega) (by omega), g_rd_in (by omega) (by omega), zu_p]
    have hc7 := cnt_le (fun j => !brd A j e) 7
    have hl := of_decide_eq_true hqe.2
    rw [show f_J6_bitCount_0f7a4 N (zu (fT A σ e) 17 (cnt (inb A) e) (frm A e)) (frm A e) = some (nI (cnt (fun j => !brd A j e) 7)) from d_bits7, Option.bind_some]
    simp only [n_le (show r < 2147483648 by omega) (show cnt (fun j => !brd A j e) 7 < 2147483648 by omega)]
    rw [if_neg (by omega)]
theorem d_load (hN : 200 ≤ N) (h : RD A σ) (hw : WF A) : ∃ τ, eqD σ τ ∧ f_X7_load N σ = some (if (List.range 24).find? (lacks A (A 9 5)) = none then nI (ldm A (A 9 5) 127) else -1, τ) := by
  obtain ⟨-, hr, hb, hj, -, -, -⟩ := h
  obtain ⟨wb, wj, wr, -, -⟩ := hw
  have hr' : RDr A (rT A σ 24) := hr.of4 (rT_q (by omega))
  have hj' : RDj A (rT A σ 24) := by
    unfold RDj
    rw [rT_q (by omega), rT_q (by omega), rT_q (by omega), rT_q (by omega), rT_q (by omega)]
    exact hj
  have h5 : 1 ≤ A 9 5 ∧ A 9 5 ≤ 3 := wr 5 (by omega)
  obtain ⟨τ, he, hf⟩ := d_leastLoad hN hj' wb h5.1 h5.2
  refine ⟨τ, eqD.tr (fun p hp => rT_q (fun e => by rw [e] at hp; cases hp)) he, ?_⟩
  unfold f_X7_load
  rw [d_admitted hN hb hr wb wr, g_b2_e, d_num5 hr', Option.bind_some, hf, g_b2_e]
end Load
