/-! ===== a count of a list, and the lists ===== -/
def vK (A : AS) (s : Nat) (T : Nat → Bool) (c : Bool) (kind b : Nat) : Int := if kind = 0 then vP A s T b else if kind = 1 then vQ A s T b else vR A s T c b
theorem vK_bd (A : AS) (s : Nat) (T : Nat → Bool) (c : Bool) (kind b : Nat) : -1000 ≤ vK A s T c kind b ∧ vK A s T c kind b ≤ 1000 := by
  unfold vK
  split
  · exact vP_bd A s T b
  · split
    · exact vQ_bd A s T b
    · exact vR_bd A s T c b
def kK (A : AS) (s : Nat) (T : Nat → Bool) (c : Bool) (kind : Nat) : Nat → Int := kV A s T c (vK A s T c kind)
def top (S : Nat → Bool) (kf : Nat → Int) (n b : Nat) : Bool := S b && decide (rnk S kf b < n)
theorem top_cnt {S : Nat → Bool} {kf : Nat → Int} {n : Nat} (h : n ≤ cnt S 24) : cnt (top S kf n) 24 = n := by
  have h1 := (lft_spec S kf n h).1
  have h2 := cnt_split (p := S) (q := lft S kf n) (n := 24) (fun b _ h => lft_S h)
  have h3 : cnt (top S kf n) 24 = cnt (fun c => S c && !lft S kf n c) 24 := by
    apply cnt_congr
    intro b hb
    rw [lft_rnk h hb]
    unfold top
    cases S b with
    | false => rfl
    | true =>
      rw [Bool.true_and, Bool.true_and, Bool.true_and]
      by_cases hr : rnk S kf b < n
      · rw [decide_eq_true hr, decide_eq_false (by omega)]; rfl
      · rw [decide_eq_false hr, decide_eq_true (by omega)]; rfl
  omega
def bkI (S : Nat → Bool) (kf : Nat → Int) (n : Nat) (i : Int32) : Int32 := if 0 ≤ i ∧ i < nI n then nI (pck S kf i.toNatClampNeg) else -1
def cC (A : AS) : Bool := decide (A 9 10 = 1)
def LT (A : AS) : Nat → Bool := top (cand A) (kL A) (nL0 A)
def kS0 (A : AS) : Nat → Int := kK A 0 (LT A) (cC A) (A 9 9)
def nS0 (A : AS) : Nat := min (A 9 8) (cnt (LT A) 24)
def ST (A : AS) : Nat → Bool := top (LT A) (kS0 A) (nS0 A)
theorem LT_nb {A : AS} {b : Nat} (h : LT A b = true) : b < A 0 0 := by
  unfold LT top cand inb at h
  simp only [Bool.and_eq_true, decide_eq_true_eq] at h
  exact h.1.1.1
theorem ST_LT {A : AS} {b : Nat} (h : ST A b = true) : LT A b = true := by
  unfold ST top at h
  rw [Bool.and_eq_true] at h
  exact h.1
section Cut
variable {N : Nat} {σ : ZS} {A : AS}
theorem d_bookAtI {S : Nat → Bool} {kf : Nat → Int} {n : Nat} (h : RKD σ S kf n) (i : Int32) : f_X2_bookAt N σ i = some (bkI S kf n i) := by
  have hn := h.2.1
  have hc := cnt_le24 S
  unfold bkI
  rcases pk_ix i (show n < 2 ^ 31 by omega) with h1 | h1 | ⟨k, hk, rfl⟩
  · rw [d_bookAt_out h.1 (by omega) (Or.inl h1), if_neg (fun x => by have := Int32.not_le.mpr h1; exact this x.1)]
  · rw [d_bookAt_out h.1 (by omega) (Or.inr h1), if_neg (fun x => by have := Int32.not_lt.mpr h1; exact this x.2)]
  · rw [d_bookAt h hk, if_pos ⟨nI_pos' (by omega), nI_lt hk (by omega)⟩, n_cl (by omega)]
theorem d_cut {S : Nat → Bool} {kf : Nat → Int} {n : Nat} (h : RKD σ S kf n) {m : Nat} (hm : m < 2147483648) : ∃ τ, f_X2_cut N σ (nI m) = some τ ∧ RKD τ S kf (min m n) ∧ (∀ q, q ≠ 32 → τ q = σ q) := by
  have hn := h.2.1
  have hc := cnt_le24 S
  refine ⟨zu σ 32 2 (nI (min m n)), ?_, ⟨zu_p, by omega, fun i hi => by rw [zu_q (by omega)]; exact h.2.2 i (by omega)⟩, fun q hq => zu_q hq⟩
  unfold f_X2_cut
  rw [h.1]
  simp only [g_lt_e, n_lt hm (show n < 2147483648 by omega)]
  have e : (if m < n then nI m else nI n) = nI (min m n) := by
    split
    · rw [show min m n = m by omega]
    · rw [show min m n = n by omega]
  rw [e]
  by_cases h0 : (0 : Int32) < nI (min m n)
  · rw [if_pos h0]
  · rw [if_neg h0]
    rw [k_0, n_lt (by omega) (by omega)] at h0
    rw [show min m n = 0 by omega]
    rfl
end Cut
section Rec18
variable {N : Nat} {σ : ZS} {A : AS}
theorem d_recount_18 (hN : 200 ≤ N) (h : RD A σ) (hw : WF A) {S : Nat → Bool} {kf : Nat → Int} {n : Nat} (hr : RKD σ S kf n) (hSb : ∀ b, S b = true → b < A 0 0) {kind : Nat} (hk : kind < 3) : ∃ τ, f_X7_recount_0_18 N σ (nI kind) = some τ ∧ RKD τ (top S kf n) (kK A 0 (top S kf n) (cC A) kind) (cnt (top S kf n) 24) ∧ (∀ b, top S kf n b = true → τ 28 b = iI (vK A 0 (top S kf n) (cC A) kind b)) ∧ (kind = 1 → ∀ x, x < 24 → τ 30 x = maskN (bts A 0 (top S kf n) x) 24) ∧ eqD σ τ := by
  obtain ⟨ht, hrr, hb, hj, hp0, hp1, hkk⟩ := h
  obtain ⟨wb, wj, wr, wq, wt⟩ := hw
  have hnb := wb.1
  have hT : ∀ b, top S kf n b = true → b < A 0 0 := fun b hb => by unfold top at hb; rw [Bool.and_eq_true] at hb; exact hSb b hb.1
  have hT24 : ∀ b, top S kf n b = true → b < 24 := fun b hb => by have := hT b hb; omega
  have h10 : A 9 10 ≤ 1 := (wr 10 (by omega)).2
  -- what is behind the hearing
  have tail : ∀ c : Bool, c = cC A → ∃ τ, ((f_X5_hear_24_18_11 N σ (maskN (top S kf n) 24) (zb c)).bind (fun s3 => if nI kind = (0 : Int32) then ((f_X5_valueByPoints N s3).bind (fun s4 => (f_X5_rankInto N s4).bind (fun s5 => some s5))) else (if nI kind = (1 : Int32) then ((f_X5_valueByPairs N s3).bind (fun s6 => (f_X5_rankInto N s6).bind (fun s7 => some s7))) else ((f_X5_valueByRounds N s3).bind (fun s8 => (f_X5_rankInto N s8).bind (fun s9 => some s9)))))) = some τ ∧ RKD τ (top S kf n) (kK A 0 (top S kf n) (cC A) kind) (cnt (top S kf n) 24) ∧ (∀ b, top S kf n b = true → τ 28 b = iI (vK A 0 (top S kf n) (cC A) kind b)) ∧ (kind = 1 → ∀ x, x < 24 → τ 30 x = maskN (bts A 0 (top S kf n) x) 24) ∧ eqD σ τ := by
    intro c hc
    generalize hTe : top S kf n = T at *
    rw [d_hear_18 hN hp0 hj wb wq hT c, Option.bind_some]
    have hTL : TL A 0 T c (hS A 0 T c σ) := TL_hS
    have fr : ∀ τ : ZS, (∀ q, q ≠ 24 → q ≠ 25 → q ≠ 26 → q ≠ 27 → q ≠ 28 → q ≠ 29 → q ≠ 30 → q ≠ 32 → q ≠ 33 → q ≠ 34 → τ q = σ q) → eqD σ τ := by
      intro τ hh q hq
      have no : ∀ p, scD p = true → q ≠ p := fun p hp e => by rw [e, hp] at hq; cases hq
      exact hh q (no 24 rfl) (no 25 rfl) (no 26 rfl) (no 27 rfl) (no 28 rfl) (no 29 rfl) (no 30 rfl) (no 32 rfl) (no 33 rfl) (no 34 rfl)
    rw [k_0, k_1]
    simp only [n_eq (show kind < 2147483648 by omega) (show 0 < 2147483648 by omega), n_eq (show kind < 2147483648 by omega) (show 1 < 2147483648 by omega)]
    rcases (show kind = 0 ∨ kind = 1 ∨ kind = 2 by omega) with rfl | rfl | rfl
    · rw [if_pos rfl, d_points hN wq (by omega) hT24 hTL, Option.bind_some]
      obtain ⟨τ, e1, e2, e3⟩ := d_rankInto (N := N) (σ := fl (hS A 0 T c σ) 28 (fun b => iI (vP A 0 T b)) 24) (T := T) hN (hTL.of (fl_q (by omega)) (fl_q (by omega)) (fl_q (by omega)) (fl_q (by omega))) (vf := vP A 0 T) (fun b hb _ => ⟨fl_p hb, vP_bd A 0 T b⟩)
      refine ⟨τ, by rw [e1, Option.bind_some], ?_, fun b hb => ?_, fun e => absurd e (by omega), fr τ (fun q h1 h2 h3 h4 h5 h6 h7 h8 h9 h10 => ?_)⟩
      · rw [← hc]; exact e2
      · rw [e3 28 (by omega) (by omega) (by omega), fl_p (hT24 b hb)]; rfl
      · rw [e3 q h8 h9 h10, fl_q h5]; exact hS_q h1 h2 h3 h4
    · rw [if_neg (by omega), if_pos rfl, d_valueByPairs hN hTL, Option.bind_some]
      obtain ⟨τ, e1, e2, e3⟩ := d_rankInto (N := N) (σ := fl (fl (hS A 0 T c σ) 30 (fun x => maskN (bts A 0 T x) 24) 24) 28 (fun b => iI (vQ A 0 T b)) 24) (T := T) hN (hTL.of (by rw [fl_q (by omega), fl_q (by omega)]) (by rw [fl_q (by omega), fl_q (by omega)]) (by rw [fl_q (by omega), fl_q (by omega)]) (by rw [fl_q (by omega), fl_q (by omega)])) (vf := vQ A 0 T) (fun b hb _ => ⟨fl_p hb, vQ_bd A 0 T b⟩)
      refine ⟨τ, by rw [e1, Option.bind_some], ?_, fun b hb => ?_, fun _ x hx => ?_, fr τ (fun q h1 h2 h3 h4 h5 h6 h7 h8 h9 h10 => ?_)⟩
      · rw [← hc]; exact e2
      · rw [e3 28 (by omega) (by omega) (by omega), fl_p (hT24 b hb)]; rfl
      · rw [e3 30 (by omega) (by omega) (by omega), fl_q (by omega), fl_p hx]
      · rw [e3 q h8 h9 h10, fl_q h5, fl_q h7]; exact hS_q h1 h2 h3 h4
    · rw [if_neg (by omega), if_neg (by omega)]
      obtain ⟨ρ, r1, r2, r3⟩ := d_rounds (N := N) hN wq (by omega) hT24 hTL
      rw [r1, Option.bind_some]
      obtain ⟨τ, e1, e2, e3⟩ := d_rankInto (N := N) (σ := ρ) (T := T) hN (hTL.of (r3 24 (by omega) (by omega)) (r3 25 (by omega) (by omega)) (r3 26 (by omega) (by omega)) (r3 27 (by omega) (by omega))) (vf := vR A 0 T c) (fun b hb hTb => ⟨r2 b hTb, vR_bd A 0 T c b⟩)
      refine ⟨τ, by rw [e1, Option.bind_some], ?_, fun b hb => ?_, fun e => absurd e (by omega), fr τ (fun q h1 h2 h3 h4 h5 h6 h7 h8 h9 h10 => ?_)⟩
      · rw [← hc]; exact e2
      · rw [e3 28 (by omega) (by omega) (by omega), r2 b hb, hc]; rfl
      · rw [e3 q h8 h9 h10, r3 q h5 h6]; exact hS_q h1 h2 h3 h4
  unfold f_X7_recount_0_18
  rw [d_asSet hN hr, Option.bind_some, d_num10 hrr, Option.bind_some, k_1]
  simp only [n_eq (show A 9 10 < 2147483648 by omega) (show 1 < 2147483648 by omega)]
  by_cases h1 : A 9 10 = 1
  · rw [if_pos h1]
    exact tail true (by unfold cC; rw [decide_eq_true h1])
  · rw [if_neg h1]
    exact tail false (by unfold cC; rw [decide_eq_false h1])
end Rec18
section Rec21
variable {N : Nat} {σ : ZS} {A : AS}
theorem d_recount_21 (hN : 200 ≤ N) (h : RD A σ) (hw : WF A) {S : Nat → Bool} {kf : Nat → Int} {n : Nat} (hr : RKD σ S kf n) (hSb : ∀ b, S b = true → b < A 0 0) {kind : Nat} (hk : kind < 3) : ∃ τ, f_X7_recount_0_21 N σ (nI kind) = some τ ∧ RKD τ (top S kf n) (kK A 1 (top S kf n) (cC A) kind) (cnt (top S kf n) 24) ∧ (∀ b, top S kf n b = true → τ 28 b = iI (vK A 1 (top S kf n) (cC A) kind b)) ∧ (kind = 1 → ∀ x, x < 24 → τ 30 x = maskN (bts A 1 (top S kf n) x) 24) ∧ eqD σ τ := by
  obtain ⟨ht, hrr, hb, hj, hp0, hp1, hkk⟩ := h
  obtain ⟨wb, wj, wr, wq, wt⟩ := hw
  have hnb := wb.1
  have hT : ∀ b, top S kf n b = true → b < A 0 0 := fun b hb => by unfold top at hb; rw [Bool.and_eq_true] at hb; exact hSb b hb.1
  have hT24 : ∀ b, top S kf n b = true → b < 24 := fun b hb => by have := hT b hb; omega
  have h10 : A 9 10 ≤ 1 := (wr 10 (by omega)).2
  -- what is behind the hearing
  have tail : ∀ c : Bool, c = cC A → ∃ τ, ((f_X5_hear_24_21_11 N σ (maskN (top S kf n) 24) (zb c)).bind (fun s3 => if nI kind = (0 : Int32) then ((f_X5_valueByPoints N s3).bind (fun s4 => (f_X5_rankInto N s4).bind (fun s5 => some s5))) else (if nI kind = (1 : Int32) then ((f_X5_valueByPairs N s3).bind (fun s6 => (f_X5_rankInto N s6).bind (fun s7 => some s7))) else ((f_X5_valueByRounds N s3).bind (fun s8 => (f_X5_rankInto N s8).bind (fun s9 => some s9)))))) = some τ ∧ RKD τ (top S kf n) (kK A 1 (top S kf n) (cC A) kind) (cnt (top S kf n) 24) ∧ (∀ b, top S kf n b = true → τ 28 b = iI (vK A 1 (top S kf n) (cC A) kind b)) ∧ (kind = 1 → ∀ x, x < 24 → τ 30 x = maskN (bts A 1 (top S kf n) x) 24) ∧ eqD σ τ := by
    intro c hc
    generalize hTe : top S kf n = T at *
    rw [d_hear_21 hN hp1 hj wb wq hT c, Option.bind_some]
    have hTL : TL A 1 T c (hS A 1 T c σ) := TL_hS
    have fr : ∀ τ : ZS, (∀ q, q ≠ 24 → q ≠ 25 → q ≠ 26 → q ≠ 27 → q ≠ 28 → q ≠ 29 → q ≠ 30 → q ≠ 32 → q ≠ 33 → q ≠ 34 → τ q = σ q) → eqD σ τ := by
      intro τ hh q hq
      have no : ∀ p, scD p = true → q ≠ p := fun p hp e => by rw [e, hp] at hq; cases hq
      exact hh q (no 24 rfl) (no 25 rfl) (no 26 rfl) (no 27 rfl) (no 28 rfl) (no 29 rfl) (no 30 rfl) (no 32 rfl) (no 33 rfl) (no 34 rfl)
    rw [k_0, k_1]
    simp only [n_eq (show kind < 2147483648 by omega) (show 0 < 2147483648 by omega), n_eq (show kind < 2147483648 by omega) (show 1 < 2147483648 by omega)]
    rcases (show kind = 0 ∨ kind = 1 ∨ kind = 2 by omega) with rfl | rfl | rfl
    · rw [if_pos rfl, d_points hN wq (by omega) hT24 hTL, Option.bind_some]
      obtain ⟨τ, e1, e2, e3⟩ := d_rankInto (N := N) (σ := fl (hS A 1 T c σ) 28 (fun b => iI (vP A 1 T b)) 24) (T := T) hN (hTL.of (fl_q (by omega)) (fl_q (by omega)) (fl_q (by omega)) (fl_q (by omega))) (vf := vP A 1 T) (fun b hb _ => ⟨fl_p hb, vP_bd A 1 T b⟩)
      refine ⟨τ, by rw [e1, Option.bind_some], ?_, fun b hb => ?_, fun e => absurd e (by omega), fr τ (fun q h1 h2 h3 h4 h5 h6 h7 h8 h9 h10 => ?_)⟩
      · rw [← hc]; exact e2
      · rw [e3 28 (by omega) (by omega) (by omega), fl_p (hT24 b hb)]; rfl
      · rw [e3 q h8 h9 h10, fl_q h5]; exact hS_q h1 h2 h3 h4
    · rw [if_neg (by omega), if_pos rfl, d_valueByPairs hN hTL, Option.bind_some]
      obtain ⟨τ, e1, e2, e3⟩ := d_rankInto (N := N) (σ := fl (fl (hS A 1 T c σ) 30 (fun x => maskN (bts A 1 T x) 24) 24) 28 (fun b => iI (vQ A 1 T b)) 24) (T := T) hN (hTL.of (by rw [fl_q (by omega), fl_q (by omega)]) (by rw [fl_q (by omega), fl_q (by omega)]) (by rw [fl_q (by omega), fl_q (by omega)]) (by rw [fl_q (by omega), fl_q (by omega)])) (vf := vQ A 1 T) (fun b hb _ => ⟨fl_p hb, vQ_bd A 1 T b⟩)
      refine ⟨τ, by rw [e1, Option.bind_some], ?_, fun b hb => ?_, fun _ x hx => ?_, fr τ (fun q h1 h2 h3 h4 h5 h6 h7 h8 h9 h10 => ?_)⟩
      · rw [← hc]; exact e2
      · rw [e3 28 (by omega) (by omega) (by omega), fl_p (hT24 b hb)]; rfl
      · rw [e3 30 (by omega) (by omega) (by omega), fl_q (by omega), fl_p hx]
      · rw [e3 q h8 h9 h10, fl_q h5, fl_q h7]; exact hS_q h1 h2 h3 h4
    · rw [if_neg (by omega), if_neg (by omega)]
      obtain ⟨ρ, r1, r2, r3⟩ := d_rounds (N := N) hN wq (by omega) hT24 hTL
      rw [r1, Option.bind_some]
      obtain ⟨τ, e1, e2, e3⟩ := d_rankInto (N := N) (σ := ρ) (T := T) hN (hTL.of (r3 24 (by omega) (by omega)) (r3 25 (by omega) (by omega)) (r3 26 (by omega) (by omega)) (r3 27 (by omega) (by omega))) (vf := vR A 1 T c) (fun b hb hTb => ⟨r2 b hTb, vR_bd A 1 T c b⟩)
      refine ⟨τ, by rw [e1, Option.bind_some], ?_, fun b hb => ?_, fun e => absurd e (by omega), fr τ (fun q h1 h2 h3 h4 h5 h6 h7 h8 h9 h10 => ?_)⟩
      · rw [← hc]; exact e2
      · rw [e3 28 (by omega) (by omega) (by omega), r2 b hb, hc]; rfl
      · rw [e3 q h8 h9 h10, r3 q h5 h6]; exact hS_q h1 h2 h3 h4
  unfold f_X7_recount_0_21
  rw [d_asSet hN hr, Option.bind_some, d_num10 hrr, Option.bind_some, k_1]
  simp only [n_eq (show A 9 10 < 2147483648 by omega) (show 1 < 2147483648 by omega)]
  by_cases h1 : A 9 10 = 1
  · rw [if_pos h1]
    exact tail true (by unfold cC; rw [decide_eq_true h1])
  · rw [if_neg h1]
    exact tail false (by unfold cC; rw [decide_eq_false h1])
end Rec21
section Lists
variable {N : Nat} {σ : ZS} {A : AS}
theorem eqD_of_long {τ : ZS} (h : ∀ q, q ≠ 10 → q ≠ 32 → q ≠ 33 → q ≠ 34 → τ q = σ q) : eqD σ τ := by
  intro q hq
  have no : ∀ p, scD p = true → q ≠ p := fun p hp e => by rw [e, hp] at hq; cases hq
  exact h q (no 10 rfl) (no 32 rfl) (no 33 rfl) (no 34 rfl)
theorem d_rankList0 (hN : 200 ≤ N) (h : RD A σ) (hw : WF A) : ∃ τ, f_X7_rankList N σ 0 = some τ ∧ RKD τ (cand A) (kL A) (nL0 A) ∧ eqD σ τ := by
  obtain ⟨τ, e1, e2, e3⟩ := d_rankLonglist hN h hw
  refine ⟨τ, ?_, e2, eqD_of_long e3⟩
  unfold f_X7_rankList
  rw [e1, Option.bind_some, if_neg (by decide)]
theorem d_rankList1 (hN : 200 ≤ N) (h : RD A σ) (hw : WF A) : ∃ τ, f_X7_rankList N σ 1 = some τ ∧ RKD τ (LT A) (kS0 A) (nS0 A) ∧ eqD σ τ := by
  obtain ⟨τ, e1, e2, e3⟩ := d_rankLonglist hN h hw
  have q1 := eqD_of_long e3
  have h1 := h.eq q1
  have w9 : A 9 9 ≤ 2 := (hw.2.2.1 9 (by omega)).2
  have w8 : A 9 8 ≤ 12 := (hw.2.2.1 8 (by omega)).2
  obtain ⟨τ2, f1, f2, f3, f4, f5⟩ := d_recount_18 hN h1 hw e2 (fun b hb => by unfold cand inb at hb; simp only [Bool.and_eq_true, decide_eq_true_eq] at hb; exact hb.1.1) (kind := A 9 9) (by omega)
  have h2 := h1.eq f5
  obtain ⟨τ3, g1, g2, g3⟩ := d_cut (N := N) f2 (m := A 9 8) (by omega)
  refine ⟨τ3, ?_, g2, (q1.tr f5).tr (fun q hq => g3 q (fun e => by rw [e] at hq; cases hq))⟩
  unfold f_X7_rankList
  rw [e1, Option.bind_some, if_pos rfl, d_num9 h1.2.1, Option.bind_some, f1, Option.bind_some, d_num8 h2.2.1, Option.bind_some, g1, Option.bind_some]
end Lists
