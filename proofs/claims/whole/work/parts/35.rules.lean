/-! ===== rules: what a text says ===== -/
def dg (A : AS) (i : Nat) : Bool := decide (i < A 15 0) && (decide (48 ≤ A 16 i) && decide (A 16 i ≤ 57))
def nd (A : AS) (i : Nat) : Nat := match (List.range 5).find? (fun k => !dg A (i + k)) with
  | some k => k
  | none => 5
def nm (A : AS) (i : Nat) : Nat → Nat
  | 0 => 0
  | k + 1 => 10 * nm A i k + (A 16 (i + k) - 48)
def lx (A : AS) (p : Nat) : Option Nat := if p < A 15 0 then lix (nI (A 16 p)) else none
def cX (A : AS) (p : Nat) : Nat := (lx A p).getD 0
def cN (A : AS) (p : Nat) : Nat := nm A (p + 1) (nd A (p + 1))
def cB (A : AS) (p : Nat) : Nat := p + 1 + nd A (p + 1)
def cF (A : AS) (p : Nat) : Nat := if lx A p = none then 100 + p else if nd A (p + 1) = 0 then 200 + (p + 1) else if 4 < nd A (p + 1) then 300 + (p + 1 + 4) else if ¬ (rlo (cX A p) ≤ cN A p ∧ cN A p ≤ rhi (cX A p)) then 500 + (p + 1) else if cB A p < A 15 0 ∧ A 16 (cB A p) ≠ 59 then 400 + cB A p else 0
def upN (D : Nat → Nat) (k v : Nat) : Nat → Nat := fun i => if i = k then v else D i
def prs (A : AS) : Nat → Nat → (Nat → Nat) → Nat × (Nat → Nat)
  | 0, _, D => (0, D)
  | m + 1, p, D => if cF A p = 0 then (if cB A p < A 15 0 then prs A m (cB A p + 1) (upN D (cX A p) (cN A p)) else (0, upN D (cX A p) (cN A p))) else (cF A p, D)
def atF (k : Nat) : Nat := ([50, 900, 0, 365, 3, 2, 30, 6, 3, 0, 0] : List Nat).getD k 0
theorem nd_spec (A : AS) (i : Nat) : nd A i ≤ 5 ∧ (∀ k, k < nd A i → dg A (i + k) = true) ∧ (nd A i < 5 → dg A (i + nd A i) = false) := by
  unfold nd
  rcases find_cases (fun k => !dg A (i + k)) 5 with ⟨h1, h2⟩ | ⟨e, he, h1, h2, h3⟩
  · rw [h1]
    exact ⟨Nat.le_refl _, fun k hk => by have := h2 k hk; simpa using this, fun h => absurd h (Nat.lt_irrefl 5)⟩
  · rw [h3]
    exact ⟨by show e ≤ 5; omega, fun k hk => by have := h2 k hk; simpa using this, fun _ => by simpa using h1⟩
theorem dg_iff {A : AS} {i : Nat} : dg A i = true ↔ i < A 15 0 ∧ 48 ≤ A 16 i ∧ A 16 i ≤ 57 := by
  unfold dg
  simp
theorem nm_lt (A : AS) (i : Nat) : ∀ k, (∀ j, j < k → dg A (i + j) = true) → nm A i k < 10 ^ k
  | 0, _ => by show 0 < 1; omega
  | k + 1, h => by
    have h1 := nm_lt A i k (fun j hj => h j (by omega))
    have h2 := dg_iff.mp (h k (by omega))
    show 10 * nm A i k + (A 16 (i + k) - 48) < 10 ^ k * 10
    omega
theorem cN_lt (A : AS) (p : Nat) : cN A p < 100000 := by
  have h := nd_spec A (p + 1)
  have h1 := nm_lt A (p + 1) (nd A (p + 1)) h.2.1
  have h2 : 10 ^ nd A (p + 1) ≤ 10 ^ 5 := Nat.pow_le_pow_right (by omega) h.1
  unfold cN
  omega
theorem cF_le (A : AS) {p : Nat} (hp : p ≤ 80) : cF A p ≤ 1000 := by
  have h := (nd_spec A (p + 1)).1
  unfold cF cB
  repeat' split
  all_goals omega
theorem cX_lt {A : AS} {p : Nat} (h : lx A p ≠ none) : cX A p < 11 ∧ lx A p = some (cX A p) := by
  unfold cX
  cases e : lx A p with
  | none => exact absurd e h
  | some k =>
    refine ⟨?_, rfl⟩
    unfold lx at e
    split at e
    · exact lix_lt e
    · cases e
theorem cF_0 {A : AS} {p : Nat} (h : cF A p = 0) : lx A p ≠ none ∧ 0 < nd A (p + 1) ∧ nd A (p + 1) ≤ 4 ∧ (rlo (cX A p) ≤ cN A p ∧ cN A p ≤ rhi (cX A p)) ∧ ¬ (cB A p < A 15 0 ∧ A 16 (cB A p) ≠ 59) := by
  unfold cF at h
  by_cases h1 : lx A p = none
  · rw [if_pos h1] at h; omega
  · rw [if_neg h1] at h
    by_cases h2 : nd A (p + 1) = 0
    · rw [if_pos h2] at h; omega
    · rw [if_neg h2] at h
      by_cases h3 : 4 < nd A (p + 1)
      · rw [if_pos h3] at h; omega
      · rw [if_neg h3] at h
        by_cases h4 : rlo (cX A p) ≤ cN A p ∧ cN A p ≤ rhi (cX A p)
        · rw [if_neg (not_not_intro h4)] at h
          by_cases h5 : cB A p < A 15 0 ∧ A 16 (cB A p) ≠ 59
          · rw [if_pos h5] at h; omega
          · exact ⟨h1, by omega, by omega, h4, h5⟩
        · rw [if_pos h4] at h; omega
theorem cF_p {A : AS} {p : Nat} (h : cF A p = 0) : p < A 15 0 ∧ cB A p ≤ A 15 0 ∧ p + 2 ≤ cB A p := by
  obtain ⟨h1, h2, h3, -, -⟩ := cF_0 h
  have hs := (nd_spec A (p + 1)).2.1
  have h4 := (dg_iff.mp (hs (nd A (p + 1) - 1) (by omega))).1
  unfold cB
  omega
def okD (D : Nat → Nat) : Prop := ∀ k, k < 11 → rlo k ≤ D k ∧ D k ≤ rhi k
theorem okD_at : okD atF := by unfold okD; decide
theorem prs_ok {A : AS} : ∀ m p D, okD D → okD (prs A m p D).2
  | 0, p, D, h => h
  | m + 1, p, D, h => by
    show okD (if cF A p = 0 then _ else _ : Nat × (Nat → Nat)).2
    by_cases h0 : cF A p = 0
    · have h2 : okD (upN D (cX A p) (cN A p)) := by
        intro k hk
        unfold upN
        split
        · rename_i e
          rw [e]
          exact (cF_0 h0).2.2.2.1
        · exact h k hk
      rw [if_pos h0]
      split
      · exact prs_ok m _ _ h2
      · exact h2
    · rw [if_neg h0]; exact h
def rlA (A : AS) (D : Nat → Nat) : AS := fun q i => if q = 9 ∧ i < 11 then D i else if q = 15 ∧ i = 0 then 0 else A q i
theorem rlA_q {A : AS} {D : Nat → Nat} {q : Nat} (h1 : q ≠ 9) (h2 : q ≠ 15) : rlA A D q = A q := by
  funext i
  unfold rlA
  rw [if_neg (fun e => h1 e.1), if_neg (fun e => h2 e.1)]
theorem rlA_9 {A : AS} {D : Nat → Nat} {i : Nat} (h : i < 11) : rlA A D 9 i = D i := by
  unfold rlA
  rw [if_pos ⟨rfl, h⟩]
theorem rlA_15 {A : AS} {D : Nat → Nat} : rlA A D 15 0 = 0 := by
  unfold rlA
  rw [if_neg (by omega), if_pos ⟨rfl, rfl⟩]
def anRules (A : AS) (x : Int32) : Int32 := match ix x 81 with
  | some n => if n ≤ A 15 0 then nI (prs (au A 15 0 n) (n + 1) 0 atF).1 else -1
  | none => -1
def nxRules (A : AS) (x : Int32) : AS := match ix x 81 with
  | some n => if n ≤ A 15 0 then (if (prs (au A 15 0 n) (n + 1) 0 atF).1 = 0 then rlA A (prs (au A 15 0 n) (n + 1) 0 atF).2 else au A 15 0 0) else A
  | none => A
theorem WF_rl {A : AS} (h : WF A) {D : Nat → Nat} (hD : okD D) : WF (rlA A D) := by
  obtain ⟨h1, h2, h3, h4, h5⟩ := h
  refine ⟨h1.cg (rlA_q (by omega) (by omega)) (rlA_q (by omega) (by omega)) (rlA_q (by omega) (by omega)) (rlA_q (by omega) (by omega)) (rlA_q (by omega) (by omega)) (rlA_q (by omega) (by omega)), h2.cg (rlA_q (by omega) (by omega)) (rlA_q (by omega) (by omega)) (rlA_q (by omega) (by omega)) (rlA_q (by omega) (by omega)) (rlA_q (by omega) (by omega)), ?_, h4.cg (rlA_q (by omega) (by omega)) (rlA_q (by omega) (by omega)) (rlA_q (by omega) (by omega)) (rlA_q (by omega) (by omega)) (rlA_q (by omega) (by omega)) (rlA_q (by omega) (by omega)), ?_⟩
  · intro k hk
    rw [rlA_9 hk]
    exact hD k hk
  · unfold WFt
    rw [rlA_15, rlA_q (show (16 : Nat) ≠ 9 by omega) (by omega)]
    exact ⟨by omega, h5.2⟩
theorem WF_rules {A : AS} (h : WF A) (x : Int32) : WF (nxRules A x) := by
  unfold nxRules
  rcases ix_cases x (show 81 < 2147483648 by omega) with ⟨n, hn, rfl, en⟩ | ⟨ho, en⟩
  · rw [en]
    dsimp only
    split
    · split
      · exact WF_rl h (prs_ok _ _ _ okD_at)
      · exact WF_tape h (by omega)
    · exact h
  · rw [en]; exact h
theorem RD_rl {A : AS} {σ τ : ZS} (h : RD A σ) {D : Nat → Nat} (e1 : τ 1 1 = 0) (e4 : ∀ k, k < 11 → τ 4 k = nI (D k)) (ez : ∀ p, p ≠ 1 → p ≠ 3 → p ≠ 4 → p ≠ 5 → τ p = σ p) : RD (rlA A D) τ := by
  obtain ⟨h1, h2, h3, h4, h5, h6, h7⟩ := h
  have z : ∀ p, (p ≠ 1 ∧ p ≠ 3 ∧ p ≠ 4 ∧ p ≠ 5) → τ p = σ p := fun p g => ez p g.1 g.2.1 g.2.2.1 g.2.2.2
  refine ⟨?_, ?_, h3.cg (rlA_q (by omega) (by omega)) (rlA_q (by omega) (by omega)) (rlA_q (by omega) (by omega)) (rlA_q (by omega) (by omega)) (rlA_q (by omega) (by omega)) (rlA_q (by omega) (by omega)) (z 6 (by omega)) (z 7 (by omega)) (z 8 (by omega)) (z 9 (by omega)), h4.cg (rlA_q (by omega) (by omega)) (rlA_q (by omega) (by omega)) (rlA_q (by omega) (by omega)) (rlA_q (by omega) (by omega)) (rlA_q (by omega) (by omega)) (z 12 (by omega)) (z 13 (by omega)) (z 14 (by omega)) (z 15 (by omega)) (z 16 (by omega)), h5.cg (rlA_q (by omega) (by omega)) (rlA_q (by omega) (by omega)) (rlA_q (by omega) (by omega)) (rlA_q (by omega) (by omega)) (z 18 (by omega)) (z 19 (by omega)) (z 20 (by omega)), h6.cg (rlA_q (by omega) (by omega)) (rlA_q (by omega) (by omega)) (rlA_q (by omega) (by omega)) (rlA_q (by omega) (by omega)) (z 21 (by omega)) (z 22 (by omega)) (z 23 (by omega)), h7.cg (rlA_q (by omega) (by omega)) (z 35 (by omega))⟩
  · unfold RDt
    rw [rlA_15, e1]
    exact ⟨rfl, fun i hi => absurd hi (by omega)⟩
  · intro k hk
    rw [rlA_9 hk, e4 k hk]
theorem RM_rl {A : AS} {σ τ : ZS} (h : RM A σ) {D : Nat → Nat} (e1 : τ 0 1 = 0) (e04 : τ 0 4 = σ 0 4) (e2 : ∀ k, k < 11 → τ 2 k = nI (D k)) (ez : ∀ p, p ≠ 0 → p ≠ 2 → p ≠ 3 → τ p = σ p) : RM (rlA A D) τ := by
  obtain ⟨h1, h2, h3, h4, h5, h6⟩ := h
  have z : ∀ p, (p ≠ 0 ∧ p ≠ 2 ∧ p ≠ 3) → τ p = σ p := fun p g => ez p g.1 g.2.1 g.2.2
  refine ⟨?_, ?_, h3.cg (rlA_q (by omega) (by omega)) (rlA_q (by omega) (by omega)) (rlA_q (by omega) (by omega)) (rlA_q (by omega) (by omega)) (rlA_q (by omega) (by omega)) (rlA_q (by omega) (by omega)) e04 (z 4 (by omega)) (z 5 (by omega)) (z 6 (by omega)) (z 7 (by omega)) (z 8 (by omega)), h4.cg (rlA_q (by omega) (by omega)) (rlA_q (by omega) (by omega)) (rlA_q (by omega) (by omega)) (rlA_q (by omega) (by omega)) (z 9 (by omega)) (z 10 (by omega)) (z 11 (by omega)), h5.cg (rlA_q (by omega) (by omega)) (rlA_q (by omega) (by omega)) (rlA_q (by omega) (by omega)) (rlA_q (by omega) (by omega)) (z 12 (by omega)) (z 14 (by omega)) (z 15 (by omega)) (z 16 (by omega)) (z 17 (by omega)), h6.cg (rlA_q (by omega) (by omega)) (z 13 (by omega))⟩
  · unfold RMt
    rw [rlA_15, e1]
    exact ⟨rfl, fun i hi => absurd hi (by omega)⟩
  · intro k hk
    rw [rlA_9 hk, e2 k hk]
section RulesD
variable {N : Nat} {σ : ZS} {A : AS}
theorem zT1 : ∀ k, k < 11 → zTb 1 k = nI (atF k) := by decide
theorem zT2 : ∀ k, k < 11 → zTb 2 k = nI (rlo k) := by decide
theorem zT3 : ∀ k, k < 11 → zTb 3 k = nI (rhi k) := by decide
theorem d_digitAt (h : RDt A σ) (hw : WFt A) {i : Nat} (hi : i < 1000) : (f_X6_byteAt N σ (nI i)).bind (fun v1 => f_X7_isWithin N σ v1 48 57) = some (zb (dg A i)) := by
  have hb := hw.2 i
  rw [d_byteAt h hw hi, Option.bind_some]
  unfold dg
  by_cases hn : i < A 15 0
  · rw [if_pos hn, k_48, k_57, d_within (by omega) (by omega) (by omega), decide_eq_true hn, Bool.true_and]
  · rw [if_neg hn, d_isWithin, decide_eq_false hn, Bool.false_and, decide_eq_false (p := (48 : Int32) ≤ -1) (by decide), Bool.false_and]
theorem d_digitsFrom (hN : 200 ≤ N) (h : RDt A σ) (hw : WFt A) {i : Nat} (hi : i < 500) : f_X3_digitsFrom N σ (nI i) = some (nI (nd A i)) := by
  unfold f_X3_digitsFrom L_X3_digitsFrom_2
  have bd : ∀ k, k < 5 → ∀ rc, B_X3_digitsFrom_2 N σ (nI i) (fun y4 => some (5 : Int32)) rc (nI k) = if dg A (i + k) = true then rc (nI (k + 1)) else some (nI k) := by
    intro k hk rc
    unfold B_X3_digitsFrom_2
    rw [k_4, ilt_f (by omega) (by omega) (by omega), nI_add, ← Option.bind_assoc, d_digitAt h hw (by omega), Option.bind_some]
    cases dg A (i + k)
    · rw [if_pos zb_f, if_neg (by decide)]
    · rw [if_neg (by decide), if_pos rfl, g_lt_e, nI_1]
  have hs := nd_spec A i
  by_cases h5 : nd A i < 5
  · exact lq1_seq (B := B_X3_digitsFrom_2 N σ (nI i) (fun y4 => some (5 : Int32))) (fun k => nI k) _ (nd A i) (fun k hk rc => by rw [bd k (by omega), if_pos (hs.2.1 k hk)]) (fun rc => by rw [bd _ h5, if_neg (by rw [hs.2.2 h5]; decide)]) N (by omega)
  · have e5 : nd A i = 5 := by omega
    rw [e5]
    exact lq1_seq (B := B_X3_digitsFrom_2 N σ (nI i) (fun y4 => some (5 : Int32))) (fun k => nI k) _ 5 (fun k hk rc => by rw [bd k (by omega), if_pos (hs.2.1 k (by omega))]) (fun rc => rfl) N (by omega)
theorem d_numberOf (hN : 200 ≤ N) (h : RDt A σ) (hw : WFt A) {i k : Nat} (hi : i < 500) (hk : k ≤ 5) (hd : ∀ j, j < k → dg A (i + j) = true) : f_X3_numberOf N σ (nI i) (nI (i + k)) = some (nI (nm A i k)) := by
  unfold f_X3_numberOf L_X3_numberOf_5
  refine lq2_seq (B := B_X3_numberOf_5 N σ (nI (i + k)) (fun y4 y5 => some y4)) (fun j => nI (nm A i j)) (fun j => nI (i + j)) _ k ?_ ?_ N (by omega)
  · intro j hj rc
    have hg := dg_iff.mp (hd j hj)
    unfold B_X3_numberOf_5
    rw [ile_f (by omega) (by omega) (by omega), d_byteAt h hw (by omega), if_pos hg.1, Option.bind_some, k_10, pk_mul, nI_add, k_48, pk_sub (by omega), g_lt_e, g_lt_e, nI_1, show 10 * nm A i j + A 16 (i + j) - 48 = nm A i (j + 1) by show _ = 10 * nm A i j + (A 16 (i + j) - 48); omega]
    rfl
  · intro rc
    unfold B_X3_numberOf_5
    rw [ile_t (by omega) (by omega) (by omega)]
theorem lI_none : (match (none : Option Nat) with | some k => nI k | none => (-1 : Int32)) = -1 := rfl
theorem d_letter (hN : 200 ≤ N) (h : RDt A σ) (hw : WFt A) {p : Nat} (hp : p < 1000) : (f_X6_byteAt N σ (nI p)).bind (fun v1 => f_X3_indexOf N σ v1) = some (if lx A p = none then -1 else nI (cX A p)) := by
  rw [d_byteAt h hw hp, Option.bind_some, d_indexOf hN]
  unfold cX lx
  by_cases hn : p < A 15 0
  · rw [if_pos hn, if_pos hn]
    cases lix (nI (A 16 p)) <;> rfl
  · rw [if_neg hn, if_neg hn, show lix (-1) = none by decide]
    rfl
theorem d_readClause (hN : 200 ≤ N) (h : RDt A σ) (hw : WFt A) {p : Nat} (hp : p ≤ A 15 0) (hσ : σ 3 2 = nI p) : f_X3_readClause N σ = some (if cF A p = 0 then zu (zu σ 5 (cX A p) (nI (cN A p))) 3 2 (nI (cB A p)) else zu σ 3 3 (nI (cF A p))) := by
  have ht := hw.1
  have hs := nd_spec A (p + 1)
  have hc := cN_lt A p
  unfold f_X3_readClause f_X3_refuse
  rw [hσ, ← Option.bind_assoc, d_letter hN h hw (by omega), Option.bind_some, g_lt_e, nI_1, d_digitsFrom hN h hw (by omega), Option.bind_some, g_lt_e, nI_add, d_numberOf hN h hw (by omega) hs.1 hs.2.1, Option.bind_some]
  by_cases h1 : lx A p = none
  · have hcf : cF A p = 100 + p := by unfold cF; rw [if_pos h1]
    rw [if_pos h1, if_pos rfl, k_100, k_1, pk_mul, nI_add, hcf, if_neg (show ¬ (100 + p = 0) by omega)]
    rfl
  · have hx := cX_lt h1
    rw [if_neg h1, if_neg (by rw [n_m1 (by omega)]; exact id)]
    by_cases h2 : nd A (p + 1) = 0
    · have hcf : cF A p = 200 + (p + 1) := by unfold cF; rw [if_neg h1, if_pos h2]
      rw [h2, if_pos nI_0, k_100, k_2, pk_mul, nI_add, hcf, if_neg (show ¬ (200 + (p + 1) = 0) by omega)]
      rfl
    · rw [k_0, ieq_f (by omega) (by omega) h2]
      by_cases h3 : 4 < nd A (p + 1)
      · have hcf : cF A p = 300 + (p + 1 + 4) := by unfold cF; rw [if_neg h1, if_neg h2, if_pos h3]
        rw [k_4, ile_f (by omega) (by omega) (by omega), k_100, k_3, pk_mul, nI_add, nI_add, hcf, if_neg (show ¬ (300 + (p + 1 + 4) = 0) by omega)]
        rfl
      · rw [k_4, ile_t (by omega) (by omega) (by omega), g_rd_in hx.1 (by omega), g_rd_in hx.1 (by omega), zT2 _ hx.1, zT3 _ hx.1]
        have r1 := rhi_le _ hx.1
        have r2 : rlo (cX A p) ≤ 9999 := by
          have : ∀ k, k < 11 → rlo k ≤ 9999 := by decide
          exact this _ hx.1
        rw [show nm A (p + 1) (nd A (p + 1)) = cN A p from rfl, d_within (by omega) (by omega) (by omega), Option.bind_some]
        by_cases h4 : rlo (cX A p) ≤ cN A p ∧ cN A p ≤ rhi (cX A p)
        · rw [decide_eq_true h4.1, decide_eq_true h4.2, if_neg (show ¬ (zb (true && true) = nI 0) by decide)]
          unfold f_X6_length
          rw [Option.bind_some, h.1]
          have hB : p + 1 + nd A (p + 1) = cB A p := rfl
          rw [hB]
          have hBl : cB A p < 1000 := by unfold cB; omega
          by_cases h5 : cB A p < A 15 0
          · have hb := hw.2 (cB A p)
            rw [ile_f (by omega) (by omega) (by omega), d_byteAt h hw hBl, if_pos h5, Option.bind_some]
            by_cases h6 : A 16 (cB A p) = 59
            · have hcf : cF A p = 0 := by unfold cF; rw [if_neg h1, if_neg h2, if_neg h3, if_neg (not_not_intro h4), if_neg (fun e => e.2 h6)]
              rw [h6, if_pos (show nI 59 = 59 from rfl), g_wr_in hx.1 (by omega), hcf, if_pos rfl]
              rfl
            · have hcf : cF A p = 400 + cB A p := by unfold cF; rw [if_neg h1, if_neg h2, if_neg h3, if_neg (not_not_intro h4), if_pos ⟨h5, h6⟩]
              rw [k_59, ieq_f (by omega) (by omega) h6, k_100, pk_mul, nI_add, hcf, if_neg (show ¬ (400 + cB A p = 0) by omega)]
              rfl
          · have hcf : cF A p = 0 := by unfold cF; rw [if_neg h1, if_neg h2, if_neg h3, if_neg (not_not_intro h4), if_neg (fun e => h5 e.1)]
            rw [ile_t (by omega) (by omega) (by omega), g_wr_in hx.1 (by omega), hcf, if_pos rfl]
            rfl
        · have hcf : cF A p = 500 + (p + 1) := by unfold cF; rw [if_neg h1, if_neg h2, if_neg h3, if_pos h4]
          have e : (decide (rlo (cX A p) ≤ cN A p) && decide (cN A p ≤ rhi (cX A p))) = false := by
            rw [Bool.and_eq_false_iff, decide_eq_false_iff_not, decide_eq_false_iff_not]
            omega
          rw [e, if_pos (show zb false = nI 0 from rfl), k_100, k_5, pk_mul, nI_add, hcf, if_neg (show ¬ (500 + (p + 1) = 0) by omega)]
          rfl
def DR (D : Nat → Nat) (p : Nat) (σ : ZS) : Prop := ∀ i, i < 11 → σ p i = nI (D i)
theorem DR.up {D : Nat → Nat} {p : Nat} (h : DR D p σ) {k v : Nat} (hk : k < 11) {τ : ZS} (e : τ p = zu σ p k (nI v) p) : DR (upN D k v) p τ := by
  intro i hi
  rw [e, zu_e]
  unfold upN
  by_cases he : i = k
  · rw [if_pos ⟨rfl, he⟩, if_pos he]
  · rw [if_neg (fun x => he x.2), if_neg he]
    exact h i hi
theorem prs_le (A : AS) (ht : A 15 0 ≤ 80) : ∀ m p D, p ≤ A 15 0 → (prs A m p D).1 ≤ 1000
  | 0, p, D, _ => by show 0 ≤ 1000; omega
  | m + 1, p, D, hp => by
    show (if cF A p = 0 then (if cB A p < A 15 0 then _ else _) else _ : Nat × (Nat → Nat)).1 ≤ 1000
    by_cases h0 : cF A p = 0
    · rw [if_pos h0]
      by_cases h1 : cB A p < A 15 0
      · rw [if_pos h1]; exact prs_le A ht m _ _ (by omega)
      · rw [if_neg h1]; show 0 ≤ 1000; omega
    · rw [if_neg h0]; exact cF_le A (by omega)
theorem prs_f {m p : Nat} {D : Nat → Nat} (h : cF A p ≠ 0) : prs A (m + 1) p D = (cF A p, D) := if_neg h
theorem prs_e {m p : Nat} {D : Nat → Nat} (h : cF A p = 0) (hb : ¬ cB A p < A 15 0) : prs A (m + 1) p D = (0, upN D (cX A p) (cN A p)) := by
  show (if cF A p = 0 then (if cB A p < A 15 0 then _ else _) else _ : Nat × (Nat → Nat)) = _
  rw [if_pos h, if_neg hb]
theorem prs_n {m p : Nat} {D : Nat → Nat} (h : cF A p = 0) (hb : cB A p < A 15 0) : prs A (m + 1) p D = prs A m (cB A p + 1) (upN D (cX A p) (cN A p)) := by
  show (if cF A p = 0 then (if cB A p < A 15 0 then _ else _) else _ : Nat × (Nat → Nat)) = _
  rw [if_pos h, if_pos hb]
theorem d_readLoop (hN : 200 ≤ N) (hw : WFt A) (K : ZS → Option (Int32 × ZS)) : ∀ m p D σ k M, A 15 0 < p + m → p ≤ A 15 0 → 3 * k ≤ p → A 15 0 + 1 < p + M → RDt A σ → DR D 5 σ → σ 3 2 = nI p → σ 3 3 = 0 → ∃ τ, (f_X3_readClause N σ).bind (fun s4 => lq2 (B_X3_read_27 N (fun _ s => K s)) M (nI k) s4) = K τ ∧ τ 3 3 = nI (prs A m p D).1 ∧ DR (prs A m p D).2 5 τ ∧ (∀ q, q ≠ 3 → q ≠ 5 → τ q = σ q) := by
  intro m
  induction m with
  | zero => intro p D σ k M h1 h2; omega
  | succ m ih =>
    intro p D σ k M h1 h2 h3 hM ht hD hp hf
    have ht80 := hw.1
    obtain ⟨M, rfl⟩ : ∃ z, M = z + 1 := ⟨M - 1, by omega⟩
    rw [d_readClause hN ht hw h2 hp, Option.bind_some]
    show ∃ τ, B_X3_read_27 N (fun _ s => K s) (lq2 (B_X3_read_27 N (fun _ s => K s)) M) (nI k) _ = K τ ∧ _
    unfold B_X3_read_27
    rw [k_80, ile_f (by omega) (by omega) (by omega)]
    have hcl := cF_le A (p := p) (by omega)
    by_cases h0 : cF A p = 0
    · obtain ⟨g1, g2, g3⟩ := cF_p h0
      have hx := cX_lt (cF_0 h0).1
      rw [if_pos h0]
      have e33 : zu (zu σ 5 (cX A p) (nI (cN A p))) 3 2 (nI (cB A p)) 3 3 = 0 := by rw [zu_i (by omega), zu_q (by omega), hf]
      have hD' : DR (upN D (cX A p) (cN A p)) 5 (zu (zu σ 5 (cX A p) (nI (cN A p))) 3 2 (nI (cB A p))) := hD.up hx.1 (zu_q (by omega))
      unfold f_X6_length
      rw [if_pos e33, Option.bind_some, zu_q (show (1 : Nat) ≠ 3 by omega), zu_q (show (1 : Nat) ≠ 5 by omega), ht.1, zu_p]
      by_cases h5 : cB A p < A 15 0
      · rw [ile_f (by omega) (by omega) (by omega), prs_n h0 h5, g_lt_e, nI_1]
        simp only [g_lt_e, nI_1]
        obtain ⟨τ, t1, t2, t3, t4⟩ := ih (cB A p + 1) (upN D (cX A p) (cN A p)) (zu (zu (zu σ 5 (cX A p) (nI (cN A p))) 3 2 (nI (cB A p))) 3 2 (nI (cB A p + 1))) (k + 1) M (by omega) (by omega) (by omega) (by omega) (ht.cg rfl rfl (by rw [zu_q (by omega), zu_q (by omega), zu_q (by omega)]) (by rw [zu_q (by omega), zu_q (by omega), zu_q (by omega)])) (fun i hi => by rw [zu_q (by omega)]; exact hD' i hi) zu_p (by rw [zu_i (by omega)]; exact e33)
        refine ⟨τ, t1, t2, t3, fun q q3 q5 => ?_⟩
        rw [t4 q q3 q5, zu_q q3, zu_q q3, zu_q q5]
      · rw [ile_t (by omega) (by omega) (by omega), prs_e h0 h5]
        exact ⟨_, rfl, by rw [e33]; rfl, hD', fun q q3 q5 => by rw [zu_q q3, zu_q q5]⟩
    · rw [if_neg h0, zu_p, if_neg (by rw [k_0, n_eq (by omega) (by omega)]; exact h0), prs_f h0]
      exact ⟨_, rfl, zu_p, fun i hi => by rw [zu_q (by omega)]; exact hD i hi, fun q q3 q5 => zu_q q3⟩
theorem d_copyIn (hN : 200 ≤ N) : f_X3_copy_s1_5 N σ = some (fl σ 5 (zTb 1) 11) := by
  unfold f_X3_copy_s1_5 L_X3_copy_s1_5_2
  have key := lq2_seq (B := B_X3_copy_s1_5_2 N (fun y4 s5 => some s5)) (fun k => nI k) (fun k => fl σ 5 (zTb 1) k) (some (fl σ 5 (zTb 1) 11)) 11 ?_ ?_ N (by omega)
  · rw [fl_0] at key
    exact key
  · intro k hk rc
    unfold B_X3_copy_s1_5_2
    rw [k_11, ile_f (by omega) (by omega) (by omega), g_rd_in hk (by omega), g_wr_in hk (by omega), fl_s, g_lt_e, nI_1]
  · intro rc
    rfl
theorem d_copyOut (hN : 200 ≤ N) : f_X3_copy_5_4 N σ = some (fl σ 4 (σ 5) 11) := by
  unfold f_X3_copy_5_4 L_X3_copy_5_4_2
  have key := lq2_seq (B := B_X3_copy_5_4_2 N (fun y4 s5 => some s5)) (fun k => nI k) (fun k => fl σ 4 (σ 5) k) (some (fl σ 4 (σ 5) 11)) 11 ?_ ?_ N (by omega)
  · rw [fl_0] at key
    exact key
  · intro k hk rc
    unfold B_X3_copy_5_4_2
    rw [k_11, ile_f (by omega) (by omega) (by omega), fl_q (show (5 : Nat) ≠ 4 by omega), g_rd_in hk (by omega), g_wr_in hk (by omega), fl_s, g_lt_e, nI_1]
  · intro rc
    rfl
theorem d_read (hN : 200 ≤ N) (ht : RDt A σ) (hw : WFt A) : ∃ τ, f_X3_read N σ = some (nI (prs A (A 15 0 + 1) 0 atF).1, τ) ∧ (∀ q, q ≠ 3 → q ≠ 5 → q ≠ 4 → τ q = σ q) ∧ ((prs A (A 15 0 + 1) 0 atF).1 = 0 → ∀ k, k < 11 → τ 4 k = nI ((prs A (A 15 0 + 1) 0 atF).2 k)) ∧ ((prs A (A 15 0 + 1) 0 atF).1 ≠ 0 → τ 4 = σ 4) := by
  have ht80 := hw.1
  unfold f_X3_read L_X3_read_27
  rw [d_copyIn hN, Option.bind_some, g_lt_e, g_lt_e]
  obtain ⟨τ, t1, t2, t3, t4⟩ := d_readLoop hN hw (fun s10 => if (s10 3 3) = (0 : Int32) then ((f_X3_copy_5_4 N s10).bind (fun s11 => some ((s11 3 3), s11))) else (some ((s10 3 3), s10))) (A 15 0 + 1) 0 atF (zu (zu (fl σ 5 (zTb 1) 11) 3 2 0) 3 3 0) 0 N (by omega) (by omega) (by omega) (by omega) (ht.cg rfl rfl (by rw [zu_q (by omega), zu_q (by omega), fl_q (by omega)]) (by rw [zu_q (by omega), zu_q (by omega), fl_q (by omega)])) (fun i hi => by rw [zu_q (by omega), zu_q (by omega), fl_p hi, zT1 i hi]) (by rw [zu_i (by omega), zu_p]; rfl) zu_p
  have hle := prs_le A ht80 (A 15 0 + 1) 0 atF (by omega)
  have t4' : ∀ q, q ≠ 3 → q ≠ 5 → τ q = σ q := fun q q3 q5 => by rw [t4 q q3 q5, zu_q q3, zu_q q3, fl_q q5]
  by_cases h0 : (prs A (A 15 0 + 1) 0 atF).1 = 0
  · refine ⟨fl τ 4 (τ 5) 11, ?_, fun q q3 q5 q4 => by rw [fl_q q4, t4' q q3 q5], fun _ k hk => ?_, fun h => absurd h0 h⟩
    · refine Eq.trans t1 ?_
      rw [t2, h0, if_pos nI_0, d_copyOut hN, Option.bind_some, fl_q (by omega), t2, h0]
    · rw [fl_p hk]; exact t3 k hk
  · refine ⟨τ, ?_, fun q q3 q5 _ => t4' q q3 q5, fun h => absurd h h0, fun _ => t4' 4 (by omega) (by omega)⟩
    refine Eq.trans t1 ?_
    rw [t2, if_neg (by rw [k_0, n_eq (by omega) (by omega)]; exact h0)]
theorem D_rules (hN : 200 ≤ N) (h : RD A σ) (hw : WF A) (x : Int32) : ∃ τ, f_X7_rules N σ x = some (anRules A x, τ) ∧ RD (nxRules A x) τ := by
  have ht := hw.2.2.2.2.1
  unfold f_X7_rules anRules nxRules
  have out : ∀ y : Int32, (y < 0 ∨ nI (A 15 0) < y) → f_X6_holds N σ y = some 0 := by
    intro y hy
    unfold f_X6_holds
    rw [h.1.1, d_isWithin]
    rcases hy with hy | hy
    · rw [decide_eq_false (p := (0 : Int32) ≤ y) (Int32.not_le.mpr hy)]; rfl
    · rw [decide_eq_false (p := y ≤ nI (A 15 0)) (Int32.not_le.mpr hy), Bool.and_false]; rfl
  rcases ix_cases x (show 81 < 2147483648 by omega) with ⟨n, hn, rfl, en⟩ | ⟨ho, en⟩
  · rw [en]
    dsimp only
    by_cases hnt : n ≤ A 15 0
    · rw [if_pos hnt, if_pos hnt, d_holds h.1 hw.2.2.2.2 (by omega), Option.bind_some, decide_eq_true hnt, if_neg (by decide), d_keep h.1 hw.2.2.2.2 hnt, Option.bind_some]
      have h' := RD_tape h hnt
      have hw' := WF_tape hw (show n ≤ 80 by omega)
      obtain ⟨τ, t1, t2, t3, t4⟩ := d_read hN h'.1 hw'.2.2.2.2
      rw [au_p] at t1 t3 t4
      have ht' : RDt (au A 15 0 n) τ := h'.1.cg rfl rfl (t2 1 (by omega) (by omega) (by omega)) (t2 2 (by omega) (by omega) (by omega))
      rw [t1, g_b2_e, k_0, d_keep ht' hw'.2.2.2.2 (Nat.zero_le _), Option.bind_some]
      refine ⟨_, rfl, ?_⟩
      by_cases h0 : (prs (au A 15 0 n) (n + 1) 0 atF).1 = 0
      · rw [if_pos h0]
        refine RD_rl h zu_p (fun k hk => by rw [zu_q (by omega)]; exact t3 h0 k hk) (fun p p1 p3 p4 p5 => ?_)
        rw [zu_q p1, t2 p p3 p5 p4, zu_q p1]
      · rw [if_neg h0]
        have h2 := RD_tape h (Nat.zero_le _)
        refine h2.eq (fun p hp => ?_)
        have p3 : p ≠ 3 := fun e => by rw [e] at hp; cases hp
        have p5 : p ≠ 5 := fun e => by rw [e] at hp; cases hp
        by_cases p1 : p = 1
        · subst p1
          funext i
          rw [zu_e, zu_e]
          by_cases hi : i = 1
          · rw [if_pos ⟨rfl, hi⟩, if_pos ⟨rfl, hi⟩]
          · rw [if_neg (fun e => hi e.2), if_neg (fun e => hi e.2), t2 1 (by omega) (by omega) (by omega), zu_i hi]
        · rw [zu_q p1, zu_q p1]
          by_cases p4 : p = 4
          · rw [p4, t4 h0, zu_q (by omega)]
          · rw [t2 p p3 p5 p4, zu_q p1]
    · rw [if_neg hnt, if_neg hnt, out _ (Or.inr ((nI_ltI (by omega) (by omega)).mpr (by omega))), Option.bind_some, if_pos rfl]
      exact ⟨σ, rfl, h⟩
  · rw [en, out x (by
      rcases ho with ho | ho
      · exact Or.inl ho
      · refine Or.inr ?_
        rw [Int32.le_iff_toInt_le, nI_toInt (by omega)] at ho
        rw [Int32.lt_iff_toInt_lt, nI_toInt (by omega)]
        omega), Option.bind_some, if_pos rfl]
    exact ⟨σ, rfl, h⟩
end RulesD
