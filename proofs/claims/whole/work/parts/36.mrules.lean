/-! ===== rules and rule in the reference ===== -/
def ltr (a0 : Int32) : Int32 := if a0 = 98 then 4 else if a0 = 99 then 10 else if a0 = 100 then 6 else if a0 = 102 then 2 else if a0 = 108 then 7 else if a0 = 112 then 0 else if a0 = 113 then 1 else if a0 = 114 then 5 else if a0 = 115 then 8 else if a0 = 116 then 3 else if a0 = 118 then 9 else -1
def lI (x : Int32) : Int32 := match lix x with
  | some k => nI k
  | none => -1
theorem ltr_no {x : Int32} (h : lix x = none) : ltr x = -1 := by
  have hn : ∀ k, k < 11 → zTb 0 k ≠ x := by
    intro k hk he
    rcases find_cases (fun k => decide (zTb 0 k = x)) 11 with ⟨h1, h2⟩ | ⟨e, h3, h4, h5, h6⟩
    · have := h2 k hk
      simp [he] at this
    · unfold lix at h
      rw [h6] at h
      cases h
  have c0 := hn 0 (by omega); have c1 := hn 1 (by omega); have c2 := hn 2 (by omega); have c3 := hn 3 (by omega); have c4 := hn 4 (by omega); have c5 := hn 5 (by omega)
  have c6 := hn 6 (by omega); have c7 := hn 7 (by omega); have c8 := hn 8 (by omega); have c9 := hn 9 (by omega); have c10 := hn 10 (by omega)
  unfold ltr
  rw [if_neg (fun e => c4 (by rw [e]; rfl)), if_neg (fun e => c10 (by rw [e]; rfl)), if_neg (fun e => c6 (by rw [e]; rfl)), if_neg (fun e => c2 (by rw [e]; rfl)), if_neg (fun e => c7 (by rw [e]; rfl)), if_neg (fun e => c0 (by rw [e]; rfl)), if_neg (fun e => c1 (by rw [e]; rfl)), if_neg (fun e => c5 (by rw [e]; rfl)), if_neg (fun e => c8 (by rw [e]; rfl)), if_neg (fun e => c3 (by rw [e]; rfl)), if_neg (fun e => c9 (by rw [e]; rfl))]
theorem ltr_lI (x : Int32) : ltr x = lI x := by
  unfold lI
  cases h : lix x with
  | none => exact ltr_no h
  | some k =>
    have hk := lix_lt h
    have hx : zTb 0 k = x := by
      unfold lix at h
      have := List.find?_some h
      simpa using this
    rw [← hx]
    exact (by decide : ∀ k, k < 11 → ltr (zTb 0 k) = nI k) k hk
theorem ltr8 : ∀ b, b < 256 → ltr (sb8 b) = ltr (nI b) := by decide +kernel
theorem dig8 : ∀ b, b < 256 → (if sb8 b < 48 then (0 : Int32) else if 57 < sb8 b then 0 else 1) = zb (decide (48 ≤ b) && decide (b ≤ 57)) := by decide +kernel
theorem semi8 : ∀ b, b < 256 → (sb8 b = 59) = (b = 59) := by
  intro b hb
  apply propext
  constructor
  · intro h
    exact (by decide +kernel : ∀ b, b < 256 → sb8 b = 59 → b = 59) b hb h
  · intro h
    rw [h]; rfl
def cbe (k v : Nat) : Bool := decide (rlo k ≤ v) && decide (v ≤ rhi k)
section MRules
variable {N : Nat} {τ : ZS} {A : AS}
theorem m_letterOf (x : Int32) : f_X8_letterOf N τ x = some (lI x) := by
  rw [← ltr_lI]
  unfold f_X8_letterOf ltr
  repeat' split
  all_goals rfl
theorem M_rule (h : RM A τ) (x : Int32) : f_X8_rule N τ x = some (anRule A x) := by
  unfold f_X8_rule anRule
  rw [m_letterOf, Option.bind_some]
  unfold lI
  cases e : lix x with
  | none => rfl
  | some k =>
    have hk := lix_lt e
    dsimp only
    rw [if_neg (by rw [n_m1 (by omega)]; exact id), g_rd_in hk (by omega), h.2.1 k hk]
theorem m_canBe {k v : Nat} (hk : k < 11) (hv : v ≤ 9999) : f_X8_canBe N τ (nI k) (nI v) = some (zb (cbe k v)) := by
  unfold f_X8_canBe cbe
  rw [k_5, k_7, k_8, k_9, k_10, k_1, k_3, k_12, k_2]
  rcases (by omega : k = 5 ∨ k = 7 ∨ k = 8 ∨ k = 9 ∨ k = 10 ∨ (k ≠ 5 ∧ k ≠ 7 ∧ k ≠ 8 ∧ k ≠ 9 ∧ k ≠ 10)) with rfl | rfl | rfl | rfl | rfl | ⟨h1, h2, h3, h4, h5⟩
  · rw [if_pos rfl]
    show (if nI v < nI 1 then _ else if nI 3 < nI v then _ else _) = some (zb (decide (1 ≤ v) && decide (v ≤ 3)))
    by_cases a : v < 1
    · rw [ilt_t (by omega) (by omega) a, decide_eq_false (by omega)]; rfl
    · rw [ilt_f (by omega) (by omega) a, decide_eq_true (by omega)]
      by_cases b : 3 < v
      · rw [ilt_t (by omega) (by omega) b, decide_eq_false (by omega)]; rfl
      · rw [ilt_f (by omega) (by omega) b, decide_eq_true (by omega)]; rfl
  · rw [ieq_f (by omega) (by omega) (by omega), if_pos rfl]
    show (if nI v < nI 1 then _ else if nI 12 < nI v then _ else _) = some (zb (decide (1 ≤ v) && decide (v ≤ 12)))
    by_cases a : v < 1
    · rw [ilt_t (by omega) (by omega) a, decide_eq_false (by omega)]; rfl
    · rw [ilt_f (by omega) (by omega) a, decide_eq_true (by omega)]
      by_cases b : 12 < v
      · rw [ilt_t (by omega) (by omega) b, decide_eq_false (by omega)]; rfl
      · rw [ilt_f (by omega) (by omega) b, decide_eq_true (by omega)]; rfl
  · rw [ieq_f (by omega) (by omega) (by omega), ieq_f (by omega) (by omega) (by omega), if_pos rfl]
    show (if nI v < nI 1 then _ else if nI 12 < nI v then _ else _) = some (zb (decide (1 ≤ v) && decide (v ≤ 12)))
    by_cases a : v < 1
    · rw [ilt_t (by omega) (by omega) a, decide_eq_false (by omega)]; rfl
    · rw [ilt_f (by omega) (by omega) a, decide_eq_true (by omega)]
      by_cases b : 12 < v
      · rw [ilt_t (by omega) (by omega) b, decide_eq_false (by omega)]; rfl
      · rw [ilt_f (by omega) (by omega) b, decide_eq_true (by omega)]; rfl
  · rw [ieq_f (by omega) (by omega) (by omega), ieq_f (by omega) (by omega) (by omega), ieq_f (by omega) (by omega) (by omega), if_pos rfl]
    show (if nI 2 < nI v then _ else _) = some (zb (decide (0 ≤ v) && decide (v ≤ 2)))
    rw [decide_eq_true (Nat.zero_le v)]
    by_cases b : 2 < v
    · rw [ilt_t (by omega) (by omega) b, decide_eq_false (by omega)]; rfl
    · rw [ilt_f (by omega) (by omega) b, decide_eq_true (by omega)]; rfl
  · rw [ieq_f (by omega) (by omega) (by omega), ieq_f (by omega) (by omega) (by omega), ieq_f (by omega) (by omega) (by omega), ieq_f (by omega) (by omega) (by omega), if_pos rfl]
    show (if nI 1 < nI v then _ else _) = some (zb (decide (0 ≤ v) && decide (v ≤ 1)))
    rw [decide_eq_true (Nat.zero_le v)]
    by_cases b : 1 < v
    · rw [ilt_t (by omega) (by omega) b, decide_eq_false (by omega)]; rfl
    · rw [ilt_f (by omega) (by omega) b, decide_eq_true (by omega)]; rfl
  · rw [ieq_f (by omega) (by omega) h1, ieq_f (by omega) (by omega) h2, ieq_f (by omega) (by omega) h3, ieq_f (by omega) (by omega) h4, ieq_f (by omega) (by omega) h5]
    have e := (by decide : ∀ k, k < 11 → (k ≠ 5 ∧ k ≠ 7 ∧ k ≠ 8 ∧ k ≠ 9 ∧ k ≠ 10) → rlo k = 0 ∧ rhi k = 9999) k hk ⟨h1, h2, h3, h4, h5⟩
    rw [e.1, e.2, decide_eq_true (Nat.zero_le v), decide_eq_true hv]; rfl
theorem m_isDigit (h1 : ∀ i, i < A 15 0 → τ 1 i = sb8 (A 16 i)) (hw : WFt A) {i : Nat} (hi : i < 1000) : f_X8_isDigit N τ (nI i) (nI (A 15 0)) = some (zb (dg A i)) := by
  have ht := hw.1
  unfold f_X8_isDigit dg
  by_cases hn : i < A 15 0
  · rw [ile_f (by omega) (by omega) (by omega), g_rd_in (by omega) (by omega), g_rd_in (by omega) (by omega), h1 i hn, decide_eq_true hn, Bool.true_and, ← dig8 _ (hw.2 i)]
    repeat' split
    all_goals rfl
  · rw [ile_t (by omega) (by omega) (by omega), decide_eq_false hn, Bool.false_and]; rfl
theorem m_digits (hN : 200 ≤ N) (h1 : ∀ i, i < A 15 0 → τ 1 i = sb8 (A 16 i)) (hw : WFt A) {f : Nat} (hf : f < 500) {x : Int32} (K : Int32 → Int32 → Option (Int32 × ZS)) : L_X8_parse_56 N τ (nI (A 15 0)) x (nI f) K N (nI f) (0 : Int32) = if 4 < nd A f then some (nI (300 + (f + 4)), τ) else K (nI (f + nd A f)) (nI (nm A f (nd A f))) := by
  have ht := hw.1
  have hs := nd_spec A f
  unfold L_X8_parse_56
  have step : ∀ k, k < nd A f → k < 4 → ∀ rc, B_X8_parse_56 N τ (nI (A 15 0)) x (nI f) K rc (nI (f + k)) (nI (nm A f k)) = rc (nI (f + (k + 1))) (nI (nm A f (k + 1))) := by
    intro k hk hk4 rc
    have hg := dg_iff.mp (hs.2.1 k hk)
    unfold B_X8_parse_56
    rw [m_isDigit h1 hw (by omega), hs.2.1 k hk, Option.bind_some, if_neg (by decide), k_4, nI_add, ieq_f (by omega) (by omega) (by omega), g_rd_in (by omega) (by omega), h1 _ hg.1, sb8_lo _ (by omega), k_10, pk_mul, nI_add, k_48, pk_sub (by omega), g_lt_e, g_lt_e, nI_1, show 10 * nm A f k + A 16 (f + k) - 48 = nm A f (k + 1) by show _ = 10 * nm A f k + (A 16 (f + k) - 48); omega]
    rfl
  by_cases h4 : 4 < nd A f
  · rw [if_pos h4]
    refine lq2_seq (B := B_X8_parse_56 N τ (nI (A 15 0)) x (nI f) K) (fun k => nI (f + k)) (fun k => nI (nm A f k)) _ 4 (fun k hk rc => step k (by omega) hk rc) (fun rc => ?_) N (by omega)
    unfold B_X8_parse_56
    have hg := dg_iff.mp (hs.2.1 4 h4)
    rw [m_isDigit h1 hw (by omega), hs.2.1 4 h4, Option.bind_some, if_neg (by decide), k_4, nI_add, if_pos rfl, k_300, nI_add]
  · rw [if_neg h4]
    refine lq2_seq (B := B_X8_parse_56 N τ (nI (A 15 0)) x (nI f) K) (fun k => nI (f + k)) (fun k => nI (nm A f k)) _ (nd A f) (fun k hk rc => step k hk (by omega) rc) (fun rc => ?_) N (by omega)
    unfold B_X8_parse_56
    rw [m_isDigit h1 hw (by omega), hs.2.2 (by omega), Option.bind_some, if_pos zb_f]
theorem m_parseLoop (hN : 200 ≤ N) (hw : WFt A) (K : Int32 → ZS → Option (Int32 × ZS)) : ∀ m p D τ M, A 15 0 < p + m → p ≤ A 15 0 → A 15 0 + 1 < p + M → (∀ i, i < A 15 0 → τ 1 i = sb8 (A 16 i)) → DR D 3 τ → ∃ ρ, lq2 (B_X8_parse_2 N (nI (A 15 0)) K) M (nI p) τ = some (nI (prs A m p D).1, ρ) ∧ ((prs A m p D).1 = 0 → DR (prs A m p D).2 3 ρ) ∧ (∀ q, q ≠ 3 → ρ q = τ q) := by
  intro m
  induction m with
  | zero => intro p D τ M h1 h2; omega
  | succ m ih =>
    intro p D τ M h1 h2 hM hb hD
    have ht80 := hw.1
    have hs := nd_spec A (p + 1)
    have hc := cN_lt A p
    obtain ⟨M, rfl⟩ : ∃ z, M = z + 1 := ⟨M - 1, by omega⟩
    show ∃ ρ, B_X8_parse_2 N (nI (A 15 0)) K (lq2 (B_X8_parse_2 N (nI (A 15 0)) K) M) (nI p) τ = _ ∧ _
    unfold B_X8_parse_2
    by_cases hp : p < A 15 0
    · have hbp := hw.2 p
      rw [ile_f (by omega) (by omega) (by omega), g_rd_in (by omega) (by omega), hb p hp, m_letterOf, Option.bind_some, ← ltr_lI, ltr8 _ hbp, ltr_lI]
      have hlx : lx A p = lix (nI (A 16 p)) := by unfold lx; rw [if_pos hp]
      by_cases g1 : lx A p = none
      · have hcf : cF A p = 100 + p := by unfold cF; rw [if_pos g1]
        rw [prs_f (by omega), hcf]
        have e : lI (nI (A 16 p)) = -1 := by unfold lI; rw [← hlx, g1]
        rw [e, if_pos rfl, k_100, nI_add]
        exact ⟨τ, rfl, fun h => absurd h (by omega), fun q _ => rfl⟩
      · have hx := cX_lt g1
        have e : lI (nI (A 16 p)) = nI (cX A p) := by unfold lI; rw [← hlx, hx.2]
        rw [e, if_neg (by rw [n_m1 (by omega)]; exact id), g_lt_e, nI_1, m_isDigit hb hw (by omega), Option.bind_some]
        by_cases g2 : nd A (p + 1) = 0
        · have hcf : cF A p = 200 + (p + 1) := by unfold cF; rw [if_neg g1, if_pos g2]
          have e0 := hs.2.2 (by omega)
          rw [g2, Nat.add_zero] at e0
          rw [prs_f (by omega), hcf, e0, if_pos zb_f, k_200, nI_add]
          exact ⟨τ, rfl, fun h => absurd h (by omega), fun q _ => rfl⟩
        · have e0 := hs.2.1 0 (by omega)
          rw [Nat.add_zero] at e0
          rw [e0, if_neg (by decide), m_digits hN hb hw (by omega)]
          by_cases g3 : 4 < nd A (p + 1)
          · have hcf : cF A p = 300 + (p + 1 + 4) := by unfold cF; rw [if_neg g1, if_neg g2, if_pos g3]
            rw [prs_f (by omega), hcf, if_pos g3]
            exact ⟨τ, rfl, fun h => absurd h (by omega), fun q _ => rfl⟩
          · have hc4 : cN A p ≤ 9999 := by
              have q1 := nm_lt A (p + 1) (nd A (p + 1)) hs.2.1
              have q2 : 10 ^ nd A (p + 1) ≤ 10 ^ 4 := Nat.pow_le_pow_right (by omega) (by omega)
              unfold cN
              omega
            rw [if_neg g3, show nm A (p + 1) (nd A (p + 1)) = cN A p from rfl, show p + 1 + nd A (p + 1) = cB A p from rfl, m_canBe hx.1 hc4, Option.bind_some]
            by_cases g4 : rlo (cX A p) ≤ cN A p ∧ cN A p ≤ rhi (cX A p)
            · have e4 : cbe (cX A p) (cN A p) = true := by unfold cbe; rw [decide_eq_true g4.1, decide_eq_true g4.2]; rfl
              have hD' : DR (upN D (cX A p) (cN A p)) 3 (zu τ 3 (cX A p) (nI (cN A p))) := hD.up hx.1 rfl
              have hBl : cB A p ≤ A 15 0 := by
                have q1 := (dg_iff.mp (hs.2.1 (nd A (p + 1) - 1) (by omega))).1
                unfold cB
                omega
              rw [e4, if_neg (by decide), g_wr_in hx.1 (by omega)]
              by_cases g5 : cB A p < A 15 0
              · rw [ieq_f (by omega) (by omega) (by omega), g_rd_in (by omega) (by omega), zu_q (by omega), hb _ g5]
                simp only [semi8 _ (hw.2 (cB A p))]
                by_cases g6 : A 16 (cB A p) = 59
                · have hcf : cF A p = 0 := by unfold cF; rw [if_neg g1, if_neg g2, if_neg g3, if_neg (not_not_intro g4), if_neg (fun e => e.2 g6)]
                  rw [if_pos g6, prs_n hcf g5, g_lt_e, nI_1]
                  obtain ⟨g7, g8, g9⟩ := cF_p hcf
                  obtain ⟨ρ, r1, r2, r3⟩ := ih (cB A p + 1) (upN D (cX A p) (cN A p)) (zu τ 3 (cX A p) (nI (cN A p))) M (by omega) (by omega) (by omega) (fun i hi => by rw [zu_q (by omega)]; exact hb i hi) hD'
                  exact ⟨ρ, r1, r2, fun q hq => by rw [r3 q hq, zu_q hq]⟩
                · have hcf : cF A p = 400 + cB A p := by unfold cF; rw [if_neg g1, if_neg g2, if_neg g3, if_neg (not_not_intro g4), if_pos ⟨g5, g6⟩]
                  rw [if_neg g6, prs_f (by omega), hcf, show (400 : Int32) = nI 400 from rfl, nI_add]
                  exact ⟨_, rfl, fun h => absurd h (by omega), fun q hq => zu_q hq⟩
              · have hcf : cF A p = 0 := by unfold cF; rw [if_neg g1, if_neg g2, if_neg g3, if_neg (not_not_intro g4), if_neg (fun e => g5 e.1)]
                rw [ieq_t (by omega), prs_e hcf g5]
                exact ⟨_, rfl, fun _ => hD', fun q hq => zu_q hq⟩
            · have hcf : cF A p = 500 + (p + 1) := by unfold cF; rw [if_neg g1, if_neg g2, if_neg g3, if_pos g4]
              have e4 : cbe (cX A p) (cN A p) = false := by
                unfold cbe
                rw [Bool.and_eq_false_iff, decide_eq_false_iff_not, decide_eq_false_iff_not]
                omega
              rw [e4, if_pos zb_f, prs_f (by omega), hcf, k_500, nI_add]
              exact ⟨τ, rfl, fun h => absurd h (by omega), fun q _ => rfl⟩
    · have g1 : lx A p = none := by unfold lx; rw [if_neg hp]
      have hcf : cF A p = 100 + p := by unfold cF; rw [if_pos g1]
      rw [ile_t (by omega) (by omega) (by omega), if_pos rfl, prs_f (by omega), hcf, k_100, nI_add]
      exact ⟨τ, rfl, fun h => absurd h (by omega), fun q _ => rfl⟩
theorem m_begins : ∃ ρ, f_X8_begins_3 N τ = some ρ ∧ DR atF 3 ρ ∧ ∀ q, q ≠ 3 → ρ q = τ q := by
  unfold f_X8_begins_3
  rw [k_0, k_1, k_2, k_3, k_4, k_5, k_6, k_7, k_8, k_9, k_10, g_wr_in (by omega) (by omega), g_wr_in (by omega) (by omega), g_wr_in (by omega) (by omega), g_wr_in (by omega) (by omega), g_wr_in (by omega) (by omega), g_wr_in (by omega) (by omega), g_wr_in (by omega) (by omega), g_wr_in (by omega) (by omega), g_wr_in (by omega) (by omega), g_wr_in (by omega) (by omega), g_wr_in (by omega) (by omega)]
  refine ⟨_, rfl, fun i hi => ?_, fun q hq => ?_⟩
  · simp only [zu_e]
    rcases (by omega : i = 0 ∨ i = 1 ∨ i = 2 ∨ i = 3 ∨ i = 4 ∨ i = 5 ∨ i = 6 ∨ i = 7 ∨ i = 8 ∨ i = 9 ∨ i = 10) with rfl | rfl | rfl | rfl | rfl | rfl | rfl | rfl | rfl | rfl | rfl <;> rfl
  · rw [zu_q hq, zu_q hq, zu_q hq, zu_q hq, zu_q hq, zu_q hq, zu_q hq, zu_q hq, zu_q hq, zu_q hq, zu_q hq]
theorem m_copy (hN : 200 ≤ N) {v : Nat} (hv : v ≤ 1000) : L_X8_rules_34 N (nI v) (fun y8 s9 => some (nI v, s9)) N (0 : Int32) τ = some (nI v, if v = 0 then fl τ 2 (τ 3) 11 else τ) := by
  unfold L_X8_rules_34
  by_cases h0 : v = 0
  · subst h0
    rw [if_pos rfl]
    have key := lq2_seq (B := B_X8_rules_34 N (nI 0) (fun y8 s9 => some (nI 0, s9))) (fun k => nI k) (fun k => fl τ 2 (τ 3) k) (some (nI 0, fl τ 2 (τ 3) 11)) 11 ?_ ?_ N (by omega)
    · rw [fl_0] at key
      exact key
    · intro k hk rc
      unfold B_X8_rules_34
      rw [k_11, ile_f (by omega) (by omega) (by omega), if_pos nI_0, fl_q (show (3 : Nat) ≠ 2 by omega), g_rd_in hk (by omega), g_wr_in hk (by omega), fl_s, g_lt_e, nI_1]
    · intro rc
      rfl
  · rw [if_neg h0]
    exact lq2_seq (B := B_X8_rules_34 N (nI v) (fun y8 s9 => some (nI v, s9))) (fun _ => 0) (fun _ => τ) _ 0 (fun k hk => absurd hk (by omega)) (fun rc => by
      unfold B_X8_rules_34
      rw [if_neg (by decide), if_neg (by rw [k_0, n_eq (by omega) (by omega)]; exact h0)]) N (by omega)
theorem M_rules (hN : 200 ≤ N) (h : RM A τ) (hw : WF A) (x : Int32) : ∃ ρ, f_X8_rules N τ x = some (anRules A x, ρ) ∧ RM (nxRules A x) ρ := by
  have ht := hw.2.2.2.2.1
  unfold f_X8_rules anRules nxRules
  rw [h.1.1]
  rcases ix_cases x (show 81 < 2147483648 by omega) with ⟨n, hn, rfl, en⟩ | ⟨ho, en⟩
  · rw [en, if_neg (nI_pos (show n < 2147483648 by omega))]
    dsimp only
    by_cases hnt : n ≤ A 15 0
    · rw [if_pos hnt, if_pos hnt, ile_t (by omega) (by omega) hnt]
      obtain ⟨β, b1, b2, b3⟩ := m_begins (N := N) (τ := τ)
      have hw' := WF_tape hw (show n ≤ 80 by omega)
      obtain ⟨ρ, r1, r2, r3⟩ := m_parseLoop hN (A := au A 15 0 n) hw'.2.2.2.2 (fun _ _ => none) (n + 1) 0 atF β N (by rw [au_p]; omega) (by omega) (by rw [au_p]; omega) (fun i hi => by
        rw [au_p] at hi
        rw [b3 1 (by omega), h.1.2 i (by omega), au_q (show (16 : Nat) ≠ 15 by omega)]
        rfl) b2
      have hle := prs_le (au A 15 0 n) hw'.2.2.2.2.1 (n + 1) 0 atF (by omega)
      rw [au_p] at r1
      rw [b1, Option.bind_some]
      unfold f_X8_parse L_X8_parse_2
      rw [k_0, r1, g_b2_e, g_lt_e, ← k_0, m_copy hN hle]
      refine ⟨_, rfl, ?_⟩
      by_cases h0 : (prs (au A 15 0 n) (n + 1) 0 atF).1 = 0
      · rw [if_pos h0, if_pos h0]
        refine RM_rl h (by rw [fl_q (by omega), zu_p]) (by rw [fl_q (by omega), zu_i (by omega), r3 0 (by omega), b3 0 (by omega)]) (fun k hk => by rw [fl_p hk, zu_q (by omega)]; exact r2 h0 k hk) (fun p p0 p2 p3 => ?_)
        rw [fl_q p2, zu_q p0, r3 p p3, b3 p p3]
      · rw [if_neg h0, if_neg h0]
        have h2 := RM_tape h (Nat.zero_le _)
        refine h2.eq ⟨fun p hp p0 => ?_, ?_, ?_⟩
        · have p3 : p ≠ 3 := fun e => by rw [e] at hp; cases hp
          rw [zu_q p0, zu_q p0, r3 p p3, b3 p p3]
        · rw [zu_p, zu_p]; rfl
        · rw [zu_i (by omega), zu_i (by omega), r3 0 (by omega), b3 0 (by omega)]
    · rw [if_neg hnt, if_neg hnt, ile_f (by omega) (by omega) hnt]
      exact ⟨τ, rfl, h⟩
  · rw [en]
    by_cases h0 : x < 0
    · rw [if_pos h0]; exact ⟨τ, rfl, h⟩
    · rw [if_neg h0, if_neg (fun e => by
        have h1 := ho.resolve_left h0
        rw [Int32.le_iff_toInt_le, nI_toInt (by omega)] at h1 e
        omega)]
      exact ⟨τ, rfl, h⟩
end MRules
