/-! ===== the reference, leaf by leaf ===== -/
def sb8 (b : Nat) : Int32 := (nI b).toInt8.toInt32
theorem sb8_lo : ∀ b, b < 128 → sb8 b = nI b := by decide +kernel
theorem sb8_hi : ∀ b, b < 256 → 128 ≤ b → sb8 b < 0 := by decide +kernel
theorem nar_z : vp_nar .boolean (1 : Int32) = 1 := by decide
theorem zu_pc {ρ τ : ZS} {p i : Nat} {x : Int32} (h : ρ p = τ p) : zu ρ p i x p = zu τ p i x p := by
  funext k
  rw [zu_e, zu_e, h]
section MLeaf
variable {N : Nat} {τ : ZS} {A : AS}
theorem m_isJudge {j : Nat} (hj : j < 7) : f_X8_isJudge N τ (nI j) = some 1 := by
  unfold f_X8_isJudge
  rw [if_neg (nI_pos (by omega)), k_7, ile_f (by omega) (by omega) (by omega)]
theorem m_isJudge_out {x : Int32} (h : x < 0 ∨ nI 7 ≤ x) : f_X8_isJudge N τ x = some 0 := by
  unfold f_X8_isJudge
  by_cases h0 : x < 0
  · rw [if_pos h0]
  · rw [if_neg h0, k_7, if_pos (h.resolve_left h0)]
theorem m_isStage {j : Nat} (hj : j < 2) : f_X8_isStage N τ (nI j) = some 1 := by
  unfold f_X8_isStage
  rw [if_neg (nI_pos (by omega)), k_2, ile_f (by omega) (by omega) (by omega)]
theorem m_isStage_out {x : Int32} (h : x < 0 ∨ nI 2 ≤ x) : f_X8_isStage N τ x = some 0 := by
  unfold f_X8_isStage
  by_cases h0 : x < 0
  · rw [if_pos h0]
  · rw [if_neg h0, k_2, if_pos (h.resolve_left h0)]
theorem m_isBook (h : RMb A τ) (hw : WFb A) {b : Nat} (hb : b < 2147483648) : f_X8_isBook N τ (nI b) = some (zb (decide (b < A 0 0))) := by
  have := hw.1
  unfold f_X8_isBook
  rw [if_neg (nI_pos hb), h.1]
  by_cases hn : A 0 0 ≤ b
  · rw [ile_t (by omega) hb hn, decide_eq_false (by omega)]; rfl
  · rw [ile_f (by omega) hb hn, decide_eq_true (by omega)]; rfl
theorem m_isBook_out (h : RMb A τ) {x : Int32} (hx : x < 0 ∨ nI (A 0 0) ≤ x) : f_X8_isBook N τ x = some 0 := by
  unfold f_X8_isBook
  by_cases h0 : x < 0
  · rw [if_pos h0]
  · rw [if_neg h0, h.1, if_pos (hx.resolve_left h0)]
theorem m_isBook8 (h : RMb A τ) (hw : WFb A) {b : Nat} (hb : b < 256) : f_X8_isBook N τ (sb8 b) = some (zb (decide (b < A 0 0))) := by
  have := hw.1
  by_cases h1 : b < 128
  · rw [sb8_lo b h1, m_isBook h hw (by omega)]
  · rw [m_isBook_out h (Or.inl (sb8_hi b hb (by omega))), decide_eq_false (by omega)]; rfl
/-- a check 'less than 0 or above n' passed, or not -/
theorem m_le_out {x : Int32} {n : Nat} (h0 : ¬ x < 0) (h : x < 0 ∨ nI (n + 1) ≤ x) (hn : n < 1000000) : nI n < x := by
  have h2 := h.resolve_left h0
  rw [Int32.le_iff_toInt_le, nI_toInt (by omega)] at h2
  rw [Int32.lt_iff_toInt_lt, nI_toInt (by omega)]
  omega
end MLeaf
section MBallot
variable {N : Nat} {τ : ZS} {A : AS}
theorem RM_bl (h : RM A τ) (hq : WFq A) {x d n : Nat} (hx : x < 14) (hn : n < 13) (hd : d < 401) {τ' : ZS} (e0 : τ' 0 1 = 0) (e4 : τ' 0 4 = τ 0 4) (e14 : τ' 14 = zu τ 14 x 1 14) (e15 : τ' 15 = zu τ 15 x (nI d) 15) (e16 : τ' 16 = zu τ 16 x (nI n) 16) (e17 : τ' 17 = oT τ 17 (12 * x) (fun i => nI (A 16 i)) n 17) (ez : ∀ p, p ≠ 0 → p ≠ 14 → p ≠ 15 → p ≠ 16 → p ≠ 17 → p < 18 → p ≠ 3 → τ' p = τ p) : RM (blA A x d n) τ' := by
  obtain ⟨h1, h2, h3, h4, h5, h6⟩ := h
  have q : ∀ q, q ≠ 12 → q ≠ 13 → q ≠ 14 → q ≠ 15 → blA A x d n q = A q := fun q a b c d => blA_q a b c d
  have z : ∀ p, (p ≠ 0 ∧ p ≠ 14 ∧ p ≠ 15 ∧ p ≠ 16 ∧ p ≠ 17 ∧ p < 18 ∧ p ≠ 3) → τ' p = τ p := fun p g => ez p g.1 g.2.1 g.2.2.1 g.2.2.2.1 g.2.2.2.2.1 g.2.2.2.2.2.1 g.2.2.2.2.2.2
  refine ⟨?_, h2.cg (q 9 (by omega) (by omega) (by omega) (by omega)) (z 2 (by omega)), h3.cg (q 0 (by omega) (by omega) (by omega) (by omega)) (q 1 (by omega) (by omega) (by omega) (by omega)) (q 2 (by omega) (by omega) (by omega) (by omega)) (q 3 (by omega) (by omega) (by omega) (by omega)) (q 4 (by omega) (by omega) (by omega) (by omega)) (q 5 (by omega) (by omega) (by omega) (by omega)) e4 (z 4 (by omega)) (z 5 (by omega)) (z 6 (by omega)) (z 7 (by omega)) (z 8 (by omega)), h4.cg (q 0 (by omega) (by omega) (by omega) (by omega)) (q 6 (by omega) (by omega) (by omega) (by omega)) (q 7 (by omega) (by omega) (by omega) (by omega)) (q 8 (by omega) (by omega) (by omega) (by omega)) (z 9 (by omega)) (z 10 (by omega)) (z 11 (by omega)), ?_, h6.cg (q 11 (by omega) (by omega) (by omega) (by omega)) (z 13 (by omega))⟩
  · unfold RMt
    rw [blA_15, e0]
    exact ⟨rfl, fun i hi => absurd hi (by omega)⟩
  · unfold RMp
    rw [q 10 (by omega) (by omega) (by omega) (by omega), z 12 (by omega), e14, e15, e16, e17]
    refine ⟨h5.1, fun y hy => ?_⟩
    rw [blA_12, blA_13]
    by_cases he : y = x
    · subst he
      rw [if_pos rfl, if_pos rfl, if_neg (by omega), zu_p, zu_p, zu_p]
      refine ⟨rfl, fun _ => ⟨rfl, rfl, fun i hi => ?_⟩⟩
      rw [blA_14, oT_p, if_pos (by omega), if_pos (by omega)]
    · rw [if_neg he, if_neg he, zu_i he, zu_i he, zu_i he]
      obtain ⟨g1, g2⟩ := h5.2 y hy
      refine ⟨g1, fun hz => ⟨(g2 hz).1, (g2 hz).2.1, fun i hi => ?_⟩⟩
      have := (g2 hz).2.2 i hi
      have := (hq.2.2.1 y).2
      rw [blA_14, oT_p, if_neg (show ¬ (12 * x ≤ 12 * y + i ∧ 12 * y + i < 12 * x + n) by omega), if_neg (show ¬ (12 * x ≤ 12 * y + i ∧ 12 * y + i < 12 * x + n) by omega)]
      assumption
theorem RM.sc (h : RM A τ) {p b k : Nat} {g : Nat → Int32} (hp : scM p = true) : RM A (oT τ p b g k) := by
  have h0 : (0 : Nat) ≠ p := by intro e; subst e; cases hp
  refine h.eq ⟨fun q hq hq0 => oT_q (fun e => by rw [e, hp] at hq; cases hq), ?_, ?_⟩
  · rw [oT_q h0]
  · rw [oT_q h0]
theorem m_dup {ρ : ZS} (hN : 200 ≤ N) (hw : WF A) {a b c : Int32} {d e : Nat} (he : e < d) (hd : d < 13) (h18 : ∀ i, i < d → ρ 18 i = sb8 (A 16 i)) (hb : ∀ i, i < e + 1 → A 16 i < A 0 0) (K : Int32 → Option (Int32 × ZS)) : L_X8_ballot_114 N ρ a b c (nI d) (nI e) K N 0 = if fr1 A e = true then K (nI e) else some (0, ρ) := by
  have hnb := hw.1.1
  have hbe := hb e (by omega)
  unfold L_X8_ballot_114
  have rd : ∀ i, i < e + 1 → ρ 18 i = nI (A 16 i) := fun i hi => by
    have := hb i hi
    rw [h18 i (by omega), sb8_lo _ (by omega)]
  have step : ∀ k, k < e → A 16 k ≠ A 16 e → ∀ rc, B_X8_ballot_114 N ρ a b c (nI d) (nI e) K rc (nI k) = rc (nI (k + 1)) := by
    intro k hk hne rc
    have := hb k (by omega)
    unfold B_X8_ballot_114
    rw [ile_f (by omega) (by omega) (by omega), g_rd_in (by omega) (by omega), g_rd_in (by omega) (by omega), rd k (by omega), rd e (by omega), ieq_f (by omega) (by omega) hne, g_lt_e, nI_1]
  rcases find_cases (fun k => decide (A 16 k = A 16 e)) e with ⟨h1, h2⟩ | ⟨i, hi, h1, h2, h3⟩
  · rw [if_pos (fr1_iff.mpr ⟨hbe, fun k hk => by have := h2 k hk; simpa using this⟩)]
    exact lq1_seq (B := B_X8_ballot_114 N ρ a b c (nI d) (nI e) K) (fun k => nI k) (K (nI e)) e (fun k hk rc => step k hk (by have := h2 k hk; simpa using this) rc) (fun rc => by
      unfold B_X8_ballot_114
      rw [ile_t (by omega) (by omega) (by omega)]) N (by omega)
  · rw [if_neg (fun hf => (fr1_iff.mp hf).2 i hi (by simpa using h1))]
    refine lq1_seq (B := B_X8_ballot_114 N ρ a b c (nI d) (nI e) K) (fun k => nI k) (some (0, ρ)) i (fun k hk rc => step k (by omega) (by have := h2 k hk; simpa using this) rc) (fun rc => ?_) N (by omega)
    have := hb i (by omega)
    unfold B_X8_ballot_114
    rw [ile_f (by omega) (by omega) (by omega), g_rd_in (by omega) (by omega), g_rd_in (by omega) (by omega), rd i (by omega), rd e (by omega), ieq_t (by simpa using h1)]
theorem m_fair {ρ : ZS} (hN : 200 ≤ N) (h : RMb A ρ) (hw : WF A) {a b c : Int32} {n : Nat} (hn : n < 13) (h18 : ∀ i, i < n → ρ 18 i = sb8 (A 16 i)) (K : Int32 → Option (Int32 × ZS)) : L_X8_ballot_88 N ρ a b c (nI n) K N 0 = if far A n = true then K (nI n) else some (0, ρ) := by
  have hnb := hw.1.1
  unfold L_X8_ballot_88
  have step : ∀ k, k < n → (∀ i, i < k + 1 → fr1 A i = true) → ∀ rc, B_X8_ballot_88 N ρ a b c (nI n) K rc (nI k) = rc (nI (k + 1)) := by
    intro k hk hf rc
    have hby := hw.2.2.2.2.2 k
    unfold B_X8_ballot_88
    rw [ile_f (by omega) (by omega) (by omega), g_rd_in (by omega) (by omega), h18 k hk, m_isBook8 h hw.1 hby, Option.bind_some, decide_eq_true (fr1_iff.mp (hf k (by omega))).1, if_neg (by decide), m_dup hN hw hk hn h18 (fun i hi => (fr1_iff.mp (hf i hi)).1), if_pos (hf k (by omega)), g_lt_e, nI_1]
  rcases far_cases A n with ⟨h1, h2⟩ | ⟨e, he, h1, h2, h3⟩
  · rw [if_pos h1]
    exact lq1_seq (B := B_X8_ballot_88 N ρ a b c (nI n) K) (fun k => nI k) (K (nI n)) n (fun k hk rc => step k hk (fun i hi => h2 i (by omega)) rc) (fun rc => by
      unfold B_X8_ballot_88
      rw [ile_t (by omega) (by omega) (by omega)]) N (by omega)
  · rw [if_neg (by rw [h3]; decide)]
    refine lq1_seq (B := B_X8_ballot_88 N ρ a b c (nI n) K) (fun k => nI k) (some (0, ρ)) e (fun k hk rc => step k (by omega) (fun i hi => h2 i (by omega)) rc) (fun rc => ?_) N (by omega)
    have hby := hw.2.2.2.2.2 e
    unfold B_X8_ballot_88
    rw [ile_f (by omega) (by omega) (by omega), g_rd_in (by omega) (by omega), h18 e he, m_isBook8 h hw.1 hby, Option.bind_some]
    by_cases hb : A 16 e < A 0 0
    · rw [decide_eq_true hb, if_neg (by decide), m_dup hN hw he hn h18 (fun i hi => by
        by_cases hie : i = e
        · rw [hie]; exact hb
        · exact (fr1_iff.mp (h2 i (by omega))).1), if_neg (by rw [h1]; decide)]
    · rw [decide_eq_false hb, if_pos zb_f]
theorem M_ballot (hN : 200 ≤ N) (h : RM A τ) (hw : WF A) (x y z w : Int32) : ∃ ρ, f_X8_ballot N τ x y z w = some (anBallot A x y z w, ρ) ∧ RM (nxBallot A x y z w) ρ := by
  have ht := hw.2.2.2.2.1
  have hnb := hw.1.1
  unfold f_X8_ballot anBallot nxBallot
  rcases ix_cases x (show 7 < 2147483648 by omega) with ⟨j, hj, rfl, ej⟩ | ⟨ho, ej⟩
  · rw [m_isJudge hj, Option.bind_some, if_neg (by decide)]
    rcases ix_cases y (show 2 < 2147483648 by omega) with ⟨s, hs, rfl, es⟩ | ⟨ho, es⟩
    · rw [if_neg (nI_pos (show s < 2147483648 by omega)), k_2, ile_f (by omega) (by omega) (by omega)]
      rcases ix_cases z (show 401 < 2147483648 by omega) with ⟨d, hd, rfl, ed⟩ | ⟨ho, ed⟩
      · rw [if_neg (nI_pos (show d < 2147483648 by omega)), k_400, ilt_f (by omega) (by omega) (by omega)]
        rcases ix_cases w (show 13 < 2147483648 by omega) with ⟨n, hn, rfl, en⟩ | ⟨ho, en⟩
        · rw [if_neg (nI_pos (show n < 2147483648 by omega)), k_12, ilt_f (by omega) (by omega) (by omega), h.1.1, ej, es, ed, en]
          dsimp only
          by_cases hnt : n ≤ A 15 0
          · rw [ile_t (by omega) (by omega) hnt, if_pos hnt, if_pos hnt]
            unfold L_X8_ballot_53
            have key : ∀ K : Int32 → ZS → Option (Int32 × ZS), lq2 (B_X8_ballot_53 N (nI j) (nI s) (nI d) (nI n) K) N (0 : Int32) τ = K (nI n) (oT τ 18 0 (fun i => sb8 (A 16 i)) n) := by
              intro K
              have key := lq2_seq (B := B_X8_ballot_53 N (nI j) (nI s) (nI d) (nI n) K) (fun k => nI k) (fun k => oT τ 18 0 (fun i => sb8 (A 16 i)) k) (K (nI n) (oT τ 18 0 (fun i => sb8 (A 16 i)) n)) n ?_ ?_ N (by omega)
              · rw [oT_0] at key
                exact key
              · intro k hk rc
                unfold B_X8_ballot_53
                rw [ile_f (by omega) (by omega) (by omega), g_rd_in (by omega) (by omega), oT_q (by omega), h.1.2 k (by omega), g_wr_in (by omega) (by omega)]
                dsimp only [g_lt]
                have e := oT_s (σ := τ) (p := 18) (b := 0) (g := fun i => sb8 (A 16 i)) (k := k)
                rw [Nat.zero_add] at e
                rw [nI_1, ← e]
                rfl
              · intro rc
                unfold B_X8_ballot_53
                rw [ile_t (by omega) (by omega) (by omega)]
            rw [key, g_lt_e]
            have hr : RM (au A 15 0 0) (zu (oT τ 18 0 (fun i => sb8 (A 16 i)) n) 0 1 (nI 0)) := RM_tape (h.sc (p := 18) rfl) (Nat.zero_le _)
            have hrb : RMb A (zu (oT τ 18 0 (fun i => sb8 (A 16 i)) n) 0 1 0) := hr.2.2.1.cg (au_q (by omega)).symm (au_q (by omega)).symm (au_q (by omega)).symm (au_q (by omega)).symm (au_q (by omega)).symm (au_q (by omega)).symm rfl rfl rfl rfl rfl rfl
            have r18 : ∀ i, i < n → zu (oT τ 18 0 (fun i => sb8 (A 16 i)) n) 0 1 0 18 i = sb8 (A 16 i) := fun i hi => by
              rw [zu_q (by omega), oT_p, if_pos (by omega)]; rfl
            rw [m_fair hN hrb hw hn r18]
            rcases far_cases A n with ⟨h1, h2⟩ | ⟨e, he, h1, h2, h3⟩
            · rw [if_pos h1, if_pos h1, g_lt_e, pk_mul, nI_add, g_wr_in (by omega) (by omega), g_wr_in (by omega) (by omega), g_wr_in (by omega) (by omega), nar_z, h1]
              unfold L_X8_ballot_187
              have key2 := lq2_seq (B := B_X8_ballot_187 N (nI n) (nI (2 * j + s)) (fun y23 s24 => some ((1 : Int32), s24))) (fun k => nI k) (fun k => oT (zu (zu (zu (zu (oT τ 18 0 (fun i => sb8 (A 16 i)) n) 0 1 0) 14 (2 * j + s) 1) 15 (2 * j + s) (nI d)) 16 (2 * j + s) (nI n)) 17 (12 * (2 * j + s)) (fun i => nI (A 16 i)) k) (some (1, oT (zu (zu (zu (zu (oT τ 18 0 (fun i => sb8 (A 16 i)) n) 0 1 0) 14 (2 * j + s) 1) 15 (2 * j + s) (nI d)) 16 (2 * j + s) (nI n)) 17 (12 * (2 * j + s)) (fun i => nI (A 16 i)) n)) n ?_ ?_ N (by omega)
              · rw [oT_0] at key2
                refine ⟨_, key2, RM_bl h hw.2.2.2.1 (by omega) hn hd ?_ ?_ ?_ ?_ ?_ ?_ ?_⟩
                · rw [oT_q (by omega), zu_q (by omega), zu_q (by omega), zu_q (by omega), zu_p]
                · rw [oT_q (by omega), zu_q (by omega), zu_q (by omega), zu_q (by omega), zu_i (by omega), oT_q (by omega)]
                · rw [oT_q (by omega), zu_q (by omega), zu_q (by omega)]
                  exact zu_pc (by rw [zu_q (by omega), oT_q (by omega)])
                · rw [oT_q (by omega), zu_q (by omega)]
                  exact zu_pc (by rw [zu_q (by omega), zu_q (by omega), oT_q (by omega)])
                · rw [oT_q (by omega)]
                  exact zu_pc (by rw [zu_q (by omega), zu_q (by omega), zu_q (by omega), oT_q (by omega)])
                · funext i
                  rw [oT_p, oT_p, zu_q (by omega), zu_q (by omega), zu_q (by omega), zu_q (by omega), oT_q (by omega)]
                · intro p p0 p14 p15 p16 p17 p18 _
                  rw [oT_q p17, zu_q p16, zu_q p15, zu_q p14, zu_q p0, oT_q (by omega)]
              · intro k hk rc
                unfold B_X8_ballot_187
                have hbk := (fr1_iff.mp (h2 k hk)).1
                rw [ile_f (by omega) (by omega) (by omega), g_rd_in (by omega) (by omega), oT_q (by omega), zu_q (by omega), zu_q (by omega), zu_q (by omega), r18 k hk, sb8_lo _ (by omega), k_12, pk_mul, nI_add, g_wr_in (by omega) (by omega), oT_s]
                dsimp only [g_lt]
                rw [nI_1]
              · intro rc
                unfold B_X8_ballot_187
                rw [ile_t (by omega) (by omega) (by omega)]
            · rw [if_neg (by rw [h3]; decide), if_neg (by rw [h3]; decide), h3]
              exact ⟨_, rfl, hr⟩
          · rw [ile_f (by omega) (by omega) hnt, if_neg hnt, if_neg hnt]
            exact ⟨τ, rfl, h⟩
        · rw [ej, es, ed, en]
          by_cases h0 : w < 0
          · rw [if_pos h0]; exact ⟨τ, rfl, h⟩
          · rw [if_neg h0, k_12, if_pos (m_le_out h0 ho (by omega))]; exact ⟨τ, rfl, h⟩
      · rw [ej, es, ed]
        by_cases h0 : z < 0
        · rw [if_pos h0]; exact ⟨τ, rfl, h⟩
        · rw [if_neg h0, k_400, if_pos (m_le_out h0 ho (by omega))]; exact ⟨τ, rfl, h⟩
    · rw [ej, es]
      by_cases h0 : y < 0
      · rw [if_pos h0]; exact ⟨τ, rfl, h⟩
      · rw [if_neg h0, k_2, if_pos (ho.resolve_left h0)]; exact ⟨τ, rfl, h⟩
  · rw [m_isJudge_out ho, Option.bind_some, if_pos rfl, ej]
    exact ⟨τ, rfl, h⟩
end MBallot
