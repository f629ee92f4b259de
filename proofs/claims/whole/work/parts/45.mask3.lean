/-! ===== the reference's questions, answered out of the table ===== -/
section MAsk3
variable {N : Nat} {τ : ZS} {A : AS} {T : Nat → Bool} {g : Nat → Nat} {s : Nat}
theorem eqM_ord {ρ : ZS} (o4 : ∀ q, q ≠ 22 → q ≠ 23 → q ≠ 24 → q ≠ 25 → ρ q = τ q) : eqM τ ρ := ⟨fun p hp _ => o4 p (fun e => by rw [e] at hp; cases hp) (fun e => by rw [e] at hp; cases hp) (fun e => by rw [e] at hp; cases hp) (fun e => by rw [e] at hp; cases hp), by rw [o4 0 (by omega) (by omega) (by omega) (by omega)], by rw [o4 0 (by omega) (by omega) (by omega) (by omega)]⟩
theorem bkI_neg {S : Nat → Bool} {kf : Nat → Int} {n : Nat} {i : Int32} (h : i < 0) : bkI S kf n i = -1 := by
  unfold bkI
  rw [if_neg (fun x => Int32.not_le.mpr h x.1)]
theorem bkI_out {S : Nat → Bool} {kf : Nat → Int} {n : Nat} {i : Int32} (h : nI n ≤ i) : bkI S kf n i = -1 := by
  unfold bkI
  rw [if_neg (fun x => Int32.not_lt.mpr h x.2)]
theorem bkI_in {S : Nat → Bool} {kf : Nat → Int} {n k : Nat} (hn : n ≤ 24) (h : k < n) : bkI S kf n (nI k) = nI (pck S kf k) := by
  unfold bkI
  rw [if_pos ⟨nI_pos' (by omega), nI_lt h (by omega)⟩, n_cl (by omega)]
theorem m_bk {S : Nat → Bool} {kf : Nat → Int} {n len : Nat} {ρ : ZS} {P : Nat} (hn : n ≤ len) (hl : len ≤ 24) (ho : ∀ i, i < n → ρ P i = nI (pck S kf i)) {i : Int32} (hi : ¬ i < 0) : (if nI n ≤ i then (some ((-1 : Int32), ρ)) else (g_rd len (ρ P) i (fun v => some (v, ρ)))) = some (bkI S kf n i, ρ) := by
  rcases pk_ix i (show n < 2 ^ 31 by omega) with h1 | h1 | ⟨k, hk, rfl⟩
  · exact absurd h1 hi
  · rw [if_pos h1, bkI_out h1]
  · rw [ile_f (by omega) (by omega) (by omega), g_rd_in (by omega) (by omega), ho k hk, bkI_in (by omega) hk]
theorem m_counted (hN : 200 ≤ N) (h : RM A τ) (hw : WF A) (hs : s < 2) {k : Nat} (hk : k < 3) (i : Int32) : ∃ ρ, eqM τ ρ ∧ f_X8_counted N τ (nI s) (nI k) i = some (bkI (lsT A s) (kK A s (lsT A s) (cC A) k) (cnt (lsT A s) 24) i, ρ) := by
  have hc := cnt_le (lsT A s) 24
  unfold f_X8_counted
  rw [m_isStage hs, Option.bind_some, if_neg (by decide), if_neg (nI_pos (by omega)), k_2, ilt_f (by omega) (by omega) (by omega)]
  by_cases h0 : i < 0
  · rw [if_neg (Int32.not_le.mpr h0), bkI_neg h0]
    exact ⟨τ, eqM.rf, rfl⟩
  · rw [if_pos (Int32.not_lt.mp h0)]
    obtain ⟨τ1, a1, a2, a3⟩ := m_lists hN h hw hs
    obtain ⟨ρ, o1, o2, o3, o4⟩ := m_orders hN (h.eq a2) hw (PG_ls hw s) a3 hs hk
    have n29 : ρ 0 29 = nI (cnt (lsT A s) 24) := by rw [o4 0 (by omega) (by omega) (by omega) (by omega)]; exact a3.1
    refine ⟨ρ, a2.tr (eqM_ord o4), ?_⟩
    rw [a1, Option.bind_some, o1, Option.bind_some, n29]
    exact m_bk hc (Nat.le_refl _) o2 h0
theorem M_counted (hN : 200 ≤ N) (h : RM A τ) (hw : WF A) (x y i : Int32) : ∃ ρ, eqM τ ρ ∧ f_X8_counted N τ x y i = some (anCounted A x y i, ρ) := by
  unfold anCounted
  rcases ix_cases x (show 2 < 2147483648 by omega) with ⟨s, hs, rfl, es⟩ | ⟨ho, es⟩
  · rw [es]
    rcases ix_cases y (show 3 < 2147483648 by omega) with ⟨k, hk, rfl, ek⟩ | ⟨ho, ek⟩
    · rw [ek]
      exact m_counted hN h hw hs hk i
    · refine ⟨τ, eqM.rf, ?_⟩
      unfold f_X8_counted
      rw [ek, m_isStage hs, Option.bind_some, if_neg (by decide)]
      by_cases h0 : y < 0
      · rw [if_pos h0]
      · rw [if_neg h0, k_2, if_pos (m_le_out h0 ho (by omega))]
  · refine ⟨τ, eqM.rf, ?_⟩
    unfold f_X8_counted
    rw [es, m_isStage_out ho, Option.bind_some, if_pos rfl]
theorem M_worth (hN : 200 ≤ N) (h : RM A τ) (hw : WF A) (x y z : Int32) : ∃ ρ, eqM τ ρ ∧ f_X8_worth N τ x y z = some (anWorth A x y z, ρ) := by
  have hnb := hw.1.1
  unfold anWorth f_X8_worth
  rcases ix_cases x (show 2 < 2147483648 by omega) with ⟨s, hs, rfl, es⟩ | ⟨ho, es⟩
  · rw [es, m_isStage hs, Option.bind_some, if_neg (by decide)]
    rcases ix_cases y (show 3 < 2147483648 by omega) with ⟨k, hk, rfl, ek⟩ | ⟨ho, ek⟩
    · rw [ek, if_neg (nI_pos (by omega)), k_2, ilt_f (by omega) (by omega) (by omega)]
      rcases ix_cases z (show A 0 0 < 2147483648 by omega) with ⟨b, hb, rfl, eb⟩ | ⟨ho, eb⟩
      · rw [eb, m_isBook h.2.2.1 hw.1 (by omega), Option.bind_some, decide_eq_true hb, if_neg (by decide)]
        dsimp only
        obtain ⟨τ1, a1, a2, a3⟩ := m_lists hN h hw hs
        rw [a1, Option.bind_some, m_isListed hN (PG_ls hw s) a3 (by omega), Option.bind_some]
        by_cases e : lsT A s b = true
        · obtain ⟨ρ, o1, o2, o3, o4⟩ := m_orders hN (h.eq a2) hw (PG_ls hw s) a3 hs hk
          refine ⟨ρ, a2.tr (eqM_ord o4), ?_⟩
          rw [e, if_neg (by decide), o1, Option.bind_some, m_worthOf o3 (by omega) e hk, Option.bind_some, if_pos rfl]
          unfold off
          by_cases k1 : k = 1
          · rw [if_pos k1, if_pos k1, show (1000 : Int32) = iI 1000 by decide, iI_add]
          · rw [if_neg k1, if_neg k1, Int.add_zero]
        · have e' : lsT A s b = false := by simpa using e
          refine ⟨τ1, a2, ?_⟩
          rw [e', if_pos zb_f, if_neg (by decide)]
      · exact ⟨τ, eqM.rf, by rw [eb, m_isBook_out h.2.2.1 ho, Option.bind_some, if_pos rfl]⟩
    · refine ⟨τ, eqM.rf, ?_⟩
      rw [ek]
      by_cases h0 : y < 0
      · rw [if_pos h0]
      · rw [if_neg h0, k_2, if_pos (m_le_out h0 ho (by omega))]
  · exact ⟨τ, eqM.rf, by rw [es, m_isStage_out ho, Option.bind_some, if_pos rfl]⟩
/-! rings -/
theorem bts_lt (hg : PG A T g) {a b : Nat} (h : bts A s T a b = true) : a < A 0 0 ∧ b < A 0 0 ∧ a ≠ b := by
  have h' := h
  unfold bts at h
  simp only [Bool.and_eq_true, decide_eq_true_eq] at h
  refine ⟨hg.2.2.2 a h.1.1, hg.2.2.2 b h.1.2, fun e => ?_⟩
  rw [e, bts_self] at h'
  cases h'
def pkW (w a b c : Nat) : Int32 := nI (if w = 0 then a else if w = 1 then b else c)
theorem m_ring3 (hN : 200 ≤ N) (h : RM A τ) (hw : WF A) (hg : PG A T g) (hl : LSt τ T g) (hs : s < 2) {w a b : Nat} (hw3 : w < 3) (ha : a < A 0 0) (hb : b < A 0 0) (K : Option (Int32 × ZS)) : L_X8_paradox_48 N τ (nI s) (nI w) (nI a) (nI b) (fun _ => K) N 0 = match rg2 A s T a b with | none => K | some c => some (pkW w a b c, τ) := by
  have hnb := hw.1.1
  unfold L_X8_paradox_48
  have c1 : ∀ u v, (iI (lead A s T u v) ≤ 0) = ¬ (0 < lead A s T u v) := fun u v => by
    have hlb := lead_bd A s T u v 7 (by omega)
    have hlb1 : -100 ≤ lead A s T u v := hlb.1
    have hlb2 : lead A s T u v ≤ 100 := hlb.2
    rw [Int32.le_iff_toInt_le, iI_T (by omega) (by omega)]
    exact propext ⟨fun x => Int.not_lt.mpr x, fun x => Int.not_lt.mp x⟩
  have bd : ∀ c, c < A 0 0 → ∀ rc, B_X8_paradox_48 N τ (nI s) (nI w) (nI a) (nI b) (fun _ => K) rc (nI c) = if rg3 A s T a b c = true then some (pkW w a b c, τ) else rc (nI (c + 1)) := by
    intro c hc rc
    unfold B_X8_paradox_48
    rw [h.2.2.1.1, ile_f (by omega) (by omega) (by omega)]
    have no : ∀ {P : Prop} [Decidable P] {X : Option (Int32 × ZS)}, rg3 A s T a b c = false → (if rg3 A s T a b c = true then some (pkW w a b c, τ) else X) = X := fun hh => if_neg (by rw [hh]; decide)
    by_cases e1 : a = b
    · rw [ieq_t e1, if_neg (fun hh => by unfold rg3 at hh; simp only [Bool.and_eq_true] at hh; exact (bts_lt hg hh.1).2.2 e1), g_lt_e, nI_1]
    rw [ieq_f (by omega) (by omega) e1]
    by_cases e2 : b = c
    · rw [ieq_t e2, if_neg (fun hh => by unfold rg3 at hh; simp only [Bool.and_eq_true] at hh; exact (bts_lt hg hh.2.1).2.2 e2), g_lt_e, nI_1]
    rw [ieq_f (by omega) (by omega) e2]
    by_cases e3 : a = c
    · rw [ieq_t e3, if_neg (fun hh => by unfold rg3 at hh; simp only [Bool.and_eq_true] at hh; exact (bts_lt hg hh.2.2).2.2 e3.symm), g_lt_e, nI_1]
    rw [ieq_f (by omega) (by omega) e3, m_isListed hN hg hl (by omega), Option.bind_some, m_isListed hN hg hl (by omega), Option.bind_some, m_isListed hN hg hl (by omega), Option.bind_some, m_more hN h hw hg hl hs (by omega) (by omega), Option.bind_some, m_more hN h hw hg hl hs (by omega) (by omega), Option.bind_some, m_more hN h hw hg hl hs (by omega) (by omega), Option.bind_some]
    simp only [c1]
    unfold rg3 bts
    cases ta : T a
    · rw [if_pos zb_f, g_lt_e, nI_1, if_neg (by simp)]
    cases tb : T b
    · rw [if_neg (show ¬ (zb true = 0) by decide), if_pos zb_f, g_lt_e, nI_1, if_neg (by simp)]
    cases tc : T c
    · rw [if_neg (show ¬ (zb true = 0) by decide), if_neg (show ¬ (zb true = 0) by decide), if_pos zb_f, g_lt_e, nI_1, if_neg (by simp)]
    rw [if_neg (show ¬ (zb true = 0) by decide), if_neg (show ¬ (zb true = 0) by decide), if_neg (show ¬ (zb true = 0) by decide)]
    by_cases l1 : 0 < lead A s T a b
    · rw [if_neg (not_not_intro l1)]
      by_cases l2 : 0 < lead A s T b c
      · rw [if_neg (not_not_intro l2)]
        by_cases l3 : 0 < lead A s T c a
        · rw [if_neg (not_not_intro l3), if_pos (show _ = true by simp [l1, l2, l3])]
          unfold pkW
          rcases (by omega : w = 0 ∨ w = 1 ∨ w = 2) with rfl | rfl | rfl <;> rfl
        · rw [if_pos l3, g_lt_e, nI_1, if_neg (by simp [l3])]
      · rw [if_pos l2, g_lt_e, nI_1, if_neg (by simp [l2])]
    · rw [if_pos l1, g_lt_e, nI_1, if_neg (by simp [l1])]
  unfold rg2
  rcases find_cases (rg3 A s T a b) 24 with ⟨hf, hall⟩ | ⟨e, he, hq, hbf, hf⟩
  · rw [hf]
    refine lq1_seq (B := B_X8_paradox_48 N τ (nI s) (nI w) (nI a) (nI b) (fun _ => K)) (fun k => nI k) _ (A 0 0) (fun k hk rc => by rw [bd k hk, if_neg (by rw [hall k (by omega)]; decide)]) (fun rc => ?_) N (by omega)
    unfold B_X8_paradox_48
    rw [h.2.2.1.1, ile_t (by omega) (by omega) (by omega)]
  · rw [hf]
    have hen : e < A 0 0 := by
      have hq' := hq
      unfold rg3 at hq'
      simp only [Bool.and_eq_true] at hq'
      exact (bts_lt hg hq'.2.1).2.1
    exact lq1_seq (B := B_X8_paradox_48 N τ (nI s) (nI w) (nI a) (nI b) (fun _ => K)) (fun k => nI k) _ e (fun k hk rc => by rw [bd k (by omega), if_neg (by rw [hbf k hk]; decide)]) (fun rc => by rw [bd e hen, if_pos hq]) N (by omega)
theorem m_ring2 (hN : 200 ≤ N) (h : RM A τ) (hw : WF A) (hg : PG A T g) (hl : LSt τ T g) (hs : s < 2) {w a : Nat} (hw3 : w < 3) (ha : a < A 0 0) (K : Option (Int32 × ZS)) : L_X8_paradox_36 N τ (nI s) (nI w) (nI a) (fun _ => K) N 0 = match rg1 A s T a with | none => K | some b => match rg2 A s T a b with | none => K | some c => some (pkW w a b c, τ) := by
  have hnb := hw.1.1
  unfold L_X8_paradox_36
  have bd : ∀ b, b < A 0 0 → ∀ rc : Int32 → Option (Int32 × ZS), B_X8_paradox_36 N τ (nI s) (nI w) (nI a) (fun _ => K) rc (nI b) = match rg2 A s T a b with | none => rc (nI (b + 1)) | some c => some (pkW w a b c, τ) := by
    intro b hb rc
    unfold B_X8_paradox_36
    rw [h.2.2.1.1, ile_f (by omega) (by omega) (by omega)]
    have e := m_ring3 hN h hw hg hl hs hw3 ha hb (rc (nI (b + 1)))
    simp only [g_lt_e, nI_1]
    exact e
  unfold rg1
  rcases find_cases (fun b => (rg2 A s T a b).isSome) 24 with ⟨hf, hall⟩ | ⟨e, he, hq, hbf, hf⟩
  · rw [hf]
    refine lq1_seq (B := B_X8_paradox_36 N τ (nI s) (nI w) (nI a) (fun _ => K)) (fun k => nI k) _ (A 0 0) (fun k hk rc => ?_) (fun rc => ?_) N (by omega)
    · rw [bd k hk]
      have := hall k (by omega)
      cases e : rg2 A s T a k with
      | none => rfl
      | some c => rw [e] at this; cases this
    · unfold B_X8_paradox_36
      rw [h.2.2.1.1, ile_t (by omega) (by omega) (by omega)]
  · rw [hf]
    have hen : e < A 0 0 := by
      cases e2 : rg2 A s T a e with
      | none => rw [e2] at hq; cases hq
      | some c =>
        unfold rg2 at e2
        have := List.find?_some e2
        unfold rg3 at this
        simp only [Bool.and_eq_true] at this
        exact (bts_lt hg this.1).2.1
    refine lq1_seq (B := B_X8_paradox_36 N τ (nI s) (nI w) (nI a) (fun _ => K)) (fun k => nI k) _ e (fun k hk rc => ?_) (fun rc => ?_) N (by omega)
    · rw [bd k (by omega)]
      have := hbf k hk
      cases e : rg2 A s T a k with
      | none => rfl
      | some c => rw [e] at this; cases this
    · rw [bd e hen]
      cases e2 : rg2 A s T a e with
      | none => rw [e2] at hq; cases hq
      | some c => simp only [e2]
theorem m_ring1 (hN : 200 ≤ N) (h : RM A τ) (hw : WF A) (hg : PG A T g) (hl : LSt τ T g) (hs : s < 2) {w : Nat} (hw3 : w < 3) : L_X8_paradox_25 N τ (nI s) (nI w) (fun _ => some ((-1 : Int32), τ)) N 0 = some (ringI A s T w, τ) := by
  have hnb := hw.1.1
  unfold L_X8_paradox_25
  have bd : ∀ a, a < A 0 0 → ∀ rc : Int32 → Option (Int32 × ZS), B_X8_paradox_25 N τ (nI s) (nI w) (fun _ => some ((-1 : Int32), τ)) rc (nI a) = match rg1 A s T a with | none => rc (nI (a + 1)) | some b => match rg2 A s T a b with | none => rc (nI (a + 1)) | some c => some (pkW w a b c, τ) := by
    intro a ha rc
    unfold B_X8_paradox_25
    rw [h.2.2.1.1, ile_f (by omega) (by omega) (by omega)]
    have e := m_ring2 hN h hw hg hl hs hw3 ha (rc (nI (a + 1)))
    simp only [g_lt_e, nI_1]
    exact e
  unfold ringI rg0
  rcases find_cases (fun a => (rg1 A s T a).isSome) 24 with ⟨hf, hall⟩ | ⟨e, he, hq, hbf, hf⟩
  · rw [hf]
    refine lq1_seq (B := B_X8_paradox_25 N τ (nI s) (nI w) (fun _ => some ((-1 : Int32), τ))) (fun k => nI k) _ (A 0 0) (fun k hk rc => ?_) (fun rc => ?_) N (by omega)
    · rw [bd k hk]
      have := hall k (by omega)
      cases e : rg1 A s T k with
      | none => rfl
      | some c => rw [e] at this; cases this
    · unfold B_X8_paradox_25
      rw [h.2.2.1.1, ile_t (by omega) (by omega) (by omega)]
  · rw [hf]
    cases e1 : rg1 A s T e with
    | none => rw [e1] at hq; cases hq
    | some b =>
      have hb2 : (rg2 A s T e b).isSome = true := by
        unfold rg1 at e1
        have := List.find?_some e1
        exact this
      cases e2 : rg2 A s T e b with
      | none => rw [e2] at hb2; cases hb2
      | some c =>
        have hen : e < A 0 0 := by
          unfold rg2 at e2
          have := List.find?_some e2
          unfold rg3 at this
          simp only [Bool.and_eq_true] at this
          exact (bts_lt hg this.1).1
        refine lq1_seq (B := B_X8_paradox_25 N τ (nI s) (nI w) (fun _ => some ((-1 : Int32), τ))) (fun k => nI k) _ e (fun k hk rc => ?_) (fun rc => ?_) N (by omega)
        · rw [bd k (by omega)]
          have := hbf k hk
          cases e : rg1 A s T k with
          | none => rfl
          | some c => rw [e] at this; cases this
        · rw [bd e hen]
          simp only [e1, e2]
          rfl
theorem M_paradox (hN : 200 ≤ N) (h : RM A τ) (hw : WF A) (x y : Int32) : ∃ ρ, eqM τ ρ ∧ f_X8_paradox N τ x y = some (anParadox A x y, ρ) := by
  unfold anParadox f_X8_paradox
  rcases ix_cases x (show 2 < 2147483648 by omega) with ⟨s, hs, rfl, es⟩ | ⟨ho, es⟩
  · rw [es, m_isStage hs, Option.bind_some, if_neg (by decide)]
    rcases ix_cases y (show 3 < 2147483648 by omega) with ⟨w, hw3, rfl, ew⟩ | ⟨ho, ew⟩
    · obtain ⟨τ1, a1, a2, a3⟩ := m_lists hN h hw hs
      refine ⟨τ1, a2, ?_⟩
      rw [ew, if_neg (nI_pos (by omega)), k_2, ile_t (by omega) (by omega) (by omega), a1, Option.bind_some, m_ring1 hN (h.eq a2) hw (PG_ls hw s) a3 hs hw3]
    · refine ⟨τ, eqM.rf, ?_⟩
      rw [ew]
      by_cases h0 : y < 0
      · rw [if_pos h0]
      · rw [if_neg h0, k_2, if_neg (Int32.not_le.mpr (m_le_out h0 ho (by omega)))]
  · exact ⟨τ, eqM.rf, by rw [es, m_isStage_out ho, Option.bind_some, if_pos rfl]⟩
/-! told -/
def tlI (A : AS) (l : Nat) (i : Int32) : Int32 := if l = 0 then bkI (cand A) (kL A) (nL0 A) i else if l = 1 then bkI (LT A) (kS0 A) (nS0 A) i else bkI (ST A) (kS1 A) (min 1 (cnt (ST A) 24)) i
theorem m_listed (hN : 200 ≤ N) (h : RM A τ) (hw : WF A) {l : Nat} (hl : l < 3) {i : Int32} (hi : ¬ i < 0) : ∃ ρ, eqM τ ρ ∧ f_X8_listed N τ (nI l) i = some (tlI A l i, ρ) := by
  have h9' : A 9 9 ≤ 2 := (hw.2.2.1 9 (by omega)).2
  have hcc := cnt_le (cand A) 24
  have hcL := cnt_le (LT A) 24
  have hcS := cnt_le (ST A) 24
  have h8' : A 9 8 ≤ 12 := (hw.2.2.1 8 (by omega)).2
  unfold f_X8_listed tlI
  rcases (by omega : l = 0 ∨ l = 1 ∨ l = 2) with rfl | rfl | rfl
  · obtain ⟨τ1, a1, a2, a3, a4, a5⟩ := m_makesLong hN h hw
    refine ⟨τ1, a2, ?_⟩
    rw [if_pos nI_0, a1, Option.bind_some, a3.1, if_pos rfl]
    exact m_bk (by unfold nL0; omega) (Nat.le_refl _) (fun i hi => a3.2 i (by unfold nL0 at hi; omega)) hi
  · obtain ⟨τ1, a1, a2, a3⟩ := m_makesShort hN h hw
    refine ⟨τ1, a2, ?_⟩
    rw [if_neg (show ¬ (nI 1 = 0) by decide), if_pos (show nI 1 = 1 from rfl), a1, Option.bind_some, a3.1, if_neg (show ¬ ((1 : Nat) = 0) by decide), if_pos (show (1 : Nat) = 1 from rfl)]
    exact m_bk (len := 12) (by unfold nS0; omega) (by omega) a3.2 hi
  · rw [if_neg (show ¬ (nI 2 = 0) by decide), if_neg (show ¬ (nI 2 = 1) by decide), if_neg (show ¬ ((2 : Nat) = 0) by decide), if_neg (show ¬ ((2 : Nat) = 1) by decide)]
    by_cases i0 : i = 0
    · subst i0
      obtain ⟨ρ, r1, r2⟩ := m_counted hN h hw (show 1 < 2 by omega) (show A 9 9 < 3 by omega) 0
      refine ⟨ρ, r1, ?_⟩
      rw [if_pos rfl, k_9, g_rd_in (by omega) (by omega), h.2.1 9 (by omega), show f_X8_counted N τ (1 : Int32) (nI (A 9 9)) 0 = _ from r2, g_b2_e]
      congr 2
      show bkI (ST A) (kS1 A) (cnt (ST A) 24) 0 = _
      by_cases c : cnt (ST A) 24 = 0
      · rw [c]; rfl
      · rw [Nat.min_eq_left (by omega), k_0, bkI_in hcS (by omega), bkI_in (by omega) (by omega)]
    · refine ⟨τ, eqM.rf, ?_⟩
      rw [if_neg i0]
      obtain ⟨m, hm, rfl⟩ := nI_of hi
      have hm0 : m ≠ 0 := fun e => i0 (by rw [e]; rfl)
      rw [bkI_out ((nI_leI (by omega) hm).mpr (by omega))]
theorem tlI_neg {l : Nat} {i : Int32} (h : i < 0) : tlI A l i = -1 := by
  unfold tlI
  rw [bkI_neg h, bkI_neg h, bkI_neg h]
  split
  · rfl
  · split <;> rfl
theorem M_told (hN : 200 ≤ N) (h : RM A τ) (hw : WF A) (x y z i : Int32) : ∃ ρ, eqM τ ρ ∧ f_X8_told N τ x y z i = some (anTold A x y z i, ρ) := by
  unfold anTold
  rcases ix_cases x (show 8 < 2147483648 by omega) with ⟨w, hw8, rfl, ex⟩ | ⟨ho, ex⟩
  · rcases ix_cases y (show 401 < 2147483648 by omega) with ⟨d, hd, rfl, ey⟩ | ⟨ho, ey⟩
    · rcases ix_cases z (show 3 < 2147483648 by omega) with ⟨l, hl, rfl, ez⟩ | ⟨ho, ez⟩
      · have hlk := hw.2.2.2.1.2.1 l
        rw [ex, ey, ez]
        dsimp only
        have yes : ∃ ρ, eqM τ ρ ∧ (if (1 : Int32) = (0 : Int32) then (some ((-2 : Int32), τ)) else (if (0 : Int32) ≤ i then (g_b2 (f_X8_listed N τ (nI l) i) (fun v2 s1 => some (v2, s1))) else (some ((-1 : Int32), τ)))) = some (tlI A l i, ρ) := by
          rw [if_neg (by decide)]
          by_cases h0 : i < 0
          · rw [if_neg (Int32.not_le.mpr h0), tlI_neg h0]
            exact ⟨τ, eqM.rf, rfl⟩
          · obtain ⟨ρ, r1, r2⟩ := m_listed hN h hw hl h0
            refine ⟨ρ, r1, ?_⟩
            rw [if_pos (Int32.not_lt.mp h0), r2, g_b2_e]
        have e1 : f_X8_told N τ (nI w) (nI d) (nI l) i = if w = 0 ∨ (l = 0 ∧ w < 7) ∨ A 11 l ≤ d then (if (1 : Int32) = (0 : Int32) then (some ((-2 : Int32), τ)) else (if (0 : Int32) ≤ i then (g_b2 (f_X8_listed N τ (nI l) i) (fun v2 s1 => some (v2, s1))) else (some ((-1 : Int32), τ)))) else some (-2, τ) := by
          unfold f_X8_told
          rw [if_neg (nI_pos (show w < 2147483648 by omega)), k_7, ilt_f (by omega) (by omega) (by omega), if_neg (nI_pos (show d < 2147483648 by omega)), k_400, ilt_f (by omega) (by omega) (by omega), if_neg (nI_pos (show l < 2147483648 by omega)), show (2 : Int32) = nI 2 from rfl, ile_t (by omega) (by omega) (by omega)]
          by_cases w0 : w = 0
          · rw [if_pos (show nI w = 0 by rw [w0]; rfl), if_pos (Or.inl w0)]
          · rw [if_neg (show ¬ (nI w = 0) by rw [k_0, n_eq (by omega) (by omega)]; exact w0)]
            by_cases w7 : 7 ≤ w
            · rw [ile_t (by omega) (by omega) w7, g_rd_in hl (by omega), h.2.2.2.2.2 l hl]
              by_cases c : d < A 11 l
              · rw [ilt_t (by omega) (by omega) c, if_pos rfl, if_neg (by omega)]
              · rw [ilt_f (by omega) (by omega) c, if_pos (show w = 0 ∨ (l = 0 ∧ w < 7) ∨ A 11 l ≤ d by omega)]
            · rw [ile_f (by omega) (by omega) w7]
              by_cases l0 : l = 0
              · rw [if_pos (show nI l = 0 by rw [l0]; rfl), if_pos (show w = 0 ∨ (l = 0 ∧ w < 7) ∨ A 11 l ≤ d by omega)]
              · rw [if_neg (show ¬ (nI l = 0) by rw [k_0, n_eq (by omega) (by omega)]; exact l0), g_rd_in hl (by omega), h.2.2.2.2.2 l hl]
                by_cases c : d < A 11 l
                · rw [ilt_t (by omega) (by omega) c, if_pos rfl, if_neg (by omega)]
                · rw [ilt_f (by omega) (by omega) c, if_pos (show w = 0 ∨ (l = 0 ∧ w < 7) ∨ A 11 l ≤ d by omega)]
        rw [e1]
        by_cases c : w = 0 ∨ (l = 0 ∧ w < 7) ∨ A 11 l ≤ d
        · rw [if_pos c, if_pos c]
          exact yes
        · rw [if_neg c, if_neg c]
          exact ⟨τ, eqM.rf, rfl⟩
      · refine ⟨τ, eqM.rf, ?_⟩
        unfold f_X8_told
        rw [ex, ey, ez, if_neg (nI_pos (show w < 2147483648 by omega)), k_7, ilt_f (by omega) (by omega) (by omega), if_neg (nI_pos (show d < 2147483648 by omega)), k_400, ilt_f (by omega) (by omega) (by omega)]
        by_cases h0 : z < 0
        · rw [if_pos h0]
        · rw [if_neg h0, show (2 : Int32) = nI 2 from rfl, if_neg (Int32.not_le.mpr (m_le_out h0 ho (by omega)))]
    · refine ⟨τ, eqM.rf, ?_⟩
      unfold f_X8_told
      rw [ex, ey, if_neg (nI_pos (show w < 2147483648 by omega)), k_7, ilt_f (by omega) (by omega) (by omega)]
      by_cases h0 : y < 0
      · rw [if_pos h0]
      · rw [if_neg h0, k_400, if_pos (m_le_out h0 ho (by omega))]
  · refine ⟨τ, eqM.rf, ?_⟩
    unfold f_X8_told
    rw [ex]
    by_cases h0 : x < 0
    · rw [if_pos h0]
    · rw [if_neg h0, k_7, if_pos (m_le_out h0 ho (by omega))]
/-! look, count -/
theorem ix_sub {w : Int32} {c : Nat} (hc : c < 1000) : (∃ j, j < 7 ∧ w = nI (c + j) ∧ w - nI c = nI j ∧ ix (w - nI c) 7 = some j) ∨ (ix (w - nI c) 7 = none ∧ ∀ j, j < 7 → w ≠ nI (c + j)) := by
  rcases ix_cases (w - nI c) (show 7 < 2147483648 by omega) with ⟨j, hj, e1, e2⟩ | ⟨ho, e2⟩
  · left
    refine ⟨j, hj, ?_, e1, e2⟩
    rw [Nat.add_comm, ← nI_add, ← e1, Int32.sub_add_cancel]
  · right
    refine ⟨e2, fun j hj e => ?_⟩
    rw [e, pk_sub (by omega), show c + j - c = j by omega, ix_in hj (by omega)] at e2
    cases e2
theorem M_look (hN : 200 ≤ N) (h : RM A τ) (hw : WF A) (x w : Int32) : f_X8_look N τ x w = some (anLook A x w) := by
  have hnb := hw.1.1
  unfold f_X8_look anLook
  rcases ix_cases x (show A 0 0 < 2147483648 by omega) with ⟨b, hb, rfl, eb⟩ | ⟨ho, eb⟩
  · rw [eb, m_isBook h.2.2.1 hw.1 (by omega), Option.bind_some, decide_eq_true hb, if_neg (by decide)]
    dsimp only
    have ne : ∀ m k : Nat, m < 100 → k < 100 → m ≠ k → ¬ (nI m = nI k) := fun m k a b c e => c ((nI_eq (by omega) (by omega)).mp e)
    have z4 := (h.2.2.1.2.2 b (by omega)).1
    have z5 := (h.2.2.1.2.2 b (by omega)).2
    have y4 := (hw.1.2.2.1 b).1
    have y5 := (hw.1.2.2.1 b).2
    rw [k_10, k_20]
    rcases ix_sub (w := w) (c := 10) (by omega) with ⟨j, hj, e1, e2, e3⟩ | ⟨e3, n1⟩
    · rw [e3]
      dsimp only
      rw [e1, k_0, k_1, k_2, k_3, k_4, k_5, k_6, k_7, if_neg (ne (10 + j) 0 (by omega) (by omega) (by omega)), if_neg (ne (10 + j) 1 (by omega) (by omega) (by omega)), if_neg (ne (10 + j) 2 (by omega) (by omega) (by omega)), if_neg (ne (10 + j) 3 (by omega) (by omega) (by omega)), if_neg (ne (10 + j) 4 (by omega) (by omega) (by omega)), if_neg (ne (10 + j) 5 (by omega) (by omega) (by omega)), if_neg (ne (10 + j) 6 (by omega) (by omega) (by omega)), if_neg (ne (10 + j) 7 (by omega) (by omega) (by omega)), ilt_f (by omega) (by omega) (by omega), show (17 : Int32) = nI 17 from rfl, ile_f (by omega) (by omega) (by omega), pk_sub (by omega), show 10 + j - 10 = j by omega, k_24, pk_mul, nI_add, g_rd_in (by omega) (by omega), m_mk h hj hb]
      rfl
    · rw [e3]
      dsimp only
      rcases ix_sub (w := w) (c := 20) (by omega) with ⟨j, hj, f1, f2, f3⟩ | ⟨f3, n2⟩
      · rw [f3]
        dsimp only
        rw [f1, k_0, k_1, k_2, k_3, k_4, k_5, k_6, k_7, if_neg (ne (20 + j) 0 (by omega) (by omega) (by omega)), if_neg (ne (20 + j) 1 (by omega) (by omega) (by omega)), if_neg (ne (20 + j) 2 (by omega) (by omega) (by omega)), if_neg (ne (20 + j) 3 (by omega) (by omega) (by omega)), if_neg (ne (20 + j) 4 (by omega) (by omega) (by omega)), if_neg (ne (20 + j) 5 (by omega) (by omega) (by omega)), if_neg (ne (20 + j) 6 (by omega) (by omega) (by omega)), if_neg (ne (20 + j) 7 (by omega) (by omega) (by omega)), ilt_f (by omega) (by omega) (by omega), show (17 : Int32) = nI 17 from rfl, ile_t (by omega) (by omega) (by omega), ilt_f (by omega) (by omega) (by omega), show (27 : Int32) = nI 27 from rfl, ile_f (by omega) (by omega) (by omega), pk_sub (by omega), show 20 + j - 20 = j by omega, m_isBarred h hw hj hb, Option.bind_some]
        cases brd A j b <;> rfl
      · rw [f3]
        dsimp only
        by_cases h0 : w = 0
        · rw [if_pos h0, if_pos h0, m_isIn hN h hw hb, Option.bind_some]
          cases isin A b <;> rfl
        rw [if_neg h0, if_neg h0]
        by_cases h1 : w = 1
        · rw [if_pos h1, if_pos h1, m_marks hN h hw hb, Option.bind_some]
        rw [if_neg h1, if_neg h1]
        by_cases h2 : w = 2
        · rw [if_pos h2, if_pos h2, m_sum hN h hw hb, Option.bind_some]
        rw [if_neg h2, if_neg h2]
        by_cases h3 : w = 3
        · rw [if_pos h3, if_pos h3, g_rd_in (by omega) (by omega), z4]
          rcases (by omega : A 4 b = 0 ∨ A 4 b = 1) with e | e <;> rw [e] <;> rfl
        rw [if_neg h3, if_neg h3]
        by_cases h4 : w = 4
        · rw [if_pos h4, if_pos h4, g_rd_in (by omega) (by omega), z5]
          rcases (by omega : A 5 b = 0 ∨ A 5 b = 1) with e | e <;> rw [e] <;> rfl
        rw [if_neg h4, if_neg h4]
        by_cases h5 : w = 5
        · rw [if_pos h5, if_pos h5, g_rd_in (by omega) (by omega), (h.2.2.1.2.1 b hb).1]
        rw [if_neg h5, if_neg h5]
        by_cases h6 : w = 6
        · rw [if_pos h6, if_pos h6, g_rd_in (by omega) (by omega), (h.2.2.1.2.1 b hb).2.1]
        rw [if_neg h6, if_neg h6]
        by_cases h7 : w = 7
        · rw [if_pos h7, if_pos h7, g_rd_in (by omega) (by omega), (h.2.2.1.2.1 b hb).2.2]
        rw [if_neg h7, if_neg h7]
        by_cases c10 : w < nI 10
        · rw [if_pos c10, if_pos (Int32.lt_trans c10 (by decide))]
        · rw [if_neg c10]
          have hnn : ¬ w < 0 := fun e => c10 (Int32.lt_trans e (by decide))
          obtain ⟨m, hm, rfl⟩ := nI_of hnn
          have m10 : 10 ≤ m := by
            by_cases q : 10 ≤ m
            · exact q
            · exact absurd ((nI_ltI hm (by omega)).mpr (by omega)) c10
          have m17 : 17 ≤ m := by
            by_cases q : 17 ≤ m
            · exact q
            · exact absurd (by rw [show 10 + (m - 10) = m by omega]) (n1 (m - 10) (by omega))
          rw [show (17 : Int32) = nI 17 from rfl, ile_t (by omega) hm m17]
          by_cases m20 : m < 20
          · rw [ilt_t hm (by omega) m20]
          · rw [ilt_f hm (by omega) m20]
            have m27 : 27 ≤ m := by
              by_cases q : 27 ≤ m
              · exact q
              · exact absurd (by rw [show 20 + (m - 20) = m by omega]) (n2 (m - 20) (by omega))
            rw [show (27 : Int32) = nI 27 from rfl, ile_t (by omega) hm m27]
  · rw [eb, m_isBook_out h.2.2.1 ho, Option.bind_some, if_pos rfl]
theorem m_ballots (hN : 200 ≤ N) (h : RM A τ) (hw : WF A) (hs : s < 2) {x : Int32} (hx : x - 10 = nI s) (K : Int32 → Option (Int32 × ZS)) : L_X8_count_134 N τ x (fun y _ => K y) N 0 0 = K (nI (cnt (cts A s) 7)) := by
  unfold L_X8_count_134
  refine lq2_seq (B := B_X8_count_134 N τ x (fun y _ => K y)) (fun k => nI (cnt (cts A s) k)) (fun k => nI k) _ 7 ?_ ?_ N (by omega)
  · intro k hk rc
    unfold B_X8_count_134
    rw [k_7, ile_f (by omega) (by omega) (by omega), hx, m_counts h hw hk hs, Option.bind_some]
    cases e : cts A s k
    · rw [if_pos zb_f, g_lt_e, g_lt_e, nI_z, nI_1, cnt_f e]
    · rw [if_neg (by decide), g_lt_e, g_lt_e, nI_1, nI_1, cnt_t e]
  · intro rc
    rfl
theorem M_count (hN : 200 ≤ N) (h : RM A τ) (hw : WF A) (w : Int32) : ∃ ρ, eqM τ ρ ∧ f_X8_count N τ w = some (anCount A w, ρ) := by
  have hnb := hw.1.1
  unfold f_X8_count anCount
  by_cases h0 : w = 0
  · exact ⟨τ, eqM.rf, by rw [if_pos h0, if_pos h0, h.2.2.1.1]⟩
  rw [if_neg h0, if_neg h0]
  by_cases h1 : w = 1
  · refine ⟨τ, eqM.rf, ?_⟩
    rw [if_pos h1, if_pos h1, cnt_to (p := inb A) (n := A 0 0) hnb (fun k hk _ => inb_nb hk)]
    unfold L_X8_count_71
    refine lq2_seq (B := B_X8_count_71 N τ (fun y6 y7 => some (y6, τ))) (fun k => nI (cnt (inb A) k)) (fun k => nI k) _ (A 0 0) ?_ ?_ N (by omega)
    · intro k hk rc
      unfold B_X8_count_71
      rw [h.2.2.1.1, ile_f (by omega) (by omega) (by omega), m_isIn hN h hw hk, Option.bind_some, ← inb_in hk]
      cases e : inb A k
      · rw [if_pos zb_f, g_lt_e, g_lt_e, nI_z, nI_1, cnt_f e]
      · rw [if_neg (by decide), g_lt_e, g_lt_e, nI_1, nI_1, cnt_t e]
    · intro rc
      unfold B_X8_count_71
      rw [h.2.2.1.1, ile_t (by omega) (by omega) (by omega)]
  rw [if_neg h1, if_neg h1]
  by_cases h2 : w = 2
  · exact ⟨τ, eqM.rf, by rw [if_pos h2, if_pos h2, m_thirds hN h hw, Option.bind_some, if_pos rfl]⟩
  rw [if_neg h2, if_neg h2]
  by_cases h3 : w = 3
  · obtain ⟨τ1, a1, a2, a3, -, -⟩ := m_makesLong hN h hw
    exact ⟨τ1, a2, by rw [if_pos h3, if_pos h3, a1, Option.bind_some, a3.1]⟩
  rw [if_neg h3, if_neg h3]
  by_cases h4 : w = 4
  · obtain ⟨τ1, a1, a2, a3⟩ := m_makesShort hN h hw
    exact ⟨τ1, a2, by rw [if_pos h4, if_pos h4, a1, Option.bind_some, a3.1]⟩
  rw [if_neg h4, if_neg h4]
  by_cases h5 : w = 5
  · exact ⟨τ, eqM.rf, by rw [if_pos h5, if_pos h5, h.1.1]⟩
  rw [if_neg h5, if_neg h5]
  by_cases h10 : w = 10
  · exact ⟨τ, eqM.rf, by rw [if_pos h10, if_pos h10]; exact m_ballots hN h hw (show 0 < 2 by omega) (by rw [h10]; decide) (fun y => some (y, τ))⟩
  rw [if_neg h10, if_neg h10]
  by_cases h11 : w = 11
  · exact ⟨τ, eqM.rf, by rw [if_pos h11, if_pos h11]; exact m_ballots hN h hw (show 1 < 2 by omega) (by rw [h11]; decide) (fun y => some (y, τ))⟩
  rw [if_neg h11, if_neg h11]
  exact ⟨τ, eqM.rf, rfl⟩
end MAsk3
