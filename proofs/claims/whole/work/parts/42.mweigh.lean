/-! ===== the reference: points and pairs ===== -/
theorem sumI_s (f : Nat → Int) (k : Nat) : sumI f (k + 1) = sumI f k + f k := rfl
theorem sumI_rm {f : Nat → Int} {x : Nat} {T : Nat → Bool} (hT : T x = true) : ∀ {n : Nat}, x < n → sumI (fun c => if T c then f c else 0) n = sumI (fun c => if (T c && decide (c ≠ x)) then f c else 0) n + f x
  | 0, h => absurd h (by omega)
  | n + 1, h => by
    rw [sumI_s, sumI_s]
    by_cases e : x = n
    · subst e
      have e1 : sumI (fun c => if T c then f c else 0) x = sumI (fun c => if (T c && decide (c ≠ x)) then f c else 0) x := sumI_congr (fun k hk => by
        have : decide (k ≠ x) = true := by simp; omega
        rw [this, Bool.and_true])
      rw [e1, hT]
      simp
    · have := sumI_rm (f := f) hT (n := n) (by omega)
      rw [this]
      have e2 : decide (n ≠ x) = true := by simp; omega
      rw [e2, Bool.and_true]
      omega
theorem sumI_0 {f : Nat → Int} : ∀ {n : Nat}, (∀ k, k < n → f k = 0) → sumI f n = 0
  | 0, _ => rfl
  | n + 1, h => by
    rw [sumI_s, sumI_0 (fun k hk => h k (by omega)), h n (by omega)]; rfl
theorem sumI_perm {f : Nat → Int} {g : Nat → Nat} : ∀ (n : Nat) (T : Nat → Bool), (∀ i, i < n → g i < 24 ∧ T (g i) = true) → (∀ b, b < 24 → T b = true → ∃ i, i < n ∧ g i = b) → (∀ i k, i < n → k < n → g i = g k → i = k) → sumI (fun i => f (g i)) n = sumI (fun c => if T c then f c else 0) 24
  | 0, T, h1, h2, h3 => by
    symm
    refine sumI_0 (n := 24) (fun k hk => ?_)
    cases e : T k
    · rfl
    · obtain ⟨i, hi, -⟩ := h2 k hk e
      exact absurd hi (by omega)
  | n + 1, T, h1, h2, h3 => by
    have hx := h1 n (by omega)
    rw [sumI_s, sumI_rm (x := g n) hx.2 hx.1, sumI_perm n (fun c => T c && decide (c ≠ g n)) ?_ ?_ ?_]
    · intro i hi
      refine ⟨(h1 i (by omega)).1, ?_⟩
      rw [(h1 i (by omega)).2, Bool.true_and, decide_eq_true_iff]
      intro e
      have := h3 i n (by omega) (by omega) e
      omega
    · intro b hb hT
      rw [Bool.and_eq_true, decide_eq_true_iff] at hT
      obtain ⟨i, hi, he⟩ := h2 b hb hT.1
      refine ⟨i, ?_, he⟩
      by_cases e : i = n
      · subst e; exact absurd he.symm hT.2
      · omega
    · intro i k hi hk he
      exact h3 i k (by omega) (by omega) he
def sg (z : Int) : Int := if 0 < z then 1 else if z < 0 then -1 else 0
theorem sumI_cnt {p q : Nat → Bool} : ∀ n, sumI (fun c => (if p c then (1 : Int) else 0) - (if q c then 1 else 0)) n = (cnt p n : Int) - cnt q n
  | 0 => rfl
  | n + 1 => by
    rw [sumI_s, sumI_cnt n, cnt_s, cnt_s]
    cases p n <;> cases q n <;> simp <;> omega
theorem vQ_sum {A : AS} {s : Nat} {T : Nat → Bool} {g : Nat → Nat} (hg : PG A T g) {b : Nat} (hb : T b = true) : sumI (fun i => sg (lead A s T b (g i))) (cnt T 24) = vQ A s T b := by
  rw [sumI_perm (f := fun c => sg (lead A s T b c)) (cnt T 24) T hg.1 (fun c _ hc => hg.2.1 c hc) hg.2.2.1]
  unfold vQ
  rw [← sumI_cnt]
  apply sumI_congr
  intro c _
  unfold bts sg
  rw [hb, lead_neg A s T b c]
  cases T c
  · rfl
  · by_cases h1 : 0 < lead A s T b c
    · rw [if_pos rfl, if_pos h1, decide_eq_true h1, decide_eq_false (show ¬ (0 < -lead A s T b c) by omega)]; rfl
    · rw [if_pos rfl, if_neg h1, decide_eq_false h1]
      by_cases h2 : lead A s T b c < 0
      · rw [if_pos h2, decide_eq_true (show 0 < -lead A s T b c by omega)]; rfl
      · rw [if_neg h2, decide_eq_false (show ¬ (0 < -lead A s T b c) by omega)]; rfl
theorem lead_self (A : AS) (s : Nat) (T : Nat → Bool) (a : Nat) : lead A s T a a = 0 := by
  have := lead_neg A s T a a
  omega
section MWeigh
variable {N : Nat} {σ τ : ZS} {A : AS} {T : Nat → Bool} {g : Nat → Nat} {s : Nat}
theorem m_wP (hN : 200 ≤ N) (h : RM A σ) (hw : WF A) (hg : PG A T g) (he : eqM σ τ) (hl : LSt τ T g) (hs : s < 2) {b : Nat} (hb : b < 24) (h0 : τ 23 b = 0) {u : Int32} (K : Int32 → ZS → Option ZS) : L_X8_weighs_34 N (nI s) u (nI b) K N (0 : Int32) τ = K (nI 7) (zu τ 23 b (iI (vP A s T b))) := by
  have hc := cnt_le T 24
  unfold L_X8_weighs_34
  have e0 : zu τ 23 b (iI (sumI (ptj A s T b) 0)) = τ := by
    funext q i
    rw [zu_e]
    by_cases h1 : q = 23 ∧ i = b
    · rw [if_pos h1, h1.1, h1.2, h0]; rfl
    · rw [if_neg h1]
  have key := lq2_seq (B := B_X8_weighs_34 N (nI s) u (nI b) K) (fun k => nI k) (fun k => zu τ 23 b (iI (sumI (ptj A s T b) k))) (K (nI 7) (zu τ 23 b (iI (vP A s T b)))) 7 ?_ ?_ N (by omega)
  · rw [e0] at key
    exact key
  · intro k hk rc
    have hr := h.eq (he.put (p := 23) (j := b) (x := iI (sumI (ptj A s T b) k)) rfl)
    have hl' : LSt (zu τ 23 b (iI (sumI (ptj A s T b) k))) T g := hl.of (by rw [zu_q (by omega)]) (by rw [zu_q (by omega)])
    have pb := plk_le (A := A) (s := s) (T := T) (j := k) (b := b) (k := 12) (by omega)
    have ez : ∀ z z' : Int32, zu (zu τ 23 b z) 23 b z' = zu τ 23 b z' := fun z z' => by
      funext q i
      rw [zu_e, zu_e, zu_e]
      split <;> rfl
    unfold B_X8_weighs_34
    rw [k_7, ile_f (by omega) (by omega) (by omega), m_placeOn hN hr hw hg hl' hk hs hb, Option.bind_some, g_rd_in hb (by omega), zu_p, sumI_s]
    simp only [pl_m1 pb]
    have ept : ptj A s T b k = if plc A s T k b < 24 then (cnt T 24 : Int) - plc A s T k b else 0 := rfl
    rw [ept]
    rcases pb with pb | pb
    · have pb : plc A s T k b = 24 := pb
      rw [if_pos pb, g_wr_in hb (by omega), ez, g_lt_e, nI_1, if_neg (show ¬ (plc A s T k b < 24) by omega), ← iI_0, iI_add]
    · have pb : plc A s T k b < 12 := pb
      unfold plI
      rw [if_neg (show ¬ (plc A s T k b = 24) by omega), if_pos (show plc A s T k b < 24 by omega), hl'.1, ← iI_nI (cnt T 24), ← iI_nI (plc A s T k b), iI_sub, iI_add, g_wr_in hb (by omega), ez, g_lt_e, nI_1, if_pos (show plc A s T k b < 24 by omega)]
  · intro rc
    rfl
theorem m_wQ (hN : 200 ≤ N) (h : RM A σ) (hw : WF A) (hg : PG A T g) (he : eqM σ τ) (hl : LSt τ T g) (hs : s < 2) {b : Nat} (hb : b < 24) (hTb : T b = true) (h0 : τ 24 b = 0) {u : Int32} (K : Int32 → ZS → Option ZS) : L_X8_weighs_90 N (nI s) u (nI b) K N (0 : Int32) τ = K (nI (cnt T 24)) (zu τ 24 b (iI (vQ A s T b))) := by
  have hc := cnt_le T 24
  unfold L_X8_weighs_90
  have e0 : zu τ 24 b (iI (sumI (fun i => sg (lead A s T b (g i))) 0)) = τ := by
    funext q i
    rw [zu_e]
    by_cases h1 : q = 24 ∧ i = b
    · rw [if_pos h1, h1.1, h1.2, h0]; rfl
    · rw [if_neg h1]
  rw [← vQ_sum hg hTb]
  have key := lq2_seq (B := B_X8_weighs_90 N (nI s) u (nI b) K) (fun k => nI k) (fun k => zu τ 24 b (iI (sumI (fun i => sg (lead A s T b (g i))) k))) (K (nI (cnt T 24)) (zu τ 24 b (iI (sumI (fun i => sg (lead A s T b (g i))) (cnt T 24))))) (cnt T 24) ?_ ?_ N (by omega)
  · rw [e0] at key
    exact key
  · intro k hk rc
    have hgk := (hg.1 k hk).1
    have hr := h.eq (he.put (p := 24) (j := b) (x := iI (sumI (fun i => sg (lead A s T b (g i))) k)) rfl)
    have hl' : LSt (zu τ 24 b (iI (sumI (fun i => sg (lead A s T b (g i))) k))) T g := hl.of (by rw [zu_q (by omega)]) (by rw [zu_q (by omega)])
    have ez : ∀ z z' : Int32, zu (zu τ 24 b z) 24 b z' = zu τ 24 b z' := fun z z' => by
      funext q i
      rw [zu_e, zu_e, zu_e]
      split <;> rfl
    unfold B_X8_weighs_90
    rw [hl'.1, ile_f (by omega) (by omega) (by omega), g_rd_in (by omega) (by omega), hl'.2 k hk, sumI_s]
    by_cases eb : g k = b
    · rw [ieq_t eb, g_rd_in hb (by omega), zu_p, if_pos (by decide), if_pos (by decide), g_wr_in hb (by omega), ez, g_lt_e, nI_1, eb, lead_self, show sg 0 = 0 by decide, ← iI_0, iI_add]
    · rw [ieq_f (by omega) (by omega) eb, g_rd_in (by omega) (by omega), hl'.2 k hk, m_more hN hr hw hg hl' hs hb hgk, Option.bind_some, g_rd_in hb (by omega), zu_p]
      have hlb := lead_bd A s T b (g k) 7 (by omega)
      have hlb1 : -100 ≤ lead A s T b (g k) := hlb.1
      have hlb2 : lead A s T b (g k) ≤ 100 := hlb.2
      have c1 : (iI (lead A s T b (g k)) ≤ 0) = (lead A s T b (g k) ≤ 0) := by
        rw [Int32.le_iff_toInt_le, iI_T (by omega) (by omega)]; rfl
      have c2 : (0 ≤ iI (lead A s T b (g k))) = (0 ≤ lead A s T b (g k)) := by
        rw [Int32.le_iff_toInt_le, iI_T (by omega) (by omega)]; rfl
      simp only [c1, c2]
      unfold sg
      by_cases d1 : lead A s T b (g k) ≤ 0
      · rw [if_pos d1, if_neg (show ¬ (0 < lead A s T b (g k)) by omega)]
        by_cases d2 : 0 ≤ lead A s T b (g k)
        · rw [if_pos d2, if_neg (show ¬ (lead A s T b (g k) < 0) by omega), g_wr_in hb (by omega), ez, g_lt_e, nI_1, ← iI_0, iI_add]
        · rw [if_neg d2, if_pos (show lead A s T b (g k) < 0 by omega), g_wr_in hb (by omega), ez, g_lt_e, nI_1, ← iI_m1, iI_add]
      · rw [if_neg d1, if_pos (show 0 < lead A s T b (g k) by omega), g_wr_in hb (by omega), ez, g_lt_e, nI_1, ← iI_1, iI_add]
  · intro rc
    have hl' : LSt (zu τ 24 b (iI (sumI (fun i => sg (lead A s T b (g i))) (cnt T 24)))) T g := hl.of (by rw [zu_q (by omega)]) (by rw [zu_q (by omega)])
    unfold B_X8_weighs_90
    rw [hl'.1, ile_t (by omega) (by omega) (by omega)]
theorem m_weighs (hN : 200 ≤ N) (h : RM A σ) (hw : WF A) (hg : PG A T g) (hl : LSt σ T g) (hs : s < 2) : ∃ τ, f_X8_weighs N σ (nI s) = some τ ∧ (∀ b, T b = true → τ 23 b = iI (vP A s T b) ∧ τ 24 b = iI (vQ A s T b)) ∧ (∀ q, q ≠ 23 → q ≠ 24 → τ q = σ q) := by
  have hnb := hw.1.1
  have hc := cnt_le T 24
  unfold f_X8_weighs L_X8_weighs_2
  have inv := lq2_inv (B := B_X8_weighs_2 N (nI s) (fun y32 s33 => some s33)) (fun k τ => (∀ i, i < k → i < cnt T 24 → τ 23 (g i) = iI (vP A s T (g i)) ∧ τ 24 (g i) = iI (vQ A s T (g i))) ∧ (∀ q, q ≠ 23 → q ≠ 24 → τ q = σ q)) 0 (cnt T 24) (by omega) ?_ σ ⟨fun i hi => absurd hi (by omega), fun _ _ _ => rfl⟩
  · obtain ⟨τ, ⟨i1, i2⟩, hl2⟩ := inv
    refine ⟨τ, hl2 _ N (by omega) (fun rc => ?_), fun b hb => ?_, i2⟩
    · unfold B_X8_weighs_2
      rw [i2 0 (by omega) (by omega), hl.1, ile_t (by omega) (by omega) (by omega)]
    · obtain ⟨i, hi, e⟩ := hg.2.1 b hb
      rw [← e]
      exact i1 i hi hi
  · intro k _ hk τ hI
    obtain ⟨i1, i2⟩ := hI
    obtain ⟨hgk, hTk⟩ := hg.1 k hk
    have he : eqM σ τ := ⟨fun p hp _ => i2 p (fun e => by rw [e] at hp; cases hp) (fun e => by rw [e] at hp; cases hp), by rw [i2 0 (by omega) (by omega)], by rw [i2 0 (by omega) (by omega)]⟩
    have he1 : eqM σ (zu (zu τ 23 (g k) 0) 24 (g k) 0) := (he.put rfl).put rfl
    have he2 : eqM σ (zu (zu (zu τ 23 (g k) 0) 24 (g k) 0) 23 (g k) (iI (vP A s T (g k)))) := he1.put rfl
    have hl1 : LSt (zu (zu τ 23 (g k) 0) 24 (g k) 0) T g := hl.of (by rw [zu_q (by omega), zu_q (by omega), i2 0 (by omega) (by omega)]) (by rw [zu_q (by omega), zu_q (by omega), i2 21 (by omega) (by omega)])
    have hl2 : LSt (zu (zu (zu τ 23 (g k) 0) 24 (g k) 0) 23 (g k) (iI (vP A s T (g k)))) T g := hl1.of (by rw [zu_q (by omega)]) (by rw [zu_q (by omega)])
    refine ⟨zu (zu (zu (zu τ 23 (g k) 0) 24 (g k) 0) 23 (g k) (iI (vP A s T (g k)))) 24 (g k) (iI (vQ A s T (g k))), ⟨fun i hi hin => ?_, fun q q1 q2 => ?_⟩, fun rc => ?_⟩
    · by_cases e : i = k
      · subst e
        refine ⟨?_, zu_p⟩
        rw [zu_q (by omega), zu_p]
      · have hne : g i ≠ g k := fun x => e (hg.2.2.1 i k hin hk x)
        rw [zu_q (show (23 : Nat) ≠ 24 by omega), zu_i hne, zu_q (show (23 : Nat) ≠ 24 by omega), zu_i hne, zu_i hne, zu_q (show (24 : Nat) ≠ 23 by omega), zu_i hne, zu_q (show (24 : Nat) ≠ 23 by omega)]
        exact i1 i (by omega) hin
    · rw [zu_q q2, zu_q q1, zu_q q2, zu_q q1]; exact i2 q q1 q2
    · unfold B_X8_weighs_2
      rw [i2 0 (by omega) (by omega), hl.1, ile_f (by omega) (by omega) (by omega), g_rd_in (by omega) (by omega), i2 21 (by omega) (by omega), hl.2 k hk, g_wr_in hgk (by omega), g_wr_in hgk (by omega), m_wP hN h hw hg he1 hl1 hs hgk (by rw [zu_q (by omega), zu_p]), m_wQ hN h hw hg he2 hl2 hs hgk hTk (by rw [zu_q (by omega), zu_p]), g_lt_e, nI_1]
end MWeigh
