/-! ===== the reference: orders and lists ===== -/
def gS (g : Nat → Nat) : Nat → (Nat → Bool)
  | 0 => fun _ => false
  | k + 1 => adS (gS g k) (g k)
theorem gS_iff {g : Nat → Nat} {c : Nat} : ∀ {k : Nat}, gS g k c = true ↔ ∃ i, i < k ∧ g i = c
  | 0 => ⟨fun h => Bool.noConfusion h, fun h => h.elim (fun i hi => absurd hi.1 (by omega))⟩
  | k + 1 => by
    show (gS g k c || decide (c = g k)) = true ↔ _
    rw [Bool.or_eq_true, gS_iff (k := k), decide_eq_true_iff]
    constructor
    · rintro (⟨i, hi, he⟩ | he)
      · exact ⟨i, by omega, he⟩
      · exact ⟨k, by omega, he.symm⟩
    · rintro ⟨i, hi, he⟩
      by_cases e : i = k
      · subst e; exact Or.inr he.symm
      · exact Or.inl ⟨i, by omega, he⟩
section MOrder
variable {N : Nat} {σ τ : ZS} {A : AS} {T : Nat → Bool} {g : Nat → Nat} {s : Nat}
theorem gS_no (hg : PG A T g) {k : Nat} (hk : k < cnt T 24) : gS g k (g k) = false := by
  cases e : gS g k (g k)
  · rfl
  · obtain ⟨i, hi, he⟩ := gS_iff.mp e
    have := hg.2.2.1 i k (by omega) hk he
    omega
theorem gS_cnt (hg : PG A T g) : ∀ {k : Nat}, k ≤ cnt T 24 → cnt (gS g k) 24 = k
  | 0, _ => by
    show cnt (fun _ => false) 24 = 0
    rfl
  | k + 1, hk => by
    show cnt (adS (gS g k) (g k)) 24 = k + 1
    rw [ins_cnt (hg.1 k (by omega)).1 (gS_no hg (by omega)), gS_cnt hg (k := k) (by omega)]
theorem gS_T (hg : PG A T g) : gS g (cnt T 24) = T := by
  funext c
  apply Bool.eq_iff_iff.mpr
  rw [gS_iff]
  constructor
  · rintro ⟨i, hi, he⟩
    rw [← he]; exact (hg.1 i hi).2
  · intro h
    exact hg.2.1 c h
def off (kind : Nat) : Int := if kind = 1 then 1000 else 0
def WV (A : AS) (s : Nat) (T : Nat → Bool) (τ : ZS) : Prop := ∀ b, T b = true → τ 23 b = iI (vP A s T b) ∧ τ 24 b = iI (vQ A s T b) ∧ τ 25 b = iI (vR A s T (cC A) b)
theorem m_worthOf (hv : WV A s T τ) {b kind : Nat} (hb : b < 24) (hTb : T b = true) (hk : kind < 3) : f_X8_worthOf N τ (nI kind) (nI b) = some (iI (vK A s T (cC A) kind b + off kind)) := by
  obtain ⟨h1, h2, h3⟩ := hv b hTb
  unfold f_X8_worthOf vK off
  rcases (by omega : kind = 0 ∨ kind = 1 ∨ kind = 2) with rfl | rfl | rfl
  · rw [if_pos nI_0, g_rd_in hb (by omega), h1, if_pos rfl, if_neg (by decide), Int.add_zero]
  · rw [if_neg (by decide), if_pos (by decide), g_rd_in hb (by omega), h2, if_neg (by decide), if_pos rfl, if_pos rfl, show (1000 : Int32) = iI 1000 by decide, iI_add]
  · rw [if_neg (by decide), if_neg (by decide), g_rd_in hb (by omega), h3, if_neg (by decide), if_neg (by decide), if_neg (by decide), Int.add_zero]
theorem kK_ahd {kind a b : Nat} : ahd (kK A s T (cC A) kind) a b = (decide (vK A s T (cC A) kind b < vK A s T (cC A) kind a) || (decide (vK A s T (cC A) kind a = vK A s T (cC A) kind b) && tfst A s T a b)) := by
  have h1 := tieN_le A s T (cC A) a
  have h2 := tieN_le A s T (cC A) b
  apply Bool.eq_iff_iff.mpr
  rw [ahd_iff, Bool.or_eq_true, Bool.and_eq_true, decide_eq_true_iff, decide_eq_true_iff]
  unfold tfst kK kV
  rw [decide_eq_true_iff]
  omega
theorem m_insOrd (hN : 200 ≤ N) (h : RM A σ) (hw : WF A) (hg : PG A T g) (hs : s < 2) {kind : Nat} (hkd : kind < 3) (he : eqM σ τ) (hl : LSt τ T g) (hv : WV A s T τ) {k : Nat} (hk : k < cnt T 24) (ho : LO τ 22 (gS g k) (kK A s T (cC A) kind)) (K : Int32 → ZS → Option ZS) : L_X8_orders_31 N (nI s) (nI kind) (nI k) (nI (g k)) K N (nI k) τ = K (nI (rnk (gS g k) (kK A s T (cC A) kind) (g k))) (shT τ 22 k (k - rnk (gS g k) (kK A s T (cC A) kind) (g k))) := by
  have hT : ∀ b, T b = true → b < 24 := fun b hb => by have := hg.2.2.2 b hb; have := hw.1.1; omega
  obtain ⟨hb, hTb⟩ := hg.1 k hk
  have hcT := cnt_le T 24
  have hcn := gS_cnt hg (k := k) (by omega)
  have hS := gS_no hg hk
  have hr := rnk_le (S := gS g k) (kf := kK A s T (cC A) kind) (x := g k)
  rw [hcn] at hr
  unfold LO at ho
  rw [hcn] at ho
  unfold L_X8_orders_31
  have rd : ∀ t, t < k → shT τ 22 k t 22 (k - t - 1) = nI (pck (gS g k) (kK A s T (cC A) kind) (k - t - 1)) := by
    intro t ht
    rw [shT_p, if_neg (by omega)]
    exact ho _ (by omega)
  have hv' : ∀ t, WV A s T (shT τ 22 k t) := fun t b hb => by
    rw [shT_q (by omega), shT_q (by omega), shT_q (by omega)]; exact hv b hb
  have hl' : ∀ t, LSt (shT τ 22 k t) T g := fun t => hl.of (by rw [shT_q (by omega)]) (by rw [shT_q (by omega)])
  have bd : ∀ t, t < k → ∀ rc, B_X8_orders_31 N (nI s) (nI kind) (nI k) (nI (g k)) K rc (nI (k - t)) (shT τ 22 k t) = if rnk (gS g k) (kK A s T (cC A) kind) (g k) ≤ k - t - 1 then rc (nI (k - (t + 1))) (shT τ 22 k (t + 1)) else K (nI (k - t)) (shT τ 22 k t) := by
    intro t ht rc
    have hi : k - t - 1 < cnt (gS g k) 24 := by omega
    obtain ⟨g1, g2, g3⟩ := pck_rnk (kf := kK A s T (cC A) kind) hi
    obtain ⟨i, hik, hgi⟩ := gS_iff.mp g2
    have g4 : T (pck (gS g k) (kK A s T (cC A) kind) (k - t - 1)) = true := by rw [← hgi]; exact (hg.1 i (by omega)).2
    have ia := ins_ahd (kf := kK A s T (cC A) kind) hS hi
    rw [kK_ahd] at ia
    have b1 := vK_bd A s T (cC A) kind (g k)
    have b2 := vK_bd A s T (cC A) kind (pck (gS g k) (kK A s T (cC A) kind) (k - t - 1))
    have ob : 0 ≤ off kind ∧ off kind ≤ 1000 := by unfold off; split <;> omega
    have sh := shT_s (τ := τ) (P := 22) (n := k) (t := t) (by omega)
    rw [ho _ (by omega)] at sh
    unfold B_X8_orders_31
    rw [k_0, ile_f (by omega) (by omega) (by omega), m_worthOf (hv' t) hb hTb hkd, Option.bind_some, k_1, pk_sub (by omega), g_rd_in (by omega) (by omega), rd t (by omega), m_worthOf (hv' t) g1 g4 hkd, Option.bind_some, Option.bind_some]
    have c1 : (iI (vK A s T (cC A) kind (pck (gS g k) (kK A s T (cC A) kind) (k - t - 1)) + off kind) < iI (vK A s T (cC A) kind (g k) + off kind)) = (vK A s T (cC A) kind (pck (gS g k) (kK A s T (cC A) kind) (k - t - 1)) < vK A s T (cC A) kind (g k)) := by
      rw [Int32.lt_iff_toInt_lt, iI_T (by omega) (by omega), iI_T (by omega) (by omega)]
      exact propext (by omega)
    have c2 : (iI (vK A s T (cC A) kind (g k) + off kind) = iI (vK A s T (cC A) kind (pck (gS g k) (kK A s T (cC A) kind) (k - t - 1)) + off kind)) = (vK A s T (cC A) kind (g k) = vK A s T (cC A) kind (pck (gS g k) (kK A s T (cC A) kind) (k - t - 1))) := by
      rw [← Int32.toInt_inj, iI_T (by omega) (by omega), iI_T (by omega) (by omega)]
      exact propext (by omega)
    simp only [c1, c2]
    by_cases d1 : vK A s T (cC A) kind (pck (gS g k) (kK A s T (cC A) kind) (k - t - 1)) < vK A s T (cC A) kind (g k)
    · rw [decide_eq_true d1, Bool.true_or] at ia
      rw [if_pos d1, if_pos (of_decide_eq_true ia.symm), g_rd_in (by omega) (by omega), rd t (by omega), g_wr_in (by omega) (by omega), sh, g_lt_e, show k - t - 1 = k - (t + 1) by omega]
    · rw [decide_eq_false d1, Bool.false_or] at ia
      rw [if_neg d1, g_rd_in (by omega) (by omega), rd t (by omega), m_worthOf (hv' t) g1 g4 hkd, Option.bind_some]
      simp only [c2]
      by_cases d2 : vK A s T (cC A) kind (g k) = vK A s T (cC A) kind (pck (gS g k) (kK A s T (cC A) kind) (k - t - 1))
      · rw [decide_eq_true d2, Bool.true_and] at ia
        rw [if_pos d2, g_rd_in (by omega) (by omega), rd t (by omega), m_isFirst hN (h.eq (he.sh rfl)) hw hg (hl' t) hs hb g1, Option.bind_some, ia]
        by_cases d3 : rnk (gS g k) (kK A s T (cC A) kind) (g k) ≤ k - t - 1
        · rw [decide_eq_true d3, if_neg (show ¬ (zb true = nI 0) by decide), if_pos d3, g_rd_in (by omega) (by omega), rd t (by omega), g_wr_in (by omega) (by omega), sh, g_lt_e, show k - t - 1 = k - (t + 1) by omega]
        · rw [decide_eq_false d3, if_pos (show zb false = nI 0 from rfl), if_neg d3]
      · rw [decide_eq_false d2, Bool.false_and] at ia
        rw [if_neg d2, if_neg (of_decide_eq_false ia.symm)]
  have key := lq2_seq (B := B_X8_orders_31 N (nI s) (nI kind) (nI k) (nI (g k)) K) (fun t => nI (k - t)) (fun t => shT τ 22 k t) (K (nI (rnk (gS g k) (kK A s T (cC A) kind) (g k))) (shT τ 22 k (k - rnk (gS g k) (kK A s T (cC A) kind) (g k)))) (k - rnk (gS g k) (kK A s T (cC A) kind) (g k)) ?_ ?_ N (by omega)
  · rw [shT_0] at key
    exact key
  · intro t ht rc
    rw [bd t (by omega) rc, if_pos (by omega)]
  · intro rc
    by_cases r0 : rnk (gS g k) (kK A s T (cC A) kind) (g k) = 0
    · rw [show k - (k - rnk (gS g k) (kK A s T (cC A) kind) (g k)) = 0 by omega, r0]
      unfold B_X8_orders_31
      rw [k_0, ile_t (by omega) (by omega) (by omega)]
    · rw [bd _ (by omega) rc, if_neg (by omega), show k - (k - rnk (gS g k) (kK A s T (cC A) kind) (g k)) = rnk (gS g k) (kK A s T (cC A) kind) (g k) by omega]
theorem m_orders (hN : 200 ≤ N) (h : RM A σ) (hw : WF A) (hg : PG A T g) (hl : LSt σ T g) (hs : s < 2) {kind : Nat} (hkd : kind < 3) : ∃ τ, f_X8_orders N σ (nI s) (nI kind) = some τ ∧ LO τ 22 T (kK A s T (cC A) kind) ∧ WV A s T τ ∧ (∀ q, q ≠ 22 → q ≠ 23 → q ≠ 24 → q ≠ 25 → τ q = σ q) := by
  have hcT := cnt_le T 24
  unfold f_X8_orders L_X8_orders_12
  have eM : ∀ τ : ZS, (∀ q, q ≠ 22 → q ≠ 23 → q ≠ 24 → q ≠ 25 → τ q = σ q) → eqM σ τ ∧ LSt τ T g := fun τ i2 => ⟨⟨fun p hp _ => i2 p (fun e => by rw [e] at hp; cases hp) (fun e => by rw [e] at hp; cases hp) (fun e => by rw [e] at hp; cases hp) (fun e => by rw [e] at hp; cases hp), by rw [i2 0 (by omega) (by omega) (by omega) (by omega)], by rw [i2 0 (by omega) (by omega) (by omega) (by omega)]⟩, hl.of (by rw [i2 0 (by omega) (by omega) (by omega) (by omega)]) (by rw [i2 21 (by omega) (by omega) (by omega) (by omega)])⟩
  obtain ⟨τ1, w1, w2, w3⟩ := m_weighs hN h hw hg hl hs
  obtain ⟨e1, l1⟩ := eM τ1 (fun q _ q2 q3 _ => w3 q q2 q3)
  obtain ⟨τ2, r1, r2, r3⟩ := m_rounds hN (h.eq e1) hw hg l1 hs
  rw [w1, Option.bind_some, r1, Option.bind_some]
  have v2 : WV A s T τ2 := fun b hb => by
    rw [r3 23 (by omega), r3 24 (by omega)]
    exact ⟨(w2 b hb).1, (w2 b hb).2, r2 b hb⟩
  have q2 : ∀ q, q ≠ 22 → q ≠ 23 → q ≠ 24 → q ≠ 25 → τ2 q = σ q := fun q _ b c d => by rw [r3 q d, w3 q b c]
  have inv := lq2_inv (B := B_X8_orders_12 N (nI s) (nI kind) (fun y22 s23 => some s23)) (fun k τ => (k ≤ cnt T 24 → LO τ 22 (gS g k) (kK A s T (cC A) kind)) ∧ WV A s T τ ∧ (∀ q, q ≠ 22 → q ≠ 23 → q ≠ 24 → q ≠ 25 → τ q = σ q)) 0 (cnt T 24) (by omega) ?_ τ2 ⟨fun _ i hi => absurd hi (Nat.not_lt_zero _), v2, q2⟩
  · obtain ⟨τ, ⟨i1, i2, i3⟩, hlp⟩ := inv
    have i1 := i1 (Nat.le_refl _)
    rw [gS_T hg] at i1
    refine ⟨τ, hlp _ N (by omega) (fun rc => ?_), i1, i2, i3⟩
    unfold B_X8_orders_12
    rw [i3 0 (by omega) (by omega) (by omega) (by omega), hl.1, ile_t (by omega) (by omega) (by omega)]
  · intro k _ hk τ hI
    obtain ⟨i1, i2, i3⟩ := hI
    obtain ⟨ee, el⟩ := eM τ i3
    obtain ⟨hb, hTb⟩ := hg.1 k hk
    have i1 := i1 (by omega)
    have hS := gS_no hg hk
    have hcn := gS_cnt hg (k := k) (by omega)
    have hr := rnk_le (S := gS g k) (kf := kK A s T (cC A) kind) (x := g k)
    rw [hcn] at hr
    refine ⟨zu (shT τ 22 k (k - rnk (gS g k) (kK A s T (cC A) kind) (g k))) 22 (rnk (gS g k) (kK A s T (cC A) kind) (g k)) (nI (g k)), ⟨fun _ => ?_, fun b hb => ?_, fun q a b c d => by rw [zu_q a, shT_q a]; exact i3 q a b c d⟩, fun rc => ?_⟩
    · have := LO_ins i1 hb hS
      rw [hcn] at this
      exact this
    · rw [zu_q (by omega), zu_q (by omega), zu_q (by omega), shT_q (by omega), shT_q (by omega), shT_q (by omega)]
      exact i2 b hb
    · unfold B_X8_orders_12
      rw [i3 0 (by omega) (by omega) (by omega) (by omega), hl.1, ile_f (by omega) (by omega) (by omega), g_rd_in (by omega) (by omega), i3 21 (by omega) (by omega) (by omega) (by omega), hl.2 k hk, m_insOrd hN h hw hg hs hkd ee el i2 hk i1, g_wr_in (by omega) (by omega), g_lt_e, nI_1]
theorem PG_top {S : Nat → Bool} {kf : Nat → Int} {n : Nat} (hw : WFb A) (hS : ∀ b, S b = true → b < A 0 0) (hn : n ≤ cnt S 24) : PG A (top S kf n) (pck S kf) := by
  have hnb := hw.1
  have ht := top_cnt (kf := kf) hn
  refine ⟨fun i hi => ?_, fun b hb => ?_, fun i k hi hk he => ?_, fun b hb => ?_⟩
  · rw [ht] at hi
    obtain ⟨h1, h2, h3⟩ := pck_rnk (kf := kf) (show i < cnt S 24 by omega)
    refine ⟨h1, ?_⟩
    unfold top
    rw [h2, h3, decide_eq_true hi]; rfl
  · unfold top at hb
    rw [Bool.and_eq_true, decide_eq_true_iff] at hb
    have := hS b hb.1
    exact ⟨rnk S kf b, by rw [ht]; exact hb.2, (rnk_pck (by omega) hb.1).2⟩
  · rw [ht] at hi hk
    have h1 := (pck_rnk (kf := kf) (show i < cnt S 24 by omega)).2.2
    have h2 := (pck_rnk (kf := kf) (show k < cnt S 24 by omega)).2.2
    rw [← h1, ← h2, he]
  · unfold top at hb
    rw [Bool.and_eq_true] at hb
    exact hS b hb.1
theorem LT_cnt : cnt (LT A) 24 = nL0 A := top_cnt (by unfold nL0; omega)
theorem ST_cnt : cnt (ST A) 24 = nS0 A := top_cnt (by unfold nS0; omega)
theorem PG_LT (hw : WF A) : PG A (LT A) (pck (cand A) (kL A)) := PG_top hw.1 (fun b hb => (cand_mk hb).2) (by unfold nL0; omega)
theorem PG_ST (hw : WF A) : PG A (ST A) (pck (LT A) (kS0 A)) := PG_top hw.1 (fun b hb => LT_nb hb) (by unfold nS0; omega)
theorem m_copyL (hN : 200 ≤ N) (K : ZS → Option ZS) (h : τ 0 22 = nI (nL0 A)) (hw : WF A) : lq2 (B_X8_makesShort_6 N (fun _ s => K s)) N 0 τ = K (fl τ 21 (τ 19) (nL0 A)) ∧ lq2 (B_X8_lists_10 N (fun _ s => K s)) N 0 τ = K (fl τ 21 (τ 19) (nL0 A)) := by
  have hc := cnt_le (cand A) 24
  have hn : nL0 A ≤ 24 := by unfold nL0; omega
  constructor
  · have key := lq2_seq (B := B_X8_makesShort_6 N (fun _ s => K s)) (fun k => nI k) (fun k => fl τ 21 (τ 19) k) (K (fl τ 21 (τ 19) (nL0 A))) (nL0 A) ?_ ?_ N (by omega)
    · rw [fl_0] at key
      exact key
    · intro k hk rc
      unfold B_X8_makesShort_6
      rw [fl_q (by omega), h, ile_f (by omega) (by omega) (by omega), g_rd_in (by omega) (by omega), fl_q (by omega), g_wr_in (by omega) (by omega), fl_s, g_lt_e, nI_1]
    · intro rc
      unfold B_X8_makesShort_6
      rw [fl_q (by omega), h, ile_t (by omega) (by omega) (by omega)]
  · have key := lq2_seq (B := B_X8_lists_10 N (fun _ s => K s)) (fun k => nI k) (fun k => fl τ 21 (τ 19) k) (K (fl τ 21 (τ 19) (nL0 A))) (nL0 A) ?_ ?_ N (by omega)
    · rw [fl_0] at key
      exact key
    · intro k hk rc
      unfold B_X8_lists_10
      rw [fl_q (by omega), h, ile_f (by omega) (by omega) (by omega), g_rd_in (by omega) (by omega), fl_q (by omega), g_wr_in (by omega) (by omega), fl_s, g_lt_e, nI_1]
    · intro rc
      unfold B_X8_lists_10
      rw [fl_q (by omega), h, ile_t (by omega) (by omega) (by omega)]
theorem eqM.fl {p : Nat} {f : Nat → Int32} {k : Nat} (h : eqM σ τ) (hp : scM p = true) : eqM σ (fl τ p f k) := by
  have h0 : (0 : Nat) ≠ p := by intro e; subst e; cases hp
  refine ⟨fun q hq hq0 => ?_, ?_, ?_⟩
  · rw [fl_q (fun e => by rw [e, hp] at hq; cases hq)]; exact h.1 q hq hq0
  · rw [fl_q h0]; exact h.2.1
  · rw [fl_q h0]; exact h.2.2
theorem LSt_long {τ : ZS} (h : LM A τ) : LSt (zu (fl τ 21 (τ 19) (nL0 A)) 0 29 (nI (nL0 A))) (LT A) (pck (cand A) (kL A)) := by
  unfold LSt
  rw [LT_cnt, zu_p]
  refine ⟨rfl, fun i hi => ?_⟩
  rw [zu_q (by omega), fl_p hi]
  refine h.2 i ?_
  unfold nL0 at hi
  omega
def SM (A : AS) (τ : ZS) : Prop := τ 0 23 = nI (nS0 A) ∧ ∀ i, i < nS0 A → τ 20 i = nI (pck (LT A) (kS0 A) i)
theorem m_makesShort (hN : 200 ≤ N) (h : RM A σ) (hw : WF A) : ∃ τ, f_X8_makesShort N σ = some τ ∧ eqM σ τ ∧ SM A τ := by
  have h8' : A 9 8 ≤ 12 := (hw.2.2.1 8 (by omega)).2
  have h9' : A 9 9 ≤ 2 := (hw.2.2.1 9 (by omega)).2
  have hcL := cnt_le (LT A) 24
  obtain ⟨τ1, a1, a2, a3, a4, a5⟩ := m_makesLong hN h hw
  unfold f_X8_makesShort L_X8_makesShort_6 L_X8_makesShort_86
  rw [a1, Option.bind_some]
  have e2 : eqM σ (zu (fl τ1 21 (τ1 19) (nL0 A)) 0 29 (nI (nL0 A))) := (a2.fl rfl).put0 (by omega) (by omega)
  have l2 := LSt_long a3
  obtain ⟨τ3, o1, o2, o3, o4⟩ := m_orders hN (h.eq e2) hw (PG_LT hw) l2 (show 0 < 2 by omega) (show A 9 9 < 3 by omega)
  have e3 : eqM σ τ3 := e2.tr ⟨fun p hp _ => o4 p (fun e => by rw [e] at hp; cases hp) (fun e => by rw [e] at hp; cases hp) (fun e => by rw [e] at hp; cases hp) (fun e => by rw [e] at hp; cases hp), by rw [o4 0 (by omega) (by omega) (by omega) (by omega)], by rw [o4 0 (by omega) (by omega) (by omega) (by omega)]⟩
  have n29 : τ3 0 29 = nI (cnt (LT A) 24) := by rw [o4 0 (by omega) (by omega) (by omega) (by omega)]; exact l2.1
  rw [(m_copyL hN _ a3.1 hw).1, fl_q (show (0 : Nat) ≠ 21 by omega), a3.1, g_lt_e, k_9, g_rd_in (by omega) (by omega), (h.eq e2).2.1 9 (by omega), k_0, o1, Option.bind_some, k_8, g_rd_in (by omega) (by omega), g_rd_in (by omega) (by omega), (h.eq e3).2.1 8 (by omega), n29]
  have copy : ∀ m, m ≤ nS0 A → m ≤ 12 → ∃ τ, lq2 (B_X8_makesShort_86 N (fun y16 s17 => some s17)) N (nI 0) (zu τ3 0 23 (nI m)) = some τ ∧ eqM σ τ ∧ τ 0 23 = nI m ∧ ∀ i, i < m → τ 20 i = nI (pck (LT A) (kS0 A) i) := by
    intro m hm hm12
    have hmc : m ≤ cnt (LT A) 24 := by unfold nS0 at hm; omega
    refine ⟨fl (zu τ3 0 23 (nI m)) 20 (τ3 22) m, ?_, (e3.put0 (by omega) (by omega)).fl rfl, by rw [fl_q (by omega), zu_p], fun i hi => by rw [fl_p hi]; exact o2 i (by omega)⟩
    have key := lq2_seq (B := B_X8_makesShort_86 N (fun y16 s17 => some s17)) (fun k => nI k) (fun k => fl (zu τ3 0 23 (nI m)) 20 (τ3 22) k) (some (fl (zu τ3 0 23 (nI m)) 20 (τ3 22) m)) m ?_ ?_ N (by omega)
    · rw [fl_0] at key
      exact key
    · intro k hk rc
      unfold B_X8_makesShort_86
      rw [fl_q (show (0 : Nat) ≠ 20 by omega), zu_p, ile_f (by omega) (by omega) (by omega), g_rd_in (by omega) (by omega), fl_q (show (22 : Nat) ≠ 20 by omega), zu_q (by omega), g_wr_in (by omega) (by omega), fl_s, g_lt_e, nI_1]
    · intro rc
      unfold B_X8_makesShort_86
      rw [fl_q (show (0 : Nat) ≠ 20 by omega), zu_p, ile_t (by omega) (by omega) (by omega)]
  by_cases c : A 9 8 ≤ cnt (LT A) 24
  · rw [ile_t (by omega) (by omega) c, g_lt_e]
    obtain ⟨τ, t1, t2, t3, t4⟩ := copy (A 9 8) (by unfold nS0; omega) h8'
    have en : nS0 A = A 9 8 := by unfold nS0; omega
    exact ⟨τ, t1, t2, by unfold SM; rw [en]; exact ⟨t3, t4⟩⟩
  · rw [ile_f (by omega) (by omega) c, g_lt_e]
    obtain ⟨τ, t1, t2, t3, t4⟩ := copy (cnt (LT A) 24) (by unfold nS0; omega) (by omega)
    have en : nS0 A = cnt (LT A) 24 := by unfold nS0; omega
    exact ⟨τ, t1, t2, by unfold SM; rw [en]; exact ⟨t3, t4⟩⟩
def lsG (A : AS) (s : Nat) : Nat → Nat := if s = 0 then pck (cand A) (kL A) else pck (LT A) (kS0 A)
theorem PG_ls (hw : WF A) (s : Nat) : PG A (lsT A s) (lsG A s) := by
  unfold lsT lsG
  by_cases e : s = 0
  · rw [if_pos e, if_pos e]; exact PG_LT hw
  · rw [if_neg e, if_neg e]; exact PG_ST hw
theorem m_lists (hN : 200 ≤ N) (h : RM A σ) (hw : WF A) (hs : s < 2) : ∃ τ, f_X8_lists N σ (nI s) = some τ ∧ eqM σ τ ∧ LSt τ (lsT A s) (lsG A s) := by
  have h8' : A 9 8 ≤ 12 := (hw.2.2.1 8 (by omega)).2
  unfold f_X8_lists L_X8_lists_10 L_X8_lists_53 lsT lsG
  rcases (by omega : s = 0 ∨ s = 1) with rfl | rfl
  · obtain ⟨τ1, a1, a2, a3, a4, a5⟩ := m_makesLong hN h hw
    rw [if_pos nI_0, a1, Option.bind_some, (m_copyL hN _ a3.1 hw).2, fl_q (show (0 : Nat) ≠ 21 by omega), a3.1, g_lt_e, if_pos rfl, if_pos rfl]
    exact ⟨_, rfl, (a2.fl rfl).put0 (by omega) (by omega), LSt_long a3⟩
  · obtain ⟨τ1, a1, a2, a3⟩ := m_makesShort hN h hw
    have hcL := cnt_le (LT A) 24
    have hn : nS0 A ≤ 12 := by unfold nS0; omega
    rw [if_neg (show ¬ (nI 1 = 0) by decide), a1, Option.bind_some, if_neg (by decide), if_neg (by decide)]
    refine ⟨zu (fl τ1 21 (τ1 20) (nS0 A)) 0 29 (nI (nS0 A)), ?_, (a2.fl rfl).put0 (by omega) (by omega), ?_⟩
    · have key := lq2_seq (B := B_X8_lists_53 N (fun y12 s13 => g_lt (zu s13 0 29 (s13 0 23)) (fun s14 => some s14))) (fun k => nI k) (fun k => fl τ1 21 (τ1 20) k) (some (zu (fl τ1 21 (τ1 20) (nS0 A)) 0 29 (nI (nS0 A)))) (nS0 A) ?_ ?_ N (by omega)
      · rw [fl_0] at key
        exact key
      · intro k hk rc
        unfold B_X8_lists_53
        rw [fl_q (show (0 : Nat) ≠ 21 by omega), a3.1, ile_f (by omega) (by omega) (by omega), g_rd_in (by omega) (by omega), fl_q (show (20 : Nat) ≠ 21 by omega), g_wr_in (by omega) (by omega), fl_s, g_lt_e, nI_1]
      · intro rc
        unfold B_X8_lists_53
        rw [fl_q (show (0 : Nat) ≠ 21 by omega), a3.1, ile_t (by omega) (by omega) (by omega)]
        dsimp only [g_lt]
        rw [fl_q (show (0 : Nat) ≠ 21 by omega), a3.1]
    · unfold LSt
      rw [ST_cnt, zu_p]
      refine ⟨rfl, fun i hi => ?_⟩
      rw [zu_q (by omega), fl_p hi]
      exact a3.2 i hi
end MOrder
