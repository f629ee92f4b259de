/-! ===== what the reference is asked: in, barred, load ===== -/
theorem cnt_to {p : Nat → Bool} {n : Nat} : ∀ {m : Nat}, n ≤ m → (∀ k, n ≤ k → k < m → p k = false) → cnt p m = cnt p n
  | 0, h, _ => by rw [show n = 0 by omega]
  | m + 1, h, hp => by
    by_cases he : n = m + 1
    · rw [he]
    · show cnt p m + (if p m then 1 else 0) = _
      rw [hp m (by omega) (by omega), cnt_to (by omega) (fun k h1 h2 => hp k h1 (by omega))]
      rfl
theorem sumN_to {g : Nat → Nat} {n : Nat} : ∀ {m : Nat}, n ≤ m → (∀ k, n ≤ k → k < m → g k = 0) → sumN g m = sumN g n
  | 0, h, _ => by rw [show n = 0 by omega]
  | m + 1, h, hp => by
    by_cases he : n = m + 1
    · rw [he]
    · show sumN g m + g m = _
      rw [hp m (by omega) (by omega), sumN_to (by omega) (fun k h1 h2 => hp k h1 (by omega))]
      rfl
theorem cnt_s (p : Nat → Bool) (k : Nat) : cnt p (k + 1) = cnt p k + if p k then 1 else 0 := rfl
theorem cnt_t {p : Nat → Bool} {k : Nat} (h : p k = true) : cnt p (k + 1) = cnt p k + 1 := by rw [cnt_s, if_pos h]
theorem cnt_f {p : Nat → Bool} {k : Nat} (h : p k = false) : cnt p (k + 1) = cnt p k := by rw [cnt_s, h]; rfl
theorem bt_val (x : Int32) {i : Nat} (hi : i < 32) : ((x >>> (nI i &&& 31)) &&& (1 : Int32)) = zb (bt x i) := by
  by_cases h : bt x i = true
  · rw [h]
    have h1 : ∀ k, k < 32 → bt (1 : Int32) k = decide (k = 0) := by decide +kernel
    apply b_ext
    intro k hk
    rw [b_and, h1 k hk, zb_t, h1 k hk]
    by_cases hk0 : k = 0
    · subst hk0
      rw [b_sshr i hi x (by omega), if_pos (by omega)]
      simp [h]
    · simp [hk0]
  · have h' : bt x i = false := by simpa using h
    rw [h']
    exact (bt_contains x hi).mpr h'
theorem nI_z (a : Nat) : nI a + 0 = nI a := nI_add a 0
section MAsk1
variable {N : Nat} {τ : ZS} {A : AS}
theorem inb_nb {b : Nat} (h : A 0 0 ≤ b) : inb A b = false := by
  unfold inb
  rw [decide_eq_false (by omega), Bool.false_and]
theorem inb_in {b : Nat} (h : b < A 0 0) : inb A b = isin A b := by
  unfold inb
  rw [decide_eq_true h, Bool.true_and]
theorem m_isWithin (h : RM A τ) (hw : WF A) {b : Nat} (hb : b < A 0 0) : f_X8_isWithin N τ (nI b) = some (zb (wit A b)) := by
  have hnb := hw.1.1
  have h0 := hw.2.2.1.le (k := 0) (by omega); have h1 := hw.2.2.1.le (k := 1) (by omega); have h2 := hw.2.2.1.le (k := 2) (by omega); have h3 := hw.2.2.1.le (k := 3) (by omega)
  obtain ⟨-, w2, w3, w4⟩ := hw.1.2.1 b hb
  have h5 := (hw.1.2.2.1 b).2
  unfold f_X8_isWithin wit wrl
  rw [g_rd_in (by omega) (by omega), (h.2.2.1.2.2 b (by omega)).2, k_0, k_1, k_2, k_3]
  by_cases e : A 5 b = 0
  · rw [ieq_t e, g_rd_in (by omega) (by omega), g_rd_in (by omega) (by omega), g_rd_in (by omega) (by omega), g_rd_in (by omega) (by omega), g_rd_in (by omega) (by omega), g_rd_in (by omega) (by omega), g_rd_in (by omega) (by omega), g_rd_in (by omega) (by omega), (h.2.2.1.2.1 b hb).2.1, (h.2.2.1.2.1 b hb).2.2, h.2.1 0 (by omega), h.2.1 1 (by omega), h.2.1 2 (by omega), h.2.1 3 (by omega), decide_eq_true e]
    by_cases c1 : A 2 b < A 9 0
    · rw [ilt_t (by omega) (by omega) c1, decide_eq_false (p := A 9 0 ≤ A 2 b) (by omega)]; rfl
    · rw [ilt_f (by omega) (by omega) c1, decide_eq_true (p := A 9 0 ≤ A 2 b) (by omega)]
      by_cases c2 : A 9 1 < A 2 b
      · rw [ilt_t (by omega) (by omega) c2, decide_eq_false (p := A 2 b ≤ A 9 1) (by omega)]; rfl
      · rw [ilt_f (by omega) (by omega) c2, decide_eq_true (p := A 2 b ≤ A 9 1) (by omega)]
        by_cases c3 : A 3 b < A 9 2
        · rw [ilt_t (by omega) (by omega) c3, decide_eq_false (p := A 9 2 ≤ A 3 b) (by omega)]; rfl
        · rw [ilt_f (by omega) (by omega) c3, decide_eq_true (p := A 9 2 ≤ A 3 b) (by omega)]
          by_cases c4 : A 9 3 < A 3 b
          · rw [ilt_t (by omega) (by omega) c4, decide_eq_false (p := A 3 b ≤ A 9 3) (by omega)]; rfl
          · rw [ilt_f (by omega) (by omega) c4, decide_eq_true (p := A 3 b ≤ A 9 3) (by omega)]; rfl
  · rw [ieq_f (by omega) (by omega) e, decide_eq_false e]; rfl
theorem m_isIn (hN : 200 ≤ N) (h : RM A τ) (hw : WF A) {b : Nat} (hb : b < A 0 0) : f_X8_isIn N τ (nI b) = some (zb (isin A b)) := by
  have hnb := hw.1.1
  have h4 := hw.2.2.1.le (k := 4) (by omega)
  have hc := (hw.1.2.2.1 b).1
  unfold f_X8_isIn isin
  rw [m_isWithin h hw hb, Option.bind_some]
  cases e : wit A b
  · rw [if_pos zb_f]; rfl
  · rw [if_neg (by decide), g_rd_in (by omega) (by omega), (h.2.2.1.2.2 b (by omega)).1]
    by_cases e4 : A 4 b = 1
    · rw [e4, if_neg (by decide), decide_eq_true rfl]; rfl
    · rw [show A 4 b = 0 by omega, if_pos nI_0]
      unfold L_X8_isIn_25
      have hcl := cnt_le (riv A (A 1 b)) b
      refine lq2_seq (B := B_X8_isIn_25 N τ (nI b) (fun y15 y16 => g_rd 11 (τ 2) (4 : Int32) (fun v17 => if v17 ≤ y15 then (some (0 : Int32)) else (some (1 : Int32))))) (fun k => nI (cnt (riv A (A 1 b)) k)) (fun k => nI k) _ b ?_ ?_ N (by omega)
      · intro k hk rc
        have hpk := (hw.1.2.1 k (by omega)).1
        have hpb := (hw.1.2.1 b hb).1
        have hck := (hw.1.2.2.1 k).1
        unfold B_X8_isIn_25
        rw [ile_f (by omega) (by omega) (by omega), g_rd_in (by omega) (by omega), g_rd_in (by omega) (by omega), (h.2.2.1.2.1 k (by omega)).1, (h.2.2.1.2.1 b hb).1]
        by_cases ep : A 1 k = A 1 b
        · rw [ieq_t ep, m_isWithin h hw (by omega), Option.bind_some]
          cases ew : wit A k
          · rw [if_pos zb_f, g_lt_e, g_lt_e, nI_z, nI_1, cnt_f (by unfold riv; rw [ew]; simp)]
          · rw [if_neg (by decide), g_rd_in (by omega) (by omega), (h.2.2.1.2.2 k (by omega)).1]
            by_cases ec : A 4 k = 0
            · rw [ec, if_pos nI_0, g_lt_e, g_lt_e, nI_1, nI_1, cnt_t (by unfold riv; rw [ew, decide_eq_true ep, decide_eq_true ec, decide_eq_true (show k < A 0 0 by omega)]; rfl)]
            · rw [if_neg (by rw [k_0, n_eq (by omega) (by omega)]; exact ec), g_lt_e, g_lt_e, nI_z, nI_1, cnt_f (by unfold riv; rw [decide_eq_false ec]; simp)]
        · rw [ieq_f (by omega) (by omega) ep, g_lt_e, g_lt_e, nI_z, nI_1, cnt_f (by unfold riv; rw [decide_eq_false ep]; simp)]
      · intro rc
        unfold B_X8_isIn_25
        rw [ile_t (by omega) (by omega) (by omega)]
        dsimp only
        rw [k_4, g_rd_in (by omega) (by omega), h.2.1 4 (by omega)]
        by_cases c : A 9 4 ≤ cnt (riv A (A 1 b)) b
        · rw [ile_t (by omega) (by omega) c, decide_eq_false (p := cnt (riv A (A 1 b)) b < A 9 4) (by omega)]; rfl
        · rw [ile_f (by omega) (by omega) c, decide_eq_true (p := cnt (riv A (A 1 b)) b < A 9 4) (by omega)]; rfl
theorem m_judgesOutside (hN : 200 ≤ N) (h : RM A τ) (hw : WF A) {b g : Nat} (hb : b < A 0 0) (hg : g < 128) : f_X8_judgesOutside N τ (nI b) (nI g) = some (nI (outs A b g)) := by
  have hnb := hw.1.1
  unfold f_X8_judgesOutside L_X8_judgesOutside_5
  refine lq2_seq (B := B_X8_judgesOutside_5 N τ (nI b) (nI g) (fun y8 y9 => some y8)) (fun k => nI (cnt (fun j => !g.testBit j && !brd A j b) k)) (fun k => nI k) _ 7 ?_ ?_ N (by omega)
  · intro k hk rc
    unfold B_X8_judgesOutside_5
    rw [k_7, ile_f (by omega) (by omega) (by omega), bt_val _ (by omega), bt_nI _ _ (by omega)]
    cases e : g.testBit k
    · rw [if_pos zb_f, m_isBarred h hw hk hb, Option.bind_some]
      cases eb : brd A k b
      · rw [if_pos zb_f, g_lt_e, g_lt_e, nI_1, nI_1, cnt_t (by rw [e, eb]; rfl)]
      · rw [if_neg (by decide), g_lt_e, g_lt_e, nI_z, nI_1, cnt_f (by rw [eb]; simp)]
    · rw [if_neg (by decide), g_lt_e, g_lt_e, nI_z, nI_1, cnt_f (by rw [e]; rfl)]
  · intro rc
    rfl
theorem m_bits (hN : 200 ≤ N) {g : Nat} (hg : g < 128) : f_X8_bits N τ (nI g) = some (nI (pcn g)) := by
  unfold f_X8_bits L_X8_bits_4
  refine lq2_seq (B := B_X8_bits_4 N τ (nI g) (fun y3 y4 => some y3)) (fun k => nI (cnt (fun i => g.testBit i) k)) (fun k => nI k) _ 7 ?_ ?_ N (by omega)
  · intro k hk rc
    unfold B_X8_bits_4
    rw [k_7, ile_f (by omega) (by omega) (by omega), bt_val _ (by omega), bt_nI _ _ (by omega), g_lt_e, g_lt_e, nI_1]
    cases e : g.testBit k
    · rw [zb_f, nI_z, cnt_f e]
    · rw [zb_t, nI_1, cnt_t e]
  · intro rc
    rfl
theorem m_need (hN : 200 ≤ N) (h : RM A τ) (hw : WF A) {g : Nat} (hg : g < 128) {x : Int32} (K : Int32 → Int32 → Option Int32) : L_X8_load_16 N τ x (nI g) K N (0 : Int32) (0 : Int32) = K (nI (need A (A 9 5) g)) (nI (A 0 0)) := by
  have hnb := hw.1.1
  have h5 := hw.2.2.1 5 (by omega)
  have h5' : A 9 5 ≤ 3 := h5.2
  unfold L_X8_load_16
  have e24 : need A (A 9 5) g = sumN (fun b => if inb A b then A 9 5 - outs A b g else 0) (A 0 0) := by
    unfold need
    rw [sumN_to (n := A 0 0) hnb (fun k hk _ => by rw [inb_nb hk]; rfl)]
  rw [e24]
  refine lq2_seq (B := B_X8_load_16 N τ x (nI g) K) (fun k => nI (sumN (fun b => if inb A b then A 9 5 - outs A b g else 0) k)) (fun k => nI k) _ (A 0 0) ?_ ?_ N (by omega)
  · intro k hk rc
    have ho := outs_le A k g
    unfold B_X8_load_16
    rw [h.2.2.1.1, ile_f (by omega) (by omega) (by omega), m_isIn hN h hw hk, Option.bind_some, show sumN (fun b => if inb A b then A 9 5 - outs A b g else 0) (k + 1) = sumN (fun b => if inb A b then A 9 5 - outs A b g else 0) k + (if inb A k = true then A 9 5 - outs A k g else 0) from rfl, inb_in hk]
    cases e : isin A k
    · rw [if_pos zb_f, g_lt_e, nI_1]; rfl
    · rw [if_neg (by decide), m_judgesOutside hN h hw hk hg, Option.bind_some, k_5, g_rd_in (by omega) (by omega), g_rd_in (by omega) (by omega), h.2.1 5 (by omega), if_pos rfl]
      by_cases c : A 9 5 ≤ outs A k g
      · rw [ile_t (by omega) (by omega) c, g_lt_e, g_lt_e, nI_z, nI_1, show A 9 5 - outs A k g = 0 by omega]; rfl
      · rw [ile_f (by omega) (by omega) c, g_lt_e, g_lt_e, pk_sub (by omega), nI_add, nI_1]
  · intro rc
    unfold B_X8_load_16
    rw [h.2.2.1.1, ile_t (by omega) (by omega) (by omega)]
theorem sumN_0 {g : Nat → Nat} : ∀ {n : Nat}, sumN g n = 0 ↔ ∀ k, k < n → g k = 0
  | 0 => ⟨fun _ k hk => absurd hk (by omega), fun _ => rfl⟩
  | n + 1 => by
    have ih := sumN_0 (g := g) (n := n)
    show sumN g n + g n = 0 ↔ _
    constructor
    · intro h k hk
      by_cases he : k = n
      · rw [he]; omega
      · exact ih.mp (by omega) k (by omega)
    · intro h
      have := ih.mpr (fun k hk => h k (by omega))
      have := h n (by omega)
      omega
theorem need_0 {r : Nat} : need A r 0 = 0 ↔ (List.range 24).find? (lacks A r) = none := by
  unfold need
  rw [sumN_0]
  have eo : ∀ b, outs A b 0 = cnt (fun j => !brd A j b) 7 := by
    intro b
    unfold outs
    exact cnt_congr (fun k _ => by rw [Nat.zero_testBit]; rfl)
  constructor
  · intro h
    rcases find_cases (lacks A r) 24 with ⟨h1, h2⟩ | ⟨e, he, h1, h2, h3⟩
    · exact h1
    · have := h e he
      unfold lacks at h1
      rw [Bool.and_eq_true, decide_eq_true_iff] at h1
      rw [h1.1, if_pos rfl, eo] at this
      omega
  · intro h k hk
    have h2 : lacks A r k = false := by
      rcases find_cases (lacks A r) 24 with ⟨h1, h2⟩ | ⟨e, he, h1, h2, h3⟩
      · exact h2 k hk
      · rw [h3] at h; cases h
    unfold lacks at h2
    cases e : inb A k
    · rfl
    · rw [if_pos rfl, eo]
      rw [e, Bool.true_and, decide_eq_false_iff_not] at h2
      omega
theorem M_load (hN : 200 ≤ N) (h : RM A τ) (hw : WF A) : f_X8_load N τ = some (anLoad A) := by
  have hnb := hw.1.1
  have h5 := hw.2.2.1 5 (by omega)
  have h5' : A 9 5 ≤ 3 := h5.2
  unfold f_X8_load L_X8_load_4 anLoad
  have body : ∀ g, g < 128 → ∀ (y : Nat), y ≤ 200 → ∀ rc, B_X8_load_4 N τ (fun y23 y24 => some y23) rc (nI y) (nI g) = if g = 0 then (if need A (A 9 5) 0 = 0 then rc (nI y) (nI 1) else some (-1)) else rc (nI (if y < (need A (A 9 5) g + pcn g - 1) / pcn g then (need A (A 9 5) g + pcn g - 1) / pcn g else y)) (nI (g + 1)) := by
    intro g hg y hy rc
    have hne := need_le A (g := g) h5'
    unfold B_X8_load_4
    rw [k_128, ile_f (by omega) (by omega) (by omega), m_need hN h hw hg]
    rw [m_bits hN hg, Option.bind_some, k_0]
    by_cases g0 : g = 0
    · subst g0
      rw [show pcn 0 = 0 by decide, if_pos rfl, if_pos rfl]
      by_cases n0 : need A (A 9 5) 0 = 0
      · rw [n0, ile_t (by omega) (by omega) (by omega), if_pos rfl, if_pos rfl, ile_t (by omega) (by omega) (by omega), g_lt_e, nI_1]
      · rw [ile_f (by omega) (by omega) (by omega), if_neg n0]
        rfl
    · have hp := pcn_pos g hg (by omega)
      rw [if_neg g0, ieq_f (by omega) (by omega) (by omega), ieq_f (by omega) (by omega) (by omega)]
      unfold g_dv
      have hdl : (need A (A 9 5) g + pcn g - 1) / pcn g ≤ need A (A 9 5) g + pcn g - 1 := Nat.div_le_self _ _
      rw [if_neg (by rw [k_0, n_eq (by omega) (by omega)]; omega), nI_add, k_1, pk_sub (by omega), pk_div (by omega) (by omega) (by omega), g_lt_e]
      by_cases c : (need A (A 9 5) g + pcn g - 1) / pcn g ≤ y
      · rw [ile_t (by omega) (by omega) c, if_neg (by omega), g_lt_e, nI_add]
      · rw [ile_f (by omega) (by omega) c, if_pos (by omega), g_lt_e, nI_add]
  by_cases n0 : need A (A 9 5) 0 = 0
  · rw [if_pos (need_0.mp n0)]
    refine lq2_seq (B := B_X8_load_4 N τ (fun y23 y24 => some y23)) (fun g => nI (ldm A (A 9 5) (g - 1))) (fun g => nI g) _ 128 ?_ ?_ N (by omega)
    · intro g hg rc
      have hl := ldm_le A h5' (g - 1)
      rw [body g hg _ hl rc]
      by_cases g0 : g = 0
      · subst g0
        rw [if_pos rfl, if_pos n0]
      · rw [if_neg g0]
        obtain ⟨k, rfl⟩ : ∃ k, g = k + 1 := ⟨g - 1, by omega⟩
        rfl
    · intro rc
      rfl
  · rw [if_neg (fun e => n0 (need_0.mpr e))]
    refine lq2_seq (B := B_X8_load_4 N τ (fun y23 y24 => some y23)) (fun g => nI 0) (fun g => nI g) _ 0 (fun k hk => absurd hk (by omega)) ?_ N (by omega)
    intro rc
    rw [body 0 (by omega) 0 (by omega) rc, if_pos rfl, if_neg n0]
end MAsk1
