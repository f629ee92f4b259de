/-! ===== the reference: listed, places, ties ===== -/
def PG (A : AS) (T : Nat → Bool) (g : Nat → Nat) : Prop := (∀ i, i < cnt T 24 → g i < 24 ∧ T (g i) = true) ∧ (∀ b, T b = true → ∃ i, i < cnt T 24 ∧ g i = b) ∧ (∀ i k, i < cnt T 24 → k < cnt T 24 → g i = g k → i = k) ∧ (∀ b, T b = true → b < A 0 0)
def LSt (τ : ZS) (T : Nat → Bool) (g : Nat → Nat) : Prop := τ 0 29 = nI (cnt T 24) ∧ ∀ i, i < cnt T 24 → τ 21 i = nI (g i)
theorem LSt.of {σ τ : ZS} {T : Nat → Bool} {g : Nat → Nat} (h : LSt σ T g) (h0 : τ 0 29 = σ 0 29) (h1 : τ 21 = σ 21) : LSt τ T g := by unfold LSt; rw [h0, h1]; exact h
def plI (p : Nat) : Int32 := if p < 24 then nI p else -1
theorem iI_1 : iI 1 = 1 := by decide
theorem iI_0 : iI 0 = 0 := by decide
theorem iI_m1 : iI (-1) = -1 := by decide
section MPlace
variable {N : Nat} {τ : ZS} {A : AS} {T : Nat → Bool} {g : Nat → Nat} {s : Nat}
theorem m_counts (h : RM A τ) (hw : WF A) {j : Nat} (hj : j < 7) (hs : s < 2) : f_X8_counts N τ (nI j) (nI s) = some (zb (cts A s j)) := by
  obtain ⟨h1, h2⟩ := h.2.2.2.2.1.2 (2 * j + s) (by omega)
  have h3 := (hw.2.2.2.1.2.2.1 (2 * j + s)).1
  have h4 := hw.2.2.2.1.1 s
  unfold f_X8_counts cts
  rw [k_2, pk_mul, nI_add, g_rd_in (by omega) (by omega), h1]
  by_cases e : A 12 (2 * j + s) = 0
  · rw [if_pos e, if_pos rfl, decide_eq_false (not_not_intro e)]; rfl
  · rw [if_neg e, if_neg (by decide), g_rd_in (by omega) (by omega), g_rd_in (by omega) (by omega), (h2 e).1, h.2.2.2.2.1.1 s hs, decide_eq_true e]
    by_cases c : A 10 s < A 12 (2 * j + s) - 1
    · rw [ilt_t (by omega) (by omega) c, decide_eq_false (by omega)]; rfl
    · rw [ilt_f (by omega) (by omega) c, decide_eq_true (by omega)]; rfl
theorem pg_hit (hg : PG A T g) {b : Nat} : decide (0 < cnt (fun i => decide (g i = b)) (cnt T 24)) = T b := by
  apply Bool.eq_iff_iff.mpr
  rw [decide_eq_true_iff, cnt_pos]
  constructor
  · rintro ⟨i, hi, he⟩
    rw [decide_eq_true_iff] at he
    rw [← he]; exact (hg.1 i hi).2
  · intro h
    obtain ⟨i, hi, he⟩ := hg.2.1 b h
    exact ⟨i, hi, by simp [he]⟩
theorem m_isListed (hN : 200 ≤ N) (hg : PG A T g) (hl : LSt τ T g) {b : Nat} (hb : b < 2147483648) : f_X8_isListed N τ (nI b) = some (zb (T b)) := by
  have hc := cnt_le T 24
  unfold f_X8_isListed L_X8_isListed_4
  rw [← pg_hit hg]
  refine lq2_seq (B := B_X8_isListed_4 N τ (nI b) (fun y5 y6 => g_zr y5 (some y5))) (fun k => zb (decide (0 < cnt (fun i => decide (g i = b)) k))) (fun k => nI k) _ (cnt T 24) ?_ ?_ N (by omega)
  · intro k hk rc
    have hgk := (hg.1 k hk).1
    unfold B_X8_isListed_4
    rw [hl.1, ile_f (by omega) (by omega) (by omega), cnt_s]
    by_cases c : 0 < cnt (fun i => decide (g i = b)) k
    · rw [decide_eq_true c, if_neg (by decide), g_lt_e, nI_1, decide_eq_true (by omega)]; rfl
    · rw [decide_eq_false c, if_pos zb_f, g_rd_in (by omega) (by omega), hl.2 k hk]
      by_cases e : g k = b
      · rw [ieq_t e, g_lt_e, nI_1, decide_eq_true e, if_pos rfl, decide_eq_true (by omega)]; rfl
      · rw [ieq_f (by omega) (by omega) e, g_lt_e, nI_1, decide_eq_false e, if_neg (by decide), decide_eq_false (by omega)]; rfl
  · intro rc
    unfold B_X8_isListed_4
    rw [hl.1, ile_t (by omega) (by omega) (by omega)]
    exact g_zr_b
theorem m_placeOn (hN : 200 ≤ N) (h : RM A τ) (hw : WF A) (hg : PG A T g) (hl : LSt τ T g) {j b : Nat} (hj : j < 7) (hs : s < 2) (hb : b < 24) : f_X8_placeOn N τ (nI j) (nI s) (nI b) = some (plI (plc A s T j b)) := by
  have hnb := hw.1.1
  have h13 := (hw.2.2.2.1.2.2.1 (2 * j + s)).2
  obtain ⟨h1, h2⟩ := h.2.2.2.2.1.2 (2 * j + s) (by omega)
  unfold f_X8_placeOn
  rw [m_counts h hw hj hs, Option.bind_some]
  show _ = some (plI (plk A s T j 12 b))
  unfold plk
  cases ec : cts A s j
  · rw [if_pos zb_f]
    have : (List.range 12).find? (fun i => okb A s T j i && decide (chs A s j i = b)) = none := by
      rcases find_cases (fun i => okb A s T j i && decide (chs A s j i = b)) 12 with ⟨hf, -⟩ | ⟨e, he, hq, -, hf⟩
      · exact hf
      · unfold okb at hq
        rw [ec] at hq
        simp at hq
    rw [this]
    rfl
  · have e12 : A 12 (2 * j + s) ≠ 0 := by
      unfold cts at ec
      rw [Bool.and_eq_true, decide_eq_true_iff] at ec
      exact ec.1
    obtain ⟨-, r16, r17⟩ := h2 e12
    rw [if_neg (by decide), g_lt_e, k_2, pk_mul, nI_add]
    unfold L_X8_placeOn_24
    have chl : ∀ i, i < A 13 (2 * j + s) → chs A s j i < A 0 0 := fun i hi => hw.2.2.2.1.2.2.2.1 (2 * j + s) i (by omega) hi
    have ok : ∀ i, i < A 13 (2 * j + s) → okb A s T j i = (T (chs A s j i) && !brd A j (chs A s j i)) := fun i hi => by
      unfold okb
      rw [ec, decide_eq_true hi]; rfl
    have step : ∀ k, k < A 13 (2 * j + s) → (okb A s T j k && decide (chs A s j k = b)) = false → ∀ rc, B_X8_placeOn_24 N τ (nI j) (nI b) (nI (2 * j + s)) (fun y11 y12 => some (-1 : Int32)) rc (nI (cnt (okb A s T j) k)) (nI k) = rc (nI (cnt (okb A s T j) (k + 1))) (nI (k + 1)) := by
      intro k hk hq rc
      have hck := chl k hk
      unfold B_X8_placeOn_24
      rw [g_rd_in (by omega) (by omega), r16, ile_f (by omega) (by omega) (by omega), k_12, pk_mul, nI_add, g_rd_in (by omega) (by omega), r17 k hk, show A 14 (12 * (2 * j + s) + k) = chs A s j k from rfl, m_isListed hN hg hl (by omega), Option.bind_some]
      cases eT : T (chs A s j k)
      · rw [if_pos zb_f, g_lt_e, nI_1, cnt_f (by rw [ok k hk, eT]; rfl)]
      · rw [if_neg (by decide), m_isBarred h hw hj hck, Option.bind_some]
        cases eb : brd A j (chs A s j k)
        · rw [if_pos zb_f]
          rw [ok k hk, eT, eb] at hq
          have hq : decide (chs A s j k = b) = false := hq
          rw [ieq_f (by omega) (by omega) (of_decide_eq_false hq), g_lt_e, g_lt_e, nI_1, nI_1, cnt_t (by rw [ok k hk, eT, eb]; rfl)]
        · rw [if_neg (by decide), g_lt_e, nI_1, cnt_f (by rw [ok k hk, eT, eb]; rfl)]
    rcases find_cases (fun i => okb A s T j i && decide (chs A s j i = b)) 12 with ⟨hf, hall⟩ | ⟨e, he, hq, hbf, hf⟩
    · rw [hf]
      refine lq2_seq (B := B_X8_placeOn_24 N τ (nI j) (nI b) (nI (2 * j + s)) (fun y11 y12 => some (-1 : Int32))) (fun k => nI (cnt (okb A s T j) k)) (fun k => nI k) _ (A 13 (2 * j + s)) (fun k hk rc => step k hk (hall k (by omega)) rc) (fun rc => ?_) N (by omega)
      unfold B_X8_placeOn_24
      rw [g_rd_in (by omega) (by omega), r16, ile_t (by omega) (by omega) (by omega)]
      rfl
    · rw [hf]
      have hke : e < A 13 (2 * j + s) := by
        rw [Bool.and_eq_true] at hq
        have := hq.1
        unfold okb at this
        simp only [Bool.and_eq_true, decide_eq_true_eq] at this
        exact this.1.2
      refine lq2_seq (B := B_X8_placeOn_24 N τ (nI j) (nI b) (nI (2 * j + s)) (fun y11 y12 => some (-1 : Int32))) (fun k => nI (cnt (okb A s T j) k)) (fun k => nI k) _ e (fun k hk rc => step k (by omega) (hbf k hk) rc) (fun rc => ?_) N (by omega)
      have hck := chl e hke
      have hcl := cnt_le (okb A s T j) e
      rw [ok e hke, Bool.and_eq_true, Bool.and_eq_true, decide_eq_true_iff] at hq
      have eb : brd A j (chs A s j e) = false := by simpa using hq.1.2
      unfold B_X8_placeOn_24
      rw [g_rd_in (by omega) (by omega), r16, ile_f (by omega) (by omega) (by omega), k_12, pk_mul, nI_add, g_rd_in (by omega) (by omega), r17 e hke, show A 14 (12 * (2 * j + s) + e) = chs A s j e from rfl, m_isListed hN hg hl (by omega), Option.bind_some, hq.1.1, if_neg (by decide), m_isBarred h hw hj hck, Option.bind_some, eb, if_pos zb_f, ieq_t hq.2]
      show some (nI (cnt (okb A s T j) e)) = some (plI (cnt (okb A s T j) e))
      unfold plI
      rw [if_pos (by omega)]
theorem pl_m1 {p : Nat} (hp : p = 24 ∨ p < 12) : (plI p = -1) = (p = 24) := by
  unfold plI
  rcases hp with hp | hp
  · rw [hp]; simp
  · rw [if_pos (by omega), n_m1 (by omega)]
    exact (eq_false (by omega)).symm
theorem m_more (hN : 200 ≤ N) (h : RM A τ) (hw : WF A) (hg : PG A T g) (hl : LSt τ T g) {a b : Nat} (hs : s < 2) (ha : a < 24) (hb : b < 24) : f_X8_more N τ (nI s) (nI a) (nI b) = some (iI (lead A s T a b)) := by
  unfold f_X8_more L_X8_more_6
  refine lq2_seq (B := B_X8_more_6 N τ (nI s) (nI a) (nI b) (fun y29 y30 => some y29)) (fun k => iI (sumI (ldj A s T a b) k)) (fun k => nI k) _ 7 ?_ ?_ N (by omega)
  · intro k hk rc
    have pa := plk_le (A := A) (s := s) (T := T) (j := k) (b := a) (k := 12) (by omega)
    have pb := plk_le (A := A) (s := s) (T := T) (j := k) (b := b) (k := 12) (by omega)
    have em : ∀ z, iI z - 1 = iI (z - 1) := fun z => by rw [← iI_1, iI_sub]
    have ep : ∀ z, iI z + 1 = iI (z + 1) := fun z => by rw [← iI_1, iI_add]
    unfold B_X8_more_6
    rw [k_7, ile_f (by omega) (by omega) (by omega), m_placeOn hN h hw hg hl hk hs ha, Option.bind_some, m_placeOn hN h hw hg hl hk hs hb, Option.bind_some, show sumI (ldj A s T a b) (k + 1) = sumI (ldj A s T a b) k + ldj A s T a b k from rfl]
    simp only [pl_m1 pa, pl_m1 pb, em, ep, nI_1, g_lt_e]
    unfold ldj
    rcases pa with pa | pa
    · have pa : plc A s T k a = 24 := pa
      rcases pb with pb | pb
      · have pb : plc A s T k b = 24 := pb
        rw [if_pos pa, if_pos pb, pa, pb, if_neg (by omega), if_neg (by omega), Int.add_zero]
      · have pb : plc A s T k b < 12 := pb
        rw [if_pos pa, if_neg (by omega), if_neg (show ¬ (plc A s T k a < plc A s T k b) by omega), if_pos (show plc A s T k b < plc A s T k a by omega), if_pos pa, show ∀ z : Int, z + (-1) = z - 1 from fun z => rfl]
    · have pa : plc A s T k a < 12 := pa
      rw [if_neg (show ¬ (plc A s T k a = 24) by omega)]
      rcases pb with pb | pb
      · have pb : plc A s T k b = 24 := pb
        rw [if_pos pb, if_pos pb, if_pos (show plc A s T k a < plc A s T k b by omega)]
      · have pb : plc A s T k b < 12 := pb
        have n1 : ¬ plc A s T k b = 24 := by omega
        have n2 : ¬ plc A s T k a = 24 := by omega
        unfold plI
        rw [if_pos (show plc A s T k a < 24 by omega), if_pos (show plc A s T k b < 24 by omega), if_neg n1]
        by_cases c : plc A s T k b ≤ plc A s T k a
        · rw [ile_t (by omega) (by omega) c, if_neg n1, if_neg n2, if_neg (show ¬ (plc A s T k a < plc A s T k b) by omega)]
          by_cases c2 : plc A s T k a ≤ plc A s T k b
          · rw [ile_t (by omega) (by omega) c2, if_neg (show ¬ (plc A s T k b < plc A s T k a) by omega), Int.add_zero]
          · rw [ile_f (by omega) (by omega) c2, if_pos (show plc A s T k b < plc A s T k a by omega), show ∀ z : Int, z + (-1) = z - 1 from fun z => rfl]
        · rw [ile_f (by omega) (by omega) c, if_neg n1, if_neg n2, if_pos (show plc A s T k a < plc A s T k b by omega), ile_t (by omega) (by omega) (by omega)]
  · intro rc
    rfl
theorem plc_inj (hw : WF A) (hT : ∀ b, T b = true → b < 24) {j a b : Nat} (hj : j < 7) (hs : s < 2) (ha : plc A s T j a < 24) (he : plc A s T j a = plc A s T j b) : a = b := by
  have pa := plk_le (A := A) (s := s) (T := T) (j := j) (b := a) (k := 12) (by omega)
  have pa : plc A s T j a < 12 := by
    rcases pa with pa | pa
    · have pa : plc A s T j a = 24 := pa
      omega
    · exact pa
  rcases row_plc (i := plc A s T j a) hw.2.2.2.1 hj hs pa hT with ⟨-, h2⟩ | ⟨d, -, -, -, -, h5⟩
  · exact absurd rfl (h2 a)
  · rw [h5 a rfl, h5 b he.symm]
def tfst (A : AS) (s : Nat) (T : Nat → Bool) (a b : Nat) : Bool := decide (tieN A s T (cC A) b < tieN A s T (cC A) a ∨ (tieN A s T (cC A) a = tieN A s T (cC A) b ∧ a < b))
theorem m_isFirst (hN : 200 ≤ N) (h : RM A τ) (hw : WF A) (hg : PG A T g) (hl : LSt τ T g) {a b : Nat} (hs : s < 2) (ha : a < 24) (hb : b < 24) : f_X8_isFirst N τ (nI s) (nI a) (nI b) = some (zb (tfst A s T a b)) := by
  have hT : ∀ b, T b = true → b < 24 := fun b hb => by have := hg.2.2.2 b hb; have := hw.1.1; omega
  have h10 : A 9 10 ≤ 1 := (hw.2.2.1 10 (by omega)).2
  unfold f_X8_isFirst tfst tieN cC
  rw [k_10, g_rd_in (by omega) (by omega), h.2.1 10 (by omega)]
  by_cases c : A 9 10 = 1
  · rw [if_pos (show nI (A 9 10) = 1 by rw [c]; rfl), decide_eq_true c, if_pos rfl, if_pos rfl]
    have pa := plk_le (A := A) (s := s) (T := T) (j := 0) (b := a) (k := 12) (by omega)
    have pb := plk_le (A := A) (s := s) (T := T) (j := 0) (b := b) (k := 12) (by omega)
    rw [k_0, m_placeOn hN h hw hg hl (show 0 < 7 by omega) hs ha, Option.bind_some, m_placeOn hN h hw hg hl (show 0 < 7 by omega) hs hb, Option.bind_some]
    simp only [pl_m1 pa, pl_m1 pb]
    rcases pa with pa | pa
    · have pa : plc A s T 0 a = 24 := pa
      rw [if_pos pa]
      rcases pb with pb | pb
      · have pb : plc A s T 0 b = 24 := pb
        rw [if_pos pb, pa, pb]
        by_cases c2 : b ≤ a
        · rw [ile_t (by omega) (by omega) c2, decide_eq_false (by omega)]; rfl
        · rw [ile_f (by omega) (by omega) c2, decide_eq_true (by omega)]; rfl
      · have pb : plc A s T 0 b < 12 := pb
        rw [if_neg (show ¬ (plc A s T 0 b = 24) by omega), if_neg (show ¬ (plc A s T 0 b = 24) by omega), if_pos pa, decide_eq_false (by omega)]; rfl
    · have pa : plc A s T 0 a < 12 := pa
      rw [if_neg (show ¬ (plc A s T 0 a = 24) by omega)]
      rcases pb with pb | pb
      · have pb : plc A s T 0 b = 24 := pb
        rw [if_pos pb, decide_eq_true (by omega)]; rfl
      · have pb : plc A s T 0 b < 12 := pb
        rw [if_neg (show ¬ (plc A s T 0 b = 24) by omega), if_neg (show ¬ (plc A s T 0 a = 24) by omega)]
        unfold plI
        rw [if_pos (show plc A s T 0 a < 24 by omega), if_pos (show plc A s T 0 b < 24 by omega)]
        by_cases c2 : plc A s T 0 b ≤ plc A s T 0 a
        · rw [ile_t (by omega) (by omega) c2, decide_eq_false]
          · rfl
          · rintro (e | ⟨e1, e2⟩)
            · omega
            · have := plc_inj (b := b) hw hT (show 0 < 7 by omega) hs (show plc A s T 0 a < 24 by omega) (show plc A s T 0 a = plc A s T 0 b by omega)
              omega
        · rw [ile_f (by omega) (by omega) c2, decide_eq_true (by omega)]; rfl
  · rw [if_neg (show ¬ (nI (A 9 10) = 1) by rw [k_1, n_eq (by omega) (by omega)]; exact c), decide_eq_false c, if_neg (show ¬ (false = true) by decide), if_neg (show ¬ (false = true) by decide)]
    by_cases c2 : b ≤ a
    · rw [ile_t (by omega) (by omega) c2, decide_eq_false (by omega)]; rfl
    · rw [ile_f (by omega) (by omega) c2, decide_eq_true (by omega)]; rfl
end MPlace
