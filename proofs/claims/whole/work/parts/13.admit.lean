/-! ===== admitted: which books are in ===== -/
def zfill (σ : ZS) (p : Nat) (x : Int32) : Nat → ZS
  | 0 => σ
  | k + 1 => zu (zfill σ p x k) p k x
theorem zfill_p {σ : ZS} {p : Nat} {x : Int32} {i : Nat} : ∀ k, zfill σ p x k p i = if i < k then x else σ p i
  | 0 => by simp [zfill]
  | k + 1 => by
    unfold zfill
    rw [zu_e, zfill_p k]
    by_cases h : i = k
    · subst h; simp
    · by_cases h2 : i < k
      · rw [if_neg (by omega), if_pos h2, if_pos (by omega)]
      · rw [if_neg (by omega), if_neg h2, if_neg (by omega)]
theorem zfill_q {σ : ZS} {p q : Nat} {x : Int32} (h : q ≠ p) : ∀ k, zfill σ p x k q = σ q
  | 0 => rfl
  | k + 1 => by
    unfold zfill
    rw [zu_q h, zfill_q h k]
/-- the state when the books below k were looked at -/
def rT (A : AS) (σ : ZS) (k : Nat) : ZS := fun q i => if q = 10 ∧ i < 8 then nI (cnt (riv A i) k) else σ q i
theorem rT_q {A : AS} {σ : ZS} {k q : Nat} (h : q ≠ 10) : rT A σ k q = σ q := by
  funext i
  unfold rT
  rw [if_neg (by omega)]
theorem rT_p {A : AS} {σ : ZS} {k i : Nat} (h : i < 8) : rT A σ k 10 i = nI (cnt (riv A i) k) := by
  unfold rT
  rw [if_pos ⟨rfl, h⟩]
theorem rT_0 {A : AS} {σ : ZS} : zfill σ 10 0 8 = rT A σ 0 := by
  funext q i
  by_cases h : q = 10
  · subst h
    rw [zfill_p]
    unfold rT
    by_cases hi : i < 8
    · rw [if_pos hi, if_pos ⟨rfl, hi⟩]; rfl
    · rw [if_neg hi, if_neg (by omega)]
  · rw [zfill_q h, rT_q h]
theorem rT_hit {A : AS} {σ : ZS} {k : Nat} (hp : A 1 k < 8) (h : riv A (A 1 k) k = true) : zu (rT A σ k) 10 (A 1 k) (nI (cnt (riv A (A 1 k)) k + 1)) = rT A σ (k + 1) := by
  funext q i
  rw [zu_e]
  by_cases h1 : q = 10 ∧ i = A 1 k
  · obtain ⟨rfl, rfl⟩ := h1
    rw [if_pos ⟨rfl, rfl⟩, rT_p hp]
    show _ = nI (cnt (riv A (A 1 k)) k + if riv A (A 1 k) k then 1 else 0)
    rw [if_pos h]
  · rw [if_neg h1]
    unfold rT
    by_cases h2 : q = 10 ∧ i < 8
    · rw [if_pos h2, if_pos h2]
      show _ = nI (cnt (riv A i) k + if riv A i k then 1 else 0)
      have : riv A i k = false := by
        unfold riv
        rw [decide_eq_false (fun e => h1 ⟨h2.1, e.symm⟩)]
        rfl
      rw [if_neg (by rw [this]; decide)]
      rfl
    · rw [if_neg h2, if_neg h2]
theorem rT_miss {A : AS} {σ : ZS} {k : Nat} (h : ∀ p, p < 8 → riv A p k = false) : rT A σ k = rT A σ (k + 1) := by
  funext q i
  unfold rT
  by_cases h2 : q = 10 ∧ i < 8
  · rw [if_pos h2, if_pos h2]
    show _ = nI (cnt (riv A i) k + if riv A i k then 1 else 0)
    rw [if_neg (by rw [h i h2.2]; decide)]
    rfl
  · rw [if_neg h2, if_neg h2]
theorem RDb.of6 {A : AS} {σ τ : ZS} (h : RDb A σ) (e6 : τ 6 = σ 6) (e7 : τ 7 = σ 7) (e8 : τ 8 = σ 8) (e9 : τ 9 = σ 9) : RDb A τ := by
  unfold RDb; rw [e6, e7, e8, e9]; exact h
theorem RDr.of4 {A : AS} {σ τ : ZS} (h : RDr A σ) (e4 : τ 4 = σ 4) : RDr A τ := by
  unfold RDr; rw [e4]; exact h
section Adm
variable {N : Nat} {σ : ZS} {A : AS}
theorem d_admitted (hN : 200 ≤ N) (h : RDb A σ) (hr : RDr A σ) (hw : WFb A) (hv : WFr A) : f_X4_admitted N σ = some (maskN (inb A) 24, rT A σ 24) := by
  have hnb := hw.1
  unfold f_X4_admitted L_X4_admitted_2
  refine lq2_seq (fun k => nI k) (fun k => zfill σ 10 0 k) _ 8 ?_ ?_ N (by omega)
  · intro k hk rc
    unfold B_X4_admitted_2
    rw [k_8]
    simp only [n_le (show 8 < 2147483648 by omega) (show k < 2147483648 by omega)]
    rw [if_neg (by omega), g_wr_in hk (by omega), g_lt_e, nI_1]
    rfl
  · intro rc
    unfold B_X4_admitted_2
    rw [if_pos (by decide)]
    show L_X4_admitted_25 N _ N 0 0 (zfill σ 10 0 8) = _
    rw [rT_0 (A := A)]
    unfold L_X4_admitted_25
    refine lq3_seq (fun k => maskN (inb A) k) (fun k => nI k) (fun k => rT A σ k) _ 24 ?_ ?_ N (by omega)
    · intro k hk rc
      have hb' : RDb A (rT A σ k) := h.of6 (rT_q (by omega)) (rT_q (by omega)) (rT_q (by omega)) (rT_q (by omega))
      have hr' : RDr A (rT A σ k) := hr.of4 (rT_q (by omega))
      unfold B_X4_admitted_25
      rw [k_24]
      simp only [n_le (show 24 < 2147483648 by omega) (show k < 2147483648 by omega)]
      rw [if_neg (by omega), d_has hb' hw (by omega), Option.bind_some]
      simp only [zb_0, g_lt_e, nI_1]
      by_cases hn : k < A 0 0
      · rw [decide_eq_true hn, if_neg (by decide), d_takenOut hb' (by omega), Option.bind_some]
        simp only [zb_0]
        have hwd := hw.2.2.1 k
        obtain ⟨wp, -⟩ := hw.2.1 k hn
        by_cases ht : A 5 k = 1
        · rw [decide_eq_true ht, if_neg (by decide)]
          have hm : wit A k = false := by unfold wit; rw [decide_eq_false (by omega)]; rfl
          rw [rT_miss (fun p _ => by unfold riv; rw [hm]; simp)]
          have hi : inb A k = false := by unfold inb isin; rw [hm]; simp
          show rc (maskN (inb A) k) _ _ = rc (maskN (inb A) (k + 1)) _ _
          rw [mask_f hi]
        · rw [decide_eq_false ht, if_pos rfl, d_withinRules hb' hr' hw hv hn, Option.bind_some]
          simp only [zb_0]
          have h5 : A 5 k = 0 := by omega
          have hwit : wit A k = wrl A k := by unfold wit; rw [decide_eq_true h5, Bool.true_and]
          by_cases hq : wrl A k = false
          · rw [if_pos hq]
            rw [rT_miss (fun p _ => by unfold riv; rw [hwit, hq]; simp)]
            have hi : inb A k = false := by unfold inb isin; rw [hwit, hq]; simp
            show rc (maskN (inb A) k) _ _ = rc (maskN (inb A) (k + 1)) _ _
            rw [mask_f hi]
          · have hq' : wrl A k = true := by simpa using hq
            rw [if_neg hq, d_calledIn hb' (by omega), Option.bind_some]
            simp only [zb_0]
            by_cases hc : A 4 k = 1
            · rw [decide_eq_true hc, if_neg (by decide), d_bit, Option.bind_some]
              rw [rT_miss (fun p _ => by unfold riv; rw [decide_eq_false (show ¬ A 4 k = 0 by omega)]; simp)]
              have hi : inb A k = true := by unfold inb isin; rw [hwit, hq', decide_eq_true hn, decide_eq_true hc]; rfl
              show rc (maskN (inb A) k ||| bitm k) _ _ = rc (maskN (inb A) (k + 1)) _ _
              rw [mask_t hi]
            · have h4 : A 4 k = 0 := by omega
              rw [decide_eq_false hc, if_pos rfl, g_rd_in (by omega) (by omega), (hb'.2.1 k hn).1]
              have hcn := cnt_le (riv A (A 1 k)) k
              rw [d_takesPlace hr' hv wp (r := cnt (riv A (A 1 k)) k) (by omega) (rT_p wp), g_b2_e]
              simp only [zb_0]
              have hrv : riv A (A 1 k) k = true := by unfold riv; rw [hwit, hq', decide_eq_true rfl, decide_eq_true h4, decide_eq_true hn]; rfl
              rw [rT_hit wp hrv]
              have hi : inb A k = decide (cnt (riv A (A 1 k)) k < A 9 4) := by unfold inb isin; rw [hwit, hq', decide_eq_true hn, decide_eq_false hc]; simp
              by_cases hl : cnt (riv A (A 1 k)) k < A 9 4
              · rw [decide_eq_true hl] at hi
                rw [decide_eq_true hl, if_neg (by decide), d_bit, Option.bind_some]
                show rc (maskN (inb A) k ||| bitm k) _ _ = rc (maskN (inb A) (k + 1)) _ _
                rw [mask_t hi]
              · rw [decide_eq_false hl] at hi
                rw [decide_eq_false hl, if_pos rfl]
                show rc (maskN (inb A) k) _ _ = rc (maskN (inb A) (k + 1)) _ _
                rw [mask_f hi]
      · rw [decide_eq_false hn, if_pos rfl]
        have h0 := hw.2.2.2 k (by omega)
        have hi : inb A k = false := by unfold inb; rw [decide_eq_false hn]; rfl
        show rc (maskN (inb A) k) _ _ = rc (maskN (inb A) (k + 1)) _ _
        rw [mask_f hi, ← rT_miss (fun p _ => by unfold riv; rw [decide_eq_false hn]; simp)]
    · intro rc
      unfold B_X4_admitted_25
      rw [if_pos (by decide)]
end Adm
