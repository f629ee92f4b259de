section Pairs2
variable {N : Nat} {σ : ZS} {A : AS} {T : Nat → Bool} {s : Nat} {c : Bool}
theorem d_valueByPairs (hN : 200 ≤ N) (h : TL A s T c σ) : f_X5_valueByPairs N σ = some (fl (fl σ 30 (fun x => maskN (bts A s T x) 24) 24) 28 (fun b => iI (vQ A s T b)) 24) := by
  unfold f_X5_valueByPairs
  rw [d_comparePairs hN h, Option.bind_some]
  generalize hτ : fl σ 30 (fun x => maskN (bts A s T x) 24) 24 = τ
  have h30 : ∀ x, x < 24 → τ 30 x = maskN (bts A s T x) 24 := fun x hx => by rw [← hτ]; exact fl_p hx
  unfold L_X5_valueByPairs_6
  refine Eq.trans (congrArg (lq2 _ N 0) (fl_0 (p := 28) (g := fun b => iI (vQ A s T b))).symm) ?_
  refine lq2_seq (fun k => nI k) (fun k => fl τ 28 (fun b => iI (vQ A s T b)) k) _ 24 ?_ ?_ N (by omega)
  · intro b hb rc
    unfold B_X5_valueByPairs_6
    rw [k_24]
    simp only [n_le (show 24 < 2147483648 by omega) (show b < 2147483648 by omega)]
    rw [if_neg (by omega), g_rd_in hb (by omega), fl_q (by omega), h30 b hb, d_bitCount, Option.bind_some, g_wr_in hb (by omega)]
    unfold L_X5_valueByPairs_29
    have e0 : zu (fl τ 28 (fun b => iI (vQ A s T b)) b) 28 b (nI (cnt (bts A s T b) 24)) = zu (fl τ 28 (fun b => iI (vQ A s T b)) b) 28 b (iI ((cnt (bts A s T b) 24 : Int) - cnt (fun o => bts A s T o b) 0)) := by
      rw [show ((cnt (bts A s T b) 24 : Int) - cnt (fun o => bts A s T o b) 0) = (cnt (bts A s T b) 24 : Int) by show (cnt (bts A s T b) 24 : Int) - ((0 : Nat) : Int) = _; omega, iI_nI]
    rw [e0]
    refine lq2_seq (fun o => nI o) (fun o => zu (fl τ 28 (fun b => iI (vQ A s T b)) b) 28 b (iI ((cnt (bts A s T b) 24 : Int) - cnt (fun o => bts A s T o b) o))) _ 24 ?_ ?_ N (by omega)
    · intro o ho rc2
      unfold B_X5_valueByPairs_29
      rw [k_24]
      simp only [n_le (show 24 < 2147483648 by omega) (show o < 2147483648 by omega)]
      rw [if_neg (by omega), g_rd_in ho (by omega), zu_q (by omega), fl_q (by omega), h30 o ho, d_contains (by omega), Option.bind_some, bt_mask _ (by omega) (by omega), decide_eq_true hb, Bool.true_and]
      simp only [zb_0, g_lt_e, nI_1]
      have cs : (cnt (fun o => bts A s T o b) (o + 1) : Int) = cnt (fun o => bts A s T o b) o + if bts A s T o b = true then 1 else 0 := by
        show ((cnt (fun o => bts A s T o b) o + (if bts A s T o b = true then 1 else 0) : Nat) : Int) = _
        split <;> simp
      by_cases hq : bts A s T o b = true
      · rw [if_neg (by rw [hq]; decide), g_rd_in hb (by omega), g_wr_in hb (by omega), zu_p, cs, if_pos hq]
        congr 1
        funext q i
        rw [zu_e, zu_e, zu_e]
        by_cases hqi : q = 28 ∧ i = b
        · rw [if_pos hqi, if_pos hqi, show (1 : Int32) = iI 1 from rfl, iI_sub]
          congr 1
          omega
        · rw [if_neg hqi, if_neg hqi, if_neg hqi]
      · have hq' : bts A s T o b = false := by simpa using hq
        rw [if_pos hq', cs, if_neg hq, Int.add_zero]
    · intro rc2
      unfold B_X5_valueByPairs_29
      rw [if_pos (by decide)]
      simp only [g_lt_e, nI_1]
      rw [← fl_s]
      rfl
  · intro rc
    unfold B_X5_valueByPairs_6
    rw [if_pos (by decide)]
/-- a ring of books: the first that is found, number by number -/
def rg3 (A : AS) (s : Nat) (T : Nat → Bool) (a b c : Nat) : Bool := bts A s T a b && (bts A s T b c && bts A s T c a)
def rg2 (A : AS) (s : Nat) (T : Nat → Bool) (a b : Nat) : Option Nat := (List.range 24).find? (rg3 A s T a b)
def rg1 (A : AS) (s : Nat) (T : Nat → Bool) (a : Nat) : Option Nat := (List.range 24).find? (fun b => (rg2 A s T a b).isSome)
def rg0 (A : AS) (s : Nat) (T : Nat → Bool) : Option Nat := (List.range 24).find? (fun a => (rg1 A s T a).isSome)
def ringI (A : AS) (s : Nat) (T : Nat → Bool) (w : Nat) : Int32 := match rg0 A s T with
  | none => -1
  | some a => match rg1 A s T a with
    | none => -1
    | some b => match rg2 A s T a b with
      | none => -1
      | some c => nI (if w = 0 then a else if w = 1 then b else c)
theorem rg3_f {A : AS} {s : Nat} {T : Nat → Bool} {a b : Nat} (h : bts A s T a b = false) : rg2 A s T a b = none := by
  unfold rg2
  rcases find_cases (rg3 A s T a b) 24 with ⟨hf, -⟩ | ⟨e, he, hq, -, -⟩
  · exact hf
  · unfold rg3 at hq
    rw [h] at hq
    cases hq
theorem d_findRing (hN : 200 ≤ N) (h30 : ∀ x, x < 24 → σ 30 x = maskN (bts A s T x) 24) : f_X5_findRing N σ = some (match rg0 A s T with | none => ((0 : Int32), σ) | some a => match rg1 A s T a with | none => (0, σ) | some b => match rg2 A s T a b with | none => (0, σ) | some c => (1, zu (zu (zu σ 31 0 (nI a)) 31 1 (nI b)) 31 2 (nI c))) := by
  have con : ∀ x y, x < 24 → y < 24 → ∀ τ, f_X7_contains N τ (maskN (bts A s T x) 24) (nI y) = some (zb (bts A s T x y)) := by
    intro x y hx hy τ
    rw [d_contains (by omega), bt_mask _ (by omega) (by omega), decide_eq_true hy, Bool.true_and]
  -- the innermost loop
  have L3 : ∀ a b, a < 24 → b < 24 → ∀ K : Int32 → Option (Int32 × ZS), (rg2 A s T a b = none → ∃ z, L_X5_findRing_18 N σ (nI a) (nI b) K N 0 = K z) ∧ (∀ e, rg2 A s T a b = some e → L_X5_findRing_18 N σ (nI a) (nI b) K N 0 = some (1, zu (zu (zu σ 31 0 (nI a)) 31 1 (nI b)) 31 2 (nI e))) := by
    intro a b ha hb K
    have stp : ∀ rc k, k < 24 → bts A s T a b = true → rg3 A s T a b k = false → B_X5_findRing_18 N σ (nI a) (nI b) K rc (nI k) = rc (nI (k + 1)) := by
      intro rc k hk hab hq
      unfold B_X5_findRing_18
      rw [k_24]
      simp only [n_le (show 24 < 2147483648 by omega) (show k < 2147483648 by omega)]
      rw [if_neg (by omega), g_rd_in ha (by omega), h30 a ha, con a b ha hb, Option.bind_some, hab, if_neg (by decide), g_rd_in hb (by omega), h30 b hb, con b k hb hk, Option.bind_some]
      simp only [zb_0, g_lt_e, nI_1]
      by_cases h1 : bts A s T b k = true
      · rw [if_neg (by rw [h1]; decide), g_rd_in hk (by omega), h30 k hk, con k a hk ha, Option.bind_some]
        simp only [zb_0]
        unfold rg3 at hq
        rw [hab, h1, Bool.true_and, Bool.true_and] at hq
        rw [if_pos hq]
      · have h1' : bts A s T b k = false := by simpa using h1
        rw [if_pos h1']
    constructor
    · intro hn
      by_cases hab : bts A s T a b = true
      · refine ⟨nI 24, ?_⟩
        unfold L_X5_findRing_18
        unfold rg2 at hn
        refine lq1_seq (fun k => nI k) _ 24 (fun k hk rc => stp rc k hk hab ?_) ?_ N (by omega)
        · rcases find_cases (rg3 A s T a b) 24 with ⟨-, hall⟩ | ⟨e, he, hq, -, hf⟩
          · exact hall k hk
          · rw [hn] at hf; cases hf
        · intro rc
          unfold B_X5_findRing_18
          rw [if_pos (by decide)]
      · have hab' : bts A s T a b = false := by simpa using hab
        refine ⟨nI 0, ?_⟩
        unfold L_X5_findRing_18
        refine lq1_seq (fun k => nI k) _ 0 (fun k hk => absurd hk (Nat.not_lt_zero _)) ?_ N (by omega)
        intro rc
        unfold B_X5_findRing_18
        rw [if_neg (by decide), g_rd_in ha (by omega), h30 a ha, con a b ha hb, Option.bind_some, hab', if_pos (by decide)]
    · intro e he
      unfold rg2 at he
      rcases find_cases (rg3 A s T a b) 24 with ⟨hf, -⟩ | ⟨e2, he2, hq, hlt, hf⟩
      · rw [he] at hf; cases hf
      · have : e2 = e := by rw [he] at hf; exact (Option.some.inj hf).symm
        subst this
        have hq' := hq
        unfold rg3 at hq'
        simp only [Bool.and_eq_true] at hq'
        unfold L_X5_findRing_18
        refine lq1_seq (fun k => nI k) _ e2 (fun k hk rc => stp rc k (by omega) hq'.1 (hlt k hk)) ?_ N (by omega)
        intro rc
        unfold B_X5_findRing_18
        rw [k_24]
        simp only [n_le (show 24 < 2147483648 by omega) (show e2 < 2147483648 by omega)]
        rw [if_neg (by omega), g_rd_in ha (by omega), h30 a ha, con a b ha hb, Option.bind_some, hq'.1, if_neg (by decide), g_rd_in hb (by omega), h30 b hb, con b e2 hb he2, Option.bind_some, hq'.2.1, if_neg (by decide), g_rd_in he2 (by omega), h30 e2 he2, con e2 a he2 ha, Option.bind_some, hq'.2.2, if_neg (by decide)]
        rw [show (0 : Int32) = nI 0 from rfl, g_wr_in (by omega) (by omega), show (1 : Int32) = nI 1 from rfl, g_wr_in (by omega) (by omega), show (2 : Int32) = nI 2 from rfl, g_wr_in (by omega) (by omega)]
  have L2 : ∀ a, a < 24 → ∀ K : Int32 → Option (Int32 × ZS), (rg1 A s T a = none → ∃ z, L_X5_findRing_10 N σ (nI a) K N 0 = K z) ∧ (∀ b e, rg1 A s T a = some b → rg2 A s T a b = some e → L_X5_findRing_10 N σ (nI a) K N 0 = some (1, zu (zu (zu σ 31 0 (nI a)) 31 1 (nI b)) 31 2 (nI e))) := by
    intro a ha K
    have stp : ∀ rc k, k < 24 → rg2 A s T a k = none → B_X5_findRing_10 N σ (nI a) K rc (nI k) = rc (nI (k + 1)) := by
      intro rc k hk hn
      unfold B_X5_findRing_10
      rw [k_24]
      simp only [n_le (show 24 < 2147483648 by omega) (show k < 2147483648 by omega)]
      rw [if_neg (by omega)]
      obtain ⟨z, hz⟩ := (L3 a k ha hk (fun y12 => g_lt (nI k + 1) (fun x13 => rc x13))).1 hn
      rw [hz]
      simp only [g_lt_e, nI_1]
    constructor
    · intro hn
      refine ⟨nI 24, ?_⟩
      unfold L_X5_findRing_10
      unfold rg1 at hn
      refine lq1_seq (fun k => nI k) _ 24 (fun k hk rc => stp rc k hk ?_) ?_ N (by omega)
      · rcases find_cases (fun b => (rg2 A s T a b).isSome) 24 with ⟨-, hall⟩ | ⟨e, he, hq, -, hf⟩
        · have := hall k hk
          cases h2 : rg2 A s T a k with
          | none => rfl
          | some z => rw [h2] at this; cases this
        · rw [hn] at hf; cases hf
      · intro rc
        unfold B_X5_findRing_10
        rw [if_pos (by decide)]
    · intro b e hb he
      unfold rg1 at hb
      rcases find_cases (fun b => (rg2 A s T a b).isSome) 24 with ⟨hf, -⟩ | ⟨b2, hb2, hq, hlt, hf⟩
      · rw [hb] at hf; cases hf
      · have : b2 = b := by rw [hb] at hf; exact (Option.some.inj hf).symm
        subst this
        unfold L_X5_findRing_10
        refine lq1_seq (fun k => nI k) _ b2 (fun k hk rc => stp rc k (by omega) ?_) ?_ N (by omega)
        · have := hlt k hk
          cases h2 : rg2 A s T a k with
          | none => rfl
          | some z => rw [h2] at this; cases this
        · intro rc
          unfold B_X5_findRing_10
          rw [k_24]
          simp only [n_le (show 24 < 2147483648 by omega) (show b2 < 2147483648 by omega)]
          rw [if_neg (by omega)]
          exact (L3 a b2 ha hb2 _).2 e he
  have stp : ∀ K rc k, k < 24 → rg1 A s T k = none → B_X5_findRing_2 N σ K rc (nI k) = rc (nI (k + 1)) := by
    intro K rc k hk hn
    unfold B_X5_findRing_2
    rw [k_24]
    simp only [n_le (show 24 < 2147483648 by omega) (show k < 2147483648 by omega)]
    rw [if_neg (by omega)]
    obtain ⟨z, hz⟩ := (L2 k hk (fun y14 => g_lt (nI k + 1) (fun x15 => rc x15))).1 hn
    rw [hz]
    simp only [g_lt_e, nI_1]
  unfold f_X5_findRing L_X5_findRing_2
  rcases find_cases (fun a => (rg1 A s T a).isSome) 24 with ⟨hf, hall⟩ | ⟨a, ha, hq, hlt, hf⟩
  · rw [show rg0 A s T = none from hf]
    refine lq1_seq (fun k => nI k) _ 24 (fun k hk rc => stp _ rc k hk ?_) ?_ N (by omega)
    · have := hall k hk
      cases h2 : rg1 A s T k with
      | none => rfl
      | some z => rw [h2] at this; cases this
    · intro rc
      unfold B_X5_findRing_2
      rw [if_pos (by decide)]
  · rw [show rg0 A s T = some a from hf]
    cases hb : rg1 A s T a with
    | none => rw [hb] at hq; cases hq
    | some b =>
      have hqb : (rg2 A s T a b).isSome = true := by
        unfold rg1 at hb
        exact (List.find?_range_eq_some.mp hb).1
      cases hc : rg2 A s T a b with
      | none => rw [hc] at hqb; cases hqb
      | some e =>
        refine lq1_seq (fun k => nI k) _ a (fun k hk rc => stp _ rc k (by omega) ?_) ?_ N (by omega)
        · have := hlt k hk
          cases h2 : rg1 A s T k with
          | none => rfl
          | some z => rw [h2] at this; cases this
        · intro rc
          unfold B_X5_findRing_2
          rw [k_24]
          simp only [n_le (show 24 < 2147483648 by omega) (show a < 2147483648 by omega)]
          rw [if_neg (by omega)]
          simp only [hb, hc]
          exact (L2 a ha _).2 b e hb hc
theorem d_ringBook (hN : 200 ≤ N) (h30 : ∀ x, x < 24 → σ 30 x = maskN (bts A s T x) 24) {w : Nat} (hw : w < 3) : ∃ τ, eqD σ τ ∧ f_X5_ringBook N σ (nI w) = some (ringI A s T w, τ) := by
  unfold f_X5_ringBook
  rw [show (3 : Int32) - 1 = nI 2 from rfl, k_0, d_within (by omega) (by omega) (by omega), decide_eq_true (Nat.zero_le _), decide_eq_true (show w ≤ 2 by omega), Option.bind_some, if_neg (by decide), d_findRing hN h30]
  unfold ringI
  cases h0 : rg0 A s T with
  | none => exact ⟨σ, eqD.rf, by rw [g_b2_e, if_pos (by decide)]⟩
  | some a =>
    cases h1 : rg1 A s T a with
    | none => exact ⟨σ, eqD.rf, by simp only [h1]; rw [g_b2_e, if_pos (by decide)]⟩
    | some b =>
      cases h2 : rg2 A s T a b with
      | none => exact ⟨σ, eqD.rf, by simp only [h1, h2]; rw [g_b2_e, if_pos (by decide)]⟩
      | some e =>
        refine ⟨zu (zu (zu σ 31 0 (nI a)) 31 1 (nI b)) 31 2 (nI e), ((eqD.rf.put (p := 31) rfl).put (p := 31) rfl).put (p := 31) rfl, ?_⟩
        simp only [h1, h2]
        rw [g_b2_e, if_neg (by decide), g_rd_in hw (by omega)]
        congr 2
        rcases (show w = 0 ∨ w = 1 ∨ w = 2 by omega) with rfl | rfl | rfl
        · rw [zu_i (by omega), zu_i (by omega), zu_p]; rfl
        · rw [zu_i (by omega), zu_p]; rfl
        · rw [zu_p]; rfl
theorem d_ringBook_out {w : Int32} (hw : w < 0 ∨ nI 3 ≤ w) : f_X5_ringBook N σ w = some (-1, σ) := by
  unfold f_X5_ringBook
  rw [show (3 : Int32) - 1 = 2 from rfl, d_isWithin, Option.bind_some, if_pos]
  rw [zb_0]
  rcases hw with hw | hw
  · rw [decide_eq_false (p := 0 ≤ w) (by rw [Int32.not_le]; exact hw)]; rfl
  · have : ¬ w ≤ 2 := by
      intro hle
      rw [Int32.le_iff_toInt_le] at hw hle
      rw [nI_toInt (by omega)] at hw
      have e : (2 : Int32).toInt = 2 := rfl
      omega
    rw [decide_eq_false this, Bool.and_false]
end Pairs2
