/-! ===== the class's Ranking, and its longlist ===== -/
theorem cnt_le24 (S : Nat → Bool) : cnt S 24 ≤ 24 := cnt_le S 24
theorem rnk_congr {S : Nat → Bool} {kf kg : Nat → Int} (h : ∀ b, b < 24 → S b = true → kf b = kg b) {b : Nat} (hb : b < 24) (hS : S b = true) : rnk S kf b = rnk S kg b := by
  apply cnt_congr
  intro c hc
  cases hc1 : S c with
  | false => rfl
  | true =>
    unfold ahd
    rw [h c hc hc1, h b hb hS]
theorem pck_congr {S : Nat → Bool} {kf kg : Nat → Int} (h : ∀ b, b < 24 → S b = true → kf b = kg b) {k : Nat} (hk : k < cnt S 24) : pck S kf k = pck S kg k := by
  obtain ⟨a1, a2, a3⟩ := pck_rnk (kf := kf) hk
  obtain ⟨b1, b2, b3⟩ := pck_rnk (kf := kg) hk
  apply rnk_inj (kf := kf) a1 b1 a2 b2
  rw [a3, rnk_congr h b1 b2, b3]
def foI (o : Option Nat) : Int32 := match o with
  | none => -1
  | some c => nI c
def dT (σ : ZS) (S : Nat → Bool) (kf : Nat → Int) : Nat → ZS
  | 0 => zu σ 32 2 0
  | k + 1 => zu (zu (dT σ S kf k) 34 k (nI (pck S kf k))) 32 2 (nI (k + 1))
theorem dT_q {σ : ZS} {S : Nat → Bool} {kf : Nat → Int} {q : Nat} (h1 : q ≠ 32) (h2 : q ≠ 34) : ∀ k, dT σ S kf k q = σ q
  | 0 => zu_q h1
  | k + 1 => by
    unfold dT
    rw [zu_q h1, zu_q h2, dT_q h1 h2 k]
theorem dT_n {σ : ZS} {S : Nat → Bool} {kf : Nat → Int} : ∀ k, dT σ S kf k 32 2 = nI k
  | 0 => zu_p
  | k + 1 => zu_p
theorem dT_o {σ : ZS} {S : Nat → Bool} {kf : Nat → Int} {i : Nat} : ∀ {k : Nat}, i < k → dT σ S kf k 34 i = nI (pck S kf i)
  | 0, h => absurd h (Nat.not_lt_zero _)
  | k + 1, h => by
    unfold dT
    rw [zu_q (by omega)]
    by_cases he : i = k
    · subst he; exact zu_p
    · rw [zu_i he, dT_o (by omega)]
def RKD (τ : ZS) (S : Nat → Bool) (kf : Nat → Int) (n : Nat) : Prop := τ 32 2 = nI n ∧ n ≤ cnt S 24 ∧ ∀ i, i < n → τ 34 i = nI (pck S kf i)
section Draw
variable {N : Nat} {σ : ZS} {A : AS}
theorem d_firstOf (hN : 200 ≤ N) {S : Nat → Bool} {kf : Nat → Int} (hk : ∀ b, b < 24 → S b = true → (σ 33 b).toInt = kf b) : f_X2_firstOf N σ (maskN S 24) = some (foI (fo S kf 24)) := by
  unfold f_X2_firstOf L_X2_firstOf_4
  refine lq2_seq (fun k => foI (fo S kf k)) (fun k => nI k) _ 24 ?_ ?_ N (by omega)
  · intro k hk24 rc
    unfold B_X2_firstOf_4
    rw [k_24]
    simp only [n_le (show 24 < 2147483648 by omega) (show k < 2147483648 by omega)]
    rw [if_neg (by omega), d_contains (by omega), Option.bind_some, bt_mask _ (by omega) (by omega), decide_eq_true hk24, Bool.true_and]
    simp only [zb_0, g_lt_e, nI_1]
    show _ = rc (foI (if S k then _ else _)) _
    by_cases hS : S k = true
    · rw [if_neg (by rw [hS]; decide), if_pos hS]
      rcases fo_spec S kf k with ⟨h1, h2⟩ | ⟨c, h1, h2, h3, h4⟩
      · rw [h1]
        show (if (-1 : Int32) = -1 then _ else _) = _
        rw [if_pos rfl]
        rfl
      · rw [h2]
        show (if nI c = -1 then _ else _) = _
        rw [if_neg (by rw [n_m1 (by omega)]; exact id)]
        show g_rd 24 (σ 33) (nI k) (fun v4 => g_rd 24 (σ 33) (nI c) _) = _
        rw [g_rd_in hk24 (by omega), g_rd_in (by omega) (by omega)]
        have e : (σ 33 k ≤ σ 33 c) = (kf k ≤ kf c) := by
          rw [Int32.le_iff_toInt_le, hk k hk24 hS, hk c (by omega) h3]
        simp only [e]
        show _ = rc (foI (if kf c < kf k then _ else _)) _
        by_cases hc : kf k ≤ kf c
        · rw [if_pos hc, if_neg (by omega)]
        · rw [if_neg hc, if_pos (by omega)]; rfl
    · have hS' : S k = false := by simpa using hS
      rw [if_pos hS', if_neg hS]
  · intro rc
    unfold B_X2_firstOf_4
    rw [if_pos (by decide)]
theorem mask_0 {S : Nat → Bool} : (maskN S 24 = 0) = (cnt S 24 = 0) := by
  apply propext
  constructor
  · intro h
    apply Classical.byContradiction
    intro hn
    obtain ⟨b, hb, hS⟩ := cnt_pos.mp (show 0 < cnt S 24 by omega)
    have := congrArg (fun z => bt z b) h
    simp only [b_0] at this
    rw [bt_mask _ (by omega) (by omega), decide_eq_true hb, hS] at this
    cases this
  · intro h
    apply b_ext
    intro i hi
    rw [bt_mask _ (by omega) hi, b_0]
    by_cases h24 : i < 24
    · cases hS : S i with
      | false => simp
      | true =>
        have := cnt_pos.mpr ⟨i, h24, hS⟩
        omega
    · rw [decide_eq_false h24]; rfl
theorem d_draw (hN : 200 ≤ N) {S : Nat → Bool} {kf : Nat → Int} (hk : ∀ b, b < 24 → S b = true → (σ 33 b).toInt = kf b) {most : Nat} (hm : most < 2147483648) : f_X2_draw N σ (maskN S 24) (nI most) = some (dT σ S kf (min most (cnt S 24))) := by
  have hc24 := cnt_le24 S
  unfold f_X2_draw
  rw [g_lt_e]
  unfold L_X2_draw_10
  refine lq3_seq (fun k => maskN (lft S kf k) 24) (fun k => nI k) (fun k => dT σ S kf k) _ (min most (cnt S 24)) ?_ ?_ N (by omega)
  · intro k hke rc
    have hks : k < cnt S 24 := by omega
    obtain ⟨i1, i2, i3⟩ := lft_spec S kf k (by omega)
    obtain ⟨p1, p2, p3, p4⟩ := i3 hks
    unfold B_X2_draw_10
    rw [k_24]
    simp only [n_le (show 24 < 2147483648 by omega) (show k < 2147483648 by omega), n_le hm (show k < 2147483648 by omega), mask_0]
    rw [if_neg (by omega), if_neg (by omega), if_neg (by omega)]
    rw [d_firstOf hN (kf := kf) (S := lft S kf k) (fun b hb hS => by rw [dT_q (by omega) (by omega)]; exact hk b hb (lft_S hS)), Option.bind_some, p2]
    simp only [foI]
    rw [g_wr_in (by omega) (by omega)]
    simp only [g_lt_e, nI_1, d_bit, Option.bind_some]
    have e : maskN (lft S kf k) 24 &&& (bitm (pck S kf k) ^^^ (-1)) = maskN (lft S kf (k + 1)) 24 := by
      apply mask_ext (by omega)
      intro i hi
      rw [b_and, bt_not hi, bt_bitm (by omega) hi, bt_mask _ (by omega) hi]
      show _ = (decide (i < 24) && (lft S kf k i && decide (i ≠ pck S kf k)))
      by_cases he : i = pck S kf k <;> simp [he]
    rw [e]
    rfl
  · intro rc
    unfold B_X2_draw_10
    by_cases h1 : (24 : Int32) ≤ nI (min most (cnt S 24))
    · rw [if_pos h1]
    · rw [if_neg h1]
      by_cases h2 : nI most ≤ nI (min most (cnt S 24))
      · rw [if_pos h2]
      · rw [if_neg h2]
        rw [n_le hm (by omega)] at h2
        have : min most (cnt S 24) = cnt S 24 := by omega
        rw [if_pos]
        rw [mask_0, this]
        have := (lft_spec S kf (cnt S 24) (Nat.le_refl _)).1
        omega
theorem RKD.of (S : Nat → Bool) (kf : Nat → Int) {n : Nat} (h : n ≤ cnt S 24) : RKD (dT σ S kf n) S kf n := ⟨dT_n n, h, fun i hi => dT_o hi⟩
theorem d_bookAt {S : Nat → Bool} {kf : Nat → Int} {n : Nat} (h : RKD σ S kf n) {i : Nat} (hi : i < n) : f_X2_bookAt N σ (nI i) = some (nI (pck S kf i)) := by
  have hc24 := cnt_le24 S
  have hn := h.2.1
  unfold f_X2_bookAt
  rw [h.1, k_1, pk_sub (by omega), k_0, d_within (by omega) (by omega) (by omega), decide_eq_true (Nat.zero_le _), decide_eq_true (show i ≤ n - 1 by omega), Option.bind_some, if_neg (by decide), g_rd_in (by omega) (by omega), h.2.2 i hi]
theorem d_bookAt_out {n : Nat} (h : σ 32 2 = nI n) (hn : n ≤ 24) {i : Int32} (hi : i < 0 ∨ nI n ≤ i) : f_X2_bookAt N σ i = some (-1) := by
  unfold f_X2_bookAt
  rw [h, d_isWithin, Option.bind_some, if_pos]
  rw [zb_0]
  rcases hi with hi | hi
  · rw [decide_eq_false (p := 0 ≤ i) (by rw [Int32.not_le]; exact hi)]; rfl
  · have : ¬ i ≤ nI n - 1 := by
      intro hle
      rw [Int32.le_iff_toInt_le] at hi hle
      rw [k_1, pk_sub_toInt (by omega) (by omega)] at hle
      rw [nI_toInt (by omega)] at hi
      omega
    rw [decide_eq_false this, Bool.and_false]
theorem d_asSet (hN : 200 ≤ N) {S : Nat → Bool} {kf : Nat → Int} {n : Nat} (h : RKD σ S kf n) : f_X2_asSet N σ = some (maskN (fun b => S b && decide (rnk S kf b < n)) 24) := by
  have hc24 := cnt_le24 S
  have hn := h.2.1
  unfold f_X2_asSet L_X2_asSet_4
  have e0 : (0 : Int32) = maskN (fun b => S b && decide (rnk S kf b < 0)) 24 := by
    symm
    rw [mask_0]
    apply Nat.eq_zero_of_not_pos
    intro hp
    obtain ⟨b, _, hb⟩ := cnt_pos.mp hp
    simp at hb
  rw [show lq2 (B_X2_asSet_4 N σ fun y5 y6 => some y5) N 0 0 = lq2 (B_X2_asSet_4 N σ fun y5 y6 => some y5) N (maskN (fun b => S b && decide (rnk S kf b < 0)) 24) (nI 0) by rw [← e0]; rfl]
  refine lq2_seq (fun k => maskN (fun b => S b && decide (rnk S kf b < k)) 24) (fun k => nI k) _ n ?_ ?_ N (by omega)
  · intro k hk rc
    unfold B_X2_asSet_4
    rw [h.1]
    simp only [n_le (show n < 2147483648 by omega) (show k < 2147483648 by omega)]
    obtain ⟨p1, p2, p3⟩ := pck_rnk (kf := kf) (show k < cnt S 24 by omega)
    rw [if_neg (by omega), d_bookAt h hk, Option.bind_some, d_bit, Option.bind_some]
    simp only [g_lt_e, nI_1]
    congr 1
    apply mask_ext (by omega)
    intro i hi
    rw [b_or, bt_bitm (by omega) hi, bt_mask _ (by omega) hi]
    by_cases h24 : i < 24
    · rw [decide_eq_true h24, Bool.true_and, Bool.true_and]
      by_cases he : i = pck S kf k
      · rw [he, p2, p3]; simp
      · rw [decide_eq_false he, Bool.or_false]
        cases hS : S i with
        | false => rfl
        | true =>
          rw [Bool.true_and, Bool.true_and]
          apply decide_eq_decide.mpr
          have : rnk S kf i ≠ k := fun hh => he (rnk_inj h24 p1 hS p2 (hh.trans p3.symm))
          omega
    · rw [decide_eq_false h24, decide_eq_false (p := i = pck S kf k) (by omega)]; rfl
  · intro rc
    unfold B_X2_asSet_4
    rw [h.1, if_pos (by rw [n_le (by omega) (by omega)]; omega)]
theorem d_setKey {b : Nat} (hb : b < 24) {x : Int32} : f_X2_setKey N σ (nI b) x = some (zu σ 33 b x) := by
  unfold f_X2_setKey
  rw [d_isBookNumber (by omega), Option.bind_some, decide_eq_true hb, if_neg (by decide), g_wr_in hb (by omega)]
end Draw
/-! the longlist -/
def cand (A : AS) (b : Nat) : Bool := inb A b && decide (mks A b ≠ 0)
def kL (A : AS) (b : Nat) : Int := ((8 * sms A b * (420 / mks A b) + mks A b : Nat) : Int)
def nL0 (A : AS) : Nat := min (A 9 7) (cnt (cand A) 24)
def kyT (A : AS) (σ : ZS) (k : Nat) : ZS := fun q i => if q = 33 ∧ i < k ∧ cand A i = true then nI (8 * sms A i * (420 / mks A i) + mks A i) else σ q i
theorem kyT_q {A : AS} {σ : ZS} {k q : Nat} (h : q ≠ 33) : kyT A σ k q = σ q := by
  funext i
  unfold kyT
  rw [if_neg (by omega)]
theorem kyT_t {A : AS} {σ : ZS} {k : Nat} (h : cand A k = true) : zu (kyT A σ k) 33 k (nI (8 * sms A k * (420 / mks A k) + mks A k)) = kyT A σ (k + 1) := by
  funext q i
  rw [zu_e]
  unfold kyT
  by_cases h1 : q = 33 ∧ i = k
  · obtain ⟨rfl, rfl⟩ := h1
    rw [if_pos ⟨rfl, rfl⟩, if_pos ⟨rfl, by omega, h⟩]
  · rw [if_neg h1]
    by_cases h2 : q = 33 ∧ i < k ∧ cand A i = true
    · rw [if_pos h2, if_pos ⟨h2.1, by omega, h2.2.2⟩]
    · rw [if_neg h2, if_neg]
      rintro ⟨a, b, c⟩
      exact h2 ⟨a, by omega, c⟩
theorem kyT_f {A : AS} {σ : ZS} {k : Nat} (h : cand A k = false) : kyT A σ k = kyT A σ (k + 1) := by
  funext q i
  unfold kyT
  by_cases h2 : q = 33 ∧ i < k ∧ cand A i = true
  · rw [if_pos h2, if_pos ⟨h2.1, by omega, h2.2.2⟩]
  · rw [if_neg h2, if_neg]
    rintro ⟨a, b, c⟩
    by_cases he : i = k
    · subst he; rw [h] at c; cases c
    · exact h2 ⟨a, by omega, c⟩
theorem kyT_0 {A : AS} {σ : ZS} : kyT A σ 0 = σ := by
  funext q i
  unfold kyT
  rw [if_neg (by omega)]
theorem std_le {s m : Nat} (hs : s ≤ 700) (hm : m ≤ 7) : 8 * s * (420 / m) + m ≤ 2352007 := by
  have h1 : 420 / m ≤ 420 := Nat.div_le_self _ _
  have h2 : 8 * s * (420 / m) ≤ 5600 * 420 := Nat.mul_le_mul (by omega) h1
  omega
section Long
variable {N : Nat} {σ : ZS} {A : AS}
theorem d_rankLonglist (hN : 200 ≤ N) (h : RD A σ) (hw : WF A) : ∃ τ, f_X7_rankLonglist N σ = some τ ∧ RKD τ (cand A) (kL A) (nL0 A) ∧ (∀ q, q ≠ 10 → q ≠ 32 → q ≠ 33 → q ≠ 34 → τ q = σ q) := by
  obtain ⟨-, hr, hb, hj, -, -, -⟩ := h
  obtain ⟨wb, wj, wr, -, -⟩ := hw
  have hjT : ∀ k, RDj A (kyT A (rT A σ 24) k) := by
    intro k
    unfold RDj
    rw [kyT_q (by omega), kyT_q (by omega), kyT_q (by omega), kyT_q (by omega), kyT_q (by omega), rT_q (by omega), rT_q (by omega), rT_q (by omega), rT_q (by omega), rT_q (by omega)]
    exact hj
  have hr7 : RDr A (kyT A (rT A σ 24) 24) := hr.of4 (by rw [kyT_q (by omega), rT_q (by omega)])
  have h7 : 1 ≤ A 9 7 ∧ A 9 7 ≤ 12 := wr 7 (by omega)
  have hkey : ∀ b, b < 24 → cand A b = true → (kyT A (rT A σ 24) 24 33 b).toInt = kL A b := by
    intro b hb24 hc
    have hs := sms_le (A := A) (fun i => (wj.1 i).2.2) b
    have hm := mks_le A b
    have := std_le hs hm
    unfold kyT
    rw [if_pos ⟨rfl, hb24, hc⟩, nI_toInt (by omega)]
    rfl
  refine ⟨dT (kyT A (rT A σ 24) 24) (cand A) (kL A) (nL0 A), ?_, RKD.of _ _ (by unfold nL0; omega), fun q h1 h2 h3 h4 => by rw [dT_q h2 h4, kyT_q h3, rT_q h1]⟩
  unfold f_X7_rankLonglist
  rw [d_admitted hN hb hr wb wr, g_b2_e]
  unfold L_X7_rankLonglist_16
  refine Eq.trans (congrArg (lq3 _ N 0 0) (kyT_0 (A := A)).symm) ?_
  refine lq3_seq (fun k => maskN (cand A) k) (fun k => nI k) (fun k => kyT A (rT A σ 24) k) _ 24 ?_ ?_ N (by omega)
  · intro k hk rc
    have hs := sms_le (A := A) (fun i => (wj.1 i).2.2) k
    have hm := mks_le A k
    unfold B_X7_rankLonglist_16
    rw [k_24]
    simp only [n_le (show 24 < 2147483648 by omega) (show k < 2147483648 by omega)]
    rw [if_neg (by omega), d_contains (by omega), Option.bind_some, bt_mask _ (by omega) (by omega), decide_eq_true hk, Bool.true_and]
    simp only [zb_0, g_lt_e, nI_1]
    by_cases hi : inb A k = true
    · rw [if_neg (by rw [hi]; decide), d_marksOn hN (hjT k) hk, Option.bind_some, k_0]
      simp only [n_le (show mks A k < 2147483648 by omega) (show 0 < 2147483648 by omega)]
      by_cases hz : mks A k ≤ 0
      · have hc : cand A k = false := by unfold cand; rw [decide_eq_false (by omega), Bool.and_false]
        rw [if_pos hz, mask_f hc, ← kyT_f hc]
      · have hc : cand A k = true := by unfold cand; rw [hi, decide_eq_true (by omega)]; rfl
        rw [if_neg hz, d_bit, Option.bind_some, d_sumOn hN (hjT k) wj hk, Option.bind_some, d_standing (by omega) hm hs, Option.bind_some, d_setKey hk, Option.bind_some, kyT_t hc, mask_t hc]
    · have hi' : inb A k = false := by simpa using hi
      have hc : cand A k = false := by unfold cand; rw [hi']; rfl
      rw [if_pos hi', if_pos (by decide), mask_f hc, ← kyT_f hc]
  · intro rc
    unfold B_X7_rankLonglist_16
    rw [if_pos (by decide)]
    dsimp only
    rw [d_num7 hr7, Option.bind_some, d_draw hN hkey (by omega), Option.bind_some]
    rfl
end Long
