/-! ===== ballot: both sides ===== -/
def oT (σ : ZS) (p b : Nat) (g : Nat → Int32) (k : Nat) : ZS := fun q i => if q = p ∧ b ≤ i ∧ i < b + k then g (i - b) else σ q i
theorem oT_q {σ : ZS} {p b : Nat} {g : Nat → Int32} {k q : Nat} (h : q ≠ p) : oT σ p b g k q = σ q := by
  funext i
  unfold oT
  rw [if_neg (fun e => h e.1)]
theorem oT_p {σ : ZS} {p b : Nat} {g : Nat → Int32} {k i : Nat} : oT σ p b g k p i = if b ≤ i ∧ i < b + k then g (i - b) else σ p i := by
  unfold oT
  by_cases h : b ≤ i ∧ i < b + k
  · rw [if_pos ⟨rfl, h⟩, if_pos h]
  · rw [if_neg (fun e => h e.2), if_neg h]
theorem oT_0 {σ : ZS} {p b : Nat} {g : Nat → Int32} : oT σ p b g 0 = σ := by
  funext q i
  unfold oT
  rw [if_neg (by omega)]
theorem oT_s {σ : ZS} {p b : Nat} {g : Nat → Int32} {k : Nat} : zu (oT σ p b g k) p (b + k) (g k) = oT σ p b g (k + 1) := by
  funext q i
  rw [zu_e]
  unfold oT
  by_cases h : q = p ∧ i = b + k
  · rw [if_pos h, if_pos (by omega), h.2, show b + k - b = k by omega]
  · rw [if_neg h]
    by_cases h2 : q = p ∧ b ≤ i ∧ i < b + k
    · rw [if_pos h2, if_pos (by omega)]
    · rw [if_neg h2, if_neg (by omega)]
def fr1 (A : AS) (i : Nat) : Bool := decide (A 16 i < A 0 0) && decide (cnt (fun k => decide (A 16 k = A 16 i)) i = 0)
def far (A : AS) (n : Nat) : Bool := ((List.range n).find? (fun i => !fr1 A i)).isNone
theorem far_cases (A : AS) (n : Nat) : (far A n = true ∧ ∀ k, k < n → fr1 A k = true) ∨ ∃ e, e < n ∧ fr1 A e = false ∧ (∀ k, k < e → fr1 A k = true) ∧ far A n = false := by
  unfold far
  rcases find_cases (fun i => !fr1 A i) n with ⟨h1, h2⟩ | ⟨e, he, h1, h2, h3⟩
  · left
    rw [h1]
    exact ⟨rfl, fun k hk => by have := h2 k hk; simpa using this⟩
  · right
    rw [h3]
    exact ⟨e, he, by simpa using h1, fun k hk => by have := h2 k hk; simpa using this, rfl⟩
theorem fr1_iff {A : AS} {i : Nat} : fr1 A i = true ↔ A 16 i < A 0 0 ∧ ∀ k, k < i → A 16 k ≠ A 16 i := by
  unfold fr1
  rw [Bool.and_eq_true, decide_eq_true_iff, decide_eq_true_iff]
  constructor
  · rintro ⟨h1, h2⟩
    refine ⟨h1, fun k hk he => ?_⟩
    have := (cnt_pos (p := fun k => decide (A 16 k = A 16 i)) (n := i)).mpr ⟨k, hk, by simp [he]⟩
    omega
  · rintro ⟨h1, h2⟩
    refine ⟨h1, ?_⟩
    by_cases h0 : cnt (fun k => decide (A 16 k = A 16 i)) i = 0
    · exact h0
    · obtain ⟨k, hk, he⟩ := (cnt_pos (p := fun k => decide (A 16 k = A 16 i)) (n := i)).mp (by omega)
      exact absurd (by simpa using he) (h2 k hk)
def blA (A : AS) (x d n : Nat) : AS := fun q i => if q = 12 ∧ i = x then d + 1 else if q = 13 ∧ i = x then n else if q = 14 ∧ 12 * x ≤ i ∧ i < 12 * x + n then A 16 (i - 12 * x) else if q = 15 ∧ i = 0 then 0 else A q i
theorem blA_q {A : AS} {x d n q : Nat} (h1 : q ≠ 12) (h2 : q ≠ 13) (h3 : q ≠ 14) (h4 : q ≠ 15) : blA A x d n q = A q := by
  funext i
  unfold blA
  rw [if_neg (fun e => h1 e.1), if_neg (fun e => h2 e.1), if_neg (fun e => h3 e.1), if_neg (fun e => h4 e.1)]
theorem blA_12 {A : AS} {x d n i : Nat} : blA A x d n 12 i = if i = x then d + 1 else A 12 i := by
  unfold blA
  by_cases h : i = x
  · rw [if_pos ⟨rfl, h⟩, if_pos h]
  · rw [if_neg (fun e => h e.2), if_neg (by omega), if_neg (by omega), if_neg (by omega), if_neg h]
theorem blA_13 {A : AS} {x d n i : Nat} : blA A x d n 13 i = if i = x then n else A 13 i := by
  unfold blA
  rw [if_neg (by omega)]
  by_cases h : i = x
  · rw [if_pos ⟨rfl, h⟩, if_pos h]
  · rw [if_neg (fun e => h e.2), if_neg (by omega), if_neg (by omega), if_neg h]
theorem blA_14 {A : AS} {x d n i : Nat} : blA A x d n 14 i = if 12 * x ≤ i ∧ i < 12 * x + n then A 16 (i - 12 * x) else A 14 i := by
  unfold blA
  rw [if_neg (by omega), if_neg (by omega)]
  by_cases h : 12 * x ≤ i ∧ i < 12 * x + n
  · rw [if_pos ⟨rfl, h⟩, if_pos h]
  · rw [if_neg (fun e => h e.2), if_neg (by omega), if_neg h]
theorem blA_15 {A : AS} {x d n : Nat} : blA A x d n 15 0 = 0 := by
  unfold blA
  rw [if_neg (by omega), if_neg (by omega), if_neg (by omega), if_pos ⟨rfl, rfl⟩]
def anBallot (A : AS) (x y z w : Int32) : Int32 := match ix x 7, ix y 2, ix z 401, ix w 13 with
  | some _, some _, some _, some n => if n ≤ A 15 0 then zb (far A n) else 0
  | _, _, _, _ => 0
def nxBallot (A : AS) (x y z w : Int32) : AS := match ix x 7, ix y 2, ix z 401, ix w 13 with
  | some j, some s, some d, some n => if n ≤ A 15 0 then (if far A n = true then blA A (2 * j + s) d n else au A 15 0 0) else A
  | _, _, _, _ => A
theorem WF_tape {A : AS} (h : WF A) {n : Nat} (hn : n ≤ 80) : WF (au A 15 0 n) := by
  obtain ⟨h1, h2, h3, h4, h5⟩ := h
  refine ⟨h1.cg (au_q (by omega)) (au_q (by omega)) (au_q (by omega)) (au_q (by omega)) (au_q (by omega)) (au_q (by omega)), h2.cg (au_q (by omega)) (au_q (by omega)) (au_q (by omega)) (au_q (by omega)) (au_q (by omega)), h3.cg (au_q (by omega)), h4.cg (au_q (by omega)) (au_q (by omega)) (au_q (by omega)) (au_q (by omega)) (au_q (by omega)) (au_q (by omega)), ?_⟩
  unfold WFt
  rw [au_p, au_q (show (16 : Nat) ≠ 15 by omega)]
  exact ⟨hn, h5.2⟩
theorem RD_tape {A : AS} {σ : ZS} (h : RD A σ) {n : Nat} (hn : n ≤ A 15 0) : RD (au A 15 0 n) (zu σ 1 1 (nI n)) := by
  obtain ⟨h1, h2, h3, h4, h5, h6, h7⟩ := h
  refine ⟨?_, h2.cg (au_q (by omega)) (zu_q (by omega)), h3.cg (au_q (by omega)) (au_q (by omega)) (au_q (by omega)) (au_q (by omega)) (au_q (by omega)) (au_q (by omega)) (zu_q (by omega)) (zu_q (by omega)) (zu_q (by omega)) (zu_q (by omega)), h4.cg (au_q (by omega)) (au_q (by omega)) (au_q (by omega)) (au_q (by omega)) (au_q (by omega)) (zu_q (by omega)) (zu_q (by omega)) (zu_q (by omega)) (zu_q (by omega)) (zu_q (by omega)), h5.cg (au_q (by omega)) (au_q (by omega)) (au_q (by omega)) (au_q (by omega)) (zu_q (by omega)) (zu_q (by omega)) (zu_q (by omega)), h6.cg (au_q (by omega)) (au_q (by omega)) (au_q (by omega)) (au_q (by omega)) (zu_q (by omega)) (zu_q (by omega)) (zu_q (by omega)), h7.cg (au_q (by omega)) (zu_q (by omega))⟩
  unfold RDt
  rw [au_p, au_q (show (16 : Nat) ≠ 15 by omega), zu_p, zu_q (show (2 : Nat) ≠ 1 by omega)]
  exact ⟨rfl, fun i hi => h1.2 i (by omega)⟩
theorem RM_tape {A : AS} {σ : ZS} (h : RM A σ) {n : Nat} (hn : n ≤ A 15 0) : RM (au A 15 0 n) (zu σ 0 1 (nI n)) := by
  obtain ⟨h1, h2, h3, h4, h5, h6⟩ := h
  refine ⟨?_, h2.cg (au_q (by omega)) (zu_q (by omega)), h3.cg (au_q (by omega)) (au_q (by omega)) (au_q (by omega)) (au_q (by omega)) (au_q (by omega)) (au_q (by omega)) (zu_i (by omega)) (zu_q (by omega)) (zu_q (by omega)) (zu_q (by omega)) (zu_q (by omega)) (zu_q (by omega)), h4.cg (au_q (by omega)) (au_q (by omega)) (au_q (by omega)) (au_q (by omega)) (zu_q (by omega)) (zu_q (by omega)) (zu_q (by omega)), h5.cg (au_q (by omega)) (au_q (by omega)) (au_q (by omega)) (au_q (by omega)) (zu_q (by omega)) (zu_q (by omega)) (zu_q (by omega)) (zu_q (by omega)) (zu_q (by omega)), h6.cg (au_q (by omega)) (zu_q (by omega))⟩
  unfold RMt
  rw [au_p, au_q (show (16 : Nat) ≠ 15 by omega), zu_p, zu_q (show (1 : Nat) ≠ 0 by omega)]
  exact ⟨rfl, fun i hi => h1.2 i (by omega)⟩
theorem WF_bl {A : AS} (h : WF A) {x d n : Nat} (hd : d < 401) (hn : n < 13) (hx : x < 14) (hf : ∀ k, k < n → fr1 A k = true) : WF (blA A x d n) := by
  obtain ⟨h1, h2, h3, h4, h5⟩ := h
  have q : ∀ q, q ≠ 12 → q ≠ 13 → q ≠ 14 → q ≠ 15 → blA A x d n q = A q := fun q a b c d => blA_q a b c d
  refine ⟨h1.cg (q 0 (by omega) (by omega) (by omega) (by omega)) (q 1 (by omega) (by omega) (by omega) (by omega)) (q 2 (by omega) (by omega) (by omega) (by omega)) (q 3 (by omega) (by omega) (by omega) (by omega)) (q 4 (by omega) (by omega) (by omega) (by omega)) (q 5 (by omega) (by omega) (by omega) (by omega)), h2.cg (q 0 (by omega) (by omega) (by omega) (by omega)) (q 1 (by omega) (by omega) (by omega) (by omega)) (q 6 (by omega) (by omega) (by omega) (by omega)) (q 7 (by omega) (by omega) (by omega) (by omega)) (q 8 (by omega) (by omega) (by omega) (by omega)), h3.cg (q 9 (by omega) (by omega) (by omega) (by omega)), ?_, ?_⟩
  · unfold WFq
    rw [q 0 (by omega) (by omega) (by omega) (by omega), q 10 (by omega) (by omega) (by omega) (by omega), q 11 (by omega) (by omega) (by omega) (by omega)]
    refine ⟨h4.1, h4.2.1, fun y => ?_, fun y i hy hi => ?_, fun y i k hy hi hk he => ?_⟩
    · rw [blA_12, blA_13]
      have := h4.2.2.1 y
      split <;> omega
    · rw [blA_13] at hi
      rw [blA_14]
      by_cases he : y = x
      · subst he
        rw [if_pos rfl] at hi
        rw [if_pos (by omega), show 12 * y + i - 12 * y = i by omega]
        exact (fr1_iff.mp (hf i hi)).1
      · rw [if_neg he] at hi
        have := (h4.2.2.1 y).2
        rw [if_neg (by omega)]
        exact h4.2.2.2.1 y i hy hi
    · rw [blA_13] at hi hk
      rw [blA_14, blA_14] at he
      by_cases hyx : y = x
      · subst hyx
        rw [if_pos rfl] at hi hk
        rw [if_pos (by omega), if_pos (by omega), show 12 * y + i - 12 * y = i by omega, show 12 * y + k - 12 * y = k by omega] at he
        rcases Nat.lt_trichotomy i k with hl | hl | hl
        · exact absurd he ((fr1_iff.mp (hf k hk)).2 i hl)
        · exact hl
        · exact absurd he.symm ((fr1_iff.mp (hf i hi)).2 k hl)
      · rw [if_neg hyx] at hi hk
        have := (h4.2.2.1 y).2
        rw [if_neg (by omega), if_neg (by omega)] at he
        exact h4.2.2.2.2 y i k hy hi hk he
  · unfold WFt
    rw [blA_15, q 16 (by omega) (by omega) (by omega) (by omega)]
    exact ⟨by omega, h5.2⟩
theorem WF_ballot {A : AS} (h : WF A) (x y z w : Int32) : WF (nxBallot A x y z w) := by
  unfold nxBallot
  rcases ix_cases x (show 7 < 2147483648 by omega) with ⟨j, hj, rfl, ej⟩ | ⟨ho, ej⟩
  · rcases ix_cases y (show 2 < 2147483648 by omega) with ⟨s, hs, rfl, es⟩ | ⟨ho, es⟩
    · rcases ix_cases z (show 401 < 2147483648 by omega) with ⟨d, hd, rfl, ed⟩ | ⟨ho, ed⟩
      · rcases ix_cases w (show 13 < 2147483648 by omega) with ⟨n, hn, rfl, en⟩ | ⟨ho, en⟩
        · rw [ej, es, ed, en]
          dsimp only
          split
          · rcases far_cases A n with ⟨h1, h2⟩ | ⟨e, he, h1, h2, h3⟩
            · rw [if_pos h1]
              exact WF_bl h hd hn (by omega) h2
            · rw [if_neg (by rw [h3]; decide)]
              exact WF_tape h (by omega)
          · exact h
        · rw [ej, es, ed, en]; exact h
      · rw [ej, es, ed]; exact h
    · rw [ej, es]; exact h
  · rw [ej]; exact h
section BallotD
variable {N : Nat} {σ : ZS} {A : AS}
theorem d_holds (h : RDt A σ) (hw : WFt A) {n : Nat} (hn : n < 1000000) : f_X6_holds N σ (nI n) = some (zb (decide (n ≤ A 15 0))) := by
  have := hw.1
  unfold f_X6_holds
  rw [h.1, k_0, d_within (by omega) (by omega) (by omega), Option.bind_some, g_zr_b, decide_eq_true (Nat.zero_le n), Bool.true_and]
theorem d_keep (h : RDt A σ) (hw : WFt A) {n : Nat} (hn : n ≤ A 15 0) : f_X6_keep N σ (nI n) = some (zu σ 1 1 (nI n)) := by
  have := hw.1
  unfold f_X6_keep
  rw [d_holds h hw (by omega), Option.bind_some, decide_eq_true hn, if_neg (by decide)]
  rfl
theorem d_byteAt (h : RDt A σ) (hw : WFt A) {i : Nat} (hi : i < 1000) : f_X6_byteAt N σ (nI i) = some (if i < A 15 0 then nI (A 16 i) else -1) := by
  have := hw.1
  unfold f_X6_byteAt
  rw [h.1, d_isWithin]
  by_cases hn : i < A 15 0
  · have e1 : (0 : Int32) ≤ nI i := nI_pos' (by omega)
    have e2 : nI i ≤ nI (A 15 0) - 1 := by
      rw [k_1, pk_sub (by omega)]
      exact (nI_leI (by omega) (by omega)).mpr (by omega)
    rw [decide_eq_true e1, decide_eq_true e2, Option.bind_some, if_neg (by decide), g_rd_in (by omega) (by omega), h.2 i hn, if_pos hn]
  · have e2 : ¬ nI i ≤ nI (A 15 0) - 1 := by
      by_cases h0 : A 15 0 = 0
      · rw [h0]
        intro e
        have e1 : (nI i).toInt ≤ ((nI 0) - (1 : Int32)).toInt := Int32.le_iff_toInt_le.mp e
        rw [nI_toInt (by omega), show ((nI 0) - (1 : Int32)).toInt = -1 by decide] at e1
        omega
      · rw [k_1, pk_sub (by omega)]
        intro e
        have := (nI_leI (by omega) (by omega)).mp e
        omega
    rw [decide_eq_false e2, Bool.and_false, Option.bind_some, if_pos zb_f, if_neg hn]
def snm (A : AS) (k : Nat) : Int32 := maskN (fun b => decide (0 < cnt (fun i => decide (A 16 i = b)) k)) 24
theorem snm_s {k : Nat} (hk : A 16 k < 24) : snm A k ||| bitm (A 16 k) = snm A (k + 1) := by
  apply b_ext
  intro i hi
  unfold snm
  rw [b_or, bt_mask _ (by omega) hi, bt_mask _ (by omega) hi, bt_bitm (by omega) hi, show cnt (fun j => decide (A 16 j = i)) (k + 1) = cnt (fun j => decide (A 16 j = i)) k + (if decide (A 16 k = i) = true then 1 else 0) from rfl]
  by_cases he : A 16 k = i
  · subst he
    rw [decide_eq_true rfl, if_pos rfl, decide_eq_true hk, decide_eq_true (show 0 < cnt (fun j => decide (A 16 j = A 16 k)) k + 1 by omega)]
    simp
  · rw [decide_eq_false he, if_neg (by decide), decide_eq_false (p := i = A 16 k) (fun e => he e.symm), Bool.or_false]
    rfl
theorem d_names (hN : 200 ≤ N) (h : RD A σ) (hw : WF A) : f_X7_tapeNamesBooksOnce N σ = some (zb (far A (A 15 0))) := by
  have ht := hw.2.2.2.2.1
  have hb := hw.1.1
  unfold f_X7_tapeNamesBooksOnce L_X7_tapeNamesBooksOnce_4
  have step : ∀ k, k < A 15 0 → fr1 A k = true → ∀ rc, B_X7_tapeNamesBooksOnce_4 N σ (fun y8 y9 => some (1 : Int32)) rc (snm A k) (nI k) = rc (snm A (k + 1)) (nI (k + 1)) := by
    intro k hk hf rc
    obtain ⟨f1, f2⟩ := fr1_iff.mp hf
    unfold B_X7_tapeNamesBooksOnce_4 f_X6_length
    rw [Option.bind_some, h.1.1, ile_f (by omega) (by omega) (by omega), d_byteAt h.1 hw.2.2.2.2 (by omega), if_pos hk, Option.bind_some, d_has h.2.2.1 hw.1 (by omega), Option.bind_some, decide_eq_true f1, if_neg (by decide), d_contains (by omega), Option.bind_some]
    have e : bt (snm A k) (A 16 k) = false := by
      unfold snm
      rw [bt_mask _ (by omega) (by omega), decide_eq_false (p := 0 < _), Bool.and_false]
      intro hp
      obtain ⟨i, hi, he⟩ := cnt_pos.mp hp
      exact f2 i hi (by simpa using he)
    rw [e, if_pos zb_f, d_bit, Option.bind_some, g_lt_e, g_lt_e, snm_s (by omega), nI_1]
  rcases far_cases A (A 15 0) with ⟨h1, h2⟩ | ⟨e, he, h1, h2, h3⟩
  · rw [h1]
    exact lq2_seq (B := B_X7_tapeNamesBooksOnce_4 N σ (fun y8 y9 => some (1 : Int32))) (fun k => snm A k) (fun k => nI k) (some (zb true)) (A 15 0) (fun k hk rc => step k hk (h2 k hk) rc) (fun rc => by
      unfold B_X7_tapeNamesBooksOnce_4 f_X6_length
      rw [Option.bind_some, h.1.1, ile_t (by omega) (by omega) (by omega)]; rfl) N (by omega)
  · rw [h3]
    exact lq2_seq (B := B_X7_tapeNamesBooksOnce_4 N σ (fun y8 y9 => some (1 : Int32))) (fun k => snm A k) (fun k => nI k) (some (zb false)) e (fun k hk rc => step k (by omega) (h2 k hk) rc) (fun rc => by
      unfold B_X7_tapeNamesBooksOnce_4 f_X6_length
      have hby := hw.2.2.2.2.2 e
      rw [Option.bind_some, h.1.1, ile_f (by omega) (by omega) (by omega), d_byteAt h.1 hw.2.2.2.2 (by omega), if_pos he, Option.bind_some, d_has h.2.2.1 hw.1 (by omega), Option.bind_some]
      by_cases hn : A 16 e < A 0 0
      · rw [decide_eq_true hn, if_neg (by decide), d_contains (by omega), Option.bind_some]
        have e1 : bt (snm A e) (A 16 e) = true := by
          unfold snm
          rw [bt_mask _ (by omega) (by omega), decide_eq_true (show A 16 e < 24 by omega), Bool.true_and, decide_eq_true_iff]
          unfold fr1 at h1
          rw [decide_eq_true hn, Bool.true_and, decide_eq_false_iff_not] at h1
          omega
        rw [e1, if_neg (by decide)]
        rfl
      · rw [decide_eq_false hn, if_pos zb_f]
        rfl) N (by omega)
theorem d_take_18 (hN : 200 ≤ N) (h : RD A σ) (hw : WF A) {j : Nat} (hj : j < 7) {d : Int32} : f_X1_take_18_1 N σ (nI j) d = some (oT (zu σ 19 j d) 20 (12 * j) (fun i => if i < A 15 0 then nI (A 16 i) else -1) 12) := by
  unfold f_X1_take_18_1 L_X1_take_18_1_18
  rw [d_isJudge (by omega), decide_eq_true hj, Option.bind_some, if_neg (by decide), g_wr_in hj (by omega)]
  have key := lq2_seq (B := B_X1_take_18_1_18 N (nI j) (fun y6 s7 => some s7)) (fun k => nI k) (fun k => oT (zu σ 19 j d) 20 (12 * j) (fun i => if i < A 15 0 then nI (A 16 i) else -1) k) (some (oT (zu σ 19 j d) 20 (12 * j) (fun i => if i < A 15 0 then nI (A 16 i) else -1) 12)) 12 ?_ ?_ N (by omega)
  · rw [oT_0] at key
    exact key
  · intro k hk rc
    have ht : RDt A (oT (zu σ 19 j d) 20 (12 * j) (fun i => if i < A 15 0 then nI (A 16 i) else -1) k) := h.1.cg rfl rfl (by rw [oT_q (by omega), zu_q (by omega)]) (by rw [oT_q (by omega), zu_q (by omega)])
    unfold B_X1_take_18_1_18
    rw [k_12, ile_f (by omega) (by omega) (by omega), d_byteAt ht hw.2.2.2.2 (by omega), Option.bind_some, n_jb, g_wr_in (by omega) (by omega), oT_s]
    dsimp only [g_lt]
    rw [nI_1]
  · intro rc
    rfl
theorem RD_bl_18 (h : RD A σ) {j d n : Nat} (hj : j < 7) (hn : n < 13) (hnt : n ≤ A 15 0) : RD (blA A (2 * j + 0) d n) (zu (oT (zu (zu σ 1 1 (nI n)) 19 j (nI d)) 20 (12 * j) (fun i => if i < n then nI (A 16 i) else -1) 12) 1 1 (nI 0)) := by
  obtain ⟨h1, h2, h3, h4, h5, h6, h7⟩ := h
  have q : ∀ q, q ≠ 12 → q ≠ 13 → q ≠ 14 → q ≠ 15 → blA A (2 * j + 0) d n q = A q := fun q a b c d => blA_q a b c d
  have z : ∀ p, p ≠ 1 → p ≠ 19 → p ≠ 20 → zu (oT (zu (zu σ 1 1 (nI n)) 19 j (nI d)) 20 (12 * j) (fun i => if i < n then nI (A 16 i) else -1) 12) 1 1 (nI 0) p = σ p := fun p a b c => by rw [zu_q a, oT_q c, zu_q b, zu_q a]
  refine ⟨?_, h2.cg (q 9 (by omega) (by omega) (by omega) (by omega)) (z 4 (by omega) (by omega) (by omega)), h3.cg (q 0 (by omega) (by omega) (by omega) (by omega)) (q 1 (by omega) (by omega) (by omega) (by omega)) (q 2 (by omega) (by omega) (by omega) (by omega)) (q 3 (by omega) (by omega) (by omega) (by omega)) (q 4 (by omega) (by omega) (by omega) (by omega)) (q 5 (by omega) (by omega) (by omega) (by omega)) (z 6 (by omega) (by omega) (by omega)) (z 7 (by omega) (by omega) (by omega)) (z 8 (by omega) (by omega) (by omega)) (z 9 (by omega) (by omega) (by omega)), h4.cg (q 0 (by omega) (by omega) (by omega) (by omega)) (q 1 (by omega) (by omega) (by omega) (by omega)) (q 6 (by omega) (by omega) (by omega) (by omega)) (q 7 (by omega) (by omega) (by omega) (by omega)) (q 8 (by omega) (by omega) (by omega) (by omega)) (z 12 (by omega) (by omega) (by omega)) (z 13 (by omega) (by omega) (by omega)) (z 14 (by omega) (by omega) (by omega)) (z 15 (by omega) (by omega) (by omega)) (z 16 (by omega) (by omega) (by omega)), ?_, ?_, h7.cg (q 11 (by omega) (by omega) (by omega) (by omega)) (z 35 (by omega) (by omega) (by omega))⟩
  · unfold RDt
    rw [blA_15, zu_p]
    exact ⟨rfl, fun i hi => absurd hi (by omega)⟩
  · unfold RDp
    rw [q 10 (by omega) (by omega) (by omega) (by omega), z (18 + 3 * 0) (by omega) (by omega) (by omega)]
    refine ⟨h5.1, fun k hk => ?_⟩
    rw [blA_12, blA_13, zu_q (show (19 + 3 * 0 : Nat) ≠ 1 by omega), oT_q (show (19 + 3 * 0 : Nat) ≠ 20 by omega), zu_q (show (20 + 3 * 0 : Nat) ≠ 1 by omega)]
    by_cases he : k = j
    · subst he
      rw [if_pos rfl, if_pos rfl, if_neg (by omega)]
      refine ⟨zu_p, fun _ i hi => ?_⟩
      rw [blA_14]
      refine Eq.trans (oT_p (p := 20)) ?_
      rw [if_pos (by omega), show 12 * k + i - 12 * k = i by omega]
      by_cases hin : i < n
      · rw [if_pos hin, if_pos hin, if_pos (by omega), show 12 * (2 * k + 0) + i - 12 * (2 * k + 0) = i by omega]
      · rw [if_neg hin, if_neg hin]
    · rw [if_neg (show ¬ (2 * k + 0 = 2 * j + 0) by omega), if_neg (show ¬ (2 * k + 0 = 2 * j + 0) by omega)]
      obtain ⟨g1, g2⟩ := h5.2 k hk
      refine ⟨?_, fun hz i hi => ?_⟩
      · rw [← g1, show (19 + 3 * 0 : Nat) = 19 from rfl, zu_i he, zu_q (by omega)]
      · rw [blA_14, if_neg (show ¬ (12 * (2 * j + 0) ≤ 12 * (2 * k + 0) + i ∧ 12 * (2 * k + 0) + i < 12 * (2 * j + 0) + n) by omega), ← g2 hz i hi]
        refine Eq.trans (oT_p (p := 20)) ?_
        rw [if_neg (by omega), zu_q (by omega), zu_q (by omega)]
  · unfold RDp
    rw [q 10 (by omega) (by omega) (by omega) (by omega), z (18 + 3 * 1) (by omega) (by omega) (by omega), z (19 + 3 * 1) (by omega) (by omega) (by omega), z (20 + 3 * 1) (by omega) (by omega) (by omega)]
    refine ⟨h6.1, fun k hk => ?_⟩
    rw [blA_12, blA_13, if_neg (show ¬ (2 * k + 1 = 2 * j + 0) by omega), if_neg (show ¬ (2 * k + 1 = 2 * j + 0) by omega)]
    obtain ⟨g1, g2⟩ := h6.2 k hk
    refine ⟨g1, fun hz i hi => ?_⟩
    rw [blA_14, if_neg (show ¬ (12 * (2 * j + 0) ≤ 12 * (2 * k + 1) + i ∧ 12 * (2 * k + 1) + i < 12 * (2 * j + 0) + n) by omega)]
    exact g2 hz i hi
theorem d_take_21 (hN : 200 ≤ N) (h : RD A σ) (hw : WF A) {j : Nat} (hj : j < 7) {d : Int32} : f_X1_take_21_1 N σ (nI j) d = some (oT (zu σ 22 j d) 23 (12 * j) (fun i => if i < A 15 0 then nI (A 16 i) else -1) 12) := by
  unfold f_X1_take_21_1 L_X1_take_21_1_18
  rw [d_isJudge (by omega), decide_eq_true hj, Option.bind_some, if_neg (by decide), g_wr_in hj (by omega)]
  have key := lq2_seq (B := B_X1_take_21_1_18 N (nI j) (fun y6 s7 => some s7)) (fun k => nI k) (fun k => oT (zu σ 22 j d) 23 (12 * j) (fun i => if i < A 15 0 then nI (A 16 i) else -1) k) (some (oT (zu σ 22 j d) 23 (12 * j) (fun i => if i < A 15 0 then nI (A 16 i) else -1) 12)) 12 ?_ ?_ N (by omega)
  · rw [oT_0] at key
    exact key
  · intro k hk rc
    have ht : RDt A (oT (zu σ 22 j d) 23 (12 * j) (fun i => if i < A 15 0 then nI (A 16 i) else -1) k) := h.1.cg rfl rfl (by rw [oT_q (by omega), zu_q (by omega)]) (by rw [oT_q (by omega), zu_q (by omega)])
    unfold B_X1_take_21_1_18
    rw [k_12, ile_f (by omega) (by omega) (by omega), d_byteAt ht hw.2.2.2.2 (by omega), Option.bind_some, n_jb, g_wr_in (by omega) (by omega), oT_s]
    dsimp only [g_lt]
    rw [nI_1]
  · intro rc
    rfl
theorem RD_bl_21 (h : RD A σ) {j d n : Nat} (hj : j < 7) (hn : n < 13) (hnt : n ≤ A 15 0) : RD (blA A (2 * j + 1) d n) (zu (oT (zu (zu σ 1 1 (nI n)) 22 j (nI d)) 23 (12 * j) (fun i => if i < n then nI (A 16 i) else -1) 12) 1 1 (nI 0)) := by
  obtain ⟨h1, h2, h3, h4, h5, h6, h7⟩ := h
  have q : ∀ q, q ≠ 12 → q ≠ 13 → q ≠ 14 → q ≠ 15 → blA A (2 * j + 1) d n q = A q := fun q a b c d => blA_q a b c d
  have z : ∀ p, p ≠ 1 → p ≠ 22 → p ≠ 23 → zu (oT (zu (zu σ 1 1 (nI n)) 22 j (nI d)) 23 (12 * j) (fun i => if i < n then nI (A 16 i) else -1) 12) 1 1 (nI 0) p = σ p := fun p a b c => by rw [zu_q a, oT_q c, zu_q b, zu_q a]
  refine ⟨?_, h2.cg (q 9 (by omega) (by omega) (by omega) (by omega)) (z 4 (by omega) (by omega) (by omega)), h3.cg (q 0 (by omega) (by omega) (by omega) (by omega)) (q 1 (by omega) (by omega) (by omega) (by omega)) (q 2 (by omega) (by omega) (by omega) (by omega)) (q 3 (by omega) (by omega) (by omega) (by omega)) (q 4 (by omega) (by omega) (by omega) (by omega)) (q 5 (by omega) (by omega) (by omega) (by omega)) (z 6 (by omega) (by omega) (by omega)) (z 7 (by omega) (by omega) (by omega)) (z 8 (by omega) (by omega) (by omega)) (z 9 (by omega) (by omega) (by omega)), h4.cg (q 0 (by omega) (by omega) (by omega) (by omega)) (q 1 (by omega) (by omega) (by omega) (by omega)) (q 6 (by omega) (by omega) (by omega) (by omega)) (q 7 (by omega) (by omega) (by omega) (by omega)) (q 8 (by omega) (by omega) (by omega) (by omega)) (z 12 (by omega) (by omega) (by omega)) (z 13 (by omega) (by omega) (by omega)) (z 14 (by omega) (by omega) (by omega)) (z 15 (by omega) (by omega) (by omega)) (z 16 (by omega) (by omega) (by omega)), ?_, ?_, h7.cg (q 11 (by omega) (by omega) (by omega) (by omega)) (z 35 (by omega) (by omega) (by omega))⟩
  · unfold RDt
    rw [blA_15, zu_p]
    exact ⟨rfl, fun i hi => absurd hi (by omega)⟩
  · unfold RDp
    rw [q 10 (by omega) (by omega) (by omega) (by omega), z (18 + 3 * 0) (by omega) (by omega) (by omega), z (19 + 3 * 0) (by omega) (by omega) (by omega), z (20 + 3 * 0) (by omega) (by omega) (by omega)]
    refine ⟨h5.1, fun k hk => ?_⟩
    rw [blA_12, blA_13, if_neg (show ¬ (2 * k + 0 = 2 * j + 1) by omega), if_neg (show ¬ (2 * k + 0 = 2 * j + 1) by omega)]
    obtain ⟨g1, g2⟩ := h5.2 k hk
    refine ⟨g1, fun hz i hi => ?_⟩
    rw [blA_14, if_neg (show ¬ (12 * (2 * j + 1) ≤ 12 * (2 * k + 0) + i ∧ 12 * (2 * k + 0) + i < 12 * (2 * j + 1) + n) by omega)]
    exact g2 hz i hi
  · unfold RDp
    rw [q 10 (by omega) (by omega) (by omega) (by omega), z (18 + 3 * 1) (by omega) (by omega) (by omega)]
    refine ⟨h6.1, fun k hk => ?_⟩
    rw [blA_12, blA_13, zu_q (show (19 + 3 * 1 : Nat) ≠ 1 by omega), oT_q (show (19 + 3 * 1 : Nat) ≠ 23 by omega), zu_q (show (20 + 3 * 1 : Nat) ≠ 1 by omega)]
    by_cases he : k = j
    · subst he
      rw [if_pos rfl, if_pos rfl, if_neg (by omega)]
      refine ⟨zu_p, fun _ i hi => ?_⟩
      rw [blA_14]
      refine Eq.trans (oT_p (p := 23)) ?_
      rw [if_pos (by omega), show 12 * k + i - 12 * k = i by omega]
      by_cases hin : i < n
      · rw [if_pos hin, if_pos hin, if_pos (by omega), show 12 * (2 * k + 1) + i - 12 * (2 * k + 1) = i by omega]
      · rw [if_neg hin, if_neg hin]
    · rw [if_neg (show ¬ (2 * k + 1 = 2 * j + 1) by omega), if_neg (show ¬ (2 * k + 1 = 2 * j + 1) by omega)]
      obtain ⟨g1, g2⟩ := h6.2 k hk
      refine ⟨?_, fun hz i hi => ?_⟩
      · rw [← g1, show (19 + 3 * 1 : Nat) = 22 from rfl, zu_i he, zu_q (by omega)]
      · rw [blA_14, if_neg (show ¬ (12 * (2 * j + 1) ≤ 12 * (2 * k + 1) + i ∧ 12 * (2 * k + 1) + i < 12 * (2 * j + 1) + n) by omega), ← g2 hz i hi]
        refine Eq.trans (oT_p (p := 23)) ?_
        rw [if_neg (by omega), zu_q (by omega), zu_q (by omega)]
theorem D_ballot (hN : 200 ≤ N) (h : RD A σ) (hw : WF A) (x y z w : Int32) : ∃ τ, f_X7_ballot N σ x y z w = some (anBallot A x y z w, τ) ∧ RD (nxBallot A x y z w) τ := by
  have ht := hw.2.2.2.2.1
  unfold f_X7_ballot anBallot nxBallot
  rcases ix_cases x (show 7 < 2147483648 by omega) with ⟨j, hj, rfl, ej⟩ | ⟨ho, ej⟩
  · rw [d_isJudge (by omega), decide_eq_true hj, Option.bind_some, if_neg (by decide)]
    rcases ix_cases y (show 2 < 2147483648 by omega) with ⟨s, hs, rfl, es⟩ | ⟨ho, es⟩
    · rw [d_isStage_in hs, Option.bind_some, if_neg (by decide)]
      rcases ix_cases z (show 401 < 2147483648 by omega) with ⟨d, hd, rfl, ed⟩ | ⟨ho, ed⟩
      · rw [d_isDay_in hd, Option.bind_some, if_neg (by decide)]
        rcases ix_cases w (show 13 < 2147483648 by omega) with ⟨n, hn, rfl, en⟩ | ⟨ho, en⟩
        · rw [k_12, d_within_in (by omega) hn, Option.bind_some, if_neg (by decide), d_holds h.1 hw.2.2.2.2 (by omega), Option.bind_some, ej, es, ed, en]
          dsimp only
          by_cases hnt : n ≤ A 15 0
          · rw [if_pos hnt, if_pos hnt, decide_eq_true hnt, if_neg (by decide), d_keep h.1 hw.2.2.2.2 hnt, Option.bind_some]
            have h' := RD_tape h hnt
            have hw' := WF_tape hw (show n ≤ 80 by omega)
            have hfe : far (au A 15 0 n) (au A 15 0 n 15 0) = far A n := by
              rw [au_p]
              unfold far fr1
              rw [au_q (show (16 : Nat) ≠ 15 by omega), au_q (show (0 : Nat) ≠ 15 by omega)]
            rw [d_names hN h' hw', hfe, Option.bind_some]
            by_cases hf : far A n = true
            · rw [hf, if_neg (by decide), if_pos rfl]
              rcases (by omega : s = 0 ∨ s = 1) with rfl | rfl
              · have tk := d_take_18 hN h' hw' hj (d := nI d)
                rw [au_p, au_q (show (16 : Nat) ≠ 15 by omega)] at tk
                have hk : RDt (au A 15 0 n) (oT (zu (zu σ 1 1 (nI n)) 19 j (nI d)) 20 (12 * j) (fun i => if i < n then nI (A 16 i) else -1) 12) := h'.1.cg rfl rfl (by rw [oT_q (by omega), zu_q (by omega)]) (by rw [oT_q (by omega), zu_q (by omega)])
                refine ⟨_, ?_, RD_bl_18 h hj hn hnt⟩
                rw [if_pos (show nI 0 = 0 from rfl), tk, Option.bind_some, k_0, d_keep hk hw'.2.2.2.2 (Nat.zero_le _), Option.bind_some, g_zr_b]
              · have tk := d_take_21 hN h' hw' hj (d := nI d)
                rw [au_p, au_q (show (16 : Nat) ≠ 15 by omega)] at tk
                have hk : RDt (au A 15 0 n) (oT (zu (zu σ 1 1 (nI n)) 22 j (nI d)) 23 (12 * j) (fun i => if i < n then nI (A 16 i) else -1) 12) := h'.1.cg rfl rfl (by rw [oT_q (by omega), zu_q (by omega)]) (by rw [oT_q (by omega), zu_q (by omega)])
                refine ⟨_, ?_, RD_bl_21 h hj hn hnt⟩
                rw [if_neg (by decide), tk, Option.bind_some, k_0, d_keep hk hw'.2.2.2.2 (Nat.zero_le _), Option.bind_some, g_zr_b]
            · have hf' : far A n = false := by simpa using hf
              rw [hf', if_pos zb_f, if_neg (by decide)]
              refine ⟨zu (zu σ 1 1 (nI n)) 1 1 (nI 0), ?_, ?_⟩
              · rw [k_0, d_keep h'.1 hw'.2.2.2.2 (Nat.zero_le _), Option.bind_some]
                rfl
              · have h2 := RD_tape h (Nat.zero_le _)
                rw [show zu (zu σ 1 1 (nI n)) 1 1 (nI 0) = zu σ 1 1 (nI 0) by
                  funext q i
                  rw [zu_e, zu_e, zu_e]
                  split <;> simp_all]
                exact h2
          · rw [if_neg hnt, if_neg hnt, decide_eq_false hnt, if_pos zb_f]
            exact ⟨σ, rfl, h⟩
        · rw [k_12, d_within_out (by omega) ho, Option.bind_some, if_pos rfl, ej, es, ed, en]
          exact ⟨σ, rfl, h⟩
      · rw [d_isDay_out ho, Option.bind_some, if_pos rfl, ej, es, ed]
        exact ⟨σ, rfl, h⟩
    · rw [d_isStage_out ho, Option.bind_some, if_pos rfl, ej, es]
      exact ⟨σ, rfl, h⟩
  · rw [d_isJudge_out ho, Option.bind_some, if_pos rfl, ej]
    exact ⟨σ, rfl, h⟩
end BallotD
