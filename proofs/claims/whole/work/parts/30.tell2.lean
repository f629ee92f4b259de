/-! kin, friend, mark -/
def anKin (A : AS) (x y : Int32) : Int32 := match ix x 7, ix y (A 0 0) with
  | some j, some b => if A 6 (24 * j + b) = 1 then 0 else 1
  | _, _ => 0
def nxKin (A : AS) (x y : Int32) : AS := match ix x 7, ix y (A 0 0) with
  | some j, some b => if A 6 (24 * j + b) = 1 then A else au (au A 6 (24 * j + b) 1) 8 (24 * j + b) 0
  | _, _ => A
def frA (A : AS) (j p : Nat) : AS := fun q i => if q = 7 ∧ i = 8 * j + p then 1 else if q = 8 ∧ 24 * j ≤ i ∧ i < 24 * j + A 0 0 ∧ A 1 (i - 24 * j) = p then 0 else A q i
def anFriend (A : AS) (x y : Int32) : Int32 := match ix x 7, ix y 8 with
  | some j, some p => if A 7 (8 * j + p) = 1 then 0 else 1
  | _, _ => 0
def nxFriend (A : AS) (x y : Int32) : AS := match ix x 7, ix y 8 with
  | some j, some p => if A 7 (8 * j + p) = 1 then A else frA A j p
  | _, _ => A
def anMark (A : AS) (x y z : Int32) : Int32 := match ix x 7, ix y (A 0 0), ix z 101 with
  | some j, some b, some _ => if brd A j b = true then 0 else 1
  | _, _, _ => 0
def nxMark (A : AS) (x y z : Int32) : AS := match ix x 7, ix y (A 0 0), ix z 101 with
  | some j, some b, some n => if brd A j b = true then A else au A 8 (24 * j + b) (n + 1)
  | _, _, _ => A
theorem frA_q {A : AS} {j p q : Nat} (h7 : q ≠ 7) (h8 : q ≠ 8) : frA A j p q = A q := by
  funext i
  unfold frA
  rw [if_neg (by omega), if_neg (by omega)]
theorem frA_7 {A : AS} {j p i : Nat} : frA A j p 7 i = if i = 8 * j + p then 1 else A 7 i := by
  unfold frA
  by_cases h : i = 8 * j + p
  · rw [if_pos ⟨rfl, h⟩, if_pos h]
  · rw [if_neg (fun e => h e.2), if_neg (by omega), if_neg h]
theorem frA_8 {A : AS} {j p i : Nat} : frA A j p 8 i = if 24 * j ≤ i ∧ i < 24 * j + A 0 0 ∧ A 1 (i - 24 * j) = p then 0 else A 8 i := by
  unfold frA
  rw [if_neg (by omega)]
  by_cases h : 24 * j ≤ i ∧ i < 24 * j + A 0 0 ∧ A 1 (i - 24 * j) = p
  · rw [if_pos ⟨rfl, h⟩, if_pos h]
  · rw [if_neg (fun e => h e.2), if_neg h]
section Tell3
variable {N : Nat} {σ : ZS} {A : AS}
theorem d_bar {j : Nat} (hj : j < 7) {m : Int32} : f_X0_bar N σ (nI j) m = some (zu (zu σ 14 j (σ 14 j ||| m)) 15 j (σ 15 j &&& (m ^^^ (-1)))) := by
  unfold f_X0_bar
  rw [d_isJudge (by omega), Option.bind_some, decide_eq_true hj, if_neg (by decide), g_rd_in hj (by omega), g_wr_in hj (by omega), g_rd_in hj (by omega), g_wr_in hj (by omega), zu_q (by omega)]
theorem brd_kin {j b j' i : Nat} (hj' : j' < 7) (hj : j < 7) (hi : i < 24) (hb : b < 24) : brd (au (au A 6 (24 * j + b) 1) 8 (24 * j + b) 0) j' i = (brd A j' i || (decide (j' = j) && decide (i = b))) := by
  unfold brd
  rw [au_q (show (6 : Nat) ≠ 8 by omega), au_q (show (7 : Nat) ≠ 8 by omega), au_q (show (1 : Nat) ≠ 8 by omega), au_q (show (7 : Nat) ≠ 6 by omega), au_q (show (1 : Nat) ≠ 6 by omega), au_e]
  by_cases he : 24 * j' + i = 24 * j + b
  · rw [if_pos he, decide_eq_true rfl, decide_eq_true (show j' = j by omega), decide_eq_true (show i = b by omega)]
    simp
  · rw [if_neg he]
    have : (decide (j' = j) && decide (i = b)) = false := by
      by_cases h1 : j' = j
      · rw [decide_eq_false (show ¬ i = b by intro h2; subst h1; subst h2; exact he rfl), Bool.and_false]
      · rw [decide_eq_false h1]; rfl
    rw [this, Bool.or_false]
theorem D_kin (h : RD A σ) (hw : WF A) (x y : Int32) : ∃ τ, f_X7_kin N σ x y = some (anKin A x y, τ) ∧ RD (nxKin A x y) τ := by
  have hnb := hw.1.1
  unfold f_X7_kin anKin nxKin
  rcases ix_cases x (show 7 < 2147483648 by omega) with ⟨j, hj, rfl, ej⟩ | ⟨ho, ej⟩
  · rw [ej, d_isJudge (by omega), Option.bind_some, decide_eq_true hj, if_neg (by decide)]
    rcases ix_cases y (show A 0 0 < 2147483648 by omega) with ⟨b, hb, rfl, eb⟩ | ⟨ho, eb⟩
    · rw [eb, d_has h.2.2.1 hw.1 (by omega), Option.bind_some, decide_eq_true hb, if_neg (by decide)]
      dsimp only
      unfold f_X0_addKin
      rw [d_isJudge (by omega), Option.bind_some, decide_eq_true hj, if_neg (by decide), g_rd_in hj (by omega), d_contains (by omega), Option.bind_some, (h.2.2.2.1 j hj).1 b (by omega), decide_eq_true (show b < 24 by omega), Bool.true_and]
      simp only [zb_0]
      by_cases hk : A 6 (24 * j + b) = 1
      · rw [decide_eq_true hk, if_neg (by decide), if_pos hk, if_pos hk]
        exact ⟨σ, by rw [g_b2_e, if_pos rfl], h⟩
      · rw [decide_eq_false hk, if_pos rfl, if_neg hk, if_neg hk, g_rd_in hj (by omega), d_bit, Option.bind_some, g_wr_in hj (by omega), d_bit, Option.bind_some, d_bar hj, Option.bind_some, g_b2_e, if_neg (by decide)]
        rw [zu_q (show (14 : Nat) ≠ 12 by omega), zu_q (show (15 : Nat) ≠ 12 by omega)]
        refine ⟨_, rfl, ?_⟩
        obtain ⟨h1, h2, h3, h4, h5, h6, h7⟩ := h
        have aq : ∀ q, q ≠ 6 → q ≠ 8 → au (au A 6 (24 * j + b) 1) 8 (24 * j + b) 0 q = A q := fun q a b => by rw [au_q b, au_q a]
        have sq : ∀ q, q ≠ 12 → q ≠ 14 → q ≠ 15 → zu (zu (zu σ 12 j (σ 12 j ||| bitm b)) 14 j (σ 14 j ||| bitm b)) 15 j (σ 15 j &&& (bitm b ^^^ (-1))) q = σ q := fun q a b c => by rw [zu_q c, zu_q b, zu_q a]
        refine ⟨h1.cg (aq 15 (by omega) (by omega)) (aq 16 (by omega) (by omega)) (sq 1 (by omega) (by omega) (by omega)) (sq 2 (by omega) (by omega) (by omega)), h2.cg (aq 9 (by omega) (by omega)) (sq 4 (by omega) (by omega) (by omega)), h3.cg (aq 0 (by omega) (by omega)) (aq 1 (by omega) (by omega)) (aq 2 (by omega) (by omega)) (aq 3 (by omega) (by omega)) (aq 4 (by omega) (by omega)) (aq 5 (by omega) (by omega)) (sq 6 (by omega) (by omega) (by omega)) (sq 7 (by omega) (by omega) (by omega)) (sq 8 (by omega) (by omega) (by omega)) (sq 9 (by omega) (by omega) (by omega)), ?_, h5.cg (aq 10 (by omega) (by omega)) (aq 12 (by omega) (by omega)) (aq 13 (by omega) (by omega)) (aq 14 (by omega) (by omega)) (sq 18 (by omega) (by omega) (by omega)) (sq 19 (by omega) (by omega) (by omega)) (sq 20 (by omega) (by omega) (by omega)), h6.cg (aq 10 (by omega) (by omega)) (aq 12 (by omega) (by omega)) (aq 13 (by omega) (by omega)) (aq 14 (by omega) (by omega)) (sq 21 (by omega) (by omega) (by omega)) (sq 22 (by omega) (by omega) (by omega)) (sq 23 (by omega) (by omega) (by omega)), h7.cg (aq 11 (by omega) (by omega)) (sq 35 (by omega) (by omega) (by omega))⟩
        intro j' hj'
        obtain ⟨q1, q2, q3, q4, q5⟩ := h4 j' hj'
        have m12 : zu (zu (zu σ 12 j (σ 12 j ||| bitm b)) 14 j (σ 14 j ||| bitm b)) 15 j (σ 15 j &&& (bitm b ^^^ (-1))) 12 j' = if j' = j then σ 12 j ||| bitm b else σ 12 j' := by
          rw [zu_q (by omega), zu_q (by omega), zu_e]
          by_cases he : j' = j
          · rw [if_pos ⟨rfl, he⟩, if_pos he]
          · rw [if_neg (fun e => he e.2), if_neg he]
        have m14 : zu (zu (zu σ 12 j (σ 12 j ||| bitm b)) 14 j (σ 14 j ||| bitm b)) 15 j (σ 15 j &&& (bitm b ^^^ (-1))) 14 j' = if j' = j then σ 14 j ||| bitm b else σ 14 j' := by
          rw [zu_q (by omega), zu_e, zu_q (by omega)]
          by_cases he : j' = j
          · rw [if_pos ⟨rfl, he⟩, if_pos he]
          · rw [if_neg (fun e => he e.2), if_neg he]
        have m15 : zu (zu (zu σ 12 j (σ 12 j ||| bitm b)) 14 j (σ 14 j ||| bitm b)) 15 j (σ 15 j &&& (bitm b ^^^ (-1))) 15 j' = if j' = j then σ 15 j &&& (bitm b ^^^ (-1)) else σ 15 j' := by
          rw [zu_e, zu_q (show (15 : Nat) ≠ 14 by omega), zu_q (show (15 : Nat) ≠ 12 by omega)]
          by_cases he : j' = j
          · rw [if_pos ⟨rfl, he⟩, if_pos he]
          · rw [if_neg (fun e => he e.2), if_neg he]
        rw [m12, m14, m15, sq 13 (by omega) (by omega) (by omega), sq 16 (by omega) (by omega) (by omega), aq 7 (by omega) (by omega), aq 0 (by omega) (by omega)]
        refine ⟨fun i hi => ?_, q2, fun i hi => ?_, fun i hi => ?_, fun b' hb' hne => ?_⟩
        · rw [au_q (show (6 : Nat) ≠ 8 by omega), au_e]
          by_cases he : j' = j
          · rw [if_pos he, b_or, bt_bitm (by omega) hi, ← he, q1 i hi]
            by_cases hib : i = b
            · subst hib; simp [show i < 24 by omega]
            · rw [if_neg (by omega)]; simp [hib]
          · rw [if_neg he, q1 i hi]
            by_cases hi24 : i < 24
            · rw [if_neg (by omega)]
            · rw [decide_eq_false hi24]; rfl
        · by_cases hin : i < A 0 0
          · rw [brd_kin hj' hj (by omega) (by omega)]
            by_cases he : j' = j
            · rw [if_pos he, b_or, bt_bitm (by omega) hi, ← he, q3 i hi, decide_eq_true hin]
              simp
            · rw [if_neg he, q3 i hi, decide_eq_false he]; simp
          · by_cases he : j' = j
            · rw [if_pos he, b_or, bt_bitm (by omega) hi, ← he, q3 i hi, decide_eq_false hin, decide_eq_false (show ¬ i = b by omega)]; rfl
            · rw [if_neg he, q3 i hi, decide_eq_false hin]; rfl
        · rw [au_e, au_q (show (8 : Nat) ≠ 6 by omega)]
          by_cases he : j' = j
          · rw [if_pos he, b_and, bt_not hi, bt_bitm (by omega) hi, ← he, q4 i hi]
            by_cases hib : i = b
            · subst hib; simp
            · rw [if_neg (by omega)]; simp [hib]
          · rw [if_neg he, q4 i hi]
            by_cases hi24 : i < 24
            · rw [if_neg (by omega)]
            · rw [decide_eq_false hi24]; rfl
        · rw [au_e, au_q (show (8 : Nat) ≠ 6 by omega)] at hne ⊢
          by_cases he : 24 * j' + b' = 24 * j + b
          · rw [if_pos he] at hne; exact absurd rfl hne
          · rw [if_neg he] at hne ⊢; exact q5 b' hb' hne
    · rw [eb]
      exact ⟨σ, by rw [d_has_out h.2.2.1 ho, Option.bind_some, if_pos rfl], h⟩
  · rw [ej]
    exact ⟨σ, by rw [d_isJudge_out ho, Option.bind_some, if_pos rfl], h⟩
theorem D_mark (h : RD A σ) (hw : WF A) (x y z : Int32) : ∃ τ, f_X7_mark N σ x y z = some (anMark A x y z, τ) ∧ RD (nxMark A x y z) τ := by
  have hnb := hw.1.1
  unfold f_X7_mark anMark nxMark
  rcases ix_cases x (show 7 < 2147483648 by omega) with ⟨j, hj, rfl, ej⟩ | ⟨ho, ej⟩
  · rw [ej, d_isJudge (by omega), Option.bind_some, decide_eq_true hj, if_neg (by decide)]
    rcases ix_cases y (show A 0 0 < 2147483648 by omega) with ⟨b, hb, rfl, eb⟩ | ⟨ho, eb⟩
    · rw [eb, d_has h.2.2.1 hw.1 (by omega), Option.bind_some, decide_eq_true hb, if_neg (by decide)]
      rcases ix_cases z (show 101 < 2147483648 by omega) with ⟨n, hn, rfl, en⟩ | ⟨ho, en⟩
      · rw [en, k_100, d_within_in (by omega) hn, Option.bind_some, if_neg (by decide), d_isBarred h.2.2.2.1 hw.1 hj (by omega), Option.bind_some, decide_eq_true hb, Bool.true_and]
        dsimp only
        simp only [zb_0]
        by_cases hq : brd A j b = true
        · rw [if_neg (by rw [hq]; decide), if_pos hq, if_pos hq]
          exact ⟨σ, rfl, h⟩
        · have hq' : brd A j b = false := by simpa using hq
          rw [if_pos hq', if_neg hq, if_neg hq]
          unfold f_X0_setMark
          rw [d_isJudge (by omega), Option.bind_some, decide_eq_true hj, if_neg (by decide), d_isBookNumber (by omega), Option.bind_some, decide_eq_true (show b < 24 by omega), if_neg (by decide), k_24, n_jb, g_wr_in (by omega) (by omega), g_rd_in hj (by omega), d_bit, Option.bind_some, g_wr_in hj (by omega), Option.bind_some, zu_q (show (15 : Nat) ≠ 16 by omega)]
          refine ⟨_, rfl, ?_⟩
          obtain ⟨h1, h2, h3, h4, h5, h6, h7⟩ := h
          have sq : ∀ q, q ≠ 15 → q ≠ 16 → zu (zu σ 16 (24 * j + b) (nI n)) 15 j (σ 15 j ||| bitm b) q = σ q := fun q a b => by rw [zu_q a, zu_q b]
          refine ⟨h1.cg (au_q (by omega)) (au_q (by omega)) (sq 1 (by omega) (by omega)) (sq 2 (by omega) (by omega)), h2.cg (au_q (by omega)) (sq 4 (by omega) (by omega)), h3.cg (au_q (by omega)) (au_q (by omega)) (au_q (by omega)) (au_q (by omega)) (au_q (by omega)) (au_q (by omega)) (sq 6 (by omega) (by omega)) (sq 7 (by omega) (by omega)) (sq 8 (by omega) (by omega)) (sq 9 (by omega) (by omega)), ?_, h5.cg (au_q (by omega)) (au_q (by omega)) (au_q (by omega)) (au_q (by omega)) (sq 18 (by omega) (by omega)) (sq 19 (by omega) (by omega)) (sq 20 (by omega) (by omega)), h6.cg (au_q (by omega)) (au_q (by omega)) (au_q (by omega)) (au_q (by omega)) (sq 21 (by omega) (by omega)) (sq 22 (by omega) (by omega)) (sq 23 (by omega) (by omega)), h7.cg (au_q (by omega)) (sq 35 (by omega) (by omega))⟩
          intro j' hj'
          obtain ⟨q1, q2, q3, q4, q5⟩ := h4 j' hj'
          have m15 : zu (zu σ 16 (24 * j + b) (nI n)) 15 j (σ 15 j ||| bitm b) 15 j' = if j' = j then σ 15 j ||| bitm b else σ 15 j' := by
            rw [zu_e, zu_q (show (15 : Nat) ≠ 16 by omega)]
            by_cases he : j' = j
            · rw [if_pos ⟨rfl, he⟩, if_pos he]
            · rw [if_neg (fun e => he e.2), if_neg he]
          rw [m15, sq 12 (by omega) (by omega), sq 13 (by omega) (by omega), sq 14 (by omega) (by omega), au_q (show (6 : Nat) ≠ 8 by omega), au_q (show (7 : Nat) ≠ 8 by omega), au_q (show (0 : Nat) ≠ 8 by omega), brd.cg (A := A) (au_q (show (1 : Nat) ≠ 8 by omega)) (au_q (show (6 : Nat) ≠ 8 by omega)) (au_q (show (7 : Nat) ≠ 8 by omega))]
          refine ⟨q1, q2, q3, fun i hi => ?_, fun b' hb' hne => ?_⟩
          · rw [au_e]
            by_cases he : j' = j
            · rw [if_pos he, b_or, bt_bitm (by omega) hi, ← he, q4 i hi]
              by_cases hib : i = b
              · subst hib; simp [show i < 24 by omega]
              · rw [if_neg (by omega)]; simp [hib]
            · rw [if_neg he, q4 i hi]
              by_cases hi24 : i < 24
              · rw [if_neg (by omega)]
              · rw [decide_eq_false hi24]; rfl
          · rw [au_e] at hne ⊢
            rw [zu_q (show (16 : Nat) ≠ 15 by omega), zu_e]
            by_cases he : 24 * j' + b' = 24 * j + b
            · rw [if_pos ⟨rfl, he⟩, if_pos he]; rfl
            · rw [if_neg he] at hne ⊢
              rw [if_neg (fun e => he e.2)]
              exact q5 b' hb' hne
      · rw [en]
        exact ⟨σ, by rw [k_100, d_within_out (by omega) ho, Option.bind_some, if_pos rfl], h⟩
    · rw [eb]
      exact ⟨σ, by rw [d_has_out h.2.2.1 ho, Option.bind_some, if_pos rfl], h⟩
  · rw [ej]
    exact ⟨σ, by rw [d_isJudge_out ho, Option.bind_some, if_pos rfl], h⟩
theorem d_booksOf (hN : 200 ≤ N) (h : RDb A σ) (hw : WFb A) {p : Nat} (hp : p < 8) : f_X4_booksOf N σ (nI p) = some (maskN (fun b => decide (b < A 0 0) && decide (A 1 b = p)) 24) := by
  unfold f_X4_booksOf L_X4_booksOf_4
  refine lq2_seq (fun k => maskN (fun b => decide (b < A 0 0) && decide (A 1 b = p)) k) (fun k => nI k) _ 24 ?_ ?_ N (by omega)
  · intro k hk rc
    unfold B_X4_booksOf_4
    rw [k_24]
    simp only [n_le (show 24 < 2147483648 by omega) (show k < 2147483648 by omega)]
    rw [if_neg (by omega), d_publisherOf h hw hk, Option.bind_some]
    simp only [g_lt_e, nI_1, d_bit, Option.bind_some]
    by_cases hn : k < A 0 0
    · have := (hw.2.1 k hn).1
      rw [if_pos hn]
      simp only [n_eq (show A 1 k < 2147483648 by omega) (show p < 2147483648 by omega)]
      by_cases hp1 : A 1 k = p
      · rw [if_pos hp1, mask_t (by rw [decide_eq_true hn, decide_eq_true hp1]; rfl)]
      · rw [if_neg hp1, mask_f (by rw [decide_eq_false hp1, Bool.and_false])]
    · rw [if_neg hn]
      simp only [n_m1' (show p < 2147483648 by omega)]
      rw [if_neg (fun e => e), mask_f (by rw [decide_eq_false hn]; rfl)]
  · intro rc
    unfold B_X4_booksOf_4
    rw [if_pos (by decide)]
theorem D_friend (hN : 200 ≤ N) (h : RD A σ) (hw : WF A) (x y : Int32) : ∃ τ, f_X7_friend N σ x y = some (anFriend A x y, τ) ∧ RD (nxFriend A x y) τ := by
  have hnb := hw.1.1
  unfold f_X7_friend anFriend nxFriend
  rcases ix_cases x (show 7 < 2147483648 by omega) with ⟨j, hj, rfl, ej⟩ | ⟨ho, ej⟩
  · rw [ej, d_isJudge (by omega), Option.bind_some, decide_eq_true hj, if_neg (by decide)]
    rcases ix_cases y (show 8 < 2147483648 by omega) with ⟨p, hp, rfl, ep⟩ | ⟨ho, ep⟩
    · rw [ep, d_isPublisher (by omega), Option.bind_some, decide_eq_true hp, if_neg (by decide), d_booksOf hN h.2.2.1 hw.1 hp, Option.bind_some]
      dsimp only
      unfold f_X0_addFriend
      rw [d_isJudge (by omega), Option.bind_some, decide_eq_true hj, if_neg (by decide), g_rd_in hj (by omega), d_contains (by omega), Option.bind_some, (h.2.2.2.1 j hj).2.1 p (by omega), decide_eq_true hp, Bool.true_and]
      simp only [zb_0]
      by_cases hk : A 7 (8 * j + p) = 1
      · rw [decide_eq_true hk, if_neg (by decide), if_pos hk, if_pos hk]
        exact ⟨σ, by rw [g_b2_e, if_pos rfl], h⟩
      · rw [decide_eq_false hk, if_pos rfl, if_neg hk, if_neg hk, g_rd_in hj (by omega), d_bit, Option.bind_some, g_wr_in hj (by omega), d_bar hj, Option.bind_some, g_b2_e, if_neg (by decide)]
        rw [zu_q (show (14 : Nat) ≠ 13 by omega), zu_q (show (15 : Nat) ≠ 13 by omega)]
        generalize hM : maskN (fun b => decide (b < A 0 0) && decide (A 1 b = p)) 24 = M
        have hMb : ∀ i, i < 32 → bt M i = (decide (i < A 0 0) && decide (A 1 i = p)) := by
          intro i hi
          rw [← hM, bt_mask _ (by omega) hi]
          by_cases hin : i < A 0 0
          · rw [decide_eq_true (show i < 24 by omega), Bool.true_and]
          · rw [decide_eq_false hin]; simp
        refine ⟨_, rfl, ?_⟩
        obtain ⟨h1, h2, h3, h4, h5, h6, h7⟩ := h
        have sq : ∀ q, q ≠ 13 → q ≠ 14 → q ≠ 15 → zu (zu (zu σ 13 j (σ 13 j ||| bitm p)) 14 j (σ 14 j ||| M)) 15 j (σ 15 j &&& (M ^^^ (-1))) q = σ q := fun q a b c => by rw [zu_q c, zu_q b, zu_q a]
        refine ⟨h1.cg (frA_q (by omega) (by omega)) (frA_q (by omega) (by omega)) (sq 1 (by omega) (by omega) (by omega)) (sq 2 (by omega) (by omega) (by omega)), h2.cg (frA_q (by omega) (by omega)) (sq 4 (by omega) (by omega) (by omega)), h3.cg (frA_q (by omega) (by omega)) (frA_q (by omega) (by omega)) (frA_q (by omega) (by omega)) (frA_q (by omega) (by omega)) (frA_q (by omega) (by omega)) (frA_q (by omega) (by omega)) (sq 6 (by omega) (by omega) (by omega)) (sq 7 (by omega) (by omega) (by omega)) (sq 8 (by omega) (by omega) (by omega)) (sq 9 (by omega) (by omega) (by omega)), ?_, h5.cg (frA_q (by omega) (by omega)) (frA_q (by omega) (by omega)) (frA_q (by omega) (by omega)) (frA_q (by omega) (by omega)) (sq 18 (by omega) (by omega) (by omega)) (sq 19 (by omega) (by omega) (by omega)) (sq 20 (by omega) (by omega) (by omega)), h6.cg (frA_q (by omega) (by omega)) (frA_q (by omega) (by omega)) (frA_q (by omega) (by omega)) (frA_q (by omega) (by omega)) (sq 21 (by omega) (by omega) (by omega)) (sq 22 (by omega) (by omega) (by omega)) (sq 23 (by omega) (by omega) (by omega)), h7.cg (frA_q (by omega) (by omega)) (sq 35 (by omega) (by omega) (by omega))⟩
        intro j' hj'
        obtain ⟨q1, q2, q3, q4, q5⟩ := h4 j' hj'
        have m13 : zu (zu (zu σ 13 j (σ 13 j ||| bitm p)) 14 j (σ 14 j ||| M)) 15 j (σ 15 j &&& (M ^^^ (-1))) 13 j' = if j' = j then σ 13 j ||| bitm p else σ 13 j' := by
          rw [zu_q (by omega), zu_q (by omega), zu_e]
          by_cases he : j' = j
          · rw [if_pos ⟨rfl, he⟩, if_pos he]
          · rw [if_neg (fun e => he e.2), if_neg he]
        have m14 : zu (zu (zu σ 13 j (σ 13 j ||| bitm p)) 14 j (σ 14 j ||| M)) 15 j (σ 15 j &&& (M ^^^ (-1))) 14 j' = if j' = j then σ 14 j ||| M else σ 14 j' := by
          rw [zu_q (by omega), zu_e, zu_q (by omega)]
          by_cases he : j' = j
          · rw [if_pos ⟨rfl, he⟩, if_pos he]
          · rw [if_neg (fun e => he e.2), if_neg he]
        have m15 : zu (zu (zu σ 13 j (σ 13 j ||| bitm p)) 14 j (σ 14 j ||| M)) 15 j (σ 15 j &&& (M ^^^ (-1))) 15 j' = if j' = j then σ 15 j &&& (M ^^^ (-1)) else σ 15 j' := by
          rw [zu_e, zu_q (show (15 : Nat) ≠ 14 by omega), zu_q (show (15 : Nat) ≠ 13 by omega)]
          by_cases he : j' = j
          · rw [if_pos ⟨rfl, he⟩, if_pos he]
          · rw [if_neg (fun e => he e.2), if_neg he]
        have brf : ∀ i, i < A 0 0 → brd (frA A j p) j' i = (brd A j' i || (decide (j' = j) && decide (A 1 i = p))) := by
          intro i hi
          have hp8 := (hw.1.2.1 i hi).1
          unfold brd
          rw [frA_q (show (6 : Nat) ≠ 7 by omega) (by omega), frA_q (show (1 : Nat) ≠ 7 by omega) (by omega), frA_7]
          by_cases he : 8 * j' + A 1 i = 8 * j + p
          · rw [if_pos he, decide_eq_true (show j' = j by omega), decide_eq_true (show A 1 i = p by omega)]
            simp
          · rw [if_neg he]
            have : (decide (j' = j) && decide (A 1 i = p)) = false := by
              by_cases h1 : j' = j
              · rw [decide_eq_false (show ¬ A 1 i = p by intro h2; rw [h1, h2] at he; exact he rfl), Bool.and_false]
              · rw [decide_eq_false h1]; rfl
            rw [this, Bool.or_false]
        rw [m13, m14, m15, sq 12 (by omega) (by omega) (by omega), sq 16 (by omega) (by omega) (by omega), frA_q (show (6 : Nat) ≠ 7 by omega) (by omega), frA_q (show (0 : Nat) ≠ 7 by omega) (by omega)]
        refine ⟨q1, fun i hi => ?_, fun i hi => ?_, fun i hi => ?_, fun b' hb' hne => ?_⟩
        · rw [frA_7]
          by_cases he : j' = j
          · rw [if_pos he, b_or, bt_bitm (by omega) hi, ← he, q2 i hi]
            by_cases hib : i = p
            · subst hib; simp [hp]
            · rw [if_neg (by omega)]; simp [hib]
          · rw [if_neg he, q2 i hi]
            by_cases hi8 : i < 8
            · rw [if_neg (by omega)]
            · rw [decide_eq_false hi8]; rfl
        · by_cases hin : i < A 0 0
          · rw [brf i hin]
            by_cases he : j' = j
            · rw [if_pos he, b_or, hMb i hi, ← he, q3 i hi, decide_eq_true hin]
              simp
            · rw [if_neg he, q3 i hi, decide_eq_false he]; simp
          · by_cases he : j' = j
            · rw [if_pos he, b_or, hMb i hi, ← he, q3 i hi, decide_eq_false hin]; rfl
            · rw [if_neg he, q3 i hi, decide_eq_false hin]; rfl
        · rw [frA_8]
          by_cases he : j' = j
          · rw [if_pos he, b_and, bt_not hi, hMb i hi, ← he, q4 i hi]
            by_cases hin : i < A 0 0
            · by_cases hp1 : A 1 i = p
              · rw [if_pos ⟨by omega, by omega, by rw [show 24 * j' + i - 24 * j' = i by omega]; exact hp1⟩, decide_eq_true hin, decide_eq_true hp1]
                simp
              · rw [if_neg (fun e => hp1 (by rw [show 24 * j' + i - 24 * j' = i by omega] at e; exact e.2.2)), decide_eq_false hp1]
                simp
            · rw [if_neg (by omega), decide_eq_false hin]
              simp
          · rw [if_neg he, q4 i hi]
            by_cases hi24 : i < 24
            · rw [if_neg (by omega)]
            · rw [decide_eq_false hi24]; rfl
        · rw [frA_8] at hne ⊢
          by_cases he : 24 * j ≤ 24 * j' + b' ∧ 24 * j' + b' < 24 * j + A 0 0 ∧ A 1 (24 * j' + b' - 24 * j) = p
          · rw [if_pos he] at hne; exact absurd rfl hne
          · rw [if_neg he] at hne ⊢; exact q5 b' hb' hne
    · rw [ep]
      exact ⟨σ, by rw [d_isPub_out ho, Option.bind_some, if_pos rfl], h⟩
  · rw [ej]
    exact ⟨σ, by rw [d_isJudge_out ho, Option.bind_some, if_pos rfl], h⟩
end Tell3
theorem WF_kin {A : AS} (h : WF A) (x y : Int32) : WF (nxKin A x y) := by
  have hnb := h.1.1
  unfold nxKin
  rcases ix_cases x (show 7 < 2147483648 by omega) with ⟨j, hj, rfl, ej⟩ | ⟨ho, ej⟩
  · rcases ix_cases y (show A 0 0 < 2147483648 by omega) with ⟨b, hb, rfl, eb⟩ | ⟨ho, eb⟩
    · rw [ej, eb]
      dsimp only
      split
      · exact h
      · obtain ⟨h1, h2, h3, h4, h5⟩ := h
        have aq : ∀ q, q ≠ 6 → q ≠ 8 → au (au A 6 (24 * j + b) 1) 8 (24 * j + b) 0 q = A q := fun q a b => by rw [au_q b, au_q a]
        refine ⟨h1.cg (aq 0 (by omega) (by omega)) (aq 1 (by omega) (by omega)) (aq 2 (by omega) (by omega)) (aq 3 (by omega) (by omega)) (aq 4 (by omega) (by omega)) (aq 5 (by omega) (by omega)), ?_, h3.cg (aq 9 (by omega) (by omega)), h4.cg (aq 0 (by omega) (by omega)) (aq 10 (by omega) (by omega)) (aq 11 (by omega) (by omega)) (aq 12 (by omega) (by omega)) (aq 13 (by omega) (by omega)) (aq 14 (by omega) (by omega)), h5.cg (aq 15 (by omega) (by omega)) (aq 16 (by omega) (by omega))⟩
        unfold WFj
        rw [aq 0 (by omega) (by omega), aq 7 (by omega) (by omega), au_q (show (6 : Nat) ≠ 8 by omega)]
        refine ⟨fun i => ⟨?_, (h2.1 i).2.1, ?_⟩, fun j' b' hj' hb' hn => ⟨?_, ?_⟩, fun j' b' hj' hb' hq => ?_⟩
        · rw [au_e]; split
          · omega
          · exact (h2.1 i).1
        · rw [au_e]; split
          · omega
          · rw [au_q (by omega)]; exact (h2.1 i).2.2
        · rw [au_e, if_neg (by omega)]; exact (h2.2.1 j' b' hj' hb' hn).1
        · rw [au_e, if_neg (by omega), au_q (by omega)]; exact (h2.2.1 j' b' hj' hb' hn).2
        · rw [au_e]
          by_cases he : 24 * j' + b' = 24 * j + b
          · rw [if_pos he]
          · rw [if_neg he, au_q (by omega)]
            apply h2.2.2 j' b' hj' hb'
            rw [brd_kin hj' hj (by omega) (by omega), Bool.or_eq_true, Bool.and_eq_true, decide_eq_true_eq, decide_eq_true_eq] at hq
            rcases hq with hq | ⟨e1, e2⟩
            · exact hq
            · subst e1; subst e2; exact absurd rfl he
    · rw [ej, eb]; exact h
  · rw [ej]; exact h
theorem WF_mark {A : AS} (h : WF A) (x y z : Int32) : WF (nxMark A x y z) := by
  have hnb := h.1.1
  unfold nxMark
  rcases ix_cases x (show 7 < 2147483648 by omega) with ⟨j, hj, rfl, ej⟩ | ⟨ho, ej⟩
  · rcases ix_cases y (show A 0 0 < 2147483648 by omega) with ⟨b, hb, rfl, eb⟩ | ⟨ho, eb⟩
    · rcases ix_cases z (show 101 < 2147483648 by omega) with ⟨n, hn, rfl, en⟩ | ⟨ho, en⟩
      · rw [ej, eb, en]
        dsimp only
        split
        · exact h
        · rename_i hq
          obtain ⟨h1, h2, h3, h4, h5⟩ := h
          refine ⟨h1.cg (au_q (by omega)) (au_q (by omega)) (au_q (by omega)) (au_q (by omega)) (au_q (by omega)) (au_q (by omega)), ?_, h3.cg (au_q (by omega)), h4.cg (au_q (by omega)) (au_q (by omega)) (au_q (by omega)) (au_q (by omega)) (au_q (by omega)) (au_q (by omega)), h5.cg (au_q (by omega)) (au_q (by omega))⟩
          unfold WFj
          rw [au_q (show (0 : Nat) ≠ 8 by omega), au_q (show (6 : Nat) ≠ 8 by omega), au_q (show (7 : Nat) ≠ 8 by omega), brd.cg (A := A) (au_q (show (1 : Nat) ≠ 8 by omega)) (au_q (show (6 : Nat) ≠ 8 by omega)) (au_q (show (7 : Nat) ≠ 8 by omega))]
          refine ⟨fun i => ⟨(h2.1 i).1, (h2.1 i).2.1, ?_⟩, fun j' b' hj' hb' hnn => ⟨(h2.2.1 j' b' hj' hb' hnn).1, ?_⟩, fun j' b' hj' hb' hq' => ?_⟩
          · rw [au_e]; split
            · omega
            · exact (h2.1 i).2.2
          · rw [au_e, if_neg (by omega)]; exact (h2.2.1 j' b' hj' hb' hnn).2
          · rw [au_e, if_neg (fun e => by have e1 : j' = j := by omega
                                          have e2 : b' = b := by omega
                                          subst e1; subst e2; exact hq hq')]
            exact h2.2.2 j' b' hj' hb' hq'
      · rw [ej, eb, en]; exact h
    · rw [ej, eb]; exact h
  · rw [ej]; exact h
theorem WF_friend {A : AS} (h : WF A) (x y : Int32) : WF (nxFriend A x y) := by
  have hnb := h.1.1
  unfold nxFriend
  rcases ix_cases x (show 7 < 2147483648 by omega) with ⟨j, hj, rfl, ej⟩ | ⟨ho, ej⟩
  · rcases ix_cases y (show 8 < 2147483648 by omega) with ⟨p, hp, rfl, ep⟩ | ⟨ho, ep⟩
    · rw [ej, ep]
      dsimp only
      split
      · exact h
      · obtain ⟨h1, h2, h3, h4, h5⟩ := h
        refine ⟨h1.cg (frA_q (by omega) (by omega)) (frA_q (by omega) (by omega)) (frA_q (by omega) (by omega)) (frA_q (by omega) (by omega)) (frA_q (by omega) (by omega)) (frA_q (by omega) (by omega)), ?_, h3.cg (frA_q (by omega) (by omega)), h4.cg (frA_q (by omega) (by omega)) (frA_q (by omega) (by omega)) (frA_q (by omega) (by omega)) (frA_q (by omega) (by omega)) (frA_q (by omega) (by omega)) (frA_q (by omega) (by omega)), h5.cg (frA_q (by omega) (by omega)) (frA_q (by omega) (by omega))⟩
        unfold WFj
        rw [frA_q (show (0 : Nat) ≠ 7 by omega) (by omega), frA_q (show (6 : Nat) ≠ 7 by omega) (by omega)]
        refine ⟨fun i => ⟨(h2.1 i).1, ?_, ?_⟩, fun j' b' hj' hb' hn => ⟨(h2.2.1 j' b' hj' hb' hn).1, ?_⟩, fun j' b' hj' hb' hq => ?_⟩
        · rw [frA_7]; split
          · omega
          · exact (h2.1 i).2.1
        · rw [frA_8]; split
          · omega
          · exact (h2.1 i).2.2
        · rw [frA_8]; split
          · rfl
          · exact (h2.2.1 j' b' hj' hb' hn).2
        · have hp8 := (h1.2.1 b' hb').1
          rw [frA_8]
          by_cases he : 24 * j ≤ 24 * j' + b' ∧ 24 * j' + b' < 24 * j + A 0 0 ∧ A 1 (24 * j' + b' - 24 * j) = p
          · rw [if_pos he]
          · rw [if_neg he]
            apply h2.2.2 j' b' hj' hb'
            unfold brd at hq ⊢
            rw [frA_q (show (6 : Nat) ≠ 7 by omega) (by omega), frA_q (show (1 : Nat) ≠ 7 by omega) (by omega), frA_7] at hq
            by_cases h8 : 8 * j' + A 1 b' = 8 * j + p
            · have e1 : j' = j := by omega
              subst e1
              exact absurd ⟨by omega, by omega, by rw [show 24 * j' + b' - 24 * j' = b' by omega]; omega⟩ he
            · rw [if_neg h8] at hq; exact hq
    · rw [ej, ep]; exact h
  · rw [ej]; exact h
