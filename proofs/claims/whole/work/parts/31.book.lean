/-! book -/
def bkA (A : AS) (p g d : Nat) : AS := au (au (au (au A 1 (A 0 0) p) 2 (A 0 0) g) 3 (A 0 0) d) 0 0 (A 0 0 + 1)
def anBook (A : AS) (x y z : Int32) : Int32 := match ix x 8, ix y 2001, ix z 401 with
  | some _, some g, some _ => if g = 0 then -1 else if A 0 0 < 24 then nI (A 0 0) else -1
  | _, _, _ => -1
def nxBook (A : AS) (x y z : Int32) : AS := match ix x 8, ix y 2001, ix z 401 with
  | some p, some g, some d => if g = 0 then A else if A 0 0 < 24 then bkA A p g d else A
  | _, _, _ => A
theorem bkA_q {A : AS} {p g d q : Nat} (h0 : q ≠ 0) (h1 : q ≠ 1) (h2 : q ≠ 2) (h3 : q ≠ 3) : bkA A p g d q = A q := by
  unfold bkA
  rw [au_q h0, au_q h3, au_q h2, au_q h1]
theorem bkA_0 {A : AS} {p g d : Nat} : bkA A p g d 0 0 = A 0 0 + 1 := au_p
theorem bkA_1 {A : AS} {p g d b : Nat} : bkA A p g d 1 b = if b = A 0 0 then p else A 1 b := by
  unfold bkA
  rw [au_q (by omega), au_q (by omega), au_q (by omega), au_e]
theorem bkA_2 {A : AS} {p g d b : Nat} : bkA A p g d 2 b = if b = A 0 0 then g else A 2 b := by
  unfold bkA
  rw [au_q (by omega), au_q (by omega), au_e, au_q (by omega)]
theorem bkA_3 {A : AS} {p g d b : Nat} : bkA A p g d 3 b = if b = A 0 0 then d else A 3 b := by
  unfold bkA
  rw [au_q (by omega), au_e, au_q (by omega), au_q (by omega)]
theorem bkA_brd {A : AS} (hw : WFj A) {p g d j b : Nat} (hj : j < 7) (hn : A 0 0 < 24) (hb : b < A 0 0 + 1) : brd (bkA A p g d) j b = if b = A 0 0 then decide (A 7 (8 * j + p) = 1) else brd A j b := by
  unfold brd
  rw [bkA_q (show (6 : Nat) ≠ 0 by omega) (by omega) (by omega) (by omega), bkA_q (show (7 : Nat) ≠ 0 by omega) (by omega) (by omega) (by omega), bkA_1]
  by_cases he : b = A 0 0
  · rw [if_pos he, if_pos he, decide_eq_false (p := A 6 (24 * j + b) = 1) (by rw [(hw.2.1 j b hj (by omega) (by omega)).1]; omega)]; rfl
  · rw [if_neg he, if_neg he]
theorem WF_book {A : AS} (h : WF A) (x y z : Int32) : WF (nxBook A x y z) := by
  have hnb := h.1.1
  unfold nxBook
  rcases ix_cases x (show 8 < 2147483648 by omega) with ⟨p, hp, rfl, ep⟩ | ⟨ho, ep⟩
  · rcases ix_cases y (show 2001 < 2147483648 by omega) with ⟨g, hg, rfl, eg⟩ | ⟨ho, eg⟩
    · rcases ix_cases z (show 401 < 2147483648 by omega) with ⟨d, hd, rfl, ed⟩ | ⟨ho, ed⟩
      · rw [ep, eg, ed]
        dsimp only
        split
        · exact h
        · split
          · obtain ⟨h1, h2, h3, h4, h5⟩ := h
            refine ⟨?_, ?_, h3.cg (bkA_q (by omega) (by omega) (by omega) (by omega)), ?_, h5.cg (bkA_q (by omega) (by omega) (by omega) (by omega)) (bkA_q (by omega) (by omega) (by omega) (by omega))⟩
            · unfold WFb
              rw [bkA_0, bkA_q (show (4 : Nat) ≠ 0 by omega) (by omega) (by omega) (by omega), bkA_q (show (5 : Nat) ≠ 0 by omega) (by omega) (by omega) (by omega)]
              refine ⟨by omega, fun b hb => ?_, h1.2.2.1, fun b hb => h1.2.2.2 b (by omega)⟩
              rw [bkA_1, bkA_2, bkA_3]
              by_cases he : b = A 0 0
              · rw [if_pos he, if_pos he, if_pos he]; omega
              · rw [if_neg he, if_neg he, if_neg he]; exact h1.2.1 b (by omega)
            · unfold WFj
              rw [bkA_0, bkA_q (show (6 : Nat) ≠ 0 by omega) (by omega) (by omega) (by omega), bkA_q (show (7 : Nat) ≠ 0 by omega) (by omega) (by omega) (by omega), bkA_q (show (8 : Nat) ≠ 0 by omega) (by omega) (by omega) (by omega)]
              refine ⟨h2.1, fun j b hj hb hn => h2.2.1 j b hj hb (by omega), fun j b hj hb hq => ?_⟩
              rw [bkA_brd h2 hj (by omega) hb] at hq
              by_cases he : b = A 0 0
              · exact (h2.2.1 j b hj (by omega) (by omega)).2
              · rw [if_neg he] at hq; exact h2.2.2 j b hj (by omega) hq
            · unfold WFq
              rw [bkA_0, bkA_q (show (10 : Nat) ≠ 0 by omega) (by omega) (by omega) (by omega), bkA_q (show (11 : Nat) ≠ 0 by omega) (by omega) (by omega) (by omega), bkA_q (show (12 : Nat) ≠ 0 by omega) (by omega) (by omega) (by omega), bkA_q (show (13 : Nat) ≠ 0 by omega) (by omega) (by omega) (by omega), bkA_q (show (14 : Nat) ≠ 0 by omega) (by omega) (by omega) (by omega)]
              exact ⟨h4.1, h4.2.1, h4.2.2.1, fun x i hx hi => by have := h4.2.2.2.1 x i hx hi; omega, h4.2.2.2.2⟩
          · exact h
      · rw [ep, eg, ed]; exact h
    · rw [ep, eg]; exact h
  · rw [ep]; exact h
def bfT (σ : ZS) (n p k : Nat) : ZS := fun q i => if q = 14 ∧ i < k ∧ bt (σ 13 i) p = true then σ 14 i ||| bitm n else if q = 15 ∧ i < k ∧ bt (σ 13 i) p = true then σ 15 i &&& (bitm n ^^^ (-1)) else σ q i
theorem bfT_q {σ : ZS} {n p k q : Nat} (h1 : q ≠ 14) (h2 : q ≠ 15) : bfT σ n p k q = σ q := by
  funext i
  unfold bfT
  rw [if_neg (fun e => h1 e.1), if_neg (fun e => h2 e.1)]
theorem bfT_14 {σ : ZS} {n p k i : Nat} : bfT σ n p k 14 i = if i < k ∧ bt (σ 13 i) p = true then σ 14 i ||| bitm n else σ 14 i := by
  unfold bfT
  by_cases h : i < k ∧ bt (σ 13 i) p = true
  · rw [if_pos ⟨rfl, h⟩, if_pos h]
  · rw [if_neg (fun e => h e.2), if_neg (by omega), if_neg h]
theorem bfT_15 {σ : ZS} {n p k i : Nat} : bfT σ n p k 15 i = if i < k ∧ bt (σ 13 i) p = true then σ 15 i &&& (bitm n ^^^ (-1)) else σ 15 i := by
  unfold bfT
  rw [if_neg (by omega)]
  by_cases h : i < k ∧ bt (σ 13 i) p = true
  · rw [if_pos ⟨rfl, h⟩, if_pos h]
  · rw [if_neg (fun e => h e.2), if_neg h]
section Book
variable {N : Nat} {σ : ZS} {A : AS}
theorem d_barFriends (hN : 200 ≤ N) {n p : Nat} (hn : n < 24) (hp : p < 32) : f_X0_barFriends N σ (nI n) (nI p) = some (bfT σ n p 7) := by
  unfold f_X0_barFriends L_X0_barFriends_2
  have e0 : bfT σ n p 0 = σ := by
    funext q i
    unfold bfT
    rw [if_neg (by omega), if_neg (by omega)]
  refine Eq.trans (congrArg (lq2 _ N 0) e0.symm) ?_
  refine lq2_seq (fun k => nI k) (fun k => bfT σ n p k) _ 7 ?_ ?_ N (by omega)
  · intro k hk rc
    unfold B_X0_barFriends_2
    rw [k_7]
    simp only [n_le (show 7 < 2147483648 by omega) (show k < 2147483648 by omega)]
    rw [if_neg (by omega), d_isBookNumber (by omega), Option.bind_some, decide_eq_true hn, if_neg (by decide), g_rd_in hk (by omega), bfT_q (by omega) (by omega), d_contains hp, Option.bind_some]
    simp only [zb_0, g_lt_e, nI_1, d_bit, Option.bind_some]
    by_cases hq : bt (σ 13 k) p = true
    · rw [if_neg (by rw [hq]; decide), d_bar hk, Option.bind_some]
      congr 1
      funext q i
      rw [zu_e, zu_e]
      by_cases h1 : q = 15 ∧ i = k
      · obtain ⟨rfl, rfl⟩ := h1
        rw [if_pos ⟨rfl, rfl⟩, bfT_15, bfT_15, if_neg (by omega), if_pos ⟨by omega, hq⟩]
      · rw [if_neg h1]
        by_cases h2 : q = 14 ∧ i = k
        · obtain ⟨rfl, rfl⟩ := h2
          rw [if_pos ⟨rfl, rfl⟩, bfT_14, bfT_14, if_neg (by omega), if_pos ⟨by omega, hq⟩]
        · rw [if_neg h2]
          by_cases h3 : q = 14
          · subst h3
            rw [bfT_14, bfT_14]
            by_cases h4 : i < k ∧ bt (σ 13 i) p = true
            · rw [if_pos h4, if_pos ⟨by omega, h4.2⟩]
            · rw [if_neg h4, if_neg (fun e => h4 ⟨by omega, e.2⟩)]
          · by_cases h5 : q = 15
            · subst h5
              rw [bfT_15, bfT_15]
              by_cases h4 : i < k ∧ bt (σ 13 i) p = true
              · rw [if_pos h4, if_pos ⟨by omega, h4.2⟩]
              · rw [if_neg h4, if_neg (fun e => h4 ⟨by omega, e.2⟩)]
            · rw [bfT_q h3 h5, bfT_q h3 h5]
    · have hq' : bt (σ 13 k) p = false := by simpa using hq
      rw [if_pos hq']
      congr 1
      funext q i
      by_cases h3 : q = 14
      · subst h3
        rw [bfT_14, bfT_14]
        by_cases h4 : i < k ∧ bt (σ 13 i) p = true
        · rw [if_pos h4, if_pos ⟨by omega, h4.2⟩]
        · rw [if_neg h4, if_neg (fun e => h4 ⟨by have : i ≠ k := fun ee => hq (ee ▸ e.2)
                                                 omega, e.2⟩)]
      · by_cases h5 : q = 15
        · subst h5
          rw [bfT_15, bfT_15]
          by_cases h4 : i < k ∧ bt (σ 13 i) p = true
          · rw [if_pos h4, if_pos ⟨by omega, h4.2⟩]
          · rw [if_neg h4, if_neg (fun e => h4 ⟨by have : i ≠ k := fun ee => hq (ee ▸ e.2)
                                                   omega, e.2⟩)]
        · rw [bfT_q h3 h5, bfT_q h3 h5]
  · intro rc
    unfold B_X0_barFriends_2
    rw [if_pos (by decide)]
theorem d_barFriends_m1 (hN : 200 ≤ N) {p : Int32} : f_X0_barFriends N σ (-1) p = some σ := by
  unfold f_X0_barFriends L_X0_barFriends_2
  refine lq2_seq (fun k => nI k) (fun _ => σ) _ 7 ?_ ?_ N (by omega)
  · intro k hk rc
    unfold B_X0_barFriends_2
    rw [k_7]
    simp only [n_le (show 7 < 2147483648 by omega) (show k < 2147483648 by omega)]
    rw [if_neg (by omega), d_isBookNumber_m1, Option.bind_some, if_pos (by decide)]
    simp only [g_lt_e, nI_1]
  · intro rc
    unfold B_X0_barFriends_2
    rw [if_pos (by decide)]
theorem D_book (hN : 200 ≤ N) (h : RD A σ) (hw : WF A) (x y z : Int32) : ∃ τ, f_X7_book N σ x y z = some (anBook A x y z, τ) ∧ RD (nxBook A x y z) τ := by
  have hnb := hw.1.1
  unfold f_X7_book anBook nxBook
  rcases ix_cases x (show 8 < 2147483648 by omega) with ⟨p, hp, rfl, ep⟩ | ⟨ho, ep⟩
  · rw [ep, d_isPublisher (by omega), Option.bind_some, decide_eq_true hp, if_neg (by decide)]
    rcases ix_cases y (show 2001 < 2147483648 by omega) with ⟨g, hg, rfl, eg⟩ | ⟨ho, eg⟩
    · rw [eg, k_1, k_2000, d_within (by omega) (by omega) (by omega), Option.bind_some, decide_eq_true (show g ≤ 2000 by omega), Bool.and_true]
      simp only [zb_0]
      by_cases hg0 : g = 0
      · rw [decide_eq_false (by omega), if_pos rfl]
        refine ⟨σ, ?_, ?_⟩
        · rcases ix_cases z (show 401 < 2147483648 by omega) with ⟨d, hd, rfl, ed⟩ | ⟨ho, ed⟩
          · rw [ed]; dsimp only; rw [if_pos hg0]
          · rw [ed]
        · rcases ix_cases z (show 401 < 2147483648 by omega) with ⟨d, hd, rfl, ed⟩ | ⟨ho, ed⟩
          · rw [ed]; dsimp only; rw [if_pos hg0]; exact h
          · rw [ed]; exact h
      · rw [decide_eq_true (show 1 ≤ g by omega), if_neg (by decide)]
        rcases ix_cases z (show 401 < 2147483648 by omega) with ⟨d, hd, rfl, ed⟩ | ⟨ho, ed⟩
        · rw [ed, d_isDay_in hd, Option.bind_some, if_neg (by decide)]
          dsimp only
          rw [if_neg hg0, if_neg hg0]
          unfold f_X4_add
          rw [h.2.2.1.1, k_24]
          simp only [n_lt (show A 0 0 < 2147483648 by omega) (show 24 < 2147483648 by omega)]
          by_cases hn : A 0 0 < 24
          · rw [if_pos hn, if_pos hn, if_pos hn, g_wr_in hn (by omega), g_wr_in hn (by omega), g_wr_in hn (by omega), g_lt_e, g_b2_e]
            rw [show zu (zu (zu σ 7 (A 0 0) (nI p)) 8 (A 0 0) (nI g)) 9 (A 0 0) (nI d) 6 4 = nI (A 0 0) by rw [zu_q (by omega), zu_q (by omega), zu_q (by omega)]; exact h.2.2.1.1, nI_1]
            generalize hs4 : zu (zu (zu (zu σ 7 (A 0 0) (nI p)) 8 (A 0 0) (nI g)) 9 (A 0 0) (nI d)) 6 4 (nI (A 0 0 + 1)) = σ4
            have sq : ∀ q, q ≠ 6 → q ≠ 7 → q ≠ 8 → q ≠ 9 → σ4 q = σ q := fun q a b c e => by rw [← hs4, zu_q a, zu_q e, zu_q c, zu_q b]
            refine ⟨bfT σ4 (A 0 0) p 7, by rw [d_barFriends hN hn (by omega), Option.bind_some], ?_⟩
            obtain ⟨h1, h2, h3, h4, h5, h6, h7⟩ := h
            have fq : ∀ q, q ≠ 6 → q ≠ 7 → q ≠ 8 → q ≠ 9 → q ≠ 14 → q ≠ 15 → bfT σ4 (A 0 0) p 7 q = σ q := fun q a b c e f g' => by rw [bfT_q f g', sq q a b c e]
            refine ⟨h1.cg (bkA_q (by omega) (by omega) (by omega) (by omega)) (bkA_q (by omega) (by omega) (by omega) (by omega)) (fq 1 (by omega) (by omega) (by omega) (by omega) (by omega) (by omega)) (fq 2 (by omega) (by omega) (by omega) (by omega) (by omega) (by omega)), h2.cg (bkA_q (by omega) (by omega) (by omega) (by omega)) (fq 4 (by omega) (by omega) (by omega) (by omega) (by omega) (by omega)), ?_, ?_, h5.cg (bkA_q (by omega) (by omega) (by omega) (by omega)) (bkA_q (by omega) (by omega) (by omega) (by omega)) (bkA_q (by omega) (by omega) (by omega) (by omega)) (bkA_q (by omega) (by omega) (by omega) (by omega)) (fq 18 (by omega) (by omega) (by omega) (by omega) (by omega) (by omega)) (fq 19 (by omega) (by omega) (by omega) (by omega) (by omega) (by omega)) (fq 20 (by omega) (by omega) (by omega) (by omega) (by omega) (by omega)), h6.cg (bkA_q (by omega) (by omega) (by omega) (by omega)) (bkA_q (by omega) (by omega) (by omega) (by omega)) (bkA_q (by omega) (by omega) (by omega) (by omega)) (bkA_q (by omega) (by omega) (by omega) (by omega)) (fq 21 (by omega) (by omega) (by omega) (by omega) (by omega) (by omega)) (fq 22 (by omega) (by omega) (by omega) (by omega) (by omega) (by omega)) (fq 23 (by omega) (by omega) (by omega) (by omega) (by omega) (by omega)), h7.cg (bkA_q (by omega) (by omega) (by omega) (by omega)) (fq 35 (by omega) (by omega) (by omega) (by omega) (by omega) (by omega))⟩
            · unfold RDb
              rw [bfT_q (show (6 : Nat) ≠ 14 by omega) (by omega), bfT_q (show (7 : Nat) ≠ 14 by omega) (by omega), bfT_q (show (8 : Nat) ≠ 14 by omega) (by omega), bfT_q (show (9 : Nat) ≠ 14 by omega) (by omega), bkA_0, bkA_q (show (4 : Nat) ≠ 0 by omega) (by omega) (by omega) (by omega), bkA_q (show (5 : Nat) ≠ 0 by omega) (by omega) (by omega) (by omega)]
              refine ⟨by rw [← hs4]; exact zu_p, fun b hb => ?_, ?_, ?_⟩
              · rw [bkA_1, bkA_2, bkA_3, ← hs4]
                rw [zu_q (show (7 : Nat) ≠ 6 by omega), zu_q (show (7 : Nat) ≠ 9 by omega), zu_q (show (7 : Nat) ≠ 8 by omega), zu_q (show (8 : Nat) ≠ 6 by omega), zu_q (show (8 : Nat) ≠ 9 by omega), zu_q (show (9 : Nat) ≠ 6 by omega)]
                by_cases he : b = A 0 0
                · rw [if_pos he, if_pos he, if_pos he, he]
                  exact ⟨zu_p, zu_p, zu_p⟩
                · rw [if_neg he, if_neg he, if_neg he, zu_i he, zu_i he, zu_i he, zu_q (show (8 : Nat) ≠ 7 by omega), zu_q (show (9 : Nat) ≠ 8 by omega), zu_q (show (9 : Nat) ≠ 7 by omega)]
                  exact h3.2.1 b (by omega)
              · rw [← hs4, zu_i (by omega), zu_q (by omega), zu_q (by omega), zu_q (by omega)]; exact h3.2.2.1
              · rw [← hs4, zu_i (by omega), zu_q (by omega), zu_q (by omega), zu_q (by omega)]; exact h3.2.2.2
            · intro j hj
              obtain ⟨q1, q2, q3, q4, q5⟩ := h4 j hj
              rw [fq 12 (by omega) (by omega) (by omega) (by omega) (by omega) (by omega), fq 13 (by omega) (by omega) (by omega) (by omega) (by omega) (by omega), fq 16 (by omega) (by omega) (by omega) (by omega) (by omega) (by omega), bfT_14, bfT_15, sq 13 (by omega) (by omega) (by omega) (by omega), sq 14 (by omega) (by omega) (by omega) (by omega), sq 15 (by omega) (by omega) (by omega) (by omega), bkA_0, bkA_q (show (6 : Nat) ≠ 0 by omega) (by omega) (by omega) (by omega), bkA_q (show (7 : Nat) ≠ 0 by omega) (by omega) (by omega) (by omega), bkA_q (show (8 : Nat) ≠ 0 by omega) (by omega) (by omega) (by omega)]
              have hf : bt (σ 13 j) p = decide (A 7 (8 * j + p) = 1) := by rw [q2 p (by omega), decide_eq_true hp, Bool.true_and]
              have hm0 := (hw.2.1.2.1 j (A 0 0) hj hn (Nat.le_refl _)).2
              refine ⟨q1, q2, fun i hi => ?_, fun i hi => ?_, q5⟩
              · by_cases hin : i < A 0 0 + 1
                · rw [bkA_brd hw.2.1 hj hn hin, decide_eq_true hin, Bool.true_and]
                  by_cases he : i = A 0 0
                  · rw [if_pos he]
                    by_cases hq : bt (σ 13 j) p = true
                    · rw [if_pos ⟨hj, hq⟩, b_or, bt_bitm (by omega) hi, decide_eq_true he, Bool.or_true, ← hf, hq]
                    · rw [if_neg (fun e => hq e.2), q3 i hi, decide_eq_false (by omega), ← hf]
                      simpa using hq
                  · rw [if_neg he]
                    have e3 : bt (σ 14 j) i = brd A j i := by rw [q3 i hi, decide_eq_true (show i < A 0 0 by omega), Bool.true_and]
                    by_cases hq : bt (σ 13 j) p = true
                    · rw [if_pos ⟨hj, hq⟩, b_or, bt_bitm (by omega) hi, decide_eq_false he, Bool.or_false, e3]
                    · rw [if_neg (fun e => hq e.2), e3]
                · rw [decide_eq_false hin, Bool.false_and]
                  have e3 : bt (σ 14 j) i = false := by rw [q3 i hi, decide_eq_false (by omega)]; rfl
                  by_cases hq : bt (σ 13 j) p = true
                  · rw [if_pos ⟨hj, hq⟩, b_or, bt_bitm (by omega) hi, decide_eq_false (by omega), Bool.or_false, e3]
                  · rw [if_neg (fun e => hq e.2), e3]
              · by_cases hq : bt (σ 13 j) p = true
                · rw [if_pos ⟨hj, hq⟩, b_and, bt_not hi, bt_bitm (by omega) hi, q4 i hi]
                  by_cases he : i = A 0 0
                  · rw [he, hm0]; simp
                  · rw [decide_eq_false he]; simp
                · rw [if_neg (fun e => hq e.2), q4 i hi]
          · rw [if_neg hn, if_neg hn, if_neg hn, g_b2_e, d_barFriends_m1 hN, Option.bind_some]
            exact ⟨σ, rfl, h⟩
        · rw [ed]
          exact ⟨σ, by rw [d_isDay_out ho, Option.bind_some, if_pos rfl], h⟩
    · rw [eg]
      refine ⟨σ, ?_, h⟩
      rw [d_isWithin, Option.bind_some, if_pos]
      rw [zb_0]
      rcases ho with ho | ho
      · rw [decide_eq_false (p := (1 : Int32) ≤ y) (fun e => by
          rw [Int32.le_iff_toInt_le] at e
          rw [Int32.lt_iff_toInt_lt] at ho
          have e1 : (1 : Int32).toInt = 1 := rfl
          have e0 : (0 : Int32).toInt = 0 := rfl
          omega)]
        rfl
      · rw [decide_eq_false (p := y ≤ (2000 : Int32)) (fun e => by
          rw [Int32.le_iff_toInt_le] at e ho
          rw [nI_toInt (by omega)] at ho
          have e1 : (2000 : Int32).toInt = 2000 := rfl
          omega), Bool.and_false]
  · rw [ep]
    exact ⟨σ, by rw [d_isPub_out ho, Option.bind_some, if_pos rfl], h⟩
end Book
