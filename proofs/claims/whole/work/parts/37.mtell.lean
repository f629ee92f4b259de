/-! ===== what the reference is told ===== -/
/-- the table's rows and the reference's places that stay -/
theorem RM.go {A B : AS} {τ ρ : ZS} (h : RM A τ) (ra : ∀ q, (q = 15 ∨ q = 16 ∨ q = 9) → B q = A q) (rt : ρ 0 1 = τ 0 1) (rp : ∀ p, (p = 1 ∨ p = 2) → ρ p = τ p) (hb : RMb B ρ) (hj : RMj B ρ) (hp : RMp B ρ) (hk : RMk B ρ) : RM B ρ :=
  ⟨h.1.cg (ra 15 (by omega)) (ra 16 (by omega)) rt (rp 1 (by omega)), h.2.1.cg (ra 9 (by omega)) (rp 2 (by omega)), hb, hj, hp, hk⟩
section MTell
variable {N : Nat} {τ : ZS} {A : AS}
theorem RMp.go {B : AS} {ρ : ZS} (h : RMp A τ) (ra : ∀ q, (q = 10 ∨ q = 12 ∨ q = 13 ∨ q = 14) → B q = A q) (rp : ∀ p, (p = 12 ∨ p = 14 ∨ p = 15 ∨ p = 16 ∨ p = 17) → ρ p = τ p) : RMp B ρ :=
  h.cg (ra 10 (by omega)) (ra 12 (by omega)) (ra 13 (by omega)) (ra 14 (by omega)) (rp 12 (by omega)) (rp 14 (by omega)) (rp 15 (by omega)) (rp 16 (by omega)) (rp 17 (by omega))
theorem RMb.go {B : AS} {ρ : ZS} (h : RMb A τ) (ra : ∀ q, q ≤ 5 → B q = A q) (r0 : ρ 0 4 = τ 0 4) (rp : ∀ p, (4 ≤ p ∧ p ≤ 8) → ρ p = τ p) : RMb B ρ :=
  h.cg (ra 0 (by omega)) (ra 1 (by omega)) (ra 2 (by omega)) (ra 3 (by omega)) (ra 4 (by omega)) (ra 5 (by omega)) r0 (rp 4 (by omega)) (rp 5 (by omega)) (rp 6 (by omega)) (rp 7 (by omega)) (rp 8 (by omega))
theorem RMj.go {B : AS} {ρ : ZS} (h : RMj A τ) (ra : ∀ q, (q = 0 ∨ q = 6 ∨ q = 7 ∨ q = 8) → B q = A q) (rp : ∀ p, (p = 9 ∨ p = 10 ∨ p = 11) → ρ p = τ p) : RMj B ρ :=
  h.cg (ra 0 (by omega)) (ra 6 (by omega)) (ra 7 (by omega)) (ra 8 (by omega)) (rp 9 (by omega)) (rp 10 (by omega)) (rp 11 (by omega))
theorem M_call (h : RM A τ) (hw : WF A) (x : Int32) : ∃ ρ, f_X8_call N τ x = some (anCall A x, ρ) ∧ RM (nxCall A x) ρ := by
  have hnb := hw.1.1
  unfold f_X8_call anCall nxCall
  rcases ix_cases x (show A 0 0 < 2147483648 by omega) with ⟨b, hb, rfl, eb⟩ | ⟨ho, eb⟩
  · rw [eb]
    dsimp only
    have h1 := (h.2.2.1.2.2 b (by omega)).1
    have h2 := (hw.1.2.2.1 b).1
    rw [m_isBook h.2.2.1 hw.1 (by omega), Option.bind_some, decide_eq_true hb, if_neg (by decide), g_rd_in (by omega) (by omega), h1]
    by_cases hc : A 4 b = 1
    · rw [hc, if_neg (by decide), if_pos rfl]
      refine ⟨τ, rfl, h.go (fun q hq => au_q (by omega)) rfl (fun _ _ => rfl) ?_ (h.2.2.2.1.go (fun q hq => au_q (by omega)) (fun _ _ => rfl)) (h.2.2.2.2.1.go (fun q hq => au_q (by omega)) (fun _ _ => rfl)) (h.2.2.2.2.2.cg (au_q (by omega)) rfl)⟩
      unfold RMb
      rw [au_q (show (0 : Nat) ≠ 4 by omega), au_q (show (1 : Nat) ≠ 4 by omega), au_q (show (2 : Nat) ≠ 4 by omega), au_q (show (3 : Nat) ≠ 4 by omega)]
      refine ⟨h.2.2.1.1, h.2.2.1.2.1, fun c hc' => ?_⟩
      have hc := hc'
      refine ⟨?_, by rw [au_q (by omega)]; exact (h.2.2.1.2.2 c hc).2⟩
      rw [au_e]
      split
      · rename_i e; rw [e, h1]; congr 1
      · exact (h.2.2.1.2.2 c hc).1
    · rw [show A 4 b = 0 by omega, if_pos nI_0, g_wr_in (by omega) (by omega), nar_z, if_neg (by omega)]
      refine ⟨_, rfl, h.go (fun q hq => au_q (by omega)) (by rw [zu_q (by omega)]) (fun p hp => zu_q (by omega)) ?_ (h.2.2.2.1.go (fun q hq => au_q (by omega)) (fun p hp => zu_q (by omega))) (h.2.2.2.2.1.go (fun q hq => au_q (by omega)) (fun p hp => zu_q (by omega))) (h.2.2.2.2.2.cg (au_q (by omega)) (zu_q (by omega)))⟩
      unfold RMb
      rw [au_q (show (0 : Nat) ≠ 4 by omega), au_q (show (1 : Nat) ≠ 4 by omega), au_q (show (2 : Nat) ≠ 4 by omega), au_q (show (3 : Nat) ≠ 4 by omega), zu_q (show (0 : Nat) ≠ 7 by omega), zu_q (show (4 : Nat) ≠ 7 by omega), zu_q (show (5 : Nat) ≠ 7 by omega), zu_q (show (6 : Nat) ≠ 7 by omega)]
      refine ⟨h.2.2.1.1, h.2.2.1.2.1, fun c hc => ?_⟩
      refine ⟨?_, by rw [zu_q (by omega), au_q (by omega)]; exact (h.2.2.1.2.2 c hc).2⟩
      rw [au_e]
      by_cases e : c = b
      · rw [if_pos e, e, zu_p]; rfl
      · rw [if_neg e, zu_i e]
        exact (h.2.2.1.2.2 c hc).1
  · rw [eb, m_isBook_out h.2.2.1 ho, Option.bind_some, if_pos rfl]
    exact ⟨τ, rfl, h⟩
theorem M_withdraw (h : RM A τ) (hw : WF A) (x : Int32) : ∃ ρ, f_X8_withdraw N τ x = some (anWithdraw A x, ρ) ∧ RM (nxWithdraw A x) ρ := by
  have hnb := hw.1.1
  unfold f_X8_withdraw anWithdraw nxWithdraw
  rcases ix_cases x (show A 0 0 < 2147483648 by omega) with ⟨b, hb, rfl, eb⟩ | ⟨ho, eb⟩
  · rw [eb]
    dsimp only
    have h1 := (h.2.2.1.2.2 b (by omega)).2
    have h2 := (hw.1.2.2.1 b).2
    rw [m_isBook h.2.2.1 hw.1 (by omega), Option.bind_some, decide_eq_true hb, if_neg (by decide), g_rd_in (by omega) (by omega), h1]
    by_cases hc : A 5 b = 1
    · rw [hc, if_neg (by decide), if_pos rfl]
      refine ⟨τ, rfl, h.go (fun q hq => au_q (by omega)) rfl (fun _ _ => rfl) ?_ (h.2.2.2.1.go (fun q hq => au_q (by omega)) (fun _ _ => rfl)) (h.2.2.2.2.1.go (fun q hq => au_q (by omega)) (fun _ _ => rfl)) (h.2.2.2.2.2.cg (au_q (by omega)) rfl)⟩
      unfold RMb
      rw [au_q (show (0 : Nat) ≠ 5 by omega), au_q (show (1 : Nat) ≠ 5 by omega), au_q (show (2 : Nat) ≠ 5 by omega), au_q (show (3 : Nat) ≠ 5 by omega)]
      refine ⟨h.2.2.1.1, h.2.2.1.2.1, fun c hc' => ?_⟩
      have hc := hc'
      refine ⟨by rw [au_q (by omega)]; exact (h.2.2.1.2.2 c hc).1, ?_⟩
      rw [au_e]
      split
      · rename_i e; rw [e, h1]; congr 1
      · exact (h.2.2.1.2.2 c hc).2
    · rw [show A 5 b = 0 by omega, if_pos nI_0, g_wr_in (by omega) (by omega), nar_z, if_neg (by omega)]
      refine ⟨_, rfl, h.go (fun q hq => au_q (by omega)) (by rw [zu_q (by omega)]) (fun p hp => zu_q (by omega)) ?_ (h.2.2.2.1.go (fun q hq => au_q (by omega)) (fun p hp => zu_q (by omega))) (h.2.2.2.2.1.go (fun q hq => au_q (by omega)) (fun p hp => zu_q (by omega))) (h.2.2.2.2.2.cg (au_q (by omega)) (zu_q (by omega)))⟩
      unfold RMb
      rw [au_q (show (0 : Nat) ≠ 5 by omega), au_q (show (1 : Nat) ≠ 5 by omega), au_q (show (2 : Nat) ≠ 5 by omega), au_q (show (3 : Nat) ≠ 5 by omega), zu_q (show (0 : Nat) ≠ 8 by omega), zu_q (show (4 : Nat) ≠ 8 by omega), zu_q (show (5 : Nat) ≠ 8 by omega), zu_q (show (6 : Nat) ≠ 8 by omega)]
      refine ⟨h.2.2.1.1, h.2.2.1.2.1, fun c hc => ?_⟩
      refine ⟨by rw [zu_q (by omega), au_q (by omega)]; exact (h.2.2.1.2.2 c hc).1, ?_⟩
      rw [au_e]
      by_cases e : c = b
      · rw [if_pos e, e, zu_p]; rfl
      · rw [if_neg e, zu_i e]
        exact (h.2.2.1.2.2 c hc).2
  · rw [eb, m_isBook_out h.2.2.1 ho, Option.bind_some, if_pos rfl]
    exact ⟨τ, rfl, h⟩
theorem M_close (h : RM A τ) (x y : Int32) : ∃ ρ, f_X8_close N τ x y = some (anClose x y, ρ) ∧ RM (nxClose A x y) ρ := by
  unfold f_X8_close anClose nxClose
  rcases ix_cases x (show 2 < 2147483648 by omega) with ⟨s, hs, rfl, es⟩ | ⟨ho, es⟩
  · rw [if_neg (nI_pos (show s < 2147483648 by omega)), k_2, ile_f (by omega) (by omega) (by omega), es]
    rcases ix_cases y (show 401 < 2147483648 by omega) with ⟨d, hd, rfl, ed⟩ | ⟨ho, ed⟩
    · rw [if_neg (nI_pos (show d < 2147483648 by omega)), k_400, ile_t (by omega) (by omega) (by omega), g_wr_in hs (by omega), ed]
      dsimp only
      refine ⟨_, rfl, h.go (fun q hq => au_q (by omega)) (by rw [zu_q (by omega)]) (fun p hp => zu_q (by omega)) (h.2.2.1.go (fun q hq => au_q (by omega)) (by rw [zu_q (by omega)]) (fun p hp => zu_q (by omega))) (h.2.2.2.1.go (fun q hq => au_q (by omega)) (fun p hp => zu_q (by omega))) ?_ (h.2.2.2.2.2.cg (au_q (by omega)) (zu_q (by omega)))⟩
      unfold RMp
      rw [au_q (show (12 : Nat) ≠ 10 by omega), au_q (show (13 : Nat) ≠ 10 by omega), au_q (show (14 : Nat) ≠ 10 by omega), zu_q (show (14 : Nat) ≠ 12 by omega), zu_q (show (15 : Nat) ≠ 12 by omega), zu_q (show (16 : Nat) ≠ 12 by omega), zu_q (show (17 : Nat) ≠ 12 by omega)]
      refine ⟨fun t ht => ?_, h.2.2.2.2.1.2⟩
      rw [au_e]
      by_cases e : t = s
      · rw [if_pos e, e, zu_p]
      · rw [if_neg e, zu_i e]; exact h.2.2.2.2.1.1 t ht
    · rw [ed]
      by_cases h0 : y < 0
      · rw [if_pos h0]; exact ⟨τ, rfl, h⟩
      · rw [if_neg h0, k_400, if_neg (Int32.not_le.mpr (m_le_out h0 ho (by omega)))]; exact ⟨τ, rfl, h⟩
  · rw [es]
    by_cases h0 : x < 0
    · rw [if_pos h0]; exact ⟨τ, rfl, h⟩
    · rw [if_neg h0, k_2, if_pos (ho.resolve_left h0)]; exact ⟨τ, rfl, h⟩
theorem M_telling (h : RM A τ) (x y : Int32) : ∃ ρ, f_X8_telling N τ x y = some (anTelling x y, ρ) ∧ RM (nxTelling A x y) ρ := by
  unfold f_X8_telling anTelling nxTelling
  rcases ix_cases x (show 3 < 2147483648 by omega) with ⟨s, hs, rfl, es⟩ | ⟨ho, es⟩
  · rw [if_neg (nI_pos (show s < 2147483648 by omega)), k_2, ilt_f (by omega) (by omega) (by omega), es]
    rcases ix_cases y (show 401 < 2147483648 by omega) with ⟨d, hd, rfl, ed⟩ | ⟨ho, ed⟩
    · rw [if_neg (nI_pos (show d < 2147483648 by omega)), k_400, ile_t (by omega) (by omega) (by omega), g_wr_in hs (by omega), ed]
      dsimp only
      refine ⟨_, rfl, h.go (fun q hq => au_q (by omega)) (by rw [zu_q (by omega)]) (fun p hp => zu_q (by omega)) (h.2.2.1.go (fun q hq => au_q (by omega)) (by rw [zu_q (by omega)]) (fun p hp => zu_q (by omega))) (h.2.2.2.1.go (fun q hq => au_q (by omega)) (fun p hp => zu_q (by omega))) (h.2.2.2.2.1.go (fun q hq => au_q (by omega)) (fun p hp => zu_q (by omega))) ?_⟩
      intro k hk
      rw [au_e]
      by_cases e : k = s
      · rw [if_pos e, e, zu_p]
      · rw [if_neg e, zu_i e]; exact h.2.2.2.2.2 k hk
    · rw [ed]
      by_cases h0 : y < 0
      · rw [if_pos h0]; exact ⟨τ, rfl, h⟩
      · rw [if_neg h0, k_400, if_neg (Int32.not_le.mpr (m_le_out h0 ho (by omega)))]; exact ⟨τ, rfl, h⟩
  · rw [es]
    by_cases h0 : x < 0
    · rw [if_pos h0]; exact ⟨τ, rfl, h⟩
    · rw [if_neg h0, k_2, if_pos (m_le_out h0 ho (by omega))]; exact ⟨τ, rfl, h⟩
theorem m_isBarred (h : RM A τ) (hw : WF A) {j b : Nat} (hj : j < 7) (hb : b < A 0 0) : f_X8_isBarred N τ (nI j) (nI b) = some (zb (brd A j b)) := by
  have hnb := hw.1.1
  have hp := (hw.1.2.1 b hb).1
  have h6 := (hw.2.1.1 (24 * j + b)).1
  have h7 := (hw.2.1.1 (8 * j + A 1 b)).2.1
  unfold f_X8_isBarred brd
  rw [k_24, pk_mul, nI_add, g_rd_in (by omega) (by omega), h.2.2.2.1.1 _ (by omega)]
  by_cases e : A 6 (24 * j + b) = 1
  · rw [e, if_neg (by decide), decide_eq_true rfl]; rfl
  · rw [show A 6 (24 * j + b) = 0 by omega, if_pos nI_0, g_rd_in (by omega) (by omega), (h.2.2.1.2.1 b hb).1, k_8, pk_mul, nI_add, g_rd_in (by omega) (by omega), h.2.2.2.1.2.1 _ (by omega)]
    by_cases e7 : A 7 (8 * j + A 1 b) = 1
    · rw [e7, if_neg (by decide), decide_eq_true rfl]; rfl
    · rw [show A 7 (8 * j + A 1 b) = 0 by omega, if_pos nI_0]; rfl
theorem M_mark (h : RM A τ) (hw : WF A) (x y z : Int32) : ∃ ρ, f_X8_mark N τ x y z = some (anMark A x y z, ρ) ∧ RM (nxMark A x y z) ρ := by
  have hnb := hw.1.1
  unfold f_X8_mark anMark nxMark
  rcases ix_cases x (show 7 < 2147483648 by omega) with ⟨j, hj, rfl, ej⟩ | ⟨ho, ej⟩
  · rw [m_isJudge hj, Option.bind_some, if_neg (by decide), ej]
    rcases ix_cases y (show A 0 0 < 2147483648 by omega) with ⟨b, hb, rfl, eb⟩ | ⟨ho, eb⟩
    · rw [m_isBook h.2.2.1 hw.1 (by omega), decide_eq_true hb, Option.bind_some, if_neg (by decide), eb]
      rcases ix_cases z (show 101 < 2147483648 by omega) with ⟨n, hn, rfl, en⟩ | ⟨ho, en⟩
      · rw [if_neg (nI_pos (show n < 2147483648 by omega)), k_100, ilt_f (by omega) (by omega) (by omega), m_isBarred h hw hj hb, Option.bind_some, en]
        dsimp only
        by_cases hq : brd A j b = true
        · rw [hq, if_neg (by decide), if_pos rfl, if_pos rfl]
          exact ⟨τ, rfl, h⟩
        · have hq' : brd A j b = false := by simpa using hq
          rw [hq', if_pos zb_f, if_neg (by decide), if_neg (by decide), k_24, pk_mul, nI_add, g_wr_in (by omega) (by omega)]
          refine ⟨_, rfl, h.go (fun q hq => au_q (by omega)) (by rw [zu_q (by omega)]) (fun p hp => zu_q (by omega)) (h.2.2.1.go (fun q hq => au_q (by omega)) (by rw [zu_q (by omega)]) (fun p hp => zu_q (by omega))) ?_ (h.2.2.2.2.1.go (fun q hq => au_q (by omega)) (fun p hp => zu_q (by omega))) (h.2.2.2.2.2.cg (au_q (by omega)) (zu_q (by omega)))⟩
          unfold RMj
          rw [au_q (show (0 : Nat) ≠ 8 by omega), au_q (show (6 : Nat) ≠ 8 by omega), au_q (show (7 : Nat) ≠ 8 by omega), zu_q (show (9 : Nat) ≠ 11 by omega), zu_q (show (10 : Nat) ≠ 11 by omega)]
          refine ⟨h.2.2.2.1.1, h.2.2.2.1.2.1, fun j' b' hj' hb' => ?_⟩
          rw [au_e]
          by_cases e : 24 * j' + b' = 24 * j + b
          · rw [e, zu_p, if_pos rfl, if_neg (by omega)]; rfl
          · rw [zu_i e, if_neg e]
            exact h.2.2.2.1.2.2 j' b' hj' hb'
      · rw [en]
        by_cases h0 : z < 0
        · rw [if_pos h0]; exact ⟨τ, rfl, h⟩
        · rw [if_neg h0, k_100, if_pos (m_le_out h0 ho (by omega))]; exact ⟨τ, rfl, h⟩
    · rw [m_isBook_out h.2.2.1 ho, Option.bind_some, if_pos rfl, eb]
      exact ⟨τ, rfl, h⟩
  · rw [m_isJudge_out ho, Option.bind_some, if_pos rfl, ej]
    exact ⟨τ, rfl, h⟩
theorem M_kin (h : RM A τ) (hw : WF A) (x y : Int32) : ∃ ρ, f_X8_kin N τ x y = some (anKin A x y, ρ) ∧ RM (nxKin A x y) ρ := by
  have hnb := hw.1.1
  unfold f_X8_kin anKin nxKin
  rcases ix_cases x (show 7 < 2147483648 by omega) with ⟨j, hj, rfl, ej⟩ | ⟨ho, ej⟩
  · rw [m_isJudge hj, Option.bind_some, if_neg (by decide), ej]
    rcases ix_cases y (show A 0 0 < 2147483648 by omega) with ⟨b, hb, rfl, eb⟩ | ⟨ho, eb⟩
    · have h6 := (hw.2.1.1 (24 * j + b)).1
      rw [m_isBook h.2.2.1 hw.1 (by omega), decide_eq_true hb, Option.bind_some, if_neg (by decide), eb, k_24, pk_mul, nI_add, g_rd_in (by omega) (by omega), h.2.2.2.1.1 _ (by omega)]
      dsimp only
      by_cases e : A 6 (24 * j + b) = 1
      · rw [e, if_neg (by decide), if_pos rfl, if_pos rfl]
        exact ⟨τ, rfl, h⟩
      · rw [if_neg e, if_neg e, show A 6 (24 * j + b) = 0 by omega, if_pos nI_0, g_wr_in (by omega) (by omega), g_wr_in (by omega) (by omega), nar_z]
        have aq : ∀ q, q ≠ 6 → q ≠ 8 → au (au A 6 (24 * j + b) 1) 8 (24 * j + b) 0 q = A q := fun q a b => by rw [au_q b, au_q a]
        have zq : ∀ p, p ≠ 9 → p ≠ 11 → zu (zu τ 9 (24 * j + b) 1) 11 (24 * j + b) (-1) p = τ p := fun p a b => by rw [zu_q b, zu_q a]
        refine ⟨_, rfl, h.go (fun q hq => aq q (by omega) (by omega)) (by rw [zq 0 (by omega) (by omega)]) (fun p hp => zq p (by omega) (by omega)) (h.2.2.1.go (fun q hq => aq q (by omega) (by omega)) (by rw [zq 0 (by omega) (by omega)]) (fun p hp => zq p (by omega) (by omega))) ?_ (h.2.2.2.2.1.go (fun q hq => aq q (by omega) (by omega)) (fun p hp => zq p (by omega) (by omega))) (h.2.2.2.2.2.cg (aq 11 (by omega) (by omega)) (zq 13 (by omega) (by omega)))⟩
        unfold RMj
        rw [aq 0 (by omega) (by omega), aq 7 (by omega) (by omega), zq 10 (by omega) (by omega)]
        refine ⟨fun i hi => ?_, h.2.2.2.1.2.1, fun j' b' hj' hb' => ?_⟩
        · rw [zu_q (by omega), au_q (by omega), au_e]
          by_cases he : i = 24 * j + b
          · rw [if_pos he, he, zu_p]; rfl
          · rw [if_neg he, zu_i he]; exact h.2.2.2.1.1 i hi
        · rw [au_e]
          by_cases he : 24 * j' + b' = 24 * j + b
          · rw [he, zu_p, if_pos rfl, if_pos rfl]
          · rw [zu_i he, if_neg he, zu_q (by omega), au_q (by omega)]
            exact h.2.2.2.1.2.2 j' b' hj' hb'
    · rw [m_isBook_out h.2.2.1 ho, Option.bind_some, if_pos rfl, eb]
      exact ⟨τ, rfl, h⟩
  · rw [m_isJudge_out ho, Option.bind_some, if_pos rfl, ej]
    exact ⟨τ, rfl, h⟩
def fmT (A : AS) (τ : ZS) (j p k : Nat) : ZS := fun q i => if q = 11 ∧ 24 * j ≤ i ∧ i < 24 * j + k ∧ A 1 (i - 24 * j) = p then -1 else τ q i
theorem fmT_q {j p k q : Nat} (h : q ≠ 11) : fmT A τ j p k q = τ q := by
  funext i
  unfold fmT
  rw [if_neg (fun e => h e.1)]
theorem fmT_0 {j p : Nat} : fmT A τ j p 0 = τ := by
  funext q i
  unfold fmT
  rw [if_neg (by omega)]
theorem fmT_y {j p k : Nat} (h : A 1 k = p) : zu (fmT A τ j p k) 11 (24 * j + k) (-1) = fmT A τ j p (k + 1) := by
  funext q i
  rw [zu_e]
  unfold fmT
  by_cases h1 : q = 11 ∧ i = 24 * j + k
  · rw [if_pos h1, if_pos ⟨h1.1, by omega, by omega, by rw [h1.2, show 24 * j + k - 24 * j = k by omega]; exact h⟩]
  · rw [if_neg h1]
    by_cases h2 : q = 11 ∧ 24 * j ≤ i ∧ i < 24 * j + k ∧ A 1 (i - 24 * j) = p
    · rw [if_pos h2, if_pos ⟨h2.1, h2.2.1, by omega, h2.2.2.2⟩]
    · rw [if_neg h2, if_neg (fun e => h2 ⟨e.1, e.2.1, by omega, e.2.2.2⟩)]
theorem fmT_n {j p k : Nat} (h : A 1 k ≠ p) : fmT A τ j p k = fmT A τ j p (k + 1) := by
  funext q i
  unfold fmT
  by_cases h2 : q = 11 ∧ 24 * j ≤ i ∧ i < 24 * j + k ∧ A 1 (i - 24 * j) = p
  · rw [if_pos h2, if_pos ⟨h2.1, h2.2.1, by omega, h2.2.2.2⟩]
  · rw [if_neg h2, if_neg (fun e => ?_)]
    by_cases h3 : i = 24 * j + k
    · rw [h3, show 24 * j + k - 24 * j = k by omega] at e
      exact h e.2.2.2
    · exact h2 ⟨e.1, e.2.1, by omega, e.2.2.2⟩
theorem M_friend (hN : 200 ≤ N) (h : RM A τ) (hw : WF A) (x y : Int32) : ∃ ρ, f_X8_friend N τ x y = some (anFriend A x y, ρ) ∧ RM (nxFriend A x y) ρ := by
  have hnb := hw.1.1
  unfold f_X8_friend anFriend nxFriend
  rcases ix_cases x (show 7 < 2147483648 by omega) with ⟨j, hj, rfl, ej⟩ | ⟨ho, ej⟩
  · rw [m_isJudge hj, Option.bind_some, if_neg (by decide), ej]
    rcases ix_cases y (show 8 < 2147483648 by omega) with ⟨p, hp, rfl, ep⟩ | ⟨ho, ep⟩
    · have h7 := (hw.2.1.1 (8 * j + p)).2.1
      rw [if_neg (nI_pos (show p < 2147483648 by omega)), k_8, ile_f (by omega) (by omega) (by omega), pk_mul, nI_add, g_rd_in (by omega) (by omega), h.2.2.2.1.2.1 _ (by omega), ep]
      dsimp only
      by_cases e : A 7 (8 * j + p) = 1
      · rw [e, if_neg (by decide), if_pos rfl, if_pos rfl]
        exact ⟨τ, rfl, h⟩
      · rw [if_neg e, if_neg e, show A 7 (8 * j + p) = 0 by omega, if_pos nI_0, g_wr_in (by omega) (by omega), nar_z]
        unfold L_X8_friend_47
        have key := lq2_seq (B := B_X8_friend_47 N (nI j) (nI p) (fun y8 s9 => some ((1 : Int32), s9))) (fun k => nI k) (fun k => fmT A (zu τ 10 (8 * j + p) 1) j p k) (some (1, fmT A (zu τ 10 (8 * j + p) 1) j p (A 0 0))) (A 0 0) ?_ ?_ N (by omega)
        · rw [fmT_0] at key
          have aq : ∀ q, q ≠ 7 → q ≠ 8 → frA A j p q = A q := fun q a b => frA_q a b
          have zq : ∀ q, q ≠ 10 → q ≠ 11 → fmT A (zu τ 10 (8 * j + p) 1) j p (A 0 0) q = τ q := fun q a b => by rw [fmT_q b, zu_q a]
          refine ⟨_, key, h.go (fun q hq => aq q (by omega) (by omega)) (by rw [zq 0 (by omega) (by omega)]) (fun p hp => zq p (by omega) (by omega)) (h.2.2.1.go (fun q hq => aq q (by omega) (by omega)) (by rw [zq 0 (by omega) (by omega)]) (fun p hp => zq p (by omega) (by omega))) ?_ (h.2.2.2.2.1.go (fun q hq => aq q (by omega) (by omega)) (fun p hp => zq p (by omega) (by omega))) (h.2.2.2.2.2.cg (aq 11 (by omega) (by omega)) (zq 13 (by omega) (by omega)))⟩
          unfold RMj
          rw [aq 0 (by omega) (by omega), aq 6 (by omega) (by omega), zq 9 (by omega) (by omega), fmT_q (show (10 : Nat) ≠ 11 by omega)]
          refine ⟨h.2.2.2.1.1, fun i hi => ?_, fun j' b' hj' hb' => ?_⟩
          · rw [frA_7]
            by_cases he : i = 8 * j + p
            · rw [if_pos he, he, zu_p]; rfl
            · rw [if_neg he, zu_i he]; exact h.2.2.2.1.2.1 i hi
          · rw [frA_8]
            show (if (11 : Nat) = 11 ∧ _ then (-1 : Int32) else _) = _
            by_cases he : 24 * j ≤ 24 * j' + b' ∧ 24 * j' + b' < 24 * j + A 0 0 ∧ A 1 (24 * j' + b' - 24 * j) = p
            · rw [if_pos ⟨rfl, he⟩, if_pos he, if_pos rfl]
            · rw [if_neg (fun e => he e.2), if_neg he, zu_q (by omega)]
              exact h.2.2.2.1.2.2 j' b' hj' hb'
        · intro k hk rc
          have hpk := (hw.1.2.1 k hk).1
          unfold B_X8_friend_47
          rw [fmT_q (show (0 : Nat) ≠ 11 by omega), zu_q (show (0 : Nat) ≠ 10 by omega), h.2.2.1.1, ile_f (by omega) (by omega) (by omega), g_rd_in (by omega) (by omega), fmT_q (show (4 : Nat) ≠ 11 by omega), zu_q (show (4 : Nat) ≠ 10 by omega), (h.2.2.1.2.1 k hk).1]
          by_cases he : A 1 k = p
          · rw [ieq_t he, k_24, pk_mul, nI_add, g_wr_in (by omega) (by omega), fmT_y he, g_lt_e, nI_1]
          · rw [ieq_f (by omega) (by omega) he, g_lt_e, nI_1, fmT_n he]
        · intro rc
          unfold B_X8_friend_47
          rw [fmT_q (show (0 : Nat) ≠ 11 by omega), zu_q (show (0 : Nat) ≠ 10 by omega), h.2.2.1.1, ile_t (by omega) (by omega) (by omega)]
    · rw [ep]
      by_cases h0 : y < 0
      · rw [if_pos h0]; exact ⟨τ, rfl, h⟩
      · rw [if_neg h0, k_8, if_pos (ho.resolve_left h0)]; exact ⟨τ, rfl, h⟩
  · rw [m_isJudge_out ho, Option.bind_some, if_pos rfl, ej]
    exact ⟨τ, rfl, h⟩
def bmT (τ : ZS) (n k : Nat) : ZS := fun q i => if q = 11 ∧ i % 24 = n ∧ i / 24 < k then -1 else τ q i
theorem bmT_q {n k q : Nat} (h : q ≠ 11) : bmT τ n k q = τ q := by
  funext i
  unfold bmT
  rw [if_neg (fun e => h e.1)]
theorem bmT_0 {n : Nat} : bmT τ n 0 = τ := by
  funext q i
  unfold bmT
  rw [if_neg (by omega)]
theorem bmT_s {n k : Nat} (hn : n < 24) : zu (bmT τ n k) 11 (24 * k + n) (-1) = bmT τ n (k + 1) := by
  funext q i
  rw [zu_e]
  unfold bmT
  by_cases h1 : q = 11 ∧ i = 24 * k + n
  · rw [if_pos h1, if_pos (by omega)]
  · rw [if_neg h1]
    by_cases h2 : q = 11 ∧ i % 24 = n ∧ i / 24 < k
    · rw [if_pos h2, if_pos (by omega)]
    · rw [if_neg h2, if_neg (by omega)]
theorem M_book (hN : 200 ≤ N) (h : RM A τ) (hw : WF A) (x y z : Int32) : ∃ ρ, f_X8_book N τ x y z = some (anBook A x y z, ρ) ∧ RM (nxBook A x y z) ρ := by
  have hnb := hw.1.1
  unfold f_X8_book anBook nxBook
  rcases ix_cases x (show 8 < 2147483648 by omega) with ⟨p, hp, rfl, ep⟩ | ⟨ho, ep⟩
  · rw [if_neg (nI_pos (show p < 2147483648 by omega)), k_8, ile_f (by omega) (by omega) (by omega), ep]
    rcases ix_cases y (show 2001 < 2147483648 by omega) with ⟨g, hg, rfl, eg⟩ | ⟨ho, eg⟩
    · rcases ix_cases z (show 401 < 2147483648 by omega) with ⟨d, hd, rfl, ed⟩ | ⟨ho, ed⟩
      · rw [eg, ed]
        dsimp only
        by_cases g0 : g = 0
        · rw [if_pos g0, if_pos g0, k_1, ilt_t (by omega) (by omega) (by omega)]
          exact ⟨τ, rfl, h⟩
        · rw [if_neg g0, if_neg g0, k_1, ilt_f (by omega) (by omega) (by omega), k_2000, ilt_f (by omega) (by omega) (by omega), if_neg (nI_pos (show d < 2147483648 by omega)), k_400, ilt_f (by omega) (by omega) (by omega), h.2.2.1.1, k_24]
          by_cases hn : A 0 0 < 24
          · rw [ieq_f (by omega) (by omega) (by omega), if_pos hn, if_pos hn, g_wr_in hn (by omega), zu_q (show (0 : Nat) ≠ 4 by omega), h.2.2.1.1, g_wr_in hn (by omega), zu_q (show (0 : Nat) ≠ 5 by omega), zu_q (show (0 : Nat) ≠ 4 by omega), h.2.2.1.1, g_wr_in hn (by omega)]
            unfold L_X8_book_77
            have e04 : ∀ k, bmT (zu (zu (zu τ 4 (A 0 0) (nI p)) 5 (A 0 0) (nI g)) 6 (A 0 0) (nI d)) (A 0 0) k 0 4 = nI (A 0 0) := fun k => by rw [bmT_q (by omega), zu_q (by omega), zu_q (by omega), zu_q (by omega), h.2.2.1.1]
            have key := lq2_seq (B := B_X8_book_77 N (fun y6 s7 => g_lt (zu s7 0 4 ((s7 0 4) + nI 1)) (fun s8 => some (((s8 0 4) - nI 1), s8)))) (fun k => nI k) (fun k => bmT (zu (zu (zu τ 4 (A 0 0) (nI p)) 5 (A 0 0) (nI g)) 6 (A 0 0) (nI d)) (A 0 0) k) (some (nI (A 0 0), zu (bmT (zu (zu (zu τ 4 (A 0 0) (nI p)) 5 (A 0 0) (nI g)) 6 (A 0 0) (nI d)) (A 0 0) 7) 0 4 (nI (A 0 0 + 1)))) 7 ?_ ?_ N (by omega)
            · rw [bmT_0] at key
              have zq : ∀ q, q ≠ 0 → q ≠ 4 → q ≠ 5 → q ≠ 6 → q ≠ 11 → zu (bmT (zu (zu (zu τ 4 (A 0 0) (nI p)) 5 (A 0 0) (nI g)) 6 (A 0 0) (nI d)) (A 0 0) 7) 0 4 (nI (A 0 0 + 1)) q = τ q := fun q a b c d e => by rw [zu_q a, bmT_q e, zu_q d, zu_q c, zu_q b]
              have aq : ∀ q, 3 < q → bkA A p g d q = A q := fun q a => bkA_q (by omega) (by omega) (by omega) (by omega)
              refine ⟨_, key, h.go (fun q hq => aq q (by omega)) (by rw [zu_i (by omega), bmT_q (by omega), zu_q (by omega), zu_q (by omega), zu_q (by omega)]) (fun p hp => zq p (by omega) (by omega) (by omega) (by omega) (by omega)) ?_ ?_ (h.2.2.2.2.1.go (fun q hq => aq q (by omega)) (fun p hp => zq p (by omega) (by omega) (by omega) (by omega) (by omega))) (h.2.2.2.2.2.cg (aq 11 (by omega)) (zq 13 (by omega) (by omega) (by omega) (by omega) (by omega)))⟩
              · unfold RMb
                rw [bkA_0, aq 4 (by omega), aq 5 (by omega), zu_p, zq 7 (by omega) (by omega) (by omega) (by omega) (by omega), zq 8 (by omega) (by omega) (by omega) (by omega) (by omega)]
                refine ⟨rfl, fun b hb => ?_, h.2.2.1.2.2⟩
                rw [bkA_1, bkA_2, bkA_3, zu_q (show (4 : Nat) ≠ 0 by omega), zu_q (show (5 : Nat) ≠ 0 by omega), zu_q (show (6 : Nat) ≠ 0 by omega), bmT_q (show (4 : Nat) ≠ 11 by omega), bmT_q (show (5 : Nat) ≠ 11 by omega), bmT_q (show (6 : Nat) ≠ 11 by omega), zu_q (show (4 : Nat) ≠ 6 by omega), zu_q (show (4 : Nat) ≠ 5 by omega), zu_q (show (5 : Nat) ≠ 6 by omega)]
                by_cases he : b = A 0 0
                · rw [he, if_pos rfl, if_pos rfl, if_pos rfl, zu_p, zu_p, zu_p]
                  exact ⟨rfl, rfl, rfl⟩
                · rw [if_neg he, if_neg he, if_neg he, zu_i he, zu_i he, zu_i he, zu_q (show (5 : Nat) ≠ 4 by omega), zu_q (show (6 : Nat) ≠ 5 by omega), zu_q (show (6 : Nat) ≠ 4 by omega)]
                  exact h.2.2.1.2.1 b (by omega)
              · unfold RMj
                rw [bkA_0, aq 6 (by omega), aq 7 (by omega), aq 8 (by omega), zq 9 (by omega) (by omega) (by omega) (by omega) (by omega), zq 10 (by omega) (by omega) (by omega) (by omega) (by omega), zu_q (show (11 : Nat) ≠ 0 by omega)]
                refine ⟨h.2.2.2.1.1, h.2.2.2.1.2.1, fun j b hj hb => ?_⟩
                show (if (11 : Nat) = 11 ∧ _ then (-1 : Int32) else _) = _
                by_cases he : b = A 0 0
                · rw [if_pos ⟨rfl, by omega, by omega⟩, (hw.2.1.2.1 j b hj (by omega) (by omega)).2, if_pos rfl]
                · rw [if_neg (by omega), zu_q (by omega), zu_q (by omega), zu_q (by omega)]
                  exact h.2.2.2.1.2.2 j b hj (by omega)
            · intro k hk rc
              unfold B_X8_book_77
              rw [k_7, ile_f (by omega) (by omega) (by omega), e04, k_24, pk_mul, nI_add, g_wr_in (by omega) (by omega), bmT_s hn, g_lt_e, nI_1]
            · intro rc
              unfold B_X8_book_77
              rw [k_7, ile_t (by omega) (by omega) (by omega)]
              dsimp only [g_lt]
              rw [e04, zu_p, nI_add, pk_sub (by omega)]
              rfl
          · rw [ieq_t (by omega), if_neg hn, if_neg hn]
            exact ⟨τ, rfl, h⟩
      · rw [eg, ed]
        by_cases g0 : nI g < 1
        · rw [if_pos g0]; exact ⟨τ, rfl, h⟩
        · rw [if_neg g0, k_2000, ilt_f (by omega) (by omega) (by omega)]
          by_cases h0 : z < 0
          · rw [if_pos h0]; exact ⟨τ, rfl, h⟩
          · rw [if_neg h0, k_400, if_pos (m_le_out h0 ho (by omega))]; exact ⟨τ, rfl, h⟩
    · rw [eg]
      by_cases g0 : y < 1
      · rw [if_pos g0]; exact ⟨τ, rfl, h⟩
      · rw [if_neg g0, k_2000, if_pos ?_]
        · exact ⟨τ, rfl, h⟩
        · rcases ho with ho | ho
          · exact absurd (Int32.lt_trans ho (by decide)) g0
          · exact m_le_out (fun e => g0 (Int32.lt_trans e (by decide))) (Or.inr ho) (by omega)
  · rw [ep]
    by_cases h0 : x < 0
    · rw [if_pos h0]; exact ⟨τ, rfl, h⟩
    · rw [if_neg h0, k_8, if_pos (ho.resolve_left h0)]; exact ⟨τ, rfl, h⟩
end MTell
