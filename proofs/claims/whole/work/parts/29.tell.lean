/-! ===== what is told: how the table goes on ===== -/
theorem au_q {A : AS} {p q i v : Nat} (h : q ≠ p) : au A p i v q = A q := by
  funext k
  unfold au
  rw [if_neg (fun e => h e.1)]
theorem au_e {A : AS} {p i v k : Nat} : au A p i v p k = if k = i then v else A p k := by
  unfold au
  by_cases h : k = i
  · rw [if_pos ⟨rfl, h⟩, if_pos h]
  · rw [if_neg (fun e => h e.2), if_neg h]
theorem au_p {A : AS} {p i v : Nat} : au A p i v p i = v := by rw [au_e, if_pos rfl]
theorem RDt.cg {A B : AS} {σ τ : ZS} (h : RDt A σ) (h1 : B 15 = A 15) (h2 : B 16 = A 16) (h3 : τ 1 = σ 1) (h4 : τ 2 = σ 2) : RDt B τ := by unfold RDt; rw [h1, h2, h3, h4]; exact h
theorem RDr.cg {A B : AS} {σ τ : ZS} (h : RDr A σ) (h1 : B 9 = A 9) (h3 : τ 4 = σ 4) : RDr B τ := by unfold RDr; rw [h1, h3]; exact h
theorem RDb.cg {A B : AS} {σ τ : ZS} (h : RDb A σ) (a0 : B 0 = A 0) (a1 : B 1 = A 1) (a2 : B 2 = A 2) (a3 : B 3 = A 3) (a4 : B 4 = A 4) (a5 : B 5 = A 5) (h1 : τ 6 = σ 6) (h2 : τ 7 = σ 7) (h3 : τ 8 = σ 8) (h4 : τ 9 = σ 9) : RDb B τ := by unfold RDb; rw [a0, a1, a2, a3, a4, a5, h1, h2, h3, h4]; exact h
theorem brd.cg {A B : AS} (a1 : B 1 = A 1) (a6 : B 6 = A 6) (a7 : B 7 = A 7) : brd B = brd A := by funext j b; unfold brd; rw [a1, a6, a7]
theorem RDj.cg {A B : AS} {σ τ : ZS} (h : RDj A σ) (a0 : B 0 = A 0) (a1 : B 1 = A 1) (a6 : B 6 = A 6) (a7 : B 7 = A 7) (a8 : B 8 = A 8) (h1 : τ 12 = σ 12) (h2 : τ 13 = σ 13) (h3 : τ 14 = σ 14) (h4 : τ 15 = σ 15) (h5 : τ 16 = σ 16) : RDj B τ := by unfold RDj; rw [brd.cg a1 a6 a7, a0, a6, a7, a8, h1, h2, h3, h4, h5]; exact h
theorem RDp.cg {A B : AS} {σ τ : ZS} {s : Nat} (h : RDp A σ s) (a0 : B 10 = A 10) (a1 : B 12 = A 12) (a2 : B 13 = A 13) (a3 : B 14 = A 14) (h1 : τ (18 + 3 * s) = σ (18 + 3 * s)) (h2 : τ (19 + 3 * s) = σ (19 + 3 * s)) (h3 : τ (20 + 3 * s) = σ (20 + 3 * s)) : RDp B τ s := by unfold RDp; rw [a0, a1, a2, a3, h1, h2, h3]; exact h
theorem RDk.cg {A B : AS} {σ τ : ZS} (h : RDk A σ) (h1 : B 11 = A 11) (h3 : τ 35 = σ 35) : RDk B τ := by unfold RDk; rw [h1, h3]; exact h
theorem WFb.cg {A B : AS} (h : WFb A) (a0 : B 0 = A 0) (a1 : B 1 = A 1) (a2 : B 2 = A 2) (a3 : B 3 = A 3) (a4 : B 4 = A 4) (a5 : B 5 = A 5) : WFb B := by unfold WFb; rw [a0, a1, a2, a3, a4, a5]; exact h
theorem WFj.cg {A B : AS} (h : WFj A) (a0 : B 0 = A 0) (a1 : B 1 = A 1) (a6 : B 6 = A 6) (a7 : B 7 = A 7) (a8 : B 8 = A 8) : WFj B := by unfold WFj; rw [brd.cg a1 a6 a7, a0, a6, a7, a8]; exact h
theorem WFr.cg {A B : AS} (h : WFr A) (a9 : B 9 = A 9) : WFr B := by unfold WFr; rw [a9]; exact h
theorem WFq.cg {A B : AS} (h : WFq A) (a0 : B 0 = A 0) (a1 : B 10 = A 10) (a2 : B 11 = A 11) (a3 : B 12 = A 12) (a4 : B 13 = A 13) (a5 : B 14 = A 14) : WFq B := by unfold WFq; rw [a0, a1, a2, a3, a4, a5]; exact h
theorem WFt.cg {A B : AS} (h : WFt A) (a0 : B 15 = A 15) (a1 : B 16 = A 16) : WFt B := by unfold WFt; rw [a0, a1]; exact h
/-! call, withdraw -/
def anCall (A : AS) (x : Int32) : Int32 := match ix x (A 0 0) with
  | some b => if A 4 b = 1 then 0 else 1
  | none => 0
def nxCall (A : AS) (x : Int32) : AS := match ix x (A 0 0) with
  | some b => au A 4 b 1
  | none => A
def anWithdraw (A : AS) (x : Int32) : Int32 := match ix x (A 0 0) with
  | some b => if A 5 b = 1 then 0 else 1
  | none => 0
def nxWithdraw (A : AS) (x : Int32) : AS := match ix x (A 0 0) with
  | some b => au A 5 b 1
  | none => A
theorem WF_call {A : AS} (h : WF A) (x : Int32) : WF (nxCall A x) := by
  have hnb := h.1.1
  unfold nxCall
  rcases ix_cases x (show A 0 0 < 2147483648 by omega) with ⟨b, hb, rfl, eb⟩ | ⟨ho, eb⟩
  · rw [eb]
    show WF (au A 4 b 1)
    obtain ⟨h1, h2, h3, h4, h5⟩ := h
    refine ⟨?_, h2.cg (au_q (by omega)) (au_q (by omega)) (au_q (by omega)) (au_q (by omega)) (au_q (by omega)), h3.cg (au_q (by omega)), h4.cg (au_q (by omega)) (au_q (by omega)) (au_q (by omega)) (au_q (by omega)) (au_q (by omega)) (au_q (by omega)), h5.cg (au_q (by omega)) (au_q (by omega))⟩
    unfold WFb
    rw [au_q (show (0 : Nat) ≠ 4 by omega), au_q (show (1 : Nat) ≠ 4 by omega), au_q (show (2 : Nat) ≠ 4 by omega), au_q (show (3 : Nat) ≠ 4 by omega), au_q (show (5 : Nat) ≠ 4 by omega)]
    refine ⟨h1.1, h1.2.1, fun c => ⟨?_, (h1.2.2.1 c).2⟩, fun c hc => ⟨?_, (h1.2.2.2 c hc).2⟩⟩
    · rw [au_e]; split
      · omega
      · exact (h1.2.2.1 c).1
    · rw [au_e, if_neg (by omega)]; exact (h1.2.2.2 c hc).1
  · rw [eb]; exact h
theorem WF_withdraw {A : AS} (h : WF A) (x : Int32) : WF (nxWithdraw A x) := by
  have hnb := h.1.1
  unfold nxWithdraw
  rcases ix_cases x (show A 0 0 < 2147483648 by omega) with ⟨b, hb, rfl, eb⟩ | ⟨ho, eb⟩
  · rw [eb]
    show WF (au A 5 b 1)
    obtain ⟨h1, h2, h3, h4, h5⟩ := h
    refine ⟨?_, h2.cg (au_q (by omega)) (au_q (by omega)) (au_q (by omega)) (au_q (by omega)) (au_q (by omega)), h3.cg (au_q (by omega)), h4.cg (au_q (by omega)) (au_q (by omega)) (au_q (by omega)) (au_q (by omega)) (au_q (by omega)) (au_q (by omega)), h5.cg (au_q (by omega)) (au_q (by omega))⟩
    unfold WFb
    rw [au_q (show (0 : Nat) ≠ 5 by omega), au_q (show (1 : Nat) ≠ 5 by omega), au_q (show (2 : Nat) ≠ 5 by omega), au_q (show (3 : Nat) ≠ 5 by omega), au_q (show (4 : Nat) ≠ 5 by omega)]
    refine ⟨h1.1, h1.2.1, fun c => ⟨(h1.2.2.1 c).1, ?_⟩, fun c hc => ⟨(h1.2.2.2 c hc).1, ?_⟩⟩
    · rw [au_e]; split
      · omega
      · exact (h1.2.2.1 c).2
    · rw [au_e, if_neg (by omega)]; exact (h1.2.2.2 c hc).2
  · rw [eb]; exact h
section Tell1
variable {N : Nat} {σ : ZS} {A : AS}
theorem D_call (h : RD A σ) (hw : WF A) (x : Int32) : ∃ τ, f_X7_call N σ x = some (anCall A x, τ) ∧ RD (nxCall A x) τ := by
  have hnb := hw.1.1
  unfold f_X7_call anCall nxCall
  rcases ix_cases x (show A 0 0 < 2147483648 by omega) with ⟨b, hb, rfl, eb⟩ | ⟨ho, eb⟩
  · rw [eb]
    dsimp only
    refine ⟨zu σ 6 5 (σ 6 5 ||| bitm b), ?_, ?_⟩
    · rw [d_has h.2.2.1 hw.1 (by omega), Option.bind_some, decide_eq_true hb, if_neg (by decide)]
      unfold f_X4_callIn
      rw [d_calledIn h.2.2.1 (by omega), Option.bind_some]
      simp only [zb_0, d_bit, Option.bind_some, g_lt_e]
      by_cases hc : A 4 b = 1
      · rw [decide_eq_true hc, if_neg (by decide), g_b2_e, if_pos rfl, if_pos hc]
      · rw [decide_eq_false hc, if_pos rfl, g_b2_e, if_neg (by decide), if_neg hc]
    · obtain ⟨h1, h2, h3, h4, h5, h6, h7⟩ := h
      refine ⟨h1.cg (au_q (by omega)) (au_q (by omega)) (zu_q (by omega)) (zu_q (by omega)), h2.cg (au_q (by omega)) (zu_q (by omega)), ?_, h4.cg (au_q (by omega)) (au_q (by omega)) (au_q (by omega)) (au_q (by omega)) (au_q (by omega)) (zu_q (by omega)) (zu_q (by omega)) (zu_q (by omega)) (zu_q (by omega)) (zu_q (by omega)), h5.cg (au_q (by omega)) (au_q (by omega)) (au_q (by omega)) (au_q (by omega)) (zu_q (by omega)) (zu_q (by omega)) (zu_q (by omega)), h6.cg (au_q (by omega)) (au_q (by omega)) (au_q (by omega)) (au_q (by omega)) (zu_q (by omega)) (zu_q (by omega)) (zu_q (by omega)), h7.cg (au_q (by omega)) (zu_q (by omega))⟩
      unfold RDb
      rw [au_q (show (0 : Nat) ≠ 4 by omega), au_q (show (1 : Nat) ≠ 4 by omega), au_q (show (2 : Nat) ≠ 4 by omega), au_q (show (3 : Nat) ≠ 4 by omega), au_q (show (5 : Nat) ≠ 4 by omega), zu_q (show (7 : Nat) ≠ 6 by omega), zu_q (show (8 : Nat) ≠ 6 by omega), zu_q (show (9 : Nat) ≠ 6 by omega), zu_i (show (4 : Nat) ≠ 5 by omega), zu_i (show (6 : Nat) ≠ 5 by omega), zu_p]
      refine ⟨h3.1, h3.2.1, fun i hi => ?_, h3.2.2.2⟩
      rw [b_or, h3.2.2.1 i hi, bt_bitm (by omega) hi, au_e]
      by_cases he : i = b
      · subst he; simp [show i < 24 by omega]
      · simp [he]
  · rw [eb]
    exact ⟨σ, by rw [d_has_out h.2.2.1 ho, Option.bind_some, if_pos rfl], h⟩
theorem D_withdraw (h : RD A σ) (hw : WF A) (x : Int32) : ∃ τ, f_X7_withdraw N σ x = some (anWithdraw A x, τ) ∧ RD (nxWithdraw A x) τ := by
  have hnb := hw.1.1
  unfold f_X7_withdraw anWithdraw nxWithdraw
  rcases ix_cases x (show A 0 0 < 2147483648 by omega) with ⟨b, hb, rfl, eb⟩ | ⟨ho, eb⟩
  · rw [eb]
    dsimp only
    refine ⟨zu σ 6 6 (σ 6 6 ||| bitm b), ?_, ?_⟩
    · rw [d_has h.2.2.1 hw.1 (by omega), Option.bind_some, decide_eq_true hb, if_neg (by decide)]
      unfold f_X4_takeOut
      rw [d_takenOut h.2.2.1 (by omega), Option.bind_some]
      simp only [zb_0, d_bit, Option.bind_some, g_lt_e]
      by_cases hc : A 5 b = 1
      · rw [decide_eq_true hc, if_neg (by decide), g_b2_e, if_pos rfl, if_pos hc]
      · rw [decide_eq_false hc, if_pos rfl, g_b2_e, if_neg (by decide), if_neg hc]
    · obtain ⟨h1, h2, h3, h4, h5, h6, h7⟩ := h
      refine ⟨h1.cg (au_q (by omega)) (au_q (by omega)) (zu_q (by omega)) (zu_q (by omega)), h2.cg (au_q (by omega)) (zu_q (by omega)), ?_, h4.cg (au_q (by omega)) (au_q (by omega)) (au_q (by omega)) (au_q (by omega)) (au_q (by omega)) (zu_q (by omega)) (zu_q (by omega)) (zu_q (by omega)) (zu_q (by omega)) (zu_q (by omega)), h5.cg (au_q (by omega)) (au_q (by omega)) (au_q (by omega)) (au_q (by omega)) (zu_q (by omega)) (zu_q (by omega)) (zu_q (by omega)), h6.cg (au_q (by omega)) (au_q (by omega)) (au_q (by omega)) (au_q (by omega)) (zu_q (by omega)) (zu_q (by omega)) (zu_q (by omega)), h7.cg (au_q (by omega)) (zu_q (by omega))⟩
      unfold RDb
      rw [au_q (show (0 : Nat) ≠ 5 by omega), au_q (show (1 : Nat) ≠ 5 by omega), au_q (show (2 : Nat) ≠ 5 by omega), au_q (show (3 : Nat) ≠ 5 by omega), au_q (show (4 : Nat) ≠ 5 by omega), zu_q (show (7 : Nat) ≠ 6 by omega), zu_q (show (8 : Nat) ≠ 6 by omega), zu_q (show (9 : Nat) ≠ 6 by omega), zu_i (show (4 : Nat) ≠ 6 by omega), zu_i (show (5 : Nat) ≠ 6 by omega), zu_p]
      refine ⟨h3.1, h3.2.1, h3.2.2.1, fun i hi => ?_⟩
      rw [b_or, h3.2.2.2 i hi, bt_bitm (by omega) hi, au_e]
      by_cases he : i = b
      · subst he; simp [show i < 24 by omega]
      · simp [he]
  · rw [eb]
    exact ⟨σ, by rw [d_has_out h.2.2.1 ho, Option.bind_some, if_pos rfl], h⟩
end Tell1
/-! close, telling -/
def anClose (x y : Int32) : Int32 := match ix x 2, ix y 401 with
  | some _, some _ => 1
  | _, _ => 0
def nxClose (A : AS) (x y : Int32) : AS := match ix x 2, ix y 401 with
  | some s, some d => au A 10 s d
  | _, _ => A
def anTelling (x y : Int32) : Int32 := match ix x 3, ix y 401 with
  | some _, some _ => 1
  | _, _ => 0
def nxTelling (A : AS) (x y : Int32) : AS := match ix x 3, ix y 401 with
  | some l, some d => au A 11 l d
  | _, _ => A
theorem WF_close {A : AS} (h : WF A) (x y : Int32) : WF (nxClose A x y) := by
  unfold nxClose
  rcases ix_cases x (show 2 < 2147483648 by omega) with ⟨s, hs, rfl, es⟩ | ⟨ho, es⟩
  · rcases ix_cases y (show 401 < 2147483648 by omega) with ⟨d, hd, rfl, ed⟩ | ⟨ho, ed⟩
    · rw [es, ed]
      show WF (au A 10 s d)
      obtain ⟨h1, h2, h3, h4, h5⟩ := h
      refine ⟨h1.cg (au_q (by omega)) (au_q (by omega)) (au_q (by omega)) (au_q (by omega)) (au_q (by omega)) (au_q (by omega)), h2.cg (au_q (by omega)) (au_q (by omega)) (au_q (by omega)) (au_q (by omega)) (au_q (by omega)), h3.cg (au_q (by omega)), ?_, h5.cg (au_q (by omega)) (au_q (by omega))⟩
      unfold WFq
      rw [au_q (show (0 : Nat) ≠ 10 by omega), au_q (show (11 : Nat) ≠ 10 by omega), au_q (show (12 : Nat) ≠ 10 by omega), au_q (show (13 : Nat) ≠ 10 by omega), au_q (show (14 : Nat) ≠ 10 by omega)]
      refine ⟨fun t => ?_, h4.2⟩
      rw [au_e]; split
      · omega
      · exact h4.1 t
    · rw [es, ed]; exact h
  · rw [es]; exact h
theorem WF_telling {A : AS} (h : WF A) (x y : Int32) : WF (nxTelling A x y) := by
  unfold nxTelling
  rcases ix_cases x (show 3 < 2147483648 by omega) with ⟨s, hs, rfl, es⟩ | ⟨ho, es⟩
  · rcases ix_cases y (show 401 < 2147483648 by omega) with ⟨d, hd, rfl, ed⟩ | ⟨ho, ed⟩
    · rw [es, ed]
      show WF (au A 11 s d)
      obtain ⟨h1, h2, h3, h4, h5⟩ := h
      refine ⟨h1.cg (au_q (by omega)) (au_q (by omega)) (au_q (by omega)) (au_q (by omega)) (au_q (by omega)) (au_q (by omega)), h2.cg (au_q (by omega)) (au_q (by omega)) (au_q (by omega)) (au_q (by omega)) (au_q (by omega)), h3.cg (au_q (by omega)), ?_, h5.cg (au_q (by omega)) (au_q (by omega))⟩
      unfold WFq
      rw [au_q (show (0 : Nat) ≠ 11 by omega), au_q (show (10 : Nat) ≠ 11 by omega), au_q (show (12 : Nat) ≠ 11 by omega), au_q (show (13 : Nat) ≠ 11 by omega), au_q (show (14 : Nat) ≠ 11 by omega)]
      refine ⟨h4.1, fun t => ?_, h4.2.2⟩
      rw [au_e]; split
      · omega
      · exact h4.2.1 t
    · rw [es, ed]; exact h
  · rw [es]; exact h
section Tell2
variable {N : Nat} {σ : ZS} {A : AS}
theorem D_close (h : RD A σ) (x y : Int32) : ∃ τ, f_X7_close N σ x y = some (anClose x y, τ) ∧ RD (nxClose A x y) τ := by
  unfold f_X7_close anClose nxClose
  rcases ix_cases x (show 2 < 2147483648 by omega) with ⟨s, hs, rfl, es⟩ | ⟨ho, es⟩
  · rw [es, d_isStage_in hs, Option.bind_some, if_neg (by decide)]
    rcases ix_cases y (show 401 < 2147483648 by omega) with ⟨d, hd, rfl, ed⟩ | ⟨ho, ed⟩
    · rw [ed, d_isDay_in hd, Option.bind_some, if_neg (by decide)]
      dsimp only
      obtain ⟨h1, h2, h3, h4, h5, h6, h7⟩ := h
      rcases (show s = 0 ∨ s = 1 by omega) with rfl | rfl
      · refine ⟨zu σ 18 2 (nI d), by rw [if_pos (by decide)]; rfl, h1.cg (au_q (by omega)) (au_q (by omega)) (zu_q (by omega)) (zu_q (by omega)), h2.cg (au_q (by omega)) (zu_q (by omega)), h3.cg (au_q (by omega)) (au_q (by omega)) (au_q (by omega)) (au_q (by omega)) (au_q (by omega)) (au_q (by omega)) (zu_q (by omega)) (zu_q (by omega)) (zu_q (by omega)) (zu_q (by omega)), h4.cg (au_q (by omega)) (au_q (by omega)) (au_q (by omega)) (au_q (by omega)) (au_q (by omega)) (zu_q (by omega)) (zu_q (by omega)) (zu_q (by omega)) (zu_q (by omega)) (zu_q (by omega)), ?_, ?_, h7.cg (au_q (by omega)) (zu_q (by omega))⟩
        · unfold RDp
          rw [au_q (show (12 : Nat) ≠ 10 by omega), au_q (show (13 : Nat) ≠ 10 by omega), au_q (show (14 : Nat) ≠ 10 by omega), zu_q (show (19 + 3 * 0 : Nat) ≠ 18 by omega), zu_q (show (20 + 3 * 0 : Nat) ≠ 18 by omega), au_p]
          exact ⟨zu_p, h5.2⟩
        · unfold RDp
          rw [au_q (show (12 : Nat) ≠ 10 by omega), au_q (show (13 : Nat) ≠ 10 by omega), au_q (show (14 : Nat) ≠ 10 by omega), zu_q (show (18 + 3 * 1 : Nat) ≠ 18 by omega), zu_q (show (19 + 3 * 1 : Nat) ≠ 18 by omega), zu_q (show (20 + 3 * 1 : Nat) ≠ 18 by omega), au_e, if_neg (by omega)]
          exact h6
      · refine ⟨zu σ 21 2 (nI d), by rw [if_neg (by decide)]; rfl, h1.cg (au_q (by omega)) (au_q (by omega)) (zu_q (by omega)) (zu_q (by omega)), h2.cg (au_q (by omega)) (zu_q (by omega)), h3.cg (au_q (by omega)) (au_q (by omega)) (au_q (by omega)) (au_q (by omega)) (au_q (by omega)) (au_q (by omega)) (zu_q (by omega)) (zu_q (by omega)) (zu_q (by omega)) (zu_q (by omega)), h4.cg (au_q (by omega)) (au_q (by omega)) (au_q (by omega)) (au_q (by omega)) (au_q (by omega)) (zu_q (by omega)) (zu_q (by omega)) (zu_q (by omega)) (zu_q (by omega)) (zu_q (by omega)), ?_, ?_, h7.cg (au_q (by omega)) (zu_q (by omega))⟩
        · unfold RDp
          rw [au_q (show (12 : Nat) ≠ 10 by omega), au_q (show (13 : Nat) ≠ 10 by omega), au_q (show (14 : Nat) ≠ 10 by omega), zu_q (show (18 + 3 * 0 : Nat) ≠ 21 by omega), zu_q (show (19 + 3 * 0 : Nat) ≠ 21 by omega), zu_q (show (20 + 3 * 0 : Nat) ≠ 21 by omega), au_e, if_neg (by omega)]
          exact h5
        · unfold RDp
          rw [au_q (show (12 : Nat) ≠ 10 by omega), au_q (show (13 : Nat) ≠ 10 by omega), au_q (show (14 : Nat) ≠ 10 by omega), zu_q (show (19 + 3 * 1 : Nat) ≠ 21 by omega), zu_q (show (20 + 3 * 1 : Nat) ≠ 21 by omega), au_p]
          exact ⟨zu_p, h6.2⟩
    · rw [ed]
      exact ⟨σ, by rw [d_isDay_out ho, Option.bind_some, if_pos rfl], h⟩
  · rw [es]
    exact ⟨σ, by rw [d_isStage_out ho, Option.bind_some, if_pos rfl], h⟩
theorem D_telling (h : RD A σ) (x y : Int32) : ∃ τ, f_X7_telling N σ x y = some (anTelling x y, τ) ∧ RD (nxTelling A x y) τ := by
  unfold f_X7_telling anTelling nxTelling
  rcases ix_cases x (show 3 < 2147483648 by omega) with ⟨l, hl, rfl, es⟩ | ⟨ho, es⟩
  · rw [es, d_isList_in hl, Option.bind_some, if_neg (by decide)]
    rcases ix_cases y (show 401 < 2147483648 by omega) with ⟨d, hd, rfl, ed⟩ | ⟨ho, ed⟩
    · rw [ed, d_isDay_in hd, Option.bind_some, if_neg (by decide), g_wr_in hl (by omega)]
      dsimp only
      obtain ⟨h1, h2, h3, h4, h5, h6, h7⟩ := h
      refine ⟨zu σ 35 l (nI d), rfl, h1.cg (au_q (by omega)) (au_q (by omega)) (zu_q (by omega)) (zu_q (by omega)), h2.cg (au_q (by omega)) (zu_q (by omega)), h3.cg (au_q (by omega)) (au_q (by omega)) (au_q (by omega)) (au_q (by omega)) (au_q (by omega)) (au_q (by omega)) (zu_q (by omega)) (zu_q (by omega)) (zu_q (by omega)) (zu_q (by omega)), h4.cg (au_q (by omega)) (au_q (by omega)) (au_q (by omega)) (au_q (by omega)) (au_q (by omega)) (zu_q (by omega)) (zu_q (by omega)) (zu_q (by omega)) (zu_q (by omega)) (zu_q (by omega)), h5.cg (au_q (by omega)) (au_q (by omega)) (au_q (by omega)) (au_q (by omega)) (zu_q (by omega)) (zu_q (by omega)) (zu_q (by omega)), h6.cg (au_q (by omega)) (au_q (by omega)) (au_q (by omega)) (au_q (by omega)) (zu_q (by omega)) (zu_q (by omega)) (zu_q (by omega)), ?_⟩
      intro k hk
      rw [au_e, zu_e]
      by_cases he : k = l
      · rw [if_pos ⟨rfl, he⟩, if_pos he]
      · rw [if_neg (fun e => he e.2), if_neg he]
        exact h7 k hk
    · rw [ed]
      exact ⟨σ, by rw [d_isDay_out ho, Option.bind_some, if_pos rfl], h⟩
  · rw [es]
    exact ⟨σ, by rw [d_isList_out ho, Option.bind_some, if_pos rfl], h⟩
end Tell2
