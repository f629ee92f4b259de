/-! ===== what both answer, and what the table is then ===== -/
theorem qD_feed {B : AS} {σ : ZS} (h : RD B σ) (hw : WF B) (x1 : Int32) (x2 : Int32) (x3 : Int32) (x4 : Int32) (x5 : Int32) : ∃ σ', f_X7_feed 200 σ x1 x2 x3 x4 x5 = some (anFeed B, σ') ∧ RD (nxFeed B x1 x2 x3 x4 x5) σ' := by
  have hN : 200 ≤ 200 := Nat.le_refl _
  exact D_feed hN h hw x1 x2 x3 x4 x5
theorem qM_feed {B : AS} {τ : ZS} (h : RM B τ) (hw : WF B) (x1 : Int32) (x2 : Int32) (x3 : Int32) (x4 : Int32) (x5 : Int32) : ∃ τ', f_X8_feed 200 τ x1 x2 x3 x4 x5 = some (anFeed B, τ') ∧ RM (nxFeed B x1 x2 x3 x4 x5) τ' := by
  have hN : 200 ≤ 200 := Nat.le_refl _
  exact M_feed hN h hw x1 x2 x3 x4 x5
theorem qD_rules {B : AS} {σ : ZS} (h : RD B σ) (hw : WF B) (x1 : Int32) : ∃ σ', f_X7_rules 200 σ x1 = some (anRules B x1, σ') ∧ RD (nxRules B x1) σ' := by
  have hN : 200 ≤ 200 := Nat.le_refl _
  exact D_rules hN h hw x1
theorem qM_rules {B : AS} {τ : ZS} (h : RM B τ) (hw : WF B) (x1 : Int32) : ∃ τ', f_X8_rules 200 τ x1 = some (anRules B x1, τ') ∧ RM (nxRules B x1) τ' := by
  have hN : 200 ≤ 200 := Nat.le_refl _
  exact M_rules hN h hw x1
theorem qD_rule {B : AS} {σ : ZS} (h : RD B σ) (hw : WF B) (x1 : Int32) : f_X7_rule 200 σ x1 = some (anRule B x1) := by
  have hN : 200 ≤ 200 := Nat.le_refl _
  exact D_rule hN h x1
theorem qM_rule {B : AS} {τ : ZS} (h : RM B τ) (hw : WF B) (x1 : Int32) : f_X8_rule 200 τ x1 = some (anRule B x1) := by
  have hN : 200 ≤ 200 := Nat.le_refl _
  exact M_rule h x1
theorem qD_book {B : AS} {σ : ZS} (h : RD B σ) (hw : WF B) (x1 : Int32) (x2 : Int32) (x3 : Int32) : ∃ σ', f_X7_book 200 σ x1 x2 x3 = some (anBook B x1 x2 x3, σ') ∧ RD (nxBook B x1 x2 x3) σ' := by
  have hN : 200 ≤ 200 := Nat.le_refl _
  exact D_book hN h hw x1 x2 x3
theorem qM_book {B : AS} {τ : ZS} (h : RM B τ) (hw : WF B) (x1 : Int32) (x2 : Int32) (x3 : Int32) : ∃ τ', f_X8_book 200 τ x1 x2 x3 = some (anBook B x1 x2 x3, τ') ∧ RM (nxBook B x1 x2 x3) τ' := by
  have hN : 200 ≤ 200 := Nat.le_refl _
  exact M_book hN h hw x1 x2 x3
theorem qD_call {B : AS} {σ : ZS} (h : RD B σ) (hw : WF B) (x1 : Int32) : ∃ σ', f_X7_call 200 σ x1 = some (anCall B x1, σ') ∧ RD (nxCall B x1) σ' := by
  have hN : 200 ≤ 200 := Nat.le_refl _
  exact D_call h hw x1
theorem qM_call {B : AS} {τ : ZS} (h : RM B τ) (hw : WF B) (x1 : Int32) : ∃ τ', f_X8_call 200 τ x1 = some (anCall B x1, τ') ∧ RM (nxCall B x1) τ' := by
  have hN : 200 ≤ 200 := Nat.le_refl _
  exact M_call h hw x1
theorem qD_withdraw {B : AS} {σ : ZS} (h : RD B σ) (hw : WF B) (x1 : Int32) : ∃ σ', f_X7_withdraw 200 σ x1 = some (anWithdraw B x1, σ') ∧ RD (nxWithdraw B x1) σ' := by
  have hN : 200 ≤ 200 := Nat.le_refl _
  exact D_withdraw h hw x1
theorem qM_withdraw {B : AS} {τ : ZS} (h : RM B τ) (hw : WF B) (x1 : Int32) : ∃ τ', f_X8_withdraw 200 τ x1 = some (anWithdraw B x1, τ') ∧ RM (nxWithdraw B x1) τ' := by
  have hN : 200 ≤ 200 := Nat.le_refl _
  exact M_withdraw h hw x1
theorem qD_kin {B : AS} {σ : ZS} (h : RD B σ) (hw : WF B) (x1 : Int32) (x2 : Int32) : ∃ σ', f_X7_kin 200 σ x1 x2 = some (anKin B x1 x2, σ') ∧ RD (nxKin B x1 x2) σ' := by
  have hN : 200 ≤ 200 := Nat.le_refl _
  exact D_kin h hw x1 x2
theorem qM_kin {B : AS} {τ : ZS} (h : RM B τ) (hw : WF B) (x1 : Int32) (x2 : Int32) : ∃ τ', f_X8_kin 200 τ x1 x2 = some (anKin B x1 x2, τ') ∧ RM (nxKin B x1 x2) τ' := by
  have hN : 200 ≤ 200 := Nat.le_refl _
  exact M_kin h hw x1 x2
theorem qD_friend {B : AS} {σ : ZS} (h : RD B σ) (hw : WF B) (x1 : Int32) (x2 : Int32) : ∃ σ', f_X7_friend 200 σ x1 x2 = some (anFriend B x1 x2, σ') ∧ RD (nxFriend B x1 x2) σ' := by
  have hN : 200 ≤ 200 := Nat.le_refl _
  exact D_friend hN h hw x1 x2
theorem qM_friend {B : AS} {τ : ZS} (h : RM B τ) (hw : WF B) (x1 : Int32) (x2 : Int32) : ∃ τ', f_X8_friend 200 τ x1 x2 = some (anFriend B x1 x2, τ') ∧ RM (nxFriend B x1 x2) τ' := by
  have hN : 200 ≤ 200 := Nat.le_refl _
  exact M_friend hN h hw x1 x2
theorem qD_load {B : AS} {σ : ZS} (h : RD B σ) (hw : WF B)  : ∃ σ', f_X7_load 200 σ  = some (anLoad B, σ') ∧ RD (B) σ' := by
  have hN : 200 ≤ 200 := Nat.le_refl _
  obtain ⟨σ', e1, e2⟩ := D_load hN h hw 
  exact ⟨σ', e2, h.eq e1⟩
theorem qM_load {B : AS} {τ : ZS} (h : RM B τ) (hw : WF B)  : f_X8_load 200 τ  = some (anLoad B) := by
  have hN : 200 ≤ 200 := Nat.le_refl _
  exact M_load hN h hw 
theorem qD_mark {B : AS} {σ : ZS} (h : RD B σ) (hw : WF B) (x1 : Int32) (x2 : Int32) (x3 : Int32) : ∃ σ', f_X7_mark 200 σ x1 x2 x3 = some (anMark B x1 x2 x3, σ') ∧ RD (nxMark B x1 x2 x3) σ' := by
  have hN : 200 ≤ 200 := Nat.le_refl _
  exact D_mark h hw x1 x2 x3
theorem qM_mark {B : AS} {τ : ZS} (h : RM B τ) (hw : WF B) (x1 : Int32) (x2 : Int32) (x3 : Int32) : ∃ τ', f_X8_mark 200 τ x1 x2 x3 = some (anMark B x1 x2 x3, τ') ∧ RM (nxMark B x1 x2 x3) τ' := by
  have hN : 200 ≤ 200 := Nat.le_refl _
  exact M_mark h hw x1 x2 x3
theorem qD_met {B : AS} {σ : ZS} (h : RD B σ) (hw : WF B) (x1 : Int32) (x2 : Int32) (x3 : Int32) : f_X7_met 200 σ x1 x2 x3 = some (anMet B x1 x2 x3) := by
  have hN : 200 ≤ 200 := Nat.le_refl _
  exact D_met hN h x1 x2 x3
theorem qM_met {B : AS} {τ : ZS} (h : RM B τ) (hw : WF B) (x1 : Int32) (x2 : Int32) (x3 : Int32) : f_X8_met 200 τ x1 x2 x3 = some (anMet B x1 x2 x3) := by
  have hN : 200 ≤ 200 := Nat.le_refl _
  exact M_met hN h hw x1 x2 x3
theorem qD_third {B : AS} {σ : ZS} (h : RD B σ) (hw : WF B) (x1 : Int32) : ∃ σ', f_X7_third 200 σ x1 = some (nthI (wth B) x1, σ') ∧ RD (B) σ' := by
  have hN : 200 ≤ 200 := Nat.le_refl _
  obtain ⟨σ', e1, e2⟩ := D_third hN h hw x1
  exact ⟨σ', e2, h.eq e1⟩
theorem qM_third {B : AS} {τ : ZS} (h : RM B τ) (hw : WF B) (x1 : Int32) : f_X8_third 200 τ x1 = some (nthI (wth B) x1) := by
  have hN : 200 ≤ 200 := Nat.le_refl _
  exact M_third hN h hw x1
theorem qD_ballot {B : AS} {σ : ZS} (h : RD B σ) (hw : WF B) (x1 : Int32) (x2 : Int32) (x3 : Int32) (x4 : Int32) : ∃ σ', f_X7_ballot 200 σ x1 x2 x3 x4 = some (anBallot B x1 x2 x3 x4, σ') ∧ RD (nxBallot B x1 x2 x3 x4) σ' := by
  have hN : 200 ≤ 200 := Nat.le_refl _
  exact D_ballot hN h hw x1 x2 x3 x4
theorem qM_ballot {B : AS} {τ : ZS} (h : RM B τ) (hw : WF B) (x1 : Int32) (x2 : Int32) (x3 : Int32) (x4 : Int32) : ∃ τ', f_X8_ballot 200 τ x1 x2 x3 x4 = some (anBallot B x1 x2 x3 x4, τ') ∧ RM (nxBallot B x1 x2 x3 x4) τ' := by
  have hN : 200 ≤ 200 := Nat.le_refl _
  exact M_ballot hN h hw x1 x2 x3 x4
theorem qD_close {B : AS} {σ : ZS} (h : RD B σ) (hw : WF B) (x1 : Int32) (x2 : Int32) : ∃ σ', f_X7_close 200 σ x1 x2 = some (anClose x1 x2, σ') ∧ RD (nxClose B x1 x2) σ' := by
  have hN : 200 ≤ 200 := Nat.le_refl _
  exact D_close h x1 x2
theorem qM_close {B : AS} {τ : ZS} (h : RM B τ) (hw : WF B) (x1 : Int32) (x2 : Int32) : ∃ τ', f_X8_close 200 τ x1 x2 = some (anClose x1 x2, τ') ∧ RM (nxClose B x1 x2) τ' := by
  have hN : 200 ≤ 200 := Nat.le_refl _
  exact M_close h x1 x2
theorem qD_telling {B : AS} {σ : ZS} (h : RD B σ) (hw : WF B) (x1 : Int32) (x2 : Int32) : ∃ σ', f_X7_telling 200 σ x1 x2 = some (anTelling x1 x2, σ') ∧ RD (nxTelling B x1 x2) σ' := by
  have hN : 200 ≤ 200 := Nat.le_refl _
  exact D_telling h x1 x2
theorem qM_telling {B : AS} {τ : ZS} (h : RM B τ) (hw : WF B) (x1 : Int32) (x2 : Int32) : ∃ τ', f_X8_telling 200 τ x1 x2 = some (anTelling x1 x2, τ') ∧ RM (nxTelling B x1 x2) τ' := by
  have hN : 200 ≤ 200 := Nat.le_refl _
  exact M_telling h x1 x2
theorem qD_told {B : AS} {σ : ZS} (h : RD B σ) (hw : WF B) (x1 : Int32) (x2 : Int32) (x3 : Int32) (x4 : Int32) : ∃ σ', f_X7_told 200 σ x1 x2 x3 x4 = some (anTold B x1 x2 x3 x4, σ') ∧ RD (B) σ' := by
  have hN : 200 ≤ 200 := Nat.le_refl _
  obtain ⟨σ', e1, e2⟩ := D_told hN h hw x1 x2 x3 x4
  exact ⟨σ', e2, h.eq e1⟩
theorem qM_told {B : AS} {τ : ZS} (h : RM B τ) (hw : WF B) (x1 : Int32) (x2 : Int32) (x3 : Int32) (x4 : Int32) : ∃ τ', f_X8_told 200 τ x1 x2 x3 x4 = some (anTold B x1 x2 x3 x4, τ') ∧ RM (B) τ' := by
  have hN : 200 ≤ 200 := Nat.le_refl _
  obtain ⟨τ', e1, e2⟩ := M_told hN h hw x1 x2 x3 x4
  exact ⟨τ', e2, h.eq e1⟩
theorem qD_counted {B : AS} {σ : ZS} (h : RD B σ) (hw : WF B) (x1 : Int32) (x2 : Int32) (x3 : Int32) : ∃ σ', f_X7_counted 200 σ x1 x2 x3 = some (anCounted B x1 x2 x3, σ') ∧ RD (B) σ' := by
  have hN : 200 ≤ 200 := Nat.le_refl _
  obtain ⟨σ', e1, e2⟩ := D_counted hN h hw x1 x2 x3
  exact ⟨σ', e2, h.eq e1⟩
theorem qM_counted {B : AS} {τ : ZS} (h : RM B τ) (hw : WF B) (x1 : Int32) (x2 : Int32) (x3 : Int32) : ∃ τ', f_X8_counted 200 τ x1 x2 x3 = some (anCounted B x1 x2 x3, τ') ∧ RM (B) τ' := by
  have hN : 200 ≤ 200 := Nat.le_refl _
  obtain ⟨τ', e1, e2⟩ := M_counted hN h hw x1 x2 x3
  exact ⟨τ', e2, h.eq e1⟩
theorem qD_worth {B : AS} {σ : ZS} (h : RD B σ) (hw : WF B) (x1 : Int32) (x2 : Int32) (x3 : Int32) : ∃ σ', f_X7_worth 200 σ x1 x2 x3 = some (anWorth B x1 x2 x3, σ') ∧ RD (B) σ' := by
  have hN : 200 ≤ 200 := Nat.le_refl _
  obtain ⟨σ', e1, e2⟩ := D_worth hN h hw x1 x2 x3
  exact ⟨σ', e2, h.eq e1⟩
theorem qM_worth {B : AS} {τ : ZS} (h : RM B τ) (hw : WF B) (x1 : Int32) (x2 : Int32) (x3 : Int32) : ∃ τ', f_X8_worth 200 τ x1 x2 x3 = some (anWorth B x1 x2 x3, τ') ∧ RM (B) τ' := by
  have hN : 200 ≤ 200 := Nat.le_refl _
  obtain ⟨τ', e1, e2⟩ := M_worth hN h hw x1 x2 x3
  exact ⟨τ', e2, h.eq e1⟩
theorem qD_paradox {B : AS} {σ : ZS} (h : RD B σ) (hw : WF B) (x1 : Int32) (x2 : Int32) : ∃ σ', f_X7_paradox 200 σ x1 x2 = some (anParadox B x1 x2, σ') ∧ RD (B) σ' := by
  have hN : 200 ≤ 200 := Nat.le_refl _
  obtain ⟨σ', e1, e2⟩ := D_paradox hN h hw x1 x2
  exact ⟨σ', e2, h.eq e1⟩
theorem qM_paradox {B : AS} {τ : ZS} (h : RM B τ) (hw : WF B) (x1 : Int32) (x2 : Int32) : ∃ τ', f_X8_paradox 200 τ x1 x2 = some (anParadox B x1 x2, τ') ∧ RM (B) τ' := by
  have hN : 200 ≤ 200 := Nat.le_refl _
  obtain ⟨τ', e1, e2⟩ := M_paradox hN h hw x1 x2
  exact ⟨τ', e2, h.eq e1⟩
theorem qD_look {B : AS} {σ : ZS} (h : RD B σ) (hw : WF B) (x1 : Int32) (x2 : Int32) : ∃ σ', f_X7_look 200 σ x1 x2 = some (anLook B x1 x2, σ') ∧ RD (B) σ' := by
  have hN : 200 ≤ 200 := Nat.le_refl _
  obtain ⟨σ', e1, e2⟩ := D_look hN h hw x1 x2
  exact ⟨σ', e2, h.eq e1⟩
theorem qM_look {B : AS} {τ : ZS} (h : RM B τ) (hw : WF B) (x1 : Int32) (x2 : Int32) : f_X8_look 200 τ x1 x2 = some (anLook B x1 x2) := by
  have hN : 200 ≤ 200 := Nat.le_refl _
  exact M_look hN h hw x1 x2
theorem qD_count {B : AS} {σ : ZS} (h : RD B σ) (hw : WF B) (x1 : Int32) : ∃ σ', f_X7_count 200 σ x1 = some (anCount B x1, σ') ∧ RD (B) σ' := by
  have hN : 200 ≤ 200 := Nat.le_refl _
  obtain ⟨σ', e1, e2⟩ := D_count hN h hw x1
  exact ⟨σ', e2, h.eq e1⟩
theorem qM_count {B : AS} {τ : ZS} (h : RM B τ) (hw : WF B) (x1 : Int32) : ∃ τ', f_X8_count 200 τ x1 = some (anCount B x1, τ') ∧ RM (B) τ' := by
  have hN : 200 ≤ 200 := Nat.le_refl _
  obtain ⟨τ', e1, e2⟩ := M_count hN h hw x1
  exact ⟨τ', e2, h.eq e1⟩
