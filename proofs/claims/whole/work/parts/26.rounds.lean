/-! ===== rounds ===== -/
def isF (A : AS) (s : Nat) (T L : Nat → Bool) (j b : Nat) : Bool := (L b && decide (plc A s T j b < 24)) && decide (cnt (fun c => L c && decide (plc A s T j c < plc A s T j b)) 24 = 0)
def hld (A : AS) (s : Nat) (T L : Nat → Bool) (b : Nat) : Nat := cnt (fun j => isF A s T L j b) 7
def kR (A : AS) (s : Nat) (T : Nat → Bool) (c : Bool) (L : Nat → Bool) (b : Nat) : Int := 32 * (hld A s T L b : Int) + tieN A s T c b
def la (S : Nat → Bool) (kf : Nat → Int) : Nat → Option Nat
  | 0 => none
  | b + 1 => if S b then (match la S kf b with | none => some b | some c => if kf c < kf b then some c else some b) else la S kf b
theorem la_spec (S : Nat → Bool) (kf : Nat → Int) : ∀ n, (la S kf n = none ∧ ∀ b, b < n → S b = false) ∨ ∃ c, c < n ∧ la S kf n = some c ∧ S c = true ∧ ∀ b, b < n → S b = true → b ≠ c → ahd kf b c = true
  | 0 => Or.inl ⟨rfl, fun b h => absurd h (Nat.not_lt_zero _)⟩
  | n + 1 => by
    have ih := la_spec S kf n
    by_cases hS : S n = true
    · right
      rcases ih with ⟨h1, h2⟩ | ⟨c, h1, h2, h3, h4⟩
      · refine ⟨n, by omega, ?_, hS, fun b hb hb1 hb2 => ?_⟩
        · show (if S n then _ else _) = _
          rw [if_pos hS, h1]
        · rw [h2 b (by omega)] at hb1; cases hb1
      · by_cases hk : kf c < kf n
        · refine ⟨c, by omega, ?_, h3, fun b hb hb1 hb2 => ?_⟩
          · show (if S n then _ else _) = _
            rw [if_pos hS, h2]
            show (if kf c < kf n then _ else _) = _
            rw [if_pos hk]
          · by_cases hbn : b = n
            · subst hbn; rw [ahd_iff]; omega
            · exact h4 b (by omega) hb1 hb2
        · refine ⟨n, by omega, ?_, hS, fun b hb hb1 hb2 => ?_⟩
          · show (if S n then _ else _) = _
            rw [if_pos hS, h2]
            show (if kf c < kf n then _ else _) = _
            rw [if_neg hk]
          · rw [ahd_iff]
            by_cases hbc : b = c
            · subst hbc; omega
            · have := ahd_iff.mp (h4 b (by omega) hb1 hbc)
              omega
    · have hS' : S n = false := by simpa using hS
      have e : la S kf (n + 1) = la S kf n := by
        show (if S n then _ else _) = _
        rw [if_neg hS]
      rcases ih with ⟨h1, h2⟩ | ⟨c, h1, h2, h3, h4⟩
      · left
        refine ⟨e.trans h1, fun b hb => ?_⟩
        by_cases hbn : b = n
        · subst hbn; exact hS'
        · exact h2 b (by omega)
      · right
        refine ⟨c, by omega, e.trans h2, h3, fun b hb hb1 hb2 => ?_⟩
        by_cases hbn : b = n
        · subst hbn; rw [hS'] at hb1; cases hb1
        · exact h4 b (by omega) hb1 hb2
/-- who is left when k rounds are over -/
def LR (A : AS) (s : Nat) (T : Nat → Bool) (c : Bool) : Nat → (Nat → Bool)
  | 0 => T
  | k + 1 => fun b => LR A s T c k b && decide (b ≠ (la (LR A s T c k) (kR A s T c (LR A s T c k)) 24).getD 24)
def oR (A : AS) (s : Nat) (T : Nat → Bool) (c : Bool) (k : Nat) : Nat := (la (LR A s T c k) (kR A s T c (LR A s T c k)) 24).getD 24
def vR (A : AS) (s : Nat) (T : Nat → Bool) (c : Bool) (b : Nat) : Int := (cnt (fun k => LR A s T c k b) (cnt T 24) : Int)
theorem LR_s {A : AS} {s : Nat} {T : Nat → Bool} {c : Bool} {k b : Nat} : LR A s T c (k + 1) b = (LR A s T c k b && decide (b ≠ oR A s T c k)) := rfl
theorem LR_mono {A : AS} {s : Nat} {T : Nat → Bool} {c : Bool} {b : Nat} : ∀ {k i : Nat}, i ≤ k → LR A s T c k b = true → LR A s T c i b = true := by
  intro k i hik h
  induction k with
  | zero => have : i = 0 := by omega
            subst this; exact h
  | succ k ih =>
    by_cases he : i = k + 1
    · subst he; exact h
    · rw [LR_s, Bool.and_eq_true] at h
      exact ih (by omega) h.1
theorem LR_T {A : AS} {s : Nat} {T : Nat → Bool} {c : Bool} {k b : Nat} (h : LR A s T c k b = true) : T b = true := LR_mono (i := 0) (Nat.zero_le _) h
theorem LR_spec (A : AS) (s : Nat) (T : Nat → Bool) (c : Bool) : ∀ k, k ≤ cnt T 24 → cnt (LR A s T c k) 24 + k = cnt T 24 ∧ (k < cnt T 24 → oR A s T c k < 24 ∧ la (LR A s T c k) (kR A s T c (LR A s T c k)) 24 = some (oR A s T c k) ∧ LR A s T c k (oR A s T c k) = true ∧ (∀ b, b < 24 → LR A s T c k b = true → b ≠ oR A s T c k → ahd (kR A s T c (LR A s T c k)) b (oR A s T c k) = true)) := by
  have pk : ∀ k, cnt (LR A s T c k) 24 + k = cnt T 24 → k < cnt T 24 → oR A s T c k < 24 ∧ la (LR A s T c k) (kR A s T c (LR A s T c k)) 24 = some (oR A s T c k) ∧ LR A s T c k (oR A s T c k) = true ∧ (∀ b, b < 24 → LR A s T c k b = true → b ≠ oR A s T c k → ahd (kR A s T c (LR A s T c k)) b (oR A s T c k) = true) := by
    intro k hc hk
    rcases la_spec (LR A s T c k) (kR A s T c (LR A s T c k)) 24 with ⟨h1, h2⟩ | ⟨d, h1, h2, h3, h4⟩
    · obtain ⟨b, hb, hb1⟩ := cnt_pos.mp (show 0 < cnt (LR A s T c k) 24 by omega)
      rw [h2 b hb] at hb1; cases hb1
    · have e : oR A s T c k = d := by unfold oR; rw [h2]; rfl
      rw [e]
      exact ⟨h1, h2, h3, h4⟩
  intro k
  induction k with
  | zero => intro _; exact ⟨rfl, fun h => pk 0 rfl h⟩
  | succ k ih =>
    intro hk
    obtain ⟨i1, i2⟩ := ih (by omega)
    obtain ⟨p1, p2, p3, p4⟩ := i2 (by omega)
    have c1 : cnt (LR A s T c (k + 1)) 24 + (k + 1) = cnt T 24 := by
      have := cnt_rm p3 (n := 24) p1
      have e : cnt (LR A s T c (k + 1)) 24 = cnt (fun b => LR A s T c k b && decide (b ≠ oR A s T c k)) 24 := rfl
      omega
    exact ⟨c1, fun h => pk (k + 1) c1 h⟩
theorem cnt_all {p : Nat → Bool} : ∀ {n : Nat}, (∀ k, k < n → p k = true) → cnt p n = n
  | 0, _ => rfl
  | n + 1, h => by
    show cnt p n + (if p n = true then 1 else 0) = n + 1
    rw [if_pos (h n (by omega)), cnt_all (fun k hk => h k (by omega))]
theorem vR_bd (A : AS) (s : Nat) (T : Nat → Bool) (c : Bool) (b : Nat) : -1000 ≤ vR A s T c b ∧ vR A s T c b ≤ 1000 := by
  have h1 := cnt_le (fun k => LR A s T c k b) (cnt T 24)
  have h2 := cnt_le24 T
  unfold vR
  omega
section Rounds
variable {N : Nat} {σ : ZS} {A : AS} {T : Nat → Bool} {s : Nat} {c : Bool}
theorem d_firstOn (hN : 200 ≤ N) (hw : WFq A) (hs : s < 2) (hT : ∀ b, T b = true → b < 24) (h : TL A s T c σ) {L : Nat → Bool} {j : Nat} (hj : j < 7) : ∃ v, f_X5_firstOn N σ (nI j) (maskN L 24) = some v ∧ ((∃ b, b < 24 ∧ v = nI b ∧ ∀ x, x < 24 → isF A s T L j x = decide (x = b)) ∨ (v = -1 ∧ ∀ x, x < 24 → isF A s T L j x = false)) := by
  -- the first row whose book is left
  obtain ⟨q, hq⟩ : ∃ q : Nat → Bool, ∀ i, q i = true ↔ ∃ b, b < 24 ∧ L b = true ∧ rowk A s T j 12 i = nI b := ⟨fun i => decide (0 < cnt (fun b => L b && decide (rowk A s T j 12 i = nI b)) 24), fun i => by
    rw [decide_eq_true_iff, cnt_pos]
    simp only [Bool.and_eq_true, decide_eq_true_eq]⟩
  have stp : ∀ K rc i, i < 12 → q i = false → B_X5_firstOn_2 N σ (nI j) (maskN L 24) K rc (nI i) = rc (nI (i + 1)) := by
    intro K rc i hi hqi
    unfold B_X5_firstOn_2
    rw [k_12]
    simp only [n_le (show 12 < 2147483648 by omega) (show i < 2147483648 by omega)]
    rw [if_neg (by omega), d_isJudge (by omega), Option.bind_some, decide_eq_true hj, if_neg (by decide), n_jb, g_rd_in (by omega) (by omega), h.2.1 j i hj hi]
    simp only [g_lt_e, nI_1]
    rcases row_plc (T := T) hw hj hs hi hT with ⟨hr, -⟩ | ⟨b, hb, -, hr, -, -⟩
    · rw [hr, d_isBookNumber_m1, Option.bind_some, if_pos (by decide)]
    · rw [hr, d_isBookNumber (by omega), Option.bind_some, decide_eq_true hb, if_neg (by decide), d_contains (by omega), Option.bind_some, bt_mask _ (by omega) (by omega), decide_eq_true hb, Bool.true_and]
      have hL : L b = false := by
        cases hL : L b with
        | false => rfl
        | true => rw [(hq i).mpr ⟨b, hb, hL, hr⟩] at hqi; cases hqi
      rw [hL, if_pos (by decide)]
  unfold f_X5_firstOn L_X5_firstOn_2
  rcases find_cases q 12 with ⟨-, hall⟩ | ⟨e, he, hqe, hlt, -⟩
  · refine ⟨-1, ?_, Or.inr ⟨rfl, fun x hx => ?_⟩⟩
    · refine lq1_seq (fun k => nI k) _ 12 (fun k hk rc => stp _ rc k hk (hall k hk)) ?_ N (by omega)
      intro rc
      unfold B_X5_firstOn_2
      rw [if_pos (by decide)]
    · cases hf : isF A s T L j x with
      | false => rfl
      | true =>
        unfold isF at hf
        simp only [Bool.and_eq_true, decide_eq_true_eq] at hf
        have hp12 : plc A s T j x < 12 := by
          rcases plk_le (A := A) (s := s) (T := T) (j := j) (k := 12) (b := x) (Nat.le_refl _) with h1 | h1
          · have h2 : plk A s T j 12 x < 24 := hf.1.2; omega
          · exact h1
        rcases row_plc (T := T) hw hj hs hp12 hT with ⟨-, hno⟩ | ⟨b, hb, -, hr, hp, hu⟩
        · exact absurd rfl (hno x)
        · have := hu x rfl
          subst this
          have := hall _ hp12
          rw [(hq _).mpr ⟨x, hx, hf.1.1, hr⟩] at this
          cases this
  · obtain ⟨b0, hb0, hL0, hr0⟩ := (hq e).mp hqe
    rcases row_plc (T := T) hw hj hs he hT with ⟨hr, -⟩ | ⟨b, hb, -, hr, hp, hu⟩
    · rw [hr] at hr0
      have := n_m1' (a := b0) (by omega)
      rw [this] at hr0
      exact hr0.elim
    · have : b = b0 := by
        have : nI b = nI b0 := hr.symm.trans hr0
        rwa [n_eq (by omega) (by omega)] at this
      subst this
      refine ⟨nI b, ?_, Or.inl ⟨b, hb, rfl, fun x hx => ?_⟩⟩
      · refine lq1_seq (fun k => nI k) _ e (fun k hk rc => stp _ rc k (by omega) (hlt k hk)) ?_ N (by omega)
        intro rc
        unfold B_X5_firstOn_2
        rw [k_12]
        simp only [n_le (show 12 < 2147483648 by omega) (show e < 2147483648 by omega)]
        rw [if_neg (by omega), d_isJudge (by omega), Option.bind_some, decide_eq_true hj, if_neg (by decide), n_jb, g_rd_in (by omega) (by omega), h.2.1 j e hj he, hr, d_isBookNumber (by omega), Option.bind_some, decide_eq_true hb, if_neg (by decide), d_contains (by omega), Option.bind_some, bt_mask _ (by omega) (by omega), decide_eq_true hb, Bool.true_and, hL0, if_neg (by decide)]
      · -- no book that is left has a lesser place
        have low : ∀ y, y < 24 → L y = true → ¬ plc A s T j y < e := by
          intro y hy hLy hlt2
          rcases row_plc (T := T) hw hj hs (show plc A s T j y < 12 by omega) hT with ⟨-, hno⟩ | ⟨z, hz, -, hrz, -, huz⟩
          · exact hno y rfl
          · have := huz y rfl
            subst this
            have := hlt _ hlt2
            rw [(hq _).mpr ⟨y, hy, hLy, hrz⟩] at this
            cases this
        by_cases hxb : x = b
        · subst hxb
          rw [decide_eq_true rfl]
          unfold isF
          rw [hL0, hp, decide_eq_true (show e < 24 by omega), decide_eq_true]
          · rfl
          · apply Nat.eq_zero_of_not_pos
            intro hpos
            obtain ⟨y, hy, hyy⟩ := cnt_pos.mp hpos
            rw [Bool.and_eq_true] at hyy
            exact low y hy hyy.1 (of_decide_eq_true hyy.2)
        · rw [decide_eq_false hxb]
          cases hf : isF A s T L j x with
          | false => rfl
          | true =>
            unfold isF at hf
            simp only [Bool.and_eq_true, decide_eq_true_eq] at hf
            have h1 := low x hx hf.1.1
            have h2 : plc A s T j x ≠ e := fun ee => hxb (hu x ee)
            have h3 : 0 < cnt (fun c => L c && decide (plc A s T j c < plc A s T j x)) 24 := cnt_pos.mpr ⟨b, hb, by rw [hL0, hp, decide_eq_true (show e < plc A s T j x by omega)]; rfl⟩
            omega
theorem d_shareBallots (hN : 200 ≤ N) (hw : WFq A) (hs : s < 2) (hT : ∀ b, T b = true → b < 24) (h : TL A s T c σ) {L : Nat → Bool} : f_X5_shareBallots N σ (maskN L 24) = some (fl σ 29 (fun b => nI (hld A s T L b)) 24) := by
  have hL : ∀ g : Nat → Int32, TL A s T c (fl σ 29 g 24) := fun g => h.of (fl_q (by omega)) (fl_q (by omega)) (fl_q (by omega)) (fl_q (by omega))
  unfold f_X5_shareBallots L_X5_shareBallots_2
  refine Eq.trans (congrArg (lq2 _ N 0) (fl_0 (p := 29) (g := fun _ => 0)).symm) ?_
  refine lq2_seq (fun k => nI k) (fun k => fl σ 29 (fun _ => 0) k) _ 24 ?_ ?_ N (by omega)
  · intro k hk rc
    unfold B_X5_shareBallots_2
    rw [k_24]
    simp only [n_le (show 24 < 2147483648 by omega) (show k < 2147483648 by omega)]
    rw [if_neg (by omega), g_wr_in hk (by omega)]
    simp only [g_lt_e, nI_1]
    rw [← fl_s]
  · intro rc
    unfold B_X5_shareBallots_2
    rw [if_pos (by decide)]
    dsimp only
    unfold L_X5_shareBallots_23
    rw [show fl σ 29 (fun _ => (0 : Int32)) 24 = fl σ 29 (fun b => nI (cnt (fun j => isF A s T L j b) 0)) 24 from fl_congr (fun _ _ => rfl)]
    refine lq2_seq (fun j => nI j) (fun j => fl σ 29 (fun b => nI (cnt (fun j => isF A s T L j b) j)) 24) _ 7 ?_ ?_ N (by omega)
    · intro j hj rc
      unfold B_X5_shareBallots_23
      rw [k_7]
      simp only [n_le (show 7 < 2147483648 by omega) (show j < 2147483648 by omega)]
      obtain ⟨v, hv, hcase⟩ := d_firstOn (N := N) hN hw hs hT (hL (fun b => nI (cnt (fun j => isF A s T L j b) j))) (L := L) hj
      rw [if_neg (by omega), hv, Option.bind_some]
      simp only [g_lt_e, nI_1]
      have cs : ∀ b, cnt (fun j => isF A s T L j b) (j + 1) = cnt (fun j => isF A s T L j b) j + if isF A s T L j b = true then 1 else 0 := fun b => rfl
      rcases hcase with ⟨b, hb, rfl, hx⟩ | ⟨rfl, hx⟩
      · rw [d_isBookNumber (by omega), Option.bind_some, decide_eq_true hb, if_neg (by decide), g_rd_in hb (by omega), g_wr_in hb (by omega), fl_p hb]
        congr 1
        apply fl_up hb
        · rw [cs, if_pos (by rw [hx b hb, decide_eq_true rfl]), nI_1]
        · intro x hx24 hne
          rw [cs, if_neg (by rw [hx x hx24, decide_eq_false hne]; decide), Nat.add_zero]
      · rw [d_isBookNumber_m1, Option.bind_some, if_pos (by decide)]
        congr 1
        apply fl_congr
        intro x hx24
        rw [cs, if_neg (by rw [hx x hx24]; decide), Nat.add_zero]
    · intro rc
      unfold B_X5_shareBallots_23
      rw [if_pos (by decide)]
      rfl
theorem d_lastOf (hN : 200 ≤ N) {L : Nat → Bool} {kf : Nat → Int} (hk : ∀ b, b < 24 → 32 * σ 29 b + σ 27 b = iI (kf b) ∧ -100000 ≤ kf b ∧ kf b ≤ 100000) : f_X5_lastOf N σ (maskN L 24) = some (foI (la L kf 24)) := by
  unfold f_X5_lastOf L_X5_lastOf_7
  refine lq3_seq (fun k => foI (la L kf k)) (fun k => match la L kf k with | none => 0 | some d => iI (kf d)) (fun k => nI k) _ 24 ?_ ?_ N (by omega)
  · intro k hk24 rc
    unfold B_X5_lastOf_7
    rw [k_24]
    simp only [n_le (show 24 < 2147483648 by omega) (show k < 2147483648 by omega)]
    rw [if_neg (by omega), g_rd_in hk24 (by omega), g_rd_in hk24 (by omega)]
    simp only [g_lt_e, nI_1]
    rw [(hk k hk24).1, d_contains (by omega), Option.bind_some, bt_mask _ (by omega) (by omega), decide_eq_true hk24, Bool.true_and]
    simp only [zb_0]
    have ls : la L kf (k + 1) = if L k then (match la L kf k with | none => some k | some c => if kf c < kf k then some c else some k) else la L kf k := rfl
    rw [ls]
    by_cases hS : L k = true
    · rw [if_neg (by rw [hS]; decide), if_pos hS]
      rcases la_spec L kf k with ⟨h1, h2⟩ | ⟨d, h1, h2, h3, h4⟩
      · rw [h1]
        show (if (-1 : Int32) = -1 then _ else _) = _
        rw [if_pos rfl]
        rfl
      · rw [h2]
        show (if nI d = -1 then _ else _) = _
        rw [if_neg (by rw [n_m1 (by omega)]; exact id)]
        have e : (iI (kf d) < iI (kf k)) = (kf d < kf k) := by
          have := hk k hk24
          have := hk d (by omega)
          rw [Int32.lt_iff_toInt_lt, iI_T (by omega) (by omega), iI_T (by omega) (by omega)]
        simp only [e]
        by_cases hc : kf d < kf k
        · rw [if_pos hc, if_pos hc]
          try rfl
        · rw [if_neg hc, if_neg hc]
          try rfl
    · have hS' : L k = false := by simpa using hS
      rw [if_pos hS', if_neg hS]
  · intro rc
    unfold B_X5_lastOf_7
    rw [if_pos (by decide)]
def vT (A : AS) (s : Nat) (T : Nat → Bool) (c : Bool) (σ : ZS) : Nat → ZS
  | 0 => σ
  | k + 1 => zu (fl (vT A s T c σ k) 29 (fun b => nI (hld A s T (LR A s T c k) b)) 24) 28 (oR A s T c k) (nI (k + 1))
theorem vT_q {q : Nat} (h1 : q ≠ 28) (h2 : q ≠ 29) : ∀ k, vT A s T c σ k q = σ q
  | 0 => rfl
  | k + 1 => by
    unfold vT
    rw [zu_q h1, fl_q h2, vT_q h1 h2 k]
theorem vT_v {b : Nat} (hb : T b = true) : ∀ k, k ≤ cnt T 24 → LR A s T c k b = false → vT A s T c σ k 28 b = nI (cnt (fun i => LR A s T c i b) k)
  | 0, _, h => by have h : T b = false := h; rw [hb] at h; cases h
  | k + 1, hk, h => by
    unfold vT
    rw [zu_e]
    have cs : cnt (fun i => LR A s T c i b) (k + 1) = cnt (fun i => LR A s T c i b) k + if LR A s T c k b = true then 1 else 0 := rfl
    by_cases he : b = oR A s T c k
    · rw [if_pos ⟨rfl, he⟩]
      have p3 := ((LR_spec A s T c k (by omega)).2 (by omega)).2.2.1
      rw [← he] at p3
      rw [cnt_all (fun i hi => LR_mono (show i ≤ k by omega) p3)]
    · rw [if_neg (fun x => he x.2), fl_q (by omega)]
      have hl : LR A s T c k b = false := by
        rw [LR_s, decide_eq_true he, Bool.and_true] at h
        exact h
      rw [vT_v hb k (by omega) hl, cs, if_neg (by rw [hl]; decide), Nat.add_zero]
theorem d_rounds (hN : 200 ≤ N) (hw : WFq A) (hs : s < 2) (hT : ∀ b, T b = true → b < 24) (h : TL A s T c σ) : ∃ τ, f_X5_valueByRounds N σ = some τ ∧ (∀ b, T b = true → τ 28 b = iI (vR A s T c b)) ∧ (∀ q, q ≠ 28 → q ≠ 29 → τ q = σ q) := by
  have hc24 := cnt_le24 T
  refine ⟨vT A s T c σ (cnt T 24), ?_, fun b hb => ?_, fun q h1 h2 => vT_q h1 h2 _⟩
  · unfold f_X5_valueByRounds
    rw [h.1, d_bitCount, Option.bind_some]
    unfold L_X5_valueByRounds_15
    refine lq3_seq (fun k => maskN (LR A s T c k) 24) (fun k => nI (k + 1)) (fun k => vT A s T c σ k) _ (cnt T 24) ?_ ?_ N (by omega)
    · intro k hk rc
      obtain ⟨i1, i2⟩ := LR_spec A s T c k (by omega)
      obtain ⟨p1, p2, p3, p4⟩ := i2 hk
      have hTL : TL A s T c (vT A s T c σ k) := h.of (vT_q (by omega) (by omega) k) (vT_q (by omega) (by omega) k) (vT_q (by omega) (by omega) k) (vT_q (by omega) (by omega) k)
      unfold B_X5_valueByRounds_15
      simp only [n_lt (show cnt T 24 < 2147483648 by omega) (show k + 1 < 2147483648 by omega)]
      rw [if_neg (by omega), d_shareBallots hN hw hs hT hTL, Option.bind_some]
      rw [d_lastOf hN (kf := kR A s T c (LR A s T c k)) (L := LR A s T c k) (fun b hb => by
        have h7 : hld A s T (LR A s T c k) b ≤ 7 := cnt_le _ 7
        have ht := tieN_le A s T c b
        refine ⟨?_, ?_, ?_⟩
        · rw [fl_p hb, fl_q (by omega), hTL.2.2.2 b hb, show (32 : Int32) = iI 32 from rfl, ← iI_nI, ← iI_nI, iI_mul, iI_add]
          rfl
        · unfold kR; omega
        · unfold kR; omega), Option.bind_some, p2]
      simp only [foI]
      rw [d_isBookNumber (by omega), Option.bind_some, decide_eq_true p1, if_neg (by decide), g_wr_in p1 (by omega)]
      simp only [g_lt_e, nI_1, d_bit, Option.bind_some]
      have e : maskN (LR A s T c k) 24 &&& (bitm (oR A s T c k) ^^^ (-1)) = maskN (LR A s T c (k + 1)) 24 := by
        apply mask_ext (by omega)
        intro i hi
        rw [b_and, bt_not hi, bt_bitm (by omega) hi, bt_mask _ (by omega) hi, LR_s]
        by_cases he : i = oR A s T c k <;> simp [he]
      rw [e]
      rfl
    · intro rc
      unfold B_X5_valueByRounds_15
      rw [if_pos (by rw [n_lt (by omega) (by omega)]; omega)]
  · have hz := (LR_spec A s T c (cnt T 24) (Nat.le_refl _)).1
    have hl : LR A s T c (cnt T 24) b = false := by
      cases hl : LR A s T c (cnt T 24) b with
      | false => rfl
      | true =>
        have := cnt_pos.mpr ⟨b, hT b hb, hl⟩
        omega
    rw [vT_v hb _ (Nat.le_refl _) hl, ← iI_nI]
    rfl
end Rounds
