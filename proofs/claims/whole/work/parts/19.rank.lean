/-! ===== books in an order: the greatest key first, of like ones the lower number ===== -/
def ahd (kf : Nat → Int) (b c : Nat) : Bool := decide (kf c < kf b) || (decide (kf b = kf c) && decide (b < c))
def rnk (S : Nat → Bool) (kf : Nat → Int) (b : Nat) : Nat := cnt (fun c => S c && ahd kf c b) 24
theorem ahd_iff {kf : Nat → Int} {b c : Nat} : ahd kf b c = true ↔ kf c < kf b ∨ (kf b = kf c ∧ b < c) := by
  unfold ahd
  rw [Bool.or_eq_true, Bool.and_eq_true, decide_eq_true_iff, decide_eq_true_iff, decide_eq_true_iff]
theorem ahd_no {kf : Nat → Int} {b c : Nat} (h : ahd kf b c = true) : ahd kf c b = false := by
  cases h2 : ahd kf c b with
  | false => rfl
  | true =>
    rw [ahd_iff] at h h2
    omega
theorem ahd_irr {kf : Nat → Int} {b : Nat} : ahd kf b b = false := by
  cases h2 : ahd kf b b with
  | false => rfl
  | true =>
    rw [ahd_iff] at h2
    omega
theorem ahd_tot {kf : Nat → Int} {b c : Nat} (h : b ≠ c) : ahd kf b c = true ∨ ahd kf c b = true := by
  rw [ahd_iff, ahd_iff]
  omega
theorem ahd_tr {kf : Nat → Int} {a b c : Nat} (h1 : ahd kf a b = true) (h2 : ahd kf b c = true) : ahd kf a c = true := by
  rw [ahd_iff] at *
  omega
theorem rnk_lt {S : Nat → Bool} {kf : Nat → Int} {b c : Nat} (hb : b < 24) (hS : S b = true) (h : ahd kf b c = true) : rnk S kf b < rnk S kf c := by
  refine cnt_lt (fun k _ hk => ?_) ⟨b, hb, by rw [ahd_irr, Bool.and_false], by rw [hS, h]; rfl⟩
  rw [Bool.and_eq_true] at hk ⊢
  exact ⟨hk.1, ahd_tr hk.2 h⟩
theorem rnk_inj {S : Nat → Bool} {kf : Nat → Int} {b c : Nat} (hb : b < 24) (hc : c < 24) (hS : S b = true) (hT : S c = true) (h : rnk S kf b = rnk S kf c) : b = c := by
  apply Classical.byContradiction
  intro hn
  rcases ahd_tot (kf := kf) hn with h1 | h1
  · have := rnk_lt (S := S) hb hS h1; omega
  · have := rnk_lt (S := S) hc hT h1; omega
theorem ahd_rnk {S : Nat → Bool} {kf : Nat → Int} {b c : Nat} (hb : b < 24) (hc : c < 24) (hS : S b = true) (hT : S c = true) : ahd kf b c = decide (rnk S kf b < rnk S kf c) := by
  by_cases he : b = c
  · subst he; rw [ahd_irr, decide_eq_false (by omega)]
  · rcases ahd_tot (kf := kf) he with h1 | h1
    · rw [h1, decide_eq_true (rnk_lt hb hS h1)]
    · rw [ahd_no h1, decide_eq_false (by have := rnk_lt (S := S) hc hT h1; omega)]
theorem cnt_rm {p : Nat → Bool} {x : Nat} (hp : p x = true) : ∀ {n : Nat}, x < n → cnt (fun b => p b && decide (b ≠ x)) n + 1 = cnt p n
  | 0, h => absurd h (Nat.not_lt_zero _)
  | n + 1, h => by
    show cnt _ n + (if (p n && decide (n ≠ x)) = true then 1 else 0) + 1 = cnt p n + (if p n = true then 1 else 0)
    by_cases he : n = x
    · subst he
      rw [if_neg (by simp), if_pos hp]
      rw [cnt_congr (q := p) (fun k hk => by rw [decide_eq_true (show k ≠ n by omega), Bool.and_true])]
    · have ih := cnt_rm hp (n := n) (by omega)
      rw [decide_eq_true he, Bool.and_true]
      omega
theorem cnt_split {p q : Nat → Bool} : ∀ {n : Nat}, (∀ k, k < n → q k = true → p k = true) → cnt (fun c => p c && !q c) n + cnt q n = cnt p n
  | 0, _ => rfl
  | n + 1, h => by
    have ih := cnt_split (p := p) (q := q) (n := n) (fun k hk => h k (by omega))
    have hn := h n (by omega)
    show cnt _ n + (if (p n && !q n) = true then 1 else 0) + (cnt q n + (if q n = true then 1 else 0)) = cnt p n + (if p n = true then 1 else 0)
    cases hq : q n with
    | true => rw [hn hq]; simp; omega
    | false => cases hp : p n <;> simp <;> omega
def fo (S : Nat → Bool) (kf : Nat → Int) : Nat → Option Nat
  | 0 => none
  | b + 1 => if S b then (match fo S kf b with | none => some b | some c => if kf c < kf b then some b else some c) else fo S kf b
theorem fo_spec (S : Nat → Bool) (kf : Nat → Int) : ∀ n, (fo S kf n = none ∧ ∀ b, b < n → S b = false) ∨ ∃ c, c < n ∧ fo S kf n = some c ∧ S c = true ∧ ∀ b, b < n → S b = true → b ≠ c → ahd kf c b = true
  | 0 => Or.inl ⟨rfl, fun b h => absurd h (Nat.not_lt_zero _)⟩
  | n + 1 => by
    have ih := fo_spec S kf n
    by_cases hS : S n = true
    · right
      rcases ih with ⟨h1, h2⟩ | ⟨c, h1, h2, h3, h4⟩
      · refine ⟨n, by omega, ?_, hS, fun b hb hb1 hb2 => ?_⟩
        · show (if S n then _ else _) = _
          rw [if_pos hS, h1]
        · rw [h2 b (by omega)] at hb1; cases hb1
      · by_cases hk : kf c < kf n
        · refine ⟨n, by omega, ?_, hS, fun b hb hb1 hb2 => ?_⟩
          · show (if S n then _ else _) = _
            rw [if_pos hS, h2]
            show (if kf c < kf n then _ else _) = _
            rw [if_pos hk]
          · rw [ahd_iff]
            by_cases hbc : b = c
            · subst hbc; exact Or.inl hk
            · have := ahd_iff.mp (h4 b (by omega) hb1 hbc)
              omega
        · refine ⟨c, by omega, ?_, h3, fun b hb hb1 hb2 => ?_⟩
          · show (if S n then _ else _) = _
            rw [if_pos hS, h2]
            show (if kf c < kf n then _ else _) = _
            rw [if_neg hk]
          · by_cases hbn : b = n
            · subst hbn; rw [ahd_iff]; omega
            · exact h4 b (by omega) hb1 hb2
    · have hS' : S n = false := by simpa using hS
      have e : fo S kf (n + 1) = fo S kf n := by
        show (if S n then _ else _) = _
        rw [if_neg hS]
      rcases ih with ⟨h1, h2⟩ | ⟨c, h1, h2, h3, h4⟩
      · left
        refine ⟨e.trans h1, fun b hb => ?_⟩
        by_cases hbn : b = n
        · subst hbn; exact hS'
        · exact h2 b (by omega)
      · right
        refine ⟨c, by omega, e.trans h2, h3, fun b hb hb1 hb2 => ?_⟩
        by_cases hbn : b = n
        · subst hbn; rw [hS'] at hb1; cases hb1
        · exact h4 b (by omega) hb1 hb2
def lft (S : Nat → Bool) (kf : Nat → Int) : Nat → (Nat → Bool)
  | 0 => S
  | k + 1 => fun b => lft S kf k b && decide (b ≠ (fo (lft S kf k) kf 24).getD 24)
def pck (S : Nat → Bool) (kf : Nat → Int) (k : Nat) : Nat := (fo (lft S kf k) kf 24).getD 24
theorem lft_S {S : Nat → Bool} {kf : Nat → Int} {b : Nat} : ∀ {k : Nat}, lft S kf k b = true → S b = true
  | 0, h => h
  | k + 1, h => by
    have h : (lft S kf k b && _) = true := h
    rw [Bool.and_eq_true] at h
    exact lft_S h.1
/-- what is left after k picks, and the next pick -/
theorem lft_spec (S : Nat → Bool) (kf : Nat → Int) : ∀ k, k ≤ cnt S 24 → cnt (lft S kf k) 24 + k = cnt S 24 ∧ (∀ c d, c < 24 → d < 24 → S c = true → lft S kf k c = false → lft S kf k d = true → ahd kf c d = true) ∧ (k < cnt S 24 → pck S kf k < 24 ∧ fo (lft S kf k) kf 24 = some (pck S kf k) ∧ lft S kf k (pck S kf k) = true ∧ (∀ b, b < 24 → lft S kf k b = true → b ≠ pck S kf k → ahd kf (pck S kf k) b = true)) := by
  have pk : ∀ k, cnt (lft S kf k) 24 + k = cnt S 24 → k < cnt S 24 → pck S kf k < 24 ∧ fo (lft S kf k) kf 24 = some (pck S kf k) ∧ lft S kf k (pck S kf k) = true ∧ (∀ b, b < 24 → lft S kf k b = true → b ≠ pck S kf k → ahd kf (pck S kf k) b = true) := by
    intro k hc hk
    rcases fo_spec (lft S kf k) kf 24 with ⟨h1, h2⟩ | ⟨c, h1, h2, h3, h4⟩
    · have hp : 0 < cnt (lft S kf k) 24 := by omega
      obtain ⟨b, hb, hb1⟩ := cnt_pos.mp hp
      rw [h2 b hb] at hb1; cases hb1
    · have e : pck S kf k = c := by unfold pck; rw [h2]; rfl
      rw [e]
      exact ⟨h1, h2, h3, h4⟩
  intro k
  induction k with
  | zero =>
    intro _
    refine ⟨rfl, fun c d _ _ h1 h2 => ?_, fun h => pk 0 rfl h⟩
    have h2 : S c = false := h2
    rw [h1] at h2; cases h2
  | succ k ih =>
    intro hk
    obtain ⟨i1, i2, i3⟩ := ih (by omega)
    obtain ⟨p1, p2, p3, p4⟩ := i3 (by omega)
    have ef : ∀ b, lft S kf (k + 1) b = (lft S kf k b && decide (b ≠ pck S kf k)) := fun b => rfl
    have c1 : cnt (lft S kf (k + 1)) 24 + (k + 1) = cnt S 24 := by
      have := cnt_rm p3 (n := 24) p1
      have e : cnt (lft S kf (k + 1)) 24 = cnt (fun b => lft S kf k b && decide (b ≠ pck S kf k)) 24 := rfl
      omega
    refine ⟨c1, fun c d hc hd h1 h2 h3 => ?_, fun h => pk (k + 1) c1 h⟩
    rw [ef] at h2 h3
    rw [Bool.and_eq_true] at h3
    cases hl : lft S kf k c with
    | false => exact i2 c d hc hd h1 hl h3.1
    | true =>
      rw [hl, Bool.true_and] at h2
      have h2 : c = pck S kf k := by
        apply Classical.byContradiction
        intro hn
        rw [decide_eq_true hn] at h2; cases h2
      rw [h2]
      exact p4 d hd h3.1 (of_decide_eq_true h3.2)
theorem pck_rnk {S : Nat → Bool} {kf : Nat → Int} {k : Nat} (hk : k < cnt S 24) : pck S kf k < 24 ∧ S (pck S kf k) = true ∧ rnk S kf (pck S kf k) = k := by
  obtain ⟨i1, i2, i3⟩ := lft_spec S kf k (by omega)
  obtain ⟨p1, p2, p3, p4⟩ := i3 hk
  refine ⟨p1, lft_S p3, ?_⟩
  have e : rnk S kf (pck S kf k) = cnt (fun c => S c && !lft S kf k c) 24 := by
    apply cnt_congr
    intro c hc
    cases hS : S c with
    | false => rfl
    | true =>
      rw [Bool.true_and, Bool.true_and]
      cases hl : lft S kf k c with
      | false => rw [i2 c _ hc p1 hS hl p3]; rfl
      | true =>
        by_cases he : c = pck S kf k
        · rw [he, ahd_irr]; rfl
        · rw [ahd_no (p4 c hc hl he)]; rfl
  have := cnt_split (p := S) (q := lft S kf k) (n := 24) (fun b _ h => lft_S h)
  omega
theorem rnk_pck {S : Nat → Bool} {kf : Nat → Int} {b : Nat} (hb : b < 24) (hS : S b = true) : rnk S kf b < cnt S 24 ∧ pck S kf (rnk S kf b) = b := by
  have h1 : rnk S kf b < cnt S 24 := by
    refine cnt_lt (fun k _ hk => ?_) ⟨b, hb, by rw [ahd_irr, Bool.and_false], hS⟩
    rw [Bool.and_eq_true] at hk
    exact hk.1
  obtain ⟨p1, p2, p3⟩ := pck_rnk (kf := kf) h1
  exact ⟨h1, rnk_inj p1 hb p2 hS p3⟩
theorem lft_rnk {S : Nat → Bool} {kf : Nat → Int} {k b : Nat} (hk : k ≤ cnt S 24) (hb : b < 24) : lft S kf k b = (S b && decide (k ≤ rnk S kf b)) := by
  induction k with
  | zero => show S b = _; rw [decide_eq_true (Nat.zero_le _), Bool.and_true]
  | succ k ih =>
    show (lft S kf k b && decide (b ≠ pck S kf k)) = _
    rw [ih (by omega)]
    obtain ⟨p1, p2, p3⟩ := pck_rnk (kf := kf) (show k < cnt S 24 by omega)
    cases hS : S b with
    | false => rfl
    | true =>
      rw [Bool.true_and, Bool.true_and]
      by_cases he : b = pck S kf k
      · rw [decide_eq_false (p := b ≠ pck S kf k) (fun h => h he), Bool.and_false, decide_eq_false (by rw [he, p3]; omega)]
      · rw [decide_eq_true he, Bool.and_true]
        apply decide_eq_decide.mpr
        have : rnk S kf b ≠ k := fun h => he (rnk_inj hb p1 hS p2 (h.trans p3.symm))
        omega
