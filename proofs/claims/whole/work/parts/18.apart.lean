/-! ===== rows of judges, each having met the next ===== -/
theorem cnt_pos {p : Nat → Bool} : ∀ {n : Nat}, 0 < cnt p n ↔ ∃ k, k < n ∧ p k = true
  | 0 => by simp [cnt]
  | n + 1 => by
    have ih := cnt_pos (p := p) (n := n)
    show 0 < cnt p n + (if p n = true then 1 else 0) ↔ _
    constructor
    · intro h
      by_cases hp : p n = true
      · exact ⟨n, by omega, hp⟩
      · rw [if_neg hp] at h
        obtain ⟨k, hk, hp⟩ := ih.mp h
        exact ⟨k, by omega, hp⟩
    · rintro ⟨k, hk, hp⟩
      by_cases he : k = n
      · subst he; rw [if_pos hp]; omega
      · have := ih.mpr ⟨k, by omega, hp⟩
        omega
theorem cnt_mono {p q : Nat → Bool} : ∀ {n : Nat}, (∀ k, k < n → p k = true → q k = true) → cnt p n ≤ cnt q n
  | 0, _ => Nat.le_refl _
  | n + 1, h => by
    have ih := cnt_mono (p := p) (q := q) (n := n) (fun k hk => h k (by omega))
    have hn := h n (by omega)
    show cnt p n + (if p n = true then 1 else 0) ≤ cnt q n + (if q n = true then 1 else 0)
    by_cases hp : p n = true
    · rw [if_pos hp, if_pos (hn hp)]; omega
    · rw [if_neg hp]; split <;> omega
theorem cnt_lt {p q : Nat → Bool} : ∀ {n : Nat}, (∀ k, k < n → p k = true → q k = true) → (∃ k, k < n ∧ p k = false ∧ q k = true) → cnt p n < cnt q n
  | 0, _, h => by obtain ⟨k, hk, -⟩ := h; omega
  | n + 1, h, hx => by
    have hm := cnt_mono (p := p) (q := q) (n := n) (fun k hk => h k (by omega))
    have hn := h n (by omega)
    show cnt p n + (if p n = true then 1 else 0) < cnt q n + (if q n = true then 1 else 0)
    obtain ⟨k, hk, h1, h2⟩ := hx
    by_cases he : k = n
    · subst he; rw [if_neg (by rw [h1]; decide), if_pos h2]; omega
    · have ih := cnt_lt (p := p) (q := q) (n := n) (fun k hk => h k (by omega)) ⟨k, by omega, h1, h2⟩
      by_cases hp : p n = true
      · rw [if_pos hp, if_pos (hn hp)]; omega
      · rw [if_neg hp]; split <;> omega
def adj (A : AS) (x y : Nat) : Bool := decide (0 < cnt (shr A x y) 24)
def clo (A : AS) (S : Nat → Bool) : Prop := ∀ x y, x < 7 → y < 7 → S x = true → adj A x y = true → S y = true
def sub7 (S T : Nat → Bool) : Prop := ∀ x, x < 7 → S x = true → T x = true
/-- seven rounds are enough -/
theorem clo_7 {A : AS} {S : Nat → Nat → Bool} (h0 : ∃ j, j < 7 ∧ S 0 j = true) (mono : ∀ r, sub7 (S r) (S (r + 1))) (step : ∀ r x y, x < 7 → y < 7 → S r x = true → adj A x y = true → S (r + 1) y = true) (mini : ∀ r C, clo A C → sub7 (S r) C → sub7 (S (r + 1)) C) : clo A (S 7) := by
  have key : ∀ r, clo A (S r) ∨ r + 1 ≤ cnt (S r) 7 := by
    intro r
    induction r with
    | zero =>
      right
      obtain ⟨j, hj, h⟩ := h0
      exact cnt_pos.mpr ⟨j, hj, h⟩
    | succ r ih =>
      rcases ih with hc | hc
      · left
        have hs := mini r (S r) hc (fun _ _ h => h)
        intro x y hx hy h ha
        exact mono r y hy (hc x y hx hy (hs x hx h) ha)
      · by_cases hcl : clo A (S r)
        · left
          have hs := mini r (S r) hcl (fun _ _ h => h)
          intro x y hx hy h ha
          exact mono r y hy (hcl x y hx hy (hs x hx h) ha)
        · right
          have : ∃ y, y < 7 ∧ S r y = false ∧ S (r + 1) y = true := by
            apply Classical.byContradiction
            intro hn
            apply hcl
            intro x y hx hy h ha
            have h1 := step r x y hx hy h ha
            cases h2 : S r y with
            | true => rfl
            | false => exact absurd ⟨y, hy, h2, h1⟩ hn
          have := cnt_lt (p := S r) (q := S (r + 1)) (n := 7) (fun k hk => mono r k hk) this
          omega
  rcases key 7 with h | h
  · exact h
  · have := cnt_le (S 7) 7
    omega
/-- the class's walk: one judge after the other is taken in -/
def hit (A : AS) (T : Nat → Bool) (k : Nat) : Bool := decide (0 < cnt (fun x => T x && adj A x k) 7)
def tIn (A : AS) (T : Nat → Bool) : Nat → (Nat → Bool)
  | 0 => T
  | k + 1 => fun z => tIn A T k z || (decide (z = k) && hit A (tIn A T k) k)
def tOut (A : AS) (j : Nat) : Nat → (Nat → Bool)
  | 0 => fun z => decide (z = j)
  | r + 1 => tIn A (tOut A j r) 7
theorem hit_iff {A : AS} {T : Nat → Bool} {k : Nat} : hit A T k = true ↔ ∃ x, x < 7 ∧ T x = true ∧ adj A x k = true := by
  unfold hit
  rw [decide_eq_true_iff, cnt_pos]
  simp only [Bool.and_eq_true]
theorem adj_iff {A : AS} {x y : Nat} : adj A x y = true ↔ ∃ b, b < 24 ∧ A 8 (24 * x + b) ≠ 0 ∧ A 8 (24 * y + b) ≠ 0 := by
  unfold adj shr
  rw [decide_eq_true_iff, cnt_pos]
  simp only [Bool.and_eq_true, decide_eq_true_eq]
theorem tIn_mono {A : AS} {T : Nat → Bool} {x : Nat} (h : T x = true) : ∀ k, tIn A T k x = true
  | 0 => h
  | k + 1 => by
    show (tIn A T k x || _) = true
    rw [tIn_mono h k]; rfl
theorem tIn_mono2 {A : AS} {T : Nat → Bool} {x : Nat} : ∀ {k n : Nat}, k ≤ n → tIn A T k x = true → tIn A T n x = true := by
  intro k n hkn h
  induction n with
  | zero => have : k = 0 := by omega
            subst this; exact h
  | succ n ih =>
    by_cases he : k = n + 1
    · subst he; exact h
    · show (tIn A T n x || _) = true
      rw [ih (by omega)]; rfl
theorem tIn_step {A : AS} {T : Nat → Bool} {x y : Nat} (hx : x < 7) (hy : y < 7) (h : T x = true) (ha : adj A x y = true) : tIn A T 7 y = true := by
  apply tIn_mono2 (k := y + 1) (by omega)
  show (tIn A T y y || (decide (y = y) && hit A (tIn A T y) y)) = true
  rw [hit_iff.mpr ⟨x, hx, tIn_mono h y, ha⟩]
  simp
theorem tIn_mini {A : AS} {T C : Nat → Bool} (hc : clo A C) (hs : sub7 T C) : ∀ {k : Nat}, k ≤ 7 → sub7 (tIn A T k) C
  | 0, _ => hs
  | k + 1, hk => by
    have ih := tIn_mini hc hs (k := k) (by omega)
    intro x hx h
    have h : (tIn A T k x || (decide (x = k) && hit A (tIn A T k) k)) = true := h
    rw [Bool.or_eq_true, Bool.and_eq_true] at h
    rcases h with h | ⟨h1, h2⟩
    · exact ih x hx h
    · have h1 := of_decide_eq_true h1
      subst h1
      obtain ⟨z, hz, hz1, hz2⟩ := hit_iff.mp h2
      exact hc z x hz hx (ih z hz hz1) hz2
theorem tOut_clo {A : AS} {j : Nat} (hj : j < 7) : clo A (tOut A j 7) := clo_7 (S := tOut A j) ⟨j, hj, by simp [tOut]⟩ (fun r x _ h => tIn_mono h 7) (fun r x y hx hy h ha => tIn_step hx hy h ha) (fun r C hc hs => tIn_mini hc hs (Nat.le_refl 7))
theorem tOut_mini {A : AS} {j : Nat} {C : Nat → Bool} (hc : clo A C) (h : C j = true) : ∀ r, sub7 (tOut A j r) C
  | 0 => fun x _ hx => by rw [of_decide_eq_true hx]; exact h
  | r + 1 => tIn_mini hc (tOut_mini hc h r) (Nat.le_refl 7)
/-- who was taken in, but the first, has met himself -/
theorem tOut_self {A : AS} {j : Nat} : ∀ r x, x < 7 → tOut A j r x = true → x = j ∨ adj A x x = true := by
  intro r
  induction r with
  | zero => intro x _ h; exact Or.inl (of_decide_eq_true h)
  | succ r ih =>
    have key : ∀ k, k ≤ 7 → ∀ x, x < 7 → tIn A (tOut A j r) k x = true → x = j ∨ adj A x x = true := by
      intro k
      induction k with
      | zero => intro _ x hx h; exact ih x hx h
      | succ k ihk =>
        intro hk x hx h
        have h : (tIn A (tOut A j r) k x || (decide (x = k) && hit A (tIn A (tOut A j r) k) k)) = true := h
        rw [Bool.or_eq_true, Bool.and_eq_true] at h
        rcases h with h | ⟨h1, h2⟩
        · exact ihk (by omega) x hx h
        · have h1 := of_decide_eq_true h1
          subst h1
          obtain ⟨z, hz, hz1, hz2⟩ := hit_iff.mp h2
          obtain ⟨b, hb, -, hb2⟩ := adj_iff.mp hz2
          exact Or.inr (adj_iff.mpr ⟨b, hb, hb2, hb2⟩)
    exact key 7 (Nat.le_refl 7)
def rbm (A : AS) (T : Nat → Bool) : Int32 := maskN (fun b => decide (0 < cnt (fun x => T x && decide (A 8 (24 * x + b) ≠ 0)) 7)) 24
section Apart
variable {N : Nat} {σ : ZS} {A : AS}
theorem rb_hit (h : RDj A σ) {T : Nat → Bool} {k : Nat} (hk : k < 7) : (σ 15 k &&& rbm A T = 0) = (hit A T k = false) := by
  apply propext
  constructor
  · intro e
    cases hh : hit A T k with
    | false => rfl
    | true =>
      obtain ⟨x, hx, h1, h2⟩ := hit_iff.mp hh
      obtain ⟨b, hb, h3, h4⟩ := adj_iff.mp h2
      have := congrArg (fun z => bt z b) e
      simp only [b_and, b_0] at this
      unfold rbm at this
      rw [(h k hk).2.2.2.1 b (by omega), bt_mask _ (by omega) (by omega), decide_eq_true hb, decide_eq_true h4, decide_eq_true (cnt_pos.mpr ⟨x, hx, by rw [h1, decide_eq_true h3]; rfl⟩)] at this
      simp at this
  · intro e
    apply b_ext
    intro b hb
    rw [b_and, b_0, (h k hk).2.2.2.1 b hb]
    unfold rbm
    rw [bt_mask _ (by omega) hb]
    by_cases hb24 : b < 24
    · by_cases h4 : A 8 (24 * k + b) ≠ 0
      · have : decide (0 < cnt (fun x => T x && decide (A 8 (24 * x + b) ≠ 0)) 7) = false := by
          apply decide_eq_false
          intro hp
          obtain ⟨x, hx, hxx⟩ := cnt_pos.mp hp
          rw [Bool.and_eq_true] at hxx
          have := hit_iff.mpr ⟨x, hx, hxx.1, adj_iff.mpr ⟨b, hb24, of_decide_eq_true hxx.2, h4⟩⟩
          rw [e] at this
          cases this
        rw [this]; simp
      · rw [decide_eq_false h4]; simp
    · rw [decide_eq_false hb24]; simp
theorem rb_or (h : RDj A σ) {T : Nat → Bool} {k : Nat} (hk : k < 7) : rbm A T ||| σ 15 k = rbm A (fun z => T z || decide (z = k)) := by
  apply mask_ext (by omega)
  intro b hb
  rw [b_or, (h k hk).2.2.2.1 b hb]
  unfold rbm
  rw [bt_mask _ (by omega) hb]
  by_cases hb24 : b < 24
  · rw [decide_eq_true hb24, Bool.true_and, Bool.true_and, Bool.true_and]
    apply Bool.eq_iff_iff.mpr
    rw [Bool.or_eq_true, decide_eq_true_iff, decide_eq_true_iff, decide_eq_true_iff, cnt_pos, cnt_pos]
    simp only [Bool.and_eq_true, Bool.or_eq_true, decide_eq_true_eq]
    constructor
    · rintro (⟨x, hx, h1, h2⟩ | h1)
      · exact ⟨x, hx, Or.inl h1, h2⟩
      · exact ⟨k, hk, Or.inr rfl, h1⟩
    · rintro ⟨x, hx, h1 | h1, h2⟩
      · exact Or.inl ⟨x, hx, h1, h2⟩
      · subst h1; exact Or.inr h2
  · rw [decide_eq_false hb24]; rfl
theorem rb_congr {T U : Nat → Bool} (h : ∀ x, x < 7 → T x = U x) : rbm A T = rbm A U := by
  unfold rbm
  congr 1
  funext b
  congr 2
  exact cnt_congr (fun x hx => by rw [h x hx])
theorem d_isApart (hN : 200 ≤ N) (h : RDj A σ) {j k : Nat} (hj : j < 7) (hk : k < 7) : f_X0_isApart N σ (nI j) (nI k) = some (zb (!hit A (tOut A j 7) k)) := by
  unfold f_X0_isApart
  rw [d_isJudge (by omega), Option.bind_some, decide_eq_true hj, if_neg (by decide), d_isJudge (by omega), Option.bind_some, decide_eq_true hk, if_neg (by decide), g_rd_in hj (by omega)]
  have e0 : σ 15 j = rbm A (tOut A j 0) := by
    rw [mk_mask h hj]
    unfold rbm
    congr 1
    funext b
    congr 1
    apply propext
    rw [cnt_pos]
    constructor
    · intro hb; exact ⟨j, hj, by simp [tOut, hb]⟩
    · rintro ⟨x, hx, hxx⟩
      rw [Bool.and_eq_true] at hxx
      have : x = j := of_decide_eq_true hxx.1
      subst this
      exact of_decide_eq_true hxx.2
  rw [e0]
  unfold L_X0_isApart_26
  refine lq2_seq (fun r => rbm A (tOut A j r)) (fun r => nI r) _ 7 ?_ ?_ N (by omega)
  · intro r hr rc
    unfold B_X0_isApart_26
    rw [k_7]
    simp only [n_le (show 7 < 2147483648 by omega) (show r < 2147483648 by omega)]
    rw [if_neg (by omega)]
    unfold L_X0_isApart_36
    refine lq2_seq (fun z => rbm A (tIn A (tOut A j r) z)) (fun z => nI z) _ 7 ?_ ?_ N (by omega)
    · intro z hz rc2
      unfold B_X0_isApart_36
      rw [k_7]
      simp only [n_le (show 7 < 2147483648 by omega) (show z < 2147483648 by omega)]
      rw [if_neg (by omega), g_rd_in hz (by omega)]
      simp only [rb_hit h hz, g_lt_e, nI_1]
      by_cases hh : hit A (tIn A (tOut A j r) z) z = true
      · rw [if_neg (by rw [hh]; decide), g_rd_in hz (by omega), rb_or h hz]
        congr 1
        apply rb_congr
        intro x _
        show _ = (tIn A (tOut A j r) z x || (decide (x = z) && hit A (tIn A (tOut A j r) z) z))
        rw [hh, Bool.and_true]
      · have hh' : hit A (tIn A (tOut A j r) z) z = false := by simpa using hh
        rw [if_pos hh']
        congr 1
        apply rb_congr
        intro x _
        show _ = (tIn A (tOut A j r) z x || (decide (x = z) && hit A (tIn A (tOut A j r) z) z))
        rw [hh', Bool.and_false, Bool.or_false]
    · intro rc2
      unfold B_X0_isApart_36
      rw [if_pos (by decide)]
      simp only [g_lt_e, nI_1]
      rfl
  · intro rc
    unfold B_X0_isApart_26
    rw [if_pos (by decide)]
    dsimp only
    rw [g_rd_in hk (by omega)]
    simp only [rb_hit h hk]
    cases hit A (tOut A j 7) k <;> rfl
end Apart
