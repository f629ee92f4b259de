/-! ===== what both sides stand for: a table of numbers, and what is asked of it ===== -/
abbrev AS : Type := Nat → Nat → Nat
def au (A : AS) (p i v : Nat) : AS := fun q k => if q = p ∧ k = i then v else A q k
def cnt (p : Nat → Bool) : Nat → Nat
  | 0 => 0
  | n + 1 => cnt p n + if p n then 1 else 0
def sumN (g : Nat → Nat) : Nat → Nat
  | 0 => 0
  | n + 1 => sumN g n + g n
theorem cnt_le (p : Nat → Bool) : ∀ n, cnt p n ≤ n
  | 0 => Nat.le_refl _
  | n + 1 => by
    have := cnt_le p n
    unfold cnt
    split <;> omega
theorem cnt_congr {p q : Nat → Bool} : ∀ {n : Nat}, (∀ k, k < n → p k = q k) → cnt p n = cnt q n
  | 0, _ => rfl
  | n + 1, h => by
    unfold cnt
    rw [cnt_congr (fun k hk => h k (by omega)), h n (by omega)]
theorem sumN_congr {p q : Nat → Nat} : ∀ {n : Nat}, (∀ k, k < n → p k = q k) → sumN p n = sumN q n
  | 0, _ => rfl
  | n + 1, h => by
    unfold sumN
    rw [sumN_congr (fun k hk => h k (by omega)), h n (by omega)]
theorem sumN_le {g : Nat → Nat} {c : Nat} : ∀ {n : Nat}, (∀ k, k < n → g k ≤ c) → sumN g n ≤ c * n
  | 0, _ => Nat.le_refl _
  | n + 1, h => by
    have h1 := sumN_le (n := n) (fun k hk => h k (by omega))
    have h2 := h n (by omega)
    unfold sumN
    rw [Nat.mul_succ]
    omega
/-- within RULES and not withdrawn; in; barred; marks -/
def wrl (A : AS) (b : Nat) : Bool := (decide (A 9 0 ≤ A 2 b) && decide (A 2 b ≤ A 9 1)) && (decide (A 9 2 ≤ A 3 b) && decide (A 3 b ≤ A 9 3))
def wit (A : AS) (b : Nat) : Bool := decide (A 5 b = 0) && wrl A b
def riv (A : AS) (p k : Nat) : Bool := decide (A 1 k = p) && wit A k && decide (A 4 k = 0) && decide (k < A 0 0)
def isin (A : AS) (b : Nat) : Bool := wit A b && (decide (A 4 b = 1) || decide (cnt (riv A (A 1 b)) b < A 9 4))
def inb (A : AS) (b : Nat) : Bool := decide (b < A 0 0) && isin A b
def brd (A : AS) (j b : Nat) : Bool := decide (A 6 (24 * j + b) = 1) || decide (A 7 (8 * j + A 1 b) = 1)
def mks (A : AS) (b : Nat) : Nat := cnt (fun j => decide (A 8 (24 * j + b) ≠ 0)) 7
def sms (A : AS) (b : Nat) : Nat := sumN (fun j => A 8 (24 * j + b) - 1) 7
def rlo (k : Nat) : Nat := ([0, 0, 0, 0, 0, 1, 0, 1, 1, 0, 0] : List Nat).getD k 0
def rhi (k : Nat) : Nat := ([9999, 9999, 9999, 9999, 9999, 3, 9999, 12, 12, 2, 1] : List Nat).getD k 0
/-- the table is one that can be -/
def WFb (A : AS) : Prop := A 0 0 ≤ 24 ∧ (∀ b, b < A 0 0 → A 1 b < 8 ∧ 1 ≤ A 2 b ∧ A 2 b ≤ 2000 ∧ A 3 b ≤ 400) ∧ (∀ b, A 4 b ≤ 1 ∧ A 5 b ≤ 1) ∧ (∀ b, A 0 0 ≤ b → A 4 b = 0 ∧ A 5 b = 0)
def WFj (A : AS) : Prop := (∀ i, A 6 i ≤ 1 ∧ A 7 i ≤ 1 ∧ A 8 i ≤ 101) ∧ (∀ j b, j < 7 → b < 24 → A 0 0 ≤ b → A 6 (24 * j + b) = 0 ∧ A 8 (24 * j + b) = 0) ∧ (∀ j b, j < 7 → b < A 0 0 → brd A j b = true → A 8 (24 * j + b) = 0)
def WFr (A : AS) : Prop := ∀ k, k < 11 → rlo k ≤ A 9 k ∧ A 9 k ≤ rhi k
def WFq (A : AS) : Prop := (∀ s, A 10 s ≤ 400) ∧ (∀ k, A 11 k ≤ 400) ∧ (∀ x, A 12 x ≤ 401 ∧ A 13 x ≤ 12) ∧ (∀ x i, x < 14 → i < A 13 x → A 14 (12 * x + i) < A 0 0) ∧ (∀ x i k, x < 14 → i < A 13 x → k < A 13 x → A 14 (12 * x + i) = A 14 (12 * x + k) → i = k)
def WFt (A : AS) : Prop := A 15 0 ≤ 80 ∧ ∀ i, A 16 i < 256
def WF (A : AS) : Prop := WFb A ∧ WFj A ∧ WFr A ∧ WFq A ∧ WFt A
/-- the class's cells hold the table -/
def RDt (A : AS) (σ : ZS) : Prop := σ 1 1 = nI (A 15 0) ∧ ∀ i, i < A 15 0 → σ 2 i = nI (A 16 i)
def RDr (A : AS) (σ : ZS) : Prop := ∀ k, k < 11 → σ 4 k = nI (A 9 k)
def RDb (A : AS) (σ : ZS) : Prop := σ 6 4 = nI (A 0 0) ∧ (∀ b, b < A 0 0 → σ 7 b = nI (A 1 b) ∧ σ 8 b = nI (A 2 b) ∧ σ 9 b = nI (A 3 b)) ∧ (∀ i, i < 32 → bt (σ 6 5) i = (decide (i < 24) && decide (A 4 i = 1))) ∧ (∀ i, i < 32 → bt (σ 6 6) i = (decide (i < 24) && decide (A 5 i = 1)))
def RDj (A : AS) (σ : ZS) : Prop := ∀ j, j < 7 → (∀ i, i < 32 → bt (σ 12 j) i = (decide (i < 24) && decide (A 6 (24 * j + i) = 1))) ∧ (∀ i, i < 32 → bt (σ 13 j) i = (decide (i < 8) && decide (A 7 (8 * j + i) = 1))) ∧ (∀ i, i < 32 → bt (σ 14 j) i = (decide (i < A 0 0) && brd A j i)) ∧ (∀ i, i < 32 → bt (σ 15 j) i = (decide (i < 24) && decide (A 8 (24 * j + i) ≠ 0))) ∧ (∀ b, b < 24 → A 8 (24 * j + b) ≠ 0 → σ 16 (24 * j + b) = nI (A 8 (24 * j + b) - 1))
def RDp (A : AS) (σ : ZS) (s : Nat) : Prop := σ (18 + 3 * s) 2 = nI (A 10 s) ∧ ∀ j, j < 7 → σ (19 + 3 * s) j = (if A 12 (2 * j + s) = 0 then -1 else nI (A 12 (2 * j + s) - 1)) ∧ (A 12 (2 * j + s) ≠ 0 → ∀ i, i < 12 → σ (20 + 3 * s) (12 * j + i) = if i < A 13 (2 * j + s) then nI (A 14 (12 * (2 * j + s) + i)) else -1)
def RDk (A : AS) (σ : ZS) : Prop := ∀ k, k < 3 → σ 35 k = nI (A 11 k)
def RD (A : AS) (σ : ZS) : Prop := RDt A σ ∧ RDr A σ ∧ RDb A σ ∧ RDj A σ ∧ RDp A σ 0 ∧ RDp A σ 1 ∧ RDk A σ
/-- the reference's cells hold the table -/
def RMt (A : AS) (τ : ZS) : Prop := τ 0 1 = nI (A 15 0) ∧ ∀ i, i < A 15 0 → τ 1 i = (nI (A 16 i)).toInt8.toInt32
def RMr (A : AS) (τ : ZS) : Prop := ∀ k, k < 11 → τ 2 k = nI (A 9 k)
def RMb (A : AS) (τ : ZS) : Prop := τ 0 4 = nI (A 0 0) ∧ (∀ b, b < A 0 0 → τ 4 b = nI (A 1 b) ∧ τ 5 b = nI (A 2 b) ∧ τ 6 b = nI (A 3 b)) ∧ (∀ b, b < 24 → τ 7 b = nI (A 4 b) ∧ τ 8 b = nI (A 5 b))
def RMj (A : AS) (τ : ZS) : Prop := (∀ i, i < 168 → τ 9 i = nI (A 6 i)) ∧ (∀ i, i < 56 → τ 10 i = nI (A 7 i)) ∧ (∀ j b, j < 7 → b < A 0 0 → τ 11 (24 * j + b) = if A 8 (24 * j + b) = 0 then -1 else nI (A 8 (24 * j + b) - 1))
def RMp (A : AS) (τ : ZS) : Prop := (∀ s, s < 2 → τ 12 s = nI (A 10 s)) ∧ (∀ x, x < 14 → τ 14 x = (if A 12 x = 0 then 0 else 1) ∧ (A 12 x ≠ 0 → τ 15 x = nI (A 12 x - 1) ∧ τ 16 x = nI (A 13 x) ∧ ∀ i, i < A 13 x → τ 17 (12 * x + i) = nI (A 14 (12 * x + i))))
def RMk (A : AS) (τ : ZS) : Prop := ∀ k, k < 3 → τ 13 k = nI (A 11 k)
def RM (A : AS) (τ : ZS) : Prop := RMt A τ ∧ RMr A τ ∧ RMb A τ ∧ RMj A τ ∧ RMp A τ ∧ RMk A τ
/-- places that a question may write, and that hold nothing of the table -/
def scD (p : Nat) : Bool := p == 3 || p == 5 || p == 10 || p == 17 || (decide (24 ≤ p) && decide (p ≤ 34))
def scM (p : Nat) : Bool := p == 3 || decide (18 ≤ p)
def eqD (σ σ' : ZS) : Prop := ∀ p, scD p = false → σ' p = σ p
def eqM (τ τ' : ZS) : Prop := (∀ p, scM p = false → p ≠ 0 → τ' p = τ p) ∧ τ' 0 1 = τ 0 1 ∧ τ' 0 4 = τ 0 4
theorem eqD.rf {σ : ZS} : eqD σ σ := fun _ _ => rfl
theorem eqD.tr {a b c : ZS} (h1 : eqD a b) (h2 : eqD b c) : eqD a c := fun p h => (h2 p h).trans (h1 p h)
theorem eqD.put {σ τ : ZS} (h : eqD σ τ) {p j : Nat} {x : Int32} (hp : scD p = true) : eqD σ (zu τ p j x) := by
  intro q hq
  rw [zu_q (fun e => by rw [e, hp] at hq; cases hq)]
  exact h q hq
theorem eqM.rf {σ : ZS} : eqM σ σ := ⟨fun _ _ _ => rfl, rfl, rfl⟩
theorem eqM.tr {a b c : ZS} (h1 : eqM a b) (h2 : eqM b c) : eqM a c := ⟨fun p h hp => (h2.1 p h hp).trans (h1.1 p h hp), h2.2.1.trans h1.2.1, h2.2.2.trans h1.2.2⟩
theorem eqM.put {σ τ : ZS} (h : eqM σ τ) {p j : Nat} {x : Int32} (hp : scM p = true) : eqM σ (zu τ p j x) := by
  have h0 : (0 : Nat) ≠ p := by intro e; subst e; cases hp
  refine ⟨fun q hq hq0 => ?_, ?_, ?_⟩
  · rw [zu_q (fun e => by rw [e, hp] at hq; cases hq)]
    exact h.1 q hq hq0
  · rw [zu_q h0]; exact h.2.1
  · rw [zu_q h0]; exact h.2.2
theorem eqM.put0 {σ τ : ZS} (h : eqM σ τ) {j : Nat} {x : Int32} (h1 : j ≠ 1) (h4 : j ≠ 4) : eqM σ (zu τ 0 j x) := by
  refine ⟨fun q hq hq0 => ?_, ?_, ?_⟩
  · rw [zu_q hq0]
    exact h.1 q hq hq0
  · rw [zu_i (Ne.symm h1)]; exact h.2.1
  · rw [zu_i (Ne.symm h4)]; exact h.2.2
theorem RD.eq {A : AS} {σ σ' : ZS} (h : RD A σ) (e : eqD σ σ') : RD A σ' := by
  have e1 := e 1 rfl; have e2 := e 2 rfl; have e4 := e 4 rfl; have e6 := e 6 rfl; have e7 := e 7 rfl; have e8 := e 8 rfl; have e9 := e 9 rfl
  have e12 := e 12 rfl; have e13 := e 13 rfl; have e14 := e 14 rfl; have e15 := e 15 rfl; have e16 := e 16 rfl
  have e18 := e 18 rfl; have e19 := e 19 rfl; have e20 := e 20 rfl; have e21 := e 21 rfl; have e22 := e 22 rfl; have e23 := e 23 rfl; have e35 := e 35 rfl
  obtain ⟨h1, h2, h3, h4, h5, h6, h7⟩ := h
  refine ⟨?_, ?_, ?_, ?_, ?_, ?_, ?_⟩
  · unfold RDt; rw [e1, e2]; exact h1
  · unfold RDr; rw [e4]; exact h2
  · unfold RDb; rw [e6, e7, e8, e9]; exact h3
  · unfold RDj; rw [e12, e13, e14, e15, e16]; exact h4
  · unfold RDp; rw [show σ' (18 + 3 * 0) = σ (18 + 3 * 0) from e18, show σ' (19 + 3 * 0) = σ (19 + 3 * 0) from e19, show σ' (20 + 3 * 0) = σ (20 + 3 * 0) from e20]; exact h5
  · unfold RDp; rw [show σ' (18 + 3 * 1) = σ (18 + 3 * 1) from e21, show σ' (19 + 3 * 1) = σ (19 + 3 * 1) from e22, show σ' (20 + 3 * 1) = σ (20 + 3 * 1) from e23]; exact h6
  · unfold RDk; rw [e35]; exact h7
theorem RM.eq {A : AS} {τ τ' : ZS} (h : RM A τ) (e : eqM τ τ') : RM A τ' := by
  have e1 := e.1 1 rfl (by decide); have e2 := e.1 2 rfl (by decide); have e4 := e.1 4 rfl (by decide); have e5 := e.1 5 rfl (by decide); have e6 := e.1 6 rfl (by decide); have e7 := e.1 7 rfl (by decide)
  have e8 := e.1 8 rfl (by decide); have e9 := e.1 9 rfl (by decide); have e10 := e.1 10 rfl (by decide); have e11 := e.1 11 rfl (by decide); have e12 := e.1 12 rfl (by decide); have e13 := e.1 13 rfl (by decide)
  have e14 := e.1 14 rfl (by decide); have e15 := e.1 15 rfl (by decide); have e16 := e.1 16 rfl (by decide); have e17 := e.1 17 rfl (by decide)
  obtain ⟨h1, h2, h3, h4, h5, h6⟩ := h
  refine ⟨?_, ?_, ?_, ?_, ?_, ?_⟩
  · unfold RMt; rw [e.2.1, e1]; exact h1
  · unfold RMr; rw [e2]; exact h2
  · unfold RMb; rw [e.2.2, e4, e5, e6, e7, e8]; exact h3
  · unfold RMj; rw [e9, e10, e11]; exact h4
  · unfold RMp; rw [e12, e14, e15, e16, e17]; exact h5
  · unfold RMk; rw [e13]; exact h6
