/-! ===== Int32 by its bits (pasted family) ===== -/
def bt (x : Int32) (i : Nat) : Bool := x.toBitVec.getLsbD i
theorem b_ext {x y : Int32} (h : ∀ i, i < 32 → bt x i = bt y i) : x = y := Int32.toBitVec_inj.mp (BitVec.eq_of_getLsbD_eq (fun i hi => h i hi))
theorem b_or (x y : Int32) (i : Nat) : bt (x ||| y) i = (bt x i || bt y i) := by unfold bt; rw [Int32.toBitVec_or, BitVec.getLsbD_or]
theorem b_and (x y : Int32) (i : Nat) : bt (x &&& y) i = (bt x i && bt y i) := by unfold bt; rw [Int32.toBitVec_and, BitVec.getLsbD_and]
theorem b_xor (x y : Int32) (i : Nat) : bt (x ^^^ y) i = (bt x i ^^ bt y i) := by unfold bt; rw [Int32.toBitVec_xor, BitVec.getLsbD_xor]
theorem b_big {x : Int32} {i : Nat} (h : 32 ≤ i) : bt x i = false := BitVec.getLsbD_of_ge _ _ h
theorem b_255 (i : Nat) : bt 255 i = decide (i < 8) := by
  rcases Nat.lt_or_ge i 32 with h | h
  · exact (by decide +kernel : ∀ i, i < 32 → bt 255 i = decide (i < 8)) i h
  · rw [b_big h, decide_eq_false (by omega)]
theorem b_65535 (i : Nat) : bt 65535 i = decide (i < 16) := by
  rcases Nat.lt_or_ge i 32 with h | h
  · exact (by decide +kernel : ∀ i, i < 32 → bt 65535 i = decide (i < 16)) i h
  · rw [b_big h, decide_eq_false (by omega)]
theorem b_m1 : ∀ i, i < 32 → bt (-1) i = true := by decide +kernel
theorem b_0 (i : Nat) : bt 0 i = false := BitVec.getLsbD_zero
theorem s_l : ∀ n, n < 32 → ((nI n &&& 31).toBitVec.smod 32).toNat = n := by decide +kernel
theorem s_u : ∀ n, n < 32 → (((nI n).toUInt32 &&& Int32.toUInt32 31).toBitVec % 32).toNat = n := by decide +kernel
theorem b_shl (n : Nat) (hn : n < 32) (x : Int32) {i : Nat} (hi : i < 32) : bt (x <<< (nI n &&& 31)) i = (decide (n ≤ i) && bt x (i - n)) := by
  unfold bt
  rw [Int32.toBitVec_shiftLeft]
  show (x.toBitVec <<< ((nI n &&& 31).toBitVec.smod 32).toNat).getLsbD i = _
  rw [s_l n hn, BitVec.getLsbD_shiftLeft]
  rcases Nat.lt_or_ge i n with h | h
  · simp [h, Nat.not_le.mpr h]
  · simp [hi, h, Nat.not_lt.mpr h]
theorem b_ushr (n : Nat) (hn : n < 32) (x : Int32) (i : Nat) : bt ((x.toUInt32 >>> ((nI n).toUInt32 &&& Int32.toUInt32 31)).toInt32) i = bt x (n + i) := by
  show (x.toUInt32 >>> ((nI n).toUInt32 &&& Int32.toUInt32 31)).toBitVec.getLsbD i = x.toUInt32.toBitVec.getLsbD (n + i)
  rw [UInt32.toBitVec_shiftRight]
  show (x.toUInt32.toBitVec >>> (((nI n).toUInt32 &&& Int32.toUInt32 31).toBitVec % 32).toNat).getLsbD i = _
  rw [s_u n hn, BitVec.getLsbD_ushiftRight]
theorem b_sshr (n : Nat) (hn : n < 32) (x : Int32) {i : Nat} (hi : i < 32) : bt (x >>> (nI n &&& 31)) i = if n + i < 32 then bt x (n + i) else bt x 31 := by
  unfold bt
  rw [Int32.toBitVec_shiftRight]
  show (x.toBitVec.sshiftRight ((nI n &&& 31).toBitVec.smod 32).toNat).getLsbD i = _
  rw [s_l n hn, BitVec.getLsbD_sshiftRight, BitVec.msb_eq_getLsbD_last]
  simp [hi]
theorem nx_and (a b : Nat) : nI a &&& nI b = nI (a &&& b) := by
  apply Int32.toBitVec_inj.1
  show BitVec.ofNat 32 a &&& BitVec.ofNat 32 b = BitVec.ofNat 32 (a &&& b)
  apply BitVec.eq_of_getLsbD_eq
  intro i hi
  simp [hi]
theorem nx_xor (a b : Nat) : nI a ^^^ nI b = nI (a ^^^ b) := by
  apply Int32.toBitVec_inj.1
  show BitVec.ofNat 32 a ^^^ BitVec.ofNat 32 b = BitVec.ofNat 32 (a ^^^ b)
  apply BitVec.eq_of_getLsbD_eq
  intro i hi
  simp [hi]
/-! ===== loops that run e times: their states in a row ===== -/
theorem lq1_seq {A1 R0 : Type} {B : (A1 → Option R0) → A1 → Option R0} (s1 : Nat → A1) (r : Option R0) (e : Nat) (hs : ∀ k, k < e → ∀ rc, B rc (s1 k) = rc (s1 (k + 1))) (he : ∀ rc, B rc (s1 e) = r) : ∀ n, e < n → lq1 B n (s1 0) = r := by
  have key : ∀ d k n, k + d = e → d < n → lq1 B n (s1 k) = r := by
    intro d
    induction d with
    | zero =>
      intro k n hk hn
      obtain ⟨n, rfl⟩ : ∃ z, n = z + 1 := ⟨n - 1, by omega⟩
      have hk : k = e := by omega
      subst hk
      exact he _
    | succ d ih =>
      intro k n hk hn
      obtain ⟨n, rfl⟩ : ∃ z, n = z + 1 := ⟨n - 1, by omega⟩
      show B (lq1 B n) (s1 k) = r
      rw [hs k (by omega)]
      exact ih (k + 1) n (by omega) (by omega)
  intro n hn
  exact key e 0 n (by omega) hn
theorem lq2_seq {A1 A2 R0 : Type} {B : (A1 → A2 → Option R0) → A1 → A2 → Option R0} (s1 : Nat → A1) (s2 : Nat → A2) (r : Option R0) (e : Nat) (hs : ∀ k, k < e → ∀ rc, B rc (s1 k) (s2 k) = rc (s1 (k + 1)) (s2 (k + 1))) (he : ∀ rc, B rc (s1 e) (s2 e) = r) : ∀ n, e < n → lq2 B n (s1 0) (s2 0) = r := by
  have key : ∀ d k n, k + d = e → d < n → lq2 B n (s1 k) (s2 k) = r := by
    intro d
    induction d with
    | zero =>
      intro k n hk hn
      obtain ⟨n, rfl⟩ : ∃ z, n = z + 1 := ⟨n - 1, by omega⟩
      have hk : k = e := by omega
      subst hk
      exact he _
    | succ d ih =>
      intro k n hk hn
      obtain ⟨n, rfl⟩ : ∃ z, n = z + 1 := ⟨n - 1, by omega⟩
      show B (lq2 B n) (s1 k) (s2 k) = r
      rw [hs k (by omega)]
      exact ih (k + 1) n (by omega) (by omega)
  intro n hn
  exact key e 0 n (by omega) hn
theorem lq3_seq {A1 A2 A3 R0 : Type} {B : (A1 → A2 → A3 → Option R0) → A1 → A2 → A3 → Option R0} (s1 : Nat → A1) (s2 : Nat → A2) (s3 : Nat → A3) (r : Option R0) (e : Nat) (hs : ∀ k, k < e → ∀ rc, B rc (s1 k) (s2 k) (s3 k) = rc (s1 (k + 1)) (s2 (k + 1)) (s3 (k + 1))) (he : ∀ rc, B rc (s1 e) (s2 e) (s3 e) = r) : ∀ n, e < n → lq3 B n (s1 0) (s2 0) (s3 0) = r := by
  have key : ∀ d k n, k + d = e → d < n → lq3 B n (s1 k) (s2 k) (s3 k) = r := by
    intro d
    induction d with
    | zero =>
      intro k n hk hn
      obtain ⟨n, rfl⟩ : ∃ z, n = z + 1 := ⟨n - 1, by omega⟩
      have hk : k = e := by omega
      subst hk
      exact he _
    | succ d ih =>
      intro k n hk hn
      obtain ⟨n, rfl⟩ : ∃ z, n = z + 1 := ⟨n - 1, by omega⟩
      show B (lq3 B n) (s1 k) (s2 k) (s3 k) = r
      rw [hs k (by omega)]
      exact ih (k + 1) n (by omega) (by omega)
  intro n hn
  exact key e 0 n (by omega) hn
theorem lq4_seq {A1 A2 A3 A4 R0 : Type} {B : (A1 → A2 → A3 → A4 → Option R0) → A1 → A2 → A3 → A4 → Option R0} (s1 : Nat → A1) (s2 : Nat → A2) (s3 : Nat → A3) (s4 : Nat → A4) (r : Option R0) (e : Nat) (hs : ∀ k, k < e → ∀ rc, B rc (s1 k) (s2 k) (s3 k) (s4 k) = rc (s1 (k + 1)) (s2 (k + 1)) (s3 (k + 1)) (s4 (k + 1))) (he : ∀ rc, B rc (s1 e) (s2 e) (s3 e) (s4 e) = r) : ∀ n, e < n → lq4 B n (s1 0) (s2 0) (s3 0) (s4 0) = r := by
  have key : ∀ d k n, k + d = e → d < n → lq4 B n (s1 k) (s2 k) (s3 k) (s4 k) = r := by
    intro d
    induction d with
    | zero =>
      intro k n hk hn
      obtain ⟨n, rfl⟩ : ∃ z, n = z + 1 := ⟨n - 1, by omega⟩
      have hk : k = e := by omega
      subst hk
      exact he _
    | succ d ih =>
      intro k n hk hn
      obtain ⟨n, rfl⟩ : ∃ z, n = z + 1 := ⟨n - 1, by omega⟩
      show B (lq4 B n) (s1 k) (s2 k) (s3 k) (s4 k) = r
      rw [hs k (by omega)]
      exact ih (k + 1) n (by omega) (by omega)
  intro n hn
  exact key e 0 n (by omega) hn
theorem lq5_seq {A1 A2 A3 A4 A5 R0 : Type} {B : (A1 → A2 → A3 → A4 → A5 → Option R0) → A1 → A2 → A3 → A4 → A5 → Option R0} (s1 : Nat → A1) (s2 : Nat → A2) (s3 : Nat → A3) (s4 : Nat → A4) (s5 : Nat → A5) (r : Option R0) (e : Nat) (hs : ∀ k, k < e → ∀ rc, B rc (s1 k) (s2 k) (s3 k) (s4 k) (s5 k) = rc (s1 (k + 1)) (s2 (k + 1)) (s3 (k + 1)) (s4 (k + 1)) (s5 (k + 1))) (he : ∀ rc, B rc (s1 e) (s2 e) (s3 e) (s4 e) (s5 e) = r) : ∀ n, e < n → lq5 B n (s1 0) (s2 0) (s3 0) (s4 0) (s5 0) = r := by
  have key : ∀ d k n, k + d = e → d < n → lq5 B n (s1 k) (s2 k) (s3 k) (s4 k) (s5 k) = r := by
    intro d
    induction d with
    | zero =>
      intro k n hk hn
      obtain ⟨n, rfl⟩ : ∃ z, n = z + 1 := ⟨n - 1, by omega⟩
      have hk : k = e := by omega
      subst hk
      exact he _
    | succ d ih =>
      intro k n hk hn
      obtain ⟨n, rfl⟩ : ∃ z, n = z + 1 := ⟨n - 1, by omega⟩
      show B (lq5 B n) (s1 k) (s2 k) (s3 k) (s4 k) (s5 k) = r
      rw [hs k (by omega)]
      exact ih (k + 1) n (by omega) (by omega)
  intro n hn
  exact key e 0 n (by omega) hn
theorem lq6_seq {A1 A2 A3 A4 A5 A6 R0 : Type} {B : (A1 → A2 → A3 → A4 → A5 → A6 → Option R0) → A1 → A2 → A3 → A4 → A5 → A6 → Option R0} (s1 : Nat → A1) (s2 : Nat → A2) (s3 : Nat → A3) (s4 : Nat → A4) (s5 : Nat → A5) (s6 : Nat → A6) (r : Option R0) (e : Nat) (hs : ∀ k, k < e → ∀ rc, B rc (s1 k) (s2 k) (s3 k) (s4 k) (s5 k) (s6 k) = rc (s1 (k + 1)) (s2 (k + 1)) (s3 (k + 1)) (s4 (k + 1)) (s5 (k + 1)) (s6 (k + 1))) (he : ∀ rc, B rc (s1 e) (s2 e) (s3 e) (s4 e) (s5 e) (s6 e) = r) : ∀ n, e < n → lq6 B n (s1 0) (s2 0) (s3 0) (s4 0) (s5 0) (s6 0) = r := by
  have key : ∀ d k n, k + d = e → d < n → lq6 B n (s1 k) (s2 k) (s3 k) (s4 k) (s5 k) (s6 k) = r := by
    intro d
    induction d with
    | zero =>
      intro k n hk hn
      obtain ⟨n, rfl⟩ : ∃ z, n = z + 1 := ⟨n - 1, by omega⟩
      have hk : k = e := by omega
      subst hk
      exact he _
    | succ d ih =>
      intro k n hk hn
      obtain ⟨n, rfl⟩ : ∃ z, n = z + 1 := ⟨n - 1, by omega⟩
      show B (lq6 B n) (s1 k) (s2 k) (s3 k) (s4 k) (s5 k) (s6 k) = r
      rw [hs k (by omega)]
      exact ih (k + 1) n (by omega) (by omega)
  intro n hn
  exact key e 0 n (by omega) hn
theorem lq7_seq {A1 A2 A3 A4 A5 A6 A7 R0 : Type} {B : (A1 → A2 → A3 → A4 → A5 → A6 → A7 → Option R0) → A1 → A2 → A3 → A4 → A5 → A6 → A7 → Option R0} (s1 : Nat → A1) (s2 : Nat → A2) (s3 : Nat → A3) (s4 : Nat → A4) (s5 : Nat → A5) (s6 : Nat → A6) (s7 : Nat → A7) (r : Option R0) (e : Nat) (hs : ∀ k, k < e → ∀ rc, B rc (s1 k) (s2 k) (s3 k) (s4 k) (s5 k) (s6 k) (s7 k) = rc (s1 (k + 1)) (s2 (k + 1)) (s3 (k + 1)) (s4 (k + 1)) (s5 (k + 1)) (s6 (k + 1)) (s7 (k + 1))) (he : ∀ rc, B rc (s1 e) (s2 e) (s3 e) (s4 e) (s5 e) (s6 e) (s7 e) = r) : ∀ n, e < n → lq7 B n (s1 0) (s2 0) (s3 0) (s4 0) (s5 0) (s6 0) (s7 0) = r := by
  have key : ∀ d k n, k + d = e → d < n → lq7 B n (s1 k) (s2 k) (s3 k) (s4 k) (s5 k) (s6 k) (s7 k) = r := by
    intro d
    induction d with
    | zero =>
      intro k n hk hn
      obtain ⟨n, rfl⟩ : ∃ z, n = z + 1 := ⟨n - 1, by omega⟩
      have hk : k = e := by omega
      subst hk
      exact he _
    | succ d ih =>
      intro k n hk hn
      obtain ⟨n, rfl⟩ : ∃ z, n = z + 1 := ⟨n - 1, by omega⟩
      show B (lq7 B n) (s1 k) (s2 k) (s3 k) (s4 k) (s5 k) (s6 k) (s7 k) = r
      rw [hs k (by omega)]
      exact ih (k + 1) n (by omega) (by omega)
  intro n hn
  exact key e 0 n (by omega) hn
/-! ===== numbers ===== -/
theorem n_le {a b : Nat} (ha : a < 2147483648) (hb : b < 2147483648) : (nI a ≤ nI b) = (a ≤ b) := propext (nI_leI ha hb)
theorem n_lt {a b : Nat} (ha : a < 2147483648) (hb : b < 2147483648) : (nI a < nI b) = (a < b) := propext (nI_ltI ha hb)
theorem n_eq {a b : Nat} (ha : a < 2147483648) (hb : b < 2147483648) : (nI a = nI b) = (a = b) := propext (nI_eq ha hb)
theorem n_cl {a : Nat} (ha : a < 2147483648) : (nI a).toNatClampNeg = a := nI_clamp ha
theorem n_neg {a : Nat} (ha : a < 2147483648) : (nI a < 0) = False := eq_false (nI_pos ha)
theorem n_m1 {a : Nat} (ha : a < 2147483648) : (nI a = -1) = False := eq_false (fun h => nI_pos ha (by rw [h]; decide))
theorem n_m1' {a : Nat} (ha : a < 2147483648) : ((-1 : Int32) = nI a) = False := eq_false (fun h => nI_pos ha (by rw [← h]; decide))
theorem n_T {a : Nat} (ha : a < 2147483648) : (nI a).toInt = (a : Int) := nI_toInt ha
theorem n_in {i len : Nat} (h : i < len) (hl : len < 2147483648) : ¬ (nI i < 0 ∨ len ≤ (nI i).toNatClampNeg) := nI_in h hl
theorem g_rd_in {R0 : Type} {len i : Nat} {f : Nat → Int32} {K : Int32 → Option R0} (h : i < len) (hl : len < 2147483648) : g_rd len f (nI i) K = K (f i) := by
  unfold g_rd
  rw [if_neg (n_in h hl), n_cl (by omega)]
theorem g_wr_in {R0 : Type} {len i : Nat} {σ : ZS} {p : Nat} {x : Int32} {K : ZS → Option R0} (h : i < len) (hl : len < 2147483648) : g_wr len σ p (nI i) x K = K (zu σ p i x) := by
  unfold g_wr
  rw [if_neg (n_in h hl), n_cl (by omega)]
theorem zu_p {σ : ZS} {p j : Nat} {x : Int32} : zu σ p j x p j = x := by simp [zu, upd]
theorem zu_i {σ : ZS} {p j i : Nat} {x : Int32} (h : i ≠ j) : zu σ p j x p i = σ p i := by simp [zu, upd, h]
theorem zu_q {σ : ZS} {p q j : Nat} {x : Int32} (h : q ≠ p) : zu σ p j x q = σ q := by simp [zu, h]
theorem zu_e {σ : ZS} {p q j i : Nat} {x : Int32} : zu σ p j x q i = if q = p ∧ i = j then x else σ q i := by
  by_cases h : q = p
  · subst h
    by_cases hi : i = j
    · subst hi; simp [zu, upd]
    · simp [zu, upd, hi]
  · simp [zu, h]
/-! ===== bits of a mask ===== -/
theorem bt_contains (x : Int32) {i : Nat} (hi : i < 32) : (((x >>> (nI i &&& 31)) &&& (1 : Int32)) = 0) = (bt x i = false) := by
  apply propext
  have h1 : ∀ k, k < 32 → bt (1 : Int32) k = decide (k = 0) := by decide +kernel
  constructor
  · intro h
    have := congrArg (fun z => bt z 0) h
    simp only [b_and, b_0] at this
    rw [b_sshr i hi x (by omega), h1 0 (by omega)] at this
    simpa [hi] using this
  · intro h
    apply b_ext
    intro k hk
    rw [b_and, b_0, h1 k hk]
    by_cases hk0 : k = 0
    · subst hk0
      rw [b_sshr i hi x (by omega), if_pos (by omega)]
      simp [h]
    · simp [hk0]
theorem bt_bit {i : Nat} (hi : i < 32) {k : Nat} (hk : k < 32) : bt ((1 : Int32) <<< (nI i &&& 31)) k = decide (k = i) := by
  have h1 : ∀ k, k < 32 → bt (1 : Int32) k = decide (k = 0) := by decide +kernel
  rw [b_shl i hi _ hk]
  by_cases h : i ≤ k
  · rw [h1 (k - i) (by omega)]
    simp only [h, decide_true, Bool.true_and]
    congr 1
    apply propext
    omega
  · simp only [h, decide_false, Bool.false_and]
    exact (decide_eq_false (by omega)).symm
theorem bt_not {x : Int32} {k : Nat} (hk : k < 32) : bt (x ^^^ (-1)) k = !bt x k := by
  rw [b_xor, b_m1 k hk]
  cases bt x k <;> rfl
theorem bt_nI (m i : Nat) (hi : i < 32) : bt (nI m) i = m.testBit i := by
  show (BitVec.ofNat 32 m).getLsbD i = _
  rw [BitVec.getLsbD_ofNat]
  simp [hi]
