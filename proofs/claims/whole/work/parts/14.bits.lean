/-! ===== Integer.bitCount of a mask of 24 bits ===== -/
theorem and16 (a r m s : Nat) (hr : r < 16) (hs : s < 16) : (16 * a + r) &&& (16 * m + s) = 16 * (a &&& m) + (r &&& s) := by
  have h1 : ((16 * a + r) &&& (16 * m + s)) / 2 ^ 4 = a &&& m := by
    rw [Nat.and_div_two_pow]
    congr 1 <;> omega
  have h2 : ((16 * a + r) &&& (16 * m + s)) % 2 ^ 4 = r &&& s := by
    rw [Nat.and_mod_two_pow]
    congr 1 <;> omega
  have h3 := Nat.div_add_mod ((16 * a + r) &&& (16 * m + s)) (2 ^ 4)
  omega
theorem nib_h (a r m : Nat) (hr : r < 16) : ((16 * a + r) / 2) &&& (16 * m + 5) = 16 * ((a / 2) &&& m) + ((r / 2) &&& 5) := by
  rw [show (16 * a + r) / 2 = 16 * (a / 2) + (8 * (a % 2) + r / 2) by omega, and16 _ _ _ _ (by omega) (by omega)]
  congr 1
  have : ∀ e, e < 2 → ∀ r, r < 16 → (8 * e + r / 2) &&& 5 = (r / 2) &&& 5 := by decide
  exact this _ (by omega) r hr
theorem nib_q (a r m : Nat) (hr : r < 16) : ((16 * a + r) / 4) &&& (16 * m + 3) = 16 * ((a / 4) &&& m) + ((r / 4) &&& 3) := by
  rw [show (16 * a + r) / 4 = 16 * (a / 4) + (4 * (a % 4) + r / 4) by omega, and16 _ _ _ _ (by omega) (by omega)]
  congr 1
  have : ∀ e, e < 4 → ∀ r, r < 16 → (4 * e + r / 4) &&& 3 = (r / 4) &&& 3 := by decide
  exact this _ (by omega) r hr
def nh1 (r : Nat) : Nat := r - ((r / 2) &&& 5)
def nh2 (r : Nat) : Nat := (r &&& 3) + ((r / 4) &&& 3)
theorem nh1_le : ∀ r, r < 16 → ((r / 2) &&& 5) ≤ r ∧ nh1 r < 16 := by decide
theorem nh2_le : ∀ r, r < 16 → nh2 (nh1 r) ≤ 4 := by decide
theorem nh2_e : ∀ e0, e0 < 2 → ∀ e1, e1 < 2 → ∀ e2, e2 < 2 → ∀ e3, e3 < 2 → nh2 (nh1 (e0 + 2 * e1 + 4 * e2 + 8 * e3)) = e0 + e1 + e2 + e3 := by decide
abbrev hrn (r0 r1 r2 r3 r4 r5 : Nat) : Nat := 16 * (16 * (16 * (16 * (16 * (16 * 0 + r5) + r4) + r3) + r2) + r1) + r0
theorem sw1 {r0 r1 r2 r3 r4 r5 : Nat} (h0 : r0 < 16) (h1 : r1 < 16) (h2 : r2 < 16) (h3 : r3 < 16) (h4 : r4 < 16) (h5 : r5 < 16) : hrn r0 r1 r2 r3 r4 r5 - ((hrn r0 r1 r2 r3 r4 r5 / 2) &&& 1431655765) = hrn (nh1 r0) (nh1 r1) (nh1 r2) (nh1 r3) (nh1 r4) (nh1 r5) := by
  unfold hrn
  rw [show (1431655765 : Nat) = 16 * (16 * (16 * (16 * (16 * (16 * 85 + 5) + 5) + 5) + 5) + 5) + 5 from rfl, nib_h _ _ _ h0, nib_h _ _ _ h1, nib_h _ _ _ h2, nib_h _ _ _ h3, nib_h _ _ _ h4, nib_h _ _ _ h5]
  rw [show (0 / 2 &&& 85 : Nat) = 0 from rfl]
  have a0 := nh1_le r0 h0; have a1 := nh1_le r1 h1; have a2 := nh1_le r2 h2; have a3 := nh1_le r3 h3; have a4 := nh1_le r4 h4; have a5 := nh1_le r5 h5
  unfold nh1 at *
  omega
theorem sw2 {r0 r1 r2 r3 r4 r5 : Nat} (h0 : r0 < 16) (h1 : r1 < 16) (h2 : r2 < 16) (h3 : r3 < 16) (h4 : r4 < 16) (h5 : r5 < 16) : (hrn r0 r1 r2 r3 r4 r5 &&& 858993459) + ((hrn r0 r1 r2 r3 r4 r5 / 4) &&& 858993459) = hrn (nh2 r0) (nh2 r1) (nh2 r2) (nh2 r3) (nh2 r4) (nh2 r5) := by
  unfold hrn
  rw [show (858993459 : Nat) = 16 * (16 * (16 * (16 * (16 * (16 * 51 + 3) + 3) + 3) + 3) + 3) + 3 from rfl, nib_q _ _ _ h0, nib_q _ _ _ h1, nib_q _ _ _ h2, nib_q _ _ _ h3, nib_q _ _ _ h4, nib_q _ _ _ h5]
  rw [and16 _ _ _ _ h0 (by omega), and16 _ _ _ _ h1 (by omega), and16 _ _ _ _ h2 (by omega), and16 _ _ _ _ h3 (by omega), and16 _ _ _ _ h4 (by omega), and16 _ _ _ _ h5 (by omega)]
  rw [show (0 / 4 &&& 51 : Nat) = 0 from rfl]
  unfold nh2
  omega
theorem and15 : ∀ r, r < 16 → r &&& 15 = r := by decide
theorem sw3 {r0 r1 r2 r3 r4 r5 : Nat} (h0 : r0 ≤ 4) (h1 : r1 ≤ 4) (h2 : r2 ≤ 4) (h3 : r3 ≤ 4) (h4 : r4 ≤ 4) (h5 : r5 ≤ 4) : ((hrn r0 r1 r2 r3 r4 r5 + hrn r0 r1 r2 r3 r4 r5 / 16) &&& 252645135) = (r0 + r1) + 256 * (r2 + r3) + 65536 * (r4 + r5) := by
  rw [show hrn r0 r1 r2 r3 r4 r5 + hrn r0 r1 r2 r3 r4 r5 / 16 = 16 * (16 * (16 * (16 * (16 * (16 * 0 + r5) + (r4 + r5)) + (r3 + r4)) + (r2 + r3)) + (r1 + r2)) + (r0 + r1) by unfold hrn; omega]
  rw [show (252645135 : Nat) = 16 * (16 * (16 * (16 * (16 * (16 * 15 + 0) + 15) + 0) + 15) + 0) + 15 from rfl]
  rw [and16 _ _ _ _ (by omega) (by omega), and16 _ _ _ _ (by omega) (by omega), and16 _ _ _ _ (by omega) (by omega), and16 _ _ _ _ (by omega) (by omega), and16 _ _ _ _ (by omega) (by omega), and16 _ _ _ _ (by omega) (by omega)]
  rw [and15 (r0 + r1) (by omega), and15 (r2 + r3) (by omega), and15 (r4 + r5) (by omega)]
  simp only [Nat.and_zero, Nat.zero_and]
  omega
theorem sw4 {c0 c1 c2 n4 : Nat} (h0 : c0 ≤ 8) (h1 : c1 ≤ 8) (h2 : c2 ≤ 8) (h : c0 + 256 * c1 + 65536 * c2 = n4) : (n4 + n4 / 256 + (n4 + n4 / 256) / 65536) % 64 = c0 + c1 + c2 := by
  have a : n4 / 256 = c1 + 256 * c2 := by omega
  rw [a]
  have b : (n4 + (c1 + 256 * c2)) / 65536 = c2 := by omega
  rw [b]
  omega
theorem hrn_lt {r0 r1 r2 r3 r4 r5 : Nat} (h0 : r0 < 16) (h1 : r1 < 16) (h2 : r2 < 16) (h3 : r3 < 16) (h4 : r4 < 16) (h5 : r5 < 16) : hrn r0 r1 r2 r3 r4 r5 < 16777216 := by
  unfold hrn
  omega
theorem J_nib {N : Nat} {σ : ZS} {r0 r1 r2 r3 r4 r5 : Nat} (w0 : r0 < 16) (w1 : r1 < 16) (w2 : r2 < 16) (w3 : r3 < 16) (w4 : r4 < 16) (w5 : r5 < 16) : f_J6_bitCount_0f7a4 N σ (nI (hrn r0 r1 r2 r3 r4 r5)) = some (nI ((nh2 (nh1 r0) + nh2 (nh1 r1)) + (nh2 (nh1 r2) + nh2 (nh1 r3)) + (nh2 (nh1 r4) + nh2 (nh1 r5)))) := by
  have z0 := (nh1_le r0 w0).2; have z1 := (nh1_le r1 w1).2; have z2 := (nh1_le r2 w2).2; have z3 := (nh1_le r3 w3).2; have z4 := (nh1_le r4 w4).2; have z5 := (nh1_le r5 w5).2
  have p0 := nh2_le r0 w0; have p1 := nh2_le r1 w1; have p2 := nh2_le r2 w2; have p3 := nh2_le r3 w3; have p4 := nh2_le r4 w4; have p5 := nh2_le r5 w5
  have s1 := sw1 w0 w1 w2 w3 w4 w5
  have s2 := sw2 z0 z1 z2 z3 z4 z5
  have s3 := sw3 p0 p1 p2 p3 p4 p5
  have hb1 := hrn_lt w0 w1 w2 w3 w4 w5
  have hb2 := hrn_lt z0 z1 z2 z3 z4 z5
  have hb3 := hrn_lt (Nat.lt_of_le_of_lt p0 (by omega)) (Nat.lt_of_le_of_lt p1 (by omega)) (Nat.lt_of_le_of_lt p2 (by omega)) (Nat.lt_of_le_of_lt p3 (by omega)) (Nat.lt_of_le_of_lt p4 (by omega)) (Nat.lt_of_le_of_lt p5 (by omega))
  generalize hrn r0 r1 r2 r3 r4 r5 = n at *
  generalize hrn (nh1 r0) (nh1 r1) (nh1 r2) (nh1 r3) (nh1 r4) (nh1 r5) = n2 at *
  generalize hrn (nh2 (nh1 r0)) (nh2 (nh1 r1)) (nh2 (nh1 r2)) (nh2 (nh1 r3)) (nh2 (nh1 r4)) (nh2 (nh1 r5)) = n3 at *
  generalize c0e : nh2 (nh1 r0) + nh2 (nh1 r1) = c0 at *
  generalize c1e : nh2 (nh1 r2) + nh2 (nh1 r3) = c1 at *
  generalize c2e : nh2 (nh1 r4) + nh2 (nh1 r5) = c2 at *
  have c0l : c0 ≤ 8 := by omega
  have c1l : c1 ≤ 8 := by omega
  have c2l : c2 ≤ 8 := by omega
  clear c0e c1e c2e p0 p1 p2 p3 p4 p5 z0 z1 z2 z3 z4 z5 w0 w1 w2 w3 w4 w5
  obtain ⟨n4, h4⟩ : ∃ n4, c0 + 256 * c1 + 65536 * c2 = n4 := ⟨_, rfl⟩
  have h64 := sw4 c0l c1l c2l h4
  have l4 : n4 < 16777216 := by omega
  rw [h4] at s3
  have l5 : n4 + n4 / 256 < 33554432 := by omega
  clear h4 c0l c1l c2l
  unfold f_J6_bitCount_0f7a4
  simp only [g_lt_e]
  have le1 : (n / 2 &&& 1431655765) ≤ n := Nat.le_trans Nat.and_le_left (Nat.div_le_self _ _)
  rw [pk_ushrN (Nat.lt_trans hb1 (by decide)) (1 : Int32) 1 (by decide), show (1431655765 : Int32) = nI 1431655765 from rfl, nx_and, show (2 : Nat) ^ 1 = 2 from rfl, pk_sub le1, s1]
  rw [pk_ushrN (Nat.lt_trans hb2 (by decide)) (2 : Int32) 2 (by decide), show (858993459 : Int32) = nI 858993459 from rfl, nx_and, nx_and, show (2 : Nat) ^ 2 = 4 from rfl, nI_add, s2]
  rw [pk_ushrN (Nat.lt_trans hb3 (by decide)) (4 : Int32) 4 (by decide), show (252645135 : Int32) = nI 252645135 from rfl, show (2 : Nat) ^ 4 = 16 from rfl, nI_add, nx_and, s3]
  rw [pk_ushrN (Nat.lt_trans l4 (by decide)) (8 : Int32) 8 (by decide), show (2 : Nat) ^ 8 = 256 from rfl, nI_add]
  rw [pk_ushrN (Nat.lt_trans l5 (by decide)) (16 : Int32) 16 (by decide), show (2 : Nat) ^ 16 = 65536 from rfl, nI_add]
  rw [show (63 : Int32) = nI (2 ^ 6 - 1) from rfl, nx_and, Nat.and_two_pow_sub_one_eq_mod, show (2 : Nat) ^ 6 = 64 from rfl, h64]
theorem nib_lt {a b c d : Nat} (h0 : a < 2) (h1 : b < 2) (h2 : c < 2) (h3 : d < 2) : a + 2 * b + 4 * c + 8 * d < 16 := by omega
theorem J_bits {N : Nat} {σ : ZS} {e : Nat → Nat} (he : ∀ i, e i < 2) : f_J6_bitCount_0f7a4 N σ (nI (hrn (e 0 + 2 * e 1 + 4 * e 2 + 8 * e 3) (e 4 + 2 * e 5 + 4 * e 6 + 8 * e 7) (e 8 + 2 * e 9 + 4 * e 10 + 8 * e 11) (e 12 + 2 * e 13 + 4 * e 14 + 8 * e 15) (e 16 + 2 * e 17 + 4 * e 18 + 8 * e 19) (e 20 + 2 * e 21 + 4 * e 22 + 8 * e 23))) = some (nI (sumN e 24)) := by
  rw [J_nib (nib_lt (he _) (he _) (he _) (he _)) (nib_lt (he _) (he _) (he _) (he _)) (nib_lt (he _) (he _) (he _) (he _)) (nib_lt (he _) (he _) (he _) (he _)) (nib_lt (he _) (he _) (he _) (he _)) (nib_lt (he _) (he _) (he _) (he _))]
  rw [nh2_e _ (he _) _ (he _) _ (he _) _ (he _), nh2_e _ (he _) _ (he _) _ (he _) _ (he _), nh2_e _ (he _) _ (he _) _ (he _) _ (he _), nh2_e _ (he _) _ (he _) _ (he _) _ (he _), nh2_e _ (he _) _ (he _) _ (he _) _ (he _), nh2_e _ (he _) _ (he _) _ (he _) _ (he _)]
  congr 2
  simp only [sumN]
  omega
def mN (p : Nat → Bool) (n : Nat) : Nat := sumN (fun i => 2 ^ i * (if p i then 1 else 0)) n
theorem mN_s (p : Nat → Bool) (n : Nat) : mN p (n + 1) = mN p n + if p n then 2 ^ n else 0 := by
  show mN p n + 2 ^ n * (if p n then 1 else 0) = _
  split <;> simp
theorem mN_lt (p : Nat → Bool) : ∀ n, mN p n < 2 ^ n
  | 0 => by simp [mN, sumN]
  | n + 1 => by
    have := mN_lt p n
    rw [mN_s, Nat.pow_succ]
    split <;> omega
theorem bt_mN (p : Nat → Bool) : ∀ {n : Nat}, ∀ {i : Nat}, (mN p n).testBit i = (decide (i < n) && p i)
  | 0, i => by simp [mN, sumN]
  | n + 1, i => by
    have ih := bt_mN p (n := n) (i := i)
    have hl := mN_lt p n
    rw [mN_s]
    by_cases hp : p n = true
    · rw [if_pos hp, Nat.add_comm]
      rcases Nat.lt_trichotomy i n with h | h | h
      · rw [Nat.testBit_two_pow_add_gt h, ih, decide_eq_true h, decide_eq_true (show i < n + 1 by omega)]
      · subst h
        rw [Nat.testBit_two_pow_add_eq, Nat.testBit_lt_two_pow hl, hp]
        simp
      · rw [Nat.testBit_lt_two_pow, decide_eq_false (by omega)]
        · rfl
        · have : 2 ^ (n + 1) ≤ 2 ^ i := Nat.pow_le_pow_right (by omega) (by omega)
          rw [Nat.pow_succ] at this
          omega
    · rw [if_neg hp, Nat.add_zero, ih]
      by_cases h : i = n
      · subst h; simp [hp]
      · have h1 : (decide (i < n + 1)) = decide (i < n) := by apply decide_eq_decide.mpr; omega
        rw [h1]
theorem mask_nI {p : Nat → Bool} {n : Nat} (hn : n ≤ 32) : maskN p n = nI (mN p n) := (mask_ext hn (fun i hi => by rw [bt_nI _ _ hi, bt_mN])).symm
theorem cnt_sum (p : Nat → Bool) : ∀ n, cnt p n = sumN (fun i => if p i then 1 else 0) n
  | 0 => rfl
  | n + 1 => by
    show cnt p n + _ = sumN _ n + _
    rw [cnt_sum p n]
theorem d_bitCount {N : Nat} {σ : ZS} {p : Nat → Bool} : f_J6_bitCount_0f7a4 N σ (maskN p 24) = some (nI (cnt p 24)) := by
  have h := J_bits (N := N) (σ := σ) (e := fun i => if p i then 1 else 0) (fun i => by split <;> omega)
  rw [← cnt_sum] at h
  rw [mask_nI (by omega), ← h]
  congr 2
  simp only [mN, sumN, hrn, Nat.reducePow]
  clear h
  omega
