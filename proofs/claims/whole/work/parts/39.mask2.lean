/-! ===== the reference: who met, marks, thirds ===== -/
section MAsk2
variable {N : Nat} {τ : ZS} {A : AS}
theorem m_mk (h : RM A τ) {j b : Nat} (hj : j < 7) (hb : b < A 0 0) : τ 11 (24 * j + b) = if A 8 (24 * j + b) = 0 then -1 else nI (A 8 (24 * j + b) - 1) := h.2.2.2.1.2.2 j b hj hb
theorem mk_0 (hw : WF A) {j b : Nat} (hj : j < 7) (hb : b < 24) (hn : A 0 0 ≤ b) : A 8 (24 * j + b) = 0 := (hw.2.1.2.1 j b hj hb hn).2
theorem m_marks (hN : 200 ≤ N) (h : RM A τ) (hw : WF A) {b : Nat} (hb : b < A 0 0) : f_X8_marks N τ (nI b) = some (nI (mks A b)) := by
  have hnb := hw.1.1
  unfold f_X8_marks L_X8_marks_4
  refine lq2_seq (B := B_X8_marks_4 N τ (nI b) (fun y6 y7 => some y6)) (fun k => nI (cnt (fun j => decide (A 8 (24 * j + b) ≠ 0)) k)) (fun k => nI k) _ 7 ?_ ?_ N (by omega)
  · intro k hk rc
    have hm := (hw.2.1.1 (24 * k + b)).2.2
    unfold B_X8_marks_4
    rw [k_7, ile_f (by omega) (by omega) (by omega), k_24, pk_mul, nI_add, g_rd_in (by omega) (by omega), m_mk h hk hb]
    by_cases e : A 8 (24 * k + b) = 0
    · rw [if_pos e, if_pos rfl, g_lt_e, g_lt_e, nI_z, nI_1, cnt_f (by simp [e])]
    · rw [if_neg e, if_neg (by rw [n_m1 (by omega)]; exact id), g_lt_e, g_lt_e, nI_1, nI_1, cnt_t (by simp [e])]
  · intro rc
    rfl
theorem m_sum (hN : 200 ≤ N) (h : RM A τ) (hw : WF A) {b : Nat} (hb : b < A 0 0) : f_X8_sum N τ (nI b) = some (nI (sms A b)) := by
  have hnb := hw.1.1
  unfold f_X8_sum L_X8_sum_4
  refine lq2_seq (B := B_X8_sum_4 N τ (nI b) (fun y7 y8 => some y7)) (fun k => nI (sumN (fun j => A 8 (24 * j + b) - 1) k)) (fun k => nI k) _ 7 ?_ ?_ N (by omega)
  · intro k hk rc
    have hm := (hw.2.1.1 (24 * k + b)).2.2
    unfold B_X8_sum_4
    rw [k_7, ile_f (by omega) (by omega) (by omega), k_24, pk_mul, nI_add, g_rd_in (by omega) (by omega), g_rd_in (by omega) (by omega), m_mk h hk hb, show sumN (fun j => A 8 (24 * j + b) - 1) (k + 1) = sumN (fun j => A 8 (24 * j + b) - 1) k + (A 8 (24 * k + b) - 1) from rfl]
    by_cases e : A 8 (24 * k + b) = 0
    · rw [if_pos e, if_pos rfl, g_lt_e, g_lt_e, nI_z, nI_1, e]; rfl
    · rw [if_neg e, if_neg (by rw [n_m1 (by omega)]; exact id), g_lt_e, g_lt_e, nI_add, nI_1]
  · intro rc
    rfl
theorem shr_nb (hw : WF A) {j k b : Nat} (hj : j < 7) (hb : b < 24) (hn : A 0 0 ≤ b) : shr A j k b = false := by
  unfold shr
  rw [mk_0 hw hj hb hn]
  rfl
theorem smI_to (hw : WF A) {j k : Nat} (hj : j < 7) : ∀ {m : Nat}, A 0 0 ≤ m → m ≤ 24 → smI A j k m = smI A j k (A 0 0)
  | 0, h, _ => by rw [show A 0 0 = 0 by omega]
  | m + 1, h, h24 => by
    by_cases he : A 0 0 = m + 1
    · rw [he]
    · show (if shr A j k m then _ else smI A j k m) = _
      rw [shr_nb hw hj (by omega) (by omega), smI_to hw hj (m := m) (by omega) (by omega)]
      rfl
theorem m_met0 (hN : 200 ≤ N) (h : RM A τ) (hw : WF A) {j k : Nat} (hj : j < 7) (hk : k < 7) : f_X8_metOn N τ (nI j) (nI k) 0 = some (nI (cnt (shr A j k) 24)) := by
  have hnb := hw.1.1
  rw [cnt_to (n := A 0 0) hnb (fun b hb hb2 => shr_nb hw hj hb2 hb)]
  unfold f_X8_metOn L_X8_metOn_6
  refine lq2_seq (B := B_X8_metOn_6 N τ (nI j) (nI k) 0 (fun y9 y10 => some y9)) (fun b => nI (cnt (shr A j k) b)) (fun b => nI b) _ (A 0 0) ?_ ?_ N (by omega)
  · intro b hb rc
    have hm := (hw.2.1.1 (24 * j + b)).2.2
    have hm2 := (hw.2.1.1 (24 * k + b)).2.2
    unfold B_X8_metOn_6
    rw [h.2.2.1.1, ile_f (by omega) (by omega) (by omega), k_24, pk_mul, nI_add, g_rd_in (by omega) (by omega), pk_mul, nI_add, g_rd_in (by omega) (by omega), m_mk h hj hb, m_mk h hk hb]
    by_cases e : A 8 (24 * j + b) = 0
    · rw [if_pos e, if_pos rfl, g_lt_e, nI_1, cnt_f (by unfold shr; simp [e])]
    · rw [if_neg e, if_neg (by rw [n_m1 (by omega)]; exact id)]
      by_cases e2 : A 8 (24 * k + b) = 0
      · rw [if_pos e2, if_pos rfl, g_lt_e, nI_1, cnt_f (by unfold shr; simp [e2])]
      · rw [if_neg e2, if_neg (by rw [n_m1 (by omega)]; exact id), if_pos rfl, g_lt_e, g_lt_e, nI_1, nI_1, cnt_t (by unfold shr; simp [e, e2])]
  · intro rc
    unfold B_X8_metOn_6
    rw [h.2.2.1.1, ile_t (by omega) (by omega) (by omega)]
theorem m_met1 (hN : 200 ≤ N) (h : RM A τ) (hw : WF A) {j k : Nat} (hj : j < 7) (hk : k < 7) : f_X8_metOn N τ (nI j) (nI k) 1 = some (smI A j k 24) := by
  have hnb := hw.1.1
  rw [smI_to hw hj (m := 24) hnb (by omega)]
  unfold f_X8_metOn L_X8_metOn_6
  refine lq2_seq (B := B_X8_metOn_6 N τ (nI j) (nI k) 1 (fun y9 y10 => some y9)) (fun b => smI A j k b) (fun b => nI b) _ (A 0 0) ?_ ?_ N (by omega)
  · intro b hb rc
    have hm := (hw.2.1.1 (24 * j + b)).2.2
    have hm2 := (hw.2.1.1 (24 * k + b)).2.2
    unfold B_X8_metOn_6
    rw [h.2.2.1.1, ile_f (by omega) (by omega) (by omega), k_24, pk_mul, nI_add, g_rd_in (by omega) (by omega), pk_mul, nI_add, g_rd_in (by omega) (by omega), m_mk h hj hb, m_mk h hk hb, show smI A j k (b + 1) = if shr A j k b = true then smI A j k b + (nI (A 8 (24 * j + b) - 1) - nI (A 8 (24 * k + b) - 1)) else smI A j k b from rfl]
    by_cases e : A 8 (24 * j + b) = 0
    · rw [if_pos e, if_pos rfl, g_lt_e, nI_1, if_neg (by unfold shr; simp [e])]
    · rw [if_neg e, if_neg (by rw [n_m1 (by omega)]; exact id)]
      by_cases e2 : A 8 (24 * k + b) = 0
      · rw [if_pos e2, if_pos rfl, g_lt_e, nI_1, if_neg (by unfold shr; simp [e2])]
      · rw [if_neg e2, if_neg (by rw [n_m1 (by omega)]; exact id), if_neg (by decide), g_lt_e, g_lt_e, nI_1, if_pos (by unfold shr; simp [e, e2])]
  · intro rc
    unfold B_X8_metOn_6
    rw [h.2.2.1.1, ile_t (by omega) (by omega) (by omega)]
/-! the closure -/
def sY (A : AS) (x : Nat) (S : Nat → Bool) : Nat → (Nat → Bool)
  | 0 => S
  | k + 1 => fun z => sY A x S k z || (decide (z = k) && (sY A x S k x && adj A x k))
def sX (A : AS) (S : Nat → Bool) : Nat → (Nat → Bool)
  | 0 => S
  | k + 1 => sY A k (sX A S k) 7
def sR (A : AS) (j : Nat) : Nat → (Nat → Bool)
  | 0 => fun z => decide (z = j)
  | r + 1 => sX A (sR A j r) 7
theorem sY_mono {x z : Nat} {S : Nat → Bool} (h : S z = true) : ∀ k, sY A x S k z = true
  | 0 => h
  | k + 1 => by
    show (sY A x S k z || _) = true
    rw [sY_mono h k]; rfl
theorem sY_mono2 {x z : Nat} {S : Nat → Bool} : ∀ {k n : Nat}, k ≤ n → sY A x S k z = true → sY A x S n z = true := by
  intro k n hn h
  induction n with
  | zero => rw [show k = 0 by omega] at h; exact h
  | succ n ih =>
    by_cases he : k = n + 1
    · rw [← he]; exact h
    · show (sY A x S n z || _) = true
      rw [ih (by omega)]; rfl
theorem sY_step {x y : Nat} {S : Nat → Bool} (hy : y < 7) (h : S x = true) (ha : adj A x y = true) : sY A x S 7 y = true := by
  refine sY_mono2 (k := y + 1) (by omega) ?_
  show (sY A x S y y || (decide (y = y) && (sY A x S y x && adj A x y))) = true
  rw [sY_mono h y, ha]
  simp
theorem sY_mini {x : Nat} {S C : Nat → Bool} (hx : x < 7) (hc : clo A C) (hs : sub7 S C) : ∀ {k : Nat}, k ≤ 7 → sub7 (sY A x S k) C
  | 0, _ => hs
  | k + 1, hk => by
    have ih := sY_mini hx hc hs (k := k) (by omega)
    intro z hz h
    have h' : (sY A x S k z || (decide (z = k) && (sY A x S k x && adj A x k))) = true := h
    rw [Bool.or_eq_true, Bool.and_eq_true, Bool.and_eq_true, decide_eq_true_iff] at h'
    rcases h' with h' | ⟨e, h1, h2⟩
    · exact ih z hz h'
    · subst e
      exact hc x z hx hz (ih x hx h1) h2
theorem sX_mono {z : Nat} {S : Nat → Bool} (h : S z = true) : ∀ k, sX A S k z = true
  | 0 => h
  | k + 1 => sY_mono (sX_mono h k) 7
theorem sX_mono2 {z : Nat} {S : Nat → Bool} : ∀ {k n : Nat}, k ≤ n → sX A S k z = true → sX A S n z = true := by
  intro k n hn h
  induction n with
  | zero => rw [show k = 0 by omega] at h; exact h
  | succ n ih =>
    by_cases he : k = n + 1
    · rw [← he]; exact h
    · exact sY_mono (ih (by omega)) 7
theorem sX_step {x y : Nat} {S : Nat → Bool} (hx : x < 7) (hy : y < 7) (h : S x = true) (ha : adj A x y = true) : sX A S 7 y = true :=
  sX_mono2 (k := x + 1) (by omega) (sY_step hy (sX_mono h x) ha)
theorem sX_mini {S C : Nat → Bool} (hc : clo A C) (hs : sub7 S C) : ∀ {k : Nat}, k ≤ 7 → sub7 (sX A S k) C
  | 0, _ => hs
  | k + 1, hk => sY_mini (by omega) hc (sX_mini hc hs (k := k) (by omega)) (Nat.le_refl 7)
theorem sR_clo {j : Nat} (hj : j < 7) : clo A (sR A j 7) := clo_7 (S := sR A j) ⟨j, hj, by simp [sR]⟩ (fun r x _ h => sX_mono h 7) (fun r x y hx hy h ha => sX_step hx hy h ha) (fun r C hc hs => sX_mini hc hs (Nat.le_refl 7))
theorem sR_mini {j : Nat} {C : Nat → Bool} (hc : clo A C) (h : C j = true) : ∀ r, sub7 (sR A j r) C
  | 0 => fun x _ hx => by
    have : x = j := by simpa [sR] using hx
    rw [this]; exact h
  | r + 1 => sX_mini hc (sR_mini hc h r) (Nat.le_refl 7)
theorem sR_j {j : Nat} : ∀ r, sR A j r j = true
  | 0 => by simp [sR]
  | r + 1 => sX_mono (sR_j r) 7
theorem tOut_j {j : Nat} : ∀ r, tOut A j r j = true
  | 0 => by simp [tOut]
  | r + 1 => tIn_mono (tOut_j r) 7
theorem sR_hit {j k : Nat} (hj : j < 7) (hk : k < 7) (hne : j ≠ k) : sR A j 7 k = hit A (tOut A j 7) k := by
  apply Bool.eq_iff_iff.mpr
  rw [hit_iff]
  constructor
  · intro h
    have h1 := sR_mini (tOut_clo hj) (tOut_j (A := A) (j := j) 7) 7 k hk h
    refine ⟨k, hk, h1, ?_⟩
    rcases tOut_self 7 k hk h1 with e | e
    · exact absurd e.symm hne
    · exact e
  · rintro ⟨x, hx, h1, h2⟩
    exact sR_clo hj x k hx hk (tOut_mini (sR_clo hj) (sR_j 7) 7 x hx h1) h2
theorem mask_up {T U : Nat → Bool} {k : Nat} (hk : k < 7) (hU : ∀ z, z < 7 → U z = (T z || decide (z = k))) : maskN T 7 ||| bitm k = maskN U 7 := by
  apply b_ext
  intro i hi
  rw [b_or, bt_mask _ (by omega) hi, bt_mask _ (by omega) hi, bt_bitm (by omega) hi]
  by_cases h7 : i < 7
  · rw [hU i h7]; simp [h7]
  · have : i ≠ k := by omega
    simp [h7, this]
theorem mask_cg {T U : Nat → Bool} (hU : ∀ z, z < 7 → U z = T z) : maskN T 7 = maskN U 7 := by
  apply b_ext
  intro i hi
  rw [bt_mask _ (by omega) hi, bt_mask _ (by omega) hi]
  by_cases h7 : i < 7
  · rw [hU i h7]
  · simp [h7]
theorem m_apY (hN : 200 ≤ N) (h : RM A τ) (hw : WF A) {x : Nat} (hx : x < 7) {S : Nat → Bool} {u v : Int32} (K : Int32 → Int32 → Option Int32) : L_X8_areApart_27 N τ u v (nI x) K N (maskN S 7) (0 : Int32) = K (maskN (sY A x S 7) 7) (nI 7) := by
  unfold L_X8_areApart_27
  refine lq2_seq (B := B_X8_areApart_27 N τ u v (nI x) K) (fun k => maskN (sY A x S k) 7) (fun k => nI k) _ 7 ?_ ?_ N (by omega)
  · intro k hk rc
    have hcl := cnt_le (shr A x k) 24
    unfold B_X8_areApart_27
    rw [k_7, ile_f (by omega) (by omega) (by omega), bt_val _ (by omega), bt_mask _ (by omega) (by omega), decide_eq_true hx, Bool.true_and]
    cases e : sY A x S k x
    · rw [if_neg (by decide), g_lt_e, nI_1, mask_cg (U := sY A x S (k + 1)) (fun z hz => by
        show (sY A x S k z || (decide (z = k) && (sY A x S k x && adj A x k))) = _
        rw [e]; simp)]
    · rw [if_pos zb_t, m_met0 hN h hw hx hk, Option.bind_some, k_0]
      by_cases c : cnt (shr A x k) 24 ≤ 0
      · rw [ile_t (by omega) (by omega) c, g_lt_e, nI_1, mask_cg (U := sY A x S (k + 1)) (fun z hz => by
          show (sY A x S k z || (decide (z = k) && (sY A x S k x && adj A x k))) = _
          rw [show adj A x k = false from decide_eq_false (by omega)]; simp)]
      · rw [ile_f (by omega) (by omega) c, g_lt_e, g_lt_e, nI_1, show (1 : Int32) <<< (nI k &&& 31) = bitm k from rfl, mask_up (U := sY A x S (k + 1)) hk (fun z hz => by
          show (sY A x S k z || (decide (z = k) && (sY A x S k x && adj A x k))) = _
          rw [e, show adj A x k = true from decide_eq_true (by omega)]; simp)]
  · intro rc
    rfl
theorem m_apX (hN : 200 ≤ N) (h : RM A τ) (hw : WF A) {S : Nat → Bool} {u v : Int32} (K : Int32 → Int32 → Option Int32) : L_X8_areApart_17 N τ u v K N (maskN S 7) (0 : Int32) = K (maskN (sX A S 7) 7) (nI 7) := by
  unfold L_X8_areApart_17
  refine lq2_seq (B := B_X8_areApart_17 N τ u v K) (fun k => maskN (sX A S k) 7) (fun k => nI k) _ 7 ?_ ?_ N (by omega)
  · intro k hk rc
    unfold B_X8_areApart_17
    rw [k_7, ile_f (by omega) (by omega) (by omega), m_apY hN h hw hk, g_lt_e, nI_1]
    rfl
  · intro rc
    rfl
theorem m_areApart (hN : 200 ≤ N) (h : RM A τ) (hw : WF A) {j k : Nat} (hj : j < 7) (hk : k < 7) (hne : j ≠ k) : f_X8_areApart N τ (nI j) (nI k) = some (zb (!hit A (tOut A j 7) k)) := by
  unfold f_X8_areApart L_X8_areApart_7
  rw [g_lt_e, show (1 : Int32) <<< (nI j &&& 31) = maskN (sR A j 0) 7 by
    apply b_ext
    intro i hi
    rw [show (1 : Int32) <<< (nI j &&& 31) = bitm j from rfl, bt_bitm (by omega) hi, bt_mask _ (by omega) hi]
    show decide (i = j) = (decide (i < 7) && decide (i = j))
    by_cases e : i = j
    · simp [e, hj]
    · simp [e]]
  refine lq2_seq (B := B_X8_areApart_7 N τ (nI k) (fun y13 y14 => if ((y13 >>> (nI k &&& 31)) &&& (1 : Int32)) = (0 : Int32) then (some (1 : Int32)) else (some (0 : Int32)))) (fun r => maskN (sR A j r) 7) (fun r => nI r) _ 7 ?_ ?_ N (by omega)
  · intro r hr rc
    unfold B_X8_areApart_7
    rw [k_7, ile_f (by omega) (by omega) (by omega), m_apX hN h hw, g_lt_e, nI_1]
    rfl
  · intro rc
    unfold B_X8_areApart_7
    rw [k_7, ile_t (by omega) (by omega) (by omega)]
    dsimp only
    rw [bt_val _ (by omega), bt_mask _ (by omega) (by omega), decide_eq_true hk, Bool.true_and, sR_hit hj hk hne]
    cases hit A (tOut A j 7) k <;> rfl
theorem M_met (hN : 200 ≤ N) (h : RM A τ) (hw : WF A) (x y w : Int32) : f_X8_met N τ x y w = some (anMet A x y w) := by
  unfold f_X8_met anMet
  rcases ix_cases x (show 7 < 2147483648 by omega) with ⟨j, hj, rfl, ej⟩ | ⟨ho, ej⟩
  · rw [ej, m_isJudge hj, Option.bind_some, if_neg (by decide)]
    rcases ix_cases y (show 7 < 2147483648 by omega) with ⟨k, hk, rfl, ek⟩ | ⟨ho, ek⟩
    · rw [ek, m_isJudge hk, Option.bind_some, if_neg (by decide)]
      dsimp only
      by_cases hjk : j = k
      · rw [ieq_t hjk, if_pos hjk]
      · rw [ieq_f (by omega) (by omega) hjk, if_neg hjk, m_met0 hN h hw hj hk, m_met1 hN h hw hj hk, m_areApart hN h hw hj hk hjk]
        simp only [Option.bind_some]
        by_cases w0 : w = 0
        · rw [if_pos w0, if_pos w0]
        · rw [if_neg w0, if_neg w0]
          by_cases w1 : w = 1
          · rw [if_pos w1, if_pos w1]
          · rw [if_neg w1, if_neg w1]
            by_cases w2 : w = 2
            · rw [if_pos w2, if_pos w2]
              cases hit A (tOut A j 7) k <;> rfl
            · rw [if_neg w2, if_neg w2]
    · rw [ek, m_isJudge_out ho, Option.bind_some, if_pos rfl]
  · rw [ej, m_isJudge_out ho, Option.bind_some, if_pos rfl]
/-! thirds -/
theorem m1_nle {a : Nat} (ha : a < 2147483648) : ¬ nI a ≤ -1 := by
  intro x
  rw [Int32.le_iff_toInt_le, nI_toInt ha] at x
  have : (-1 : Int32).toInt = -1 := by decide
  omega
def loI (A : AS) (b k : Nat) : Int32 := if cnt (fun j => decide (A 8 (24 * j + b) ≠ 0)) k = 0 then nI 101 else nI (mlo A b k)
def hiI (A : AS) (b k : Nat) : Int32 := if cnt (fun j => decide (A 8 (24 * j + b) ≠ 0)) k = 0 then -1 else nI (mhi A b k)
theorem mlo_s (b k : Nat) : mlo A b (k + 1) = if A 8 (24 * k + b) = 0 then mlo A b k else if A 8 (24 * k + b) - 1 < mlo A b k then A 8 (24 * k + b) - 1 else mlo A b k := rfl
theorem mhi_s (b k : Nat) : mhi A b (k + 1) = if A 8 (24 * k + b) = 0 then mhi A b k else if mhi A b k < A 8 (24 * k + b) - 1 then A 8 (24 * k + b) - 1 else mhi A b k := rfl
theorem mlo_f {b : Nat} : ∀ {k : Nat}, cnt (fun j => decide (A 8 (24 * j + b) ≠ 0)) k = 0 → mlo A b k = 100 ∧ mhi A b k = 0
  | 0, _ => ⟨rfl, rfl⟩
  | k + 1, h => by
    rw [cnt_s] at h
    have h1 := mlo_f (b := b) (k := k) (by omega)
    have e : A 8 (24 * k + b) = 0 := by
      by_cases e : A 8 (24 * k + b) = 0
      · exact e
      · rw [if_pos (by simp [e])] at h; omega
    rw [mlo_s, mhi_s, if_pos e, if_pos e]
    exact h1
theorem m_third1 (hN : 200 ≤ N) (h : RM A τ) (hw : WF A) {b : Nat} (hb : b < A 0 0) : f_X8_wantsThird N τ (nI b) = some (zb (wth A b)) := by
  have hnb := hw.1.1
  have h6 := hw.2.2.1.le (k := 6) (by omega)
  unfold f_X8_wantsThird wth apd
  rw [m_isIn hN h hw hb, Option.bind_some, inb_in hb]
  cases e : isin A b
  · rw [if_pos zb_f]; rfl
  · rw [if_neg (by decide), m_marks hN h hw hb, Option.bind_some, k_2]
    have hml := mks_le A b
    by_cases e2 : mks A b = 2
    · rw [ieq_t e2, decide_eq_true e2]
      unfold L_X8_wantsThird_27
      refine lq3_seq (B := B_X8_wantsThird_27 N τ (nI b) (fun y9 y10 y11 => g_rd 11 (τ 2) (6 : Int32) (fun v12 => if (y10 - y9) ≤ v12 then (some (0 : Int32)) else (some (1 : Int32))))) (fun k => loI A b k) (fun k => hiI A b k) (fun k => nI k) _ 7 ?_ ?_ N (by omega)
      · intro k hk rc
        have hm := (hw.2.1.1 (24 * k + b)).2.2
        have l1 := mlo_le A b k
        have l2 := mhi_le A b (fun i => (hw.2.1.1 i).2.2) k
        unfold B_X8_wantsThird_27
        rw [k_7, ile_f (by omega) (by omega) (by omega), k_24, pk_mul, nI_add, g_rd_in (by omega) (by omega), m_mk h hk hb]
        by_cases e8 : A 8 (24 * k + b) = 0
        · have e1 : loI A b (k + 1) = loI A b k := by unfold loI; rw [cnt_f (by simp [e8]), mlo_s, if_pos e8]
          have e3 : hiI A b (k + 1) = hiI A b k := by unfold hiI; rw [cnt_f (by simp [e8]), mhi_s, if_pos e8]
          rw [if_pos e8, if_pos rfl, g_lt_e, nI_1, e1, e3]
        · rw [if_neg e8, if_neg (by rw [n_m1 (by omega)]; exact id)]
          have ec := cnt_t (p := fun j => decide (A 8 (24 * j + b) ≠ 0)) (k := k) (by simp [e8])
          have e1 : loI A b (k + 1) = nI (mlo A b (k + 1)) := by unfold loI; rw [ec, if_neg (by omega)]
          have e3 : hiI A b (k + 1) = nI (mhi A b (k + 1)) := by unfold hiI; rw [ec, if_neg (by omega)]
          rw [e1, e3, mlo_s, mhi_s, if_neg e8, if_neg e8]
          by_cases hz : cnt (fun j => decide (A 8 (24 * j + b) ≠ 0)) k = 0
          · have hf := mlo_f hz
            rw [hf.1, hf.2, show loI A b k = nI 101 from if_pos hz, show hiI A b k = -1 from if_pos hz, ile_f (by omega) (by omega) (by omega), if_neg (m1_nle (show A 8 (24 * k + b) - 1 < 2147483648 by omega)), g_lt_e, nI_1]
            congr 2
            · split <;> omega
            · split <;> omega
          · rw [show loI A b k = nI (mlo A b k) from if_neg hz, show hiI A b k = nI (mhi A b k) from if_neg hz]
            by_cases c1 : mlo A b k ≤ A 8 (24 * k + b) - 1
            · rw [ile_t (by omega) (by omega) c1, if_neg (show ¬ (A 8 (24 * k + b) - 1 < mlo A b k) by omega)]
              by_cases c2 : A 8 (24 * k + b) - 1 ≤ mhi A b k
              · rw [ile_t (by omega) (by omega) c2, if_neg (show ¬ (mhi A b k < A 8 (24 * k + b) - 1) by omega), g_lt_e, nI_1]
              · rw [ile_f (by omega) (by omega) c2, if_pos (show mhi A b k < A 8 (24 * k + b) - 1 by omega), g_lt_e, nI_1]
            · rw [ile_f (by omega) (by omega) c1, if_pos (show A 8 (24 * k + b) - 1 < mlo A b k by omega)]
              by_cases c2 : A 8 (24 * k + b) - 1 ≤ mhi A b k
              · rw [ile_t (by omega) (by omega) c2, if_neg (show ¬ (mhi A b k < A 8 (24 * k + b) - 1) by omega), g_lt_e, nI_1]
              · rw [ile_f (by omega) (by omega) c2, if_pos (show mhi A b k < A 8 (24 * k + b) - 1 by omega), g_lt_e, nI_1]
      · intro rc
        have l1 := mlo_le A b 7
        have l2 := mhi_le A b (fun i => (hw.2.1.1 i).2.2) 7
        have hz : ¬ cnt (fun j => decide (A 8 (24 * j + b) ≠ 0)) 7 = 0 := by unfold mks at e2; omega
        unfold B_X8_wantsThird_27
        rw [k_7, ile_t (by omega) (by omega) (by omega)]
        dsimp only
        rw [k_6, g_rd_in (by omega) (by omega), h.2.1 6 (by omega), show loI A b 7 = nI (mlo A b 7) from if_neg hz, show hiI A b 7 = nI (mhi A b 7) from if_neg hz]
        have ee : (nI (mhi A b 7) - nI (mlo A b 7) ≤ nI (A 9 6)) = (mhi A b 7 ≤ A 9 6 + mlo A b 7) := by
          apply propext
          rw [Int32.le_iff_toInt_le, pk_sub_toInt (by omega) (by omega), nI_toInt (by omega)]
          omega
        simp only [ee]
        by_cases c : mhi A b 7 ≤ A 9 6 + mlo A b 7
        · rw [if_pos c, decide_eq_false (p := A 9 6 + mlo A b 7 < mhi A b 7) (by omega)]; rfl
        · rw [if_neg c, decide_eq_true (p := A 9 6 + mlo A b 7 < mhi A b 7) (by omega)]; rfl
    · rw [ieq_f (by omega) (by omega) e2, decide_eq_false e2]; rfl
theorem wth_nb {b : Nat} (h : A 0 0 ≤ b) : wth A b = false := by
  unfold wth
  rw [inb_nb h]; rfl
theorem m_thirds (hN : 200 ≤ N) (h : RM A τ) (hw : WF A) (i : Int32) : f_X8_thirds N τ i = some (if i = -1 then nI (cnt (wth A) 24) else nthI (wth A) i) := by
  have hnb := hw.1.1
  unfold f_X8_thirds L_X8_thirds_4
  have step : ∀ k, k < A 0 0 → (wth A k && decide (nI (cnt (wth A) k) = i)) = false → ∀ rc, B_X8_thirds_4 N τ i (fun y5 y6 => if i = (-1 : Int32) then (some y5) else (some (-1 : Int32))) rc (nI (cnt (wth A) k)) (nI k) = rc (nI (cnt (wth A) (k + 1))) (nI (k + 1)) := by
    intro k hk hq rc
    unfold B_X8_thirds_4
    rw [h.2.2.1.1, ile_f (by omega) (by omega) (by omega), m_third1 hN h hw hk, Option.bind_some]
    cases e : wth A k
    · rw [if_pos zb_f, g_lt_e, nI_1, cnt_f e]
    · rw [e, Bool.true_and, decide_eq_false_iff_not] at hq
      rw [if_neg (by decide), if_neg hq, g_lt_e, g_lt_e, nI_1, nI_1, cnt_t e]
  have fin : ∀ rc, B_X8_thirds_4 N τ i (fun y5 y6 => if i = (-1 : Int32) then (some y5) else (some (-1 : Int32))) rc (nI (cnt (wth A) (A 0 0))) (nI (A 0 0)) = if i = (-1 : Int32) then (some (nI (cnt (wth A) (A 0 0)))) else (some (-1 : Int32)) := by
    intro rc
    unfold B_X8_thirds_4
    rw [h.2.2.1.1, ile_t (by omega) (by omega) (by omega)]
  have e24 := cnt_to (p := wth A) (n := A 0 0) hnb (fun k hk _ => wth_nb hk)
  by_cases hi : i = -1
  · rw [if_pos hi, e24]
    refine lq2_seq (B := B_X8_thirds_4 N τ i (fun y5 y6 => if i = (-1 : Int32) then (some y5) else (some (-1 : Int32)))) (fun k => nI (cnt (wth A) k)) (fun k => nI k) _ (A 0 0) (fun k hk rc => step k hk (by
      have := cnt_le (wth A) k
      rw [hi, decide_eq_false (by rw [n_m1 (by omega)]; exact id), Bool.and_false]) rc) (fun rc => by rw [fin, if_pos hi]) N (by omega)
  · rw [if_neg hi]
    unfold nthI
    rcases find_cases (fun b => wth A b && decide (nI (cnt (wth A) b) = i)) 24 with ⟨h1, h2⟩ | ⟨e, he, h1, h2, h3⟩
    · rw [h1]
      exact lq2_seq (B := B_X8_thirds_4 N τ i (fun y5 y6 => if i = (-1 : Int32) then (some y5) else (some (-1 : Int32)))) (fun k => nI (cnt (wth A) k)) (fun k => nI k) _ (A 0 0) (fun k hk rc => step k hk (h2 k (by omega)) rc) (fun rc => by rw [fin, if_neg hi]) N (by omega)
    · rw [h3]
      have hen : e < A 0 0 := by
        by_cases c : e < A 0 0
        · exact c
        · rw [wth_nb (by omega)] at h1; cases h1
      refine lq2_seq (B := B_X8_thirds_4 N τ i (fun y5 y6 => if i = (-1 : Int32) then (some y5) else (some (-1 : Int32)))) (fun k => nI (cnt (wth A) k)) (fun k => nI k) _ e (fun k hk rc => step k (by omega) (h2 k hk) rc) (fun rc => ?_) N (by omega)
      rw [Bool.and_eq_true, decide_eq_true_iff] at h1
      unfold B_X8_thirds_4
      rw [h.2.2.1.1, ile_f (by omega) (by omega) (by omega), m_third1 hN h hw hen, Option.bind_some, h1.1, if_neg (by decide), if_pos h1.2]
theorem nthI_neg {p : Nat → Bool} {i : Int32} (h : i < 0) : nthI p i = -1 := by
  unfold nthI
  rcases find_cases (fun b => p b && decide (nI (cnt p b) = i)) 24 with ⟨h1, h2⟩ | ⟨e, he, h1, h2, h3⟩
  · rw [h1]
  · rw [Bool.and_eq_true, decide_eq_true_iff] at h1
    have := cnt_le p e
    exact absurd h (by rw [← h1.2]; exact nI_pos (by omega))
theorem M_third (hN : 200 ≤ N) (h : RM A τ) (hw : WF A) (i : Int32) : f_X8_third N τ i = some (nthI (wth A) i) := by
  unfold f_X8_third
  by_cases h0 : i < 0
  · rw [if_neg (Int32.not_le.mpr h0), nthI_neg h0]
  · rw [if_pos (Int32.not_lt.mp h0), m_thirds hN h hw, Option.bind_some, if_neg (fun e => h0 (by rw [e]; decide))]
end MAsk2
