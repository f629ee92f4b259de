/-! ===== values of books as whole numbers; points; the order by values and ties ===== -/
def iI (z : Int) : Int32 := Int32.ofInt z
theorem iI_T {z : Int} (h1 : -1000000 ≤ z) (h2 : z ≤ 1000000) : (iI z).toInt = z := Int32.toInt_ofInt_of_le (by omega) (by omega)
theorem iI_nI (n : Nat) : iI (n : Int) = nI n := Int32.ofInt_eq_ofNat
theorem iI_add (a b : Int) : iI a + iI b = iI (a + b) := by
  apply Int32.toBitVec_inj.mp
  show BitVec.ofInt 32 a + BitVec.ofInt 32 b = BitVec.ofInt 32 (a + b)
  rw [BitVec.ofInt_add]
theorem iI_mul (a b : Int) : iI a * iI b = iI (a * b) := by
  apply Int32.toBitVec_inj.mp
  show BitVec.ofInt 32 a * BitVec.ofInt 32 b = BitVec.ofInt 32 (a * b)
  rw [BitVec.ofInt_mul]
theorem iI_neg (a : Int) : -iI a = iI (-a) := Int32.neg_ofInt
theorem iI_sub (a b : Int) : iI a - iI b = iI (a - b) := by
  rw [Int32.sub_eq_add_neg, iI_neg, iI_add, Int.sub_eq_add_neg]
def sumI (g : Nat → Int) : Nat → Int
  | 0 => 0
  | n + 1 => sumI g n + g n
theorem sumI_bd {g : Nat → Int} {c : Int} : ∀ {n : Nat}, (∀ k, k < n → -c ≤ g k ∧ g k ≤ c) → -(c * n) ≤ sumI g n ∧ sumI g n ≤ c * n
  | 0, _ => by simp [sumI]
  | n + 1, h => by
    have h1 := sumI_bd (n := n) (fun k hk => h k (by omega))
    have h2 := h n (by omega)
    have e : c * ((n + 1 : Nat) : Int) = c * n + c := by rw [Int.natCast_succ, Int.mul_add, Int.mul_one]
    show -(c * ((n + 1 : Nat) : Int)) ≤ sumI g n + g n ∧ sumI g n + g n ≤ c * ((n + 1 : Nat) : Int)
    rw [e]
    omega
theorem sumI_congr {p q : Nat → Int} : ∀ {n : Nat}, (∀ k, k < n → p k = q k) → sumI p n = sumI q n
  | 0, _ => rfl
  | n + 1, h => by
    show sumI p n + p n = sumI q n + q n
    rw [sumI_congr (fun k hk => h k (by omega)), h n (by omega)]
def ptj (A : AS) (s : Nat) (T : Nat → Bool) (b j : Nat) : Int := if plc A s T j b < 24 then (cnt T 24 : Int) - plc A s T j b else 0
def vP (A : AS) (s : Nat) (T : Nat → Bool) (b : Nat) : Int := sumI (ptj A s T b) 7
theorem vP_bd (A : AS) (s : Nat) (T : Nat → Bool) (b : Nat) : -1000 ≤ vP A s T b ∧ vP A s T b ≤ 1000 := by
  have hc := cnt_le24 T
  have := sumI_bd (g := ptj A s T b) (c := 24) (n := 7) (fun j _ => by
    have := plc_le A s T j b
    unfold ptj
    split <;> omega)
  unfold vP
  omega
section Points
variable {N : Nat} {σ : ZS} {A : AS} {T : Nat → Bool} {s : Nat} {c : Bool}
theorem d_points (hN : 200 ≤ N) (hw : WFq A) (hs : s < 2) (hT : ∀ b, T b = true → b < 24) (h : TL A s T c σ) : f_X5_valueByPoints N σ = some (fl σ 28 (fun b => iI (vP A s T b)) 24) := by
  have hc24 := cnt_le24 T
  unfold f_X5_valueByPoints
  rw [h.1, d_bitCount, Option.bind_some]
  unfold L_X5_valueByPoints_10
  refine Eq.trans (congrArg (lq2 _ N 0) (fl_0 (p := 28) (g := fun _ => 0)).symm) ?_
  refine lq2_seq (fun k => nI k) (fun k => fl σ 28 (fun _ => 0) k) _ 24 ?_ ?_ N (by omega)
  · intro k hk rc
    unfold B_X5_valueByPoints_10
    rw [k_24]
    simp only [n_le (show 24 < 2147483648 by omega) (show k < 2147483648 by omega)]
    rw [if_neg (by omega), g_wr_in hk (by omega)]
    simp only [g_lt_e, nI_1]
    rw [← fl_s]
  · intro rc
    unfold B_X5_valueByPoints_10
    rw [if_pos (by decide)]
    dsimp only
    unfold L_X5_valueByPoints_31
    have e0 : fl σ 28 (fun _ => (0 : Int32)) 24 = fl σ 28 (fun b => iI (sumI (ptj A s T b) 0)) 24 := fl_congr (fun i _ => rfl)
    rw [e0]
    refine lq2_seq (fun j => nI j) (fun j => fl σ 28 (fun b => iI (sumI (ptj A s T b) j)) 24) _ 7 ?_ ?_ N (by omega)
    · intro j hj rc
      unfold B_X5_valueByPoints_31
      rw [k_7]
      simp only [n_le (show 7 < 2147483648 by omega) (show j < 2147483648 by omega)]
      rw [if_neg (by omega)]
      unfold L_X5_valueByPoints_39
      have e1 : fl σ 28 (fun b => iI (sumI (ptj A s T b) j)) 24 = fl σ 28 (fun b => iI (sumI (ptj A s T b) j + if plc A s T j b < 0 then (cnt T 24 : Int) - plc A s T j b else 0)) 24 := fl_congr (fun i _ => by rw [if_neg (by omega), Int.add_zero])
      rw [e1]
      refine lq2_seq (fun i => nI i) (fun i => fl σ 28 (fun b => iI (sumI (ptj A s T b) j + if plc A s T j b < i then (cnt T 24 : Int) - plc A s T j b else 0)) 24) _ 12 ?_ ?_ N (by omega)
      · intro i hi rc
        unfold B_X5_valueByPoints_39
        rw [k_12]
        simp only [n_le (show 12 < 2147483648 by omega) (show i < 2147483648 by omega)]
        rw [if_neg (by omega), n_jb, g_rd_in (by omega) (by omega), fl_q (by omega), h.2.1 j i hj hi]
        simp only [g_lt_e, nI_1]
        rcases row_plc (T := T) hw hj hs hi hT with ⟨hr, hno⟩ | ⟨b, hb, -, hr, hp, hu⟩
        · rw [hr, d_isBookNumber_m1, Option.bind_some, if_pos (by decide)]
          congr 1
          apply fl_congr
          intro b _
          have := hno b
          have e : (plc A s T j b < i + 1) = (plc A s T j b < i) := propext (by omega)
          simp only [e]
        · rw [hr, d_isBookNumber (by omega), Option.bind_some, decide_eq_true hb, if_neg (by decide), g_rd_in hb (by omega), g_wr_in hb (by omega), fl_p hb]
          congr 1
          apply fl_up hb
          · rw [if_pos (by omega), if_neg (by omega), hp, ← iI_nI, ← iI_nI, iI_sub, iI_add, Int.add_zero]
          · intro b' _ hne
            have : plc A s T j b' ≠ i := fun e => hne (hu b' e)
            have e : (plc A s T j b' < i + 1) = (plc A s T j b' < i) := propext (by omega)
            simp only [e]
      · intro rc
        unfold B_X5_valueByPoints_39
        rw [if_pos (by decide)]
        simp only [g_lt_e, nI_1]
        congr 1
        apply fl_congr
        intro b _
        congr 1
        show _ = sumI (ptj A s T b) j + ptj A s T b j
        unfold ptj
        have hle := plk_le (A := A) (s := s) (T := T) (j := j) (k := 12) (b := b) (Nat.le_refl _)
        have e : (plc A s T j b < 12) = (plc A s T j b < 24) := propext (by show plk A s T j 12 b < 12 ↔ plk A s T j 12 b < 24; omega)
        simp only [e]
    · intro rc
      unfold B_X5_valueByPoints_31
      rw [if_pos (by decide)]
      rfl
def kV (A : AS) (s : Nat) (T : Nat → Bool) (c : Bool) (vf : Nat → Int) (b : Nat) : Int := 32 * vf b + tieN A s T c b
theorem d_rankInto (hN : 200 ≤ N) (h : TL A s T c σ) {vf : Nat → Int} (hv : ∀ b, b < 24 → T b = true → σ 28 b = iI (vf b) ∧ -1000 ≤ vf b ∧ vf b ≤ 1000) : ∃ τ, f_X5_rankInto N σ = some τ ∧ RKD τ T (kV A s T c vf) (cnt T 24) ∧ (∀ q, q ≠ 32 → q ≠ 33 → q ≠ 34 → τ q = σ q) := by
  have hc24 := cnt_le24 T
  refine ⟨dT (fl σ 33 (fun b => 32 * σ 28 b + σ 27 b) 24) T (kV A s T c vf) (cnt T 24), ?_, RKD.of _ _ (Nat.le_refl _), fun q h1 h2 h3 => by rw [dT_q h1 h3, fl_q h2]⟩
  unfold f_X5_rankInto L_X5_rankInto_2
  refine Eq.trans (congrArg (lq2 _ N 0) (fl_0 (p := 33) (g := fun b => 32 * σ 28 b + σ 27 b)).symm) ?_
  refine lq2_seq (fun k => nI k) (fun k => fl σ 33 (fun b => 32 * σ 28 b + σ 27 b) k) _ 24 ?_ ?_ N (by omega)
  · intro k hk rc
    unfold B_X5_rankInto_2
    rw [k_24]
    simp only [n_le (show 24 < 2147483648 by omega) (show k < 2147483648 by omega)]
    rw [if_neg (by omega), g_rd_in hk (by omega), g_rd_in hk (by omega), d_setKey hk, Option.bind_some, fl_q (by omega), fl_q (by omega)]
    simp only [g_lt_e, nI_1]
    rw [← fl_s]
  · intro rc
    unfold B_X5_rankInto_2
    rw [if_pos (by decide)]
    dsimp only
    rw [fl_q (by omega), h.1, k_24, d_draw (kf := kV A s T c vf) hN ?_ (by omega), Option.bind_some, show min 24 (cnt T 24) = cnt T 24 by omega]
    intro b hb hTb
    obtain ⟨h1, h2, h3⟩ := hv b hb hTb
    have ht := tieN_le A s T c b
    rw [fl_p hb, h1, h.2.2.2 b hb, show (32 : Int32) = iI 32 from rfl, ← iI_nI, iI_mul, iI_add, iI_T (by omega) (by omega)]
    rfl
end Points
