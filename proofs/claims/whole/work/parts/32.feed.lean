/-! ===== choices on numbers ===== -/
theorem ilt_t {α : Type} {a b : Nat} {x y : α} (ha : a < 2147483648) (hb : b < 2147483648) (h : a < b) : (if nI a < nI b then x else y) = x := if_pos ((nI_ltI ha hb).mpr h)
theorem ilt_f {α : Type} {a b : Nat} {x y : α} (ha : a < 2147483648) (hb : b < 2147483648) (h : ¬ a < b) : (if nI a < nI b then x else y) = y := if_neg (fun e => h ((nI_ltI ha hb).mp e))
theorem ile_t {α : Type} {a b : Nat} {x y : α} (ha : a < 2147483648) (hb : b < 2147483648) (h : a ≤ b) : (if nI a ≤ nI b then x else y) = x := if_pos ((nI_leI ha hb).mpr h)
theorem ile_f {α : Type} {a b : Nat} {x y : α} (ha : a < 2147483648) (hb : b < 2147483648) (h : ¬ a ≤ b) : (if nI a ≤ nI b then x else y) = y := if_neg (fun e => h ((nI_leI ha hb).mp e))
theorem ieq_t {α : Type} {a b : Nat} {x y : α} (h : a = b) : (if nI a = nI b then x else y) = x := if_pos (by rw [h])
theorem ieq_f {α : Type} {a b : Nat} {x y : α} (ha : a < 2147483648) (hb : b < 2147483648) (h : ¬ a = b) : (if nI a = nI b then x else y) = y := if_neg (fun e => h ((nI_eq ha hb).mp e))
/-! ===== feed: both sides ===== -/
def bN (w : Int32) (s : Nat) : Nat := (w >>> (nI s &&& 31)).toBitVec.toNat % 256
theorem bN_lt (w : Int32) (s : Nat) : bN w s < 256 := Nat.mod_lt _ (by omega)
theorem nI_255 (y : Int32) : nI (y.toBitVec.toNat % 256) = y &&& 255 := by
  apply b_ext
  intro i hi
  rw [bt_nI _ _ hi, b_and, b_255, show (256 : Nat) = 2 ^ 8 from rfl, Nat.testBit_mod_two_pow, Bool.and_comm]
  rfl
theorem bN_d (w : Int32) (s : Nat) : (w >>> (nI s &&& 31)) &&& 255 = nI (bN w s) := (nI_255 _).symm
theorem i8_255 (y : Int32) : (nI (y.toBitVec.toNat % 256)).toInt8 = y.toInt8 := by
  rw [nI_255]
  apply Int8.toBitVec_inj.mp
  rw [Int32.toBitVec_toInt8, Int32.toBitVec_toInt8, BitVec.signExtend_eq_setWidth_of_le _ (by omega), BitVec.signExtend_eq_setWidth_of_le _ (by omega)]
  apply BitVec.eq_of_getLsbD_eq
  intro i hi
  rw [BitVec.getLsbD_setWidth, BitVec.getLsbD_setWidth]
  have := b_and y 255 i
  rw [b_255, decide_eq_true hi, Bool.and_true] at this
  unfold bt at this
  rw [this]
theorem nar_b (y : Int32) : vp_nar .byte (y.toInt8.toInt32) = (nI (y.toBitVec.toNat % 256)).toInt8.toInt32 := by
  rw [i8_255]
  show y.toInt8.toInt32.toInt8.toInt32 = _
  rw [Int8.toInt8_toInt32]
def tT (c p : Nat) (g : Nat → Int32) (σ : ZS) (n k : Nat) : ZS := fun q i => if q = c ∧ i = 1 then nI (n + k) else if q = p ∧ n ≤ i ∧ i < n + k then g (i - n) else σ q i
theorem tT_q {c p : Nat} {g : Nat → Int32} {σ : ZS} {n k q : Nat} (h1 : q ≠ c) (h2 : q ≠ p) : tT c p g σ n k q = σ q := by
  funext i
  unfold tT
  rw [if_neg (fun e => h1 e.1), if_neg (fun e => h2 e.1)]
theorem tT_c {c p : Nat} {g : Nat → Int32} {σ : ZS} {n k : Nat} : tT c p g σ n k c 1 = nI (n + k) := by
  unfold tT
  rw [if_pos ⟨rfl, rfl⟩]
theorem tT_ci {c p : Nat} {g : Nat → Int32} {σ : ZS} {n k i : Nat} (h : i ≠ 1) (hp : p ≠ c) : tT c p g σ n k c i = σ c i := by
  unfold tT
  rw [if_neg (fun e => h e.2), if_neg (fun e => hp e.1.symm)]
theorem tT_p {c p : Nat} {g : Nat → Int32} {σ : ZS} {n k i : Nat} (hp : p ≠ c) : tT c p g σ n k p i = if n ≤ i ∧ i < n + k then g (i - n) else σ p i := by
  unfold tT
  rw [if_neg (fun e => hp e.1)]
  by_cases h : n ≤ i ∧ i < n + k
  · rw [if_pos ⟨rfl, h⟩, if_pos h]
  · rw [if_neg (fun e => h e.2), if_neg h]
theorem tT_0 {c p : Nat} {g : Nat → Int32} {σ : ZS} {n : Nat} (h : σ c 1 = nI n) : tT c p g σ n 0 = σ := by
  funext q i
  unfold tT
  by_cases h1 : q = c ∧ i = 1
  · rw [if_pos h1, h1.1, h1.2, h]; rfl
  · rw [if_neg h1, if_neg (by omega)]
theorem tT_s {c p : Nat} {g : Nat → Int32} {σ : ZS} {n k : Nat} (hp : p ≠ c) : zu (zu (tT c p g σ n k) p (n + k) (g k)) c 1 (nI (n + k + 1)) = tT c p g σ n (k + 1) := by
  funext q i
  rw [zu_e, zu_e]
  by_cases h1 : q = c ∧ i = 1
  · rw [if_pos h1, h1.1, h1.2, tT_c]; rfl
  · rw [if_neg h1]
    unfold tT
    rw [if_neg h1, if_neg h1]
    by_cases h2 : q = p ∧ i = n + k
    · rw [if_pos h2, if_pos (by omega), h2.2, show n + k - n = k by omega]
    · rw [if_neg h2]
      by_cases h3 : q = p ∧ n ≤ i ∧ i < n + k
      · rw [if_pos h3, if_pos (by omega)]
      · rw [if_neg h3, if_neg (by omega)]
def apA (A : AS) (w : Int32) : AS := fun q i => if q = 15 ∧ i = 0 then A 15 0 + 4 else if q = 16 ∧ A 15 0 ≤ i ∧ i < A 15 0 + 4 then bN w (24 - 8 * (i - A 15 0)) else A q i
theorem apA_q {A : AS} {w : Int32} {q : Nat} (h1 : q ≠ 15) (h2 : q ≠ 16) : apA A w q = A q := by
  funext i
  unfold apA
  rw [if_neg (fun e => h1 e.1), if_neg (fun e => h2 e.1)]
theorem apA_n {A : AS} {w : Int32} : apA A w 15 0 = A 15 0 + 4 := by
  unfold apA
  rw [if_pos ⟨rfl, rfl⟩]
theorem apA_b {A : AS} {w : Int32} {i : Nat} : apA A w 16 i = if A 15 0 ≤ i ∧ i < A 15 0 + 4 then bN w (24 - 8 * (i - A 15 0)) else A 16 i := by
  unfold apA
  rw [if_neg (by omega)]
  by_cases h : A 15 0 ≤ i ∧ i < A 15 0 + 4
  · rw [if_pos ⟨rfl, h⟩, if_pos h]
  · rw [if_neg (fun e => h e.2), if_neg h]
theorem WF_ap {A : AS} (h : WF A) (hn : A 15 0 + 4 ≤ 80) (w : Int32) : WF (apA A w) := by
  obtain ⟨h1, h2, h3, h4, h5⟩ := h
  refine ⟨h1.cg (apA_q (by omega) (by omega)) (apA_q (by omega) (by omega)) (apA_q (by omega) (by omega)) (apA_q (by omega) (by omega)) (apA_q (by omega) (by omega)) (apA_q (by omega) (by omega)), h2.cg (apA_q (by omega) (by omega)) (apA_q (by omega) (by omega)) (apA_q (by omega) (by omega)) (apA_q (by omega) (by omega)) (apA_q (by omega) (by omega)), h3.cg (apA_q (by omega) (by omega)), h4.cg (apA_q (by omega) (by omega)) (apA_q (by omega) (by omega)) (apA_q (by omega) (by omega)) (apA_q (by omega) (by omega)) (apA_q (by omega) (by omega)) (apA_q (by omega) (by omega)), ?_⟩
  unfold WFt
  rw [apA_n]
  refine ⟨hn, fun i => ?_⟩
  rw [apA_b]
  split
  · exact bN_lt _ _
  · exact h5.2 i
theorem RMt.cg {A B : AS} {σ τ : ZS} (h : RMt A σ) (h1 : B 15 = A 15) (h2 : B 16 = A 16) (h3 : τ 0 1 = σ 0 1) (h4 : τ 1 = σ 1) : RMt B τ := by unfold RMt; rw [h1, h2, h3, h4]; exact h
theorem RMr.cg {A B : AS} {σ τ : ZS} (h : RMr A σ) (h1 : B 9 = A 9) (h3 : τ 2 = σ 2) : RMr B τ := by unfold RMr; rw [h1, h3]; exact h
theorem RMb.cg {A B : AS} {σ τ : ZS} (h : RMb A σ) (a0 : B 0 = A 0) (a1 : B 1 = A 1) (a2 : B 2 = A 2) (a3 : B 3 = A 3) (a4 : B 4 = A 4) (a5 : B 5 = A 5) (h0 : τ 0 4 = σ 0 4) (h1 : τ 4 = σ 4) (h2 : τ 5 = σ 5) (h3 : τ 6 = σ 6) (h4 : τ 7 = σ 7) (h5 : τ 8 = σ 8) : RMb B τ := by unfold RMb; rw [a0, a1, a2, a3, a4, a5, h0, h1, h2, h3, h4, h5]; exact h
theorem RMj.cg {A B : AS} {σ τ : ZS} (h : RMj A σ) (a0 : B 0 = A 0) (a6 : B 6 = A 6) (a7 : B 7 = A 7) (a8 : B 8 = A 8) (h1 : τ 9 = σ 9) (h2 : τ 10 = σ 10) (h3 : τ 11 = σ 11) : RMj B τ := by unfold RMj; rw [a0, a6, a7, a8, h1, h2, h3]; exact h
theorem RMp.cg {A B : AS} {σ τ : ZS} (h : RMp A σ) (a0 : B 10 = A 10) (a1 : B 12 = A 12) (a2 : B 13 = A 13) (a3 : B 14 = A 14) (h1 : τ 12 = σ 12) (h2 : τ 14 = σ 14) (h3 : τ 15 = σ 15) (h4 : τ 16 = σ 16) (h5 : τ 17 = σ 17) : RMp B τ := by unfold RMp; rw [a0, a1, a2, a3, h1, h2, h3, h4, h5]; exact h
theorem RMk.cg {A B : AS} {σ τ : ZS} (h : RMk A σ) (h1 : B 11 = A 11) (h3 : τ 13 = σ 13) : RMk B τ := by unfold RMk; rw [h1, h3]; exact h
theorem RD_ap {A : AS} {σ : ZS} (h : RD A σ) (w : Int32) : RD (apA A w) (tT 1 2 (fun k => nI (bN w (24 - 8 * k))) σ (A 15 0) 4) := by
  obtain ⟨h1, h2, h3, h4, h5, h6, h7⟩ := h
  refine ⟨?_, h2.cg (apA_q (by omega) (by omega)) (tT_q (by omega) (by omega)), h3.cg (apA_q (by omega) (by omega)) (apA_q (by omega) (by omega)) (apA_q (by omega) (by omega)) (apA_q (by omega) (by omega)) (apA_q (by omega) (by omega)) (apA_q (by omega) (by omega)) (tT_q (by omega) (by omega)) (tT_q (by omega) (by omega)) (tT_q (by omega) (by omega)) (tT_q (by omega) (by omega)), h4.cg (apA_q (by omega) (by omega)) (apA_q (by omega) (by omega)) (apA_q (by omega) (by omega)) (apA_q (by omega) (by omega)) (apA_q (by omega) (by omega)) (tT_q (by omega) (by omega)) (tT_q (by omega) (by omega)) (tT_q (by omega) (by omega)) (tT_q (by omega) (by omega)) (tT_q (by omega) (by omega)), h5.cg (apA_q (by omega) (by omega)) (apA_q (by omega) (by omega)) (apA_q (by omega) (by omega)) (apA_q (by omega) (by omega)) (tT_q (by omega) (by omega)) (tT_q (by omega) (by omega)) (tT_q (by omega) (by omega)), h6.cg (apA_q (by omega) (by omega)) (apA_q (by omega) (by omega)) (apA_q (by omega) (by omega)) (apA_q (by omega) (by omega)) (tT_q (by omega) (by omega)) (tT_q (by omega) (by omega)) (tT_q (by omega) (by omega)), h7.cg (apA_q (by omega) (by omega)) (tT_q (by omega) (by omega))⟩
  unfold RDt
  rw [apA_n]
  refine ⟨tT_c, fun i hi => ?_⟩
  rw [tT_p (by omega), apA_b]
  by_cases hn : A 15 0 ≤ i
  · rw [if_pos ⟨hn, hi⟩, if_pos ⟨hn, hi⟩]
  · rw [if_neg (by omega), if_neg (by omega)]
    exact h1.2 i (by omega)
theorem RM_ap {A : AS} {σ : ZS} (h : RM A σ) (w : Int32) : RM (apA A w) (tT 0 1 (fun k => (nI (bN w (24 - 8 * k))).toInt8.toInt32) σ (A 15 0) 4) := by
  obtain ⟨h1, h2, h3, h4, h5, h6⟩ := h
  refine ⟨?_, h2.cg (apA_q (by omega) (by omega)) (tT_q (by omega) (by omega)), h3.cg (apA_q (by omega) (by omega)) (apA_q (by omega) (by omega)) (apA_q (by omega) (by omega)) (apA_q (by omega) (by omega)) (apA_q (by omega) (by omega)) (apA_q (by omega) (by omega)) (tT_ci (by omega) (by omega)) (tT_q (by omega) (by omega)) (tT_q (by omega) (by omega)) (tT_q (by omega) (by omega)) (tT_q (by omega) (by omega)) (tT_q (by omega) (by omega)), h4.cg (apA_q (by omega) (by omega)) (apA_q (by omega) (by omega)) (apA_q (by omega) (by omega)) (apA_q (by omega) (by omega)) (tT_q (by omega) (by omega)) (tT_q (by omega) (by omega)) (tT_q (by omega) (by omega)), h5.cg (apA_q (by omega) (by omega)) (apA_q (by omega) (by omega)) (apA_q (by omega) (by omega)) (apA_q (by omega) (by omega)) (tT_q (by omega) (by omega)) (tT_q (by omega) (by omega)) (tT_q (by omega) (by omega)) (tT_q (by omega) (by omega)) (tT_q (by omega) (by omega)), h6.cg (apA_q (by omega) (by omega)) (tT_q (by omega) (by omega))⟩
  unfold RMt
  rw [apA_n]
  refine ⟨tT_c, fun i hi => ?_⟩
  rw [tT_p (by omega), apA_b]
  by_cases hn : A 15 0 ≤ i
  · rw [if_pos ⟨hn, hi⟩, if_pos ⟨hn, hi⟩]
  · rw [if_neg (by omega), if_neg (by omega)]
    exact h1.2 i (by omega)
theorem d_append {N : Nat} {σ : ZS} {A : AS} (hN : 200 ≤ N) (h : RD A σ) (hn : A 15 0 + 4 ≤ 80) (w : Int32) : f_X6_append N σ w = some (tT 1 2 (fun k => nI (bN w (24 - 8 * k))) σ (A 15 0) 4) := by
  unfold f_X6_append L_X6_append_3
  have key := lq2_seq (B := B_X6_append_3 N w (fun y5 s6 => some s6)) (fun k => if k < 4 then nI (24 - 8 * k) else -8) (fun k => tT 1 2 (fun k => nI (bN w (24 - 8 * k))) σ (A 15 0) k) (some (tT 1 2 (fun k => nI (bN w (24 - 8 * k))) σ (A 15 0) 4)) 4 ?_ ?_ N (by omega)
  · rw [tT_0 h.1.1] at key
    exact key
  · intro k hk rc
    rw [if_pos hk]
    unfold B_X6_append_3
    rw [if_neg (nI_pos (by omega)), tT_c, k_80, ile_f (by omega) (by omega) (by omega), g_wr_in (by omega) (by omega), bN_d]
    dsimp only [g_lt]
    rw [zu_q (by omega), tT_c, nI_1, tT_s (by omega)]
    rw [show nI (24 - 8 * k) + (-8 : Int32) = if k + 1 < 4 then nI (24 - 8 * (k + 1)) else -8 by rcases (by omega : k = 0 ∨ k = 1 ∨ k = 2 ∨ k = 3) with rfl | rfl | rfl | rfl <;> decide]
  · intro rc
    rfl
theorem m_types {N : Nat} {σ : ZS} {A : AS} (hN : 200 ≤ N) (h : RM A σ) (hn : A 15 0 + 4 ≤ 80) (w : Int32) : f_X8_types N σ w = some (tT 0 1 (fun k => (nI (bN w (24 - 8 * k))).toInt8.toInt32) σ (A 15 0) 4) := by
  unfold f_X8_types L_X8_types_2
  have key := lq2_seq (B := B_X8_types_2 N w (fun y4 s5 => some s5)) (fun k => if k < 4 then nI (3 - k) else -1) (fun k => tT 0 1 (fun k => (nI (bN w (24 - 8 * k))).toInt8.toInt32) σ (A 15 0) k) (some (tT 0 1 (fun k => (nI (bN w (24 - 8 * k))).toInt8.toInt32) σ (A 15 0) 4)) 4 ?_ ?_ N (by omega)
  · rw [tT_0 h.1.1] at key
    exact key
  · intro k hk rc
    rw [if_pos hk]
    unfold B_X8_types_2
    rw [if_neg (nI_pos (by omega)), tT_c, g_wr_in (by omega) (by omega), k_8, pk_mul, show 8 * (3 - k) = 24 - 8 * k by omega, nar_b]
    dsimp only [g_lt]
    rw [zu_q (by omega), tT_c, nI_1, show nI ((w >>> (nI (24 - 8 * k) &&& 31)).toBitVec.toNat % 256) = nI (bN w (24 - 8 * k)) from rfl, tT_s (by omega)]
    rw [show nI (3 - k) + (-1 : Int32) = if k + 1 < 4 then nI (3 - (k + 1)) else -1 by rcases (by omega : k = 0 ∨ k = 1 ∨ k = 2 ∨ k = 3) with rfl | rfl | rfl | rfl <;> decide]
  · intro rc
    rfl
def fdA (A : AS) (a b c d e : Int32) : AS := apA (apA (apA (apA (apA A a) b) c) d) e
def anFeed (A : AS) : Int32 := if A 15 0 + 20 ≤ 80 then nI (A 15 0 + 20) else -1
def nxFeed (A : AS) (a b c d e : Int32) : AS := if A 15 0 + 20 ≤ 80 then fdA A a b c d e else A
theorem WF_feed {A : AS} (h : WF A) (a b c d e : Int32) : WF (nxFeed A a b c d e) := by
  unfold nxFeed
  split
  · unfold fdA
    exact WF_ap (WF_ap (WF_ap (WF_ap (WF_ap h (by omega) a) (by rw [apA_n]; omega) b) (by rw [apA_n, apA_n]; omega) c) (by rw [apA_n, apA_n, apA_n]; omega) d) (by rw [apA_n, apA_n, apA_n, apA_n]; omega) e
  · exact h
theorem D_feed {N : Nat} {σ : ZS} {A : AS} (hN : 200 ≤ N) (h : RD A σ) (hw : WF A) (a b c d e : Int32) : ∃ τ, f_X7_feed N σ a b c d e = some (anFeed A, τ) ∧ RD (nxFeed A a b c d e) τ := by
  have ht := hw.2.2.2.2.1
  unfold f_X7_feed f_X6_hasRoom anFeed nxFeed
  rw [h.1.1, k_20, nI_add, k_80]
  by_cases hr : A 15 0 + 20 ≤ 80
  · rw [ilt_f (by omega) (by omega) (by omega), if_pos hr, if_pos hr]
    have r1 := RD_ap h a
    have r2 := RD_ap r1 b
    have r3 := RD_ap r2 c
    have r4 := RD_ap r3 d
    have r5 := RD_ap r4 e
    have e2 := d_append hN r1 (by rw [apA_n]; omega) b
    have e3 := d_append hN r2 (by rw [apA_n, apA_n]; omega) c
    have e4 := d_append hN r3 (by rw [apA_n, apA_n, apA_n]; omega) d
    have e5 := d_append hN r4 (by rw [apA_n, apA_n, apA_n, apA_n]; omega) e
    refine ⟨_, ?_, r5⟩
    rw [Option.bind_some, if_neg (by decide), d_append hN h (by omega) a, Option.bind_some, e2, Option.bind_some, e3, Option.bind_some, e4, Option.bind_some, e5, Option.bind_some]
    unfold f_X6_length
    rw [Option.bind_some, r5.1.1, apA_n, apA_n, apA_n, apA_n, apA_n]
  · rw [ilt_t (by omega) (by omega) (by omega), if_neg hr, if_neg hr]
    exact ⟨σ, rfl, h⟩
theorem M_feed {N : Nat} {σ : ZS} {A : AS} (hN : 200 ≤ N) (h : RM A σ) (hw : WF A) (a b c d e : Int32) : ∃ τ, f_X8_feed N σ a b c d e = some (anFeed A, τ) ∧ RM (nxFeed A a b c d e) τ := by
  have ht := hw.2.2.2.2.1
  unfold f_X8_feed anFeed nxFeed
  rw [h.1.1, k_20, nI_add, k_80]
  by_cases hr : A 15 0 + 20 ≤ 80
  · rw [ile_t (by omega) (by omega) (by omega), if_pos hr, if_pos hr]
    have r1 := RM_ap h a
    have r2 := RM_ap r1 b
    have r3 := RM_ap r2 c
    have r4 := RM_ap r3 d
    have r5 := RM_ap r4 e
    have e2 := m_types hN r1 (by rw [apA_n]; omega) b
    have e3 := m_types hN r2 (by rw [apA_n, apA_n]; omega) c
    have e4 := m_types hN r3 (by rw [apA_n, apA_n, apA_n]; omega) d
    have e5 := m_types hN r4 (by rw [apA_n, apA_n, apA_n, apA_n]; omega) e
    refine ⟨_, ?_, r5⟩
    rw [m_types hN h (by omega) a, Option.bind_some, e2, Option.bind_some, e3, Option.bind_some, e4, Option.bind_some, e5, Option.bind_some, r5.1.1, apA_n, apA_n, apA_n, apA_n, apA_n]
  · rw [ile_f (by omega) (by omega) (by omega), if_neg hr, if_neg hr]
    exact ⟨σ, rfl, h⟩
