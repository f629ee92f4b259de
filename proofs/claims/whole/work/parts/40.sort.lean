/-! ===== sorting by insertion, as the reference does it ===== -/
theorem lq2_inv {A2 R0 : Type} {B : (Int32 → A2 → Option R0) → Int32 → A2 → Option R0} (I : Nat → A2 → Prop) (a e : Nat) (hae : a ≤ e) (hs : ∀ k, a ≤ k → k < e → ∀ b, I k b → ∃ b', I (k + 1) b' ∧ ∀ rc, B rc (nI k) b = rc (nI (k + 1)) b') (b : A2) (h0 : I a b) : ∃ b', I e b' ∧ ∀ r n, e - a < n → (∀ rc, B rc (nI e) b' = r) → lq2 B n (nI a) b = r := by
  have key : ∀ d k b, k + d = e → a ≤ k → I k b → ∃ b', I e b' ∧ ∀ r n, d < n → (∀ rc, B rc (nI e) b' = r) → lq2 B n (nI k) b = r := by
    intro d
    induction d with
    | zero =>
      intro k b hk ha hI
      have hk : k = e := by omega
      subst hk
      refine ⟨b, hI, fun r n hn he => ?_⟩
      obtain ⟨n, rfl⟩ : ∃ z, n = z + 1 := ⟨n - 1, by omega⟩
      exact he _
    | succ d ih =>
      intro k b hk ha hI
      obtain ⟨b', h1, h2⟩ := hs k ha (by omega) b hI
      obtain ⟨b'', h3, h4⟩ := ih (k + 1) b' (by omega) (by omega) h1
      refine ⟨b'', h3, fun r n hn he => ?_⟩
      obtain ⟨n, rfl⟩ : ∃ z, n = z + 1 := ⟨n - 1, by omega⟩
      show B (lq2 B n) (nI k) b = r
      rw [h2]
      exact h4 r n (by omega) he
  obtain ⟨b', h1, h2⟩ := key (e - a) a b (by omega) (Nat.le_refl _) h0
  exact ⟨b', h1, h2⟩
section Ins
variable {S : Nat → Bool} {kf : Nat → Int} {x : Nat}
def adS (S : Nat → Bool) (x : Nat) : Nat → Bool := fun c => S c || decide (c = x)
theorem ins_cnt (hx : x < 24) (hS : S x = false) : cnt (adS S x) 24 = cnt S 24 + 1 := by
  have h := cnt_rm (p := adS S x) (x := x) (by simp [adS]) hx
  rw [← h]
  congr 1
  apply cnt_congr
  intro k _
  unfold adS
  by_cases e : k = x
  · rw [e, hS]; simp
  · simp [e]
theorem ins_rnk (hx : x < 24) (hS : S x = false) {c : Nat} : rnk (adS S x) kf c = rnk S kf c + if ahd kf x c then 1 else 0 := by
  unfold rnk
  cases e : ahd kf x c
  · rw [if_neg (by decide), Nat.add_zero]
    apply cnt_congr
    intro k _
    unfold adS
    by_cases ek : k = x
    · rw [ek, e, hS]; simp
    · simp [ek]
  · rw [if_pos rfl]
    have h := cnt_rm (p := fun d => adS S x d && ahd kf d c) (x := x) (by simp [adS, e]) hx
    rw [← h]
    congr 1
    apply cnt_congr
    intro k _
    unfold adS
    by_cases ek : k = x
    · rw [ek, hS]; simp
    · simp [ek]
theorem rnk_le : rnk S kf x ≤ cnt S 24 := cnt_mono (fun k _ h => (Bool.and_eq_true _ _ ▸ h : S k = true ∧ ahd kf k x = true).1)
theorem ins_ahd (hS : S x = false) {i : Nat} (hi : i < cnt S 24) : ahd kf x (pck S kf i) = decide (rnk S kf x ≤ i) := by
  obtain ⟨h1, h2, h3⟩ := pck_rnk (kf := kf) hi
  have hne : pck S kf i ≠ x := fun e => by rw [e, hS] at h2; cases h2
  rcases ahd_tot (kf := kf) hne with h | h
  · have := rnk_lt h1 h2 h
    rw [ahd_no h, decide_eq_false (by omega)]
  · rw [h, decide_eq_true]
    have : rnk S kf x ≤ rnk S kf (pck S kf i) := cnt_mono (fun k _ hk => by
      rw [Bool.and_eq_true] at hk ⊢
      exact ⟨hk.1, ahd_tr hk.2 h⟩)
    omega
theorem ins_pck (hx : x < 24) (hS : S x = false) {i : Nat} (hi : i ≤ cnt S 24) : pck (adS S x) kf i = if i < rnk S kf x then pck S kf i else if i = rnk S kf x then x else pck S kf (i - 1) := by
  by_cases h1 : i < rnk S kf x
  · have hl : i < cnt S 24 := Nat.lt_of_lt_of_le h1 rnk_le
    rw [if_pos h1]
    obtain ⟨g1, g2, g3⟩ := pck_rnk (kf := kf) hl
    have e := (rnk_pck (S := adS S x) (kf := kf) g1 (by simp [adS, g2])).2
    rw [ins_rnk hx hS, g3, ins_ahd hS hl, decide_eq_false (by omega)] at e
    exact e
  · rw [if_neg h1]
    by_cases h2 : i = rnk S kf x
    · rw [if_pos h2]
      have e := (rnk_pck (S := adS S x) (kf := kf) hx (by simp [adS])).2
      rw [ins_rnk hx hS, ahd_irr, if_neg (by decide), Nat.add_zero] at e
      rw [h2]; exact e
    · rw [if_neg h2]
      have hl : i - 1 < cnt S 24 := by omega
      obtain ⟨g1, g2, g3⟩ := pck_rnk (kf := kf) hl
      have e := (rnk_pck (S := adS S x) (kf := kf) g1 (by simp [adS, g2])).2
      rw [ins_rnk hx hS, g3, ins_ahd hS hl, decide_eq_true (by omega), if_pos rfl, show i - 1 + 1 = i by omega] at e
      exact e
end Ins
def shT (τ : ZS) (P n t : Nat) : ZS := fun q i => if q = P ∧ n - t < i ∧ i ≤ n then τ P (i - 1) else τ q i
theorem shT_q {τ : ZS} {P n t q : Nat} (h : q ≠ P) : shT τ P n t q = τ q := by
  funext i
  unfold shT
  rw [if_neg (fun e => h e.1)]
theorem shT_p {τ : ZS} {P n t i : Nat} : shT τ P n t P i = if n - t < i ∧ i ≤ n then τ P (i - 1) else τ P i := by
  unfold shT
  by_cases h : n - t < i ∧ i ≤ n
  · rw [if_pos ⟨rfl, h⟩, if_pos h]
  · rw [if_neg (fun e => h e.2), if_neg h]
theorem shT_0 {τ : ZS} {P n : Nat} : shT τ P n 0 = τ := by
  funext q i
  unfold shT
  rw [if_neg (by omega)]
theorem shT_s {τ : ZS} {P n t : Nat} (ht : t < n) : zu (shT τ P n t) P (n - t) (τ P (n - t - 1)) = shT τ P n (t + 1) := by
  funext q i
  rw [zu_e]
  unfold shT
  by_cases h1 : q = P ∧ i = n - t
  · rw [if_pos h1, if_pos (by omega), h1.2]
  · rw [if_neg h1]
    by_cases h2 : q = P ∧ n - t < i ∧ i ≤ n
    · rw [if_pos h2, if_pos (by omega)]
    · rw [if_neg h2, if_neg (by omega)]
def LO (τ : ZS) (P : Nat) (S : Nat → Bool) (kf : Nat → Int) : Prop := ∀ i, i < cnt S 24 → τ P i = nI (pck S kf i)
theorem LO_ins {τ : ZS} {P : Nat} {S : Nat → Bool} {kf : Nat → Int} {x : Nat} (h : LO τ P S kf) (hx : x < 24) (hS : S x = false) : LO (zu (shT τ P (cnt S 24) (cnt S 24 - rnk S kf x)) P (rnk S kf x) (nI x)) P (adS S x) kf := by
  intro i hi
  rw [ins_cnt hx hS] at hi
  have hr := rnk_le (S := S) (kf := kf) (x := x)
  rw [ins_pck hx hS (by omega), zu_e]
  by_cases h1 : i = rnk S kf x
  · rw [if_pos ⟨rfl, h1⟩, if_neg (by omega), if_pos h1]
  · rw [if_neg (fun e => h1 e.2), shT_p]
    by_cases h2 : i < rnk S kf x
    · rw [if_pos h2, if_neg (by omega)]
      exact h i (by omega)
    · rw [if_neg h2, if_neg h1, if_pos (by omega)]
      exact h (i - 1) (by omega)
theorem eqM.sh {σ τ : ZS} (h : eqM σ τ) {P n t : Nat} (hp : scM P = true) : eqM σ (shT τ P n t) := by
  have h0 : (0 : Nat) ≠ P := by intro e; subst e; cases hp
  refine ⟨fun q hq hq0 => ?_, ?_, ?_⟩
  · rw [shT_q (fun e => by rw [e, hp] at hq; cases hq)]; exact h.1 q hq hq0
  · rw [shT_q h0]; exact h.2.1
  · rw [shT_q h0]; exact h.2.2
theorem std_c {sb sc mb mc : Nat} (b1 : 1 ≤ mb) (b2 : mb ≤ 7) (c1 : 1 ≤ mc) (c2 : mc ≤ 7) : (sc * mb < sb * mc ∨ (sb * mc = sc * mb ∧ mc < mb)) ↔ 8 * sc * (420 / mc) + mc < 8 * sb * (420 / mb) + mb := by
  have eb : mb = 1 ∨ mb = 2 ∨ mb = 3 ∨ mb = 4 ∨ mb = 5 ∨ mb = 6 ∨ mb = 7 := by omega
  have ec : mc = 1 ∨ mc = 2 ∨ mc = 3 ∨ mc = 4 ∨ mc = 5 ∨ mc = 6 ∨ mc = 7 := by omega
  rcases eb with rfl | rfl | rfl | rfl | rfl | rfl | rfl <;> rcases ec with rfl | rfl | rfl | rfl | rfl | rfl | rfl <;> simp only [Nat.reduceDiv] <;> omega
section MLong
variable {N : Nat} {σ τ : ZS} {A : AS}
theorem m_isAhead (hN : 200 ≤ N) (h : RM A τ) (hw : WF A) {b c : Nat} (hb : b < A 0 0) (hc : c < A 0 0) (hmb : mks A b ≠ 0) (hmc : mks A c ≠ 0) : f_X8_isAhead N τ (nI b) (nI c) = some (zb (decide (kL A c < kL A b))) := by
  have sb := sms_le (fun i => (hw.2.1.1 i).2.2) b
  have sc := sms_le (fun i => (hw.2.1.1 i).2.2) c
  have mb := mks_le A b
  have mc := mks_le A c
  have p1 : sms A b * mks A c ≤ 700 * 7 := Nat.mul_le_mul sb mc
  have p2 : sms A c * mks A b ≤ 700 * 7 := Nat.mul_le_mul sc mb
  have key := std_c (sb := sms A b) (sc := sms A c) (mb := mks A b) (mc := mks A c) (by omega) mb (by omega) mc
  have ek : decide (kL A c < kL A b) = decide (sms A c * mks A b < sms A b * mks A c ∨ (sms A b * mks A c = sms A c * mks A b ∧ mks A c < mks A b)) := by
    apply decide_eq_decide.mpr
    rw [key]
    unfold kL
    omega
  unfold f_X8_isAhead
  rw [m_sum hN h hw hb, Option.bind_some, m_marks hN h hw hc, Option.bind_some, g_lt_e, m_sum hN h hw hc, Option.bind_some, m_marks hN h hw hb, Option.bind_some, g_lt_e, pk_mul, pk_mul, Option.bind_some, Option.bind_some, ek]
  by_cases h1 : sms A c * mks A b < sms A b * mks A c
  · rw [ilt_t (by omega) (by omega) h1, decide_eq_true (Or.inl h1)]; rfl
  · rw [ilt_f (by omega) (by omega) h1]
    by_cases h2 : sms A b * mks A c = sms A c * mks A b
    · rw [ieq_t h2]
      by_cases h3 : mks A b ≤ mks A c
      · rw [ile_t (by omega) (by omega) h3, decide_eq_false (by omega)]; rfl
      · rw [ile_f (by omega) (by omega) h3, decide_eq_true (by omega)]; rfl
    · rw [ieq_f (by omega) (by omega) h2, decide_eq_false (by omega)]; rfl
def cdk (A : AS) (k : Nat) : Nat → Bool := fun c => decide (c < k) && cand A c
theorem cand_mk {b : Nat} (h : cand A b = true) : mks A b ≠ 0 ∧ b < A 0 0 := by
  unfold cand at h
  rw [Bool.and_eq_true, decide_eq_true_iff] at h
  refine ⟨h.2, ?_⟩
  by_cases c : b < A 0 0
  · exact c
  · rw [inb_nb (by omega)] at h; cases h.1
theorem m_insLong (hN : 200 ≤ N) (h : RM A σ) (hw : WF A) (he : eqM σ τ) {b : Nat} (hb : cand A b = true) (ho : LO τ 19 (cdk A b) (kL A)) (K : Int32 → ZS → Option ZS) : L_X8_makesLong_39 N (nI b) K N (nI (cnt (cdk A b) 24)) τ = K (nI (rnk (cdk A b) (kL A) b)) (shT τ 19 (cnt (cdk A b) 24) (cnt (cdk A b) 24 - rnk (cdk A b) (kL A) b)) := by
  have hnb := hw.1.1
  have hbn := cand_mk hb
  have hr := rnk_le (S := cdk A b) (kf := kL A) (x := b)
  have hn := cnt_le (cdk A b) 24
  have hS : cdk A b b = false := by unfold cdk; simp
  have hc24 : cnt (cdk A b) 24 + 1 ≤ 24 := by rw [← ins_cnt (S := cdk A b) (x := b) (by omega) hS]; exact cnt_le _ 24
  unfold L_X8_makesLong_39
  have rd : ∀ t, t < cnt (cdk A b) 24 → shT τ 19 (cnt (cdk A b) 24) t 19 (cnt (cdk A b) 24 - t - 1) = nI (pck (cdk A b) (kL A) (cnt (cdk A b) 24 - t - 1)) := by
    intro t ht
    rw [shT_p, if_neg (by omega)]
    exact ho _ (by omega)
  have ah : ∀ t, t < cnt (cdk A b) 24 → f_X8_isAhead N (shT τ 19 (cnt (cdk A b) 24) t) (nI b) (nI (pck (cdk A b) (kL A) (cnt (cdk A b) 24 - t - 1))) = some (zb (decide (rnk (cdk A b) (kL A) b ≤ cnt (cdk A b) 24 - t - 1))) := by
    intro t ht
    have hi : cnt (cdk A b) 24 - t - 1 < cnt (cdk A b) 24 := by omega
    obtain ⟨g1, g2, g3⟩ := pck_rnk (kf := kL A) hi
    have g4 : pck (cdk A b) (kL A) (cnt (cdk A b) 24 - t - 1) < b ∧ cand A (pck (cdk A b) (kL A) (cnt (cdk A b) 24 - t - 1)) = true := by
      unfold cdk at g2
      rw [Bool.and_eq_true, decide_eq_true_iff] at g2
      exact g2
    have g5 := cand_mk g4.2
    rw [m_isAhead hN (h.eq (he.sh rfl)) hw hbn.2 g5.2 hbn.1 g5.1, ← ins_ahd hS hi]
    congr 2
    apply Bool.eq_iff_iff.mpr
    rw [ahd_iff, decide_eq_true_iff]
    omega
  have key := lq2_seq (B := B_X8_makesLong_39 N (nI b) K) (fun t => nI (cnt (cdk A b) 24 - t)) (fun t => shT τ 19 (cnt (cdk A b) 24) t) (K (nI (rnk (cdk A b) (kL A) b)) (shT τ 19 (cnt (cdk A b) 24) (cnt (cdk A b) 24 - rnk (cdk A b) (kL A) b))) (cnt (cdk A b) 24 - rnk (cdk A b) (kL A) b) ?_ ?_ N (by omega)
  · rw [shT_0] at key
    exact key
  · intro t ht rc
    unfold B_X8_makesLong_39
    rw [k_0, ile_f (by omega) (by omega) (by omega), k_1, pk_sub (by omega), g_rd_in (by omega) (by omega), rd t (by omega), ah t (by omega), Option.bind_some, decide_eq_true (by omega), if_neg (by decide), g_rd_in (by omega) (by omega), g_wr_in (by omega) (by omega), rd t (by omega), g_lt_e]
    have e := shT_s (τ := τ) (P := 19) (n := cnt (cdk A b) 24) (t := t) (by omega)
    rw [ho _ (by omega)] at e
    rw [e, show cnt (cdk A b) 24 - t - 1 = cnt (cdk A b) 24 - (t + 1) by omega]
  · intro rc
    unfold B_X8_makesLong_39
    rw [show cnt (cdk A b) 24 - (cnt (cdk A b) 24 - rnk (cdk A b) (kL A) b) = rnk (cdk A b) (kL A) b by omega]
    by_cases r0 : rnk (cdk A b) (kL A) b = 0
    · rw [r0, k_0, ile_t (by omega) (by omega) (by omega)]
    · have h1 := rd (cnt (cdk A b) 24 - rnk (cdk A b) (kL A) b) (by omega)
      have h2 := ah (cnt (cdk A b) 24 - rnk (cdk A b) (kL A) b) (by omega)
      rw [show cnt (cdk A b) 24 - (cnt (cdk A b) 24 - rnk (cdk A b) (kL A) b) - 1 = rnk (cdk A b) (kL A) b - 1 by omega] at h1 h2
      rw [k_0, ile_f (by omega) (by omega) (by omega), k_1, pk_sub (by omega), g_rd_in (by omega) (by omega), h1, h2, Option.bind_some, decide_eq_false (by omega), if_pos (show zb false = nI 0 from rfl)]
theorem cdk_y {k : Nat} (h : cand A k = true) : adS (cdk A k) k = cdk A (k + 1) := by
  funext c
  unfold adS cdk
  by_cases e : c = k
  · rw [e, h]; simp
  · rw [decide_eq_false e, Bool.or_false, show decide (c < k + 1) = decide (c < k) from decide_eq_decide.mpr (by omega)]
theorem cdk_n {k : Nat} (h : cand A k = false) : cdk A (k + 1) = cdk A k := by
  funext c
  unfold cdk
  by_cases e : c = k
  · rw [e, h]; simp
  · rw [show decide (c < k + 1) = decide (c < k) from decide_eq_decide.mpr (by omega)]
theorem cdk_nb : cdk A (A 0 0) = cand A := by
  funext c
  unfold cdk
  cases e : cand A c
  · rw [Bool.and_false]
  · rw [decide_eq_true (cand_mk e).2]; rfl
def LM (A : AS) (τ : ZS) : Prop := τ 0 22 = nI (nL0 A) ∧ LO τ 19 (cand A) (kL A)
theorem m_makesLong (hN : 200 ≤ N) (h : RM A σ) (hw : WF A) : ∃ τ, f_X8_makesLong N σ = some τ ∧ eqM σ τ ∧ LM A τ ∧ (∀ q, q ≠ 0 → q ≠ 19 → τ q = σ q) ∧ (∀ i, i ≠ 22 → τ 0 i = σ 0 i) := by
  have hnb := hw.1.1
  have h7 := hw.2.2.1 7 (by omega)
  have h7' : A 9 7 ≤ 12 := h7.2
  unfold f_X8_makesLong L_X8_makesLong_7
  rw [g_lt_e]
  have inv := lq2_inv (B := B_X8_makesLong_7 N (fun y16 s17 => g_rd 11 (s17 2) (7 : Int32) (fun v18 => if (s17 0 22) ≤ v18 then (some s17) else (g_rd 11 (s17 2) (7 : Int32) (fun v19 => g_lt (zu s17 0 22 v19) (fun s20 => some s20)))))) (fun k τ => eqM σ τ ∧ τ 0 22 = nI (cnt (cdk A k) 24) ∧ LO τ 19 (cdk A k) (kL A) ∧ (∀ q, q ≠ 0 → q ≠ 19 → τ q = σ q) ∧ (∀ i, i ≠ 22 → τ 0 i = σ 0 i)) 0 (A 0 0) (by omega) ?_ (zu σ 0 22 0) ?_
  · obtain ⟨τ, ⟨i1, i2, i3, i4, i5⟩, hl⟩ := inv
    rw [cdk_nb] at i2 i3
    have hc := cnt_le (cand A) 24
    by_cases c : cnt (cand A) 24 ≤ A 9 7
    · refine ⟨τ, hl _ N (by omega) (fun rc => ?_), i1, ⟨?_, i3⟩, i4, i5⟩
      · unfold B_X8_makesLong_7
        rw [(h.eq i1).2.2.1.1, ile_t (by omega) (by omega) (by omega)]
        dsimp only
        rw [k_7, g_rd_in (by omega) (by omega), (h.eq i1).2.1 7 (by omega), i2, ile_t (by omega) (by omega) c]
      · rw [i2]
        unfold nL0
        rw [Nat.min_eq_right c]
    · refine ⟨zu τ 0 22 (nI (A 9 7)), hl _ N (by omega) (fun rc => ?_), i1.put0 (by omega) (by omega), ⟨?_, fun i hi => ?_⟩, fun q q0 q19 => by rw [zu_q q0]; exact i4 q q0 q19, fun i hi => by rw [zu_i hi]; exact i5 i hi⟩
      · unfold B_X8_makesLong_7
        rw [(h.eq i1).2.2.1.1, ile_t (by omega) (by omega) (by omega)]
        dsimp only
        rw [k_7, g_rd_in (by omega) (by omega), g_rd_in (by omega) (by omega), (h.eq i1).2.1 7 (by omega), i2, ile_f (by omega) (by omega) c]
        rfl
      · rw [zu_p]
        unfold nL0
        rw [Nat.min_eq_left (by omega)]
      · rw [zu_q (by omega)]; exact i3 i hi
  · intro k _ hk τ hI
    obtain ⟨i1, i2, i3, i4, i5⟩ := hI
    have hr := h.eq i1
    have hcl := cnt_le (cdk A k) 24
    by_cases hc : cand A k = true
    · have hm := cand_mk hc
      have hS : cdk A k k = false := by unfold cdk; simp
      have hrk := rnk_le (S := cdk A k) (kf := kL A) (x := k)
      have hcn := ins_cnt (S := cdk A k) (x := k) (by omega) hS
      have hc24 := cnt_le (adS (cdk A k) k) 24
      refine ⟨zu (zu (shT τ 19 (cnt (cdk A k) 24) (cnt (cdk A k) 24 - rnk (cdk A k) (kL A) k)) 19 (rnk (cdk A k) (kL A) k) (nI k)) 0 22 (nI (cnt (cdk A k) 24 + 1)), ⟨((i1.sh rfl).put rfl).put0 (by omega) (by omega), ?_, ?_, ?_, ?_⟩, fun rc => ?_⟩
      · rw [zu_p, ← cdk_y hc, hcn]
      · rw [← cdk_y hc]
        intro i hi
        rw [zu_q (by omega)]
        exact LO_ins i3 (by omega) hS i hi
      · intro q q0 q19
        rw [zu_q q0, zu_q q19, shT_q q19]; exact i4 q q0 q19
      · intro i hi
        rw [zu_i hi, zu_q (by omega), shT_q (by omega)]; exact i5 i hi
      · have hin : isin A k = true := by
          unfold cand at hc
          rw [Bool.and_eq_true, inb_in hk] at hc
          exact hc.1
        have hml := mks_le A k
        unfold B_X8_makesLong_7
        rw [hr.2.2.1.1, ile_f (by omega) (by omega) (by omega), m_isIn hN hr hw hk, Option.bind_some, hin, if_neg (by decide), m_marks hN hr hw hk, Option.bind_some, k_0, ieq_f (by omega) (by omega) hm.1, i2, m_insLong hN h hw i1 hc i3, g_wr_in (by omega) (by omega), g_lt_e, g_lt_e, zu_q (show (0 : Nat) ≠ 19 by omega), shT_q (show (0 : Nat) ≠ 19 by omega), i2, nI_1, nI_1]
    · have hc' : cand A k = false := by simpa using hc
      refine ⟨τ, ⟨i1, by rw [cdk_n hc']; exact i2, by rw [cdk_n hc']; exact i3, i4, i5⟩, fun rc => ?_⟩
      unfold B_X8_makesLong_7
      rw [hr.2.2.1.1, ile_f (by omega) (by omega) (by omega), m_isIn hN hr hw hk, Option.bind_some]
      unfold cand at hc'
      rw [inb_in hk] at hc'
      cases e : isin A k
      · rw [if_pos zb_f, g_lt_e, nI_1]
      · rw [e, Bool.true_and, decide_eq_false_iff_not] at hc'
        rw [if_neg (by decide), m_marks hN hr hw hk, Option.bind_some, show mks A k = 0 by omega, if_pos nI_0, g_lt_e, nI_1]
  · refine ⟨eqM.rf.put0 (by omega) (by omega), ?_, fun i hi => ?_, fun q q0 _ => zu_q q0, fun i hi => zu_i hi⟩
    · rw [zu_p, cnt_congr (q := fun _ => false) (fun c _ => by unfold cdk; simp)]
      rfl
    · rw [cnt_congr (q := fun _ => false) (fun c _ => by unfold cdk; simp)] at hi
      exact absurd hi (Nat.not_lt_zero _)
end MLong
