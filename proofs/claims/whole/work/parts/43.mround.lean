/-! ===== the reference: rounds ===== -/
section MRound
variable {N : Nat} {σ τ : ZS} {A : AS} {T L : Nat → Bool} {g : Nat → Nat} {s : Nat}
def lwr (A : AS) (s : Nat) (T L : Nat → Bool) (g : Nat → Nat) (j b i : Nat) : Bool := L (g i) && decide (plc A s T j (g i) < plc A s T j b)
theorem m_fst (hN : 200 ≤ N) (h : RM A τ) (hw : WF A) (hg : PG A T g) (hl : LSt τ T g) (hs : s < 2) (hL : ∀ b, T b = true → (τ 25 b = 0) = (L b = true)) {j b : Nat} (hj : j < 7) (hb : b < 24) {u v : Int32} (K : Int32 → Option Int32) : L_X8_firstPlaces_38 N τ (nI s) (nI b) u (nI j) (plI (plc A s T j b)) (fun y _ => K y) N (zb (decide (plc A s T j b < 24))) (0 : Int32) = K (zb (decide (plc A s T j b < 24) && decide (cnt (lwr A s T L g j b) (cnt T 24) = 0))) := by
  have hc := cnt_le T 24
  have pb := plk_le (A := A) (s := s) (T := T) (j := j) (b := b) (k := 12) (by omega)
  unfold L_X8_firstPlaces_38
  rcases pb with pb | pb
  · have pb : plc A s T j b = 24 := pb
    rw [decide_eq_false (show ¬ (plc A s T j b < 24) by omega), Bool.false_and]
    refine lq2_seq (B := B_X8_firstPlaces_38 N τ (nI s) (nI b) u (nI j) (plI (plc A s T j b)) (fun y _ => K y)) (fun _ => zb false) (fun k => nI k) _ 0 (fun k hk => absurd hk (by omega)) (fun rc => ?_) N (by omega)
    unfold B_X8_firstPlaces_38
    rw [hl.1]
    by_cases c : cnt T 24 ≤ 0
    · rw [ile_t (by omega) (by omega) c]
    · rw [ile_f (by omega) (by omega) c, if_pos zb_f]
  · have pb : plc A s T j b < 12 := pb
    rw [decide_eq_true (show plc A s T j b < 24 by omega), Bool.true_and]
    have bd : ∀ k, k < cnt T 24 → ∀ rc, B_X8_firstPlaces_38 N τ (nI s) (nI b) u (nI j) (plI (plc A s T j b)) (fun y _ => K y) rc (1 : Int32) (nI k) = rc (zb (!lwr A s T L g j b k)) (nI (k + 1)) := by
      intro k hk rc
      obtain ⟨hgk, hTk⟩ := hg.1 k hk
      unfold B_X8_firstPlaces_38
      rw [hl.1, ile_f (by omega) (by omega) (by omega), if_neg (by decide), g_rd_in (by omega) (by omega), hl.2 k hk, g_rd_in hgk (by omega)]
      simp only [hL (g k) hTk]
      unfold lwr
      cases eL : L (g k)
      · rw [if_neg (by decide), if_pos trivial, g_lt_e, nI_1]; rfl
      · have pk := plk_le (A := A) (s := s) (T := T) (j := j) (b := g k) (k := 12) (by omega)
        rw [if_pos rfl, g_rd_in (by omega) (by omega), hl.2 k hk, m_placeOn hN h hw hg hl hj hs hgk, Option.bind_some]
        simp only [pl_m1 pk]
        rcases pk with pk | pk
        · have pk : plc A s T j (g k) = 24 := pk
          rw [if_pos pk, g_lt_e, nI_1, decide_eq_false (show ¬ (plc A s T j (g k) < plc A s T j b) by omega)]; rfl
        · have pk : plc A s T j (g k) < 12 := pk
          rw [if_neg (show ¬ (plc A s T j (g k) = 24) by omega)]
          unfold plI
          rw [if_pos (show plc A s T j (g k) < 24 by omega), if_pos (show plc A s T j b < 24 by omega)]
          by_cases c : plc A s T j (g k) < plc A s T j b
          · rw [ilt_t (by omega) (by omega) c, g_lt_e, nI_1, decide_eq_true c]; rfl
          · rw [ilt_f (by omega) (by omega) c, g_lt_e, nI_1, decide_eq_false c]; rfl
    rcases find_cases (lwr A s T L g j b) (cnt T 24) with ⟨hf, hall⟩ | ⟨e, he, hq, hbf, hf⟩
    · have e0 : cnt (lwr A s T L g j b) (cnt T 24) = 0 := by
        by_cases c : cnt (lwr A s T L g j b) (cnt T 24) = 0
        · exact c
        · obtain ⟨i, hi, hq⟩ := cnt_pos.mp (show 0 < cnt (lwr A s T L g j b) (cnt T 24) by omega)
          rw [hall i hi] at hq; cases hq
      rw [decide_eq_true e0]
      refine lq2_seq (B := B_X8_firstPlaces_38 N τ (nI s) (nI b) u (nI j) (plI (plc A s T j b)) (fun y _ => K y)) (fun _ => 1) (fun k => nI k) _ (cnt T 24) (fun k hk rc => by rw [bd k hk, hall k hk]; rfl) (fun rc => ?_) N (by omega)
      unfold B_X8_firstPlaces_38
      rw [hl.1, ile_t (by omega) (by omega) (by omega)]; rfl
    · have e0 : ¬ cnt (lwr A s T L g j b) (cnt T 24) = 0 := by
        have := cnt_pos.mpr ⟨e, he, hq⟩
        omega
      rw [decide_eq_false e0]
      refine lq2_seq (B := B_X8_firstPlaces_38 N τ (nI s) (nI b) u (nI j) (plI (plc A s T j b)) (fun y _ => K y)) (fun k => if k ≤ e then 1 else 0) (fun k => nI k) _ (e + 1) (fun k hk rc => ?_) (fun rc => ?_) N (by omega)
      · rw [if_pos (show k ≤ e by omega), bd k (by omega)]
        by_cases ek : k = e
        · rw [ek, hq, if_neg (by omega)]; rfl
        · rw [hbf k (by omega), if_pos (by omega)]; rfl
      · unfold B_X8_firstPlaces_38
        rw [hl.1, if_neg (show ¬ (e + 1 ≤ e) by omega)]
        by_cases c : cnt T 24 ≤ e + 1
        · rw [ile_t (by omega) (by omega) c]; rfl
        · rw [ile_f (by omega) (by omega) c, if_pos rfl]; rfl
theorem lwr_cnt (hg : PG A T g) (hLT : ∀ b, L b = true → T b = true) (hT : ∀ b, T b = true → b < 24) {j b : Nat} : (cnt (lwr A s T L g j b) (cnt T 24) = 0) = (cnt (fun c => L c && decide (plc A s T j c < plc A s T j b)) 24 = 0) := by
  apply propext
  constructor
  · intro h0
    by_cases c : cnt (fun c => L c && decide (plc A s T j c < plc A s T j b)) 24 = 0
    · exact c
    · obtain ⟨d, hd, hq⟩ := cnt_pos.mp (show 0 < cnt (fun c => L c && decide (plc A s T j c < plc A s T j b)) 24 by omega)
      have hLd : L d = true := by rw [Bool.and_eq_true] at hq; exact hq.1
      obtain ⟨i, hi, he⟩ := hg.2.1 d (hLT d hLd)
      have := cnt_pos (p := lwr A s T L g j b) |>.mpr ⟨i, hi, by unfold lwr; rw [he]; exact hq⟩
      omega
  · intro h0
    by_cases c : cnt (lwr A s T L g j b) (cnt T 24) = 0
    · exact c
    · obtain ⟨i, hi, hq⟩ := cnt_pos.mp (show 0 < cnt (lwr A s T L g j b) (cnt T 24) by omega)
      have := cnt_pos (p := fun c => L c && decide (plc A s T j c < plc A s T j b)) |>.mpr ⟨g i, (hg.1 i hi).1, hq⟩
      omega
theorem m_held (hN : 200 ≤ N) (h : RM A τ) (hw : WF A) (hg : PG A T g) (hl : LSt τ T g) (hs : s < 2) (hL : ∀ b, T b = true → (τ 25 b = 0) = (L b = true)) (hLT : ∀ b, L b = true → T b = true) {b : Nat} (hb : L b = true) : f_X8_firstPlaces N τ (nI s) (nI b) = some (nI (hld A s T L b)) := by
  have hT : ∀ b, T b = true → b < 24 := fun b hb => by have := hg.2.2.2 b hb; have := hw.1.1; omega
  have hb24 := hT b (hLT b hb)
  unfold f_X8_firstPlaces L_X8_firstPlaces_5
  refine lq2_seq (B := B_X8_firstPlaces_5 N τ (nI s) (nI b) (fun y24 y25 => some y24)) (fun k => nI (cnt (fun j => isF A s T L j b) k)) (fun k => nI k) _ 7 ?_ ?_ N (by omega)
  · intro k hk rc
    have pb := plk_le (A := A) (s := s) (T := T) (j := k) (b := b) (k := 12) (by omega)
    have eF : isF A s T L k b = (decide (plc A s T k b < 24) && decide (cnt (lwr A s T L g k b) (cnt T 24) = 0)) := by
      unfold isF
      rw [hb, Bool.true_and]
      congr 1
      exact decide_eq_decide.mpr (by rw [lwr_cnt hg hLT hT])
    unfold B_X8_firstPlaces_5
    rw [k_7, ile_f (by omega) (by omega) (by omega), m_placeOn hN h hw hg hl hk hs hb24, Option.bind_some]
    have f1 := m_fst hN h hw hg hl hs hL hk hb24 (u := nI (cnt (fun j => isF A s T L j b) k)) (v := 0) (fun y12 => if y12 = (0 : Int32) then (g_lt ((nI (cnt (fun j => isF A s T L j b) k) + (0 : Int32))) (fun x14 => g_lt (nI k + (1 : Int32)) (fun x15 => rc x14 x15))) else (g_lt ((nI (cnt (fun j => isF A s T L j b) k) + (1 : Int32))) (fun x16 => g_lt (nI k + (1 : Int32)) (fun x17 => rc x16 x17))))
    rw [← eF] at f1
    have fin : (if zb (isF A s T L k b) = (0 : Int32) then (g_lt ((nI (cnt (fun j => isF A s T L j b) k) + (0 : Int32))) (fun x14 => g_lt (nI k + (1 : Int32)) (fun x15 => rc x14 x15))) else (g_lt ((nI (cnt (fun j => isF A s T L j b) k) + (1 : Int32))) (fun x16 => g_lt (nI k + (1 : Int32)) (fun x17 => rc x16 x17)))) = rc (nI (cnt (fun j => isF A s T L j b) (k + 1))) (nI (k + 1)) := by
      cases e : isF A s T L k b
      · rw [if_pos zb_f, g_lt_e, g_lt_e, nI_z, nI_1, cnt_f (p := fun j => isF A s T L j b) e]
      · rw [if_neg (by decide), g_lt_e, g_lt_e, nI_1, nI_1, cnt_t (p := fun j => isF A s T L j b) e]
    rw [fin] at f1
    simp only [pl_m1 pb]
    rcases pb with pb | pb
    · have pb : plc A s T k b = 24 := pb
      rw [if_pos pb]
      rw [decide_eq_false (show ¬ (plc A s T k b < 24) by omega)] at f1
      exact f1
    · have pb : plc A s T k b < 12 := pb
      rw [if_neg (show ¬ (plc A s T k b = 24) by omega)]
      rw [decide_eq_true (show plc A s T k b < 24 by omega)] at f1
      exact f1
  · intro rc
    rfl
def OI (A : AS) (s : Nat) (T L : Nat → Bool) (g : Nat → Nat) (k : Nat) (y3 y4 : Int32) : Prop := (y3 = -1 ∧ ∀ i, i < k → L (g i) = false) ∨ ∃ i, i < k ∧ L (g i) = true ∧ y3 = nI (g i) ∧ y4 = nI (hld A s T L (g i)) ∧ ∀ i', i' < k → L (g i') = true → g i' ≠ g i → ahd (kR A s T (cC A) L) (g i') (g i) = true
theorem hld_le (A : AS) (s : Nat) (T L : Nat → Bool) (b : Nat) : hld A s T L b ≤ 7 := cnt_le _ 7
theorem kR_ahd {a b : Nat} : ahd (kR A s T (cC A) L) a b = (decide (hld A s T L b < hld A s T L a) || (decide (hld A s T L a = hld A s T L b) && tfst A s T a b)) := by
  have h1 := tieN_le A s T (cC A) a
  have h2 := tieN_le A s T (cC A) b
  apply Bool.eq_iff_iff.mpr
  rw [ahd_iff, Bool.or_eq_true, Bool.and_eq_true, decide_eq_true_iff, decide_eq_true_iff]
  unfold tfst kR
  rw [decide_eq_true_iff]
  omega
theorem m_outLoop (hN : 200 ≤ N) (h : RM A τ) (hw : WF A) (hg : PG A T g) (hl : LSt τ T g) (hs : s < 2) (hL : ∀ b, T b = true → (τ 25 b = 0) = (L b = true)) (hLT : ∀ b, L b = true → T b = true) {u : Int32} (K : Int32 → Option ZS) : ∃ y3 y4, OI A s T L g (cnt T 24) y3 y4 ∧ L_X8_rounds_46 N τ (nI s) u (fun y _ _ => K y) N (-1) 0 0 = K y3 := by
  have hc := cnt_le T 24
  have hT : ∀ b, T b = true → b < 24 := fun b hb => by have := hg.2.2.2 b hb; have := hw.1.1; omega
  unfold L_X8_rounds_46
  have key : ∀ d k y3 y4 n, k + d = cnt T 24 → d < n → OI A s T L g k y3 y4 → ∃ z3 z4, OI A s T L g (cnt T 24) z3 z4 ∧ lq3 (B_X8_rounds_46 N τ (nI s) u (fun y _ _ => K y)) n y3 y4 (nI k) = K z3 := by
    intro d
    induction d with
    | zero =>
      intro k y3 y4 n hk hn hI
      obtain ⟨n, rfl⟩ : ∃ z, n = z + 1 := ⟨n - 1, by omega⟩
      have hk : k = cnt T 24 := by omega
      subst hk
      refine ⟨y3, y4, hI, ?_⟩
      show B_X8_rounds_46 N τ (nI s) u (fun y _ _ => K y) (lq3 _ n) y3 y4 (nI (cnt T 24)) = _
      unfold B_X8_rounds_46
      rw [hl.1, ile_t (by omega) (by omega) (by omega)]
    | succ d ih =>
      intro k y3 y4 n hk hn hI
      obtain ⟨n, rfl⟩ : ∃ z, n = z + 1 := ⟨n - 1, by omega⟩
      have hkT : k < cnt T 24 := by omega
      obtain ⟨hgk, hTk⟩ := hg.1 k hkT
      have go : ∃ z3 z4, OI A s T L g (k + 1) z3 z4 ∧ lq3 (B_X8_rounds_46 N τ (nI s) u (fun y _ _ => K y)) (n + 1) y3 y4 (nI k) = lq3 (B_X8_rounds_46 N τ (nI s) u (fun y _ _ => K y)) n z3 z4 (nI (k + 1)) := by
        show ∃ z3 z4, _ ∧ B_X8_rounds_46 N τ (nI s) u (fun y _ _ => K y) (lq3 (B_X8_rounds_46 N τ (nI s) u (fun y _ _ => K y)) n) y3 y4 (nI k) = _
        unfold B_X8_rounds_46
        rw [hl.1, ile_f (by omega) (by omega) (by omega), g_rd_in (by omega) (by omega), hl.2 k hkT, g_rd_in hgk (by omega)]
        simp only [hL (g k) hTk]
        cases eL : L (g k)
        · rw [if_neg (by decide)]
          simp only [g_lt_e, nI_1]
          refine ⟨y3, y4, ?_, rfl⟩
          rcases hI with ⟨e1, e2⟩ | ⟨i, hi, e1, e2, e3, e4⟩
          · left
            refine ⟨e1, fun i hi => ?_⟩
            by_cases e : i = k
            · rw [e]; exact eL
            · exact e2 i (by omega)
          · right
            refine ⟨i, by omega, e1, e2, e3, fun i' hi' hL' hne => ?_⟩
            by_cases e : i' = k
            · rw [e, eL] at hL'; cases hL'
            · exact e4 i' (by omega) hL' hne
        · rw [if_pos rfl, m_held hN h hw hg hl hs hL hLT eL, Option.bind_some]
          simp only [g_lt_e, nI_1]
          have hk7 := hld_le A s T L (g k)
          rcases hI with ⟨e1, e2⟩ | ⟨i, hi, e1, e2, e3, e4⟩
          · rw [if_pos e1]
            refine ⟨_, _, Or.inr ⟨k, by omega, eL, rfl, rfl, fun i' hi' hL' hne => ?_⟩, rfl⟩
            by_cases e : i' = k
            · rw [e] at hne; exact absurd rfl hne
            · rw [e2 i' (by omega)] at hL'; cases hL'
          · have hgi := (hg.1 i (by omega)).1
            have hi7 := hld_le A s T L (g i)
            have hne : g k ≠ g i := fun e => by have := hg.2.2.1 k i hkT (by omega) e; omega
            have keep : ahd (kR A s T (cC A) L) (g k) (g i) = true → OI A s T L g (k + 1) y3 y4 := fun ha => Or.inr ⟨i, by omega, e1, e2, e3, fun i' hi' hL' hn => by
              by_cases e : i' = k
              · rw [e]; exact ha
              · exact e4 i' (by omega) hL' hn⟩
            have take : ahd (kR A s T (cC A) L) (g k) (g i) = false → OI A s T L g (k + 1) (nI (g k)) (nI (hld A s T L (g k))) := fun ha => Or.inr ⟨k, by omega, eL, rfl, rfl, fun i' hi' hL' hn => by
              have hik : ahd (kR A s T (cC A) L) (g i) (g k) = true := by
                rcases ahd_tot (kf := kR A s T (cC A) L) hne with x | x
                · rw [x] at ha; cases ha
                · exact x
              by_cases e : i' = k
              · rw [e] at hn; exact absurd rfl hn
              · by_cases e' : g i' = g i
                · rw [e']; exact hik
                · exact ahd_tr (e4 i' (by omega) hL' e') hik⟩
            rw [kR_ahd] at keep take
            rw [if_neg (show ¬ (y3 = -1) by rw [e2, n_m1 (by omega)]; exact id), e3]
            by_cases c1 : hld A s T L (g i) < hld A s T L (g k)
            · rw [ilt_t (by omega) (by omega) c1]
              exact ⟨y3, y4, keep (by rw [decide_eq_true c1]; rfl), by rw [e3]⟩
            · rw [ilt_f (by omega) (by omega) c1]
              rw [decide_eq_false c1, Bool.false_or] at keep take
              by_cases c2 : hld A s T L (g k) = hld A s T L (g i)
              · rw [decide_eq_true c2, Bool.true_and] at keep take
                rw [ieq_t c2, e2, m_isFirst hN h hw hg hl hs hgk hgi, Option.bind_some]
                cases ef : tfst A s T (g k) (g i)
                · rw [if_pos zb_f]
                  exact ⟨_, _, take ef, rfl⟩
                · rw [if_neg (by decide)]
                  exact ⟨y3, y4, keep ef, by rw [e2, e3]⟩
              · rw [decide_eq_false c2, Bool.false_and] at take
                rw [ieq_f (by omega) (by omega) c2]
                exact ⟨_, _, take rfl, rfl⟩
      obtain ⟨z3, z4, g1, g2⟩ := go
      obtain ⟨w3, w4, g3, g4⟩ := ih (k + 1) z3 z4 n (by omega) (by omega) g1
      exact ⟨w3, w4, g3, by rw [g2, g4]⟩
  exact key (cnt T 24) 0 (-1) 0 N (by omega) (by omega) (Or.inl ⟨rfl, fun i hi => absurd hi (by omega)⟩)
theorem m_out (hg : PG A T g) (hT : ∀ b, T b = true → b < 24) {k : Nat} (hk : k < cnt T 24) {y3 y4 : Int32} (hI : OI A s T (LR A s T (cC A) k) g (cnt T 24) y3 y4) : y3 = nI (oR A s T (cC A) k) := by
  obtain ⟨-, h2⟩ := LR_spec A s T (cC A) k (by omega)
  obtain ⟨o1, -, o3, o4⟩ := h2 hk
  obtain ⟨i, hi, hgi⟩ := hg.2.1 _ (LR_T o3)
  rcases hI with ⟨-, e2⟩ | ⟨m, hm, e1, e2, -, e4⟩
  · have := e2 i hi
    rw [hgi, o3] at this; cases this
  · rw [e2]
    by_cases e : oR A s T (cC A) k = g m
    · rw [e]
    · have a1 := e4 i hi (by rw [hgi]; exact o3) (by rw [hgi]; exact e)
      rw [hgi] at a1
      have a2 := o4 (g m) (hg.1 m hm).1 e1 (fun x => e x.symm)
      rw [ahd_no a1] at a2
      cases a2
theorem m_rounds (hN : 200 ≤ N) (h : RM A σ) (hw : WF A) (hg : PG A T g) (hl : LSt σ T g) (hs : s < 2) : ∃ τ, f_X8_rounds N σ (nI s) = some τ ∧ (∀ b, T b = true → τ 25 b = iI (vR A s T (cC A) b)) ∧ (∀ q, q ≠ 25 → τ q = σ q) := by
  have hnb := hw.1.1
  have hc := cnt_le T 24
  have hT : ∀ b, T b = true → b < 24 := fun b hb => by have := hg.2.2.2 b hb; omega
  have eM : ∀ τ : ZS, (∀ q, q ≠ 25 → τ q = σ q) → eqM σ τ ∧ LSt τ T g := fun τ i2 => ⟨⟨fun p hp _ => i2 p (fun e => by rw [e] at hp; cases hp), by rw [i2 0 (by omega)], by rw [i2 0 (by omega)]⟩, hl.of (by rw [i2 0 (by omega)]) (by rw [i2 21 (by omega)])⟩
  unfold f_X8_rounds L_X8_rounds_2 L_X8_rounds_30 L_X8_rounds_147
  -- all in
  have inv1 := lq2_inv (B := B_X8_rounds_2 N (nI s) (fun y4 s5 => lq2 (B_X8_rounds_30 N (nI s) (fun y21 s22 => lq2 (B_X8_rounds_147 N (fun y29 s30 => some s30)) N (0 : Int32) s22)) N (1 : Int32) s5)) (fun k τ => (∀ i, i < k → i < cnt T 24 → τ 25 (g i) = 0) ∧ (∀ q, q ≠ 25 → τ q = σ q)) 0 (cnt T 24) (by omega) ?_ σ ⟨fun i hi => absurd hi (by omega), fun _ _ => rfl⟩
  · obtain ⟨τ1, ⟨a1, a2⟩, hl1⟩ := inv1
    have a3 : ∀ b, T b = true → τ1 25 b = 0 := fun b hb => by
      obtain ⟨i, hi, e⟩ := hg.2.1 b hb
      rw [← e]; exact a1 i hi hi
    -- the last stage, whatever the rounds left
    have last : ∀ τ2 : ZS, (∀ q, q ≠ 25 → τ2 q = σ q) → (∀ b, T b = true → τ2 25 b = if LR A s T (cC A) (cnt T 24 - 1) b then 0 else nI (cnt (fun i => LR A s T (cC A) i b) (cnt T 24 - 1))) → ∃ τ, lq2 (B_X8_rounds_147 N (fun y29 s30 => some s30)) N (0 : Int32) τ2 = some τ ∧ (∀ b, T b = true → τ 25 b = iI (vR A s T (cC A) b)) ∧ (∀ q, q ≠ 25 → τ q = σ q) := by
      intro τ2 b1 b2
      have fv : ∀ b, T b = true → vR A s T (cC A) b = (cnt (fun i => LR A s T (cC A) i b) (cnt T 24 - 1 + 1) : Int) := fun b hb => by
        unfold vR
        have : 0 < cnt T 24 := cnt_pos.mpr ⟨b, hT b hb, hb⟩
        rw [show cnt T 24 - 1 + 1 = cnt T 24 by omega]
      have inv3 := lq2_inv (B := B_X8_rounds_147 N (fun y29 s30 => some s30)) (fun k τ => (∀ i, i < cnt T 24 → τ 25 (g i) = if i < k then iI (vR A s T (cC A) (g i)) else τ2 25 (g i)) ∧ (∀ q, q ≠ 25 → τ q = σ q)) 0 (cnt T 24) (by omega) ?_ τ2 ⟨fun i hi => by rw [if_neg (by omega)], b1⟩
      · obtain ⟨τ, ⟨c1, c2⟩, hl3⟩ := inv3
        refine ⟨τ, hl3 _ N (by omega) (fun rc => ?_), fun b hb => ?_, c2⟩
        · unfold B_X8_rounds_147
          rw [c2 0 (by omega), hl.1, ile_t (by omega) (by omega) (by omega)]
        · obtain ⟨i, hi, e⟩ := hg.2.1 b hb
          rw [← e, c1 i hi, if_pos hi]
      · intro k _ hk τ hI
        obtain ⟨c1, c2⟩ := hI
        obtain ⟨hgk, hTk⟩ := hg.1 k hk
        have v0 := c1 k hk
        rw [if_neg (by omega), b2 _ hTk] at v0
        have fvk := fv _ hTk
        have hcl := cnt_le (fun i => LR A s T (cC A) i (g k)) (cnt T 24 - 1)
        cases eL : LR A s T (cC A) (cnt T 24 - 1) (g k)
        · rw [eL, if_neg (by decide)] at v0
          have hp : 0 < cnt (fun i => LR A s T (cC A) i (g k)) (cnt T 24 - 1) := by
            apply cnt_pos.mpr
            refine ⟨0, ?_, hTk⟩
            by_cases z : 0 < cnt T 24 - 1
            · exact z
            · rw [show cnt T 24 - 1 = 0 by omega] at eL
              rw [show LR A s T (cC A) 0 (g k) = T (g k) from rfl, hTk] at eL; cases eL
          refine ⟨τ, ⟨fun i hi => ?_, c2⟩, fun rc => ?_⟩
          · by_cases e : i = k
            · subst e
              rw [if_pos (by omega), v0, fvk, cnt_f (p := fun i_1 => LR A s T (cC A) i_1 (g i)) eL, iI_nI]
            · rw [c1 i hi]
              by_cases e2 : i < k
              · rw [if_pos e2, if_pos (by omega)]
              · rw [if_neg e2, if_neg (by omega)]
          · unfold B_X8_rounds_147
            rw [c2 0 (by omega), hl.1, ile_f (by omega) (by omega) (by omega), g_rd_in (by omega) (by omega), c2 21 (by omega), hl.2 k hk, g_rd_in hgk (by omega), v0, if_neg (by rw [k_0, n_eq (by omega) (by omega)]; omega), g_lt_e, nI_1]
        · rw [eL, if_pos rfl] at v0
          have e1 : cnt (fun i => LR A s T (cC A) i (g k)) (cnt T 24 - 1 + 1) = cnt T 24 := by
            rw [cnt_all (fun i hi => LR_mono (k := cnt T 24 - 1) (by omega) eL)]
            omega
          rw [e1] at fvk
          refine ⟨zu τ 25 (g k) (nI (cnt T 24)), ⟨fun i hi => ?_, fun q hq => by rw [zu_q hq]; exact c2 q hq⟩, fun rc => ?_⟩
          · by_cases e : i = k
            · subst e
              rw [if_pos (by omega), zu_p, fvk, iI_nI]
            · rw [zu_i (fun x => e (hg.2.2.1 i k hi hk x)), c1 i hi]
              by_cases e2 : i < k
              · rw [if_pos e2, if_pos (by omega)]
              · rw [if_neg e2, if_neg (by omega)]
          · unfold B_X8_rounds_147
            rw [c2 0 (by omega), hl.1, ile_f (by omega) (by omega) (by omega), g_rd_in (by omega) (by omega), c2 21 (by omega), hl.2 k hk, g_rd_in hgk (by omega), v0, if_pos rfl, g_rd_in (by omega) (by omega), hl.2 k hk, g_wr_in hgk (by omega), g_lt_e, nI_1]
    -- the rounds
    by_cases hn1 : cnt T 24 ≤ 1
    · obtain ⟨τ, t1, t2, t3⟩ := last τ1 a2 (fun b hb => by
        rw [show cnt T 24 - 1 = 0 by omega, show LR A s T (cC A) 0 b = T b from rfl, hb, if_pos rfl, a3 b hb])
      refine ⟨τ, ?_, t2, t3⟩
      refine hl1 _ N (by omega) (fun rc => ?_)
      unfold B_X8_rounds_2
      rw [a2 0 (by omega), hl.1, ile_t (by omega) (by omega) (by omega)]
      refine lq2_seq (B := B_X8_rounds_30 N (nI s) (fun y21 s22 => lq2 (B_X8_rounds_147 N (fun y29 s30 => some s30)) N (0 : Int32) s22)) (fun _ => 1) (fun _ => τ1) _ 0 (fun k hk => absurd hk (by omega)) (fun rc => ?_) N (by omega)
      unfold B_X8_rounds_30
      rw [a2 0 (by omega), hl.1, k_1, ile_t (by omega) (by omega) hn1]
      exact t1
    · have inv2 := lq2_inv (B := B_X8_rounds_30 N (nI s) (fun y21 s22 => lq2 (B_X8_rounds_147 N (fun y29 s30 => some s30)) N (0 : Int32) s22)) (fun k τ => (∀ q, q ≠ 25 → τ q = σ q) ∧ (∀ b, T b = true → τ 25 b = if LR A s T (cC A) (k - 1) b then 0 else nI (cnt (fun i => LR A s T (cC A) i b) (k - 1)))) 1 (cnt T 24) (by omega) ?_ τ1 ⟨a2, fun b hb => by rw [show LR A s T (cC A) (1 - 1) b = T b from rfl, hb, if_pos rfl, a3 b hb]⟩
      · obtain ⟨τ2, ⟨b1, b2⟩, hl2⟩ := inv2
        obtain ⟨τ, t1, t2, t3⟩ := last τ2 b1 b2
        refine ⟨τ, ?_, t2, t3⟩
        refine hl1 _ N (by omega) (fun rc => ?_)
        unfold B_X8_rounds_2
        rw [a2 0 (by omega), hl.1, ile_t (by omega) (by omega) (by omega)]
        refine hl2 _ N (by omega) (fun rc => ?_)
        unfold B_X8_rounds_30
        rw [b1 0 (by omega), hl.1, ile_t (by omega) (by omega) (by omega)]
        exact t1
      · intro k hk1 hk τ hI
        obtain ⟨b1, b2⟩ := hI
        obtain ⟨he, hl'⟩ := eM τ b1
        obtain ⟨-, h2⟩ := LR_spec A s T (cC A) (k - 1) (by omega)
        obtain ⟨o1, -, o3, -⟩ := h2 (by omega)
        have hL : ∀ b, T b = true → (τ 25 b = 0) = (LR A s T (cC A) (k - 1) b = true) := by
          intro b hb
          rw [b2 b hb]
          cases eL : LR A s T (cC A) (k - 1) b
          · have hp : 0 < cnt (fun i => LR A s T (cC A) i b) (k - 1) := by
              apply cnt_pos.mpr
              refine ⟨0, ?_, hb⟩
              by_cases z : 0 < k - 1
              · exact z
              · rw [show k - 1 = 0 by omega] at eL
                rw [show LR A s T (cC A) 0 b = T b from rfl, hb] at eL; cases eL
            have hcl := cnt_le (fun i => LR A s T (cC A) i b) (k - 1)
            rw [if_neg (by decide), k_0, n_eq (by omega) (by omega)]
            simp; omega
          · simp
        refine ⟨zu τ 25 (oR A s T (cC A) (k - 1)) (nI k), ⟨fun q hq => by rw [zu_q hq]; exact b1 q hq, fun b hb => ?_⟩, fun rc => ?_⟩
        · rw [show k + 1 - 1 = (k - 1) + 1 by omega, LR_s]
          by_cases e : b = oR A s T (cC A) (k - 1)
          · rw [e, zu_p, decide_eq_false (by simp), Bool.and_false, if_neg (by decide), cnt_all (fun i hi => LR_mono (k := k - 1) (by omega) o3), show k - 1 + 1 = k by omega]
          · rw [zu_i e, b2 b hb, decide_eq_true e, Bool.and_true]
            cases eL : LR A s T (cC A) (k - 1) b
            · rw [if_neg (by decide), if_neg (by decide), cnt_f (p := fun i => LR A s T (cC A) i b) eL]
            · rw [if_pos rfl, if_pos rfl]
        · unfold B_X8_rounds_30
          rw [b1 0 (by omega), hl.1, ile_f (by omega) (by omega) (by omega)]
          obtain ⟨y3, y4, hO, hE⟩ := m_outLoop hN (h.eq he) hw hg hl' hs hL (fun b hb => LR_T hb) (u := nI k) (fun y16 => g_wr 24 τ 25 y16 (nI k) (fun s19 => g_lt (nI k + (1 : Int32)) (fun x20 => rc x20 s19)))
          rw [hE, m_out hg hT (by omega) hO, g_wr_in o1 (by omega), g_lt_e, nI_1]
  · intro k _ hk τ hI
    obtain ⟨a1, a2⟩ := hI
    obtain ⟨hgk, hTk⟩ := hg.1 k hk
    refine ⟨zu τ 25 (g k) 0, ⟨fun i hi hin => ?_, fun q hq => by rw [zu_q hq]; exact a2 q hq⟩, fun rc => ?_⟩
    · by_cases e : i = k
      · subst e; exact zu_p
      · rw [zu_i (fun x => e (hg.2.2.1 i k hin hk x))]
        exact a1 i (by omega) hin
    · unfold B_X8_rounds_2
      rw [a2 0 (by omega), hl.1, ile_f (by omega) (by omega) (by omega), g_rd_in (by omega) (by omega), a2 21 (by omega), hl.2 k hk, g_wr_in hgk (by omega), g_lt_e, nI_1]
end MRound
