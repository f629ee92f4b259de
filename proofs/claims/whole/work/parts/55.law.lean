/-! ===== the law's loop ===== -/
theorem nI_31 (y : Int32) : nI (y.toBitVec.toNat % 32) = y &&& 31 := by
  apply b_ext
  intro i hi
  have h31 : ∀ k, k < 32 → bt 31 k = decide (k < 5) := by decide +kernel
  rw [bt_nI _ _ hi, b_and, h31 i hi]
  refine (Nat.testBit_mod_two_pow y.toBitVec.toNat 5 i).trans ?_
  rw [Bool.and_comm]
  rfl
theorem law_end {p : Program} {e : Env} {s : State} {m : MethodId} {below : List Frame} {meth : Method} {c : Code} {b : Nat} {ω : ZO} (hx : p.tables.exec = Jvm.exec) (hb : c.code = code) (hr : meth.sig.returnType = ret) (hlocks : meth.locks = false) (lv : List (Nat × Value)) (ws : va_W) : GN ω (p, e, room_1, s, m, #[Value.ref b], below, meth, c, lw_Z below #[Value.ref b] s, 4) (fun q => s.heap.size ≤ q) 871 lv [] ws 62 2058 := by
  intro H locs ls hP hD hS hl
  refine lv_iconst (v := 1) hx hb dL_law_871 (by decide) ?_
  refine va_forget (fun q hq => hS.2.2 q hq) ?_
  exact lw_ret hx hb hr hlocks dL_law_872
set_option maxHeartbeats 4000000 in
set_option maxRecDepth 100000 in
theorem law_loop {ω : ZO} {κ : ZK} {A : Nat → Prop} {b L : Nat} {xs : Nat → Int32} {ad am : Nat → Nat} (C : CN ω κ A code wsL_law RL 4 room_1) (hX : zX κ A b L xs) (hL : L ≤ 3072) (fin : ∀ lv ws, GN ω κ A 871 lv [] ws 62 2058) : ∀ (n idx : Nat) (B : AS) (σ τ : ZS), L < idx + n → idx ≤ 5000 → RD B σ → RM B τ → WF B → GN ω κ A 18 (lvL b ad am (nI idx)) [] (wL ω ad am σ τ) 62 2058 := by
  intro n
  induction n with
  | zero =>
    intro idx B σ τ h1 h2 h h3 hw
    refine N_iload_n (pc' := 19) C dL_law_18 3 rfl rfl ?_
    refine N_aload_n (pc' := 20) C dL_law_19 0 rfl rfl ?_
    refine N_slen (pc' := 21) C hX dL_law_20 rfl ?_
    refine N_bipush (pc' := 23) (v := (6 : Int32)) C dL_law_21 (by decide) rfl ?_
    refine N_isub (pc' := 24) C dL_law_23 rfl ?_
    refine N_gt (tgt := 871) (pc' := 27) C dL_law_24 (by decide) rfl (fun _ => fin _ _) (fun hg => absurd ?_ hg)
    rw [k_6, Int32.lt_iff_toInt_lt, pk_sub_toInt (by omega) (by omega), nI_toInt (by omega)]
    omega
  | succ n ih =>
    intro idx B σ τ h1 h2 h h3 hw
    refine N_iload_n (pc' := 19) C dL_law_18 3 rfl rfl ?_
    refine N_aload_n (pc' := 20) C dL_law_19 0 rfl rfl ?_
    refine N_slen (pc' := 21) C hX dL_law_20 rfl ?_
    refine N_bipush (pc' := 23) (v := (6 : Int32)) C dL_law_21 (by decide) rfl ?_
    refine N_isub (pc' := 24) C dL_law_23 rfl ?_
    refine N_gt (tgt := 871) (pc' := 27) C dL_law_24 (by decide) rfl (fun _ => fin _ _) (fun hg => ?_)
    have hin : idx + 6 ≤ L := by
      rw [k_6, Int32.lt_iff_toInt_lt, pk_sub_toInt (by omega) (by omega), nI_toInt (by omega)] at hg
      omega
    have vi : ∀ k, k < 6 → vp_in (nI (idx + k)) L := fun k hk => n_in (by omega) (by omega)
    have v0 : vp_in (nI idx) L := vi 0 (by omega)
    have v1 : vp_in (nI idx + 1) L := by rw [k_1, nI_add]; exact vi 1 (by omega)
    have v2 : vp_in (nI idx + 2) L := by rw [k_2, nI_add]; exact vi 2 (by omega)
    have v3 : vp_in (nI idx + 3) L := by rw [k_3, nI_add]; exact vi 3 (by omega)
    have v4 : vp_in (nI idx + 4) L := by rw [k_4, nI_add]; exact vi 4 (by omega)
    have v5 : vp_in (nI idx + 5) L := by rw [k_5, nI_add]; exact vi 5 (by omega)
    refine N_aload_n (pc' := 28) C dL_law_27 0 rfl rfl ?_
    refine N_iload_n (pc' := 29) C dL_law_28 3 rfl rfl ?_
    refine N_sald (pc' := 30) C hX v0 dL_law_29 rfl ?_
    refine N_bipush (pc' := 32) (v := (31 : Int32)) C dL_law_30 (by decide) rfl ?_
    refine N_iand (pc' := 33) C dL_law_32 rfl ?_
    have nxt : ∀ (B' : AS) (σ' τ' : ZS), RD B' σ' → RM B' τ' → WF B' → GN ω κ A 865 (lvL b ad am (nI idx)) [] (wL ω ad am σ' τ') 62 2058 := by
      intro B' σ' τ' r1 r2 r3
      refine N_iinc (pc' := 868) (v := nI (idx + 6)) (lv' := lvL b ad am (nI (idx + 6))) C dL_law_865 3 rfl (nI_add idx 6) (by decide) [1, 2, 3, 0] rfl rfl ?_
      refine N_goto (pc' := 18) C dL_law_868 (by decide) ?_
      exact ih (idx + 6) B' σ' τ' (by omega) (by omega) r1 r2 r3
    have hc31 := nI_31 (xs (nI idx).toNatClampNeg)
    have hlt : (xs (nI idx).toNatClampNeg).toBitVec.toNat % 32 < 32 := Nat.mod_lt _ (by omega)
    generalize hcc : (xs (nI idx).toNatClampNeg).toBitVec.toNat % 32 = cc at hc31 hlt
    rw [← hc31]
    rcases (by omega : cc = 0 ∨ cc = 1 ∨ cc = 2 ∨ cc = 3 ∨ cc = 4 ∨ cc = 5 ∨ cc = 6 ∨ cc = 7 ∨ cc = 8 ∨ cc = 9 ∨ cc = 10 ∨ cc = 11 ∨ cc = 12 ∨ cc = 13 ∨ cc = 14 ∨ cc = 15 ∨ cc = 16 ∨ cc = 17 ∨ cc = 18 ∨ cc = 19 ∨ cc = 20 ∨ 21 ≤ cc) with rfl | rfl | rfl | rfl | rfl | rfl | rfl | rfl | rfl | rfl | rfl | rfl | rfl | rfl | rfl | rfl | rfl | rfl | rfl | rfl | rfl | hbig
    · exact N_tIn (k := nI 0) (off := 99) (tgt := 132) C rfl dL_law_33 (by decide) (by decide) (by decide) (by decide) (cs_feed C hX h h3 hw v1 v2 v3 v4 v5 (fun σ' τ' r1 r2 => nxt _ σ' τ' r1 r2 (WF_feed hw _ _ _ _ _)))
    · exact N_tIn (k := nI 1) (off := 162) (tgt := 195) C rfl dL_law_33 (by decide) (by decide) (by decide) (by decide) (cs_rules C hX h h3 hw v1 (fun σ' τ' r1 r2 => nxt _ σ' τ' r1 r2 (WF_rules hw _)))
    · exact N_tIn (k := nI 2) (off := 185) (tgt := 218) C rfl dL_law_33 (by decide) (by decide) (by decide) (by decide) (cs_rule C hX h h3 hw v1 (fun σ' τ' r1 r2 => nxt _ σ' τ' r1 r2 hw))
    · exact N_tIn (k := nI 3) (off := 208) (tgt := 241) C rfl dL_law_33 (by decide) (by decide) (by decide) (by decide) (cs_book C hX h h3 hw v1 v2 v3 (fun σ' τ' r1 r2 => nxt _ σ' τ' r1 r2 (WF_book hw _ _ _)))
    · exact N_tIn (k := nI 4) (off := 251) (tgt := 284) C rfl dL_law_33 (by decide) (by decide) (by decide) (by decide) (cs_call C hX h h3 hw v1 (fun σ' τ' r1 r2 => nxt _ σ' τ' r1 r2 (WF_call hw _)))
    · exact N_tIn (k := nI 5) (off := 274) (tgt := 307) C rfl dL_law_33 (by decide) (by decide) (by decide) (by decide) (cs_withdraw C hX h h3 hw v1 (fun σ' τ' r1 r2 => nxt _ σ' τ' r1 r2 (WF_withdraw hw _)))
    · exact N_tIn (k := nI 6) (off := 297) (tgt := 330) C rfl dL_law_33 (by decide) (by decide) (by decide) (by decide) (cs_kin C hX h h3 hw v1 v2 (fun σ' τ' r1 r2 => nxt _ σ' τ' r1 r2 (WF_kin hw _ _)))
    · exact N_tIn (k := nI 7) (off := 330) (tgt := 363) C rfl dL_law_33 (by decide) (by decide) (by decide) (by decide) (cs_friend C hX h h3 hw v1 v2 (fun σ' τ' r1 r2 => nxt _ σ' τ' r1 r2 (WF_friend hw _ _)))
    · exact N_tIn (k := nI 8) (off := 363) (tgt := 396) C rfl dL_law_33 (by decide) (by decide) (by decide) (by decide) (cs_load C hX h h3 hw  (fun σ' τ' r1 r2 => nxt _ σ' τ' r1 r2 hw))
    · exact N_tIn (k := nI 9) (off := 376) (tgt := 409) C rfl dL_law_33 (by decide) (by decide) (by decide) (by decide) (cs_mark C hX h h3 hw v1 v2 v3 (fun σ' τ' r1 r2 => nxt _ σ' τ' r1 r2 (WF_mark hw _ _ _)))
    · exact N_tIn (k := nI 10) (off := 419) (tgt := 452) C rfl dL_law_33 (by decide) (by decide) (by decide) (by decide) (cs_met C hX h h3 hw v1 v2 v3 (fun σ' τ' r1 r2 => nxt _ σ' τ' r1 r2 hw))
    · exact N_tIn (k := nI 11) (off := 462) (tgt := 495) C rfl dL_law_33 (by decide) (by decide) (by decide) (by decide) (cs_third C hX h h3 hw v1 (fun σ' τ' r1 r2 => nxt _ σ' τ' r1 r2 hw))
    · exact N_tIn (k := nI 12) (off := 485) (tgt := 518) C rfl dL_law_33 (by decide) (by decide) (by decide) (by decide) (cs_ballot C hX h h3 hw v1 v2 v3 v4 (fun σ' τ' r1 r2 => nxt _ σ' τ' r1 r2 (WF_ballot hw _ _ _ _)))
    · exact N_tIn (k := nI 13) (off := 538) (tgt := 571) C rfl dL_law_33 (by decide) (by decide) (by decide) (by decide) (cs_close C hX h h3 hw v1 v2 (fun σ' τ' r1 r2 => nxt _ σ' τ' r1 r2 (WF_close hw _ _)))
    · exact N_tIn (k := nI 14) (off := 571) (tgt := 604) C rfl dL_law_33 (by decide) (by decide) (by decide) (by decide) (cs_telling C hX h h3 hw v1 v2 (fun σ' τ' r1 r2 => nxt _ σ' τ' r1 r2 (WF_telling hw _ _)))
    · exact N_tIn (k := nI 15) (off := 604) (tgt := 637) C rfl dL_law_33 (by decide) (by decide) (by decide) (by decide) (cs_told C hX h h3 hw v1 v2 v3 v4 (fun σ' τ' r1 r2 => nxt _ σ' τ' r1 r2 hw))
    · exact N_tIn (k := nI 16) (off := 657) (tgt := 690) C rfl dL_law_33 (by decide) (by decide) (by decide) (by decide) (cs_counted C hX h h3 hw v1 v2 v3 (fun σ' τ' r1 r2 => nxt _ σ' τ' r1 r2 hw))
    · exact N_tIn (k := nI 17) (off := 700) (tgt := 733) C rfl dL_law_33 (by decide) (by decide) (by decide) (by decide) (cs_worth C hX h h3 hw v1 v2 v3 (fun σ' τ' r1 r2 => nxt _ σ' τ' r1 r2 hw))
    · exact N_tIn (k := nI 18) (off := 743) (tgt := 776) C rfl dL_law_33 (by decide) (by decide) (by decide) (by decide) (cs_paradox C hX h h3 hw v1 v2 (fun σ' τ' r1 r2 => nxt _ σ' τ' r1 r2 hw))
    · exact N_tIn (k := nI 19) (off := 776) (tgt := 809) C rfl dL_law_33 (by decide) (by decide) (by decide) (by decide) (cs_look C hX h h3 hw v1 v2 (fun σ' τ' r1 r2 => nxt _ σ' τ' r1 r2 hw))
    · exact N_tIn (k := nI 20) (off := 809) (tgt := 842) C rfl dL_law_33 (by decide) (by decide) (by decide) (by decide) (cs_count C hX h h3 hw v1 (fun σ' τ' r1 r2 => nxt _ σ' τ' r1 r2 hw))
    · exact N_tOut (tgt := 865) C dL_law_33 (Or.inr (by rw [nI_toInt (by omega)]; omega)) (by decide) (nxt B σ τ h h3 hw)
/-! ===== the law's start ===== -/
theorem law_nw : ∀ w ∈ zNws, w ∈ lw_tbl ∧ w.onTables = true := by decide +kernel
theorem st_a0 : Cond.arrayOf (Term.static RX3 "LETTERS" "[I") .int ∈ flatC (Jvm.Cond.and given_1 narrow_1) := by decide +kernel
theorem st_l0 : Cond.eq (Term.length (Term.static RX3 "LETTERS" "[I")) (Term.int 11) ∈ flatC (Jvm.Cond.and given_1 narrow_1) := by decide +kernel
theorem st_e0 : ∀ j, j < 11 → Cond.eq (Term.elem (Term.static RX3 "LETTERS" "[I") (Term.int (Int32.ofNat j))) (Term.int (zTb 0 j)) ∈ flatC (Jvm.Cond.and given_1 narrow_1) := by decide +kernel
theorem st_s0 : Cond.laysStatic RX3 "LETTERS" "[I" ∈ lw_tbl := by decide +kernel
theorem st_a1 : Cond.arrayOf (Term.static RX3 "AT_FIRST" "[I") .int ∈ flatC (Jvm.Cond.and given_1 narrow_1) := by decide +kernel
theorem st_l1 : Cond.eq (Term.length (Term.static RX3 "AT_FIRST" "[I")) (Term.int 11) ∈ flatC (Jvm.Cond.and given_1 narrow_1) := by decide +kernel
theorem st_e1 : ∀ j, j < 11 → Cond.eq (Term.elem (Term.static RX3 "AT_FIRST" "[I") (Term.int (Int32.ofNat j))) (Term.int (zTb 1 j)) ∈ flatC (Jvm.Cond.and given_1 narrow_1) := by decide +kernel
theorem st_s1 : Cond.laysStatic RX3 "AT_FIRST" "[I" ∈ lw_tbl := by decide +kernel
theorem st_a2 : Cond.arrayOf (Term.static RX3 "LEAST" "[I") .int ∈ flatC (Jvm.Cond.and given_1 narrow_1) := by decide +kernel
theorem st_l2 : Cond.eq (Term.length (Term.static RX3 "LEAST" "[I")) (Term.int 11) ∈ flatC (Jvm.Cond.and given_1 narrow_1) := by decide +kernel
theorem st_e2 : ∀ j, j < 11 → Cond.eq (Term.elem (Term.static RX3 "LEAST" "[I") (Term.int (Int32.ofNat j))) (Term.int (zTb 2 j)) ∈ flatC (Jvm.Cond.and given_1 narrow_1) := by decide +kernel
theorem st_s2 : Cond.laysStatic RX3 "LEAST" "[I" ∈ lw_tbl := by decide +kernel
theorem st_a3 : Cond.arrayOf (Term.static RX3 "GREATEST" "[I") .int ∈ flatC (Jvm.Cond.and given_1 narrow_1) := by decide +kernel
theorem st_l3 : Cond.eq (Term.length (Term.static RX3 "GREATEST" "[I")) (Term.int 11) ∈ flatC (Jvm.Cond.and given_1 narrow_1) := by decide +kernel
theorem st_e3 : ∀ j, j < 11 → Cond.eq (Term.elem (Term.static RX3 "GREATEST" "[I") (Term.int (Int32.ofNat j))) (Term.int (zTb 3 j)) ∈ flatC (Jvm.Cond.and given_1 narrow_1) := by decide +kernel
theorem st_s3 : Cond.laysStatic RX3 "GREATEST" "[I" ∈ lw_tbl := by decide +kernel
theorem st_i : Cond.initialized RX3 ∈ lw_tbl := by decide +kernel
theorem law_st {s : State} {b : Nat} {nm : String} {f : Nat → Int32} (hts : ∀ w ∈ lw_tbl, w.before #[Value.ref b] s = true) (hgv : (Jvm.Cond.and given_1 narrow_1).before #[Value.ref b] s = true) (ha : Cond.arrayOf (Term.static RX3 nm "[I") .int ∈ flatC (Jvm.Cond.and given_1 narrow_1)) (hl : Cond.eq (Term.length (Term.static RX3 nm "[I")) (Term.int 11) ∈ flatC (Jvm.Cond.and given_1 narrow_1)) (he : ∀ j, j < 11 → Cond.eq (Term.elem (Term.static RX3 nm "[I") (Term.int (Int32.ofNat j))) (Term.int (f j)) ∈ flatC (Jvm.Cond.and given_1 narrow_1)) (hs : Cond.laysStatic RX3 nm "[I" ∈ lw_tbl) {A : Nat → Prop} (hA : ∀ a : Nat, a < s.heap.size → ¬ A a) : ∃ t : Nat, va_Z RX3 nm "[I" (.ref t) A s s.heap ∧ va_T .int t 11 (fun j => .int (f j)) A s s.heap := by
  have hq := flat_of_before _ hgv
  obtain ⟨t, h1, h2⟩ := va_Tof (tm := Term.static RX3 nm "[I") (ty := .int) (N := 11) (f := fun j => .int (f j)) (A := A) (by decide) (hq _ ha) (va_eqt (hq _ hl)) (fun j hj => va_eqt (hq _ (he j hj))) hA
  exact ⟨t, va_Zref (hts _ hs) (hts _ st_i) h1 hA, h2⟩
theorem law_arr {s : State} {args : Array Value} {ty : FieldType} (h : (Cond.arrayClass ty).before args s = true) : ∃ cA : ClassId, ArrOfT s cA ty ∧ s.vm.findClass ("[" ++ ty.toString) = some cA := by
  obtain ⟨cA, kA, comp, h1, h2, h3⟩ := Cond.arrayClass_spec h
  exact ⟨cA, fun n z => ⟨fun k h => (by cases h), kA, h2, comp, h3⟩, h1⟩

theorem in_0 : Cond.instantiable RX0 6 ∈ lw_tbl := by decide +kernel
theorem in_1 : Cond.instantiable RX1 3 ∈ lw_tbl := by decide +kernel
theorem in_2 : Cond.instantiable RX2 3 ∈ lw_tbl := by decide +kernel
theorem in_3 : Cond.instantiable RX3 4 ∈ lw_tbl := by decide +kernel
theorem in_4 : Cond.instantiable RX4 7 ∈ lw_tbl := by decide +kernel
theorem in_5 : Cond.instantiable RX5 8 ∈ lw_tbl := by decide +kernel
theorem in_6 : Cond.instantiable RX6 2 ∈ lw_tbl := by decide +kernel
theorem in_7 : Cond.instantiable RX7 9 ∈ lw_tbl := by decide +kernel
theorem in_8 : Cond.instantiable RX8 30 ∈ lw_tbl := by decide +kernel
theorem ac_int : Cond.arrayClass .int ∈ lw_tbl := by decide +kernel
theorem ac_byte : Cond.arrayClass .byte ∈ lw_tbl := by decide +kernel
theorem ac_bool : Cond.arrayClass .boolean ∈ lw_tbl := by decide +kernel
theorem lw_a1 : Cond.classLink RL 7 RX7 ∈ wsL_law := by decide +kernel
theorem lw_a2 : Cond.instantiable RX7 9 ∈ wsL_law := by decide +kernel
theorem lw_a3 : Cond.initialized RX7 ∈ wsL_law := by decide +kernel
theorem lw_a4 : Cond.methodLink RL 9 yX7_init ∈ wsL_law := by decide +kernel
theorem lw_a5 : Cond.instanceMethod yX7_init ∈ wsL_law := by decide +kernel
theorem lw_b1 : Cond.classLink RL 10 RX8 ∈ wsL_law := by decide +kernel
theorem lw_b2 : Cond.instantiable RX8 30 ∈ wsL_law := by decide +kernel
theorem lw_b3 : Cond.initialized RX8 ∈ wsL_law := by decide +kernel
theorem lw_b4 : Cond.methodLink RL 12 yX8_init ∈ wsL_law := by decide +kernel
theorem lw_b5 : Cond.instanceMethod yX8_init ∈ wsL_law := by decide +kernel
theorem lw_iX7 : ∀ w ∈ wsX70, w ∈ wsL_law := by decide +kernel
theorem lw_iX8 : ∀ w ∈ wsX80, w ∈ wsL_law := by decide +kernel
set_option maxHeartbeats 4000000 in
set_option maxRecDepth 100000 in
theorem law_make {ω : ZO} {κ : ZK} {A : Nat → Prop} {b : Nat} (C : CN ω κ A code wsL_law RL 4 room_1) (g : ∀ ad am : Nat → Nat, GN ω κ A 18 (lvL b ad am (nI 0)) [] (wL ω ad am σD0 σM0) 62 2058) : GN ω κ A 0 [(0, .ref b)] [] [] 0 0 := by
  refine N_new (pc' := 3) (kc2 := 1) (ks2 := 9) (ci := 7) (fs := [.null, .null, .null, .null, .null, .null, .null, .null, .null]) C tyX7 tyX7_ok lw_iX7 lw_a1 lw_a2 lw_a3 rfl (fun j hj => by rcases (show j = 0 ∨ j = 1 ∨ j = 2 ∨ j = 3 ∨ j = 4 ∨ j = 5 ∨ j = 6 ∨ j = 7 ∨ j = 8 by omega) with rfl | rfl | rfl | rfl | rfl | rfl | rfl | rfl | rfl <;> rfl) (Nat.le_of_ble_eq_true rfl) (Nat.le_of_ble_eq_true rfl) dL_law_0 rfl rfl rfl (fun q0 => ?_)
  refine N_dup (pc' := 4) C dL_law_3 rfl rfl ?_
  refine N_callI (pc' := 7) (mc := 35) (ms := 1022) (kc2 := 36) (ks2 := 1031) C [] [0] [] (m_X7_init ω q0) rfl gL_law_X7_init rfl rfl lw_a3 lw_a4 lw_a5 rfl (by decide +kernel) ⟨Nat.le_of_ble_eq_true rfl, Nat.le_of_ble_eq_true rfl⟩ dL_law_4 rfl ⟨Nat.le_of_ble_eq_true rfl, Nat.le_of_ble_eq_true rfl⟩ (by decide) rfl rfl (by decide) (Nat.le_of_ble_eq_true rfl) rfl rfl (fun a1 => ?_)
  refine N_astore_n (pc' := 8) (lv' := [(0, .ref b), (1, .ref q0)]) C dL_law_7 (by decide) [1, 0] rfl rfl ?_
  refine N_new (pc' := 11) (kc2 := 37) (ks2 := 1061) (ci := 8) (fs := [.null, .int 0, .null, .null, .int 0, .null, .null, .null, .null, .null, .null, .null, .null, .null, .null, .null, .null, .null, .null, .null, .null, .null, .int 0, .int 0, .null, .null, .null, .null, .null, .int 0]) C tyX8 tyX8_ok lw_iX8 lw_b1 lw_b2 lw_b3 rfl (fun j hj => by rcases (show j = 0 ∨ j = 1 ∨ j = 2 ∨ j = 3 ∨ j = 4 ∨ j = 5 ∨ j = 6 ∨ j = 7 ∨ j = 8 ∨ j = 9 ∨ j = 10 ∨ j = 11 ∨ j = 12 ∨ j = 13 ∨ j = 14 ∨ j = 15 ∨ j = 16 ∨ j = 17 ∨ j = 18 ∨ j = 19 ∨ j = 20 ∨ j = 21 ∨ j = 22 ∨ j = 23 ∨ j = 24 ∨ j = 25 ∨ j = 26 ∨ j = 27 ∨ j = 28 ∨ j = 29 by omega) with rfl | rfl | rfl | rfl | rfl | rfl | rfl | rfl | rfl | rfl | rfl | rfl | rfl | rfl | rfl | rfl | rfl | rfl | rfl | rfl | rfl | rfl | rfl | rfl | rfl | rfl | rfl | rfl | rfl | rfl <;> rfl) (Nat.le_of_ble_eq_true rfl) (Nat.le_of_ble_eq_true rfl) dL_law_8 rfl rfl rfl (fun q1 => ?_)
  refine N_dup (pc' := 12) C dL_law_11 rfl rfl ?_
  refine N_callI (pc' := 15) (mc := 25) (ms := 997) (kc2 := 62) (ks2 := 2058) C _ [36] [0, 1, 2, 3, 4, 5, 6, 7, 8, 9, 10, 11, 12, 13, 14, 15, 16, 17, 18, 19, 20, 21, 22, 23, 24, 25, 26, 27, 28, 29, 30, 31, 32, 33, 34, 35] (m_X8_init ω q1) rfl gL_law_X8_init rfl rfl lw_b3 lw_b4 lw_b5 rfl (by decide +kernel) ⟨Nat.le_of_ble_eq_true rfl, Nat.le_of_ble_eq_true rfl⟩ dL_law_12 rfl ⟨Nat.le_of_ble_eq_true rfl, Nat.le_of_ble_eq_true rfl⟩ (by decide) rfl rfl (by decide) (Nat.le_of_ble_eq_true rfl) rfl rfl (fun a2 => ?_)
  refine N_astore_n (pc' := 16) (lv' := [(0, .ref b), (1, .ref q0), (2, .ref q1)]) C dL_law_15 (by decide) [1, 2, 0] rfl rfl ?_
  refine N_iconst (pc' := 17) (v := nI 0) C dL_law_16 (by decide) rfl ?_
  refine N_istore_n (pc' := 18) (lv' := lvL b (ca q0 a1) (ca q1 a2) (nI 0)) C dL_law_17 (by decide) [1, 2, 3, 0] rfl rfl ?_
  exact g (ca q0 a1) (ca q1 a2)
set_option maxHeartbeats 4000000 in
set_option maxRecDepth 100000 in
/-- THE LAW, from its entry -/
theorem whole_start {p : Program} {e : Env} {s : State} {m : MethodId} {below : List Frame} {meth : Method} {c : Code} (l : Launch) {b L : Nat} {xs : Nat → Int32} (hL : L ≤ 3072) (C0 : lw_At p s m meth c b L xs) : W p l e room_1 s m #[Value.ref b] below meth c s.heap [] 0 0 (lw_Z below #[Value.ref b] s) (entryFrame m ([Value.ref b] : List Value).toArray 4) := by
  obtain ⟨hx, hb, hr, hml, hown, hts, hX, hbl, hlocks, hgv⟩ := id C0
  have hA0 : ∀ a : Nat, a < s.heap.size → ¬ (fun q : Nat => s.heap.size ≤ q) a := fun a h => Nat.not_le.mpr h
  obtain ⟨s0, z0⟩ := law_st hts hgv st_a0 st_l0 st_e0 st_s0 hA0
  obtain ⟨s1, z1⟩ := law_st hts hgv st_a1 st_l1 st_e1 st_s1 hA0
  obtain ⟨s2, z2⟩ := law_st hts hgv st_a2 st_l2 st_e2 st_s2 hA0
  obtain ⟨s3, z3⟩ := law_st hts hgv st_a3 st_l3 st_e3 st_s3 hA0
  obtain ⟨cI, hI1, hI2⟩ := law_arr (hts _ ac_int)
  obtain ⟨cB, hB1, hB2⟩ := law_arr (hts _ ac_byte)
  obtain ⟨cZ, hZ1, hZ2⟩ := law_arr (hts _ ac_bool)
  obtain ⟨c0, i0, k0⟩ := u_known (C := RX0) (T := TX0) (N := 6) (n := 6) hts wsL_f0 (hts _ in_0)
  obtain ⟨c1, i1, k1⟩ := u_known (C := RX1) (T := TX1) (N := 3) (n := 3) hts wsL_f1 (hts _ in_1)
  obtain ⟨c2, i2, k2⟩ := u_known (C := RX2) (T := TX2) (N := 3) (n := 3) hts wsL_f2 (hts _ in_2)
  obtain ⟨c3, i3, k3⟩ := u_known (C := RX3) (T := TX3) (N := 4) (n := 4) hts wsL_f3 (hts _ in_3)
  obtain ⟨c4, i4, k4⟩ := u_known (C := RX4) (T := TX4) (N := 7) (n := 7) hts wsL_f4 (hts _ in_4)
  obtain ⟨c5, i5, k5⟩ := u_known (C := RX5) (T := TX5) (N := 8) (n := 8) hts wsL_f5 (hts _ in_5)
  obtain ⟨c6, i6, k6⟩ := u_known (C := RX6) (T := TX6) (N := 2) (n := 2) hts wsL_f6 (hts _ in_6)
  obtain ⟨c7, i7, k7⟩ := u_known (C := RX7) (T := TX7) (N := 9) (n := 9) hts wsL_f7 (hts _ in_7)
  obtain ⟨c8, i8, k8⟩ := u_known (C := RX8) (T := TX8) (N := 30) (n := 30) hts wsL_f8 (hts _ in_8)
  obtain ⟨D, hKc⟩ : ∃ D : va_G, ∀ (k : Nat) (q : vw_C), vwCl[k]? = some q → u_Kn s q.1 q.2.1 q.2.2 (D.1 k) (D.2 k) := by
    refine ⟨(fun k => match k with | 0 => c0 | 1 => c1 | 2 => c2 | 3 => c3 | 4 => c4 | 5 => c5 | 6 => c6 | 7 => c7 | _ => c8, fun k => match k with | 0 => i0 | 1 => i1 | 2 => i2 | 3 => i3 | 4 => i4 | 5 => i5 | 6 => i6 | 7 => i7 | _ => i8), ?_⟩
    intro k q hq
    match k, hq with
    | 0, hq => cases hq; exact k0
    | 1, hq => cases hq; exact k1
    | 2, hq => cases hq; exact k2
    | 3, hq => cases hq; exact k3
    | 4, hq => cases hq; exact k4
    | 5, hq => cases hq; exact k5
    | 6, hq => cases hq; exact k6
    | 7, hq => cases hq; exact k7
    | 8, hq => cases hq; exact k8
    | k + 9, hq => simp [vwCl] at hq
  have hKt : va_K D vwCl [(cI, .int), (cB, .byte), (cZ, .boolean)] s := by
    refine ⟨hKc, fun k q h => ?_⟩
    match k, h with
    | 0, h => cases h; exact ⟨hI1, hI2⟩
    | 1, h => cases h; exact ⟨hB1, hB2⟩
    | 2, h => cases h; exact ⟨hZ1, hZ2⟩
    | k + 3, h => simp at h
  have C : CN (l, D, cI, cB, cZ, (fun q => s.heap.size ≤ q), (fun k => match k with | 0 => s0 | 1 => s1 | 2 => s2 | _ => s3), fun _ => 0) (p, e, room_1, s, m, #[Value.ref b], below, meth, c, lw_Z below #[Value.ref b] s, 4) (fun q => s.heap.size ≤ q) code wsL_law RL 4 room_1 := by
    refine ⟨⟨hx, hb, hml, hown, fun w h => hts w (wsL_law_in w h)⟩, hKt, fun _ h => h, ⟨fun w hw => ?_, fun k hk => ?_⟩, hlocks, rfl, rfl⟩
    · exact va_tabs (law_nw w hw).2 (A := #[Value.ref b]) rfl (hts w (law_nw w hw).1)
    · match k, hk with
      | 0, _ => exact z0
      | 1, _ => exact z1
      | 2, _ => exact z2
      | 3, _ => exact z3
      | k + 4, hk => omega
  have key := law_make (b := b) C (fun ad am => law_loop (xs := xs) C ⟨hX, hbl, Nat.not_le.mpr hbl⟩ hL (fun lv ws => law_end hx hb hr hlocks lv ws) (L + 1) 0 A0 σD0 σM0 (by omega) (by omega) RD_A0 RM_A0 WF_A0)
  have hl := lv_entry ([.ref b] : List Value) (n := 4) (Nat.le_of_ble_eq_true rfl)
  rw [lg_entry_eq]
  exact key s.heap [] _ (fun k q h => by simp at h) ⟨fun i j p q h => by simp at h, fun k q h => by simp at h⟩ va_S.rf hl
