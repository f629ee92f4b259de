/-! ===== the constructors ===== -/
def fBeg (f : Nat → Int32) : Nat → Int32 := upd (upd (upd (upd (upd (upd (upd (upd (upd (upd (upd f (0 : Int32).toNatClampNeg (50 : Int32)) (1 : Int32).toNatClampNeg (900 : Int32)) (2 : Int32).toNatClampNeg (0 : Int32)) (3 : Int32).toNatClampNeg (365 : Int32)) (4 : Int32).toNatClampNeg (3 : Int32)) (5 : Int32).toNatClampNeg (2 : Int32)) (6 : Int32).toNatClampNeg (30 : Int32)) (7 : Int32).toNatClampNeg (6 : Int32)) (8 : Int32).toNatClampNeg (3 : Int32)) (9 : Int32).toNatClampNeg (0 : Int32)) (10 : Int32).toNatClampNeg (0 : Int32)
theorem ol_X6_init : Cond.methodLink RX6 3 objectInit ∈ wsX6_init := by decide +kernel
theorem ob_X6_init : Cond.instanceMethod objectInit ∈ wsX6_init := by decide +kernel
theorem oc_X6_init : Cond.code objectInit ⟨#[0xb1]⟩ 1 none ∈ wsX6_init := by decide +kernel
theorem iu_X6_init_X6 : ∀ w ∈ wsX60, w ∈ wsX6_init := by decide +kernel
theorem ac_X6_init_int : Cond.arrayClass .int ∈ wsX6_init := by decide +kernel
theorem lk_X6_init_11 : Cond.fieldLink RX6 11 "PrizeDesk$Tape" "bytes" "[I" ∈ wsX6_init := by decide +kernel
theorem lk_X6_init_15 : Cond.fieldLink RX6 15 "PrizeDesk$Tape" "size" "I" ∈ wsX6_init := by decide +kernel
set_option maxRecDepth 100000 in
set_option maxHeartbeats 4000000 in
theorem m_X6_init (ω : ZO) (h0 : Nat) : ZN ω yX6_init wsX6_init { frames := 1, cells := 1, slots := 80, locals := 12 } [.ref h0] [(h0, .inr (6, [.null, .int 0]))] 1 80 (fun a => [(h0, .inr (6, [.ref (a 1), .int (0 : Int32)])), ((a 1), .inl (zI ω, 80, .inl (fun _ => 0)))]) := by
  refine ZN.go (cc := cX6_init) (maxL := 1) (own := RX6) (lv := [(0, .ref h0)]) (by decide) rfl rfl (Nat.le_of_ble_eq_true rfl) rfl (fun κ A C hR hi => ?_)
  have hi := hi rfl
  refine N_aload_n (pc' := 1) C dX6_init_0 0 rfl rfl ?_
  refine N_obj (pc' := 4) C ol_X6_init ob_X6_init oc_X6_init dX6_init_1 rfl (Nat.le_of_ble_eq_true rfl) (Nat.le_of_ble_eq_true rfl) ?_
  refine N_aload_n (pc' := 5) C dX6_init_4 0 rfl rfl ?_
  refine N_bipush (pc' := 7) (v := (80 : Int32)) C dX6_init_5 (by decide) rfl ?_
  refine N_newa (at0 := .int) (pc' := 9) (kc2 := 1) (ks2 := 80) C 0 rfl (fun _ _ h => h) rfl ac_X6_init_int (fun _ => rfl) (by decide) (N9 := 80) (by decide) (by decide) (Nat.le_of_ble_eq_true rfl) (Nat.le_of_ble_eq_true rfl) dX6_init_7 rfl rfl rfl (fun q1 => ?_)
  refine N_putR (pc' := 12) (ws2 := [(h0, .inr (6, [.ref q1, .int 0])), (q1, .inl (zI ω, 80, .inl (fun _ => 0)))]) C hi tyX6 tyX6_ok nmX6 0 rfl rfl 0 (by decide) (Nat.le_of_ble_eq_true rfl) iu_X6_init_X6 lk_X6_init_11 rfl rfl rfl rfl rfl dX6_init_9 rfl ?_
  refine N_aload_n (pc' := 13) C dX6_init_12 0 rfl rfl ?_
  refine N_iconst (pc' := 14) (v := (0 : Int32)) C dX6_init_13 (by decide) rfl ?_
  refine N_putI (pc' := 17) (ws2 := [(h0, .inr (6, [.ref q1, .int (0 : Int32)])), (q1, .inl (zI ω, 80, .inl (fun _ => 0)))]) C tyX6 tyX6_ok nmX6 0 rfl rfl 1 (by decide) (Nat.le_of_ble_eq_true rfl) iu_X6_init_X6 lk_X6_init_15 rfl (by decide +kernel) rfl dX6_init_14 rfl ?_
  exact N_ret C hR (fun k => ([h0, q1] : List Nat).getD k 0) rfl dX6_init_17 (Nat.le_of_ble_eq_true rfl) (Nat.le_of_ble_eq_true rfl)
def fAX3_1 : Nat → Int32 := upd (upd (upd (upd (upd (upd (upd (upd (upd (upd (upd (fun _ => 0) (0 : Int32).toNatClampNeg (50 : Int32)) (1 : Int32).toNatClampNeg (900 : Int32)) (2 : Int32).toNatClampNeg (0 : Int32)) (3 : Int32).toNatClampNeg (365 : Int32)) (4 : Int32).toNatClampNeg (3 : Int32)) (5 : Int32).toNatClampNeg (2 : Int32)) (6 : Int32).toNatClampNeg (30 : Int32)) (7 : Int32).toNatClampNeg (6 : Int32)) (8 : Int32).toNatClampNeg (3 : Int32)) (9 : Int32).toNatClampNeg (0 : Int32)) (10 : Int32).toNatClampNeg (0 : Int32)
theorem ol_X3_init : Cond.methodLink RX3 3 objectInit ∈ wsX3_init := by decide +kernel
theorem ob_X3_init : Cond.instanceMethod objectInit ∈ wsX3_init := by decide +kernel
theorem oc_X3_init : Cond.code objectInit ⟨#[0xb1]⟩ 1 none ∈ wsX3_init := by decide +kernel
theorem iu_X3_init_X3 : ∀ w ∈ wsX30, w ∈ wsX3_init := by decide +kernel
theorem ac_X3_init_int : Cond.arrayClass .int ∈ wsX3_init := by decide +kernel
theorem lk_X3_init_11 : Cond.fieldLink RX3 11 "PrizeDesk$Rules" "numbers" "[I" ∈ wsX3_init := by decide +kernel
theorem lk_X3_init_15 : Cond.fieldLink RX3 15 "PrizeDesk$Rules" "drafted" "[I" ∈ wsX3_init := by decide +kernel
theorem lk_X3_init_18 : Cond.fieldLink RX3 18 "PrizeDesk$Rules" "place" "I" ∈ wsX3_init := by decide +kernel
theorem lk_X3_init_22 : Cond.fieldLink RX3 22 "PrizeDesk$Rules" "fault" "I" ∈ wsX3_init := by decide +kernel
theorem lk_X3_init_25 : Cond.fieldLink RX3 25 "PrizeDesk$Rules" "AT_FIRST" "[I" ∈ wsX3_init := by decide +kernel
set_option maxRecDepth 100000 in
set_option maxHeartbeats 4000000 in
theorem m_X3_init (ω : ZO) (h0 : Nat) : ZN ω yX3_init wsX3_init { frames := 1, cells := 2, slots := 22, locals := 12 } [.ref h0] [(h0, .inr (3, [.null, .null, .int 0, .int 0]))] 2 22 (fun a => [(h0, .inr (3, [.ref (a 1), .ref (a 2), .int (0 : Int32), .int (0 : Int32)])), ((a 1), .inl (zI ω, 11, .inl (fAX3_1))), ((a 2), .inl (zI ω, 11, .inl (fun _ => 0)))]) := by
  refine ZN.go (cc := cX3_init) (maxL := 2) (own := RX3) (lv := [(0, .ref h0)]) (by decide) rfl rfl (Nat.le_of_ble_eq_true rfl) rfl (fun κ A C hR hi => ?_)
  have hi := hi rfl
  refine N_aload_n (pc' := 1) C dX3_init_0 0 rfl rfl ?_
  refine N_obj (pc' := 4) C ol_X3_init ob_X3_init oc_X3_init dX3_init_1 rfl (Nat.le_of_ble_eq_true rfl) (Nat.le_of_ble_eq_true rfl) ?_
  refine N_aload_n (pc' := 5) C dX3_init_4 0 rfl rfl ?_
  refine N_bipush (pc' := 7) (v := (11 : Int32)) C dX3_init_5 (by decide) rfl ?_
  refine N_newa (at0 := .int) (pc' := 9) (kc2 := 1) (ks2 := 11) C 0 rfl (fun _ _ h => h) rfl ac_X3_init_int (fun _ => rfl) (by decide) (N9 := 11) (by decide) (by decide) (Nat.le_of_ble_eq_true rfl) (Nat.le_of_ble_eq_true rfl) dX3_init_7 rfl rfl rfl (fun q1 => ?_)
  refine N_putR (pc' := 12) (ws2 := [(h0, .inr (3, [.ref q1, .null, .int 0, .int 0])), (q1, .inl (zI ω, 11, .inl (fun _ => 0)))]) C hi tyX3 tyX3_ok nmX3 0 rfl rfl 0 (by decide) (Nat.le_of_ble_eq_true rfl) iu_X3_init_X3 lk_X3_init_11 rfl rfl rfl rfl rfl dX3_init_9 rfl ?_
  refine N_aload_n (pc' := 13) C dX3_init_12 0 rfl rfl ?_
  refine N_bipush (pc' := 15) (v := (11 : Int32)) C dX3_init_13 (by decide) rfl ?_
  refine N_newa (at0 := .int) (pc' := 17) (kc2 := 2) (ks2 := 22) C 0 rfl (fun _ _ h => h) rfl ac_X3_init_int (fun _ => rfl) (by decide) (N9 := 11) (by decide) (by decide) (Nat.le_of_ble_eq_true rfl) (Nat.le_of_ble_eq_true rfl) dX3_init_15 rfl rfl rfl (fun q2 => ?_)
  refine N_putR (pc' := 20) (ws2 := [(h0, .inr (3, [.ref q1, .ref q2, .int 0, .int 0])), (q1, .inl (zI ω, 11, .inl (fun _ => 0))), (q2, .inl (zI ω, 11, .inl (fun _ => 0)))]) C hi tyX3 tyX3_ok nmX3 0 rfl rfl 1 (by decide) (Nat.le_of_ble_eq_true rfl) iu_X3_init_X3 lk_X3_init_15 rfl rfl rfl rfl rfl dX3_init_17 rfl ?_
  refine N_aload_n (pc' := 21) C dX3_init_20 0 rfl rfl ?_
  refine N_iconst (pc' := 22) (v := (0 : Int32)) C dX3_init_21 (by decide) rfl ?_
  refine N_putI (pc' := 25) (ws2 := [(h0, .inr (3, [.ref q1, .ref q2, .int (0 : Int32), .int 0])), (q1, .inl (zI ω, 11, .inl (fun _ => 0))), (q2, .inl (zI ω, 11, .inl (fun _ => 0)))]) C tyX3 tyX3_ok nmX3 0 rfl rfl 2 (by decide) (Nat.le_of_ble_eq_true rfl) iu_X3_init_X3 lk_X3_init_18 rfl (by decide +kernel) rfl dX3_init_22 rfl ?_
  refine N_aload_n (pc' := 26) C dX3_init_25 0 rfl rfl ?_
  refine N_iconst (pc' := 27) (v := (0 : Int32)) C dX3_init_26 (by decide) rfl ?_
  refine N_putI (pc' := 30) (ws2 := [(h0, .inr (3, [.ref q1, .ref q2, .int (0 : Int32), .int (0 : Int32)])), (q1, .inl (zI ω, 11, .inl (fun _ => 0))), (q2, .inl (zI ω, 11, .inl (fun _ => 0)))]) C tyX3 tyX3_ok nmX3 0 rfl rfl 3 (by decide) (Nat.le_of_ble_eq_true rfl) iu_X3_init_X3 lk_X3_init_22 rfl (by decide +kernel) rfl dX3_init_27 rfl ?_
  refine N_iconst (pc' := 31) (v := (0 : Int32)) C dX3_init_30 (by decide) rfl ?_
  refine N_istore_n (pc' := 32) (lv' := [(0, .ref h0), (1, .int (0 : Int32))]) C dX3_init_31 (by decide) [1, 0] rfl rfl ?_
  refine N_iload_n (pc' := 33) C dX3_init_32 1 rfl rfl ?_
  refine N_bipush (pc' := 35) (v := (11 : Int32)) C dX3_init_33 (by decide) rfl ?_
  refine N_ge_f (pc' := 38) (tgt := 55) C dX3_init_35 (by decide) rfl (by decide) ?_
  refine N_aload_n (pc' := 39) C dX3_init_38 0 rfl rfl ?_
  refine N_get (pc' := 42) C 0 rfl rfl 0 (by decide) rfl iu_X3_init_X3 lk_X3_init_11 dX3_init_39 rfl ?_
  refine N_iload_n (pc' := 43) C dX3_init_42 1 rfl rfl ?_
  refine N_gets (pc' := 46) C 1 (by decide) lk_X3_init_25 dX3_init_43 rfl ?_
  refine N_iload_n (pc' := 47) C dX3_init_46 1 rfl rfl ?_
  refine N_tald (pc' := 48) (v := (50 : Int32)) C 1 (by decide) (by unfold vp_in; decide) (by decide) dX3_init_47 rfl ?_
  refine N_iast (pc' := 49) (ws2 := [(h0, .inr (3, [.ref q1, .ref q2, .int (0 : Int32), .int (0 : Int32)])), (q1, .inl (zI ω, 11, .inl (upd (fun _ => 0) (0 : Int32).toNatClampNeg (50 : Int32)))), (q2, .inl (zI ω, 11, .inl (fun _ => 0)))]) C 1 rfl (by unfold vp_in; decide) rfl dX3_init_48 rfl ?_
  refine N_iinc (pc' := 52) (v := (1 : Int32)) (lv' := [(0, .ref h0), (1, .int (1 : Int32))]) C dX3_init_49 1 rfl (by decide) (by decide) [1, 0] rfl rfl ?_
  refine N_goto (pc' := 32) C dX3_init_52 (by decide) ?_
  refine N_iload_n (pc' := 33) C dX3_init_32 1 rfl rfl ?_
  refine N_bipush (pc' := 35) (v := (11 : Int32)) C dX3_init_33 (by decide) rfl ?_
  refine N_ge_f (pc' := 38) (tgt := 55) C dX3_init_35 (by decide) rfl (by decide) ?_
  refine N_aload_n (pc' := 39) C dX3_init_38 0 rfl rfl ?_
  refine N_get (pc' := 42) C 0 rfl rfl 0 (by decide) rfl iu_X3_init_X3 lk_X3_init_11 dX3_init_39 rfl ?_
  refine N_iload_n (pc' := 43) C dX3_init_42 1 rfl rfl ?_
  refine N_gets (pc' := 46) C 1 (by decide) lk_X3_init_25 dX3_init_43 rfl ?_
  refine N_iload_n (pc' := 47) C dX3_init_46 1 rfl rfl ?_
  refine N_tald (pc' := 48) (v := (900 : Int32)) C 1 (by decide) (by unfold vp_in; decide) (by decide) dX3_init_47 rfl ?_
  refine N_iast (pc' := 49) (ws2 := [(h0, .inr (3, [.ref q1, .ref q2, .int (0 : Int32), .int (0 : Int32)])), (q1, .inl (zI ω, 11, .inl (upd (upd (fun _ => 0) (0 : Int32).toNatClampNeg (50 : Int32)) (1 : Int32).toNatClampNeg (900 : Int32)))), (q2, .inl (zI ω, 11, .inl (fun _ => 0)))]) C 1 rfl (by unfold vp_in; decide) rfl dX3_init_48 rfl ?_
  refine N_iinc (pc' := 52) (v := (2 : Int32)) (lv' := [(0, .ref h0), (1, .int (2 : Int32))]) C dX3_init_49 1 rfl (by decide) (by decide) [1, 0] rfl rfl ?_
  refine N_goto (pc' := 32) C dX3_init_52 (by decide) ?_
  refine N_iload_n (pc' := 33) C dX3_init_32 1 rfl rfl ?_
  refine N_bipush (pc' := 35) (v := (11 : Int32)) C dX3_init_33 (by decide) rfl ?_
  refine N_ge_f (pc' := 38) (tgt := 55) C dX3_init_35 (by decide) rfl (by decide) ?_
  refine N_aload_n (pc' := 39) C dX3_init_38 0 rfl rfl ?_
  refine N_get (pc' := 42) C 0 rfl rfl 0 (by decide) rfl iu_X3_init_X3 lk_X3_init_11 dX3_init_39 rfl ?_
  refine N_iload_n (pc' := 43) C dX3_init_42 1 rfl rfl ?_
  refine N_gets (pc' := 46) C 1 (by decide) lk_X3_init_25 dX3_init_43 rfl ?_
  refine N_iload_n (pc' := 47) C dX3_init_46 1 rfl rfl ?_
  refine N_tald (pc' := 48) (v := (0 : Int32)) C 1 (by decide) (by unfold vp_in; decide) (by decide) dX3_init_47 rfl ?_
  refine N_iast (pc' := 49) (ws2 := [(h0, .inr (3, [.ref q1, .ref q2, .int (0 : Int32), .int (0 : Int32)])), (q1, .inl (zI ω, 11, .inl (upd (upd (upd (fun _ => 0) (0 : Int32).toNatClampNeg (50 : Int32)) (1 : Int32).toNatClampNeg (900 : Int32)) (2 : Int32).toNatClampNeg (0 : Int32)))), (q2, .inl (zI ω, 11, .inl (fun _ => 0)))]) C 1 rfl (by unfold vp_in; decide) rfl dX3_init_48 rfl ?_
  refine N_iinc (pc' := 52) (v := (3 : Int32)) (lv' := [(0, .ref h0), (1, .int (3 : Int32))]) C dX3_init_49 1 rfl (by decide) (by decide) [1, 0] rfl rfl ?_
  refine N_goto (pc' := 32) C dX3_init_52 (by decide) ?_
  refine N_iload_n (pc' := 33) C dX3_init_32 1 rfl rfl ?_
  refine N_bipush (pc' := 35) (v := (11 : Int32)) C dX3_init_33 (by decide) rfl ?_
  refine N_ge_f (pc' := 38) (tgt := 55) C dX3_init_35 (by decide) rfl (by decide) ?_
  refine N_aload_n (pc' := 39) C dX3_init_38 0 rfl rfl ?_
  refine N_get (pc' := 42) C 0 rfl rfl 0 (by decide) rfl iu_X3_init_X3 lk_X3_init_11 dX3_init_39 rfl ?_
  refine N_iload_n (pc' := 43) C dX3_init_42 1 rfl rfl ?_
  refine N_gets (pc' := 46) C 1 (by decide) lk_X3_init_25 dX3_init_43 rfl ?_
  refine N_iload_n (pc' := 47) C dX3_init_46 1 rfl rfl ?_
  refine N_tald (pc' := 48) (v := (365 : Int32)) C 1 (by decide) (by unfold vp_in; decide) (by decide) dX3_init_47 rfl ?_
  refine N_iast (pc' := 49) (ws2 := [(h0, .inr (3, [.ref q1, .ref q2, .int (0 : Int32), .int (0 : Int32)])), (q1, .inl (zI ω, 11, .inl (upd (upd (upd (upd (fun _ => 0) (0 : Int32).toNatClampNeg (50 : Int32)) (1 : Int32).toNatClampNeg (900 : Int32)) (2 : Int32).toNatClampNeg (0 : Int32)) (3 : Int32).toNatClampNeg (365 : Int32)))), (q2, .inl (zI ω, 11, .inl (fun _ => 0)))]) C 1 rfl (by unfold vp_in; decide) rfl dX3_init_48 rfl ?_
  refine N_iinc (pc' := 52) (v := (4 : Int32)) (lv' := [(0, .ref h0), (1, .int (4 : Int32))]) C dX3_init_49 1 rfl (by decide) (by decide) [1, 0] rfl rfl ?_
  refine N_goto (pc' := 32) C dX3_init_52 (by decide) ?_
  refine N_iload_n (pc' := 33) C dX3_init_32 1 rfl rfl ?_
  refine N_bipush (pc' := 35) (v := (11 : Int32)) C dX3_init_33 (by decide) rfl ?_
  refine N_ge_f (pc' := 38) (tgt := 55) C dX3_init_35 (by decide) rfl (by decide) ?_
  refine N_aload_n (pc' := 39) C dX3_init_38 0 rfl rfl ?_
  refine N_get (pc' := 42) C 0 rfl rfl 0 (by decide) rfl iu_X3_init_X3 lk_X3_init_11 dX3_init_39 rfl ?_
  refine N_iload_n (pc' := 43) C dX3_init_42 1 rfl rfl ?_
  refine N_gets (pc' := 46) C 1 (by decide) lk_X3_init_25 dX3_init_43 rfl ?_
  refine N_iload_n (pc' := 47) C dX3_init_46 1 rfl rfl ?_
  refine N_tald (pc' := 48) (v := (3 : Int32)) C 1 (by decide) (by unfold vp_in; decide) (by decide) dX3_init_47 rfl ?_
  refine N_iast (pc' := 49) (ws2 := [(h0, .inr (3, [.ref q1, .ref q2, .int (0 : Int32), .int (0 : Int32)])), (q1, .inl (zI ω, 11, .inl (upd (upd (upd (upd (upd (fun _ => 0) (0 : Int32).toNatClampNeg (50 : Int32)) (1 : Int32).toNatClampNeg (900 : Int32)) (2 : Int32).toNatClampNeg (0 : Int32)) (3 : Int32).toNatClampNeg (365 : Int32)) (4 : Int32).toNatClampNeg (3 : Int32)))), (q2, .inl (zI ω, 11, .inl (fun _ => 0)))]) C 1 rfl (by unfold vp_in; decide) rfl dX3_init_48 rfl ?_
  refine N_iinc (pc' := 52) (v := (5 : Int32)) (lv' := [(0, .ref h0), (1, .int (5 : Int32))]) C dX3_init_49 1 rfl (by decide) (by decide) [1, 0] rfl rfl ?_
  refine N_goto (pc' := 32) C dX3_init_52 (by decide) ?_
  refine N_iload_n (pc' := 33) C dX3_init_32 1 rfl rfl ?_
  refine N_bipush (pc' := 35) (v := (11 : Int32)) C dX3_init_33 (by decide) rfl ?_
  refine N_ge_f (pc' := 38) (tgt := 55) C dX3_init_35 (by decide) rfl (by decide) ?_
  refine N_aload_n (pc' := 39) C dX3_init_38 0 rfl rfl ?_
  refine N_get (pc' := 42) C 0 rfl rfl 0 (by decide) rfl iu_X3_init_X3 lk_X3_init_11 dX3_init_39 rfl ?_
  refine N_iload_n (pc' := 43) C dX3_init_42 1 rfl rfl ?_
  refine N_gets (pc' := 46) C 1 (by decide) lk_X3_init_25 dX3_init_43 rfl ?_
  refine N_iload_n (pc' := 47) C dX3_init_46 1 rfl rfl ?_
  refine N_tald (pc' := 48) (v := (2 : Int32)) C 1 (by decide) (by unfold vp_in; decide) (by decide) dX3_init_47 rfl ?_
  refine N_iast (pc' := 49) (ws2 := [(h0, .inr (3, [.ref q1, .ref q2, .int (0 : Int32), .int (0 : Int32)])), (q1, .inl (zI ω, 11, .inl (upd (upd (upd (upd (upd (upd (fun _ => 0) (0 : Int32).toNatClampNeg (50 : Int32)) (1 : Int32).toNatClampNeg (900 : Int32)) (2 : Int32).toNatClampNeg (0 : Int32)) (3 : Int32).toNatClampNeg (365 : Int32)) (4 : Int32).toNatClampNeg (3 : Int32)) (5 : Int32).toNatClampNeg (2 : Int32)))), (q2, .inl (zI ω, 11, .inl (fun _ => 0)))]) C 1 rfl (by unfold vp_in; decide) rfl dX3_init_48 rfl ?_
  refine N_iinc (pc' := 52) (v := (6 : Int32)) (lv' := [(0, .ref h0), (1, .int (6 : Int32))]) C dX3_init_49 1 rfl (by decide) (by decide) [1, 0] rfl rfl ?_
  refine N_goto (pc' := 32) C dX3_init_52 (by decide) ?_
  refine N_iload_n (pc' := 33) C dX3_init_32 1 rfl rfl ?_
  refine N_bipush (pc' := 35) (v := (11 : Int32)) C dX3_init_33 (by decide) rfl ?_
  refine N_ge_f (pc' := 38) (tgt := 55) C dX3_init_35 (by decide) rfl (by decide) ?_
  refine N_aload_n (pc' := 39) C dX3_init_38 0 rfl rfl ?_
  refine N_get (pc' := 42) C 0 rfl rfl 0 (by decide) rfl iu_X3_init_X3 lk_X3_init_11 dX3_init_39 rfl ?_
  refine N_iload_n (pc' := 43) C dX3_init_42 1 rfl rfl ?_
  refine N_gets (pc' := 46) C 1 (by decide) lk_X3_init_25 dX3_init_43 rfl ?_
  refine N_iload_n (pc' := 47) C dX3_init_46 1 rfl rfl ?_
  refine N_tald (pc' := 48) (v := (30 : Int32)) C 1 (by decide) (by unfold vp_in; decide) (by decide) dX3_init_47 rfl ?_
  refine N_iast (pc' := 49) (ws2 := [(h0, .inr (3, [.ref q1, .ref q2, .int (0 : Int32), .int (0 : Int32)])), (q1, .inl (zI ω, 11, .inl (upd (upd (upd (upd (upd (upd (upd (fun _ => 0) (0 : Int32).toNatClampNeg (50 : Int32)) (1 : Int32).toNatClampNeg (900 : Int32)) (2 : Int32).toNatClampNeg (0 : Int32)) (3 : Int32).toNatClampNeg (365 : Int32)) (4 : Int32).toNatClampNeg (3 : Int32)) (5 : Int32).toNatClampNeg (2 : Int32)) (6 : Int32).toNatClampNeg (30 : Int32)))), (q2, .inl (zI ω, 11, .inl (fun _ => 0)))]) C 1 rfl (by unfold vp_in; decide) rfl dX3_init_48 rfl ?_
  refine N_iinc (pc' := 52) (v := (7 : Int32)) (lv' := [(0, .ref h0), (1, .int (7 : Int32))]) C dX3_init_49 1 rfl (by decide) (by decide) [1, 0] rfl rfl ?_
  refine N_goto (pc' := 32) C dX3_init_52 (by decide) ?_
  refine N_iload_n (pc' := 33) C dX3_init_32 1 rfl rfl ?_
  refine N_bipush (pc' := 35) (v := (11 : Int32)) C dX3_init_33 (by decide) rfl ?_
  refine N_ge_f (pc' := 38) (tgt := 55) C dX3_init_35 (by decide) rfl (by decide) ?_
  refine N_aload_n (pc' := 39) C dX3_init_38 0 rfl rfl ?_
  refine N_get (pc' := 42) C 0 rfl rfl 0 (by decide) rfl iu_X3_init_X3 lk_X3_init_11 dX3_init_39 rfl ?_
  refine N_iload_n (pc' := 43) C dX3_init_42 1 rfl rfl ?_
  refine N_gets (pc' := 46) C 1 (by decide) lk_X3_init_25 dX3_init_43 rfl ?_
  refine N_iload_n (pc' := 47) C dX3_init_46 1 rfl rfl ?_
  refine N_tald (pc' := 48) (v := (6 : Int32)) C 1 (by decide) (by unfold vp_in; decide) (by decide) dX3_init_47 rfl ?_
  refine N_iast (pc' := 49) (ws2 := [(h0, .inr (3, [.ref q1, .ref q2, .int (0 : Int32), .int (0 : Int32)])), (q1, .inl (zI ω, 11, .inl (upd (upd (upd (upd (upd (upd (upd (upd (fun _ => 0) (0 : Int32).toNatClampNeg (50 : Int32)) (1 : Int32).toNatClampNeg (900 : Int32)) (2 : Int32).toNatClampNeg (0 : Int32)) (3 : Int32).toNatClampNeg (365 : Int32)) (4 : Int32).toNatClampNeg (3 : Int32)) (5 : Int32).toNatClampNeg (2 : Int32)) (6 : Int32).toNatClampNeg (30 : Int32)) (7 : Int32).toNatClampNeg (6 : Int32)))), (q2, .inl (zI ω, 11, .inl (fun _ => 0)))]) C 1 rfl (by unfold vp_in; decide) rfl dX3_init_48 rfl ?_
  refine N_iinc (pc' := 52) (v := (8 : Int32)) (lv' := [(0, .ref h0), (1, .int (8 : Int32))]) C dX3_init_49 1 rfl (by decide) (by decide) [1, 0] rfl rfl ?_
  refine N_goto (pc' := 32) C dX3_init_52 (by decide) ?_
  refine N_iload_n (pc' := 33) C dX3_init_32 1 rfl rfl ?_
  refine N_bipush (pc' := 35) (v := (11 : Int32)) C dX3_init_33 (by decide) rfl ?_
  refine N_ge_f (pc' := 38) (tgt := 55) C dX3_init_35 (by decide) rfl (by decide) ?_
  refine N_aload_n (pc' := 39) C dX3_init_38 0 rfl rfl ?_
  refine N_get (pc' := 42) C 0 rfl rfl 0 (by decide) rfl iu_X3_init_X3 lk_X3_init_11 dX3_init_39 rfl ?_
  refine N_iload_n (pc' := 43) C dX3_init_42 1 rfl rfl ?_
  refine N_gets (pc' := 46) C 1 (by decide) lk_X3_init_25 dX3_init_43 rfl ?_
  refine N_iload_n (pc' := 47) C dX3_init_46 1 rfl rfl ?_
  refine N_tald (pc' := 48) (v := (3 : Int32)) C 1 (by decide) (by unfold vp_in; decide) (by decide) dX3_init_47 rfl ?_
  refine N_iast (pc' := 49) (ws2 := [(h0, .inr (3, [.ref q1, .ref q2, .int (0 : Int32), .int (0 : Int32)])), (q1, .inl (zI ω, 11, .inl (upd (upd (upd (upd (upd (upd (upd (upd (upd (fun _ => 0) (0 : Int32).toNatClampNeg (50 : Int32)) (1 : Int32).toNatClampNeg (900 : Int32)) (2 : Int32).toNatClampNeg (0 : Int32)) (3 : Int32).toNatClampNeg (365 : Int32)) (4 : Int32).toNatClampNeg (3 : Int32)) (5 : Int32).toNatClampNeg (2 : Int32)) (6 : Int32).toNatClampNeg (30 : Int32)) (7 : Int32).toNatClampNeg (6 : Int32)) (8 : Int32).toNatClampNeg (3 : Int32)))), (q2, .inl (zI ω, 11, .inl (fun _ => 0)))]) C 1 rfl (by unfold vp_in; decide) rfl dX3_init_48 rfl ?_
  refine N_iinc (pc' := 52) (v := (9 : Int32)) (lv' := [(0, .ref h0), (1, .int (9 : Int32))]) C dX3_init_49 1 rfl (by decide) (by decide) [1, 0] rfl rfl ?_
  refine N_goto (pc' := 32) C dX3_init_52 (by decide) ?_
  refine N_iload_n (pc' := 33) C dX3_init_32 1 rfl rfl ?_
  refine N_bipush (pc' := 35) (v := (11 : Int32)) C dX3_init_33 (by decide) rfl ?_
  refine N_ge_f (pc' := 38) (tgt := 55) C dX3_init_35 (by decide) rfl (by decide) ?_
  refine N_aload_n (pc' := 39) C dX3_init_38 0 rfl rfl ?_
  refine N_get (pc' := 42) C 0 rfl rfl 0 (by decide) rfl iu_X3_init_X3 lk_X3_init_11 dX3_init_39 rfl ?_
  refine N_iload_n (pc' := 43) C dX3_init_42 1 rfl rfl ?_
  refine N_gets (pc' := 46) C 1 (by decide) lk_X3_init_25 dX3_init_43 rfl ?_
  refine N_iload_n (pc' := 47) C dX3_init_46 1 rfl rfl ?_
  refine N_tald (pc' := 48) (v := (0 : Int32)) C 1 (by decide) (by unfold vp_in; decide) (by decide) dX3_init_47 rfl ?_
  refine N_iast (pc' := 49) (ws2 := [(h0, .inr (3, [.ref q1, .ref q2, .int (0 : Int32), .int (0 : Int32)])), (q1, .inl (zI ω, 11, .inl (upd (upd (upd (upd (upd (upd (upd (upd (upd (upd (fun _ => 0) (0 : Int32).toNatClampNeg (50 : Int32)) (1 : Int32).toNatClampNeg (900 : Int32)) (2 : Int32).toNatClampNeg (0 : Int32)) (3 : Int32).toNatClampNeg (365 : Int32)) (4 : Int32).toNatClampNeg (3 : Int32)) (5 : Int32).toNatClampNeg (2 : Int32)) (6 : Int32).toNatClampNeg (30 : Int32)) (7 : Int32).toNatClampNeg (6 : Int32)) (8 : Int32).toNatClampNeg (3 : Int32)) (9 : Int32).toNatClampNeg (0 : Int32)))), (q2, .inl (zI ω, 11, .inl (fun _ => 0)))]) C 1 rfl (by unfold vp_in; decide) rfl dX3_init_48 rfl ?_
  refine N_iinc (pc' := 52) (v := (10 : Int32)) (lv' := [(0, .ref h0), (1, .int (10 : Int32))]) C dX3_init_49 1 rfl (by decide) (by decide) [1, 0] rfl rfl ?_
  refine N_goto (pc' := 32) C dX3_init_52 (by decide) ?_
  refine N_iload_n (pc' := 33) C dX3_init_32 1 rfl rfl ?_
  refine N_bipush (pc' := 35) (v := (11 : Int32)) C dX3_init_33 (by decide) rfl ?_
  refine N_ge_f (pc' := 38) (tgt := 55) C dX3_init_35 (by decide) rfl (by decide) ?_
  refine N_aload_n (pc' := 39) C dX3_init_38 0 rfl rfl ?_
  refine N_get (pc' := 42) C 0 rfl rfl 0 (by decide) rfl iu_X3_init_X3 lk_X3_init_11 dX3_init_39 rfl ?_
  refine N_iload_n (pc' := 43) C dX3_init_42 1 rfl rfl ?_
  refine N_gets (pc' := 46) C 1 (by decide) lk_X3_init_25 dX3_init_43 rfl ?_
  refine N_iload_n (pc' := 47) C dX3_init_46 1 rfl rfl ?_
  refine N_tald (pc' := 48) (v := (0 : Int32)) C 1 (by decide) (by unfold vp_in; decide) (by decide) dX3_init_47 rfl ?_
  refine N_iast (pc' := 49) (ws2 := [(h0, .inr (3, [.ref q1, .ref q2, .int (0 : Int32), .int (0 : Int32)])), (q1, .inl (zI ω, 11, .inl (upd (upd (upd (upd (upd (upd (upd (upd (upd (upd (upd (fun _ => 0) (0 : Int32).toNatClampNeg (50 : Int32)) (1 : Int32).toNatClampNeg (900 : Int32)) (2 : Int32).toNatClampNeg (0 : Int32)) (3 : Int32).toNatClampNeg (365 : Int32)) (4 : Int32).toNatClampNeg (3 : Int32)) (5 : Int32).toNatClampNeg (2 : Int32)) (6 : Int32).toNatClampNeg (30 : Int32)) (7 : Int32).toNatClampNeg (6 : Int32)) (8 : Int32).toNatClampNeg (3 : Int32)) (9 : Int32).toNatClampNeg (0 : Int32)) (10 : Int32).toNatClampNeg (0 : Int32)))), (q2, .inl (zI ω, 11, .inl (fun _ => 0)))]) C 1 rfl (by unfold vp_in; decide) rfl dX3_init_48 rfl ?_
  refine N_iinc (pc' := 52) (v := (11 : Int32)) (lv' := [(0, .ref h0), (1, .int (11 : Int32))]) C dX3_init_49 1 rfl (by decide) (by decide) [1, 0] rfl rfl ?_
  refine N_goto (pc' := 32) C dX3_init_52 (by decide) ?_
  refine N_iload_n (pc' := 33) C dX3_init_32 1 rfl rfl ?_
  refine N_bipush (pc' := 35) (v := (11 : Int32)) C dX3_init_33 (by decide) rfl ?_
  refine N_ge_t (tgt := 55) C dX3_init_35 (by decide) (by decide) ?_
  exact N_ret C hR (fun k => ([h0, q1, q2] : List Nat).getD k 0) rfl dX3_init_55 (Nat.le_of_ble_eq_true rfl) (Nat.le_of_ble_eq_true rfl)
theorem ol_X4_init : Cond.methodLink RX4 3 objectInit ∈ wsX4_init := by decide +kernel
theorem ob_X4_init : Cond.instanceMethod objectInit ∈ wsX4_init := by decide +kernel
theorem oc_X4_init : Cond.code objectInit ⟨#[0xb1]⟩ 1 none ∈ wsX4_init := by decide +kernel
theorem iu_X4_init_X4 : ∀ w ∈ wsX40, w ∈ wsX4_init := by decide +kernel
theorem ac_X4_init_int : Cond.arrayClass .int ∈ wsX4_init := by decide +kernel
theorem lk_X4_init_9 : Cond.fieldLink RX4 9 "PrizeDesk$Shelf" "publishers" "[I" ∈ wsX4_init := by decide +kernel
theorem lk_X4_init_15 : Cond.fieldLink RX4 15 "PrizeDesk$Shelf" "pages" "[I" ∈ wsX4_init := by decide +kernel
theorem lk_X4_init_18 : Cond.fieldLink RX4 18 "PrizeDesk$Shelf" "days" "[I" ∈ wsX4_init := by decide +kernel
theorem lk_X4_init_21 : Cond.fieldLink RX4 21 "PrizeDesk$Shelf" "rivals" "[I" ∈ wsX4_init := by decide +kernel
theorem lk_X4_init_24 : Cond.fieldLink RX4 24 "PrizeDesk$Shelf" "size" "I" ∈ wsX4_init := by decide +kernel
theorem lk_X4_init_28 : Cond.fieldLink RX4 28 "PrizeDesk$Shelf" "calledIn" "I" ∈ wsX4_init := by decide +kernel
theorem lk_X4_init_31 : Cond.fieldLink RX4 31 "PrizeDesk$Shelf" "takenOut" "I" ∈ wsX4_init := by decide +kernel
set_option maxRecDepth 100000 in
set_option maxHeartbeats 4000000 in
theorem m_X4_init (ω : ZO) (h0 : Nat) : ZN ω yX4_init wsX4_init { frames := 1, cells := 4, slots := 80, locals := 12 } [.ref h0] [(h0, .inr (4, [.null, .null, .null, .null, .int 0, .int 0, .int 0]))] 4 80 (fun a => [(h0, .inr (4, [.ref (a 1), .ref (a 2), .ref (a 3), .ref (a 4), .int (0 : Int32), .int (0 : Int32), .int (0 : Int32)])), ((a 1), .inl (zI ω, 24, .inl (fun _ => 0))), ((a 2), .inl (zI ω, 24, .inl (fun _ => 0))), ((a 3), .inl (zI ω, 24, .inl (fun _ => 0))), ((a 4), .inl (zI ω, 8, .inl (fun _ => 0)))]) := by
  refine ZN.go (cc := cX4_init) (maxL := 1) (own := RX4) (lv := [(0, .ref h0)]) (by decide) rfl rfl (Nat.le_of_ble_eq_true rfl) rfl (fun κ A C hR hi => ?_)
  have hi := hi rfl
  refine N_aload_n (pc' := 1) C dX4_init_0 0 rfl rfl ?_
  refine N_obj (pc' := 4) C ol_X4_init ob_X4_init oc_X4_init dX4_init_1 rfl (Nat.le_of_ble_eq_true rfl) (Nat.le_of_ble_eq_true rfl) ?_
  refine N_aload_n (pc' := 5) C dX4_init_4 0 rfl rfl ?_
  refine N_bipush (pc' := 7) (v := (24 : Int32)) C dX4_init_5 (by decide) rfl ?_
  refine N_newa (at0 := .int) (pc' := 9) (kc2 := 1) (ks2 := 24) C 0 rfl (fun _ _ h => h) rfl ac_X4_init_int (fun _ => rfl) (by decide) (N9 := 24) (by decide) (by decide) (Nat.le_of_ble_eq_true rfl) (Nat.le_of_ble_eq_true rfl) dX4_init_7 rfl rfl rfl (fun q1 => ?_)
  refine N_putR (pc' := 12) (ws2 := [(h0, .inr (4, [.ref q1, .null, .null, .null, .int 0, .int 0, .int 0])), (q1, .inl (zI ω, 24, .inl (fun _ => 0)))]) C hi tyX4 tyX4_ok nmX4 0 rfl rfl 0 (by decide) (Nat.le_of_ble_eq_true rfl) iu_X4_init_X4 lk_X4_init_9 rfl rfl rfl rfl rfl dX4_init_9 rfl ?_
  refine N_aload_n (pc' := 13) C dX4_init_12 0 rfl rfl ?_
  refine N_bipush (pc' := 15) (v := (24 : Int32)) C dX4_init_13 (by decide) rfl ?_
  refine N_newa (at0 := .int) (pc' := 17) (kc2 := 2) (ks2 := 48) C 0 rfl (fun _ _ h => h) rfl ac_X4_init_int (fun _ => rfl) (by decide) (N9 := 24) (by decide) (by decide) (Nat.le_of_ble_eq_true rfl) (Nat.le_of_ble_eq_true rfl) dX4_init_15 rfl rfl rfl (fun q2 => ?_)
  refine N_putR (pc' := 20) (ws2 := [(h0, .inr (4, [.ref q1, .ref q2, .null, .null, .int 0, .int 0, .int 0])), (q1, .inl (zI ω, 24, .inl (fun _ => 0))), (q2, .inl (zI ω, 24, .inl (fun _ => 0)))]) C hi tyX4 tyX4_ok nmX4 0 rfl rfl 1 (by decide) (Nat.le_of_ble_eq_true rfl) iu_X4_init_X4 lk_X4_init_15 rfl rfl rfl rfl rfl dX4_init_17 rfl ?_
  refine N_aload_n (pc' := 21) C dX4_init_20 0 rfl rfl ?_
  refine N_bipush (pc' := 23) (v := (24 : Int32)) C dX4_init_21 (by decide) rfl ?_
  refine N_newa (at0 := .int) (pc' := 25) (kc2 := 3) (ks2 := 72) C 0 rfl (fun _ _ h => h) rfl ac_X4_init_int (fun _ => rfl) (by decide) (N9 := 24) (by decide) (by decide) (Nat.le_of_ble_eq_true rfl) (Nat.le_of_ble_eq_true rfl) dX4_init_23 rfl rfl rfl (fun q3 => ?_)
  refine N_putR (pc' := 28) (ws2 := [(h0, .inr (4, [.ref q1, .ref q2, .ref q3, .null, .int 0, .int 0, .int 0])), (q1, .inl (zI ω, 24, .inl (fun _ => 0))), (q2, .inl (zI ω, 24, .inl (fun _ => 0))), (q3, .inl (zI ω, 24, .inl (fun _ => 0)))]) C hi tyX4 tyX4_ok nmX4 0 rfl rfl 2 (by decide) (Nat.le_of_ble_eq_true rfl) iu_X4_init_X4 lk_X4_init_18 rfl rfl rfl rfl rfl dX4_init_25 rfl ?_
  refine N_aload_n (pc' := 29) C dX4_init_28 0 rfl rfl ?_
  refine N_bipush (pc' := 31) (v := (8 : Int32)) C dX4_init_29 (by decide) rfl ?_
  refine N_newa (at0 := .int) (pc' := 33) (kc2 := 4) (ks2 := 80) C 0 rfl (fun _ _ h => h) rfl ac_X4_init_int (fun _ => rfl) (by decide) (N9 := 8) (by decide) (by decide) (Nat.le_of_ble_eq_true rfl) (Nat.le_of_ble_eq_true rfl) dX4_init_31 rfl rfl rfl (fun q4 => ?_)
  refine N_putR (pc' := 36) (ws2 := [(h0, .inr (4, [.ref q1, .ref q2, .ref q3, .ref q4, .int 0, .int 0, .int 0])), (q1, .inl (zI ω, 24, .inl (fun _ => 0))), (q2, .inl (zI ω, 24, .inl (fun _ => 0))), (q3, .inl (zI ω, 24, .inl (fun _ => 0))), (q4, .inl (zI ω, 8, .inl (fun _ => 0)))]) C hi tyX4 tyX4_ok nmX4 0 rfl rfl 3 (by decide) (Nat.le_of_ble_eq_true rfl) iu_X4_init_X4 lk_X4_init_21 rfl rfl rfl rfl rfl dX4_init_33 rfl ?_
  refine N_aload_n (pc' := 37) C dX4_init_36 0 rfl rfl ?_
  refine N_iconst (pc' := 38) (v := (0 : Int32)) C dX4_init_37 (by decide) rfl ?_
  refine N_putI (pc' := 41) (ws2 := [(h0, .inr (4, [.ref q1, .ref q2, .ref q3, .ref q4, .int (0 : Int32), .int 0, .int 0])), (q1, .inl (zI ω, 24, .inl (fun _ => 0))), (q2, .inl (zI ω, 24, .inl (fun _ => 0))), (q3, .inl (zI ω, 24, .inl (fun _ => 0))), (q4, .inl (zI ω, 8, .inl (fun _ => 0)))]) C tyX4 tyX4_ok nmX4 0 rfl rfl 4 (by decide) (Nat.le_of_ble_eq_true rfl) iu_X4_init_X4 lk_X4_init_24 rfl (by decide +kernel) rfl dX4_init_38 rfl ?_
  refine N_aload_n (pc' := 42) C dX4_init_41 0 rfl rfl ?_
  refine N_iconst (pc' := 43) (v := (0 : Int32)) C dX4_init_42 (by decide) rfl ?_
  refine N_putI (pc' := 46) (ws2 := [(h0, .inr (4, [.ref q1, .ref q2, .ref q3, .ref q4, .int (0 : Int32), .int (0 : Int32), .int 0])), (q1, .inl (zI ω, 24, .inl (fun _ => 0))), (q2, .inl (zI ω, 24, .inl (fun _ => 0))), (q3, .inl (zI ω, 24, .inl (fun _ => 0))), (q4, .inl (zI ω, 8, .inl (fun _ => 0)))]) C tyX4 tyX4_ok nmX4 0 rfl rfl 5 (by decide) (Nat.le_of_ble_eq_true rfl) iu_X4_init_X4 lk_X4_init_28 rfl (by decide +kernel) rfl dX4_init_43 rfl ?_
  refine N_aload_n (pc' := 47) C dX4_init_46 0 rfl rfl ?_
  refine N_iconst (pc' := 48) (v := (0 : Int32)) C dX4_init_47 (by decide) rfl ?_
  refine N_putI (pc' := 51) (ws2 := [(h0, .inr (4, [.ref q1, .ref q2, .ref q3, .ref q4, .int (0 : Int32), .int (0 : Int32), .int (0 : Int32)])), (q1, .inl (zI ω, 24, .inl (fun _ => 0))), (q2, .inl (zI ω, 24, .inl (fun _ => 0))), (q3, .inl (zI ω, 24, .inl (fun _ => 0))), (q4, .inl (zI ω, 8, .inl (fun _ => 0)))]) C tyX4 tyX4_ok nmX4 0 rfl rfl 6 (by decide) (Nat.le_of_ble_eq_true rfl) iu_X4_init_X4 lk_X4_init_31 rfl (by decide +kernel) rfl dX4_init_48 rfl ?_
  exact N_ret C hR (fun k => ([h0, q1, q2, q3, q4] : List Nat).getD k 0) rfl dX4_init_51 (Nat.le_of_ble_eq_true rfl) (Nat.le_of_ble_eq_true rfl)
theorem ol_X0_init : Cond.methodLink RX0 3 objectInit ∈ wsX0_init := by decide +kernel
theorem ob_X0_init : Cond.instanceMethod objectInit ∈ wsX0_init := by decide +kernel
theorem oc_X0_init : Cond.code objectInit ⟨#[0xb1]⟩ 1 none ∈ wsX0_init := by decide +kernel
theorem iu_X0_init_X0 : ∀ w ∈ wsX00, w ∈ wsX0_init := by decide +kernel
theorem ac_X0_init_int : Cond.arrayClass .int ∈ wsX0_init := by decide +kernel
theorem lk_X0_init_9 : Cond.fieldLink RX0 9 "PrizeDesk$Panel" "kinBooks" "[I" ∈ wsX0_init := by decide +kernel
theorem lk_X0_init_15 : Cond.fieldLink RX0 15 "PrizeDesk$Panel" "friends" "[I" ∈ wsX0_init := by decide +kernel
theorem lk_X0_init_18 : Cond.fieldLink RX0 18 "PrizeDesk$Panel" "barredBooks" "[I" ∈ wsX0_init := by decide +kernel
theorem lk_X0_init_21 : Cond.fieldLink RX0 21 "PrizeDesk$Panel" "markedBooks" "[I" ∈ wsX0_init := by decide +kernel
theorem lk_X0_init_24 : Cond.fieldLink RX0 24 "PrizeDesk$Panel" "marks" "[I" ∈ wsX0_init := by decide +kernel
theorem lk_X0_init_27 : Cond.fieldLink RX0 27 "PrizeDesk$Panel" "freeJudges" "[I" ∈ wsX0_init := by decide +kernel
set_option maxRecDepth 100000 in
set_option maxHeartbeats 4000000 in
theorem m_X0_init (ω : ZO) (h0 : Nat) : ZN ω yX0_init wsX0_init { frames := 1, cells := 6, slots := 220, locals := 12 } [.ref h0] [(h0, .inr (0, [.null, .null, .null, .null, .null, .null]))] 6 220 (fun a => [(h0, .inr (0, [.ref (a 1), .ref (a 2), .ref (a 3), .ref (a 4), .ref (a 5), .ref (a 6)])), ((a 1), .inl (zI ω, 7, .inl (fun _ => 0))), ((a 2), .inl (zI ω, 7, .inl (fun _ => 0))), ((a 3), .inl (zI ω, 7, .inl (fun _ => 0))), ((a 4), .inl (zI ω, 7, .inl (fun _ => 0))), ((a 5), .inl (zI ω, 168, .inl (fun _ => 0))), ((a 6), .inl (zI ω, 24, .inl (fun _ => 0)))]) := by
  refine ZN.go (cc := cX0_init) (maxL := 1) (own := RX0) (lv := [(0, .ref h0)]) (by decide) rfl rfl (Nat.le_of_ble_eq_true rfl) rfl (fun κ A C hR hi => ?_)
  have hi := hi rfl
  refine N_aload_n (pc' := 1) C dX0_init_0 0 rfl rfl ?_
  refine N_obj (pc' := 4) C ol_X0_init ob_X0_init oc_X0_init dX0_init_1 rfl (Nat.le_of_ble_eq_true rfl) (Nat.le_of_ble_eq_true rfl) ?_
  refine N_aload_n (pc' := 5) C dX0_init_4 0 rfl rfl ?_
  refine N_bipush (pc' := 7) (v := (7 : Int32)) C dX0_init_5 (by decide) rfl ?_
  refine N_newa (at0 := .int) (pc' := 9) (kc2 := 1) (ks2 := 7) C 0 rfl (fun _ _ h => h) rfl ac_X0_init_int (fun _ => rfl) (by decide) (N9 := 7) (by decide) (by decide) (Nat.le_of_ble_eq_true rfl) (Nat.le_of_ble_eq_true rfl) dX0_init_7 rfl rfl rfl (fun q1 => ?_)
  refine N_putR (pc' := 12) (ws2 := [(h0, .inr (0, [.ref q1, .null, .null, .null, .null, .null])), (q1, .inl (zI ω, 7, .inl (fun _ => 0)))]) C hi tyX0 tyX0_ok nmX0 0 rfl rfl 0 (by decide) (Nat.le_of_ble_eq_true rfl) iu_X0_init_X0 lk_X0_init_9 rfl rfl rfl rfl rfl dX0_init_9 rfl ?_
  refine N_aload_n (pc' := 13) C dX0_init_12 0 rfl rfl ?_
  refine N_bipush (pc' := 15) (v := (7 : Int32)) C dX0_init_13 (by decide) rfl ?_
  refine N_newa (at0 := .int) (pc' := 17) (kc2 := 2) (ks2 := 14) C 0 rfl (fun _ _ h => h) rfl ac_X0_init_int (fun _ => rfl) (by decide) (N9 := 7) (by decide) (by decide) (Nat.le_of_ble_eq_true rfl) (Nat.le_of_ble_eq_true rfl) dX0_init_15 rfl rfl rfl (fun q2 => ?_)
  refine N_putR (pc' := 20) (ws2 := [(h0, .inr (0, [.ref q1, .ref q2, .null, .null, .null, .null])), (q1, .inl (zI ω, 7, .inl (fun _ => 0))), (q2, .inl (zI ω, 7, .inl (fun _ => 0)))]) C hi tyX0 tyX0_ok nmX0 0 rfl rfl 1 (by decide) (Nat.le_of_ble_eq_true rfl) iu_X0_init_X0 lk_X0_init_15 rfl rfl rfl rfl rfl dX0_init_17 rfl ?_
  refine N_aload_n (pc' := 21) C dX0_init_20 0 rfl rfl ?_
  refine N_bipush (pc' := 23) (v := (7 : Int32)) C dX0_init_21 (by decide) rfl ?_
  refine N_newa (at0 := .int) (pc' := 25) (kc2 := 3) (ks2 := 21) C 0 rfl (fun _ _ h => h) rfl ac_X0_init_int (fun _ => rfl) (by decide) (N9 := 7) (by decide) (by decide) (Nat.le_of_ble_eq_true rfl) (Nat.le_of_ble_eq_true rfl) dX0_init_23 rfl rfl rfl (fun q3 => ?_)
  refine N_putR (pc' := 28) (ws2 := [(h0, .inr (0, [.ref q1, .ref q2, .ref q3, .null, .null, .null])), (q1, .inl (zI ω, 7, .inl (fun _ => 0))), (q2, .inl (zI ω, 7, .inl (fun _ => 0))), (q3, .inl (zI ω, 7, .inl (fun _ => 0)))]) C hi tyX0 tyX0_ok nmX0 0 rfl rfl 2 (by decide) (Nat.le_of_ble_eq_true rfl) iu_X0_init_X0 lk_X0_init_18 rfl rfl rfl rfl rfl dX0_init_25 rfl ?_
  refine N_aload_n (pc' := 29) C dX0_init_28 0 rfl rfl ?_
  refine N_bipush (pc' := 31) (v := (7 : Int32)) C dX0_init_29 (by decide) rfl ?_
  refine N_newa (at0 := .int) (pc' := 33) (kc2 := 4) (ks2 := 28) C 0 rfl (fun _ _ h => h) rfl ac_X0_init_int (fun _ => rfl) (by decide) (N9 := 7) (by decide) (by decide) (Nat.le_of_ble_eq_true rfl) (Nat.le_of_ble_eq_true rfl) dX0_init_31 rfl rfl rfl (fun q4 => ?_)
  refine N_putR (pc' := 36) (ws2 := [(h0, .inr (0, [.ref q1, .ref q2, .ref q3, .ref q4, .null, .null])), (q1, .inl (zI ω, 7, .inl (fun _ => 0))), (q2, .inl (zI ω, 7, .inl (fun _ => 0))), (q3, .inl (zI ω, 7, .inl (fun _ => 0))), (q4, .inl (zI ω, 7, .inl (fun _ => 0)))]) C hi tyX0 tyX0_ok nmX0 0 rfl rfl 3 (by decide) (Nat.le_of_ble_eq_true rfl) iu_X0_init_X0 lk_X0_init_21 rfl rfl rfl rfl rfl dX0_init_33 rfl ?_
  refine N_aload_n (pc' := 37) C dX0_init_36 0 rfl rfl ?_
  refine N_sipush (pc' := 40) (v := (168 : Int32)) C dX0_init_37 (by decide) rfl ?_
  refine N_newa (at0 := .int) (pc' := 42) (kc2 := 5) (ks2 := 196) C 0 rfl (fun _ _ h => h) rfl ac_X0_init_int (fun _ => rfl) (by decide) (N9 := 168) (by decide) (by decide) (Nat.le_of_ble_eq_true rfl) (Nat.le_of_ble_eq_true rfl) dX0_init_40 rfl rfl rfl (fun q5 => ?_)
  refine N_putR (pc' := 45) (ws2 := [(h0, .inr (0, [.ref q1, .ref q2, .ref q3, .ref q4, .ref q5, .null])), (q1, .inl (zI ω, 7, .inl (fun _ => 0))), (q2, .inl (zI ω, 7, .inl (fun _ => 0))), (q3, .inl (zI ω, 7, .inl (fun _ => 0))), (q4, .inl (zI ω, 7, .inl (fun _ => 0))), (q5, .inl (zI ω, 168, .inl (fun _ => 0)))]) C hi tyX0 tyX0_ok nmX0 0 rfl rfl 4 (by decide) (Nat.le_of_ble_eq_true rfl) iu_X0_init_X0 lk_X0_init_24 rfl rfl rfl rfl rfl dX0_init_42 rfl ?_
  refine N_aload_n (pc' := 46) C dX0_init_45 0 rfl rfl ?_
  refine N_bipush (pc' := 48) (v := (24 : Int32)) C dX0_init_46 (by decide) rfl ?_
  refine N_newa (at0 := .int) (pc' := 50) (kc2 := 6) (ks2 := 220) C 0 rfl (fun _ _ h => h) rfl ac_X0_init_int (fun _ => rfl) (by decide) (N9 := 24) (by decide) (by decide) (Nat.le_of_ble_eq_true rfl) (Nat.le_of_ble_eq_true rfl) dX0_init_48 rfl rfl rfl (fun q6 => ?_)
  refine N_putR (pc' := 53) (ws2 := [(h0, .inr (0, [.ref q1, .ref q2, .ref q3, .ref q4, .ref q5, .ref q6])), (q1, .inl (zI ω, 7, .inl (fun _ => 0))), (q2, .inl (zI ω, 7, .inl (fun _ => 0))), (q3, .inl (zI ω, 7, .inl (fun _ => 0))), (q4, .inl (zI ω, 7, .inl (fun _ => 0))), (q5, .inl (zI ω, 168, .inl (fun _ => 0))), (q6, .inl (zI ω, 24, .inl (fun _ => 0)))]) C hi tyX0 tyX0_ok nmX0 0 rfl rfl 5 (by decide) (Nat.le_of_ble_eq_true rfl) iu_X0_init_X0 lk_X0_init_27 rfl rfl rfl rfl rfl dX0_init_50 rfl ?_
  exact N_ret C hR (fun k => ([h0, q1, q2, q3, q4, q5, q6] : List Nat).getD k 0) rfl dX0_init_53 (Nat.le_of_ble_eq_true rfl) (Nat.le_of_ble_eq_true rfl)
def fAX1_1 : Nat → Int32 := upd (upd (upd (upd (upd (upd (upd (fun _ => 0) (0 : Int32).toNatClampNeg (-1 : Int32)) (1 : Int32).toNatClampNeg (-1 : Int32)) (2 : Int32).toNatClampNeg (-1 : Int32)) (3 : Int32).toNatClampNeg (-1 : Int32)) (4 : Int32).toNatClampNeg (-1 : Int32)) (5 : Int32).toNatClampNeg (-1 : Int32)) (6 : Int32).toNatClampNeg (-1 : Int32)
theorem ol_X1_init : Cond.methodLink RX1 3 objectInit ∈ wsX1_init := by decide +kernel
theorem ob_X1_init : Cond.instanceMethod objectInit ∈ wsX1_init := by decide +kernel
theorem oc_X1_init : Cond.code objectInit ⟨#[0xb1]⟩ 1 none ∈ wsX1_init := by decide +kernel
theorem iu_X1_init_X1 : ∀ w ∈ wsX10, w ∈ wsX1_init := by decide +kernel
theorem ac_X1_init_int : Cond.arrayClass .int ∈ wsX1_init := by decide +kernel
theorem lk_X1_init_9 : Cond.fieldLink RX1 9 "PrizeDesk$Poll" "days" "[I" ∈ wsX1_init := by decide +kernel
theorem lk_X1_init_15 : Cond.fieldLink RX1 15 "PrizeDesk$Poll" "books" "[I" ∈ wsX1_init := by decide +kernel
theorem lk_X1_init_18 : Cond.fieldLink RX1 18 "PrizeDesk$Poll" "lastDay" "I" ∈ wsX1_init := by decide +kernel
set_option maxRecDepth 100000 in
set_option maxHeartbeats 4000000 in
theorem m_X1_init (ω : ZO) (h0 : Nat) : ZN ω yX1_init wsX1_init { frames := 1, cells := 2, slots := 91, locals := 12 } [.ref h0] [(h0, .inr (1, [.null, .null, .int 0]))] 2 91 (fun a => [(h0, .inr (1, [.ref (a 1), .ref (a 2), .int (400 : Int32)])), ((a 1), .inl (zI ω, 7, .inl (fAX1_1))), ((a 2), .inl (zI ω, 84, .inl (fun _ => 0)))]) := by
  refine ZN.go (cc := cX1_init) (maxL := 2) (own := RX1) (lv := [(0, .ref h0)]) (by decide) rfl rfl (Nat.le_of_ble_eq_true rfl) rfl (fun κ A C hR hi => ?_)
  have hi := hi rfl
  refine N_aload_n (pc' := 1) C dX1_init_0 0 rfl rfl ?_
  refine N_obj (pc' := 4) C ol_X1_init ob_X1_init oc_X1_init dX1_init_1 rfl (Nat.le_of_ble_eq_true rfl) (Nat.le_of_ble_eq_true rfl) ?_
  refine N_aload_n (pc' := 5) C dX1_init_4 0 rfl rfl ?_
  refine N_bipush (pc' := 7) (v := (7 : Int32)) C dX1_init_5 (by decide) rfl ?_
  refine N_newa (at0 := .int) (pc' := 9) (kc2 := 1) (ks2 := 7) C 0 rfl (fun _ _ h => h) rfl ac_X1_init_int (fun _ => rfl) (by decide) (N9 := 7) (by decide) (by decide) (Nat.le_of_ble_eq_true rfl) (Nat.le_of_ble_eq_true rfl) dX1_init_7 rfl rfl rfl (fun q1 => ?_)
  refine N_putR (pc' := 12) (ws2 := [(h0, .inr (1, [.ref q1, .null, .int 0])), (q1, .inl (zI ω, 7, .inl (fun _ => 0)))]) C hi tyX1 tyX1_ok nmX1 0 rfl rfl 0 (by decide) (Nat.le_of_ble_eq_true rfl) iu_X1_init_X1 lk_X1_init_9 rfl rfl rfl rfl rfl dX1_init_9 rfl ?_
  refine N_aload_n (pc' := 13) C dX1_init_12 0 rfl rfl ?_
  refine N_bipush (pc' := 15) (v := (84 : Int32)) C dX1_init_13 (by decide) rfl ?_
  refine N_newa (at0 := .int) (pc' := 17) (kc2 := 2) (ks2 := 91) C 0 rfl (fun _ _ h => h) rfl ac_X1_init_int (fun _ => rfl) (by decide) (N9 := 84) (by decide) (by decide) (Nat.le_of_ble_eq_true rfl) (Nat.le_of_ble_eq_true rfl) dX1_init_15 rfl rfl rfl (fun q2 => ?_)
  refine N_putR (pc' := 20) (ws2 := [(h0, .inr (1, [.ref q1, .ref q2, .int 0])), (q1, .inl (zI ω, 7, .inl (fun _ => 0))), (q2, .inl (zI ω, 84, .inl (fun _ => 0)))]) C hi tyX1 tyX1_ok nmX1 0 rfl rfl 1 (by decide) (Nat.le_of_ble_eq_true rfl) iu_X1_init_X1 lk_X1_init_15 rfl rfl rfl rfl rfl dX1_init_17 rfl ?_
  refine N_aload_n (pc' := 21) C dX1_init_20 0 rfl rfl ?_
  refine N_sipush (pc' := 24) (v := (400 : Int32)) C dX1_init_21 (by decide) rfl ?_
  refine N_putI (pc' := 27) (ws2 := [(h0, .inr (1, [.ref q1, .ref q2, .int (400 : Int32)])), (q1, .inl (zI ω, 7, .inl (fun _ => 0))), (q2, .inl (zI ω, 84, .inl (fun _ => 0)))]) C tyX1 tyX1_ok nmX1 0 rfl rfl 2 (by decide) (Nat.le_of_ble_eq_true rfl) iu_X1_init_X1 lk_X1_init_18 rfl (by decide +kernel) rfl dX1_init_24 rfl ?_
  refine N_iconst (pc' := 28) (v := (0 : Int32)) C dX1_init_27 (by decide) rfl ?_
  refine N_istore_n (pc' := 29) (lv' := [(0, .ref h0), (1, .int (0 : Int32))]) C dX1_init_28 (by decide) [1, 0] rfl rfl ?_
  refine N_iload_n (pc' := 30) C dX1_init_29 1 rfl rfl ?_
  refine N_bipush (pc' := 32) (v := (7 : Int32)) C dX1_init_30 (by decide) rfl ?_
  refine N_ge_f (pc' := 35) (tgt := 48) C dX1_init_32 (by decide) rfl (by decide) ?_
  refine N_aload_n (pc' := 36) C dX1_init_35 0 rfl rfl ?_
  refine N_get (pc' := 39) C 0 rfl rfl 0 (by decide) rfl iu_X1_init_X1 lk_X1_init_9 dX1_init_36 rfl ?_
  refine N_iload_n (pc' := 40) C dX1_init_39 1 rfl rfl ?_
  refine N_iconst (pc' := 41) (v := (-1 : Int32)) C dX1_init_40 (by decide) rfl ?_
  refine N_iast (pc' := 42) (ws2 := [(h0, .inr (1, [.ref q1, .ref q2, .int (400 : Int32)])), (q1, .inl (zI ω, 7, .inl (upd (fun _ => 0) (0 : Int32).toNatClampNeg (-1 : Int32)))), (q2, .inl (zI ω, 84, .inl (fun _ => 0)))]) C 1 rfl (by unfold vp_in; decide) rfl dX1_init_41 rfl ?_
  refine N_iinc (pc' := 45) (v := (1 : Int32)) (lv' := [(0, .ref h0), (1, .int (1 : Int32))]) C dX1_init_42 1 rfl (by decide) (by decide) [1, 0] rfl rfl ?_
  refine N_goto (pc' := 29) C dX1_init_45 (by decide) ?_
  refine N_iload_n (pc' := 30) C dX1_init_29 1 rfl rfl ?_
  refine N_bipush (pc' := 32) (v := (7 : Int32)) C dX1_init_30 (by decide) rfl ?_
  refine N_ge_f (pc' := 35) (tgt := 48) C dX1_init_32 (by decide) rfl (by decide) ?_
  refine N_aload_n (pc' := 36) C dX1_init_35 0 rfl rfl ?_
  refine N_get (pc' := 39) C 0 rfl rfl 0 (by decide) rfl iu_X1_init_X1 lk_X1_init_9 dX1_init_36 rfl ?_
  refine N_iload_n (pc' := 40) C dX1_init_39 1 rfl rfl ?_
  refine N_iconst (pc' := 41) (v := (-1 : Int32)) C dX1_init_40 (by decide) rfl ?_
  refine N_iast (pc' := 42) (ws2 := [(h0, .inr (1, [.ref q1, .ref q2, .int (400 : Int32)])), (q1, .inl (zI ω, 7, .inl (upd (upd (fun _ => 0) (0 : Int32).toNatClampNeg (-1 : Int32)) (1 : Int32).toNatClampNeg (-1 : Int32)))), (q2, .inl (zI ω, 84, .inl (fun _ => 0)))]) C 1 rfl (by unfold vp_in; decide) rfl dX1_init_41 rfl ?_
  refine N_iinc (pc' := 45) (v := (2 : Int32)) (lv' := [(0, .ref h0), (1, .int (2 : Int32))]) C dX1_init_42 1 rfl (by decide) (by decide) [1, 0] rfl rfl ?_
  refine N_goto (pc' := 29) C dX1_init_45 (by decide) ?_
  refine N_iload_n (pc' := 30) C dX1_init_29 1 rfl rfl ?_
  refine N_bipush (pc' := 32) (v := (7 : Int32)) C dX1_init_30 (by decide) rfl ?_
  refine N_ge_f (pc' := 35) (tgt := 48) C dX1_init_32 (by decide) rfl (by decide) ?_
  refine N_aload_n (pc' := 36) C dX1_init_35 0 rfl rfl ?_
  refine N_get (pc' := 39) C 0 rfl rfl 0 (by decide) rfl iu_X1_init_X1 lk_X1_init_9 dX1_init_36 rfl ?_
  refine N_iload_n (pc' := 40) C dX1_init_39 1 rfl rfl ?_
  refine N_iconst (pc' := 41) (v := (-1 : Int32)) C dX1_init_40 (by decide) rfl ?_
  refine N_iast (pc' := 42) (ws2 := [(h0, .inr (1, [.ref q1, .ref q2, .int (400 : Int32)])), (q1, .inl (zI ω, 7, .inl (upd (upd (upd (fun _ => 0) (0 : Int32).toNatClampNeg (-1 : Int32)) (1 : Int32).toNatClampNeg (-1 : Int32)) (2 : Int32).toNatClampNeg (-1 : Int32)))), (q2, .inl (zI ω, 84, .inl (fun _ => 0)))]) C 1 rfl (by unfold vp_in; decide) rfl dX1_init_41 rfl ?_
  refine N_iinc (pc' := 45) (v := (3 : Int32)) (lv' := [(0, .ref h0), (1, .int (3 : Int32))]) C dX1_init_42 1 rfl (by decide) (by decide) [1, 0] rfl rfl ?_
  refine N_goto (pc' := 29) C dX1_init_45 (by decide) ?_
  refine N_iload_n (pc' := 30) C dX1_init_29 1 rfl rfl ?_
  refine N_bipush (pc' := 32) (v := (7 : Int32)) C dX1_init_30 (by decide) rfl ?_
  refine N_ge_f (pc' := 35) (tgt := 48) C dX1_init_32 (by decide) rfl (by decide) ?_
  refine N_aload_n (pc' := 36) C dX1_init_35 0 rfl rfl ?_
  refine N_get (pc' := 39) C 0 rfl rfl 0 (by decide) rfl iu_X1_init_X1 lk_X1_init_9 dX1_init_36 rfl ?_
  refine N_iload_n (pc' := 40) C dX1_init_39 1 rfl rfl ?_
  refine N_iconst (pc' := 41) (v := (-1 : Int32)) C dX1_init_40 (by decide) rfl ?_
  refine N_iast (pc' := 42) (ws2 := [(h0, .inr (1, [.ref q1, .ref q2, .int (400 : Int32)])), (q1, .inl (zI ω, 7, .inl (upd (upd (upd (upd (fun _ => 0) (0 : Int32).toNatClampNeg (-1 : Int32)) (1 : Int32).toNatClampNeg (-1 : Int32)) (2 : Int32).toNatClampNeg (-1 : Int32)) (3 : Int32).toNatClampNeg (-1 : Int32)))), (q2, .inl (zI ω, 84, .inl (fun _ => 0)))]) C 1 rfl (by unfold vp_in; decide) rfl dX1_init_41 rfl ?_
  refine N_iinc (pc' := 45) (v := (4 : Int32)) (lv' := [(0, .ref h0), (1, .int (4 : Int32))]) C dX1_init_42 1 rfl (by decide) (by decide) [1, 0] rfl rfl ?_
  refine N_goto (pc' := 29) C dX1_init_45 (by decide) ?_
  refine N_iload_n (pc' := 30) C dX1_init_29 1 rfl rfl ?_
  refine N_bipush (pc' := 32) (v := (7 : Int32)) C dX1_init_30 (by decide) rfl ?_
  refine N_ge_f (pc' := 35) (tgt := 48) C dX1_init_32 (by decide) rfl (by decide) ?_
  refine N_aload_n (pc' := 36) C dX1_init_35 0 rfl rfl ?_
  refine N_get (pc' := 39) C 0 rfl rfl 0 (by decide) rfl iu_X1_init_X1 lk_X1_init_9 dX1_init_36 rfl ?_
  refine N_iload_n (pc' := 40) C dX1_init_39 1 rfl rfl ?_
  refine N_iconst (pc' := 41) (v := (-1 : Int32)) C dX1_init_40 (by decide) rfl ?_
  refine N_iast (pc' := 42) (ws2 := [(h0, .inr (1, [.ref q1, .ref q2, .int (400 : Int32)])), (q1, .inl (zI ω, 7, .inl (upd (upd (upd (upd (upd (fun _ => 0) (0 : Int32).toNatClampNeg (-1 : Int32)) (1 : Int32).toNatClampNeg (-1 : Int32)) (2 : Int32).toNatClampNeg (-1 : Int32)) (3 : Int32).toNatClampNeg (-1 : Int32)) (4 : Int32).toNatClampNeg (-1 : Int32)))), (q2, .inl (zI ω, 84, .inl (fun _ => 0)))]) C 1 rfl (by unfold vp_in; decide) rfl dX1_init_41 rfl ?_
  refine N_iinc (pc' := 45) (v := (5 : Int32)) (lv' := [(0, .ref h0), (1, .int (5 : Int32))]) C dX1_init_42 1 rfl (by decide) (by decide) [1, 0] rfl rfl ?_
  refine N_goto (pc' := 29) C dX1_init_45 (by decide) ?_
  refine N_iload_n (pc' := 30) C dX1_init_29 1 rfl rfl ?_
  refine N_bipush (pc' := 32) (v := (7 : Int32)) C dX1_init_30 (by decide) rfl ?_
  refine N_ge_f (pc' := 35) (tgt := 48) C dX1_init_32 (by decide) rfl (by decide) ?_
  refine N_aload_n (pc' := 36) C dX1_init_35 0 rfl rfl ?_
  refine N_get (pc' := 39) C 0 rfl rfl 0 (by decide) rfl iu_X1_init_X1 lk_X1_init_9 dX1_init_36 rfl ?_
  refine N_iload_n (pc' := 40) C dX1_init_39 1 rfl rfl ?_
  refine N_iconst (pc' := 41) (v := (-1 : Int32)) C dX1_init_40 (by decide) rfl ?_
  refine N_iast (pc' := 42) (ws2 := [(h0, .inr (1, [.ref q1, .ref q2, .int (400 : Int32)])), (q1, .inl (zI ω, 7, .inl (upd (upd (upd (upd (upd (upd (fun _ => 0) (0 : Int32).toNatClampNeg (-1 : Int32)) (1 : Int32).toNatClampNeg (-1 : Int32)) (2 : Int32).toNatClampNeg (-1 : Int32)) (3 : Int32).toNatClampNeg (-1 : Int32)) (4 : Int32).toNatClampNeg (-1 : Int32)) (5 : Int32).toNatClampNeg (-1 : Int32)))), (q2, .inl (zI ω, 84, .inl (fun _ => 0)))]) C 1 rfl (by unfold vp_in; decide) rfl dX1_init_41 rfl ?_
  refine N_iinc (pc' := 45) (v := (6 : Int32)) (lv' := [(0, .ref h0), (1, .int (6 : Int32))]) C dX1_init_42 1 rfl (by decide) (by decide) [1, 0] rfl rfl ?_
  refine N_goto (pc' := 29) C dX1_init_45 (by decide) ?_
  refine N_iload_n (pc' := 30) C dX1_init_29 1 rfl rfl ?_
  refine N_bipush (pc' := 32) (v := (7 : Int32)) C dX1_init_30 (by decide) rfl ?_
  refine N_ge_f (pc' := 35) (tgt := 48) C dX1_init_32 (by decide) rfl (by decide) ?_
  refine N_aload_n (pc' := 36) C dX1_init_35 0 rfl rfl ?_
  refine N_get (pc' := 39) C 0 rfl rfl 0 (by decide) rfl iu_X1_init_X1 lk_X1_init_9 dX1_init_36 rfl ?_
  refine N_iload_n (pc' := 40) C dX1_init_39 1 rfl rfl ?_
  refine N_iconst (pc' := 41) (v := (-1 : Int32)) C dX1_init_40 (by decide) rfl ?_
  refine N_iast (pc' := 42) (ws2 := [(h0, .inr (1, [.ref q1, .ref q2, .int (400 : Int32)])), (q1, .inl (zI ω, 7, .inl (upd (upd (upd (upd (upd (upd (upd (fun _ => 0) (0 : Int32).toNatClampNeg (-1 : Int32)) (1 : Int32).toNatClampNeg (-1 : Int32)) (2 : Int32).toNatClampNeg (-1 : Int32)) (3 : Int32).toNatClampNeg (-1 : Int32)) (4 : Int32).toNatClampNeg (-1 : Int32)) (5 : Int32).toNatClampNeg (-1 : Int32)) (6 : Int32).toNatClampNeg (-1 : Int32)))), (q2, .inl (zI ω, 84, .inl (fun _ => 0)))]) C 1 rfl (by unfold vp_in; decide) rfl dX1_init_41 rfl ?_
  refine N_iinc (pc' := 45) (v := (7 : Int32)) (lv' := [(0, .ref h0), (1, .int (7 : Int32))]) C dX1_init_42 1 rfl (by decide) (by decide) [1, 0] rfl rfl ?_
  refine N_goto (pc' := 29) C dX1_init_45 (by decide) ?_
  refine N_iload_n (pc' := 30) C dX1_init_29 1 rfl rfl ?_
  refine N_bipush (pc' := 32) (v := (7 : Int32)) C dX1_init_30 (by decide) rfl ?_
  refine N_ge_t (tgt := 48) C dX1_init_32 (by decide) (by decide) ?_
  exact N_ret C hR (fun k => ([h0, q1, q2] : List Nat).getD k 0) rfl dX1_init_48 (Nat.le_of_ble_eq_true rfl) (Nat.le_of_ble_eq_true rfl)
theorem ol_X5_init : Cond.methodLink RX5 3 objectInit ∈ wsX5_init := by decide +kernel
theorem ob_X5_init : Cond.instanceMethod objectInit ∈ wsX5_init := by decide +kernel
theorem oc_X5_init : Cond.code objectInit ⟨#[0xb1]⟩ 1 none ∈ wsX5_init := by decide +kernel
theorem iu_X5_init_X5 : ∀ w ∈ wsX50, w ∈ wsX5_init := by decide +kernel
theorem ac_X5_init_int : Cond.arrayClass .int ∈ wsX5_init := by decide +kernel
theorem lk_X5_init_9 : Cond.fieldLink RX5 9 "PrizeDesk$Tally" "rows" "[I" ∈ wsX5_init := by decide +kernel
theorem lk_X5_init_15 : Cond.fieldLink RX5 15 "PrizeDesk$Tally" "places" "[I" ∈ wsX5_init := by decide +kernel
theorem lk_X5_init_18 : Cond.fieldLink RX5 18 "PrizeDesk$Tally" "ties" "[I" ∈ wsX5_init := by decide +kernel
theorem lk_X5_init_21 : Cond.fieldLink RX5 21 "PrizeDesk$Tally" "values" "[I" ∈ wsX5_init := by decide +kernel
theorem lk_X5_init_24 : Cond.fieldLink RX5 24 "PrizeDesk$Tally" "held" "[I" ∈ wsX5_init := by decide +kernel
theorem lk_X5_init_27 : Cond.fieldLink RX5 27 "PrizeDesk$Tally" "beaten" "[I" ∈ wsX5_init := by decide +kernel
theorem lk_X5_init_30 : Cond.fieldLink RX5 30 "PrizeDesk$Tally" "ring" "[I" ∈ wsX5_init := by decide +kernel
theorem lk_X5_init_33 : Cond.fieldLink RX5 33 "PrizeDesk$Tally" "list" "I" ∈ wsX5_init := by decide +kernel
set_option maxRecDepth 100000 in
set_option maxHeartbeats 4000000 in
theorem m_X5_init (ω : ZO) (h0 : Nat) : ZN ω yX5_init wsX5_init { frames := 1, cells := 7, slots := 351, locals := 12 } [.ref h0] [(h0, .inr (5, [.null, .null, .null, .null, .null, .null, .null, .int 0]))] 7 351 (fun a => [(h0, .inr (5, [.ref (a 1), .ref (a 2), .ref (a 3), .ref (a 4), .ref (a 5), .ref (a 6), .ref (a 7), .int (0 : Int32)])), ((a 1), .inl (zI ω, 84, .inl (fun _ => 0))), ((a 2), .inl (zI ω, 168, .inl (fun _ => 0))), ((a 3), .inl (zI ω, 24, .inl (fun _ => 0))), ((a 4), .inl (zI ω, 24, .inl (fun _ => 0))), ((a 5), .inl (zI ω, 24, .inl (fun _ => 0))), ((a 6), .inl (zI ω, 24, .inl (fun _ => 0))), ((a 7), .inl (zI ω, 3, .inl (fun _ => 0)))]) := by
  refine ZN.go (cc := cX5_init) (maxL := 1) (own := RX5) (lv := [(0, .ref h0)]) (by decide) rfl rfl (Nat.le_of_ble_eq_true rfl) rfl (fun κ A C hR hi => ?_)
  have hi := hi rfl
  refine N_aload_n (pc' := 1) C dX5_init_0 0 rfl rfl ?_
  refine N_obj (pc' := 4) C ol_X5_init ob_X5_init oc_X5_init dX5_init_1 rfl (Nat.le_of_ble_eq_true rfl) (Nat.le_of_ble_eq_true rfl) ?_
  refine N_aload_n (pc' := 5) C dX5_init_4 0 rfl rfl ?_
  refine N_bipush (pc' := 7) (v := (84 : Int32)) C dX5_init_5 (by decide) rfl ?_
  refine N_newa (at0 := .int) (pc' := 9) (kc2 := 1) (ks2 := 84) C 0 rfl (fun _ _ h => h) rfl ac_X5_init_int (fun _ => rfl) (by decide) (N9 := 84) (by decide) (by decide) (Nat.le_of_ble_eq_true rfl) (Nat.le_of_ble_eq_true rfl) dX5_init_7 rfl rfl rfl (fun q1 => ?_)
  refine N_putR (pc' := 12) (ws2 := [(h0, .inr (5, [.ref q1, .null, .null, .null, .null, .null, .null, .int 0])), (q1, .inl (zI ω, 84, .inl (fun _ => 0)))]) C hi tyX5 tyX5_ok nmX5 0 rfl rfl 0 (by decide) (Nat.le_of_ble_eq_true rfl) iu_X5_init_X5 lk_X5_init_9 rfl rfl rfl rfl rfl dX5_init_9 rfl ?_
  refine N_aload_n (pc' := 13) C dX5_init_12 0 rfl rfl ?_
  refine N_sipush (pc' := 16) (v := (168 : Int32)) C dX5_init_13 (by decide) rfl ?_
  refine N_newa (at0 := .int) (pc' := 18) (kc2 := 2) (ks2 := 252) C 0 rfl (fun _ _ h => h) rfl ac_X5_init_int (fun _ => rfl) (by decide) (N9 := 168) (by decide) (by decide) (Nat.le_of_ble_eq_true rfl) (Nat.le_of_ble_eq_true rfl) dX5_init_16 rfl rfl rfl (fun q2 => ?_)
  refine N_putR (pc' := 21) (ws2 := [(h0, .inr (5, [.ref q1, .ref q2, .null, .null, .null, .null, .null, .int 0])), (q1, .inl (zI ω, 84, .inl (fun _ => 0))), (q2, .inl (zI ω, 168, .inl (fun _ => 0)))]) C hi tyX5 tyX5_ok nmX5 0 rfl rfl 1 (by decide) (Nat.le_of_ble_eq_true rfl) iu_X5_init_X5 lk_X5_init_15 rfl rfl rfl rfl rfl dX5_init_18 rfl ?_
  refine N_aload_n (pc' := 22) C dX5_init_21 0 rfl rfl ?_
  refine N_bipush (pc' := 24) (v := (24 : Int32)) C dX5_init_22 (by decide) rfl ?_
  refine N_newa (at0 := .int) (pc' := 26) (kc2 := 3) (ks2 := 276) C 0 rfl (fun _ _ h => h) rfl ac_X5_init_int (fun _ => rfl) (by decide) (N9 := 24) (by decide) (by decide) (Nat.le_of_ble_eq_true rfl) (Nat.le_of_ble_eq_true rfl) dX5_init_24 rfl rfl rfl (fun q3 => ?_)
  refine N_putR (pc' := 29) (ws2 := [(h0, .inr (5, [.ref q1, .ref q2, .ref q3, .null, .null, .null, .null, .int 0])), (q1, .inl (zI ω, 84, .inl (fun _ => 0))), (q2, .inl (zI ω, 168, .inl (fun _ => 0))), (q3, .inl (zI ω, 24, .inl (fun _ => 0)))]) C hi tyX5 tyX5_ok nmX5 0 rfl rfl 2 (by decide) (Nat.le_of_ble_eq_true rfl) iu_X5_init_X5 lk_X5_init_18 rfl rfl rfl rfl rfl dX5_init_26 rfl ?_
  refine N_aload_n (pc' := 30) C dX5_init_29 0 rfl rfl ?_
  refine N_bipush (pc' := 32) (v := (24 : Int32)) C dX5_init_30 (by decide) rfl ?_
  refine N_newa (at0 := .int) (pc' := 34) (kc2 := 4) (ks2 := 300) C 0 rfl (fun _ _ h => h) rfl ac_X5_init_int (fun _ => rfl) (by decide) (N9 := 24) (by decide) (by decide) (Nat.le_of_ble_eq_true rfl) (Nat.le_of_ble_eq_true rfl) dX5_init_32 rfl rfl rfl (fun q4 => ?_)
  refine N_putR (pc' := 37) (ws2 := [(h0, .inr (5, [.ref q1, .ref q2, .ref q3, .ref q4, .null, .null, .null, .int 0])), (q1, .inl (zI ω, 84, .inl (fun _ => 0))), (q2, .inl (zI ω, 168, .inl (fun _ => 0))), (q3, .inl (zI ω, 24, .inl (fun _ => 0))), (q4, .inl (zI ω, 24, .inl (fun _ => 0)))]) C hi tyX5 tyX5_ok nmX5 0 rfl rfl 3 (by decide) (Nat.le_of_ble_eq_true rfl) iu_X5_init_X5 lk_X5_init_21 rfl rfl rfl rfl rfl dX5_init_34 rfl ?_
  refine N_aload_n (pc' := 38) C dX5_init_37 0 rfl rfl ?_
  refine N_bipush (pc' := 40) (v := (24 : Int32)) C dX5_init_38 (by decide) rfl ?_
  refine N_newa (at0 := .int) (pc' := 42) (kc2 := 5) (ks2 := 324) C 0 rfl (fun _ _ h => h) rfl ac_X5_init_int (fun _ => rfl) (by decide) (N9 := 24) (by decide) (by decide) (Nat.le_of_ble_eq_true rfl) (Nat.le_of_ble_eq_true rfl) dX5_init_40 rfl rfl rfl (fun q5 => ?_)
  refine N_putR (pc' := 45) (ws2 := [(h0, .inr (5, [.ref q1, .ref q2, .ref q3, .ref q4, .ref q5, .null, .null, .int 0])), (q1, .inl (zI ω, 84, .inl (fun _ => 0))), (q2, .inl (zI ω, 168, .inl (fun _ => 0))), (q3, .inl (zI ω, 24, .inl (fun _ => 0))), (q4, .inl (zI ω, 24, .inl (fun _ => 0))), (q5, .inl (zI ω, 24, .inl (fun _ => 0)))]) C hi tyX5 tyX5_ok nmX5 0 rfl rfl 4 (by decide) (Nat.le_of_ble_eq_true rfl) iu_X5_init_X5 lk_X5_init_24 rfl rfl rfl rfl rfl dX5_init_42 rfl ?_
  refine N_aload_n (pc' := 46) C dX5_init_45 0 rfl rfl ?_
  refine N_bipush (pc' := 48) (v := (24 : Int32)) C dX5_init_46 (by decide) rfl ?_
  refine N_newa (at0 := .int) (pc' := 50) (kc2 := 6) (ks2 := 348) C 0 rfl (fun _ _ h => h) rfl ac_X5_init_int (fun _ => rfl) (by decide) (N9 := 24) (by decide) (by decide) (Nat.le_of_ble_eq_true rfl) (Nat.le_of_ble_eq_true rfl) dX5_init_48 rfl rfl rfl (fun q6 => ?_)
  refine N_putR (pc' := 53) (ws2 := [(h0, .inr (5, [.ref q1, .ref q2, .ref q3, .ref q4, .ref q5, .ref q6, .null, .int 0])), (q1, .inl (zI ω, 84, .inl (fun _ => 0))), (q2, .inl (zI ω, 168, .inl (fun _ => 0))), (q3, .inl (zI ω, 24, .inl (fun _ => 0))), (q4, .inl (zI ω, 24, .inl (fun _ => 0))), (q5, .inl (zI ω, 24, .inl (fun _ => 0))), (q6, .inl (zI ω, 24, .inl (fun _ => 0)))]) C hi tyX5 tyX5_ok nmX5 0 rfl rfl 5 (by decide) (Nat.le_of_ble_eq_true rfl) iu_X5_init_X5 lk_X5_init_27 rfl rfl rfl rfl rfl dX5_init_50 rfl ?_
  refine N_aload_n (pc' := 54) C dX5_init_53 0 rfl rfl ?_
  refine N_iconst (pc' := 55) (v := (3 : Int32)) C dX5_init_54 (by decide) rfl ?_
  refine N_newa (at0 := .int) (pc' := 57) (kc2 := 7) (ks2 := 351) C 0 rfl (fun _ _ h => h) rfl ac_X5_init_int (fun _ => rfl) (by decide) (N9 := 3) (by decide) (by decide) (Nat.le_of_ble_eq_true rfl) (Nat.le_of_ble_eq_true rfl) dX5_init_55 rfl rfl rfl (fun q7 => ?_)
  refine N_putR (pc' := 60) (ws2 := [(h0, .inr (5, [.ref q1, .ref q2, .ref q3, .ref q4, .ref q5, .ref q6, .ref q7, .int 0])), (q1, .inl (zI ω, 84, .inl (fun _ => 0))), (q2, .inl (zI ω, 168, .inl (fun _ => 0))), (q3, .inl (zI ω, 24, .inl (fun _ => 0))), (q4, .inl (zI ω, 24, .inl (fun _ => 0))), (q5, .inl (zI ω, 24, .inl (fun _ => 0))), (q6, .inl (zI ω, 24, .inl (fun _ => 0))), (q7, .inl (zI ω, 3, .inl (fun _ => 0)))]) C hi tyX5 tyX5_ok nmX5 0 rfl rfl 6 (by decide) (Nat.le_of_ble_eq_true rfl) iu_X5_init_X5 lk_X5_init_30 rfl rfl rfl rfl rfl dX5_init_57 rfl ?_
  refine N_aload_n (pc' := 61) C dX5_init_60 0 rfl rfl ?_
  refine N_iconst (pc' := 62) (v := (0 : Int32)) C dX5_init_61 (by decide) rfl ?_
  refine N_putI (pc' := 65) (ws2 := [(h0, .inr (5, [.ref q1, .ref q2, .ref q3, .ref q4, .ref q5, .ref q6, .ref q7, .int (0 : Int32)])), (q1, .inl (zI ω, 84, .inl (fun _ => 0))), (q2, .inl (zI ω, 168, .inl (fun _ => 0))), (q3, .inl (zI ω, 24, .inl (fun _ => 0))), (q4, .inl (zI ω, 24, .inl (fun _ => 0))), (q5, .inl (zI ω, 24, .inl (fun _ => 0))), (q6, .inl (zI ω, 24, .inl (fun _ => 0))), (q7, .inl (zI ω, 3, .inl (fun _ => 0)))]) C tyX5 tyX5_ok nmX5 0 rfl rfl 7 (by decide) (Nat.le_of_ble_eq_true rfl) iu_X5_init_X5 lk_X5_init_33 rfl (by decide +kernel) rfl dX5_init_62 rfl ?_
  exact N_ret C hR (fun k => ([h0, q1, q2, q3, q4, q5, q6, q7] : List Nat).getD k 0) rfl dX5_init_65 (Nat.le_of_ble_eq_true rfl) (Nat.le_of_ble_eq_true rfl)
theorem ol_X2_init : Cond.methodLink RX2 3 objectInit ∈ wsX2_init := by decide +kernel
theorem ob_X2_init : Cond.instanceMethod objectInit ∈ wsX2_init := by decide +kernel
theorem oc_X2_init : Cond.code objectInit ⟨#[0xb1]⟩ 1 none ∈ wsX2_init := by decide +kernel
theorem iu_X2_init_X2 : ∀ w ∈ wsX20, w ∈ wsX2_init := by decide +kernel
theorem ac_X2_init_int : Cond.arrayClass .int ∈ wsX2_init := by decide +kernel
theorem lk_X2_init_9 : Cond.fieldLink RX2 9 "PrizeDesk$Ranking" "keys" "[I" ∈ wsX2_init := by decide +kernel
theorem lk_X2_init_15 : Cond.fieldLink RX2 15 "PrizeDesk$Ranking" "order" "[I" ∈ wsX2_init := by decide +kernel
theorem lk_X2_init_18 : Cond.fieldLink RX2 18 "PrizeDesk$Ranking" "size" "I" ∈ wsX2_init := by decide +kernel
set_option maxRecDepth 100000 in
set_option maxHeartbeats 4000000 in
theorem m_X2_init (ω : ZO) (h0 : Nat) : ZN ω yX2_init wsX2_init { frames := 1, cells := 2, slots := 48, locals := 12 } [.ref h0] [(h0, .inr (2, [.null, .null, .int 0]))] 2 48 (fun a => [(h0, .inr (2, [.ref (a 1), .ref (a 2), .int (0 : Int32)])), ((a 1), .inl (zI ω, 24, .inl (fun _ => 0))), ((a 2), .inl (zI ω, 24, .inl (fun _ => 0)))]) := by
  refine ZN.go (cc := cX2_init) (maxL := 1) (own := RX2) (lv := [(0, .ref h0)]) (by decide) rfl rfl (Nat.le_of_ble_eq_true rfl) rfl (fun κ A C hR hi => ?_)
  have hi := hi rfl
  refine N_aload_n (pc' := 1) C dX2_init_0 0 rfl rfl ?_
  refine N_obj (pc' := 4) C ol_X2_init ob_X2_init oc_X2_init dX2_init_1 rfl (Nat.le_of_ble_eq_true rfl) (Nat.le_of_ble_eq_true rfl) ?_
  refine N_aload_n (pc' := 5) C dX2_init_4 0 rfl rfl ?_
  refine N_bipush (pc' := 7) (v := (24 : Int32)) C dX2_init_5 (by decide) rfl ?_
  refine N_newa (at0 := .int) (pc' := 9) (kc2 := 1) (ks2 := 24) C 0 rfl (fun _ _ h => h) rfl ac_X2_init_int (fun _ => rfl) (by decide) (N9 := 24) (by decide) (by decide) (Nat.le_of_ble_eq_true rfl) (Nat.le_of_ble_eq_true rfl) dX2_init_7 rfl rfl rfl (fun q1 => ?_)
  refine N_putR (pc' := 12) (ws2 := [(h0, .inr (2, [.ref q1, .null, .int 0])), (q1, .inl (zI ω, 24, .inl (fun _ => 0)))]) C hi tyX2 tyX2_ok nmX2 0 rfl rfl 0 (by decide) (Nat.le_of_ble_eq_true rfl) iu_X2_init_X2 lk_X2_init_9 rfl rfl rfl rfl rfl dX2_init_9 rfl ?_
  refine N_aload_n (pc' := 13) C dX2_init_12 0 rfl rfl ?_
  refine N_bipush (pc' := 15) (v := (24 : Int32)) C dX2_init_13 (by decide) rfl ?_
  refine N_newa (at0 := .int) (pc' := 17) (kc2 := 2) (ks2 := 48) C 0 rfl (fun _ _ h => h) rfl ac_X2_init_int (fun _ => rfl) (by decide) (N9 := 24) (by decide) (by decide) (Nat.le_of_ble_eq_true rfl) (Nat.le_of_ble_eq_true rfl) dX2_init_15 rfl rfl rfl (fun q2 => ?_)
  refine N_putR (pc' := 20) (ws2 := [(h0, .inr (2, [.ref q1, .ref q2, .int 0])), (q1, .inl (zI ω, 24, .inl (fun _ => 0))), (q2, .inl (zI ω, 24, .inl (fun _ => 0)))]) C hi tyX2 tyX2_ok nmX2 0 rfl rfl 1 (by decide) (Nat.le_of_ble_eq_true rfl) iu_X2_init_X2 lk_X2_init_15 rfl rfl rfl rfl rfl dX2_init_17 rfl ?_
  refine N_aload_n (pc' := 21) C dX2_init_20 0 rfl rfl ?_
  refine N_iconst (pc' := 22) (v := (0 : Int32)) C dX2_init_21 (by decide) rfl ?_
  refine N_putI (pc' := 25) (ws2 := [(h0, .inr (2, [.ref q1, .ref q2, .int (0 : Int32)])), (q1, .inl (zI ω, 24, .inl (fun _ => 0))), (q2, .inl (zI ω, 24, .inl (fun _ => 0)))]) C tyX2 tyX2_ok nmX2 0 rfl rfl 2 (by decide) (Nat.le_of_ble_eq_true rfl) iu_X2_init_X2 lk_X2_init_18 rfl (by decide +kernel) rfl dX2_init_22 rfl ?_
  exact N_ret C hR (fun k => ([h0, q1, q2] : List Nat).getD k 0) rfl dX2_init_25 (Nat.le_of_ble_eq_true rfl) (Nat.le_of_ble_eq_true rfl)
theorem ibg : True := trivial
set_option maxRecDepth 100000 in
set_option maxHeartbeats 4000000 in
theorem m_X8_begins (ω : ZO) (q : Nat) (f : Nat → Int32) : ZN ω yX8_begins wsX8_begins { frames := 0, cells := 0, slots := 0, locals := 0 } [.ref q] [(q, .inl (zI ω, 11, .inl f))] 0 0 (fun _ => [(q, .inl (zI ω, 11, .inl (fBeg f)))]) := by
  refine ZN.go (cc := cX8_begins) (maxL := 1) (own := RX8) (lv := [(0, .ref q)]) (by decide) rfl rfl (Nat.le_of_ble_eq_true rfl) rfl (fun κ A C hR hi => ?_)
  refine N_aload_n (pc' := 1) C dX8_begins_0 0 rfl rfl ?_
  refine N_iconst (pc' := 2) (v := (0 : Int32)) C dX8_begins_1 (by decide) rfl ?_
  refine N_bipush (pc' := 4) (v := (50 : Int32)) C dX8_begins_2 (by decide) rfl ?_
  refine N_iast (pc' := 5) (ws2 := [(q, .inl (zI ω, 11, .inl (upd f (0 : Int32).toNatClampNeg (50 : Int32))))]) C 0 rfl (by unfold vp_in; decide) rfl dX8_begins_4 rfl ?_
  refine N_aload_n (pc' := 6) C dX8_begins_5 0 rfl rfl ?_
  refine N_iconst (pc' := 7) (v := (1 : Int32)) C dX8_begins_6 (by decide) rfl ?_
  refine N_sipush (pc' := 10) (v := (900 : Int32)) C dX8_begins_7 (by decide) rfl ?_
  refine N_iast (pc' := 11) (ws2 := [(q, .inl (zI ω, 11, .inl (upd (upd f (0 : Int32).toNatClampNeg (50 : Int32)) (1 : Int32).toNatClampNeg (900 : Int32))))]) C 0 rfl (by unfold vp_in; decide) rfl dX8_begins_10 rfl ?_
  refine N_aload_n (pc' := 12) C dX8_begins_11 0 rfl rfl ?_
  refine N_iconst (pc' := 13) (v := (2 : Int32)) C dX8_begins_12 (by decide) rfl ?_
  refine N_iconst (pc' := 14) (v := (0 : Int32)) C dX8_begins_13 (by decide) rfl ?_
  refine N_iast (pc' := 15) (ws2 := [(q, .inl (zI ω, 11, .inl (upd (upd (upd f (0 : Int32).toNatClampNeg (50 : Int32)) (1 : Int32).toNatClampNeg (900 : Int32)) (2 : Int32).toNatClampNeg (0 : Int32))))]) C 0 rfl (by unfold vp_in; decide) rfl dX8_begins_14 rfl ?_
  refine N_aload_n (pc' := 16) C dX8_begins_15 0 rfl rfl ?_
  refine N_iconst (pc' := 17) (v := (3 : Int32)) C dX8_begins_16 (by decide) rfl ?_
  refine N_sipush (pc' := 20) (v := (365 : Int32)) C dX8_begins_17 (by decide) rfl ?_
  refine N_iast (pc' := 21) (ws2 := [(q, .inl (zI ω, 11, .inl (upd (upd (upd (upd f (0 : Int32).toNatClampNeg (50 : Int32)) (1 : Int32).toNatClampNeg (900 : Int32)) (2 : Int32).toNatClampNeg (0 : Int32)) (3 : Int32).toNatClampNeg (365 : Int32))))]) C 0 rfl (by unfold vp_in; decide) rfl dX8_begins_20 rfl ?_
  refine N_aload_n (pc' := 22) C dX8_begins_21 0 rfl rfl ?_
  refine N_iconst (pc' := 23) (v := (4 : Int32)) C dX8_begins_22 (by decide) rfl ?_
  refine N_iconst (pc' := 24) (v := (3 : Int32)) C dX8_begins_23 (by decide) rfl ?_
  refine N_iast (pc' := 25) (ws2 := [(q, .inl (zI ω, 11, .inl (upd (upd (upd (upd (upd f (0 : Int32).toNatClampNeg (50 : Int32)) (1 : Int32).toNatClampNeg (900 : Int32)) (2 : Int32).toNatClampNeg (0 : Int32)) (3 : Int32).toNatClampNeg (365 : Int32)) (4 : Int32).toNatClampNeg (3 : Int32))))]) C 0 rfl (by unfold vp_in; decide) rfl dX8_begins_24 rfl ?_
  refine N_aload_n (pc' := 26) C dX8_begins_25 0 rfl rfl ?_
  refine N_iconst (pc' := 27) (v := (5 : Int32)) C dX8_begins_26 (by decide) rfl ?_
  refine N_iconst (pc' := 28) (v := (2 : Int32)) C dX8_begins_27 (by decide) rfl ?_
  refine N_iast (pc' := 29) (ws2 := [(q, .inl (zI ω, 11, .inl (upd (upd (upd (upd (upd (upd f (0 : Int32).toNatClampNeg (50 : Int32)) (1 : Int32).toNatClampNeg (900 : Int32)) (2 : Int32).toNatClampNeg (0 : Int32)) (3 : Int32).toNatClampNeg (365 : Int32)) (4 : Int32).toNatClampNeg (3 : Int32)) (5 : Int32).toNatClampNeg (2 : Int32))))]) C 0 rfl (by unfold vp_in; decide) rfl dX8_begins_28 rfl ?_
  refine N_aload_n (pc' := 30) C dX8_begins_29 0 rfl rfl ?_
  refine N_bipush (pc' := 32) (v := (6 : Int32)) C dX8_begins_30 (by decide) rfl ?_
  refine N_bipush (pc' := 34) (v := (30 : Int32)) C dX8_begins_32 (by decide) rfl ?_
  refine N_iast (pc' := 35) (ws2 := [(q, .inl (zI ω, 11, .inl (upd (upd (upd (upd (upd (upd (upd f (0 : Int32).toNatClampNeg (50 : Int32)) (1 : Int32).toNatClampNeg (900 : Int32)) (2 : Int32).toNatClampNeg (0 : Int32)) (3 : Int32).toNatClampNeg (365 : Int32)) (4 : Int32).toNatClampNeg (3 : Int32)) (5 : Int32).toNatClampNeg (2 : Int32)) (6 : Int32).toNatClampNeg (30 : Int32))))]) C 0 rfl (by unfold vp_in; decide) rfl dX8_begins_34 rfl ?_
  refine N_aload_n (pc' := 36) C dX8_begins_35 0 rfl rfl ?_
  refine N_bipush (pc' := 38) (v := (7 : Int32)) C dX8_begins_36 (by decide) rfl ?_
  refine N_bipush (pc' := 40) (v := (6 : Int32)) C dX8_begins_38 (by decide) rfl ?_
  refine N_iast (pc' := 41) (ws2 := [(q, .inl (zI ω, 11, .inl (upd (upd (upd (upd (upd (upd (upd (upd f (0 : Int32).toNatClampNeg (50 : Int32)) (1 : Int32).toNatClampNeg (900 : Int32)) (2 : Int32).toNatClampNeg (0 : Int32)) (3 : Int32).toNatClampNeg (365 : Int32)) (4 : Int32).toNatClampNeg (3 : Int32)) (5 : Int32).toNatClampNeg (2 : Int32)) (6 : Int32).toNatClampNeg (30 : Int32)) (7 : Int32).toNatClampNeg (6 : Int32))))]) C 0 rfl (by unfold vp_in; decide) rfl dX8_begins_40 rfl ?_
  refine N_aload_n (pc' := 42) C dX8_begins_41 0 rfl rfl ?_
  refine N_bipush (pc' := 44) (v := (8 : Int32)) C dX8_begins_42 (by decide) rfl ?_
  refine N_iconst (pc' := 45) (v := (3 : Int32)) C dX8_begins_44 (by decide) rfl ?_
  refine N_iast (pc' := 46) (ws2 := [(q, .inl (zI ω, 11, .inl (upd (upd (upd (upd (upd (upd (upd (upd (upd f (0 : Int32).toNatClampNeg (50 : Int32)) (1 : Int32).toNatClampNeg (900 : Int32)) (2 : Int32).toNatClampNeg (0 : Int32)) (3 : Int32).toNatClampNeg (365 : Int32)) (4 : Int32).toNatClampNeg (3 : Int32)) (5 : Int32).toNatClampNeg (2 : Int32)) (6 : Int32).toNatClampNeg (30 : Int32)) (7 : Int32).toNatClampNeg (6 : Int32)) (8 : Int32).toNatClampNeg (3 : Int32))))]) C 0 rfl (by unfold vp_in; decide) rfl dX8_begins_45 rfl ?_
  refine N_aload_n (pc' := 47) C dX8_begins_46 0 rfl rfl ?_
  refine N_bipush (pc' := 49) (v := (9 : Int32)) C dX8_begins_47 (by decide) rfl ?_
  refine N_iconst (pc' := 50) (v := (0 : Int32)) C dX8_begins_49 (by decide) rfl ?_
  refine N_iast (pc' := 51) (ws2 := [(q, .inl (zI ω, 11, .inl (upd (upd (upd (upd (upd (upd (upd (upd (upd (upd f (0 : Int32).toNatClampNeg (50 : Int32)) (1 : Int32).toNatClampNeg (900 : Int32)) (2 : Int32).toNatClampNeg (0 : Int32)) (3 : Int32).toNatClampNeg (365 : Int32)) (4 : Int32).toNatClampNeg (3 : Int32)) (5 : Int32).toNatClampNeg (2 : Int32)) (6 : Int32).toNatClampNeg (30 : Int32)) (7 : Int32).toNatClampNeg (6 : Int32)) (8 : Int32).toNatClampNeg (3 : Int32)) (9 : Int32).toNatClampNeg (0 : Int32))))]) C 0 rfl (by unfold vp_in; decide) rfl dX8_begins_50 rfl ?_
  refine N_aload_n (pc' := 52) C dX8_begins_51 0 rfl rfl ?_
  refine N_bipush (pc' := 54) (v := (10 : Int32)) C dX8_begins_52 (by decide) rfl ?_
  refine N_iconst (pc' := 55) (v := (0 : Int32)) C dX8_begins_54 (by decide) rfl ?_
  refine N_iast (pc' := 56) (ws2 := [(q, .inl (zI ω, 11, .inl (upd (upd (upd (upd (upd (upd (upd (upd (upd (upd (upd f (0 : Int32).toNatClampNeg (50 : Int32)) (1 : Int32).toNatClampNeg (900 : Int32)) (2 : Int32).toNatClampNeg (0 : Int32)) (3 : Int32).toNatClampNeg (365 : Int32)) (4 : Int32).toNatClampNeg (3 : Int32)) (5 : Int32).toNatClampNeg (2 : Int32)) (6 : Int32).toNatClampNeg (30 : Int32)) (7 : Int32).toNatClampNeg (6 : Int32)) (8 : Int32).toNatClampNeg (3 : Int32)) (9 : Int32).toNatClampNeg (0 : Int32)) (10 : Int32).toNatClampNeg (0 : Int32))))]) C 0 rfl (by unfold vp_in; decide) rfl dX8_begins_55 rfl ?_
  exact N_ret C hR (fun _ => 0) rfl dX8_begins_56 (Nat.le_refl _) (Nat.le_refl _)
