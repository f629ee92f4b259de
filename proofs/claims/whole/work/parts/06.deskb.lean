theorem lk_X4_takeOut_38n : Cond.methodLinkNest RX4 38 yX7_bit RX7 ∈ zNws := by decide +kernel
theorem lk_X4_takeOut_38s : Cond.static yX7_bit ∈ wsX4_takeOut := by decide +kernel
theorem lk_X4_takeOut_38i : Cond.initialized yX7_bit.cls ∈ wsX4_takeOut := by decide +kernel
theorem iu_X4_takeOut_X4 : ∀ w ∈ wsX40, w ∈ wsX4_takeOut := by decide +kernel
theorem lk_X4_takeOut_31 : Cond.fieldLink RX4 31 "PrizeDesk$Shelf" "takenOut" "I" ∈ wsX4_takeOut := by decide +kernel
abbrev rm_X4_takeOut : Room := { frames := 2, cells := 0, slots := 0, locals := 42 }
theorem sg_X4_takeOut : ZG yX4_takeOut wsX4_takeOut cX4_takeOut 3 (some .boolean) RX4 1 rm_X4_takeOut := ⟨⟨_, rfl⟩, by decide +kernel, rfl, rfl⟩
set_option maxHeartbeats 4000000 in
set_option maxRecDepth 100000 in
theorem c_X4_takeOut (ω : ZO) (N : Nat) (σ : ZS) (a1 : Int32) : ZIs ω wD yX4_takeOut wsX4_takeOut rm_X4_takeOut [.ref (za ω 6), .int a1] σ (f_X4_takeOut N σ a1) := by
  intro r0 hf
  refine ZI.go (cc := cX4_takeOut) (maxL := 3) (ret := (some .boolean)) (own := RX4) (lv := [(0, .ref (za ω 6)), (1, .int a1)]) (by decide) rfl rfl (Nat.le_of_ble_eq_true rfl) rfl (fun κ C hR => ?_)
  unfold f_X4_takeOut at hf
  refine G_aload_n (pc' := 1) C dX4_takeOut_0 0 rfl rfl ?_
  refine G_iload_n (pc' := 2) C dX4_takeOut_1 1 rfl rfl ?_
  refine G_callVp (pc' := 5) C [.int a1] (c_X4_isTakenOut ω N σ a1) sg_X4_isTakenOut gX4_takeOut_X4_isTakenOut wD_6 rfl ⟨Nat.le_of_ble_eq_true rfl, Nat.le_of_ble_eq_true rfl⟩ rfl rfl (Nat.le_of_ble_eq_true rfl) dX4_takeOut_2 rfl hf (fun v1 hf => ?_)
  refine G_if_ne (tgt := 12) (pc' := 8) C dX4_takeOut_5 (by decide) rfl hf (fun hf => ?_) (fun hf => ?_)
  · refine G_iconst (v := (1 : Int32)) (pc' := 9) C dX4_takeOut_8 (by decide) rfl ?_
    refine G_goto (pc' := 13) C dX4_takeOut_9 (by decide) ?_
    refine G_istore_n (lv' := [(0, .ref (za ω 6)), (1, .int a1), (2, .int (1 : Int32))]) (pc' := 14) C dX4_takeOut_13 (by decide) [1, 2, 0] rfl rfl ?_
    refine G_aload_n (pc' := 15) C dX4_takeOut_14 0 rfl rfl ?_
    refine G_dup (pc' := 16) C dX4_takeOut_15 rfl rfl ?_
    refine G_get (pc' := 19) C wD_6 rfl 6 (by decide) rfl iu_X4_takeOut_X4 lk_X4_takeOut_31 dX4_takeOut_16 rfl ?_
    refine G_iload_n (pc' := 20) C dX4_takeOut_19 1 rfl rfl ?_
    refine G_callNp (pc' := 23) C [.int a1] (c_X7_bit ω N σ a1) sg_X7_bit gX4_takeOut_X7_bit_n38 lk_X4_takeOut_38n lk_X4_takeOut_38s lk_X4_takeOut_38i ⟨Nat.le_of_ble_eq_true rfl, Nat.le_of_ble_eq_true rfl⟩ rfl rfl (Nat.le_of_ble_eq_true rfl) dX4_takeOut_20 rfl hf (fun v2 hf => ?_)
    refine G_ior (pc' := 24) C dX4_takeOut_23 rfl ?_
    refine G_put (pc' := 27) C tyX4 tyX4_ok nmX4 wD_6 rfl 6 (by decide) (Nat.le_of_ble_eq_true rfl) iu_X4_takeOut_X4 lk_X4_takeOut_31 rfl (by decide +kernel) wD_f6_6 dX4_takeOut_24 rfl hf (fun s3 hf => ?_)
    refine G_iload_n (pc' := 28) C dX4_takeOut_27 2 rfl rfl ?_
    exact G_zret C hR dX4_takeOut_28 (by decide) (Option.some.inj hf)
  · refine G_iconst (v := (0 : Int32)) (pc' := 13) C dX4_takeOut_12 (by decide) rfl ?_
    refine G_istore_n (lv' := [(0, .ref (za ω 6)), (1, .int a1), (2, .int (0 : Int32))]) (pc' := 14) C dX4_takeOut_13 (by decide) [1, 2, 0] rfl rfl ?_
    refine G_aload_n (pc' := 15) C dX4_takeOut_14 0 rfl rfl ?_
    refine G_dup (pc' := 16) C dX4_takeOut_15 rfl rfl ?_
    refine G_get (pc' := 19) C wD_6 rfl 6 (by decide) rfl iu_X4_takeOut_X4 lk_X4_takeOut_31 dX4_takeOut_16 rfl ?_
    refine G_iload_n (pc' := 20) C dX4_takeOut_19 1 rfl rfl ?_
    refine G_callNp (pc' := 23) C [.int a1] (c_X7_bit ω N σ a1) sg_X7_bit gX4_takeOut_X7_bit_n38 lk_X4_takeOut_38n lk_X4_takeOut_38s lk_X4_takeOut_38i ⟨Nat.le_of_ble_eq_true rfl, Nat.le_of_ble_eq_true rfl⟩ rfl rfl (Nat.le_of_ble_eq_true rfl) dX4_takeOut_20 rfl hf (fun v4 hf => ?_)
    refine G_ior (pc' := 24) C dX4_takeOut_23 rfl ?_
    refine G_put (pc' := 27) C tyX4 tyX4_ok nmX4 wD_6 rfl 6 (by decide) (Nat.le_of_ble_eq_true rfl) iu_X4_takeOut_X4 lk_X4_takeOut_31 rfl (by decide +kernel) wD_f6_6 dX4_takeOut_24 rfl hf (fun s5 hf => ?_)
    refine G_iload_n (pc' := 28) C dX4_takeOut_27 2 rfl rfl ?_
    exact G_zret C hR dX4_takeOut_28 (by decide) (Option.some.inj hf)
theorem iu_X7_withdraw_X7 : ∀ w ∈ wsX70, w ∈ wsX7_withdraw := by decide +kernel
theorem lk_X7_withdraw_26 : Cond.fieldLink RX7 26 "PrizeDesk" "shelf" "LPrizeDesk$Shelf;" ∈ wsX7_withdraw := by decide +kernel
abbrev rm_X7_withdraw : Room := { frames := 3, cells := 0, slots := 0, locals := 64 }
theorem sg_X7_withdraw : ZG yX7_withdraw wsX7_withdraw cX7_withdraw 2 (some .boolean) RX7 1 rm_X7_withdraw := ⟨⟨_, rfl⟩, by decide +kernel, rfl, rfl⟩
set_option maxHeartbeats 4000000 in
set_option maxRecDepth 100000 in
theorem c_X7_withdraw (ω : ZO) (N : Nat) (σ : ZS) (a1 : Int32) : ZIs ω wD yX7_withdraw wsX7_withdraw rm_X7_withdraw [.ref (za ω 0), .int a1] σ (f_X7_withdraw N σ a1) := by
  intro r0 hf
  refine ZI.go (cc := cX7_withdraw) (maxL := 2) (ret := (some .boolean)) (own := RX7) (lv := [(0, .ref (za ω 0)), (1, .int a1)]) (by decide) rfl rfl (Nat.le_of_ble_eq_true rfl) rfl (fun κ C hR => ?_)
  unfold f_X7_withdraw at hf
  refine G_aload_n (pc' := 1) C dX7_withdraw_0 0 rfl rfl ?_
  refine G_get (pc' := 4) C wD_0 rfl 2 (by decide) rfl iu_X7_withdraw_X7 lk_X7_withdraw_26 dX7_withdraw_1 rfl ?_
  refine G_iload_n (pc' := 5) C dX7_withdraw_4 1 rfl rfl ?_
  refine G_callVp (pc' := 8) C [.int a1] (c_X4_has ω N σ a1) sg_X4_has gX7_withdraw_X4_has wD_6 rfl ⟨Nat.le_of_ble_eq_true rfl, Nat.le_of_ble_eq_true rfl⟩ rfl rfl (Nat.le_of_ble_eq_true rfl) dX7_withdraw_5 rfl hf (fun v1 hf => ?_)
  refine G_if_eq (tgt := 26) (pc' := 11) C dX7_withdraw_8 (by decide) rfl hf (fun hf => ?_) (fun hf => ?_)
  · refine G_iconst (v := (0 : Int32)) (pc' := 27) C dX7_withdraw_26 (by decide) rfl ?_
    exact G_zret C hR dX7_withdraw_27 (by decide) (Option.some.inj hf)
  · refine G_aload_n (pc' := 12) C dX7_withdraw_11 0 rfl rfl ?_
    refine G_get (pc' := 15) C wD_0 rfl 2 (by decide) rfl iu_X7_withdraw_X7 lk_X7_withdraw_26 dX7_withdraw_12 rfl ?_
    refine G_iload_n (pc' := 16) C dX7_withdraw_15 1 rfl rfl ?_
    refine G_callVt (pc' := 19) C [.int a1] (c_X4_takeOut ω N σ a1) sg_X4_takeOut gX7_withdraw_X4_takeOut wD_6 rfl ⟨Nat.le_of_ble_eq_true rfl, Nat.le_of_ble_eq_true rfl⟩ rfl rfl (Nat.le_of_ble_eq_true rfl) dX7_withdraw_16 rfl hf (fun v3 s2 hf => ?_)
    refine G_if_eq (tgt := 26) (pc' := 22) C dX7_withdraw_19 (by decide) rfl hf (fun hf => ?_) (fun hf => ?_)
    · refine G_iconst (v := (0 : Int32)) (pc' := 27) C dX7_withdraw_26 (by decide) rfl ?_
      exact G_zret C hR dX7_withdraw_27 (by decide) (Option.some.inj hf)
    · refine G_iconst (v := (1 : Int32)) (pc' := 23) C dX7_withdraw_22 (by decide) rfl ?_
      refine G_goto (pc' := 27) C dX7_withdraw_23 (by decide) ?_
      exact G_zret C hR dX7_withdraw_27 (by decide) (Option.some.inj hf)
theorem lk_X0_addKin_30n : Cond.methodLinkNest RX0 30 yX7_isJudge RX7 ∈ zNws := by decide +kernel
theorem lk_X0_addKin_30s : Cond.static yX7_isJudge ∈ wsX0_addKin := by decide +kernel
theorem lk_X0_addKin_30i : Cond.initialized yX7_isJudge.cls ∈ wsX0_addKin := by decide +kernel
theorem lk_X0_addKin_34n : Cond.methodLinkNest RX0 34 yX7_contains RX7 ∈ zNws := by decide +kernel
theorem lk_X0_addKin_34s : Cond.static yX7_contains ∈ wsX0_addKin := by decide +kernel
theorem lk_X0_addKin_34i : Cond.initialized yX7_contains.cls ∈ wsX0_addKin := by decide +kernel
theorem lk_X0_addKin_38n : Cond.methodLinkNest RX0 38 yX7_bit RX7 ∈ zNws := by decide +kernel
theorem lk_X0_addKin_38s : Cond.static yX7_bit ∈ wsX0_addKin := by decide +kernel
theorem lk_X0_addKin_38i : Cond.initialized yX7_bit.cls ∈ wsX0_addKin := by decide +kernel
theorem iu_X0_addKin_X0 : ∀ w ∈ wsX00, w ∈ wsX0_addKin := by decide +kernel
theorem lk_X0_addKin_9 : Cond.fieldLink RX0 9 "PrizeDesk$Panel" "kinBooks" "[I" ∈ wsX0_addKin := by decide +kernel
abbrev rm_X0_addKin : Room := { frames := 2, cells := 0, slots := 0, locals := 42 }
theorem sg_X0_addKin : ZG yX0_addKin wsX0_addKin cX0_addKin 3 (some .boolean) RX0 2 rm_X0_addKin := ⟨⟨_, rfl⟩, by decide +kernel, rfl, rfl⟩
set_option maxHeartbeats 4000000 in
set_option maxRecDepth 100000 in
theorem c_X0_addKin (ω : ZO) (N : Nat) (σ : ZS) (a1 : Int32) (a2 : Int32) : ZIs ω wD yX0_addKin wsX0_addKin rm_X0_addKin [.ref (za ω 11), .int a1, .int a2] σ (f_X0_addKin N σ a1 a2) := by
  intro r0 hf
  refine ZI.go (cc := cX0_addKin) (maxL := 3) (ret := (some .boolean)) (own := RX0) (lv := [(0, .ref (za ω 11)), (1, .int a1), (2, .int a2)]) (by decide) rfl rfl (Nat.le_of_ble_eq_true rfl) rfl (fun κ C hR => ?_)
  unfold f_X0_addKin at hf
  refine G_iload_n (pc' := 1) C dX0_addKin_0 1 rfl rfl ?_
  refine G_callNp (pc' := 4) C [.int a1] (c_X7_isJudge ω N σ a1) sg_X7_isJudge gX0_addKin_X7_isJudge_n30 lk_X0_addKin_30n lk_X0_addKin_30s lk_X0_addKin_30i ⟨Nat.le_of_ble_eq_true rfl, Nat.le_of_ble_eq_true rfl⟩ rfl rfl (Nat.le_of_ble_eq_true rfl) dX0_addKin_1 rfl hf (fun v1 hf => ?_)
  refine G_if_eq (tgt := 20) (pc' := 7) C dX0_addKin_4 (by decide) rfl hf (fun hf => ?_) (fun hf => ?_)
  · refine G_iconst (v := (0 : Int32)) (pc' := 21) C dX0_addKin_20 (by decide) rfl ?_
    exact G_zret C hR dX0_addKin_21 (by decide) (Option.some.inj hf)
  · refine G_aload_n (pc' := 8) C dX0_addKin_7 0 rfl rfl ?_
    refine G_get (pc' := 11) C wD_11 rfl 0 (by decide) rfl iu_X0_addKin_X0 lk_X0_addKin_9 dX0_addKin_8 rfl ?_
    refine G_iload_n (pc' := 12) C dX0_addKin_11 1 rfl rfl ?_
    refine G_iald (pc' := 13) C wD_12 dX0_addKin_12 rfl hf (fun v2 hf => ?_)
    refine G_iload_n (pc' := 14) C dX0_addKin_13 2 rfl rfl ?_
    refine G_callNp (pc' := 17) C [.int v2, .int a2] (c_X7_contains ω N σ v2 a2) sg_X7_contains gX0_addKin_X7_contains_n34 lk_X0_addKin_34n lk_X0_addKin_34s lk_X0_addKin_34i ⟨Nat.le_of_ble_eq_true rfl, Nat.le_of_ble_eq_true rfl⟩ rfl rfl (Nat.le_of_ble_eq_true rfl) dX0_addKin_14 rfl hf (fun v3 hf => ?_)
    refine G_if_eq (tgt := 22) (pc' := 20) C dX0_addKin_17 (by decide) rfl hf (fun hf => ?_) (fun hf => ?_)
    · refine G_aload_n (pc' := 23) C dX0_addKin_22 0 rfl rfl ?_
      refine G_get (pc' := 26) C wD_11 rfl 0 (by decide) rfl iu_X0_addKin_X0 lk_X0_addKin_9 dX0_addKin_23 rfl ?_
      refine G_iload_n (pc' := 27) C dX0_addKin_26 1 rfl rfl ?_
      refine G_dup2 (pc' := 28) C dX0_addKin_27 rfl rfl rfl ?_
      refine G_iald (pc' := 29) C wD_12 dX0_addKin_28 rfl hf (fun v4 hf => ?_)
      refine G_iload_n (pc' := 30) C dX0_addKin_29 2 rfl rfl ?_
      refine G_callNp (pc' := 33) C [.int a2] (c_X7_bit ω N σ a2) sg_X7_bit gX0_addKin_X7_bit_n38 lk_X0_addKin_38n lk_X0_addKin_38s lk_X0_addKin_38i ⟨Nat.le_of_ble_eq_true rfl, Nat.le_of_ble_eq_true rfl⟩ rfl rfl (Nat.le_of_ble_eq_true rfl) dX0_addKin_30 rfl hf (fun v5 hf => ?_)
      refine G_ior (pc' := 34) C dX0_addKin_33 rfl ?_
      refine G_iast (pc' := 35) C wD_12 wD_s12 dX0_addKin_34 rfl hf (fun s6 hf => ?_)
      refine G_aload_n (pc' := 36) C dX0_addKin_35 0 rfl rfl ?_
      refine G_iload_n (pc' := 37) C dX0_addKin_36 1 rfl rfl ?_
      refine G_iload_n (pc' := 38) C dX0_addKin_37 2 rfl rfl ?_
      refine G_callNp (pc' := 41) C [.int a2] (c_X7_bit ω N s6 a2) sg_X7_bit gX0_addKin_X7_bit_n38 lk_X0_addKin_38n lk_X0_addKin_38s lk_X0_addKin_38i ⟨Nat.le_of_ble_eq_true rfl, Nat.le_of_ble_eq_true rfl⟩ rfl rfl (Nat.le_of_ble_eq_true rfl) dX0_addKin_38 rfl hf (fun v7 hf => ?_)
      refine G_callVv (pc' := 44) C [.int a1, .int v7] (c_X0_bar ω N s6 a1 v7) sg_X0_bar gX0_addKin_X0_bar wD_11 rfl ⟨Nat.le_of_ble_eq_true rfl, Nat.le_of_ble_eq_true rfl⟩ rfl rfl (Nat.le_of_ble_eq_true rfl) dX0_addKin_41 rfl hf (fun s8 hf => ?_)
      refine G_iconst (v := (1 : Int32)) (pc' := 45) C dX0_addKin_44 (by decide) rfl ?_
      exact G_zret C hR dX0_addKin_45 (by decide) (Option.some.inj hf)
    · refine G_iconst (v := (0 : Int32)) (pc' := 21) C dX0_addKin_20 (by decide) rfl ?_
      exact G_zret C hR dX0_addKin_21 (by decide) (Option.some.inj hf)
theorem iu_X7_kin_X7 : ∀ w ∈ wsX70, w ∈ wsX7_kin := by decide +kernel
theorem lk_X7_kin_33 : Cond.fieldLink RX7 33 "PrizeDesk" "panel" "LPrizeDesk$Panel;" ∈ wsX7_kin := by decide +kernel
theorem lk_X7_kin_26 : Cond.fieldLink RX7 26 "PrizeDesk" "shelf" "LPrizeDesk$Shelf;" ∈ wsX7_kin := by decide +kernel
abbrev rm_X7_kin : Room := { frames := 3, cells := 0, slots := 0, locals := 64 }
theorem sg_X7_kin : ZG yX7_kin wsX7_kin cX7_kin 3 (some .boolean) RX7 2 rm_X7_kin := ⟨⟨_, rfl⟩, by decide +kernel, rfl, rfl⟩
set_option maxHeartbeats 4000000 in
set_option maxRecDepth 100000 in
theorem c_X7_kin (ω : ZO) (N : Nat) (σ : ZS) (a1 : Int32) (a2 : Int32) : ZIs ω wD yX7_kin wsX7_kin rm_X7_kin [.ref (za ω 0), .int a1, .int a2] σ (f_X7_kin N σ a1 a2) := by
  intro r0 hf
  refine ZI.go (cc := cX7_kin) (maxL := 3) (ret := (some .boolean)) (own := RX7) (lv := [(0, .ref (za ω 0)), (1, .int a1), (2, .int a2)]) (by decide) rfl rfl (Nat.le_of_ble_eq_true rfl) rfl (fun κ C hR => ?_)
  unfold f_X7_kin at hf
  refine G_iload_n (pc' := 1) C dX7_kin_0 1 rfl rfl ?_
  refine G_callSp (pc' := 4) C [.int a1] (c_X7_isJudge ω N σ a1) sg_X7_isJudge gX7_kin_X7_isJudge ⟨Nat.le_of_ble_eq_true rfl, Nat.le_of_ble_eq_true rfl⟩ rfl rfl (Nat.le_of_ble_eq_true rfl) dX7_kin_1 rfl hf (fun v1 hf => ?_)
  refine G_if_eq (tgt := 34) (pc' := 7) C dX7_kin_4 (by decide) rfl hf (fun hf => ?_) (fun hf => ?_)
  · refine G_iconst (v := (0 : Int32)) (pc' := 35) C dX7_kin_34 (by decide) rfl ?_
    exact G_zret C hR dX7_kin_35 (by decide) (Option.some.inj hf)
  · refine G_aload_n (pc' := 8) C dX7_kin_7 0 rfl rfl ?_
    refine G_get (pc' := 11) C wD_0 rfl 2 (by decide) rfl iu_X7_kin_X7 lk_X7_kin_26 dX7_kin_8 rfl ?_
    refine G_iload_n (pc' := 12) C dX7_kin_11 2 rfl rfl ?_
    refine G_callVp (pc' := 15) C [.int a2] (c_X4_has ω N σ a2) sg_X4_has gX7_kin_X4_has wD_6 rfl ⟨Nat.le_of_ble_eq_true rfl, Nat.le_of_ble_eq_true rfl⟩ rfl rfl (Nat.le_of_ble_eq_true rfl) dX7_kin_12 rfl hf (fun v2 hf => ?_)
    refine G_if_eq (tgt := 34) (pc' := 18) C dX7_kin_15 (by decide) rfl hf (fun hf => ?_) (fun hf => ?_)
    · refine G_iconst (v := (0 : Int32)) (pc' := 35) C dX7_kin_34 (by decide) rfl ?_
      exact G_zret C hR dX7_kin_35 (by decide) (Option.some.inj hf)
    · refine G_aload_n (pc' := 19) C dX7_kin_18 0 rfl rfl ?_
      refine G_get (pc' := 22) C wD_0 rfl 3 (by decide) rfl iu_X7_kin_X7 lk_X7_kin_33 dX7_kin_19 rfl ?_
      refine G_iload_n (pc' := 23) C dX7_kin_22 1 rfl rfl ?_
      refine G_iload_n (pc' := 24) C dX7_kin_23 2 rfl rfl ?_
      refine G_callVt (pc' := 27) C [.int a1, .int a2] (c_X0_addKin ω N σ a1 a2) sg_X0_addKin gX7_kin_X0_addKin wD_11 rfl ⟨Nat.le_of_ble_eq_true rfl, Nat.le_of_ble_eq_true rfl⟩ rfl rfl (Nat.le_of_ble_eq_true rfl) dX7_kin_24 rfl hf (fun v4 s3 hf => ?_)
      refine G_if_eq (tgt := 34) (pc' := 30) C dX7_kin_27 (by decide) rfl hf (fun hf => ?_) (fun hf => ?_)
      · refine G_iconst (v := (0 : Int32)) (pc' := 35) C dX7_kin_34 (by decide) rfl ?_
        exact G_zret C hR dX7_kin_35 (by decide) (Option.some.inj hf)
      · refine G_iconst (v := (1 : Int32)) (pc' := 31) C dX7_kin_30 (by decide) rfl ?_
        refine G_goto (pc' := 35) C dX7_kin_31 (by decide) ?_
        exact G_zret C hR dX7_kin_35 (by decide) (Option.some.inj hf)
theorem iu_X4_publisherOf_X4 : ∀ w ∈ wsX40, w ∈ wsX4_publisherOf := by decide +kernel
theorem lk_X4_publisherOf_9 : Cond.fieldLink RX4 9 "PrizeDesk$Shelf" "publishers" "[I" ∈ wsX4_publisherOf := by decide +kernel
abbrev rm_X4_publisherOf : Room := { frames := 1, cells := 0, slots := 0, locals := 21 }
theorem sg_X4_publisherOf : ZG yX4_publisherOf wsX4_publisherOf cX4_publisherOf 2 (some .int) RX4 1 rm_X4_publisherOf := ⟨⟨_, rfl⟩, by decide +kernel, rfl, rfl⟩
set_option maxHeartbeats 4000000 in
set_option maxRecDepth 100000 in
theorem c_X4_publisherOf (ω : ZO) (N : Nat) (σ : ZS) (a1 : Int32) : ZIp ω wD yX4_publisherOf wsX4_publisherOf rm_X4_publisherOf [.ref (za ω 6), .int a1] σ (f_X4_publisherOf N σ a1) := by
  intro r0 hf
  refine ZI.go (cc := cX4_publisherOf) (maxL := 2) (ret := (some .int)) (own := RX4) (lv := [(0, .ref (za ω 6)), (1, .int a1)]) (by decide) rfl rfl (Nat.le_of_ble_eq_true rfl) rfl (fun κ C hR => ?_)
  unfold f_X4_publisherOf at hf
  refine G_aload_n (pc' := 1) C dX4_publisherOf_0 0 rfl rfl ?_
  refine G_iload_n (pc' := 2) C dX4_publisherOf_1 1 rfl rfl ?_
  refine G_callVp (pc' := 5) C [.int a1] (c_X4_has ω N σ a1) sg_X4_has gX4_publisherOf_X4_has wD_6 rfl ⟨Nat.le_of_ble_eq_true rfl, Nat.le_of_ble_eq_true rfl⟩ rfl rfl (Nat.le_of_ble_eq_true rfl) dX4_publisherOf_2 rfl hf (fun v1 hf => ?_)
  refine G_if_eq (tgt := 17) (pc' := 8) C dX4_publisherOf_5 (by decide) rfl hf (fun hf => ?_) (fun hf => ?_)
  · refine G_iconst (v := (-1 : Int32)) (pc' := 18) C dX4_publisherOf_17 (by decide) rfl ?_
    exact G_iret C hR dX4_publisherOf_18 ⟨Option.some.inj hf, rfl⟩
  · refine G_aload_n (pc' := 9) C dX4_publisherOf_8 0 rfl rfl ?_
    refine G_get (pc' := 12) C wD_6 rfl 0 (by decide) rfl iu_X4_publisherOf_X4 lk_X4_publisherOf_9 dX4_publisherOf_9 rfl ?_
    refine G_iload_n (pc' := 13) C dX4_publisherOf_12 1 rfl rfl ?_
    refine G_iald (pc' := 14) C wD_7 dX4_publisherOf_13 rfl hf (fun v2 hf => ?_)
    refine G_goto (pc' := 18) C dX4_publisherOf_14 (by decide) ?_
    exact G_iret C hR dX4_publisherOf_18 ⟨Option.some.inj hf, rfl⟩
theorem lk_X4_booksOf_38n : Cond.methodLinkNest RX4 38 yX7_bit RX7 ∈ zNws := by decide +kernel
theorem lk_X4_booksOf_38s : Cond.static yX7_bit ∈ wsX4_booksOf := by decide +kernel
theorem lk_X4_booksOf_38i : Cond.initialized yX7_bit.cls ∈ wsX4_booksOf := by decide +kernel
abbrev rm_X4_booksOf : Room := { frames := 2, cells := 0, slots := 0, locals := 42 }
theorem sg_X4_booksOf : ZG yX4_booksOf wsX4_booksOf cX4_booksOf 4 (some .int) RX4 1 rm_X4_booksOf := ⟨⟨_, rfl⟩, by decide +kernel, rfl, rfl⟩
set_option maxHeartbeats 4000000 in
set_option maxRecDepth 100000 in
theorem w_X4_booksOf_4 {ω : ZO} {κ : ZK} {N : Nat} {σ : ZS} {b1 : Int32} {K : Int32 → Int32 → Option (Int32)} {r0 : Int32} (C : CX ω wD κ cX4_booksOf wsX4_booksOf RX4 (some .int) 4 rm_X4_booksOf) (hR : zRI ω wD κ (fun v τ => v = r0 ∧ τ = σ)) (HK : ∀ (y2 : Int32) (y3 : Int32), K y2 y3 = some r0 → G ω wD κ 32 [(0, .ref (za ω 6)), (2, .int y2)] [] σ) : ∀ (n : Nat) (y2 : Int32) (y3 : Int32), L_X4_booksOf_4 N σ b1 K n y2 y3 = some r0 → G ω wD κ 4 [(0, .ref (za ω 6)), (1, .int b1), (2, .int y2), (3, .int y3)] [] σ := by
  intro n
  induction n with
  | zero => intro  y2 y3 hf; exact absurd (show none = some r0 from hf) (fun h => nomatch h)
  | succ n ih =>
    intro y2 y3 hf
    have hf : B_X4_booksOf_4 N σ b1 K (L_X4_booksOf_4 N σ b1 K n) y2 y3 = some r0 := hf
    unfold B_X4_booksOf_4 at hf
    refine G_iload_n (pc' := 5) C dX4_booksOf_4 3 rfl rfl ?_
    refine G_bipush (v := (24 : Int32)) (pc' := 7) C dX4_booksOf_5 (by decide) rfl ?_
    refine G_icmp_ge (tgt := 32) (pc' := 10) C dX4_booksOf_7 (by decide) rfl hf (fun hf => ?_) (fun hf => ?_)
    · refine G_sub (lv' := [(0, .ref (za ω 6)), (2, .int y2)]) C [0, 2] rfl ?_
      exact HK y2 y3 hf
    · refine G_aload_n (pc' := 11) C dX4_booksOf_10 0 rfl rfl ?_
      refine G_iload_n (pc' := 12) C dX4_booksOf_11 3 rfl rfl ?_
      refine G_callVp (pc' := 15) C [.int y3] (c_X4_publisherOf ω N σ y3) sg_X4_publisherOf gX4_booksOf_X4_publisherOf wD_6 rfl ⟨Nat.le_of_ble_eq_true rfl, Nat.le_of_ble_eq_true rfl⟩ rfl rfl (Nat.le_of_ble_eq_true rfl) dX4_booksOf_12 rfl hf (fun v1 hf => ?_)
      refine G_iload_n (pc' := 16) C dX4_booksOf_15 1 rfl rfl ?_
      refine G_icmp_ne (tgt := 26) (pc' := 19) C dX4_booksOf_16 (by decide) rfl hf (fun hf => ?_) (fun hf => ?_)
      · refine G_iload_n (pc' := 20) C dX4_booksOf_19 2 rfl rfl ?_
        refine G_iload_n (pc' := 21) C dX4_booksOf_20 3 rfl rfl ?_
        refine G_callNp (pc' := 24) C [.int y3] (c_X7_bit ω N σ y3) sg_X7_bit gX4_booksOf_X7_bit_n38 lk_X4_booksOf_38n lk_X4_booksOf_38s lk_X4_booksOf_38i ⟨Nat.le_of_ble_eq_true rfl, Nat.le_of_ble_eq_true rfl⟩ rfl rfl (Nat.le_of_ble_eq_true rfl) dX4_booksOf_21 rfl hf (fun v2 hf => ?_)
        refine G_ior (pc' := 25) C dX4_booksOf_24 rfl ?_
        refine G_nm hf (fun x3 hf => ?_)
        refine G_istore_n (lv' := [(0, .ref (za ω 6)), (1, .int b1), (2, .int x3), (3, .int y3)]) (pc' := 26) C dX4_booksOf_25 (by decide) [1, 2, 0, 3] rfl rfl ?_
        refine G_iincL (v := y3 + (1 : Int32)) (pc' := 29) C dX4_booksOf_26 3 rfl rfl (by decide) [1, 2, 3, 0] (fun x4 => [(0, .ref (za ω 6)), (1, .int b1), (2, .int x3), (3, .int x4)]) (fun _ => rfl) rfl hf (fun x4 hf => ?_)
        refine G_goto (pc' := 4) C dX4_booksOf_29 (by decide) ?_
        exact ih x3 x4 hf
      · refine G_iincL (v := y3 + (1 : Int32)) (pc' := 29) C dX4_booksOf_26 3 rfl rfl (by decide) [1, 2, 3, 0] (fun x5 => [(0, .ref (za ω 6)), (1, .int b1), (2, .int y2), (3, .int x5)]) (fun _ => rfl) rfl hf (fun x5 hf => ?_)
        refine G_goto (pc' := 4) C dX4_booksOf_29 (by decide) ?_
        exact ih y2 x5 hf
set_option maxHeartbeats 4000000 in
set_option maxRecDepth 100000 in
theorem c_X4_booksOf (ω : ZO) (N : Nat) (σ : ZS) (a1 : Int32) : ZIp ω wD yX4_booksOf wsX4_booksOf rm_X4_booksOf [.ref (za ω 6), .int a1] σ (f_X4_booksOf N σ a1) := by
  intro r0 hf
  refine ZI.go (cc := cX4_booksOf) (maxL := 4) (ret := (some .int)) (own := RX4) (lv := [(0, .ref (za ω 6)), (1, .int a1)]) (by decide) rfl rfl (Nat.le_of_ble_eq_true rfl) rfl (fun κ C hR => ?_)
  unfold f_X4_booksOf at hf
  refine G_iconst (v := (0 : Int32)) (pc' := 1) C dX4_booksOf_0 (by decide) rfl ?_
  refine G_istore_n (lv' := [(0, .ref (za ω 6)), (1, .int a1), (2, .int (0 : Int32))]) (pc' := 2) C dX4_booksOf_1 (by decide) [1, 2, 0] rfl rfl ?_
  refine G_iconst (v := (0 : Int32)) (pc' := 3) C dX4_booksOf_2 (by decide) rfl ?_
  refine G_istore_n (lv' := [(0, .ref (za ω 6)), (1, .int a1), (2, .int (0 : Int32)), (3, .int (0 : Int32))]) (pc' := 4) C dX4_booksOf_3 (by decide) [1, 2, 3, 0] rfl rfl ?_
  refine w_X4_booksOf_4 C hR (fun y6 y7 hf => ?_) N (0 : Int32) (0 : Int32) hf
  refine G_iload_n (pc' := 33) C dX4_booksOf_32 1 rfl rfl ?_
  exact G_iret C hR dX4_booksOf_33 ⟨Option.some.inj hf, rfl⟩
theorem lk_X0_addFriend_30n : Cond.methodLinkNest RX0 30 yX7_isJudge RX7 ∈ zNws := by decide +kernel
theorem lk_X0_addFriend_30s : Cond.static yX7_isJudge ∈ wsX0_addFriend := by decide +kernel
theorem lk_X0_addFriend_30i : Cond.initialized yX7_isJudge.cls ∈ wsX0_addFriend := by decide +kernel
theorem lk_X0_addFriend_34n : Cond.methodLinkNest RX0 34 yX7_contains RX7 ∈ zNws := by decide +kernel
theorem lk_X0_addFriend_34s : Cond.static yX7_contains ∈ wsX0_addFriend := by decide +kernel
theorem lk_X0_addFriend_34i : Cond.initialized yX7_contains.cls ∈ wsX0_addFriend := by decide +kernel
theorem lk_X0_addFriend_38n : Cond.methodLinkNest RX0 38 yX7_bit RX7 ∈ zNws := by decide +kernel
theorem lk_X0_addFriend_38s : Cond.static yX7_bit ∈ wsX0_addFriend := by decide +kernel
theorem lk_X0_addFriend_38i : Cond.initialized yX7_bit.cls ∈ wsX0_addFriend := by decide +kernel
theorem iu_X0_addFriend_X0 : ∀ w ∈ wsX00, w ∈ wsX0_addFriend := by decide +kernel
theorem lk_X0_addFriend_15 : Cond.fieldLink RX0 15 "PrizeDesk$Panel" "friends" "[I" ∈ wsX0_addFriend := by decide +kernel
abbrev rm_X0_addFriend : Room := { frames := 2, cells := 0, slots := 0, locals := 42 }
theorem sg_X0_addFriend : ZG yX0_addFriend wsX0_addFriend cX0_addFriend 4 (some .boolean) RX0 3 rm_X0_addFriend := ⟨⟨_, rfl⟩, by decide +kernel, rfl, rfl⟩
set_option maxHeartbeats 4000000 in
set_option maxRecDepth 100000 in
theorem c_X0_addFriend (ω : ZO) (N : Nat) (σ : ZS) (a1 : Int32) (a2 : Int32) (a3 : Int32) : ZIs ω wD yX0_addFriend wsX0_addFriend rm_X0_addFriend [.ref (za ω 11), .int a1, .int a2, .int a3] σ (f_X0_addFriend N σ a1 a2 a3) := by
  intro r0 hf
  refine ZI.go (cc := cX0_addFriend) (maxL := 4) (ret := (some .boolean)) (own := RX0) (lv := [(0, .ref (za ω 11)), (1, .int a1), (2, .int a2), (3, .int a3)]) (by decide) rfl rfl (Nat.le_of_ble_eq_true rfl) rfl (fun κ C hR => ?_)
  unfold f_X0_addFriend at hf
  refine G_iload_n (pc' := 1) C dX0_addFriend_0 1 rfl rfl ?_
  refine G_callNp (pc' := 4) C [.int a1] (c_X7_isJudge ω N σ a1) sg_X7_isJudge gX0_addFriend_X7_isJudge_n30 lk_X0_addFriend_30n lk_X0_addFriend_30s lk_X0_addFriend_30i ⟨Nat.le_of_ble_eq_true rfl, Nat.le_of_ble_eq_true rfl⟩ rfl rfl (Nat.le_of_ble_eq_true rfl) dX0_addFriend_1 rfl hf (fun v1 hf => ?_)
  refine G_if_eq (tgt := 20) (pc' := 7) C dX0_addFriend_4 (by decide) rfl hf (fun hf => ?_) (fun hf => ?_)
  · refine G_iconst (v := (0 : Int32)) (pc' := 21) C dX0_addFriend_20 (by decide) rfl ?_
    exact G_zret C hR dX0_addFriend_21 (by decide) (Option.some.inj hf)
  · refine G_aload_n (pc' := 8) C dX0_addFriend_7 0 rfl rfl ?_
    refine G_get (pc' := 11) C wD_11 rfl 1 (by decide) rfl iu_X0_addFriend_X0 lk_X0_addFriend_15 dX0_addFriend_8 rfl ?_
    refine G_iload_n (pc' := 12) C dX0_addFriend_11 1 rfl rfl ?_
    refine G_iald (pc' := 13) C wD_13 dX0_addFriend_12 rfl hf (fun v2 hf => ?_)
    refine G_iload_n (pc' := 14) C dX0_addFriend_13 2 rfl rfl ?_
    refine G_callNp (pc' := 17) C [.int v2, .int a2] (c_X7_contains ω N σ v2 a2) sg_X7_contains gX0_addFriend_X7_contains_n34 lk_X0_addFriend_34n lk_X0_addFriend_34s lk_X0_addFriend_34i ⟨Nat.le_of_ble_eq_true rfl, Nat.le_of_ble_eq_true rfl⟩ rfl rfl (Nat.le_of_ble_eq_true rfl) dX0_addFriend_14 rfl hf (fun v3 hf => ?_)
    refine G_if_eq (tgt := 22) (pc' := 20) C dX0_addFriend_17 (by decide) rfl hf (fun hf => ?_) (fun hf => ?_)
    · refine G_aload_n (pc' := 23) C dX0_addFriend_22 0 rfl rfl ?_
      refine G_get (pc' := 26) C wD_11 rfl 1 (by decide) rfl iu_X0_addFriend_X0 lk_X0_addFriend_15 dX0_addFriend_23 rfl ?_
      refine G_iload_n (pc' := 27) C dX0_addFriend_26 1 rfl rfl ?_
      refine G_dup2 (pc' := 28) C dX0_addFriend_27 rfl rfl rfl ?_
      refine G_iald (pc' := 29) C wD_13 dX0_addFriend_28 rfl hf (fun v4 hf => ?_)
      refine G_iload_n (pc' := 30) C dX0_addFriend_29 2 rfl rfl ?_
      refine G_callNp (pc' := 33) C [.int a2] (c_X7_bit ω N σ a2) sg_X7_bit gX0_addFriend_X7_bit_n38 lk_X0_addFriend_38n lk_X0_addFriend_38s lk_X0_addFriend_38i ⟨Nat.le_of_ble_eq_true rfl, Nat.le_of_ble_eq_true rfl⟩ rfl rfl (Nat.le_of_ble_eq_true rfl) dX0_addFriend_30 rfl hf (fun v5 hf => ?_)
      refine G_ior (pc' := 34) C dX0_addFriend_33 rfl ?_
      refine G_iast (pc' := 35) C wD_13 wD_s13 dX0_addFriend_34 rfl hf (fun s6 hf => ?_)
      refine G_aload_n (pc' := 36) C dX0_addFriend_35 0 rfl rfl ?_
      refine G_iload_n (pc' := 37) C dX0_addFriend_36 1 rfl rfl ?_
      refine G_iload_n (pc' := 38) C dX0_addFriend_37 3 rfl rfl ?_
      refine G_callVv (pc' := 41) C [.int a1, .int a3] (c_X0_bar ω N s6 a1 a3) sg_X0_bar gX0_addFriend_X0_bar wD_11 rfl ⟨Nat.le_of_ble_eq_true rfl, Nat.le_of_ble_eq_true rfl⟩ rfl rfl (Nat.le_of_ble_eq_true rfl) dX0_addFriend_38 rfl hf (fun s7 hf => ?_)
      refine G_iconst (v := (1 : Int32)) (pc' := 42) C dX0_addFriend_41 (by decide) rfl ?_
      exact G_zret C hR dX0_addFriend_42 (by decide) (Option.some.inj hf)
    · refine G_iconst (v := (0 : Int32)) (pc' := 21) C dX0_addFriend_20 (by decide) rfl ?_
      exact G_zret C hR dX0_addFriend_21 (by decide) (Option.some.inj hf)
theorem iu_X7_friend_X7 : ∀ w ∈ wsX70, w ∈ wsX7_friend := by decide +kernel
theorem lk_X7_friend_26 : Cond.fieldLink RX7 26 "PrizeDesk" "shelf" "LPrizeDesk$Shelf;" ∈ wsX7_friend := by decide +kernel
theorem lk_X7_friend_33 : Cond.fieldLink RX7 33 "PrizeDesk" "panel" "LPrizeDesk$Panel;" ∈ wsX7_friend := by decide +kernel
abbrev rm_X7_friend : Room := { frames := 3, cells := 0, slots := 0, locals := 65 }
theorem sg_X7_friend : ZG yX7_friend wsX7_friend cX7_friend 3 (some .boolean) RX7 2 rm_X7_friend := ⟨⟨_, rfl⟩, by decide +kernel, rfl, rfl⟩
set_option maxHeartbeats 4000000 in
set_option maxRecDepth 100000 in
theorem c_X7_friend (ω : ZO) (N : Nat) (σ : ZS) (a1 : Int32) (a2 : Int32) : ZIs ω wD yX7_friend wsX7_friend rm_X7_friend [.ref (za ω 0), .int a1, .int a2] σ (f_X7_friend N σ a1 a2) := by
  intro r0 hf
  refine ZI.go (cc := cX7_friend) (maxL := 3) (ret := (some .boolean)) (own := RX7) (lv := [(0, .ref (za ω 0)), (1, .int a1), (2, .int a2)]) (by decide) rfl rfl (Nat.le_of_ble_eq_true rfl) rfl (fun κ C hR => ?_)
  unfold f_X7_friend at hf
  refine G_iload_n (pc' := 1) C dX7_friend_0 1 rfl rfl ?_
  refine G_callSp (pc' := 4) C [.int a1] (c_X7_isJudge ω N σ a1) sg_X7_isJudge gX7_friend_X7_isJudge ⟨Nat.le_of_ble_eq_true rfl, Nat.le_of_ble_eq_true rfl⟩ rfl rfl (Nat.le_of_ble_eq_true rfl) dX7_friend_1 rfl hf (fun v1 hf => ?_)
  refine G_if_eq (tgt := 38) (pc' := 7) C dX7_friend_4 (by decide) rfl hf (fun hf => ?_) (fun hf => ?_)
  · refine G_iconst (v := (0 : Int32)) (pc' := 39) C dX7_friend_38 (by decide) rfl ?_
    exact G_zret C hR dX7_friend_39 (by decide) (Option.some.inj hf)
  · refine G_iload_n (pc' := 8) C dX7_friend_7 2 rfl rfl ?_
    refine G_callSp (pc' := 11) C [.int a2] (c_X7_isPublisher ω N σ a2) sg_X7_isPublisher gX7_friend_X7_isPublisher ⟨Nat.le_of_ble_eq_true rfl, Nat.le_of_ble_eq_true rfl⟩ rfl rfl (Nat.le_of_ble_eq_true rfl) dX7_friend_8 rfl hf (fun v2 hf => ?_)
    refine G_if_eq (tgt := 38) (pc' := 14) C dX7_friend_11 (by decide) rfl hf (fun hf => ?_) (fun hf => ?_)
    · refine G_iconst (v := (0 : Int32)) (pc' := 39) C dX7_friend_38 (by decide) rfl ?_
      exact G_zret C hR dX7_friend_39 (by decide) (Option.some.inj hf)
    · refine G_aload_n (pc' := 15) C dX7_friend_14 0 rfl rfl ?_
      refine G_get (pc' := 18) C wD_0 rfl 3 (by decide) rfl iu_X7_friend_X7 lk_X7_friend_33 dX7_friend_15 rfl ?_
      refine G_iload_n (pc' := 19) C dX7_friend_18 1 rfl rfl ?_
      refine G_iload_n (pc' := 20) C dX7_friend_19 2 rfl rfl ?_
      refine G_aload_n (pc' := 21) C dX7_friend_20 0 rfl rfl ?_
      refine G_get (pc' := 24) C wD_0 rfl 2 (by decide) rfl iu_X7_friend_X7 lk_X7_friend_26 dX7_friend_21 rfl ?_
      refine G_iload_n (pc' := 25) C dX7_friend_24 2 rfl rfl ?_
      refine G_callVp (pc' := 28) C [.int a2] (c_X4_booksOf ω N σ a2) sg_X4_booksOf gX7_friend_X4_booksOf wD_6 rfl ⟨Nat.le_of_ble_eq_true rfl, Nat.le_of_ble_eq_true rfl⟩ rfl rfl (Nat.le_of_ble_eq_true rfl) dX7_friend_25 rfl hf (fun v3 hf => ?_)
      refine G_callVt (pc' := 31) C [.int a1, .int a2, .int v3] (c_X0_addFriend ω N σ a1 a2 v3) sg_X0_addFriend gX7_friend_X0_addFriend wD_11 rfl ⟨Nat.le_of_ble_eq_true rfl, Nat.le_of_ble_eq_true rfl⟩ rfl rfl (Nat.le_of_ble_eq_true rfl) dX7_friend_28 rfl hf (fun v5 s4 hf => ?_)
      refine G_if_eq (tgt := 38) (pc' := 34) C dX7_friend_31 (by decide) rfl hf (fun hf => ?_) (fun hf => ?_)
      · refine G_iconst (v := (0 : Int32)) (pc' := 39) C dX7_friend_38 (by decide) rfl ?_
        exact G_zret C hR dX7_friend_39 (by decide) (Option.some.inj hf)
      · refine G_iconst (v := (1 : Int32)) (pc' := 35) C dX7_friend_34 (by decide) rfl ?_
        refine G_goto (pc' := 39) C dX7_friend_35 (by decide) ?_
        exact G_zret C hR dX7_friend_39 (by decide) (Option.some.inj hf)
theorem iu_X4_pagesOf_X4 : ∀ w ∈ wsX40, w ∈ wsX4_pagesOf := by decide +kernel
theorem lk_X4_pagesOf_15 : Cond.fieldLink RX4 15 "PrizeDesk$Shelf" "pages" "[I" ∈ wsX4_pagesOf := by decide +kernel
abbrev rm_X4_pagesOf : Room := { frames := 1, cells := 0, slots := 0, locals := 21 }
theorem sg_X4_pagesOf : ZG yX4_pagesOf wsX4_pagesOf cX4_pagesOf 2 (some .int) RX4 1 rm_X4_pagesOf := ⟨⟨_, rfl⟩, by decide +kernel, rfl, rfl⟩
set_option maxHeartbeats 4000000 in
set_option maxRecDepth 100000 in
theorem c_X4_pagesOf (ω : ZO) (N : Nat) (σ : ZS) (a1 : Int32) : ZIp ω wD yX4_pagesOf wsX4_pagesOf rm_X4_pagesOf [.ref (za ω 6), .int a1] σ (f_X4_pagesOf N σ a1) := by
  intro r0 hf
  refine ZI.go (cc := cX4_pagesOf) (maxL := 2) (ret := (some .int)) (own := RX4) (lv := [(0, .ref (za ω 6)), (1, .int a1)]) (by decide) rfl rfl (Nat.le_of_ble_eq_true rfl) rfl (fun κ C hR => ?_)
  unfold f_X4_pagesOf at hf
  refine G_aload_n (pc' := 1) C dX4_pagesOf_0 0 rfl rfl ?_
  refine G_iload_n (pc' := 2) C dX4_pagesOf_1 1 rfl rfl ?_
  refine G_callVp (pc' := 5) C [.int a1] (c_X4_has ω N σ a1) sg_X4_has gX4_pagesOf_X4_has wD_6 rfl ⟨Nat.le_of_ble_eq_true rfl, Nat.le_of_ble_eq_true rfl⟩ rfl rfl (Nat.le_of_ble_eq_true rfl) dX4_pagesOf_2 rfl hf (fun v1 hf => ?_)
  refine G_if_eq (tgt := 17) (pc' := 8) C dX4_pagesOf_5 (by decide) rfl hf (fun hf => ?_) (fun hf => ?_)
  · refine G_iconst (v := (-1 : Int32)) (pc' := 18) C dX4_pagesOf_17 (by decide) rfl ?_
    exact G_iret C hR dX4_pagesOf_18 ⟨Option.some.inj hf, rfl⟩
  · refine G_aload_n (pc' := 9) C dX4_pagesOf_8 0 rfl rfl ?_
    refine G_get (pc' := 12) C wD_6 rfl 1 (by decide) rfl iu_X4_pagesOf_X4 lk_X4_pagesOf_15 dX4_pagesOf_9 rfl ?_
    refine G_iload_n (pc' := 13) C dX4_pagesOf_12 1 rfl rfl ?_
    refine G_iald (pc' := 14) C wD_8 dX4_pagesOf_13 rfl hf (fun v2 hf => ?_)
    refine G_goto (pc' := 18) C dX4_pagesOf_14 (by decide) ?_
    exact G_iret C hR dX4_pagesOf_18 ⟨Option.some.inj hf, rfl⟩
theorem iu_X4_dayOf_X4 : ∀ w ∈ wsX40, w ∈ wsX4_dayOf := by decide +kernel
theorem lk_X4_dayOf_18 : Cond.fieldLink RX4 18 "PrizeDesk$Shelf" "days" "[I" ∈ wsX4_dayOf := by decide +kernel
abbrev rm_X4_dayOf : Room := { frames := 1, cells := 0, slots := 0, locals := 21 }
theorem sg_X4_dayOf : ZG yX4_dayOf wsX4_dayOf cX4_dayOf 2 (some .int) RX4 1 rm_X4_dayOf := ⟨⟨_, rfl⟩, by decide +kernel, rfl, rfl⟩
set_option maxHeartbeats 4000000 in
set_option maxRecDepth 100000 in
theorem c_X4_dayOf (ω : ZO) (N : Nat) (σ : ZS) (a1 : Int32) : ZIp ω wD yX4_dayOf wsX4_dayOf rm_X4_dayOf [.ref (za ω 6), .int a1] σ (f_X4_dayOf N σ a1) := by
  intro r0 hf
  refine ZI.go (cc := cX4_dayOf) (maxL := 2) (ret := (some .int)) (own := RX4) (lv := [(0, .ref (za ω 6)), (1, .int a1)]) (by decide) rfl rfl (Nat.le_of_ble_eq_true rfl) rfl (fun κ C hR => ?_)
  unfold f_X4_dayOf at hf
  refine G_aload_n (pc' := 1) C dX4_dayOf_0 0 rfl rfl ?_
  refine G_iload_n (pc' := 2) C dX4_dayOf_1 1 rfl rfl ?_
  refine G_callVp (pc' := 5) C [.int a1] (c_X4_has ω N σ a1) sg_X4_has gX4_dayOf_X4_has wD_6 rfl ⟨Nat.le_of_ble_eq_true rfl, Nat.le_of_ble_eq_true rfl⟩ rfl rfl (Nat.le_of_ble_eq_true rfl) dX4_dayOf_2 rfl hf (fun v1 hf => ?_)
  refine G_if_eq (tgt := 17) (pc' := 8) C dX4_dayOf_5 (by decide) rfl hf (fun hf => ?_) (fun hf => ?_)
  · refine G_iconst (v := (-1 : Int32)) (pc' := 18) C dX4_dayOf_17 (by decide) rfl ?_
    exact G_iret C hR dX4_dayOf_18 ⟨Option.some.inj hf, rfl⟩
  · refine G_aload_n (pc' := 9) C dX4_dayOf_8 0 rfl rfl ?_
    refine G_get (pc' := 12) C wD_6 rfl 2 (by decide) rfl iu_X4_dayOf_X4 lk_X4_dayOf_18 dX4_dayOf_9 rfl ?_
    refine G_iload_n (pc' := 13) C dX4_dayOf_12 1 rfl rfl ?_
    refine G_iald (pc' := 14) C wD_9 dX4_dayOf_13 rfl hf (fun v2 hf => ?_)
    refine G_goto (pc' := 18) C dX4_dayOf_14 (by decide) ?_
    exact G_iret C hR dX4_dayOf_18 ⟨Option.some.inj hf, rfl⟩
theorem lk_X4_isWithinRules_70n : Cond.methodLinkNest RX4 70 yX7_isWithin RX7 ∈ zNws := by decide +kernel
theorem lk_X4_isWithinRules_70s : Cond.static yX7_isWithin ∈ wsX4_isWithinRules := by decide +kernel
theorem lk_X4_isWithinRules_70i : Cond.initialized yX7_isWithin.cls ∈ wsX4_isWithinRules := by decide +kernel
abbrev rm_X4_isWithinRules : Room := { frames := 2, cells := 0, slots := 0, locals := 43 }
theorem sg_X4_isWithinRules : ZG yX4_isWithinRules wsX4_isWithinRules cX4_isWithinRules 3 (some .boolean) RX4 2 rm_X4_isWithinRules := ⟨⟨_, rfl⟩, by decide +kernel, rfl, rfl⟩
set_option maxHeartbeats 4000000 in
set_option maxRecDepth 100000 in
theorem c_X4_isWithinRules (ω : ZO) (N : Nat) (σ : ZS) (a1 : Int32) : ZIp ω wD yX4_isWithinRules wsX4_isWithinRules rm_X4_isWithinRules [.ref (za ω 6), .int a1, .ref (za ω 3)] σ (f_X4_isWithinRules N σ a1) := by
  intro r0 hf
  refine ZI.go (cc := cX4_isWithinRules) (maxL := 3) (ret := (some .boolean)) (own := RX4) (lv := [(0, .ref (za ω 6)), (1, .int a1), (2, .ref (za ω 3))]) (by decide) rfl rfl (Nat.le_of_ble_eq_true rfl) rfl (fun κ C hR => ?_)
  unfold f_X4_isWithinRules at hf
  refine G_aload_n (pc' := 1) C dX4_isWithinRules_0 0 rfl rfl ?_
  refine G_iload_n (pc' := 2) C dX4_isWithinRules_1 1 rfl rfl ?_
  refine G_callVp (pc' := 5) C [.int a1] (c_X4_pagesOf ω N σ a1) sg_X4_pagesOf gX4_isWithinRules_X4_pagesOf wD_6 rfl ⟨Nat.le_of_ble_eq_true rfl, Nat.le_of_ble_eq_true rfl⟩ rfl rfl (Nat.le_of_ble_eq_true rfl) dX4_isWithinRules_2 rfl hf (fun v1 hf => ?_)
  refine G_aload_n (pc' := 6) C dX4_isWithinRules_5 2 rfl rfl ?_
  refine G_iconst (v := (0 : Int32)) (pc' := 7) C dX4_isWithinRules_6 (by decide) rfl ?_
  refine G_callVp (pc' := 10) C [.int (0 : Int32)] (c_X3_number ω N σ (0 : Int32)) sg_X3_number gX4_isWithinRules_X3_number wD_3 rfl ⟨Nat.le_of_ble_eq_true rfl, Nat.le_of_ble_eq_true rfl⟩ rfl rfl (Nat.le_of_ble_eq_true rfl) dX4_isWithinRules_7 rfl hf (fun v2 hf => ?_)
  refine G_aload_n (pc' := 11) C dX4_isWithinRules_10 2 rfl rfl ?_
  refine G_iconst (v := (1 : Int32)) (pc' := 12) C dX4_isWithinRules_11 (by decide) rfl ?_
  refine G_callVp (pc' := 15) C [.int (1 : Int32)] (c_X3_number ω N σ (1 : Int32)) sg_X3_number gX4_isWithinRules_X3_number wD_3 rfl ⟨Nat.le_of_ble_eq_true rfl, Nat.le_of_ble_eq_true rfl⟩ rfl rfl (Nat.le_of_ble_eq_true rfl) dX4_isWithinRules_12 rfl hf (fun v3 hf => ?_)
  refine G_callNp (pc' := 18) C [.int v1, .int v2, .int v3] (c_X7_isWithin ω N σ v1 v2 v3) sg_X7_isWithin gX4_isWithinRules_X7_isWithin_n70 lk_X4_isWithinRules_70n lk_X4_isWithinRules_70s lk_X4_isWithinRules_70i ⟨Nat.le_of_ble_eq_true rfl, Nat.le_of_ble_eq_true rfl⟩ rfl rfl (Nat.le_of_ble_eq_true rfl) dX4_isWithinRules_15 rfl hf (fun v4 hf => ?_)
  refine G_if_eq (tgt := 46) (pc' := 21) C dX4_isWithinRules_18 (by decide) rfl hf (fun hf => ?_) (fun hf => ?_)
  · refine G_iconst (v := (0 : Int32)) (pc' := 47) C dX4_isWithinRules_46 (by decide) rfl ?_
    exact G_zret C hR dX4_isWithinRules_47 (by decide) ⟨Option.some.inj hf, rfl⟩
  · refine G_aload_n (pc' := 22) C dX4_isWithinRules_21 0 rfl rfl ?_
    refine G_iload_n (pc' := 23) C dX4_isWithinRules_22 1 rfl rfl ?_
    refine G_callVp (pc' := 26) C [.int a1] (c_X4_dayOf ω N σ a1) sg_X4_dayOf gX4_isWithinRules_X4_dayOf wD_6 rfl ⟨Nat.le_of_ble_eq_true rfl, Nat.le_of_ble_eq_true rfl⟩ rfl rfl (Nat.le_of_ble_eq_true rfl) dX4_isWithinRules_23 rfl hf (fun v5 hf => ?_)
    refine G_aload_n (pc' := 27) C dX4_isWithinRules_26 2 rfl rfl ?_
    refine G_iconst (v := (2 : Int32)) (pc' := 28) C dX4_isWithinRules_27 (by decide) rfl ?_
    refine G_callVp (pc' := 31) C [.int (2 : Int32)] (c_X3_number ω N σ (2 : Int32)) sg_X3_number gX4_isWithinRules_X3_number wD_3 rfl ⟨Nat.le_of_ble_eq_true rfl, Nat.le_of_ble_eq_true rfl⟩ rfl rfl (Nat.le_of_ble_eq_true rfl) dX4_isWithinRules_28 rfl hf (fun v6 hf => ?_)
    refine G_aload_n (pc' := 32) C dX4_isWithinRules_31 2 rfl rfl ?_
    refine G_iconst (v := (3 : Int32)) (pc' := 33) C dX4_isWithinRules_32 (by decide) rfl ?_
    refine G_callVp (pc' := 36) C [.int (3 : Int32)] (c_X3_number ω N σ (3 : Int32)) sg_X3_number gX4_isWithinRules_X3_number wD_3 rfl ⟨Nat.le_of_ble_eq_true rfl, Nat.le_of_ble_eq_true rfl⟩ rfl rfl (Nat.le_of_ble_eq_true rfl) dX4_isWithinRules_33 rfl hf (fun v7 hf => ?_)
    refine G_callNp (pc' := 39) C [.int v5, .int v6, .int v7] (c_X7_isWithin ω N σ v5 v6 v7) sg_X7_isWithin gX4_isWithinRules_X7_isWithin_n70 lk_X4_isWithinRules_70n lk_X4_isWithinRules_70s lk_X4_isWithinRules_70i ⟨Nat.le_of_ble_eq_true rfl, Nat.le_of_ble_eq_true rfl⟩ rfl rfl (Nat.le_of_ble_eq_true rfl) dX4_isWithinRules_36 rfl hf (fun v8 hf => ?_)
    refine G_if_eq (tgt := 46) (pc' := 42) C dX4_isWithinRules_39 (by decide) rfl hf (fun hf => ?_) (fun hf => ?_)
    · refine G_iconst (v := (0 : Int32)) (pc' := 47) C dX4_isWithinRules_46 (by decide) rfl ?_
      exact G_zret C hR dX4_isWithinRules_47 (by decide) ⟨Option.some.inj hf, rfl⟩
    · refine G_iconst (v := (1 : Int32)) (pc' := 43) C dX4_isWithinRules_42 (by decide) rfl ?_
      refine G_goto (pc' := 47) C dX4_isWithinRules_43 (by decide) ?_
      exact G_zret C hR dX4_isWithinRules_47 (by decide) ⟨Option.some.inj hf, rfl⟩
theorem lk_X4_takesPlace_77n : Cond.methodLinkNest RX4 77 yX7_isPublisher RX7 ∈ zNws := by decide +kernel
theorem lk_X4_takesPlace_77s : Cond.static yX7_isPublisher ∈ wsX4_takesPlace := by decide +kernel
theorem lk_X4_takesPlace_77i : Cond.initialized yX7_isPublisher.cls ∈ wsX4_takesPlace := by decide +kernel
theorem iu_X4_takesPlace_X4 : ∀ w ∈ wsX40, w ∈ wsX4_takesPlace := by decide +kernel
theorem lk_X4_takesPlace_21 : Cond.fieldLink RX4 21 "PrizeDesk$Shelf" "rivals" "[I" ∈ wsX4_takesPlace := by decide +kernel
abbrev rm_X4_takesPlace : Room := { frames := 2, cells := 0, slots := 0, locals := 43 }
theorem sg_X4_takesPlace : ZG yX4_takesPlace wsX4_takesPlace cX4_takesPlace 4 (some .boolean) RX4 2 rm_X4_takesPlace := ⟨⟨_, rfl⟩, by decide +kernel, rfl, rfl⟩
set_option maxHeartbeats 4000000 in
set_option maxRecDepth 100000 in
theorem c_X4_takesPlace (ω : ZO) (N : Nat) (σ : ZS) (a1 : Int32) : ZIs ω wD yX4_takesPlace wsX4_takesPlace rm_X4_takesPlace [.ref (za ω 6), .int a1, .ref (za ω 3)] σ (f_X4_takesPlace N σ a1) := by
  intro r0 hf
  refine ZI.go (cc := cX4_takesPlace) (maxL := 4) (ret := (some .boolean)) (own := RX4) (lv := [(0, .ref (za ω 6)), (1, .int a1), (2, .ref (za ω 3))]) (by decide) rfl rfl (Nat.le_of_ble_eq_true rfl) rfl (fun κ C hR => ?_)
  unfold f_X4_takesPlace at hf
  refine G_iload_n (pc' := 1) C dX4_takesPlace_0 1 rfl rfl ?_
  refine G_callNp (pc' := 4) C [.int a1] (c_X7_isPublisher ω N σ a1) sg_X7_isPublisher gX4_takesPlace_X7_isPublisher_n77 lk_X4_takesPlace_77n lk_X4_takesPlace_77s lk_X4_takesPlace_77i ⟨Nat.le_of_ble_eq_true rfl, Nat.le_of_ble_eq_true rfl⟩ rfl rfl (Nat.le_of_ble_eq_true rfl) dX4_takesPlace_1 rfl hf (fun v1 hf => ?_)
  refine G_if_ne (tgt := 9) (pc' := 7) C dX4_takesPlace_4 (by decide) rfl hf (fun hf => ?_) (fun hf => ?_)
  · refine G_iconst (v := (0 : Int32)) (pc' := 8) C dX4_takesPlace_7 (by decide) rfl ?_
    exact G_zret C hR dX4_takesPlace_8 (by decide) (Option.some.inj hf)
  · refine G_aload_n (pc' := 10) C dX4_takesPlace_9 0 rfl rfl ?_
    refine G_get (pc' := 13) C wD_6 rfl 3 (by decide) rfl iu_X4_takesPlace_X4 lk_X4_takesPlace_21 dX4_takesPlace_10 rfl ?_
    refine G_iload_n (pc' := 14) C dX4_takesPlace_13 1 rfl rfl ?_
    refine G_iald (pc' := 15) C wD_10 dX4_takesPlace_14 rfl hf (fun v2 hf => ?_)
    refine G_aload_n (pc' := 16) C dX4_takesPlace_15 2 rfl rfl ?_
    refine G_iconst (v := (4 : Int32)) (pc' := 17) C dX4_takesPlace_16 (by decide) rfl ?_
    refine G_callVp (pc' := 20) C [.int (4 : Int32)] (c_X3_number ω N σ (4 : Int32)) sg_X3_number gX4_takesPlace_X3_number wD_3 rfl ⟨Nat.le_of_ble_eq_true rfl, Nat.le_of_ble_eq_true rfl⟩ rfl rfl (Nat.le_of_ble_eq_true rfl) dX4_takesPlace_17 rfl hf (fun v3 hf => ?_)
    refine G_icmp_ge (tgt := 27) (pc' := 23) C dX4_takesPlace_20 (by decide) rfl hf (fun hf => ?_) (fun hf => ?_)
    · refine G_iconst (v := (0 : Int32)) (pc' := 28) C dX4_takesPlace_27 (by decide) rfl ?_
      refine G_istore_n (lv' := [(0, .ref (za ω 6)), (1, .int a1), (2, .ref (za ω 3)), (3, .int (0 : Int32))]) (pc' := 29) C dX4_takesPlace_28 (by decide) [1, 2, 3, 0] rfl rfl ?_
      refine G_aload_n (pc' := 30) C dX4_takesPlace_29 0 rfl rfl ?_
      refine G_get (pc' := 33) C wD_6 rfl 3 (by decide) rfl iu_X4_takesPlace_X4 lk_X4_takesPlace_21 dX4_takesPlace_30 rfl ?_
      refine G_iload_n (pc' := 34) C dX4_takesPlace_33 1 rfl rfl ?_
      refine G_dup2 (pc' := 35) C dX4_takesPlace_34 rfl rfl rfl ?_
      refine G_iald (pc' := 36) C wD_10 dX4_takesPlace_35 rfl hf (fun v4 hf => ?_)
      refine G_iconst (v := (1 : Int32)) (pc' := 37) C dX4_takesPlace_36 (by decide) rfl ?_
      refine G_iadd (pc' := 38) C dX4_takesPlace_37 rfl ?_
      refine G_iast (pc' := 39) C wD_10 wD_s10 dX4_takesPlace_38 rfl hf (fun s5 hf => ?_)
      refine G_iload_n (pc' := 40) C dX4_takesPlace_39 3 rfl rfl ?_
      exact G_zret C hR dX4_takesPlace_40 (by decide) (Option.some.inj hf)
    · refine G_iconst (v := (1 : Int32)) (pc' := 24) C dX4_takesPlace_23 (by decide) rfl ?_
      refine G_goto (pc' := 28) C dX4_takesPlace_24 (by decide) ?_
      refine G_istore_n (lv' := [(0, .ref (za ω 6)), (1, .int a1), (2, .ref (za ω 3)), (3, .int (1 : Int32))]) (pc' := 29) C dX4_takesPlace_28 (by decide) [1, 2, 3, 0] rfl rfl ?_
      refine G_aload_n (pc' := 30) C dX4_takesPlace_29 0 rfl rfl ?_
      refine G_get (pc' := 33) C wD_6 rfl 3 (by decide) rfl iu_X4_takesPlace_X4 lk_X4_takesPlace_21 dX4_takesPlace_30 rfl ?_
      refine G_iload_n (pc' := 34) C dX4_takesPlace_33 1 rfl rfl ?_
      refine G_dup2 (pc' := 35) C dX4_takesPlace_34 rfl rfl rfl ?_
      refine G_iald (pc' := 36) C wD_10 dX4_takesPlace_35 rfl hf (fun v6 hf => ?_)
      refine G_iconst (v := (1 : Int32)) (pc' := 37) C dX4_takesPlace_36 (by decide) rfl ?_
      refine G_iadd (pc' := 38) C dX4_takesPlace_37 rfl ?_
      refine G_iast (pc' := 39) C wD_10 wD_s10 dX4_takesPlace_38 rfl hf (fun s7 hf => ?_)
      refine G_iload_n (pc' := 40) C dX4_takesPlace_39 3 rfl rfl ?_
      exact G_zret C hR dX4_takesPlace_40 (by decide) (Option.some.inj hf)
theorem iu_X4_admitted_X4 : ∀ w ∈ wsX40, w ∈ wsX4_admitted := by decide +kernel
theorem lk_X4_admitted_21 : Cond.fieldLink RX4 21 "PrizeDesk$Shelf" "rivals" "[I" ∈ wsX4_admitted := by decide +kernel
theorem lk_X4_admitted_38n : Cond.methodLinkNest RX4 38 yX7_bit RX7 ∈ zNws := by decide +kernel
theorem lk_X4_admitted_38s : Cond.static yX7_bit ∈ wsX4_admitted := by decide +kernel
theorem lk_X4_admitted_38i : Cond.initialized yX7_bit.cls ∈ wsX4_admitted := by decide +kernel
theorem lk_X4_admitted_9 : Cond.fieldLink RX4 9 "PrizeDesk$Shelf" "publishers" "[I" ∈ wsX4_admitted := by decide +kernel
abbrev rm_X4_admitted : Room := { frames := 3, cells := 0, slots := 0, locals := 66 }
theorem sg_X4_admitted : ZG yX4_admitted wsX4_admitted cX4_admitted 4 (some .int) RX4 1 rm_X4_admitted := ⟨⟨_, rfl⟩, by decide +kernel, rfl, rfl⟩
set_option maxHeartbeats 4000000 in
set_option maxRecDepth 100000 in
theorem w_X4_admitted_2 {ω : ZO} {κ : ZK} {N : Nat} {K : Int32 → ZS → Option (Int32 × ZS)} {r0 : Int32 × ZS} (C : CX ω wD κ cX4_admitted wsX4_admitted RX4 (some .int) 4 rm_X4_admitted) (hR : zRI ω wD κ (fun v τ => (v, τ) = r0)) (HK : ∀ (y2 : Int32) (τ : ZS), K y2 τ = some r0 → G ω wD κ 21 [(0, .ref (za ω 6)), (1, .ref (za ω 3))] [] τ) : ∀ (n : Nat) (y2 : Int32) (τ : ZS), L_X4_admitted_2 N K n y2 τ = some r0 → G ω wD κ 2 [(0, .ref (za ω 6)), (1, .ref (za ω 3)), (2, .int y2)] [] τ := by
  intro n
  induction n with
  | zero => intro  y2 τ hf; exact absurd (show none = some r0 from hf) (fun h => nomatch h)
  | succ n ih =>
    intro y2 τ hf
    have hf : B_X4_admitted_2 N K (L_X4_admitted_2 N K n) y2 τ = some r0 := hf
    unfold B_X4_admitted_2 at hf
    refine G_iload_n (pc' := 3) C dX4_admitted_2 2 rfl rfl ?_
    refine G_bipush (v := (8 : Int32)) (pc' := 5) C dX4_admitted_3 (by decide) rfl ?_
    refine G_icmp_ge (tgt := 21) (pc' := 8) C dX4_admitted_5 (by decide) rfl hf (fun hf => ?_) (fun hf => ?_)
    · refine G_sub (lv' := [(0, .ref (za ω 6)), (1, .ref (za ω 3))]) C [0, 1] rfl ?_
      exact HK y2 τ hf
    · refine G_aload_n (pc' := 9) C dX4_admitted_8 0 rfl rfl ?_
      refine G_get (pc' := 12) C wD_6 rfl 3 (by decide) rfl iu_X4_admitted_X4 lk_X4_admitted_21 dX4_admitted_9 rfl ?_
      refine G_iload_n (pc' := 13) C dX4_admitted_12 2 rfl rfl ?_
      refine G_iconst (v := (0 : Int32)) (pc' := 14) C dX4_admitted_13 (by decide) rfl ?_
      refine G_iast (pc' := 15) C wD_10 wD_s10 dX4_admitted_14 rfl hf (fun s1 hf => ?_)
      refine G_iincL (v := y2 + (1 : Int32)) (pc' := 18) C dX4_admitted_15 2 rfl rfl (by decide) [1, 2, 0] (fun x2 => [(0, .ref (za ω 6)), (1, .ref (za ω 3)), (2, .int x2)]) (fun _ => rfl) rfl hf (fun x2 hf => ?_)
      refine G_goto (pc' := 2) C dX4_admitted_18 (by decide) ?_
      exact ih x2 s1 hf
set_option maxHeartbeats 4000000 in
set_option maxRecDepth 100000 in
theorem w_X4_admitted_25 {ω : ZO} {κ : ZK} {N : Nat} {K : Int32 → Int32 → ZS → Option (Int32 × ZS)} {r0 : Int32 × ZS} (C : CX ω wD κ cX4_admitted wsX4_admitted RX4 (some .int) 4 rm_X4_admitted) (hR : zRI ω wD κ (fun v τ => (v, τ) = r0)) (HK : ∀ (y2 : Int32) (y3 : Int32) (τ : ZS), K y2 y3 τ = some r0 → G ω wD κ 94 [(0, .ref (za ω 6)), (1, .ref (za ω 3)), (2, .int y2)] [] τ) : ∀ (n : Nat) (y2 : Int32) (y3 : Int32) (τ : ZS), L_X4_admitted_25 N K n y2 y3 τ = some r0 → G ω wD κ 25 [(0, .ref (za ω 6)), (1, .ref (za ω 3)), (2, .int y2), (3, .int y3)] [] τ := by
  intro n
  induction n with
  | zero => intro  y2 y3 τ hf; exact absurd (show none = some r0 from hf) (fun h => nomatch h)
  | succ n ih =>
    intro y2 y3 τ hf
    have hf : B_X4_admitted_25 N K (L_X4_admitted_25 N K n) y2 y3 τ = some r0 := hf
    unfold B_X4_admitted_25 at hf
    refine G_iload_n (pc' := 26) C dX4_admitted_25 3 rfl rfl ?_
    refine G_bipush (v := (24 : Int32)) (pc' := 28) C dX4_admitted_26 (by decide) rfl ?_
    refine G_icmp_ge (tgt := 94) (pc' := 31) C dX4_admitted_28 (by decide) rfl hf (fun hf => ?_) (fun hf => ?_)
    · refine G_sub (lv' := [(0, .ref (za ω 6)), (1, .ref (za ω 3)), (2, .int y2)]) C [0, 1, 2] rfl ?_
      exact HK y2 y3 τ hf
    · refine G_aload_n (pc' := 32) C dX4_admitted_31 0 rfl rfl ?_
      refine G_iload_n (pc' := 33) C dX4_admitted_32 3 rfl rfl ?_
      refine G_callVp (pc' := 36) C [.int y3] (c_X4_has ω N τ y3) sg_X4_has gX4_admitted_X4_has wD_6 rfl ⟨Nat.le_of_ble_eq_true rfl, Nat.le_of_ble_eq_true rfl⟩ rfl rfl (Nat.le_of_ble_eq_true rfl) dX4_admitted_33 rfl hf (fun v5 hf => ?_)
      refine G_if_eq (tgt := 88) (pc' := 39) C dX4_admitted_36 (by decide) rfl hf (fun hf => ?_) (fun hf => ?_)
      · refine G_iincL (v := y3 + (1 : Int32)) (pc' := 91) C dX4_admitted_88 3 rfl rfl (by decide) [1, 2, 3, 0] (fun x6 => [(0, .ref (za ω 6)), (1, .ref (za ω 3)), (2, .int y2), (3, .int x6)]) (fun _ => rfl) rfl hf (fun x6 hf => ?_)
        refine G_goto (pc' := 25) C dX4_admitted_91 (by decide) ?_
        exact ih y2 x6 τ hf
      · refine G_aload_n (pc' := 40) C dX4_admitted_39 0 rfl rfl ?_
        refine G_iload_n (pc' := 41) C dX4_admitted_40 3 rfl rfl ?_
        refine G_callVp (pc' := 44) C [.int y3] (c_X4_isTakenOut ω N τ y3) sg_X4_isTakenOut gX4_admitted_X4_isTakenOut wD_6 rfl ⟨Nat.le_of_ble_eq_true rfl, Nat.le_of_ble_eq_true rfl⟩ rfl rfl (Nat.le_of_ble_eq_true rfl) dX4_admitted_41 rfl hf (fun v7 hf => ?_)
        refine G_if_ne (tgt := 88) (pc' := 47) C dX4_admitted_44 (by decide) rfl hf (fun hf => ?_) (fun hf => ?_)
        · refine G_aload_n (pc' := 48) C dX4_admitted_47 0 rfl rfl ?_
          refine G_iload_n (pc' := 49) C dX4_admitted_48 3 rfl rfl ?_
          refine G_aload_n (pc' := 50) C dX4_admitted_49 1 rfl rfl ?_
          refine G_callVp (pc' := 53) C [.int y3, .ref (za ω 3)] (c_X4_isWithinRules ω N τ y3) sg_X4_isWithinRules gX4_admitted_X4_isWithinRules wD_6 rfl ⟨Nat.le_of_ble_eq_true rfl, Nat.le_of_ble_eq_true rfl⟩ rfl rfl (Nat.le_of_ble_eq_true rfl) dX4_admitted_50 rfl hf (fun v8 hf => ?_)
          refine G_if_ne (tgt := 59) (pc' := 56) C dX4_admitted_53 (by decide) rfl hf (fun hf => ?_) (fun hf => ?_)
          · refine G_goto (pc' := 88) C dX4_admitted_56 (by decide) ?_
            refine G_iincL (v := y3 + (1 : Int32)) (pc' := 91) C dX4_admitted_88 3 rfl rfl (by decide) [1, 2, 3, 0] (fun x9 => [(0, .ref (za ω 6)), (1, .ref (za ω 3)), (2, .int y2), (3, .int x9)]) (fun _ => rfl) rfl hf (fun x9 hf => ?_)
            refine G_goto (pc' := 25) C dX4_admitted_91 (by decide) ?_
            exact ih y2 x9 τ hf
          · refine G_aload_n (pc' := 60) C dX4_admitted_59 0 rfl rfl ?_
            refine G_iload_n (pc' := 61) C dX4_admitted_60 3 rfl rfl ?_
            refine G_callVp (pc' := 64) C [.int y3] (c_X4_isCalledIn ω N τ y3) sg_X4_isCalledIn gX4_admitted_X4_isCalledIn wD_6 rfl ⟨Nat.le_of_ble_eq_true rfl, Nat.le_of_ble_eq_true rfl⟩ rfl rfl (Nat.le_of_ble_eq_true rfl) dX4_admitted_61 rfl hf (fun v10 hf => ?_)
            refine G_if_ne (tgt := 81) (pc' := 67) C dX4_admitted_64 (by decide) rfl hf (fun hf => ?_) (fun hf => ?_)
            · refine G_aload_n (pc' := 68) C dX4_admitted_67 0 rfl rfl ?_
              refine G_aload_n (pc' := 69) C dX4_admitted_68 0 rfl rfl ?_
              refine G_get (pc' := 72) C wD_6 rfl 0 (by decide) rfl iu_X4_admitted_X4 lk_X4_admitted_9 dX4_admitted_69 rfl ?_
              refine G_iload_n (pc' := 73) C dX4_admitted_72 3 rfl rfl ?_
              refine G_iald (pc' := 74) C wD_7 dX4_admitted_73 rfl hf (fun v11 hf => ?_)
              refine G_aload_n (pc' := 75) C dX4_admitted_74 1 rfl rfl ?_
              refine G_callVt (pc' := 78) C [.int v11, .ref (za ω 3)] (c_X4_takesPlace ω N τ v11) sg_X4_takesPlace gX4_admitted_X4_takesPlace wD_6 rfl ⟨Nat.le_of_ble_eq_true rfl, Nat.le_of_ble_eq_true rfl⟩ rfl rfl (Nat.le_of_ble_eq_true rfl) dX4_admitted_75 rfl hf (fun v13 s12 hf => ?_)
              refine G_if_eq (tgt := 88) (pc' := 81) C dX4_admitted_78 (by decide) rfl hf (fun hf => ?_) (fun hf => ?_)
              · refine G_iincL (v := y3 + (1 : Int32)) (pc' := 91) C dX4_admitted_88 3 rfl rfl (by decide) [1, 2, 3, 0] (fun x14 => [(0, .ref (za ω 6)), (1, .ref (za ω 3)), (2, .int y2), (3, .int x14)]) (fun _ => rfl) rfl hf (fun x14 hf => ?_)
                refine G_goto (pc' := 25) C dX4_admitted_91 (by decide) ?_
                exact ih y2 x14 s12 hf
              · refine G_iload_n (pc' := 82) C dX4_admitted_81 2 rfl rfl ?_
                refine G_iload_n (pc' := 83) C dX4_admitted_82 3 rfl rfl ?_
                refine G_callNp (pc' := 86) C [.int y3] (c_X7_bit ω N s12 y3) sg_X7_bit gX4_admitted_X7_bit_n38 lk_X4_admitted_38n lk_X4_admitted_38s lk_X4_admitted_38i ⟨Nat.le_of_ble_eq_true rfl, Nat.le_of_ble_eq_true rfl⟩ rfl rfl (Nat.le_of_ble_eq_true rfl) dX4_admitted_83 rfl hf (fun v15 hf => ?_)
                refine G_ior (pc' := 87) C dX4_admitted_86 rfl ?_
                refine G_nm hf (fun x16 hf => ?_)
                refine G_istore_n (lv' := [(0, .ref (za ω 6)), (1, .ref (za ω 3)), (2, .int x16), (3, .int y3)]) (pc' := 88) C dX4_admitted_87 (by decide) [1, 2, 0, 3] rfl rfl ?_
                refine G_iincL (v := y3 + (1 : Int32)) (pc' := 91) C dX4_admitted_88 3 rfl rfl (by decide) [1, 2, 3, 0] (fun x17 => [(0, .ref (za ω 6)), (1, .ref (za ω 3)), (2, .int x16), (3, .int x17)]) (fun _ => rfl) rfl hf (fun x17 hf => ?_)
                refine G_goto (pc' := 25) C dX4_admitted_91 (by decide) ?_
                exact ih x16 x17 s12 hf
            · refine G_iload_n (pc' := 82) C dX4_admitted_81 2 rfl rfl ?_
              refine G_iload_n (pc' := 83) C dX4_admitted_82 3 rfl rfl ?_
              refine G_callNp (pc' := 86) C [.int y3] (c_X7_bit ω N τ y3) sg_X7_bit gX4_admitted_X7_bit_n38 lk_X4_admitted_38n lk_X4_admitted_38s lk_X4_admitted_38i ⟨Nat.le_of_ble_eq_true rfl, Nat.le_of_ble_eq_true rfl⟩ rfl rfl (Nat.le_of_ble_eq_true rfl) dX4_admitted_83 rfl hf (fun v18 hf => ?_)
              refine G_ior (pc' := 87) C dX4_admitted_86 rfl ?_
              refine G_nm hf (fun x19 hf => ?_)
              refine G_istore_n (lv' := [(0, .ref (za ω 6)), (1, .ref (za ω 3)), (2, .int x19), (3, .int y3)]) (pc' := 88) C dX4_admitted_87 (by decide) [1, 2, 0, 3] rfl rfl ?_
              refine G_iincL (v := y3 + (1 : Int32)) (pc' := 91) C dX4_admitted_88 3 rfl rfl (by decide) [1, 2, 3, 0] (fun x20 => [(0, .ref (za ω 6)), (1, .ref (za ω 3)), (2, .int x19), (3, .int x20)]) (fun _ => rfl) rfl hf (fun x20 hf => ?_)
              refine G_goto (pc' := 25) C dX4_admitted_91 (by decide) ?_
              exact ih x19 x20 τ hf
        · refine G_iincL (v := y3 + (1 : Int32)) (pc' := 91) C dX4_admitted_88 3 rfl rfl (by decide) [1, 2, 3, 0] (fun x21 => [(0, .ref (za ω 6)), (1, .ref (za ω 3)), (2, .int y2), (3, .int x21)]) (fun _ => rfl) rfl hf (fun x21 hf => ?_)
          refine G_goto (pc' := 25) C dX4_admitted_91 (by decide) ?_
          exact ih y2 x21 τ hf
set_option maxHeartbeats 4000000 in
set_option maxRecDepth 100000 in
theorem c_X4_admitted (ω : ZO) (N : Nat) (σ : ZS) : ZIs ω wD yX4_admitted wsX4_admitted rm_X4_admitted [.ref (za ω 6), .ref (za ω 3)] σ (f_X4_admitted N σ) := by
  intro r0 hf
  refine ZI.go (cc := cX4_admitted) (maxL := 4) (ret := (some .int)) (own := RX4) (lv := [(0, .ref (za ω 6)), (1, .ref (za ω 3))]) (by decide) rfl rfl (Nat.le_of_ble_eq_true rfl) rfl (fun κ C hR => ?_)
  unfold f_X4_admitted at hf
  refine G_iconst (v := (0 : Int32)) (pc' := 1) C dX4_admitted_0 (by decide) rfl ?_
  refine G_istore_n (lv' := [(0, .ref (za ω 6)), (1, .ref (za ω 3)), (2, .int (0 : Int32))]) (pc' := 2) C dX4_admitted_1 (by decide) [1, 2, 0] rfl rfl ?_
  refine w_X4_admitted_2 C hR (fun y3 s4 hf => ?_) N (0 : Int32) σ hf
  refine G_iconst (v := (0 : Int32)) (pc' := 22) C dX4_admitted_21 (by decide) rfl ?_
  refine G_istore_n (lv' := [(0, .ref (za ω 6)), (1, .ref (za ω 3)), (2, .int (0 : Int32))]) (pc' := 23) C dX4_admitted_22 (by decide) [1, 2, 0] rfl rfl ?_
  refine G_iconst (v := (0 : Int32)) (pc' := 24) C dX4_admitted_23 (by decide) rfl ?_
  refine G_istore_n (lv' := [(0, .ref (za ω 6)), (1, .ref (za ω 3)), (2, .int (0 : Int32)), (3, .int (0 : Int32))]) (pc' := 25) C dX4_admitted_24 (by decide) [1, 2, 3, 0] rfl rfl ?_
  refine w_X4_admitted_25 C hR (fun y22 y23 s24 hf => ?_) N (0 : Int32) (0 : Int32) s4 hf
  refine G_iload_n (pc' := 95) C dX4_admitted_94 2 rfl rfl ?_
  exact G_iret C hR dX4_admitted_95 (Option.some.inj hf)
theorem lk_X0_isBarred_30n : Cond.methodLinkNest RX0 30 yX7_isJudge RX7 ∈ zNws := by decide +kernel
theorem lk_X0_isBarred_30s : Cond.static yX7_isJudge ∈ wsX0_isBarred := by decide +kernel
theorem lk_X0_isBarred_30i : Cond.initialized yX7_isJudge.cls ∈ wsX0_isBarred := by decide +kernel
theorem lk_X0_isBarred_34n : Cond.methodLinkNest RX0 34 yX7_contains RX7 ∈ zNws := by decide +kernel
theorem lk_X0_isBarred_34s : Cond.static yX7_contains ∈ wsX0_isBarred := by decide +kernel
theorem lk_X0_isBarred_34i : Cond.initialized yX7_contains.cls ∈ wsX0_isBarred := by decide +kernel
theorem iu_X0_isBarred_X0 : ∀ w ∈ wsX00, w ∈ wsX0_isBarred := by decide +kernel
theorem lk_X0_isBarred_18 : Cond.fieldLink RX0 18 "PrizeDesk$Panel" "barredBooks" "[I" ∈ wsX0_isBarred := by decide +kernel
abbrev rm_X0_isBarred : Room := { frames := 1, cells := 0, slots := 0, locals := 21 }
theorem sg_X0_isBarred : ZG yX0_isBarred wsX0_isBarred cX0_isBarred 3 (some .boolean) RX0 2 rm_X0_isBarred := ⟨⟨_, rfl⟩, by decide +kernel, rfl, rfl⟩
set_option maxHeartbeats 4000000 in
set_option maxRecDepth 100000 in
theorem c_X0_isBarred (ω : ZO) (N : Nat) (σ : ZS) (a1 : Int32) (a2 : Int32) : ZIp ω wD yX0_isBarred wsX0_isBarred rm_X0_isBarred [.ref (za ω 11), .int a1, .int a2] σ (f_X0_isBarred N σ a1 a2) := by
  intro r0 hf
  refine ZI.go (cc := cX0_isBarred) (maxL := 3) (ret := (some .boolean)) (own := RX0) (lv := [(0, .ref (za ω 11)), (1, .int a1), (2, .int a2)]) (by decide) rfl rfl (Nat.le_of_ble_eq_true rfl) rfl (fun κ C hR => ?_)
  unfold f_X0_isBarred at hf
  refine G_iload_n (pc' := 1) C dX0_isBarred_0 1 rfl rfl ?_
  refine G_callNp (pc' := 4) C [.int a1] (c_X7_isJudge ω N σ a1) sg_X7_isJudge gX0_isBarred_X7_isJudge_n30 lk_X0_isBarred_30n lk_X0_isBarred_30s lk_X0_isBarred_30i ⟨Nat.le_of_ble_eq_true rfl, Nat.le_of_ble_eq_true rfl⟩ rfl rfl (Nat.le_of_ble_eq_true rfl) dX0_isBarred_1 rfl hf (fun v1 hf => ?_)
  refine G_if_eq (tgt := 24) (pc' := 7) C dX0_isBarred_4 (by decide) rfl hf (fun hf => ?_) (fun hf => ?_)
  · refine G_iconst (v := (0 : Int32)) (pc' := 25) C dX0_isBarred_24 (by decide) rfl ?_
    exact G_zret C hR dX0_isBarred_25 (by decide) ⟨Option.some.inj hf, rfl⟩
  · refine G_aload_n (pc' := 8) C dX0_isBarred_7 0 rfl rfl ?_
    refine G_get (pc' := 11) C wD_11 rfl 2 (by decide) rfl iu_X0_isBarred_X0 lk_X0_isBarred_18 dX0_isBarred_8 rfl ?_
    refine G_iload_n (pc' := 12) C dX0_isBarred_11 1 rfl rfl ?_
    refine G_iald (pc' := 13) C wD_14 dX0_isBarred_12 rfl hf (fun v2 hf => ?_)
    refine G_iload_n (pc' := 14) C dX0_isBarred_13 2 rfl rfl ?_
    refine G_callNp (pc' := 17) C [.int v2, .int a2] (c_X7_contains ω N σ v2 a2) sg_X7_contains gX0_isBarred_X7_contains_n34 lk_X0_isBarred_34n lk_X0_isBarred_34s lk_X0_isBarred_34i ⟨Nat.le_of_ble_eq_true rfl, Nat.le_of_ble_eq_true rfl⟩ rfl rfl (Nat.le_of_ble_eq_true rfl) dX0_isBarred_14 rfl hf (fun v3 hf => ?_)
    refine G_if_eq (tgt := 24) (pc' := 20) C dX0_isBarred_17 (by decide) rfl hf (fun hf => ?_) (fun hf => ?_)
    · refine G_iconst (v := (0 : Int32)) (pc' := 25) C dX0_isBarred_24 (by decide) rfl ?_
      exact G_zret C hR dX0_isBarred_25 (by decide) ⟨Option.some.inj hf, rfl⟩
    · refine G_iconst (v := (1 : Int32)) (pc' := 21) C dX0_isBarred_20 (by decide) rfl ?_
      refine G_goto (pc' := 25) C dX0_isBarred_21 (by decide) ?_
      exact G_zret C hR dX0_isBarred_25 (by decide) ⟨Option.some.inj hf, rfl⟩
theorem lk_X0_freeJudgesOf_38n : Cond.methodLinkNest RX0 38 yX7_bit RX7 ∈ zNws := by decide +kernel
theorem lk_X0_freeJudgesOf_38s : Cond.static yX7_bit ∈ wsX0_freeJudgesOf := by decide +kernel
theorem lk_X0_freeJudgesOf_38i : Cond.initialized yX7_bit.cls ∈ wsX0_freeJudgesOf := by decide +kernel
abbrev rm_X0_freeJudgesOf : Room := { frames := 2, cells := 0, slots := 0, locals := 43 }
theorem sg_X0_freeJudgesOf : ZG yX0_freeJudgesOf wsX0_freeJudgesOf cX0_freeJudgesOf 4 (some .int) RX0 1 rm_X0_freeJudgesOf := ⟨⟨_, rfl⟩, by decide +kernel, rfl, rfl⟩
set_option maxHeartbeats 4000000 in
set_option maxRecDepth 100000 in
theorem w_X0_freeJudgesOf_4 {ω : ZO} {κ : ZK} {N : Nat} {σ : ZS} {b1 : Int32} {K : Int32 → Int32 → Option (Int32)} {r0 : Int32} (C : CX ω wD κ cX0_freeJudgesOf wsX0_freeJudgesOf RX0 (some .int) 4 rm_X0_freeJudgesOf) (hR : zRI ω wD κ (fun v τ => v = r0 ∧ τ = σ)) (HK : ∀ (y2 : Int32) (y3 : Int32), K y2 y3 = some r0 → G ω wD κ 32 [(0, .ref (za ω 11)), (2, .int y2)] [] σ) : ∀ (n : Nat) (y2 : Int32) (y3 : Int32), L_X0_freeJudgesOf_4 N σ b1 K n y2 y3 = some r0 → G ω wD κ 4 [(0, .ref (za ω 11)), (1, .int b1), (2, .int y2), (3, .int y3)] [] σ := by
  intro n
  induction n with
  | zero => intro  y2 y3 hf; exact absurd (show none = some r0 from hf) (fun h => nomatch h)
  | succ n ih =>
    intro y2 y3 hf
    have hf : B_X0_freeJudgesOf_4 N σ b1 K (L_X0_freeJudgesOf_4 N σ b1 K n) y2 y3 = some r0 := hf
    unfold B_X0_freeJudgesOf_4 at hf
    refine G_iload_n (pc' := 5) C dX0_freeJudgesOf_4 3 rfl rfl ?_
    refine G_bipush (v := (7 : Int32)) (pc' := 7) C dX0_freeJudgesOf_5 (by decide) rfl ?_
    refine G_icmp_ge (tgt := 32) (pc' := 10) C dX0_freeJudgesOf_7 (by decide) rfl hf (fun hf => ?_) (fun hf => ?_)
    · refine G_sub (lv' := [(0, .ref (za ω 11)), (2, .int y2)]) C [0, 2] rfl ?_
      exact HK y2 y3 hf
    · refine G_aload_n (pc' := 11) C dX0_freeJudgesOf_10 0 rfl rfl ?_
      refine G_iload_n (pc' := 12) C dX0_freeJudgesOf_11 3 rfl rfl ?_
      refine G_iload_n (pc' := 13) C dX0_freeJudgesOf_12 1 rfl rfl ?_
      refine G_callVp (pc' := 16) C [.int y3, .int b1] (c_X0_isBarred ω N σ y3 b1) sg_X0_isBarred gX0_freeJudgesOf_X0_isBarred wD_11 rfl ⟨Nat.le_of_ble_eq_true rfl, Nat.le_of_ble_eq_true rfl⟩ rfl rfl (Nat.le_of_ble_eq_true rfl) dX0_freeJudgesOf_13 rfl hf (fun v1 hf => ?_)
      refine G_if_ne (tgt := 26) (pc' := 19) C dX0_freeJudgesOf_16 (by decide) rfl hf (fun hf => ?_) (fun hf => ?_)
      · refine G_iload_n (pc' := 20) C dX0_freeJudgesOf_19 2 rfl rfl ?_
        refine G_iload_n (pc' := 21) C dX0_freeJudgesOf_20 3 rfl rfl ?_
        refine G_callNp (pc' := 24) C [.int y3] (c_X7_bit ω N σ y3) sg_X7_bit gX0_freeJudgesOf_X7_bit_n38 lk_X0_freeJudgesOf_38n lk_X0_freeJudgesOf_38s lk_X0_freeJudgesOf_38i ⟨Nat.le_of_ble_eq_true rfl, Nat.le_of_ble_eq_true rfl⟩ rfl rfl (Nat.le_of_ble_eq_true rfl) dX0_freeJudgesOf_21 rfl hf (fun v2 hf => ?_)
        refine G_ior (pc' := 25) C dX0_freeJudgesOf_24 rfl ?_
        refine G_nm hf (fun x3 hf => ?_)
        refine G_istore_n (lv' := [(0, .ref (za ω 11)), (1, .int b1), (2, .int x3), (3, .int y3)]) (pc' := 26) C dX0_freeJudgesOf_25 (by decide) [1, 2, 0, 3] rfl rfl ?_
        refine G_iincL (v := y3 + (1 : Int32)) (pc' := 29) C dX0_freeJudgesOf_26 3 rfl rfl (by decide) [1, 2, 3, 0] (fun x4 => [(0, .ref (za ω 11)), (1, .int b1), (2, .int x3), (3, .int x4)]) (fun _ => rfl) rfl hf (fun x4 hf => ?_)
        refine G_goto (pc' := 4) C dX0_freeJudgesOf_29 (by decide) ?_
        exact ih x3 x4 hf
      · refine G_iincL (v := y3 + (1 : Int32)) (pc' := 29) C dX0_freeJudgesOf_26 3 rfl rfl (by decide) [1, 2, 3, 0] (fun x5 => [(0, .ref (za ω 11)), (1, .int b1), (2, .int y2), (3, .int x5)]) (fun _ => rfl) rfl hf (fun x5 hf => ?_)
        refine G_goto (pc' := 4) C dX0_freeJudgesOf_29 (by decide) ?_
        exact ih y2 x5 hf
set_option maxHeartbeats 4000000 in
set_option maxRecDepth 100000 in
theorem c_X0_freeJudgesOf (ω : ZO) (N : Nat) (σ : ZS) (a1 : Int32) : ZIp ω wD yX0_freeJudgesOf wsX0_freeJudgesOf rm_X0_freeJudgesOf [.ref (za ω 11), .int a1] σ (f_X0_freeJudgesOf N σ a1) := by
  intro r0 hf
  refine ZI.go (cc := cX0_freeJudgesOf) (maxL := 4) (ret := (some .int)) (own := RX0) (lv := [(0, .ref (za ω 11)), (1, .int a1)]) (by decide) rfl rfl (Nat.le_of_ble_eq_true rfl) rfl (fun κ C hR => ?_)
  unfold f_X0_freeJudgesOf at hf
  refine G_iconst (v := (0 : Int32)) (pc' := 1) C dX0_freeJudgesOf_0 (by decide) rfl ?_
  refine G_istore_n (lv' := [(0, .ref (za ω 11)), (1, .int a1), (2, .int (0 : Int32))]) (pc' := 2) C dX0_freeJudgesOf_1 (by decide) [1, 2, 0] rfl rfl ?_
  refine G_iconst (v := (0 : Int32)) (pc' := 3) C dX0_freeJudgesOf_2 (by decide) rfl ?_
  refine G_istore_n (lv' := [(0, .ref (za ω 11)), (1, .int a1), (2, .int (0 : Int32)), (3, .int (0 : Int32))]) (pc' := 4) C dX0_freeJudgesOf_3 (by decide) [1, 2, 3, 0] rfl rfl ?_
  refine w_X0_freeJudgesOf_4 C hR (fun y6 y7 hf => ?_) N (0 : Int32) (0 : Int32) hf
  refine G_iload_n (pc' := 33) C dX0_freeJudgesOf_32 1 rfl rfl ?_
  exact G_iret C hR dX0_freeJudgesOf_33 ⟨Option.some.inj hf, rfl⟩
theorem lk_J6_bitCount_0f7a4_265 : Cond.constant RJ6 265 (1431655765) ∈ wsJ6_bitCount_0f7a4 := by decide +kernel
theorem lk_J6_bitCount_0f7a4_266 : Cond.constant RJ6 266 (858993459) ∈ wsJ6_bitCount_0f7a4 := by decide +kernel
theorem lk_J6_bitCount_0f7a4_267 : Cond.constant RJ6 267 (252645135) ∈ wsJ6_bitCount_0f7a4 := by decide +kernel
abbrev rm_J6_bitCount_0f7a4 : Room := { frames := 0, cells := 0, slots := 0, locals := 0 }
theorem sg_J6_bitCount_0f7a4 : ZG yJ6_bitCount_0f7a4 wsJ6_bitCount_0f7a4 cJ6_bitCount_0f7a4 1 (some .int) RJ6 1 rm_J6_bitCount_0f7a4 := ⟨⟨_, rfl⟩, by decide +kernel, rfl, rfl⟩
set_option maxHeartbeats 4000000 in
set_option maxRecDepth 100000 in
theorem c_J6_bitCount_0f7a4 (ω : ZO) (N : Nat) (σ : ZS) (a0 : Int32) : ZIp ω wD yJ6_bitCount_0f7a4 wsJ6_bitCount_0f7a4 rm_J6_bitCount_0f7a4 [.int a0] σ (f_J6_bitCount_0f7a4 N σ a0) := by
  intro r0 hf
  refine ZI.go (cc := cJ6_bitCount_0f7a4) (maxL := 1) (ret := (some .int)) (own := RJ6) (lv := [(0, .int a0)]) (by decide) rfl rfl (Nat.le_of_ble_eq_true rfl) rfl (fun κ C hR => ?_)
  unfold f_J6_bitCount_0f7a4 at hf
  refine G_iload_n (pc' := 1) C dJ6_bitCount_0f7a4_0 0 rfl rfl ?_
  refine G_iload_n (pc' := 2) C dJ6_bitCount_0f7a4_1 0 rfl rfl ?_
  refine G_iconst (v := (1 : Int32)) (pc' := 3) C dJ6_bitCount_0f7a4_2 (by decide) rfl ?_
  refine G_iushr (pc' := 4) C dJ6_bitCount_0f7a4_3 rfl ?_
  refine G_ldcw (v := (1431655765 : Int32)) (pc' := 7) C dJ6_bitCount_0f7a4_4 lk_J6_bitCount_0f7a4_265 rfl ?_
  refine G_iand (pc' := 8) C dJ6_bitCount_0f7a4_7 rfl ?_
  refine G_isub (pc' := 9) C dJ6_bitCount_0f7a4_8 rfl ?_
  refine G_nm hf (fun x1 hf => ?_)
  refine G_istore_n (lv' := [(0, .int x1)]) (pc' := 10) C dJ6_bitCount_0f7a4_9 (by decide) [0] rfl rfl ?_
  refine G_iload_n (pc' := 11) C dJ6_bitCount_0f7a4_10 0 rfl rfl ?_
  refine G_ldcw (v := (858993459 : Int32)) (pc' := 14) C dJ6_bitCount_0f7a4_11 lk_J6_bitCount_0f7a4_266 rfl ?_
  refine G_iand (pc' := 15) C dJ6_bitCount_0f7a4_14 rfl ?_
  refine G_iload_n (pc' := 16) C dJ6_bitCount_0f7a4_15 0 rfl rfl ?_
  refine G_iconst (v := (2 : Int32)) (pc' := 17) C dJ6_bitCount_0f7a4_16 (by decide) rfl ?_
  refine G_iushr (pc' := 18) C dJ6_bitCount_0f7a4_17 rfl ?_
  refine G_ldcw (v := (858993459 : Int32)) (pc' := 21) C dJ6_bitCount_0f7a4_18 lk_J6_bitCount_0f7a4_266 rfl ?_
  refine G_iand (pc' := 22) C dJ6_bitCount_0f7a4_21 rfl ?_
  refine G_iadd (pc' := 23) C dJ6_bitCount_0f7a4_22 rfl ?_
  refine G_nm hf (fun x2 hf => ?_)
  refine G_istore_n (lv' := [(0, .int x2)]) (pc' := 24) C dJ6_bitCount_0f7a4_23 (by decide) [0] rfl rfl ?_
  refine G_iload_n (pc' := 25) C dJ6_bitCount_0f7a4_24 0 rfl rfl ?_
  refine G_iload_n (pc' := 26) C dJ6_bitCount_0f7a4_25 0 rfl rfl ?_
  refine G_iconst (v := (4 : Int32)) (pc' := 27) C dJ6_bitCount_0f7a4_26 (by decide) rfl ?_
  refine G_iushr (pc' := 28) C dJ6_bitCount_0f7a4_27 rfl ?_
  refine G_iadd (pc' := 29) C dJ6_bitCount_0f7a4_28 rfl ?_
  refine G_ldcw (v := (252645135 : Int32)) (pc' := 32) C dJ6_bitCount_0f7a4_29 lk_J6_bitCount_0f7a4_267 rfl ?_
  refine G_iand (pc' := 33) C dJ6_bitCount_0f7a4_32 rfl ?_
  refine G_nm hf (fun x3 hf => ?_)
  refine G_istore_n (lv' := [(0, .int x3)]) (pc' := 34) C dJ6_bitCount_0f7a4_33 (by decide) [0] rfl rfl ?_
  refine G_iload_n (pc' := 35) C dJ6_bitCount_0f7a4_34 0 rfl rfl ?_
  refine G_iload_n (pc' := 36) C dJ6_bitCount_0f7a4_35 0 rfl rfl ?_
  refine G_bipush (v := (8 : Int32)) (pc' := 38) C dJ6_bitCount_0f7a4_36 (by decide) rfl ?_
  refine G_iushr (pc' := 39) C dJ6_bitCount_0f7a4_38 rfl ?_
  refine G_iadd (pc' := 40) C dJ6_bitCount_0f7a4_39 rfl ?_
  refine G_nm hf (fun x4 hf => ?_)
  refine G_istore_n (lv' := [(0, .int x4)]) (pc' := 41) C dJ6_bitCount_0f7a4_40 (by decide) [0] rfl rfl ?_
  refine G_iload_n (pc' := 42) C dJ6_bitCount_0f7a4_41 0 rfl rfl ?_
  refine G_iload_n (pc' := 43) C dJ6_bitCount_0f7a4_42 0 rfl rfl ?_
  refine G_bipush (v := (16 : Int32)) (pc' := 45) C dJ6_bitCount_0f7a4_43 (by decide) rfl ?_
  refine G_iushr (pc' := 46) C dJ6_bitCount_0f7a4_45 rfl ?_
  refine G_iadd (pc' := 47) C dJ6_bitCount_0f7a4_46 rfl ?_
  refine G_nm hf (fun x5 hf => ?_)
  refine G_istore_n (lv' := [(0, .int x5)]) (pc' := 48) C dJ6_bitCount_0f7a4_47 (by decide) [0] rfl rfl ?_
  refine G_iload_n (pc' := 49) C dJ6_bitCount_0f7a4_48 0 rfl rfl ?_
  refine G_bipush (v := (63 : Int32)) (pc' := 51) C dJ6_bitCount_0f7a4_49 (by decide) rfl ?_
  refine G_iand (pc' := 52) C dJ6_bitCount_0f7a4_51 rfl ?_
  exact G_iret C hR dJ6_bitCount_0f7a4_52 ⟨Option.some.inj hf, rfl⟩
theorem iu_X0_readingsLeftTo_X0 : ∀ w ∈ wsX00, w ∈ wsX0_readingsLeftTo := by decide +kernel
theorem lk_X0_readingsLeftTo_27 : Cond.fieldLink RX0 27 "PrizeDesk$Panel" "freeJudges" "[I" ∈ wsX0_readingsLeftTo := by decide +kernel
abbrev rm_X0_readingsLeftTo : Room := { frames := 1, cells := 0, slots := 0, locals := 20 }
theorem sg_X0_readingsLeftTo : ZG yX0_readingsLeftTo wsX0_readingsLeftTo cX0_readingsLeftTo 7 (some .int) RX0 3 rm_X0_readingsLeftTo := ⟨⟨_, rfl⟩, by decide +kernel, rfl, rfl⟩
set_option maxHeartbeats 4000000 in
set_option maxRecDepth 100000 in
theorem w_X0_readingsLeftTo_6 {ω : ZO} {κ : ZK} {N : Nat} {σ : ZS} {b1 : Int32} {b2 : Int32} {b3 : Int32} {K : Int32 → Int32 → Option (Int32)} {r0 : Int32} (C : CX ω wD κ cX0_readingsLeftTo wsX0_readingsLeftTo RX0 (some .int) 7 rm_X0_readingsLeftTo) (hR : zRI ω wD κ (fun v τ => v = r0 ∧ τ = σ)) (HK : ∀ (y4 : Int32) (y5 : Int32), K y4 y5 = some r0 → G ω wD κ 56 [(0, .ref (za ω 11)), (4, .int y4)] [] σ) : ∀ (n : Nat) (y4 : Int32) (y5 : Int32), L_X0_readingsLeftTo_6 N σ b1 b2 b3 K n y4 y5 = some r0 → G ω wD κ 6 [(0, .ref (za ω 11)), (1, .int b1), (2, .int b2), (3, .int b3), (4, .int y4), (5, .int y5)] [] σ := by
  intro n
  induction n with
  | zero => intro  y4 y5 hf; exact absurd (show none = some r0 from hf) (fun h => nomatch h)
  | succ n ih =>
    intro y4 y5 hf
    have hf : B_X0_readingsLeftTo_6 N σ b1 b2 b3 K (L_X0_readingsLeftTo_6 N σ b1 b2 b3 K n) y4 y5 = some r0 := hf
    unfold B_X0_readingsLeftTo_6 at hf
    refine G_iload (pc' := 8) C dX0_readingsLeftTo_6 5 rfl rfl ?_
    refine G_iload_n (pc' := 9) C dX0_readingsLeftTo_8 2 rfl rfl ?_
    refine G_icmp_ge (tgt := 56) (pc' := 12) C dX0_readingsLeftTo_9 (by decide) rfl hf (fun hf => ?_) (fun hf => ?_)
    · refine G_sub (lv' := [(0, .ref (za ω 11)), (4, .int y4)]) C [0, 4] rfl ?_
      exact HK y4 y5 hf
    · refine G_iload (pc' := 14) C dX0_readingsLeftTo_12 5 rfl rfl ?_
      refine G_bipush (v := (24 : Int32)) (pc' := 16) C dX0_readingsLeftTo_14 (by decide) rfl ?_
      refine G_icmp_ge (tgt := 56) (pc' := 19) C dX0_readingsLeftTo_16 (by decide) rfl hf (fun hf => ?_) (fun hf => ?_)
      · refine G_sub (lv' := [(0, .ref (za ω 11)), (4, .int y4)]) C [0, 4] rfl ?_
        exact HK y4 y5 hf
      · refine G_aload_n (pc' := 20) C dX0_readingsLeftTo_19 0 rfl rfl ?_
        refine G_get (pc' := 23) C wD_11 rfl 5 (by decide) rfl iu_X0_readingsLeftTo_X0 lk_X0_readingsLeftTo_27 dX0_readingsLeftTo_20 rfl ?_
        refine G_iload (pc' := 25) C dX0_readingsLeftTo_23 5 rfl rfl ?_
        refine G_iald (pc' := 26) C wD_17 dX0_readingsLeftTo_25 rfl hf (fun v1 hf => ?_)
        refine G_iload_n (pc' := 27) C dX0_readingsLeftTo_26 1 rfl rfl ?_
        refine G_iconst (v := (-1 : Int32)) (pc' := 28) C dX0_readingsLeftTo_27 (by decide) rfl ?_
        refine G_ixor (pc' := 29) C dX0_readingsLeftTo_28 rfl ?_
        refine G_iand (pc' := 30) C dX0_readingsLeftTo_29 rfl ?_
        refine G_callSp (pc' := 33) C [.int (v1 &&& (b1 ^^^ (-1 : Int32)))] (c_J6_bitCount_0f7a4 ω N σ (v1 &&& (b1 ^^^ (-1 : Int32)))) sg_J6_bitCount_0f7a4 gX0_readingsLeftTo_J6_bitCount_0f7a4 ⟨Nat.le_of_ble_eq_true rfl, Nat.le_of_ble_eq_true rfl⟩ rfl rfl (Nat.le_of_ble_eq_true rfl) dX0_readingsLeftTo_30 rfl hf (fun v2 hf => ?_)
        refine G_istore (lv' := [(0, .ref (za ω 11)), (1, .int b1), (2, .int b2), (3, .int b3), (4, .int y4), (5, .int y5), (6, .int v2)]) (pc' := 35) C dX0_readingsLeftTo_33 (by decide) [1, 2, 3, 4, 5, 6, 0] rfl rfl ?_
        refine G_iload (pc' := 37) C dX0_readingsLeftTo_35 6 rfl rfl ?_
        refine G_iload_n (pc' := 38) C dX0_readingsLeftTo_37 3 rfl rfl ?_
        refine G_icmp_ge (tgt := 50) (pc' := 41) C dX0_readingsLeftTo_38 (by decide) rfl hf (fun hf => ?_) (fun hf => ?_)
        · refine G_iincL (v := y5 + (1 : Int32)) (pc' := 53) C dX0_readingsLeftTo_50 5 rfl rfl (by decide) [1, 2, 3, 4, 5, 0] (fun x3 => [(0, .ref (za ω 11)), (1, .int b1), (2, .int b2), (3, .int b3), (4, .int y4), (5, .int x3)]) (fun _ => rfl) rfl hf (fun x3 hf => ?_)
          refine G_goto (pc' := 6) C dX0_readingsLeftTo_53 (by decide) ?_
          exact ih y4 x3 hf
        · refine G_iload (pc' := 43) C dX0_readingsLeftTo_41 4 rfl rfl ?_
          refine G_iload_n (pc' := 44) C dX0_readingsLeftTo_43 3 rfl rfl ?_
          refine G_iload (pc' := 46) C dX0_readingsLeftTo_44 6 rfl rfl ?_
          refine G_isub (pc' := 47) C dX0_readingsLeftTo_46 rfl ?_
          refine G_iadd (pc' := 48) C dX0_readingsLeftTo_47 rfl ?_
          refine G_nm hf (fun x4 hf => ?_)
          refine G_istore (lv' := [(0, .ref (za ω 11)), (1, .int b1), (2, .int b2), (3, .int b3), (4, .int x4), (5, .int y5)]) (pc' := 50) C dX0_readingsLeftTo_48 (by decide) [1, 2, 3, 4, 0, 5] rfl rfl ?_
          refine G_iincL (v := y5 + (1 : Int32)) (pc' := 53) C dX0_readingsLeftTo_50 5 rfl rfl (by decide) [1, 2, 3, 4, 5, 0] (fun x5 => [(0, .ref (za ω 11)), (1, .int b1), (2, .int b2), (3, .int b3), (4, .int x4), (5, .int x5)]) (fun _ => rfl) rfl hf (fun x5 hf => ?_)
          refine G_goto (pc' := 6) C dX0_readingsLeftTo_53 (by decide) ?_
          exact ih x4 x5 hf
set_option maxHeartbeats 4000000 in
set_option maxRecDepth 100000 in
theorem c_X0_readingsLeftTo (ω : ZO) (N : Nat) (σ : ZS) (a1 : Int32) (a2 : Int32) (a3 : Int32) : ZIp ω wD yX0_readingsLeftTo wsX0_readingsLeftTo rm_X0_readingsLeftTo [.ref (za ω 11), .int a1, .int a2, .int a3] σ (f_X0_readingsLeftTo N σ a1 a2 a3) := by
  intro r0 hf
  refine ZI.go (cc := cX0_readingsLeftTo) (maxL := 7) (ret := (some .int)) (own := RX0) (lv := [(0, .ref (za ω 11)), (1, .int a1), (2, .int a2), (3, .int a3)]) (by decide) rfl rfl (Nat.le_of_ble_eq_true rfl) rfl (fun κ C hR => ?_)
  unfold f_X0_readingsLeftTo at hf
  refine G_iconst (v := (0 : Int32)) (pc' := 1) C dX0_readingsLeftTo_0 (by decide) rfl ?_
  refine G_istore (lv' := [(0, .ref (za ω 11)), (1, .int a1), (2, .int a2), (3, .int a3), (4, .int (0 : Int32))]) (pc' := 3) C dX0_readingsLeftTo_1 (by decide) [1, 2, 3, 4, 0] rfl rfl ?_
  refine G_iconst (v := (0 : Int32)) (pc' := 4) C dX0_readingsLeftTo_3 (by decide) rfl ?_
  refine G_istore (lv' := [(0, .ref (za ω 11)), (1, .int a1), (2, .int a2), (3, .int a3), (4, .int (0 : Int32)), (5, .int (0 : Int32))]) (pc' := 6) C dX0_readingsLeftTo_4 (by decide) [1, 2, 3, 4, 5, 0] rfl rfl ?_
  refine w_X0_readingsLeftTo_6 C hR (fun y6 y7 hf => ?_) N (0 : Int32) (0 : Int32) hf
  refine G_iload (pc' := 58) C dX0_readingsLeftTo_56 1 rfl rfl ?_
  exact G_iret C hR dX0_readingsLeftTo_58 ⟨Option.some.inj hf, rfl⟩
theorem lk_X0_leastLoad_34n : Cond.methodLinkNest RX0 34 yX7_contains RX7 ∈ zNws := by decide +kernel
theorem lk_X0_leastLoad_34s : Cond.static yX7_contains ∈ wsX0_leastLoad := by decide +kernel
theorem lk_X0_leastLoad_34i : Cond.initialized yX7_contains.cls ∈ wsX0_leastLoad := by decide +kernel
theorem iu_X0_leastLoad_X0 : ∀ w ∈ wsX00, w ∈ wsX0_leastLoad := by decide +kernel
theorem lk_X0_leastLoad_27 : Cond.fieldLink RX0 27 "PrizeDesk$Panel" "freeJudges" "[I" ∈ wsX0_leastLoad := by decide +kernel
theorem lk_X0_leastLoad_56l : Cond.methodLink RX0 56 Lib.Math.max.name ∈ wsX0_leastLoad := by decide +kernel
theorem lk_X0_leastLoad_56s : Cond.static Lib.Math.max.name ∈ wsX0_leastLoad := by decide +kernel
theorem lk_X0_leastLoad_56i : Cond.initialized "java/lang/Math" ∈ wsX0_leastLoad := by decide +kernel
theorem lk_X0_leastLoad_56c : Cond.code Lib.Math.max.name Lib.Math.max.code 2 (some .int) ∈ wsX0_leastLoad := by decide +kernel
abbrev rm_X0_leastLoad : Room := { frames := 3, cells := 0, slots := 0, locals := 66 }
theorem sg_X0_leastLoad : ZG yX0_leastLoad wsX0_leastLoad cX0_leastLoad 7 (some .int) RX0 2 rm_X0_leastLoad := ⟨⟨_, rfl⟩, by decide +kernel, rfl, rfl⟩
set_option maxHeartbeats 4000000 in
set_option maxRecDepth 100000 in
theorem w_X0_leastLoad_5 {ω : ZO} {κ : ZK} {N : Nat} {b1 : Int32} {b2 : Int32} {K : Int32 → Int32 → ZS → Option (Int32 × ZS)} {r0 : Int32 × ZS} (C : CX ω wD κ cX0_leastLoad wsX0_leastLoad RX0 (some .int) 7 rm_X0_leastLoad) (hR : zRI ω wD κ (fun v τ => (v, τ) = r0)) (HK : ∀ (y3 : Int32) (y4 : Int32) (τ : ZS), K y3 y4 τ = some r0 → G ω wD κ 57 [(0, .ref (za ω 11)), (2, .int b2), (3, .int y3)] [] τ) : ∀ (n : Nat) (y3 : Int32) (y4 : Int32) (τ : ZS), L_X0_leastLoad_5 N b1 b2 K n y3 y4 τ = some r0 → G ω wD κ 5 [(0, .ref (za ω 11)), (1, .int b1), (2, .int b2), (3, .int y3), (4, .int y4)] [] τ := by
  intro n
  induction n with
  | zero => intro  y3 y4 τ hf; exact absurd (show none = some r0 from hf) (fun h => nomatch h)
  | succ n ih =>
    intro y3 y4 τ hf
    have hf : B_X0_leastLoad_5 N b1 b2 K (L_X0_leastLoad_5 N b1 b2 K n) y3 y4 τ = some r0 := hf
    unfold B_X0_leastLoad_5 at hf
    refine G_iload (pc' := 7) C dX0_leastLoad_5 4 rfl rfl ?_
    refine G_bipush (v := (24 : Int32)) (pc' := 9) C dX0_leastLoad_7 (by decide) rfl ?_
    refine G_icmp_ge (tgt := 57) (pc' := 12) C dX0_leastLoad_9 (by decide) rfl hf (fun hf => ?_) (fun hf => ?_)
    · refine G_sub (lv' := [(0, .ref (za ω 11)), (2, .int b2), (3, .int y3)]) C [0, 2, 3] rfl ?_
      exact HK y3 y4 τ hf
    · refine G_iload_n (pc' := 13) C dX0_leastLoad_12 1 rfl rfl ?_
      refine G_iload (pc' := 15) C dX0_leastLoad_13 4 rfl rfl ?_
      refine G_callNp (pc' := 18) C [.int b1, .int y4] (c_X7_contains ω N τ b1 y4) sg_X7_contains gX0_leastLoad_X7_contains_n34 lk_X0_leastLoad_34n lk_X0_leastLoad_34s lk_X0_leastLoad_34i ⟨Nat.le_of_ble_eq_true rfl, Nat.le_of_ble_eq_true rfl⟩ rfl rfl (Nat.le_of_ble_eq_true rfl) dX0_leastLoad_15 rfl hf (fun v1 hf => ?_)
      refine G_if_eq (tgt := 51) (pc' := 21) C dX0_leastLoad_18 (by decide) rfl hf (fun hf => ?_) (fun hf => ?_)
      · refine G_iincL (v := y4 + (1 : Int32)) (pc' := 54) C dX0_leastLoad_51 4 rfl rfl (by decide) [1, 2, 3, 4, 0] (fun x2 => [(0, .ref (za ω 11)), (1, .int b1), (2, .int b2), (3, .int y3), (4, .int x2)]) (fun _ => rfl) rfl hf (fun x2 hf => ?_)
        refine G_goto (pc' := 5) C dX0_leastLoad_54 (by decide) ?_
        exact ih y3 x2 τ hf
      · refine G_aload_n (pc' := 22) C dX0_leastLoad_21 0 rfl rfl ?_
        refine G_get (pc' := 25) C wD_11 rfl 5 (by decide) rfl iu_X0_leastLoad_X0 lk_X0_leastLoad_27 dX0_leastLoad_22 rfl ?_
        refine G_iload_n (pc' := 26) C dX0_leastLoad_25 3 rfl rfl ?_
        refine G_aload_n (pc' := 27) C dX0_leastLoad_26 0 rfl rfl ?_
        refine G_iload (pc' := 29) C dX0_leastLoad_27 4 rfl rfl ?_
        refine G_callVp (pc' := 32) C [.int y4] (c_X0_freeJudgesOf ω N τ y4) sg_X0_freeJudgesOf gX0_leastLoad_X0_freeJudgesOf wD_11 rfl ⟨Nat.le_of_ble_eq_true rfl, Nat.le_of_ble_eq_true rfl⟩ rfl rfl (Nat.le_of_ble_eq_true rfl) dX0_leastLoad_29 rfl hf (fun v3 hf => ?_)
        refine G_iast (pc' := 33) C wD_17 wD_s17 dX0_leastLoad_32 rfl hf (fun s4 hf => ?_)
        refine G_aload_n (pc' := 34) C dX0_leastLoad_33 0 rfl rfl ?_
        refine G_get (pc' := 37) C wD_11 rfl 5 (by decide) rfl iu_X0_leastLoad_X0 lk_X0_leastLoad_27 dX0_leastLoad_34 rfl ?_
        refine G_iload_n (pc' := 38) C dX0_leastLoad_37 3 rfl rfl ?_
        refine G_iald (pc' := 39) C wD_17 dX0_leastLoad_38 rfl hf (fun v5 hf => ?_)
        refine G_callSp (pc' := 42) C [.int v5] (c_J6_bitCount_0f7a4 ω N s4 v5) sg_J6_bitCount_0f7a4 gX0_leastLoad_J6_bitCount_0f7a4 ⟨Nat.le_of_ble_eq_true rfl, Nat.le_of_ble_eq_true rfl⟩ rfl rfl (Nat.le_of_ble_eq_true rfl) dX0_leastLoad_39 rfl hf (fun v6 hf => ?_)
        refine G_iload_n (pc' := 43) C dX0_leastLoad_42 2 rfl rfl ?_
        refine G_icmp_ge (tgt := 48) (pc' := 46) C dX0_leastLoad_43 (by decide) rfl hf (fun hf => ?_) (fun hf => ?_)
        · refine G_iincL (v := y3 + (1 : Int32)) (pc' := 51) C dX0_leastLoad_48 3 rfl rfl (by decide) [1, 2, 3, 0, 4] (fun x7 => [(0, .ref (za ω 11)), (1, .int b1), (2, .int b2), (3, .int x7), (4, .int y4)]) (fun _ => rfl) rfl hf (fun x7 hf => ?_)
          refine G_iincL (v := y4 + (1 : Int32)) (pc' := 54) C dX0_leastLoad_51 4 rfl rfl (by decide) [1, 2, 3, 4, 0] (fun x8 => [(0, .ref (za ω 11)), (1, .int b1), (2, .int b2), (3, .int x7), (4, .int x8)]) (fun _ => rfl) rfl hf (fun x8 hf => ?_)
          refine G_goto (pc' := 5) C dX0_leastLoad_54 (by decide) ?_
          exact ih x7 x8 s4 hf
        · refine G_iconst (v := (-1 : Int32)) (pc' := 47) C dX0_leastLoad_46 (by decide) rfl ?_
          exact G_iret C hR dX0_leastLoad_47 (Option.some.inj hf)
set_option maxHeartbeats 4000000 in
set_option maxRecDepth 100000 in
theorem w_X0_leastLoad_63 {ω : ZO} {κ : ZK} {N : Nat} {σ : ZS} {b2 : Int32} {b3 : Int32} {K : Int32 → Int32 → Option (Int32 × ZS)} {r0 : Int32 × ZS} (C : CX ω wD κ cX0_leastLoad wsX0_leastLoad RX0 (some .int) 7 rm_X0_leastLoad) (hR : zRI ω wD κ (fun v τ => (v, τ) = r0)) (HK : ∀ (y4 : Int32) (y5 : Int32), K y4 y5 = some r0 → G ω wD κ 112 [(0, .ref (za ω 11)), (4, .int y4)] [] σ) : ∀ (n : Nat) (y4 : Int32) (y5 : Int32), L_X0_leastLoad_63 N σ b2 b3 K n y4 y5 = some r0 → G ω wD κ 63 [(0, .ref (za ω 11)), (2, .int b2), (3, .int b3), (4, .int y4), (5, .int y5)] [] σ := by
  intro n
  induction n with
  | zero => intro  y4 y5 hf; exact absurd (show none = some r0 from hf) (fun h => nomatch h)
  | succ n ih =>
    intro y4 y5 hf
    have hf : B_X0_leastLoad_63 N σ b2 b3 K (L_X0_leastLoad_63 N σ b2 b3 K n) y4 y5 = some r0 := hf
    unfold B_X0_leastLoad_63 at hf
    refine G_iload (pc' := 65) C dX0_leastLoad_63 4 rfl rfl ?_
    refine G_sipush (v := (128 : Int32)) (pc' := 68) C dX0_leastLoad_65 (by decide) rfl ?_
    refine G_icmp_ge (tgt := 112) (pc' := 71) C dX0_leastLoad_68 (by decide) rfl hf (fun hf => ?_) (fun hf => ?_)
    · refine G_sub (lv' := [(0, .ref (za ω 11)), (4, .int y4)]) C [0, 3] rfl ?_
      exact HK y4 y5 hf
    · refine G_iload (pc' := 73) C dX0_leastLoad_71 4 rfl rfl ?_
      refine G_callSp (pc' := 76) C [.int y5] (c_J6_bitCount_0f7a4 ω N σ y5) sg_J6_bitCount_0f7a4 gX0_leastLoad_J6_bitCount_0f7a4 ⟨Nat.le_of_ble_eq_true rfl, Nat.le_of_ble_eq_true rfl⟩ rfl rfl (Nat.le_of_ble_eq_true rfl) dX0_leastLoad_73 rfl hf (fun v12 hf => ?_)
      refine G_istore (lv' := [(0, .ref (za ω 11)), (2, .int b2), (3, .int b3), (4, .int y4), (5, .int y5), (6, .int v12)]) (pc' := 78) C dX0_leastLoad_76 (by decide) [1, 2, 3, 4, 5, 0] rfl rfl ?_
      refine G_iload (pc' := 80) C dX0_leastLoad_78 5 rfl rfl ?_
      refine G_if_le (tgt := 106) (pc' := 83) C dX0_leastLoad_80 (by decide) rfl hf (fun hf => ?_) (fun hf => ?_)
      · refine G_iincL (v := y5 + (1 : Int32)) (pc' := 109) C dX0_leastLoad_106 4 rfl rfl (by decide) [1, 2, 3, 4, 0] (fun x13 => [(0, .ref (za ω 11)), (2, .int b2), (3, .int b3), (4, .int y4), (5, .int x13)]) (fun _ => rfl) rfl hf (fun x13 hf => ?_)
        refine G_goto (pc' := 63) C dX0_leastLoad_109 (by decide) ?_
        exact ih y4 x13 hf
      · refine G_iload (pc' := 85) C dX0_leastLoad_83 3 rfl rfl ?_
        refine G_aload_n (pc' := 86) C dX0_leastLoad_85 0 rfl rfl ?_
        refine G_iload (pc' := 88) C dX0_leastLoad_86 4 rfl rfl ?_
        refine G_iload_n (pc' := 89) C dX0_leastLoad_88 2 rfl rfl ?_
        refine G_iload_n (pc' := 90) C dX0_leastLoad_89 1 rfl rfl ?_
        refine G_callVp (pc' := 93) C [.int y5, .int b3, .int b2] (c_X0_readingsLeftTo ω N σ y5 b3 b2) sg_X0_readingsLeftTo gX0_leastLoad_X0_readingsLeftTo wD_11 rfl ⟨Nat.le_of_ble_eq_true rfl, Nat.le_of_ble_eq_true rfl⟩ rfl rfl (Nat.le_of_ble_eq_true rfl) dX0_leastLoad_90 rfl hf (fun v14 hf => ?_)
        refine G_iload (pc' := 95) C dX0_leastLoad_93 5 rfl rfl ?_
        refine G_iadd (pc' := 96) C dX0_leastLoad_95 rfl ?_
        refine G_iconst (v := (1 : Int32)) (pc' := 97) C dX0_leastLoad_96 (by decide) rfl ?_
        refine G_isub (pc' := 98) C dX0_leastLoad_97 rfl ?_
        refine G_iload (pc' := 100) C dX0_leastLoad_98 5 rfl rfl ?_
        refine G_idiv (pc' := 101) C dX0_leastLoad_100 rfl hf (fun hf => ?_)
        refine G_mmax (pc' := 104) C lk_X0_leastLoad_56l lk_X0_leastLoad_56s lk_X0_leastLoad_56i lk_X0_leastLoad_56c (by decide) (Nat.le_of_ble_eq_true rfl) dX0_leastLoad_101 rfl hf (fun v15 hf => ?_)
        refine G_istore (lv' := [(0, .ref (za ω 11)), (2, .int b2), (3, .int b3), (4, .int v15), (5, .int y5)]) (pc' := 106) C dX0_leastLoad_104 (by decide) [1, 2, 3, 0, 4] rfl rfl ?_
        refine G_iincL (v := y5 + (1 : Int32)) (pc' := 109) C dX0_leastLoad_106 4 rfl rfl (by decide) [1, 2, 3, 4, 0] (fun x16 => [(0, .ref (za ω 11)), (2, .int b2), (3, .int b3), (4, .int v15), (5, .int x16)]) (fun _ => rfl) rfl hf (fun x16 hf => ?_)
        refine G_goto (pc' := 63) C dX0_leastLoad_109 (by decide) ?_
        exact ih v15 x16 hf
set_option maxHeartbeats 4000000 in
set_option maxRecDepth 100000 in
theorem c_X0_leastLoad (ω : ZO) (N : Nat) (σ : ZS) (a1 : Int32) (a2 : Int32) : ZIs ω wD yX0_leastLoad wsX0_leastLoad rm_X0_leastLoad [.ref (za ω 11), .int a1, .int a2] σ (f_X0_leastLoad N σ a1 a2) := by
  intro r0 hf
  refine ZI.go (cc := cX0_leastLoad) (maxL := 7) (ret := (some .int)) (own := RX0) (lv := [(0, .ref (za ω 11)), (1, .int a1), (2, .int a2)]) (by decide) rfl rfl (Nat.le_of_ble_eq_true rfl) rfl (fun κ C hR => ?_)
  unfold f_X0_leastLoad at hf
  refine G_iconst (v := (0 : Int32)) (pc' := 1) C dX0_leastLoad_0 (by decide) rfl ?_
  refine G_istore_n (lv' := [(0, .ref (za ω 11)), (1, .int a1), (2, .int a2), (3, .int (0 : Int32))]) (pc' := 2) C dX0_leastLoad_1 (by decide) [1, 2, 3, 0] rfl rfl ?_
  refine G_iconst (v := (0 : Int32)) (pc' := 3) C dX0_leastLoad_2 (by decide) rfl ?_
  refine G_istore (lv' := [(0, .ref (za ω 11)), (1, .int a1), (2, .int a2), (3, .int (0 : Int32)), (4, .int (0 : Int32))]) (pc' := 5) C dX0_leastLoad_3 (by decide) [1, 2, 3, 4, 0] rfl rfl ?_
  refine w_X0_leastLoad_5 C hR (fun y9 y10 s11 hf => ?_) N (0 : Int32) (0 : Int32) σ hf
  refine G_iconst (v := (0 : Int32)) (pc' := 58) C dX0_leastLoad_57 (by decide) rfl ?_
  refine G_istore (lv' := [(0, .ref (za ω 11)), (2, .int a2), (3, .int y9), (4, .int (0 : Int32))]) (pc' := 60) C dX0_leastLoad_58 (by decide) [1, 2, 3, 0] rfl rfl ?_
  refine G_iconst (v := (1 : Int32)) (pc' := 61) C dX0_leastLoad_60 (by decide) rfl ?_
  refine G_istore (lv' := [(0, .ref (za ω 11)), (2, .int a2), (3, .int y9), (4, .int (0 : Int32)), (5, .int (1 : Int32))]) (pc' := 63) C dX0_leastLoad_61 (by decide) [1, 2, 3, 4, 0] rfl rfl ?_
  refine w_X0_leastLoad_63 C hR (fun y17 y18 hf => ?_) N (0 : Int32) (1 : Int32) hf
  refine G_iload (pc' := 114) C dX0_leastLoad_112 1 rfl rfl ?_
  exact G_iret C hR dX0_leastLoad_114 (Option.some.inj hf)
theorem iu_X7_load_X7 : ∀ w ∈ wsX70, w ∈ wsX7_load := by decide +kernel
theorem lk_X7_load_19 : Cond.fieldLink RX7 19 "PrizeDesk" "ruleBook" "LPrizeDesk$Rules;" ∈ wsX7_load := by decide +kernel
theorem lk_X7_load_26 : Cond.fieldLink RX7 26 "PrizeDesk" "shelf" "LPrizeDesk$Shelf;" ∈ wsX7_load := by decide +kernel
theorem lk_X7_load_33 : Cond.fieldLink RX7 33 "PrizeDesk" "panel" "LPrizeDesk$Panel;" ∈ wsX7_load := by decide +kernel
abbrev rm_X7_load : Room := { frames := 4, cells := 0, slots := 0, locals := 92 }
theorem sg_X7_load : ZG yX7_load wsX7_load cX7_load 1 (some .int) RX7 0 rm_X7_load := ⟨⟨_, rfl⟩, by decide +kernel, rfl, rfl⟩
set_option maxHeartbeats 4000000 in
set_option maxRecDepth 100000 in
theorem c_X7_load (ω : ZO) (N : Nat) (σ : ZS) : ZIs ω wD yX7_load wsX7_load rm_X7_load [.ref (za ω 0)] σ (f_X7_load N σ) := by
  intro r0 hf
  refine ZI.go (cc := cX7_load) (maxL := 1) (ret := (some .int)) (own := RX7) (lv := [(0, .ref (za ω 0))]) (by decide) rfl rfl (Nat.le_of_ble_eq_true rfl) rfl (fun κ C hR => ?_)
  unfold f_X7_load at hf
  refine G_aload_n (pc' := 1) C dX7_load_0 0 rfl rfl ?_
  refine G_get (pc' := 4) C wD_0 rfl 3 (by decide) rfl iu_X7_load_X7 lk_X7_load_33 dX7_load_1 rfl ?_
  refine G_aload_n (pc' := 5) C dX7_load_4 0 rfl rfl ?_
  refine G_get (pc' := 8) C wD_0 rfl 2 (by decide) rfl iu_X7_load_X7 lk_X7_load_26 dX7_load_5 rfl ?_
  refine G_aload_n (pc' := 9) C dX7_load_8 0 rfl rfl ?_
  refine G_get (pc' := 12) C wD_0 rfl 1 (by decide) rfl iu_X7_load_X7 lk_X7_load_19 dX7_load_9 rfl ?_
  refine G_callVt (pc' := 15) C [.ref (za ω 3)] (c_X4_admitted ω N σ) sg_X4_admitted gX7_load_X4_admitted wD_6 rfl ⟨Nat.le_of_ble_eq_true rfl, Nat.le_of_ble_eq_true rfl⟩ rfl rfl (Nat.le_of_ble_eq_true rfl) dX7_load_12 rfl hf (fun v2 s1 hf => ?_)
  refine G_aload_n (pc' := 16) C dX7_load_15 0 rfl rfl ?_
  refine G_get (pc' := 19) C wD_0 rfl 1 (by decide) rfl iu_X7_load_X7 lk_X7_load_19 dX7_load_16 rfl ?_
  refine G_iconst (v := (5 : Int32)) (pc' := 20) C dX7_load_19 (by decide) rfl ?_
  refine G_callVp (pc' := 23) C [.int (5 : Int32)] (c_X3_number ω N s1 (5 : Int32)) sg_X3_number gX7_load_X3_number wD_3 rfl ⟨Nat.le_of_ble_eq_true rfl, Nat.le_of_ble_eq_true rfl⟩ rfl rfl (Nat.le_of_ble_eq_true rfl) dX7_load_20 rfl hf (fun v3 hf => ?_)
  refine G_callVt (pc' := 26) C [.int v2, .int v3] (c_X0_leastLoad ω N s1 v2 v3) sg_X0_leastLoad gX7_load_X0_leastLoad wD_11 rfl ⟨Nat.le_of_ble_eq_true rfl, Nat.le_of_ble_eq_true rfl⟩ rfl rfl (Nat.le_of_ble_eq_true rfl) dX7_load_23 rfl hf (fun v5 s4 hf => ?_)
  exact G_iret C hR dX7_load_26 (Option.some.inj hf)
theorem lk_X0_setMark_30n : Cond.methodLinkNest RX0 30 yX7_isJudge RX7 ∈ zNws := by decide +kernel
theorem lk_X0_setMark_30s : Cond.static yX7_isJudge ∈ wsX0_setMark := by decide +kernel
theorem lk_X0_setMark_30i : Cond.initialized yX7_isJudge.cls ∈ wsX0_setMark := by decide +kernel
theorem lk_X0_setMark_46n : Cond.methodLinkNest RX0 46 yX7_isBookNumber RX7 ∈ zNws := by decide +kernel
theorem lk_X0_setMark_46s : Cond.static yX7_isBookNumber ∈ wsX0_setMark := by decide +kernel
theorem lk_X0_setMark_46i : Cond.initialized yX7_isBookNumber.cls ∈ wsX0_setMark := by decide +kernel
theorem lk_X0_setMark_38n : Cond.methodLinkNest RX0 38 yX7_bit RX7 ∈ zNws := by decide +kernel
theorem lk_X0_setMark_38s : Cond.static yX7_bit ∈ wsX0_setMark := by decide +kernel
theorem lk_X0_setMark_38i : Cond.initialized yX7_bit.cls ∈ wsX0_setMark := by decide +kernel
theorem iu_X0_setMark_X0 : ∀ w ∈ wsX00, w ∈ wsX0_setMark := by decide +kernel
theorem lk_X0_setMark_21 : Cond.fieldLink RX0 21 "PrizeDesk$Panel" "markedBooks" "[I" ∈ wsX0_setMark := by decide +kernel
theorem lk_X0_setMark_24 : Cond.fieldLink RX0 24 "PrizeDesk$Panel" "marks" "[I" ∈ wsX0_setMark := by decide +kernel
abbrev rm_X0_setMark : Room := { frames := 1, cells := 0, slots := 0, locals := 20 }
theorem sg_X0_setMark : ZG yX0_setMark wsX0_setMark cX0_setMark 4 none RX0 3 rm_X0_setMark := ⟨⟨_, rfl⟩, by decide +kernel, rfl, rfl⟩
set_option maxHeartbeats 4000000 in
set_option maxRecDepth 100000 in
theorem c_X0_setMark (ω : ZO) (N : Nat) (σ : ZS) (a1 : Int32) (a2 : Int32) (a3 : Int32) : ZVs ω wD yX0_setMark wsX0_setMark rm_X0_setMark [.ref (za ω 11), .int a1, .int a2, .int a3] σ (f_X0_setMark N σ a1 a2 a3) := by
  intro r0 hf
  refine ZV.go (cc := cX0_setMark) (maxL := 4) (ret := none) (own := RX0) (lv := [(0, .ref (za ω 11)), (1, .int a1), (2, .int a2), (3, .int a3)]) (by decide) rfl rfl (Nat.le_of_ble_eq_true rfl) rfl (fun κ C hR => ?_)
  unfold f_X0_setMark at hf
  refine G_iload_n (pc' := 1) C dX0_setMark_0 1 rfl rfl ?_
  refine G_callNp (pc' := 4) C [.int a1] (c_X7_isJudge ω N σ a1) sg_X7_isJudge gX0_setMark_X7_isJudge_n30 lk_X0_setMark_30n lk_X0_setMark_30s lk_X0_setMark_30i ⟨Nat.le_of_ble_eq_true rfl, Nat.le_of_ble_eq_true rfl⟩ rfl rfl (Nat.le_of_ble_eq_true rfl) dX0_setMark_1 rfl hf (fun v1 hf => ?_)
  refine G_if_eq (tgt := 39) (pc' := 7) C dX0_setMark_4 (by decide) rfl hf (fun hf => ?_) (fun hf => ?_)
  · exact G_vret C hR dX0_setMark_39 (Option.some.inj hf)
  · refine G_iload_n (pc' := 8) C dX0_setMark_7 2 rfl rfl ?_
    refine G_callNp (pc' := 11) C [.int a2] (c_X7_isBookNumber ω N σ a2) sg_X7_isBookNumber gX0_setMark_X7_isBookNumber_n46 lk_X0_setMark_46n lk_X0_setMark_46s lk_X0_setMark_46i ⟨Nat.le_of_ble_eq_true rfl, Nat.le_of_ble_eq_true rfl⟩ rfl rfl (Nat.le_of_ble_eq_true rfl) dX0_setMark_8 rfl hf (fun v2 hf => ?_)
    refine G_if_eq (tgt := 39) (pc' := 14) C dX0_setMark_11 (by decide) rfl hf (fun hf => ?_) (fun hf => ?_)
    · exact G_vret C hR dX0_setMark_39 (Option.some.inj hf)
    · refine G_aload_n (pc' := 15) C dX0_setMark_14 0 rfl rfl ?_
      refine G_get (pc' := 18) C wD_11 rfl 4 (by decide) rfl iu_X0_setMark_X0 lk_X0_setMark_24 dX0_setMark_15 rfl ?_
      refine G_iload_n (pc' := 19) C dX0_setMark_18 1 rfl rfl ?_
      refine G_bipush (v := (24 : Int32)) (pc' := 21) C dX0_setMark_19 (by decide) rfl ?_
      refine G_imul (pc' := 22) C dX0_setMark_21 rfl ?_
      refine G_iload_n (pc' := 23) C dX0_setMark_22 2 rfl rfl ?_
      refine G_iadd (pc' := 24) C dX0_setMark_23 rfl ?_
      refine G_iload_n (pc' := 25) C dX0_setMark_24 3 rfl rfl ?_
      refine G_iast (pc' := 26) C wD_16 wD_s16 dX0_setMark_25 rfl hf (fun s3 hf => ?_)
      refine G_aload_n (pc' := 27) C dX0_setMark_26 0 rfl rfl ?_
      refine G_get (pc' := 30) C wD_11 rfl 3 (by decide) rfl iu_X0_setMark_X0 lk_X0_setMark_21 dX0_setMark_27 rfl ?_
      refine G_iload_n (pc' := 31) C dX0_setMark_30 1 rfl rfl ?_
      refine G_dup2 (pc' := 32) C dX0_setMark_31 rfl rfl rfl ?_
      refine G_iald (pc' := 33) C wD_15 dX0_setMark_32 rfl hf (fun v4 hf => ?_)
      refine G_iload_n (pc' := 34) C dX0_setMark_33 2 rfl rfl ?_
      refine G_callNp (pc' := 37) C [.int a2] (c_X7_bit ω N s3 a2) sg_X7_bit gX0_setMark_X7_bit_n38 lk_X0_setMark_38n lk_X0_setMark_38s lk_X0_setMark_38i ⟨Nat.le_of_ble_eq_true rfl, Nat.le_of_ble_eq_true rfl⟩ rfl rfl (Nat.le_of_ble_eq_true rfl) dX0_setMark_34 rfl hf (fun v5 hf => ?_)
      refine G_ior (pc' := 38) C dX0_setMark_37 rfl ?_
      refine G_iast (pc' := 39) C wD_15 wD_s15 dX0_setMark_38 rfl hf (fun s6 hf => ?_)
      exact G_vret C hR dX0_setMark_39 (Option.some.inj hf)
theorem iu_X7_mark_X7 : ∀ w ∈ wsX70, w ∈ wsX7_mark := by decide +kernel
theorem lk_X7_mark_33 : Cond.fieldLink RX7 33 "PrizeDesk" "panel" "LPrizeDesk$Panel;" ∈ wsX7_mark := by decide +kernel
theorem lk_X7_mark_26 : Cond.fieldLink RX7 26 "PrizeDesk" "shelf" "LPrizeDesk$Shelf;" ∈ wsX7_mark := by decide +kernel
abbrev rm_X7_mark : Room := { frames := 2, cells := 0, slots := 0, locals := 43 }
theorem sg_X7_mark : ZG yX7_mark wsX7_mark cX7_mark 4 (some .boolean) RX7 3 rm_X7_mark := ⟨⟨_, rfl⟩, by decide +kernel, rfl, rfl⟩
set_option maxHeartbeats 4000000 in
set_option maxRecDepth 100000 in
theorem c_X7_mark (ω : ZO) (N : Nat) (σ : ZS) (a1 : Int32) (a2 : Int32) (a3 : Int32) : ZIs ω wD yX7_mark wsX7_mark rm_X7_mark [.ref (za ω 0), .int a1, .int a2, .int a3] σ (f_X7_mark N σ a1 a2 a3) := by
  intro r0 hf
  refine ZI.go (cc := cX7_mark) (maxL := 4) (ret := (some .boolean)) (own := RX7) (lv := [(0, .ref (za ω 0)), (1, .int a1), (2, .int a2), (3, .int a3)]) (by decide) rfl rfl (Nat.le_of_ble_eq_true rfl) rfl (fun κ C hR => ?_)
  unfold f_X7_mark at hf
  refine G_iload_n (pc' := 1) C dX7_mark_0 1 rfl rfl ?_
  refine G_callSp (pc' := 4) C [.int a1] (c_X7_isJudge ω N σ a1) sg_X7_isJudge gX7_mark_X7_isJudge ⟨Nat.le_of_ble_eq_true rfl, Nat.le_of_ble_eq_true rfl⟩ rfl rfl (Nat.le_of_ble_eq_true rfl) dX7_mark_1 rfl hf (fun v1 hf => ?_)
  refine G_if_eq (tgt := 40) (pc' := 7) C dX7_mark_4 (by decide) rfl hf (fun hf => ?_) (fun hf => ?_)
  · refine G_iconst (v := (0 : Int32)) (pc' := 41) C dX7_mark_40 (by decide) rfl ?_
    exact G_zret C hR dX7_mark_41 (by decide) (Option.some.inj hf)
  · refine G_aload_n (pc' := 8) C dX7_mark_7 0 rfl rfl ?_
    refine G_get (pc' := 11) C wD_0 rfl 2 (by decide) rfl iu_X7_mark_X7 lk_X7_mark_26 dX7_mark_8 rfl ?_
    refine G_iload_n (pc' := 12) C dX7_mark_11 2 rfl rfl ?_
    refine G_callVp (pc' := 15) C [.int a2] (c_X4_has ω N σ a2) sg_X4_has gX7_mark_X4_has wD_6 rfl ⟨Nat.le_of_ble_eq_true rfl, Nat.le_of_ble_eq_true rfl⟩ rfl rfl (Nat.le_of_ble_eq_true rfl) dX7_mark_12 rfl hf (fun v2 hf => ?_)
    refine G_if_eq (tgt := 40) (pc' := 18) C dX7_mark_15 (by decide) rfl hf (fun hf => ?_) (fun hf => ?_)
    · refine G_iconst (v := (0 : Int32)) (pc' := 41) C dX7_mark_40 (by decide) rfl ?_
      exact G_zret C hR dX7_mark_41 (by decide) (Option.some.inj hf)
    · refine G_iload_n (pc' := 19) C dX7_mark_18 3 rfl rfl ?_
      refine G_iconst (v := (0 : Int32)) (pc' := 20) C dX7_mark_19 (by decide) rfl ?_
      refine G_bipush (v := (100 : Int32)) (pc' := 22) C dX7_mark_20 (by decide) rfl ?_
      refine G_callSp (pc' := 25) C [.int a3, .int (0 : Int32), .int (100 : Int32)] (c_X7_isWithin ω N σ a3 (0 : Int32) (100 : Int32)) sg_X7_isWithin gX7_mark_X7_isWithin ⟨Nat.le_of_ble_eq_true rfl, Nat.le_of_ble_eq_true rfl⟩ rfl rfl (Nat.le_of_ble_eq_true rfl) dX7_mark_22 rfl hf (fun v3 hf => ?_)
      refine G_if_eq (tgt := 40) (pc' := 28) C dX7_mark_25 (by decide) rfl hf (fun hf => ?_) (fun hf => ?_)
      · refine G_iconst (v := (0 : Int32)) (pc' := 41) C dX7_mark_40 (by decide) rfl ?_
        exact G_zret C hR dX7_mark_41 (by decide) (Option.some.inj hf)
      · refine G_aload_n (pc' := 29) C dX7_mark_28 0 rfl rfl ?_
        refine G_get (pc' := 32) C wD_0 rfl 3 (by decide) rfl iu_X7_mark_X7 lk_X7_mark_33 dX7_mark_29 rfl ?_
        refine G_iload_n (pc' := 33) C dX7_mark_32 1 rfl rfl ?_
        refine G_iload_n (pc' := 34) C dX7_mark_33 2 rfl rfl ?_
        refine G_callVp (pc' := 37) C [.int a1, .int a2] (c_X0_isBarred ω N σ a1 a2) sg_X0_isBarred gX7_mark_X0_isBarred wD_11 rfl ⟨Nat.le_of_ble_eq_true rfl, Nat.le_of_ble_eq_true rfl⟩ rfl rfl (Nat.le_of_ble_eq_true rfl) dX7_mark_34 rfl hf (fun v4 hf => ?_)
        refine G_if_eq (tgt := 42) (pc' := 40) C dX7_mark_37 (by decide) rfl hf (fun hf => ?_) (fun hf => ?_)
        · refine G_aload_n (pc' := 43) C dX7_mark_42 0 rfl rfl ?_
          refine G_get (pc' := 46) C wD_0 rfl 3 (by decide) rfl iu_X7_mark_X7 lk_X7_mark_33 dX7_mark_43 rfl ?_
          refine G_iload_n (pc' := 47) C dX7_mark_46 1 rfl rfl ?_
          refine G_iload_n (pc' := 48) C dX7_mark_47 2 rfl rfl ?_
          refine G_iload_n (pc' := 49) C dX7_mark_48 3 rfl rfl ?_
          refine G_callVv (pc' := 52) C [.int a1, .int a2, .int a3] (c_X0_setMark ω N σ a1 a2 a3) sg_X0_setMark gX7_mark_X0_setMark wD_11 rfl ⟨Nat.le_of_ble_eq_true rfl, Nat.le_of_ble_eq_true rfl⟩ rfl rfl (Nat.le_of_ble_eq_true rfl) dX7_mark_49 rfl hf (fun s5 hf => ?_)
          refine G_iconst (v := (1 : Int32)) (pc' := 53) C dX7_mark_52 (by decide) rfl ?_
          exact G_zret C hR dX7_mark_53 (by decide) (Option.some.inj hf)
        · refine G_iconst (v := (0 : Int32)) (pc' := 41) C dX7_mark_40 (by decide) rfl ?_
          exact G_zret C hR dX7_mark_41 (by decide) (Option.some.inj hf)
theorem lk_X0_sharedBooks_30n : Cond.methodLinkNest RX0 30 yX7_isJudge RX7 ∈ zNws := by decide +kernel
theorem lk_X0_sharedBooks_30s : Cond.static yX7_isJudge ∈ wsX0_sharedBooks := by decide +kernel
theorem lk_X0_sharedBooks_30i : Cond.initialized yX7_isJudge.cls ∈ wsX0_sharedBooks := by decide +kernel
theorem iu_X0_sharedBooks_X0 : ∀ w ∈ wsX00, w ∈ wsX0_sharedBooks := by decide +kernel
theorem lk_X0_sharedBooks_21 : Cond.fieldLink RX0 21 "PrizeDesk$Panel" "markedBooks" "[I" ∈ wsX0_sharedBooks := by decide +kernel
abbrev rm_X0_sharedBooks : Room := { frames := 1, cells := 0, slots := 0, locals := 20 }
theorem sg_X0_sharedBooks : ZG yX0_sharedBooks wsX0_sharedBooks cX0_sharedBooks 3 (some .int) RX0 2 rm_X0_sharedBooks := ⟨⟨_, rfl⟩, by decide +kernel, rfl, rfl⟩
set_option maxHeartbeats 4000000 in
set_option maxRecDepth 100000 in
theorem c_X0_sharedBooks (ω : ZO) (N : Nat) (σ : ZS) (a1 : Int32) (a2 : Int32) : ZIp ω wD yX0_sharedBooks wsX0_sharedBooks rm_X0_sharedBooks [.ref (za ω 11), .int a1, .int a2] σ (f_X0_sharedBooks N σ a1 a2) := by
  intro r0 hf
  refine ZI.go (cc := cX0_sharedBooks) (maxL := 3) (ret := (some .int)) (own := RX0) (lv := [(0, .ref (za ω 11)), (1, .int a1), (2, .int a2)]) (by decide) rfl rfl (Nat.le_of_ble_eq_true rfl) rfl (fun κ C hR => ?_)
  unfold f_X0_sharedBooks at hf
  refine G_iload_n (pc' := 1) C dX0_sharedBooks_0 1 rfl rfl ?_
  refine G_callNp (pc' := 4) C [.int a1] (c_X7_isJudge ω N σ a1) sg_X7_isJudge gX0_sharedBooks_X7_isJudge_n30 lk_X0_sharedBooks_30n lk_X0_sharedBooks_30s lk_X0_sharedBooks_30i ⟨Nat.le_of_ble_eq_true rfl, Nat.le_of_ble_eq_true rfl⟩ rfl rfl (Nat.le_of_ble_eq_true rfl) dX0_sharedBooks_1 rfl hf (fun v1 hf => ?_)
  refine G_if_eq (tgt := 30) (pc' := 7) C dX0_sharedBooks_4 (by decide) rfl hf (fun hf => ?_) (fun hf => ?_)
  · refine G_iconst (v := (0 : Int32)) (pc' := 31) C dX0_sharedBooks_30 (by decide) rfl ?_
    exact G_iret C hR dX0_sharedBooks_31 ⟨Option.some.inj hf, rfl⟩
  · refine G_iload_n (pc' := 8) C dX0_sharedBooks_7 2 rfl rfl ?_
    refine G_callNp (pc' := 11) C [.int a2] (c_X7_isJudge ω N σ a2) sg_X7_isJudge gX0_sharedBooks_X7_isJudge_n30 lk_X0_sharedBooks_30n lk_X0_sharedBooks_30s lk_X0_sharedBooks_30i ⟨Nat.le_of_ble_eq_true rfl, Nat.le_of_ble_eq_true rfl⟩ rfl rfl (Nat.le_of_ble_eq_true rfl) dX0_sharedBooks_8 rfl hf (fun v2 hf => ?_)
    refine G_if_eq (tgt := 30) (pc' := 14) C dX0_sharedBooks_11 (by decide) rfl hf (fun hf => ?_) (fun hf => ?_)
    · refine G_iconst (v := (0 : Int32)) (pc' := 31) C dX0_sharedBooks_30 (by decide) rfl ?_
      exact G_iret C hR dX0_sharedBooks_31 ⟨Option.some.inj hf, rfl⟩
    · refine G_aload_n (pc' := 15) C dX0_sharedBooks_14 0 rfl rfl ?_
      refine G_get (pc' := 18) C wD_11 rfl 3 (by decide) rfl iu_X0_sharedBooks_X0 lk_X0_sharedBooks_21 dX0_sharedBooks_15 rfl ?_
      refine G_iload_n (pc' := 19) C dX0_sharedBooks_18 1 rfl rfl ?_
      refine G_iald (pc' := 20) C wD_15 dX0_sharedBooks_19 rfl hf (fun v3 hf => ?_)
      refine G_aload_n (pc' := 21) C dX0_sharedBooks_20 0 rfl rfl ?_
      refine G_get (pc' := 24) C wD_11 rfl 3 (by decide) rfl iu_X0_sharedBooks_X0 lk_X0_sharedBooks_21 dX0_sharedBooks_21 rfl ?_
      refine G_iload_n (pc' := 25) C dX0_sharedBooks_24 2 rfl rfl ?_
      refine G_iald (pc' := 26) C wD_15 dX0_sharedBooks_25 rfl hf (fun v4 hf => ?_)
      refine G_iand (pc' := 27) C dX0_sharedBooks_26 rfl ?_
      refine G_goto (pc' := 31) C dX0_sharedBooks_27 (by decide) ?_
      exact G_iret C hR dX0_sharedBooks_31 ⟨Option.some.inj hf, rfl⟩
theorem lk_X0_hasMark_30n : Cond.methodLinkNest RX0 30 yX7_isJudge RX7 ∈ zNws := by decide +kernel
theorem lk_X0_hasMark_30s : Cond.static yX7_isJudge ∈ wsX0_hasMark := by decide +kernel
theorem lk_X0_hasMark_30i : Cond.initialized yX7_isJudge.cls ∈ wsX0_hasMark := by decide +kernel
theorem lk_X0_hasMark_46n : Cond.methodLinkNest RX0 46 yX7_isBookNumber RX7 ∈ zNws := by decide +kernel
theorem lk_X0_hasMark_46s : Cond.static yX7_isBookNumber ∈ wsX0_hasMark := by decide +kernel
theorem lk_X0_hasMark_46i : Cond.initialized yX7_isBookNumber.cls ∈ wsX0_hasMark := by decide +kernel
theorem lk_X0_hasMark_34n : Cond.methodLinkNest RX0 34 yX7_contains RX7 ∈ zNws := by decide +kernel
theorem lk_X0_hasMark_34s : Cond.static yX7_contains ∈ wsX0_hasMark := by decide +kernel
theorem lk_X0_hasMark_34i : Cond.initialized yX7_contains.cls ∈ wsX0_hasMark := by decide +kernel
theorem iu_X0_hasMark_X0 : ∀ w ∈ wsX00, w ∈ wsX0_hasMark := by decide +kernel
theorem lk_X0_hasMark_21 : Cond.fieldLink RX0 21 "PrizeDesk$Panel" "markedBooks" "[I" ∈ wsX0_hasMark := by decide +kernel
abbrev rm_X0_hasMark : Room := { frames := 1, cells := 0, slots := 0, locals := 21 }
theorem sg_X0_hasMark : ZG yX0_hasMark wsX0_hasMark cX0_hasMark 3 (some .boolean) RX0 2 rm_X0_hasMark := ⟨⟨_, rfl⟩, by decide +kernel, rfl, rfl⟩
set_option maxHeartbeats 4000000 in
set_option maxRecDepth 100000 in
theorem c_X0_hasMark (ω : ZO) (N : Nat) (σ : ZS) (a1 : Int32) (a2 : Int32) : ZIp ω wD yX0_hasMark wsX0_hasMark rm_X0_hasMark [.ref (za ω 11), .int a1, .int a2] σ (f_X0_hasMark N σ a1 a2) := by
  intro r0 hf
  refine ZI.go (cc := cX0_hasMark) (maxL := 3) (ret := (some .boolean)) (own := RX0) (lv := [(0, .ref (za ω 11)), (1, .int a1), (2, .int a2)]) (by decide) rfl rfl (Nat.le_of_ble_eq_true rfl) rfl (fun κ C hR => ?_)
  unfold f_X0_hasMark at hf
  refine G_iload_n (pc' := 1) C dX0_hasMark_0 1 rfl rfl ?_
  refine G_callNp (pc' := 4) C [.int a1] (c_X7_isJudge ω N σ a1) sg_X7_isJudge gX0_hasMark_X7_isJudge_n30 lk_X0_hasMark_30n lk_X0_hasMark_30s lk_X0_hasMark_30i ⟨Nat.le_of_ble_eq_true rfl, Nat.le_of_ble_eq_true rfl⟩ rfl rfl (Nat.le_of_ble_eq_true rfl) dX0_hasMark_1 rfl hf (fun v1 hf => ?_)
  refine G_if_eq (tgt := 31) (pc' := 7) C dX0_hasMark_4 (by decide) rfl hf (fun hf => ?_) (fun hf => ?_)
  · refine G_iconst (v := (0 : Int32)) (pc' := 32) C dX0_hasMark_31 (by decide) rfl ?_
    exact G_zret C hR dX0_hasMark_32 (by decide) ⟨Option.some.inj hf, rfl⟩
  · refine G_iload_n (pc' := 8) C dX0_hasMark_7 2 rfl rfl ?_
    refine G_callNp (pc' := 11) C [.int a2] (c_X7_isBookNumber ω N σ a2) sg_X7_isBookNumber gX0_hasMark_X7_isBookNumber_n46 lk_X0_hasMark_46n lk_X0_hasMark_46s lk_X0_hasMark_46i ⟨Nat.le_of_ble_eq_true rfl, Nat.le_of_ble_eq_true rfl⟩ rfl rfl (Nat.le_of_ble_eq_true rfl) dX0_hasMark_8 rfl hf (fun v2 hf => ?_)
    refine G_if_eq (tgt := 31) (pc' := 14) C dX0_hasMark_11 (by decide) rfl hf (fun hf => ?_) (fun hf => ?_)
    · refine G_iconst (v := (0 : Int32)) (pc' := 32) C dX0_hasMark_31 (by decide) rfl ?_
      exact G_zret C hR dX0_hasMark_32 (by decide) ⟨Option.some.inj hf, rfl⟩
    · refine G_aload_n (pc' := 15) C dX0_hasMark_14 0 rfl rfl ?_
      refine G_get (pc' := 18) C wD_11 rfl 3 (by decide) rfl iu_X0_hasMark_X0 lk_X0_hasMark_21 dX0_hasMark_15 rfl ?_
      refine G_iload_n (pc' := 19) C dX0_hasMark_18 1 rfl rfl ?_
      refine G_iald (pc' := 20) C wD_15 dX0_hasMark_19 rfl hf (fun v3 hf => ?_)
      refine G_iload_n (pc' := 21) C dX0_hasMark_20 2 rfl rfl ?_
      refine G_callNp (pc' := 24) C [.int v3, .int a2] (c_X7_contains ω N σ v3 a2) sg_X7_contains gX0_hasMark_X7_contains_n34 lk_X0_hasMark_34n lk_X0_hasMark_34s lk_X0_hasMark_34i ⟨Nat.le_of_ble_eq_true rfl, Nat.le_of_ble_eq_true rfl⟩ rfl rfl (Nat.le_of_ble_eq_true rfl) dX0_hasMark_21 rfl hf (fun v4 hf => ?_)
      refine G_if_eq (tgt := 31) (pc' := 27) C dX0_hasMark_24 (by decide) rfl hf (fun hf => ?_) (fun hf => ?_)
      · refine G_iconst (v := (0 : Int32)) (pc' := 32) C dX0_hasMark_31 (by decide) rfl ?_
        exact G_zret C hR dX0_hasMark_32 (by decide) ⟨Option.some.inj hf, rfl⟩
      · refine G_iconst (v := (1 : Int32)) (pc' := 28) C dX0_hasMark_27 (by decide) rfl ?_
        refine G_goto (pc' := 32) C dX0_hasMark_28 (by decide) ?_
        exact G_zret C hR dX0_hasMark_32 (by decide) ⟨Option.some.inj hf, rfl⟩
theorem iu_X0_markOf_X0 : ∀ w ∈ wsX00, w ∈ wsX0_markOf := by decide +kernel
theorem lk_X0_markOf_24 : Cond.fieldLink RX0 24 "PrizeDesk$Panel" "marks" "[I" ∈ wsX0_markOf := by decide +kernel
abbrev rm_X0_markOf : Room := { frames := 2, cells := 0, slots := 0, locals := 43 }
theorem sg_X0_markOf : ZG yX0_markOf wsX0_markOf cX0_markOf 3 (some .int) RX0 2 rm_X0_markOf := ⟨⟨_, rfl⟩, by decide +kernel, rfl, rfl⟩
set_option maxHeartbeats 4000000 in
set_option maxRecDepth 100000 in
theorem c_X0_markOf (ω : ZO) (N : Nat) (σ : ZS) (a1 : Int32) (a2 : Int32) : ZIp ω wD yX0_markOf wsX0_markOf rm_X0_markOf [.ref (za ω 11), .int a1, .int a2] σ (f_X0_markOf N σ a1 a2) := by
  intro r0 hf
  refine ZI.go (cc := cX0_markOf) (maxL := 3) (ret := (some .int)) (own := RX0) (lv := [(0, .ref (za ω 11)), (1, .int a1), (2, .int a2)]) (by decide) rfl rfl (Nat.le_of_ble_eq_true rfl) rfl (fun κ C hR => ?_)
  unfold f_X0_markOf at hf
  refine G_aload_n (pc' := 1) C dX0_markOf_0 0 rfl rfl ?_
  refine G_iload_n (pc' := 2) C dX0_markOf_1 1 rfl rfl ?_
  refine G_iload_n (pc' := 3) C dX0_markOf_2 2 rfl rfl ?_
  refine G_callVp (pc' := 6) C [.int a1, .int a2] (c_X0_hasMark ω N σ a1 a2) sg_X0_hasMark gX0_markOf_X0_hasMark wD_11 rfl ⟨Nat.le_of_ble_eq_true rfl, Nat.le_of_ble_eq_true rfl⟩ rfl rfl (Nat.le_of_ble_eq_true rfl) dX0_markOf_3 rfl hf (fun v1 hf => ?_)
  refine G_if_eq (tgt := 23) (pc' := 9) C dX0_markOf_6 (by decide) rfl hf (fun hf => ?_) (fun hf => ?_)
  · refine G_iconst (v := (-1 : Int32)) (pc' := 24) C dX0_markOf_23 (by decide) rfl ?_
    exact G_iret C hR dX0_markOf_24 ⟨Option.some.inj hf, rfl⟩
  · refine G_aload_n (pc' := 10) C dX0_markOf_9 0 rfl rfl ?_
    refine G_get (pc' := 13) C wD_11 rfl 4 (by decide) rfl iu_X0_markOf_X0 lk_X0_markOf_24 dX0_markOf_10 rfl ?_
    refine G_iload_n (pc' := 14) C dX0_markOf_13 1 rfl rfl ?_
    refine G_bipush (v := (24 : Int32)) (pc' := 16) C dX0_markOf_14 (by decide) rfl ?_
    refine G_imul (pc' := 17) C dX0_markOf_16 rfl ?_
    refine G_iload_n (pc' := 18) C dX0_markOf_17 2 rfl rfl ?_
    refine G_iadd (pc' := 19) C dX0_markOf_18 rfl ?_
    refine G_iald (pc' := 20) C wD_16 dX0_markOf_19 rfl hf (fun v2 hf => ?_)
    refine G_goto (pc' := 24) C dX0_markOf_20 (by decide) ?_
    exact G_iret C hR dX0_markOf_24 ⟨Option.some.inj hf, rfl⟩
