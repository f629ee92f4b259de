theorem iu_X7_rankLonglist_X7 : ∀ w ∈ wsX70, w ∈ wsX7_rankLonglist := by decide +kernel
theorem lk_X7_rankLonglist_33 : Cond.fieldLink RX7 33 "PrizeDesk" "panel" "LPrizeDesk$Panel;" ∈ wsX7_rankLonglist := by decide +kernel
theorem lk_X7_rankLonglist_57 : Cond.fieldLink RX7 57 "PrizeDesk" "ranking" "LPrizeDesk$Ranking;" ∈ wsX7_rankLonglist := by decide +kernel
theorem lk_X7_rankLonglist_19 : Cond.fieldLink RX7 19 "PrizeDesk" "ruleBook" "LPrizeDesk$Rules;" ∈ wsX7_rankLonglist := by decide +kernel
theorem lk_X7_rankLonglist_26 : Cond.fieldLink RX7 26 "PrizeDesk" "shelf" "LPrizeDesk$Shelf;" ∈ wsX7_rankLonglist := by decide +kernel
abbrev rm_X7_rankLonglist : Room := { frames := 4, cells := 0, slots := 0, locals := 89 }
theorem sg_X7_rankLonglist : ZG yX7_rankLonglist wsX7_rankLonglist cX7_rankLonglist 5 none RX7 0 rm_X7_rankLonglist := ⟨⟨_, rfl⟩, by decide +kernel, rfl, rfl⟩
set_option maxHeartbeats 4000000 in
set_option maxRecDepth 100000 in
theorem w_X7_rankLonglist_16 {ω : ZO} {κ : ZK} {N : Nat} {b2 : Int32} {K : Int32 → Int32 → ZS → Option (ZS)} {r0 : ZS} (C : CX ω wD κ cX7_rankLonglist wsX7_rankLonglist RX7 none 5 rm_X7_rankLonglist) (hR : zRV ω wD κ (fun τ => τ = r0)) (HK : ∀ (y1 : Int32) (y3 : Int32) (τ : ZS), K y1 y3 τ = some r0 → G ω wD κ 83 [(0, .ref (za ω 0)), (1, .int y1)] [] τ) : ∀ (n : Nat) (y1 : Int32) (y3 : Int32) (τ : ZS), L_X7_rankLonglist_16 N b2 K n y1 y3 τ = some r0 → G ω wD κ 16 [(0, .ref (za ω 0)), (1, .int y1), (2, .int b2), (3, .int y3)] [] τ := by
  intro n
  induction n with
  | zero => intro  y1 y3 τ hf; exact absurd (show none = some r0 from hf) (fun h => nomatch h)
  | succ n ih =>
    intro y1 y3 τ hf
    have hf : B_X7_rankLonglist_16 N b2 K (L_X7_rankLonglist_16 N b2 K n) y1 y3 τ = some r0 := hf
    unfold B_X7_rankLonglist_16 at hf
    refine G_iload_n (pc' := 17) C dX7_rankLonglist_16 3 rfl rfl ?_
    refine G_bipush (v := (24 : Int32)) (pc' := 19) C dX7_rankLonglist_17 (by decide) rfl ?_
    refine G_icmp_ge (tgt := 83) (pc' := 22) C dX7_rankLonglist_19 (by decide) rfl hf (fun hf => ?_) (fun hf => ?_)
    · refine G_sub (lv' := [(0, .ref (za ω 0)), (1, .int y1)]) C [0, 1] rfl ?_
      exact HK y1 y3 τ hf
    · refine G_iload_n (pc' := 23) C dX7_rankLonglist_22 2 rfl rfl ?_
      refine G_iload_n (pc' := 24) C dX7_rankLonglist_23 3 rfl rfl ?_
      refine G_callSp (pc' := 27) C [.int b2, .int y3] (c_X7_contains ω N τ b2 y3) sg_X7_contains gX7_rankLonglist_X7_contains ⟨Nat.le_of_ble_eq_true rfl, Nat.le_of_ble_eq_true rfl⟩ rfl rfl (Nat.le_of_ble_eq_true rfl) dX7_rankLonglist_24 rfl hf (fun v3 hf => ?_)
      refine G_if_eq (tgt := 41) (pc' := 30) C dX7_rankLonglist_27 (by decide) rfl hf (fun hf => ?_) (fun hf => ?_)
      · refine G_iconst (v := (0 : Int32)) (pc' := 42) C dX7_rankLonglist_41 (by decide) rfl ?_
        refine G_istore (lv' := [(0, .ref (za ω 0)), (1, .int y1), (2, .int b2), (3, .int y3), (4, .int (0 : Int32))]) (pc' := 44) C dX7_rankLonglist_42 (by decide) [1, 2, 3, 4, 0] rfl rfl ?_
        refine G_iload (pc' := 46) C dX7_rankLonglist_44 4 rfl rfl ?_
        refine G_if_le (tgt := 77) (pc' := 49) C dX7_rankLonglist_46 (by decide) rfl hf (fun hf => ?_) (fun hf => ?_)
        · refine G_iincL (v := y3 + (1 : Int32)) (pc' := 80) C dX7_rankLonglist_77 3 rfl rfl (by decide) [1, 2, 3, 0] (fun x4 => [(0, .ref (za ω 0)), (1, .int y1), (2, .int b2), (3, .int x4)]) (fun _ => rfl) rfl hf (fun x4 hf => ?_)
          refine G_goto (pc' := 16) C dX7_rankLonglist_80 (by decide) ?_
          exact ih y1 x4 τ hf
        · refine G_iload_n (pc' := 50) C dX7_rankLonglist_49 1 rfl rfl ?_
          refine G_iload_n (pc' := 51) C dX7_rankLonglist_50 3 rfl rfl ?_
          refine G_callSp (pc' := 54) C [.int y3] (c_X7_bit ω N τ y3) sg_X7_bit gX7_rankLonglist_X7_bit ⟨Nat.le_of_ble_eq_true rfl, Nat.le_of_ble_eq_true rfl⟩ rfl rfl (Nat.le_of_ble_eq_true rfl) dX7_rankLonglist_51 rfl hf (fun v5 hf => ?_)
          refine G_ior (pc' := 55) C dX7_rankLonglist_54 rfl ?_
          refine G_nm hf (fun x6 hf => ?_)
          refine G_istore_n (lv' := [(0, .ref (za ω 0)), (1, .int x6), (2, .int b2), (3, .int y3), (4, .int (0 : Int32))]) (pc' := 56) C dX7_rankLonglist_55 (by decide) [1, 0, 2, 3, 4] rfl rfl ?_
          refine G_aload_n (pc' := 57) C dX7_rankLonglist_56 0 rfl rfl ?_
          refine G_get (pc' := 60) C wD_0 rfl 7 (by decide) rfl iu_X7_rankLonglist_X7 lk_X7_rankLonglist_57 dX7_rankLonglist_57 rfl ?_
          refine G_iload_n (pc' := 61) C dX7_rankLonglist_60 3 rfl rfl ?_
          refine G_aload_n (pc' := 62) C dX7_rankLonglist_61 0 rfl rfl ?_
          refine G_get (pc' := 65) C wD_0 rfl 3 (by decide) rfl iu_X7_rankLonglist_X7 lk_X7_rankLonglist_33 dX7_rankLonglist_62 rfl ?_
          refine G_iload_n (pc' := 66) C dX7_rankLonglist_65 3 rfl rfl ?_
          refine G_callVp (pc' := 69) C [.int y3] (c_X0_sumOn ω N τ y3) sg_X0_sumOn gX7_rankLonglist_X0_sumOn wD_11 rfl ⟨Nat.le_of_ble_eq_true rfl, Nat.le_of_ble_eq_true rfl⟩ rfl rfl (Nat.le_of_ble_eq_true rfl) dX7_rankLonglist_66 rfl hf (fun v7 hf => ?_)
          refine G_iload (pc' := 71) C dX7_rankLonglist_69 4 rfl rfl ?_
          refine G_callSp (pc' := 74) C [.int v7, .int (0 : Int32)] (c_X0_standing ω N τ v7 (0 : Int32)) sg_X0_standing gX7_rankLonglist_X0_standing ⟨Nat.le_of_ble_eq_true rfl, Nat.le_of_ble_eq_true rfl⟩ rfl rfl (Nat.le_of_ble_eq_true rfl) dX7_rankLonglist_71 rfl hf (fun v8 hf => ?_)
          refine G_callVv (pc' := 77) C [.int y3, .int v8] (c_X2_setKey ω N τ y3 v8) sg_X2_setKey gX7_rankLonglist_X2_setKey wD_32 rfl ⟨Nat.le_of_ble_eq_true rfl, Nat.le_of_ble_eq_true rfl⟩ rfl rfl (Nat.le_of_ble_eq_true rfl) dX7_rankLonglist_74 rfl hf (fun s9 hf => ?_)
          refine G_iincL (v := y3 + (1 : Int32)) (pc' := 80) C dX7_rankLonglist_77 3 rfl rfl (by decide) [1, 2, 3, 0] (fun x10 => [(0, .ref (za ω 0)), (1, .int x6), (2, .int b2), (3, .int x10)]) (fun _ => rfl) rfl hf (fun x10 hf => ?_)
          refine G_goto (pc' := 16) C dX7_rankLonglist_80 (by decide) ?_
          exact ih x6 x10 s9 hf
      · refine G_aload_n (pc' := 31) C dX7_rankLonglist_30 0 rfl rfl ?_
        refine G_get (pc' := 34) C wD_0 rfl 3 (by decide) rfl iu_X7_rankLonglist_X7 lk_X7_rankLonglist_33 dX7_rankLonglist_31 rfl ?_
        refine G_iload_n (pc' := 35) C dX7_rankLonglist_34 3 rfl rfl ?_
        refine G_callVp (pc' := 38) C [.int y3] (c_X0_marksOn ω N τ y3) sg_X0_marksOn gX7_rankLonglist_X0_marksOn wD_11 rfl ⟨Nat.le_of_ble_eq_true rfl, Nat.le_of_ble_eq_true rfl⟩ rfl rfl (Nat.le_of_ble_eq_true rfl) dX7_rankLonglist_35 rfl hf (fun v11 hf => ?_)
        refine G_goto (pc' := 42) C dX7_rankLonglist_38 (by decide) ?_
        refine G_istore (lv' := [(0, .ref (za ω 0)), (1, .int y1), (2, .int b2), (3, .int y3), (4, .int v11)]) (pc' := 44) C dX7_rankLonglist_42 (by decide) [1, 2, 3, 4, 0] rfl rfl ?_
        refine G_iload (pc' := 46) C dX7_rankLonglist_44 4 rfl rfl ?_
        refine G_if_le (tgt := 77) (pc' := 49) C dX7_rankLonglist_46 (by decide) rfl hf (fun hf => ?_) (fun hf => ?_)
        · refine G_iincL (v := y3 + (1 : Int32)) (pc' := 80) C dX7_rankLonglist_77 3 rfl rfl (by decide) [1, 2, 3, 0] (fun x12 => [(0, .ref (za ω 0)), (1, .int y1), (2, .int b2), (3, .int x12)]) (fun _ => rfl) rfl hf (fun x12 hf => ?_)
          refine G_goto (pc' := 16) C dX7_rankLonglist_80 (by decide) ?_
          exact ih y1 x12 τ hf
        · refine G_iload_n (pc' := 50) C dX7_rankLonglist_49 1 rfl rfl ?_
          refine G_iload_n (pc' := 51) C dX7_rankLonglist_50 3 rfl rfl ?_
          refine G_callSp (pc' := 54) C [.int y3] (c_X7_bit ω N τ y3) sg_X7_bit gX7_rankLonglist_X7_bit ⟨Nat.le_of_ble_eq_true rfl, Nat.le_of_ble_eq_true rfl⟩ rfl rfl (Nat.le_of_ble_eq_true rfl) dX7_rankLonglist_51 rfl hf (fun v13 hf => ?_)
          refine G_ior (pc' := 55) C dX7_rankLonglist_54 rfl ?_
          refine G_nm hf (fun x14 hf => ?_)
          refine G_istore_n (lv' := [(0, .ref (za ω 0)), (1, .int x14), (2, .int b2), (3, .int y3), (4, .int v11)]) (pc' := 56) C dX7_rankLonglist_55 (by decide) [1, 0, 2, 3, 4] rfl rfl ?_
          refine G_aload_n (pc' := 57) C dX7_rankLonglist_56 0 rfl rfl ?_
          refine G_get (pc' := 60) C wD_0 rfl 7 (by decide) rfl iu_X7_rankLonglist_X7 lk_X7_rankLonglist_57 dX7_rankLonglist_57 rfl ?_
          refine G_iload_n (pc' := 61) C dX7_rankLonglist_60 3 rfl rfl ?_
          refine G_aload_n (pc' := 62) C dX7_rankLonglist_61 0 rfl rfl ?_
          refine G_get (pc' := 65) C wD_0 rfl 3 (by decide) rfl iu_X7_rankLonglist_X7 lk_X7_rankLonglist_33 dX7_rankLonglist_62 rfl ?_
          refine G_iload_n (pc' := 66) C dX7_rankLonglist_65 3 rfl rfl ?_
          refine G_callVp (pc' := 69) C [.int y3] (c_X0_sumOn ω N τ y3) sg_X0_sumOn gX7_rankLonglist_X0_sumOn wD_11 rfl ⟨Nat.le_of_ble_eq_true rfl, Nat.le_of_ble_eq_true rfl⟩ rfl rfl (Nat.le_of_ble_eq_true rfl) dX7_rankLonglist_66 rfl hf (fun v15 hf => ?_)
          refine G_iload (pc' := 71) C dX7_rankLonglist_69 4 rfl rfl ?_
          refine G_callSp (pc' := 74) C [.int v15, .int v11] (c_X0_standing ω N τ v15 v11) sg_X0_standing gX7_rankLonglist_X0_standing ⟨Nat.le_of_ble_eq_true rfl, Nat.le_of_ble_eq_true rfl⟩ rfl rfl (Nat.le_of_ble_eq_true rfl) dX7_rankLonglist_71 rfl hf (fun v16 hf => ?_)
          refine G_callVv (pc' := 77) C [.int y3, .int v16] (c_X2_setKey ω N τ y3 v16) sg_X2_setKey gX7_rankLonglist_X2_setKey wD_32 rfl ⟨Nat.le_of_ble_eq_true rfl, Nat.le_of_ble_eq_true rfl⟩ rfl rfl (Nat.le_of_ble_eq_true rfl) dX7_rankLonglist_74 rfl hf (fun s17 hf => ?_)
          refine G_iincL (v := y3 + (1 : Int32)) (pc' := 80) C dX7_rankLonglist_77 3 rfl rfl (by decide) [1, 2, 3, 0] (fun x18 => [(0, .ref (za ω 0)), (1, .int x14), (2, .int b2), (3, .int x18)]) (fun _ => rfl) rfl hf (fun x18 hf => ?_)
          refine G_goto (pc' := 16) C dX7_rankLonglist_80 (by decide) ?_
          exact ih x14 x18 s17 hf
set_option maxHeartbeats 4000000 in
set_option maxRecDepth 100000 in
theorem c_X7_rankLonglist (ω : ZO) (N : Nat) (σ : ZS) : ZVs ω wD yX7_rankLonglist wsX7_rankLonglist rm_X7_rankLonglist [.ref (za ω 0)] σ (f_X7_rankLonglist N σ) := by
  intro r0 hf
  refine ZV.go (cc := cX7_rankLonglist) (maxL := 5) (ret := none) (own := RX7) (lv := [(0, .ref (za ω 0))]) (by decide) rfl rfl (Nat.le_of_ble_eq_true rfl) rfl (fun κ C hR => ?_)
  unfold f_X7_rankLonglist at hf
  refine G_iconst (v := (0 : Int32)) (pc' := 1) C dX7_rankLonglist_0 (by decide) rfl ?_
  refine G_istore_n (lv' := [(0, .ref (za ω 0)), (1, .int (0 : Int32))]) (pc' := 2) C dX7_rankLonglist_1 (by decide) [1, 0] rfl rfl ?_
  refine G_aload_n (pc' := 3) C dX7_rankLonglist_2 0 rfl rfl ?_
  refine G_get (pc' := 6) C wD_0 rfl 2 (by decide) rfl iu_X7_rankLonglist_X7 lk_X7_rankLonglist_26 dX7_rankLonglist_3 rfl ?_
  refine G_aload_n (pc' := 7) C dX7_rankLonglist_6 0 rfl rfl ?_
  refine G_get (pc' := 10) C wD_0 rfl 1 (by decide) rfl iu_X7_rankLonglist_X7 lk_X7_rankLonglist_19 dX7_rankLonglist_7 rfl ?_
  refine G_callVt (pc' := 13) C [.ref (za ω 3)] (c_X4_admitted ω N σ) sg_X4_admitted gX7_rankLonglist_X4_admitted wD_6 rfl ⟨Nat.le_of_ble_eq_true rfl, Nat.le_of_ble_eq_true rfl⟩ rfl rfl (Nat.le_of_ble_eq_true rfl) dX7_rankLonglist_10 rfl hf (fun v2 s1 hf => ?_)
  refine G_istore_n (lv' := [(0, .ref (za ω 0)), (1, .int (0 : Int32)), (2, .int v2)]) (pc' := 14) C dX7_rankLonglist_13 (by decide) [1, 2, 0] rfl rfl ?_
  refine G_iconst (v := (0 : Int32)) (pc' := 15) C dX7_rankLonglist_14 (by decide) rfl ?_
  refine G_istore_n (lv' := [(0, .ref (za ω 0)), (1, .int (0 : Int32)), (2, .int v2), (3, .int (0 : Int32))]) (pc' := 16) C dX7_rankLonglist_15 (by decide) [1, 2, 3, 0] rfl rfl ?_
  refine w_X7_rankLonglist_16 C hR (fun y19 y20 s21 hf => ?_) N (0 : Int32) (0 : Int32) s1 hf
  refine G_aload_n (pc' := 84) C dX7_rankLonglist_83 0 rfl rfl ?_
  refine G_get (pc' := 87) C wD_0 rfl 7 (by decide) rfl iu_X7_rankLonglist_X7 lk_X7_rankLonglist_57 dX7_rankLonglist_84 rfl ?_
  refine G_iload_n (pc' := 88) C dX7_rankLonglist_87 1 rfl rfl ?_
  refine G_aload_n (pc' := 89) C dX7_rankLonglist_88 0 rfl rfl ?_
  refine G_get (pc' := 92) C wD_0 rfl 1 (by decide) rfl iu_X7_rankLonglist_X7 lk_X7_rankLonglist_19 dX7_rankLonglist_89 rfl ?_
  refine G_bipush (v := (7 : Int32)) (pc' := 94) C dX7_rankLonglist_92 (by decide) rfl ?_
  refine G_callVp (pc' := 97) C [.int (7 : Int32)] (c_X3_number ω N s21 (7 : Int32)) sg_X3_number gX7_rankLonglist_X3_number wD_3 rfl ⟨Nat.le_of_ble_eq_true rfl, Nat.le_of_ble_eq_true rfl⟩ rfl rfl (Nat.le_of_ble_eq_true rfl) dX7_rankLonglist_94 rfl hf (fun v22 hf => ?_)
  refine G_callVv (pc' := 100) C [.int y19, .int v22] (c_X2_draw ω N s21 y19 v22) sg_X2_draw gX7_rankLonglist_X2_draw wD_32 rfl ⟨Nat.le_of_ble_eq_true rfl, Nat.le_of_ble_eq_true rfl⟩ rfl rfl (Nat.le_of_ble_eq_true rfl) dX7_rankLonglist_97 rfl hf (fun s23 hf => ?_)
  exact G_vret C hR dX7_rankLonglist_100 (Option.some.inj hf)
theorem lk_X2_bookAt_42n : Cond.methodLinkNest RX2 42 yX7_isWithin RX7 ∈ zNws := by decide +kernel
theorem lk_X2_bookAt_42s : Cond.static yX7_isWithin ∈ wsX2_bookAt := by decide +kernel
theorem lk_X2_bookAt_42i : Cond.initialized yX7_isWithin.cls ∈ wsX2_bookAt := by decide +kernel
theorem iu_X2_bookAt_X2 : ∀ w ∈ wsX20, w ∈ wsX2_bookAt := by decide +kernel
theorem lk_X2_bookAt_15 : Cond.fieldLink RX2 15 "PrizeDesk$Ranking" "order" "[I" ∈ wsX2_bookAt := by decide +kernel
theorem lk_X2_bookAt_18 : Cond.fieldLink RX2 18 "PrizeDesk$Ranking" "size" "I" ∈ wsX2_bookAt := by decide +kernel
abbrev rm_X2_bookAt : Room := { frames := 1, cells := 0, slots := 0, locals := 22 }
theorem sg_X2_bookAt : ZG yX2_bookAt wsX2_bookAt cX2_bookAt 2 (some .int) RX2 1 rm_X2_bookAt := ⟨⟨_, rfl⟩, by decide +kernel, rfl, rfl⟩
set_option maxHeartbeats 4000000 in
set_option maxRecDepth 100000 in
theorem c_X2_bookAt (ω : ZO) (N : Nat) (σ : ZS) (a1 : Int32) : ZIp ω wD yX2_bookAt wsX2_bookAt rm_X2_bookAt [.ref (za ω 32), .int a1] σ (f_X2_bookAt N σ a1) := by
  intro r0 hf
  refine ZI.go (cc := cX2_bookAt) (maxL := 2) (ret := (some .int)) (own := RX2) (lv := [(0, .ref (za ω 32)), (1, .int a1)]) (by decide) rfl rfl (Nat.le_of_ble_eq_true rfl) rfl (fun κ C hR => ?_)
  unfold f_X2_bookAt at hf
  refine G_iload_n (pc' := 1) C dX2_bookAt_0 1 rfl rfl ?_
  refine G_iconst (v := (0 : Int32)) (pc' := 2) C dX2_bookAt_1 (by decide) rfl ?_
  refine G_aload_n (pc' := 3) C dX2_bookAt_2 0 rfl rfl ?_
  refine G_get (pc' := 6) C wD_32 rfl 2 (by decide) rfl iu_X2_bookAt_X2 lk_X2_bookAt_18 dX2_bookAt_3 rfl ?_
  refine G_iconst (v := (1 : Int32)) (pc' := 7) C dX2_bookAt_6 (by decide) rfl ?_
  refine G_isub (pc' := 8) C dX2_bookAt_7 rfl ?_
  refine G_callNp (pc' := 11) C [.int a1, .int (0 : Int32), .int ((σ 32 2) - (1 : Int32))] (c_X7_isWithin ω N σ a1 (0 : Int32) ((σ 32 2) - (1 : Int32))) sg_X7_isWithin gX2_bookAt_X7_isWithin_n42 lk_X2_bookAt_42n lk_X2_bookAt_42s lk_X2_bookAt_42i ⟨Nat.le_of_ble_eq_true rfl, Nat.le_of_ble_eq_true rfl⟩ rfl rfl (Nat.le_of_ble_eq_true rfl) dX2_bookAt_8 rfl hf (fun v1 hf => ?_)
  refine G_if_eq (tgt := 23) (pc' := 14) C dX2_bookAt_11 (by decide) rfl hf (fun hf => ?_) (fun hf => ?_)
  · refine G_iconst (v := (-1 : Int32)) (pc' := 24) C dX2_bookAt_23 (by decide) rfl ?_
    exact G_iret C hR dX2_bookAt_24 ⟨Option.some.inj hf, rfl⟩
  · refine G_aload_n (pc' := 15) C dX2_bookAt_14 0 rfl rfl ?_
    refine G_get (pc' := 18) C wD_32 rfl 1 (by decide) rfl iu_X2_bookAt_X2 lk_X2_bookAt_15 dX2_bookAt_15 rfl ?_
    refine G_iload_n (pc' := 19) C dX2_bookAt_18 1 rfl rfl ?_
    refine G_iald (pc' := 20) C wD_34 dX2_bookAt_19 rfl hf (fun v2 hf => ?_)
    refine G_goto (pc' := 24) C dX2_bookAt_20 (by decide) ?_
    exact G_iret C hR dX2_bookAt_24 ⟨Option.some.inj hf, rfl⟩
theorem lk_X2_asSet_30n : Cond.methodLinkNest RX2 30 yX7_bit RX7 ∈ zNws := by decide +kernel
theorem lk_X2_asSet_30s : Cond.static yX7_bit ∈ wsX2_asSet := by decide +kernel
theorem lk_X2_asSet_30i : Cond.initialized yX7_bit.cls ∈ wsX2_asSet := by decide +kernel
theorem iu_X2_asSet_X2 : ∀ w ∈ wsX20, w ∈ wsX2_asSet := by decide +kernel
theorem lk_X2_asSet_18 : Cond.fieldLink RX2 18 "PrizeDesk$Ranking" "size" "I" ∈ wsX2_asSet := by decide +kernel
abbrev rm_X2_asSet : Room := { frames := 2, cells := 0, slots := 0, locals := 43 }
theorem sg_X2_asSet : ZG yX2_asSet wsX2_asSet cX2_asSet 3 (some .int) RX2 0 rm_X2_asSet := ⟨⟨_, rfl⟩, by decide +kernel, rfl, rfl⟩
set_option maxHeartbeats 4000000 in
set_option maxRecDepth 100000 in
theorem w_X2_asSet_4 {ω : ZO} {κ : ZK} {N : Nat} {σ : ZS} {K : Int32 → Int32 → Option (Int32)} {r0 : Int32} (C : CX ω wD κ cX2_asSet wsX2_asSet RX2 (some .int) 3 rm_X2_asSet) (hR : zRI ω wD κ (fun v τ => v = r0 ∧ τ = σ)) (HK : ∀ (y1 : Int32) (y2 : Int32), K y1 y2 = some r0 → G ω wD κ 29 [(0, .ref (za ω 32)), (1, .int y1)] [] σ) : ∀ (n : Nat) (y1 : Int32) (y2 : Int32), L_X2_asSet_4 N σ K n y1 y2 = some r0 → G ω wD κ 4 [(0, .ref (za ω 32)), (1, .int y1), (2, .int y2)] [] σ := by
  intro n
  induction n with
  | zero => intro  y1 y2 hf; exact absurd (show none = some r0 from hf) (fun h => nomatch h)
  | succ n ih =>
    intro y1 y2 hf
    have hf : B_X2_asSet_4 N σ K (L_X2_asSet_4 N σ K n) y1 y2 = some r0 := hf
    unfold B_X2_asSet_4 at hf
    refine G_iload_n (pc' := 5) C dX2_asSet_4 2 rfl rfl ?_
    refine G_aload_n (pc' := 6) C dX2_asSet_5 0 rfl rfl ?_
    refine G_get (pc' := 9) C wD_32 rfl 2 (by decide) rfl iu_X2_asSet_X2 lk_X2_asSet_18 dX2_asSet_6 rfl ?_
    refine G_icmp_ge (tgt := 29) (pc' := 12) C dX2_asSet_9 (by decide) rfl hf (fun hf => ?_) (fun hf => ?_)
    · refine G_sub (lv' := [(0, .ref (za ω 32)), (1, .int y1)]) C [0, 1] rfl ?_
      exact HK y1 y2 hf
    · refine G_iload_n (pc' := 13) C dX2_asSet_12 1 rfl rfl ?_
      refine G_aload_n (pc' := 14) C dX2_asSet_13 0 rfl rfl ?_
      refine G_iload_n (pc' := 15) C dX2_asSet_14 2 rfl rfl ?_
      refine G_callVp (pc' := 18) C [.int y2] (c_X2_bookAt ω N σ y2) sg_X2_bookAt gX2_asSet_X2_bookAt wD_32 rfl ⟨Nat.le_of_ble_eq_true rfl, Nat.le_of_ble_eq_true rfl⟩ rfl rfl (Nat.le_of_ble_eq_true rfl) dX2_asSet_15 rfl hf (fun v1 hf => ?_)
      refine G_callNp (pc' := 21) C [.int v1] (c_X7_bit ω N σ v1) sg_X7_bit gX2_asSet_X7_bit_n30 lk_X2_asSet_30n lk_X2_asSet_30s lk_X2_asSet_30i ⟨Nat.le_of_ble_eq_true rfl, Nat.le_of_ble_eq_true rfl⟩ rfl rfl (Nat.le_of_ble_eq_true rfl) dX2_asSet_18 rfl hf (fun v2 hf => ?_)
      refine G_ior (pc' := 22) C dX2_asSet_21 rfl ?_
      refine G_nm hf (fun x3 hf => ?_)
      refine G_istore_n (lv' := [(0, .ref (za ω 32)), (1, .int x3), (2, .int y2)]) (pc' := 23) C dX2_asSet_22 (by decide) [1, 0, 2] rfl rfl ?_
      refine G_iincL (v := y2 + (1 : Int32)) (pc' := 26) C dX2_asSet_23 2 rfl rfl (by decide) [1, 2, 0] (fun x4 => [(0, .ref (za ω 32)), (1, .int x3), (2, .int x4)]) (fun _ => rfl) rfl hf (fun x4 hf => ?_)
      refine G_goto (pc' := 4) C dX2_asSet_26 (by decide) ?_
      exact ih x3 x4 hf
set_option maxHeartbeats 4000000 in
set_option maxRecDepth 100000 in
theorem c_X2_asSet (ω : ZO) (N : Nat) (σ : ZS) : ZIp ω wD yX2_asSet wsX2_asSet rm_X2_asSet [.ref (za ω 32)] σ (f_X2_asSet N σ) := by
  intro r0 hf
  refine ZI.go (cc := cX2_asSet) (maxL := 3) (ret := (some .int)) (own := RX2) (lv := [(0, .ref (za ω 32))]) (by decide) rfl rfl (Nat.le_of_ble_eq_true rfl) rfl (fun κ C hR => ?_)
  unfold f_X2_asSet at hf
  refine G_iconst (v := (0 : Int32)) (pc' := 1) C dX2_asSet_0 (by decide) rfl ?_
  refine G_istore_n (lv' := [(0, .ref (za ω 32)), (1, .int (0 : Int32))]) (pc' := 2) C dX2_asSet_1 (by decide) [1, 0] rfl rfl ?_
  refine G_iconst (v := (0 : Int32)) (pc' := 3) C dX2_asSet_2 (by decide) rfl ?_
  refine G_istore_n (lv' := [(0, .ref (za ω 32)), (1, .int (0 : Int32)), (2, .int (0 : Int32))]) (pc' := 4) C dX2_asSet_3 (by decide) [1, 2, 0] rfl rfl ?_
  refine w_X2_asSet_4 C hR (fun y5 y6 hf => ?_) N (0 : Int32) (0 : Int32) hf
  refine G_iload_n (pc' := 30) C dX2_asSet_29 1 rfl rfl ?_
  exact G_iret C hR dX2_asSet_30 ⟨Option.some.inj hf, rfl⟩
theorem iu_X1_isCounting_X1 : ∀ w ∈ wsX10, w ∈ wsX1_isCounting := by decide +kernel
theorem lk_X1_isCounting_18 : Cond.fieldLink RX1 18 "PrizeDesk$Poll" "lastDay" "I" ∈ wsX1_isCounting := by decide +kernel
theorem lk_X1_isCounting_9 : Cond.fieldLink RX1 9 "PrizeDesk$Poll" "days" "[I" ∈ wsX1_isCounting := by decide +kernel
abbrev rm_X1_isCounting_18 : Room := { frames := 0, cells := 0, slots := 0, locals := 0 }
theorem sg_X1_isCounting_18 : ZG yX1_isCounting wsX1_isCounting cX1_isCounting 2 (some .boolean) RX1 1 rm_X1_isCounting_18 := ⟨⟨_, rfl⟩, by decide +kernel, rfl, rfl⟩
set_option maxHeartbeats 4000000 in
set_option maxRecDepth 100000 in
theorem c_X1_isCounting_18 (ω : ZO) (N : Nat) (σ : ZS) (a1 : Int32) : ZIp ω wD yX1_isCounting wsX1_isCounting rm_X1_isCounting_18 [.ref (za ω 18), .int a1] σ (f_X1_isCounting_18 N σ a1) := by
  intro r0 hf
  refine ZI.go (cc := cX1_isCounting) (maxL := 2) (ret := (some .boolean)) (own := RX1) (lv := [(0, .ref (za ω 18)), (1, .int a1)]) (by decide) rfl rfl (Nat.le_of_ble_eq_true rfl) rfl (fun κ C hR => ?_)
  unfold f_X1_isCounting_18 at hf
  refine G_iload_n (pc' := 1) C dX1_isCounting_0 1 rfl rfl ?_
  refine G_if_lt (tgt := 37) (pc' := 4) C dX1_isCounting_1 (by decide) rfl hf (fun hf => ?_) (fun hf => ?_)
  · refine G_iconst (v := (0 : Int32)) (pc' := 38) C dX1_isCounting_37 (by decide) rfl ?_
    exact G_zret C hR dX1_isCounting_38 (by decide) ⟨Option.some.inj hf, rfl⟩
  · refine G_iload_n (pc' := 5) C dX1_isCounting_4 1 rfl rfl ?_
    refine G_bipush (v := (7 : Int32)) (pc' := 7) C dX1_isCounting_5 (by decide) rfl ?_
    refine G_icmp_ge (tgt := 37) (pc' := 10) C dX1_isCounting_7 (by decide) rfl hf (fun hf => ?_) (fun hf => ?_)
    · refine G_iconst (v := (0 : Int32)) (pc' := 38) C dX1_isCounting_37 (by decide) rfl ?_
      exact G_zret C hR dX1_isCounting_38 (by decide) ⟨Option.some.inj hf, rfl⟩
    · refine G_aload_n (pc' := 11) C dX1_isCounting_10 0 rfl rfl ?_
      refine G_get (pc' := 14) C wD_18 rfl 0 (by decide) rfl iu_X1_isCounting_X1 lk_X1_isCounting_9 dX1_isCounting_11 rfl ?_
      refine G_iload_n (pc' := 15) C dX1_isCounting_14 1 rfl rfl ?_
      refine G_iald (pc' := 16) C wD_19 dX1_isCounting_15 rfl hf (fun v1 hf => ?_)
      refine G_iconst (v := (-1 : Int32)) (pc' := 17) C dX1_isCounting_16 (by decide) rfl ?_
      refine G_icmp_eq (tgt := 37) (pc' := 20) C dX1_isCounting_17 (by decide) rfl hf (fun hf => ?_) (fun hf => ?_)
      · refine G_iconst (v := (0 : Int32)) (pc' := 38) C dX1_isCounting_37 (by decide) rfl ?_
        exact G_zret C hR dX1_isCounting_38 (by decide) ⟨Option.some.inj hf, rfl⟩
      · refine G_aload_n (pc' := 21) C dX1_isCounting_20 0 rfl rfl ?_
        refine G_get (pc' := 24) C wD_18 rfl 0 (by decide) rfl iu_X1_isCounting_X1 lk_X1_isCounting_9 dX1_isCounting_21 rfl ?_
        refine G_iload_n (pc' := 25) C dX1_isCounting_24 1 rfl rfl ?_
        refine G_iald (pc' := 26) C wD_19 dX1_isCounting_25 rfl hf (fun v2 hf => ?_)
        refine G_aload_n (pc' := 27) C dX1_isCounting_26 0 rfl rfl ?_
        refine G_get (pc' := 30) C wD_18 rfl 2 (by decide) rfl iu_X1_isCounting_X1 lk_X1_isCounting_18 dX1_isCounting_27 rfl ?_
        refine G_icmp_gt (tgt := 37) (pc' := 33) C dX1_isCounting_30 (by decide) rfl hf (fun hf => ?_) (fun hf => ?_)
        · refine G_iconst (v := (0 : Int32)) (pc' := 38) C dX1_isCounting_37 (by decide) rfl ?_
          exact G_zret C hR dX1_isCounting_38 (by decide) ⟨Option.some.inj hf, rfl⟩
        · refine G_iconst (v := (1 : Int32)) (pc' := 34) C dX1_isCounting_33 (by decide) rfl ?_
          refine G_goto (pc' := 38) C dX1_isCounting_34 (by decide) ?_
          exact G_zret C hR dX1_isCounting_38 (by decide) ⟨Option.some.inj hf, rfl⟩
theorem lk_X1_bookAt_35n : Cond.methodLinkNest RX1 35 yX7_isWithin RX7 ∈ zNws := by decide +kernel
theorem lk_X1_bookAt_35s : Cond.static yX7_isWithin ∈ wsX1_bookAt := by decide +kernel
theorem lk_X1_bookAt_35i : Cond.initialized yX7_isWithin.cls ∈ wsX1_bookAt := by decide +kernel
theorem iu_X1_bookAt_X1 : ∀ w ∈ wsX10, w ∈ wsX1_bookAt := by decide +kernel
theorem lk_X1_bookAt_15 : Cond.fieldLink RX1 15 "PrizeDesk$Poll" "books" "[I" ∈ wsX1_bookAt := by decide +kernel
abbrev rm_X1_bookAt_18 : Room := { frames := 1, cells := 0, slots := 0, locals := 22 }
theorem sg_X1_bookAt_18 : ZG yX1_bookAt wsX1_bookAt cX1_bookAt 3 (some .int) RX1 2 rm_X1_bookAt_18 := ⟨⟨_, rfl⟩, by decide +kernel, rfl, rfl⟩
set_option maxHeartbeats 4000000 in
set_option maxRecDepth 100000 in
theorem c_X1_bookAt_18 (ω : ZO) (N : Nat) (σ : ZS) (a1 : Int32) (a2 : Int32) : ZIp ω wD yX1_bookAt wsX1_bookAt rm_X1_bookAt_18 [.ref (za ω 18), .int a1, .int a2] σ (f_X1_bookAt_18 N σ a1 a2) := by
  intro r0 hf
  refine ZI.go (cc := cX1_bookAt) (maxL := 3) (ret := (some .int)) (own := RX1) (lv := [(0, .ref (za ω 18)), (1, .int a1), (2, .int a2)]) (by decide) rfl rfl (Nat.le_of_ble_eq_true rfl) rfl (fun κ C hR => ?_)
  unfold f_X1_bookAt_18 at hf
  refine G_aload_n (pc' := 1) C dX1_bookAt_0 0 rfl rfl ?_
  refine G_iload_n (pc' := 2) C dX1_bookAt_1 1 rfl rfl ?_
  refine G_callVp (pc' := 5) C [.int a1] (c_X1_isCounting_18 ω N σ a1) sg_X1_isCounting_18 gX1_bookAt_X1_isCounting wD_18 rfl ⟨Nat.le_of_ble_eq_true rfl, Nat.le_of_ble_eq_true rfl⟩ rfl rfl (Nat.le_of_ble_eq_true rfl) dX1_bookAt_2 rfl hf (fun v1 hf => ?_)
  refine G_if_eq (tgt := 32) (pc' := 8) C dX1_bookAt_5 (by decide) rfl hf (fun hf => ?_) (fun hf => ?_)
  · refine G_iconst (v := (-1 : Int32)) (pc' := 33) C dX1_bookAt_32 (by decide) rfl ?_
    exact G_iret C hR dX1_bookAt_33 ⟨Option.some.inj hf, rfl⟩
  · refine G_iload_n (pc' := 9) C dX1_bookAt_8 2 rfl rfl ?_
    refine G_iconst (v := (0 : Int32)) (pc' := 10) C dX1_bookAt_9 (by decide) rfl ?_
    refine G_bipush (v := (11 : Int32)) (pc' := 12) C dX1_bookAt_10 (by decide) rfl ?_
    refine G_callNp (pc' := 15) C [.int a2, .int (0 : Int32), .int (11 : Int32)] (c_X7_isWithin ω N σ a2 (0 : Int32) (11 : Int32)) sg_X7_isWithin gX1_bookAt_X7_isWithin_n35 lk_X1_bookAt_35n lk_X1_bookAt_35s lk_X1_bookAt_35i ⟨Nat.le_of_ble_eq_true rfl, Nat.le_of_ble_eq_true rfl⟩ rfl rfl (Nat.le_of_ble_eq_true rfl) dX1_bookAt_12 rfl hf (fun v2 hf => ?_)
    refine G_if_eq (tgt := 32) (pc' := 18) C dX1_bookAt_15 (by decide) rfl hf (fun hf => ?_) (fun hf => ?_)
    · refine G_iconst (v := (-1 : Int32)) (pc' := 33) C dX1_bookAt_32 (by decide) rfl ?_
      exact G_iret C hR dX1_bookAt_33 ⟨Option.some.inj hf, rfl⟩
    · refine G_aload_n (pc' := 19) C dX1_bookAt_18 0 rfl rfl ?_
      refine G_get (pc' := 22) C wD_18 rfl 1 (by decide) rfl iu_X1_bookAt_X1 lk_X1_bookAt_15 dX1_bookAt_19 rfl ?_
      refine G_iload_n (pc' := 23) C dX1_bookAt_22 1 rfl rfl ?_
      refine G_bipush (v := (12 : Int32)) (pc' := 25) C dX1_bookAt_23 (by decide) rfl ?_
      refine G_imul (pc' := 26) C dX1_bookAt_25 rfl ?_
      refine G_iload_n (pc' := 27) C dX1_bookAt_26 2 rfl rfl ?_
      refine G_iadd (pc' := 28) C dX1_bookAt_27 rfl ?_
      refine G_iald (pc' := 29) C wD_20 dX1_bookAt_28 rfl hf (fun v3 hf => ?_)
      refine G_goto (pc' := 33) C dX1_bookAt_29 (by decide) ?_
      exact G_iret C hR dX1_bookAt_33 ⟨Option.some.inj hf, rfl⟩
theorem lk_X5_isListed_60n : Cond.methodLinkNest RX5 60 yX7_isBookNumber RX7 ∈ zNws := by decide +kernel
theorem lk_X5_isListed_60s : Cond.static yX7_isBookNumber ∈ wsX5_isListed := by decide +kernel
theorem lk_X5_isListed_60i : Cond.initialized yX7_isBookNumber.cls ∈ wsX5_isListed := by decide +kernel
theorem lk_X5_isListed_80n : Cond.methodLinkNest RX5 80 yX7_contains RX7 ∈ zNws := by decide +kernel
theorem lk_X5_isListed_80s : Cond.static yX7_contains ∈ wsX5_isListed := by decide +kernel
theorem lk_X5_isListed_80i : Cond.initialized yX7_contains.cls ∈ wsX5_isListed := by decide +kernel
theorem iu_X5_isListed_X5 : ∀ w ∈ wsX50, w ∈ wsX5_isListed := by decide +kernel
theorem lk_X5_isListed_33 : Cond.fieldLink RX5 33 "PrizeDesk$Tally" "list" "I" ∈ wsX5_isListed := by decide +kernel
abbrev rm_X5_isListed : Room := { frames := 1, cells := 0, slots := 0, locals := 21 }
theorem sg_X5_isListed : ZG yX5_isListed wsX5_isListed cX5_isListed 2 (some .boolean) RX5 1 rm_X5_isListed := ⟨⟨_, rfl⟩, by decide +kernel, rfl, rfl⟩
set_option maxHeartbeats 4000000 in
set_option maxRecDepth 100000 in
theorem c_X5_isListed (ω : ZO) (N : Nat) (σ : ZS) (a1 : Int32) : ZIp ω wD yX5_isListed wsX5_isListed rm_X5_isListed [.ref (za ω 24), .int a1] σ (f_X5_isListed N σ a1) := by
  intro r0 hf
  refine ZI.go (cc := cX5_isListed) (maxL := 2) (ret := (some .boolean)) (own := RX5) (lv := [(0, .ref (za ω 24)), (1, .int a1)]) (by decide) rfl rfl (Nat.le_of_ble_eq_true rfl) rfl (fun κ C hR => ?_)
  unfold f_X5_isListed at hf
  refine G_iload_n (pc' := 1) C dX5_isListed_0 1 rfl rfl ?_
  refine G_callNp (pc' := 4) C [.int a1] (c_X7_isBookNumber ω N σ a1) sg_X7_isBookNumber gX5_isListed_X7_isBookNumber_n60 lk_X5_isListed_60n lk_X5_isListed_60s lk_X5_isListed_60i ⟨Nat.le_of_ble_eq_true rfl, Nat.le_of_ble_eq_true rfl⟩ rfl rfl (Nat.le_of_ble_eq_true rfl) dX5_isListed_1 rfl hf (fun v1 hf => ?_)
  refine G_if_eq (tgt := 22) (pc' := 7) C dX5_isListed_4 (by decide) rfl hf (fun hf => ?_) (fun hf => ?_)
  · refine G_iconst (v := (0 : Int32)) (pc' := 23) C dX5_isListed_22 (by decide) rfl ?_
    exact G_zret C hR dX5_isListed_23 (by decide) ⟨Option.some.inj hf, rfl⟩
  · refine G_aload_n (pc' := 8) C dX5_isListed_7 0 rfl rfl ?_
    refine G_get (pc' := 11) C wD_24 rfl 7 (by decide) rfl iu_X5_isListed_X5 lk_X5_isListed_33 dX5_isListed_8 rfl ?_
    refine G_iload_n (pc' := 12) C dX5_isListed_11 1 rfl rfl ?_
    refine G_callNp (pc' := 15) C [.int (σ 24 7), .int a1] (c_X7_contains ω N σ (σ 24 7) a1) sg_X7_contains gX5_isListed_X7_contains_n80 lk_X5_isListed_80n lk_X5_isListed_80s lk_X5_isListed_80i ⟨Nat.le_of_ble_eq_true rfl, Nat.le_of_ble_eq_true rfl⟩ rfl rfl (Nat.le_of_ble_eq_true rfl) dX5_isListed_12 rfl hf (fun v2 hf => ?_)
    refine G_if_eq (tgt := 22) (pc' := 18) C dX5_isListed_15 (by decide) rfl hf (fun hf => ?_) (fun hf => ?_)
    · refine G_iconst (v := (0 : Int32)) (pc' := 23) C dX5_isListed_22 (by decide) rfl ?_
      exact G_zret C hR dX5_isListed_23 (by decide) ⟨Option.some.inj hf, rfl⟩
    · refine G_iconst (v := (1 : Int32)) (pc' := 19) C dX5_isListed_18 (by decide) rfl ?_
      refine G_goto (pc' := 23) C dX5_isListed_19 (by decide) ?_
      exact G_zret C hR dX5_isListed_23 (by decide) ⟨Option.some.inj hf, rfl⟩
theorem lk_X5_hearJudge_41n : Cond.methodLinkNest RX5 41 yX7_isJudge RX7 ∈ zNws := by decide +kernel
theorem lk_X5_hearJudge_41s : Cond.static yX7_isJudge ∈ wsX5_hearJudge := by decide +kernel
theorem lk_X5_hearJudge_41i : Cond.initialized yX7_isJudge.cls ∈ wsX5_hearJudge := by decide +kernel
theorem iu_X5_hearJudge_X5 : ∀ w ∈ wsX50, w ∈ wsX5_hearJudge := by decide +kernel
theorem lk_X5_hearJudge_15 : Cond.fieldLink RX5 15 "PrizeDesk$Tally" "places" "[I" ∈ wsX5_hearJudge := by decide +kernel
theorem lk_X5_hearJudge_9 : Cond.fieldLink RX5 9 "PrizeDesk$Tally" "rows" "[I" ∈ wsX5_hearJudge := by decide +kernel
abbrev rm_X5_hearJudge_24_18_11 : Room := { frames := 2, cells := 0, slots := 0, locals := 44 }
theorem sg_X5_hearJudge_24_18_11 : ZG yX5_hearJudge wsX5_hearJudge cX5_hearJudge 7 none RX5 3 rm_X5_hearJudge_24_18_11 := ⟨⟨_, rfl⟩, by decide +kernel, rfl, rfl⟩
set_option maxHeartbeats 4000000 in
set_option maxRecDepth 100000 in
theorem w_X5_hearJudge_24_18_11_11 {ω : ZO} {κ : ZK} {N : Nat} {b1 : Int32} {K : Int32 → ZS → Option (ZS)} {r0 : ZS} (C : CX ω wD κ cX5_hearJudge wsX5_hearJudge RX5 none 7 rm_X5_hearJudge_24_18_11) (hR : zRV ω wD κ (fun τ => τ = r0)) (HK : ∀ (y4 : Int32) (τ : ZS), K y4 τ = some r0 → G ω wD κ 38 [(0, .ref (za ω 24)), (1, .int b1), (2, .ref (za ω 18)), (3, .ref (za ω 11))] [] τ) : ∀ (n : Nat) (y4 : Int32) (τ : ZS), L_X5_hearJudge_24_18_11_11 N b1 K n y4 τ = some r0 → G ω wD κ 11 [(0, .ref (za ω 24)), (1, .int b1), (2, .ref (za ω 18)), (3, .ref (za ω 11)), (4, .int y4)] [] τ := by
  intro n
  induction n with
  | zero => intro  y4 τ hf; exact absurd (show none = some r0 from hf) (fun h => nomatch h)
  | succ n ih =>
    intro y4 τ hf
    have hf : B_X5_hearJudge_24_18_11_11 N b1 K (L_X5_hearJudge_24_18_11_11 N b1 K n) y4 τ = some r0 := hf
    unfold B_X5_hearJudge_24_18_11_11 at hf
    refine G_iload (pc' := 13) C dX5_hearJudge_11 4 rfl rfl ?_
    refine G_bipush (v := (24 : Int32)) (pc' := 15) C dX5_hearJudge_13 (by decide) rfl ?_
    refine G_icmp_ge (tgt := 38) (pc' := 18) C dX5_hearJudge_15 (by decide) rfl hf (fun hf => ?_) (fun hf => ?_)
    · refine G_sub (lv' := [(0, .ref (za ω 24)), (1, .int b1), (2, .ref (za ω 18)), (3, .ref (za ω 11))]) C [0, 1, 2, 3] rfl ?_
      exact HK y4 τ hf
    · refine G_aload_n (pc' := 19) C dX5_hearJudge_18 0 rfl rfl ?_
      refine G_get (pc' := 22) C wD_24 rfl 1 (by decide) rfl iu_X5_hearJudge_X5 lk_X5_hearJudge_15 dX5_hearJudge_19 rfl ?_
      refine G_iload_n (pc' := 23) C dX5_hearJudge_22 1 rfl rfl ?_
      refine G_bipush (v := (24 : Int32)) (pc' := 25) C dX5_hearJudge_23 (by decide) rfl ?_
      refine G_imul (pc' := 26) C dX5_hearJudge_25 rfl ?_
      refine G_iload (pc' := 28) C dX5_hearJudge_26 4 rfl rfl ?_
      refine G_iadd (pc' := 29) C dX5_hearJudge_28 rfl ?_
      refine G_bipush (v := (24 : Int32)) (pc' := 31) C dX5_hearJudge_29 (by decide) rfl ?_
      refine G_iast (pc' := 32) C wD_26 wD_s26 dX5_hearJudge_31 rfl hf (fun s2 hf => ?_)
      refine G_iincL (v := y4 + (1 : Int32)) (pc' := 35) C dX5_hearJudge_32 4 rfl rfl (by decide) [1, 2, 3, 4, 0] (fun x3 => [(0, .ref (za ω 24)), (1, .int b1), (2, .ref (za ω 18)), (3, .ref (za ω 11)), (4, .int x3)]) (fun _ => rfl) rfl hf (fun x3 hf => ?_)
      refine G_goto (pc' := 11) C dX5_hearJudge_35 (by decide) ?_
      exact ih x3 s2 hf
set_option maxHeartbeats 4000000 in
set_option maxRecDepth 100000 in
theorem w_X5_hearJudge_24_18_11_44 {ω : ZO} {κ : ZK} {N : Nat} {b1 : Int32} {K : Int32 → Int32 → ZS → Option (ZS)} {r0 : ZS} (C : CX ω wD κ cX5_hearJudge wsX5_hearJudge RX5 none 7 rm_X5_hearJudge_24_18_11) (hR : zRV ω wD κ (fun τ => τ = r0)) (HK : ∀ (y4 : Int32) (y5 : Int32) (τ : ZS), K y4 y5 τ = some r0 → G ω wD κ 129 [(0, .ref (za ω 24)), (2, .ref (za ω 18)), (3, .ref (za ω 11))] [] τ) : ∀ (n : Nat) (y4 : Int32) (y5 : Int32) (τ : ZS), L_X5_hearJudge_24_18_11_44 N b1 K n y4 y5 τ = some r0 → G ω wD κ 44 [(0, .ref (za ω 24)), (1, .int b1), (2, .ref (za ω 18)), (3, .ref (za ω 11)), (4, .int y4), (5, .int y5)] [] τ := by
  intro n
  induction n with
  | zero => intro  y4 y5 τ hf; exact absurd (show none = some r0 from hf) (fun h => nomatch h)
  | succ n ih =>
    intro y4 y5 τ hf
    have hf : B_X5_hearJudge_24_18_11_44 N b1 K (L_X5_hearJudge_24_18_11_44 N b1 K n) y4 y5 τ = some r0 := hf
    unfold B_X5_hearJudge_24_18_11_44 at hf
    refine G_iload (pc' := 46) C dX5_hearJudge_44 5 rfl rfl ?_
    refine G_bipush (v := (12 : Int32)) (pc' := 48) C dX5_hearJudge_46 (by decide) rfl ?_
    refine G_icmp_ge (tgt := 129) (pc' := 51) C dX5_hearJudge_48 (by decide) rfl hf (fun hf => ?_) (fun hf => ?_)
    · refine G_sub (lv' := [(0, .ref (za ω 24)), (2, .ref (za ω 18)), (3, .ref (za ω 11))]) C [0, 2, 3] rfl ?_
      exact HK y4 y5 τ hf
    · refine G_aload_n (pc' := 52) C dX5_hearJudge_51 2 rfl rfl ?_
      refine G_iload_n (pc' := 53) C dX5_hearJudge_52 1 rfl rfl ?_
      refine G_iload (pc' := 55) C dX5_hearJudge_53 5 rfl rfl ?_
      refine G_callVp (pc' := 58) C [.int b1, .int y5] (c_X1_bookAt_18 ω N τ b1 y5) sg_X1_bookAt_18 gX5_hearJudge_X1_bookAt wD_18 rfl ⟨Nat.le_of_ble_eq_true rfl, Nat.le_of_ble_eq_true rfl⟩ rfl rfl (Nat.le_of_ble_eq_true rfl) dX5_hearJudge_55 rfl hf (fun v6 hf => ?_)
      refine G_istore (lv' := [(0, .ref (za ω 24)), (1, .int b1), (2, .ref (za ω 18)), (3, .ref (za ω 11)), (4, .int y4), (5, .int y5), (6, .int v6)]) (pc' := 60) C dX5_hearJudge_58 (by decide) [1, 2, 3, 4, 5, 6, 0] rfl rfl ?_
      refine G_aload_n (pc' := 61) C dX5_hearJudge_60 0 rfl rfl ?_
      refine G_get (pc' := 64) C wD_24 rfl 0 (by decide) rfl iu_X5_hearJudge_X5 lk_X5_hearJudge_9 dX5_hearJudge_61 rfl ?_
      refine G_iload_n (pc' := 65) C dX5_hearJudge_64 1 rfl rfl ?_
      refine G_bipush (v := (12 : Int32)) (pc' := 67) C dX5_hearJudge_65 (by decide) rfl ?_
      refine G_imul (pc' := 68) C dX5_hearJudge_67 rfl ?_
      refine G_iload (pc' := 70) C dX5_hearJudge_68 5 rfl rfl ?_
      refine G_iadd (pc' := 71) C dX5_hearJudge_70 rfl ?_
      refine G_iconst (v := (-1 : Int32)) (pc' := 72) C dX5_hearJudge_71 (by decide) rfl ?_
      refine G_iast (pc' := 73) C wD_25 wD_s25 dX5_hearJudge_72 rfl hf (fun s7 hf => ?_)
      refine G_aload_n (pc' := 74) C dX5_hearJudge_73 0 rfl rfl ?_
      refine G_iload (pc' := 76) C dX5_hearJudge_74 6 rfl rfl ?_
      refine G_callVp (pc' := 79) C [.int v6] (c_X5_isListed ω N s7 v6) sg_X5_isListed gX5_hearJudge_X5_isListed wD_24 rfl ⟨Nat.le_of_ble_eq_true rfl, Nat.le_of_ble_eq_true rfl⟩ rfl rfl (Nat.le_of_ble_eq_true rfl) dX5_hearJudge_76 rfl hf (fun v8 hf => ?_)
      refine G_if_eq (tgt := 123) (pc' := 82) C dX5_hearJudge_79 (by decide) rfl hf (fun hf => ?_) (fun hf => ?_)
      · refine G_iincL (v := y5 + (1 : Int32)) (pc' := 126) C dX5_hearJudge_123 5 rfl rfl (by decide) [1, 2, 3, 4, 5, 0] (fun x9 => [(0, .ref (za ω 24)), (1, .int b1), (2, .ref (za ω 18)), (3, .ref (za ω 11)), (4, .int y4), (5, .int x9)]) (fun _ => rfl) rfl hf (fun x9 hf => ?_)
        refine G_goto (pc' := 44) C dX5_hearJudge_126 (by decide) ?_
        exact ih y4 x9 s7 hf
      · refine G_aload_n (pc' := 83) C dX5_hearJudge_82 3 rfl rfl ?_
        refine G_iload_n (pc' := 84) C dX5_hearJudge_83 1 rfl rfl ?_
        refine G_iload (pc' := 86) C dX5_hearJudge_84 6 rfl rfl ?_
        refine G_callVp (pc' := 89) C [.int b1, .int v6] (c_X0_isBarred ω N s7 b1 v6) sg_X0_isBarred gX5_hearJudge_X0_isBarred wD_11 rfl ⟨Nat.le_of_ble_eq_true rfl, Nat.le_of_ble_eq_true rfl⟩ rfl rfl (Nat.le_of_ble_eq_true rfl) dX5_hearJudge_86 rfl hf (fun v10 hf => ?_)
        refine G_if_ne (tgt := 123) (pc' := 92) C dX5_hearJudge_89 (by decide) rfl hf (fun hf => ?_) (fun hf => ?_)
        · refine G_aload_n (pc' := 93) C dX5_hearJudge_92 0 rfl rfl ?_
          refine G_get (pc' := 96) C wD_24 rfl 1 (by decide) rfl iu_X5_hearJudge_X5 lk_X5_hearJudge_15 dX5_hearJudge_93 rfl ?_
          refine G_iload_n (pc' := 97) C dX5_hearJudge_96 1 rfl rfl ?_
          refine G_bipush (v := (24 : Int32)) (pc' := 99) C dX5_hearJudge_97 (by decide) rfl ?_
          refine G_imul (pc' := 100) C dX5_hearJudge_99 rfl ?_
          refine G_iload (pc' := 102) C dX5_hearJudge_100 6 rfl rfl ?_
          refine G_iadd (pc' := 103) C dX5_hearJudge_102 rfl ?_
          refine G_iload (pc' := 105) C dX5_hearJudge_103 4 rfl rfl ?_
          refine G_iast (pc' := 106) C wD_26 wD_s26 dX5_hearJudge_105 rfl hf (fun s11 hf => ?_)
          refine G_aload_n (pc' := 107) C dX5_hearJudge_106 0 rfl rfl ?_
          refine G_get (pc' := 110) C wD_24 rfl 0 (by decide) rfl iu_X5_hearJudge_X5 lk_X5_hearJudge_9 dX5_hearJudge_107 rfl ?_
          refine G_iload_n (pc' := 111) C dX5_hearJudge_110 1 rfl rfl ?_
          refine G_bipush (v := (12 : Int32)) (pc' := 113) C dX5_hearJudge_111 (by decide) rfl ?_
          refine G_imul (pc' := 114) C dX5_hearJudge_113 rfl ?_
          refine G_iload (pc' := 116) C dX5_hearJudge_114 4 rfl rfl ?_
          refine G_iadd (pc' := 117) C dX5_hearJudge_116 rfl ?_
          refine G_iload (pc' := 119) C dX5_hearJudge_117 6 rfl rfl ?_
          refine G_iast (pc' := 120) C wD_25 wD_s25 dX5_hearJudge_119 rfl hf (fun s12 hf => ?_)
          refine G_iincL (v := y4 + (1 : Int32)) (pc' := 123) C dX5_hearJudge_120 4 rfl rfl (by decide) [1, 2, 3, 4, 0, 5] (fun x13 => [(0, .ref (za ω 24)), (1, .int b1), (2, .ref (za ω 18)), (3, .ref (za ω 11)), (4, .int x13), (5, .int y5)]) (fun _ => rfl) rfl hf (fun x13 hf => ?_)
          refine G_iincL (v := y5 + (1 : Int32)) (pc' := 126) C dX5_hearJudge_123 5 rfl rfl (by decide) [1, 2, 3, 4, 5, 0] (fun x14 => [(0, .ref (za ω 24)), (1, .int b1), (2, .ref (za ω 18)), (3, .ref (za ω 11)), (4, .int x13), (5, .int x14)]) (fun _ => rfl) rfl hf (fun x14 hf => ?_)
          refine G_goto (pc' := 44) C dX5_hearJudge_126 (by decide) ?_
          exact ih x13 x14 s12 hf
        · refine G_iincL (v := y5 + (1 : Int32)) (pc' := 126) C dX5_hearJudge_123 5 rfl rfl (by decide) [1, 2, 3, 4, 5, 0] (fun x15 => [(0, .ref (za ω 24)), (1, .int b1), (2, .ref (za ω 18)), (3, .ref (za ω 11)), (4, .int y4), (5, .int x15)]) (fun _ => rfl) rfl hf (fun x15 hf => ?_)
          refine G_goto (pc' := 44) C dX5_hearJudge_126 (by decide) ?_
          exact ih y4 x15 s7 hf
set_option maxHeartbeats 4000000 in
set_option maxRecDepth 100000 in
theorem c_X5_hearJudge_24_18_11 (ω : ZO) (N : Nat) (σ : ZS) (a1 : Int32) : ZVs ω wD yX5_hearJudge wsX5_hearJudge rm_X5_hearJudge_24_18_11 [.ref (za ω 24), .int a1, .ref (za ω 18), .ref (za ω 11)] σ (f_X5_hearJudge_24_18_11 N σ a1) := by
  intro r0 hf
  refine ZV.go (cc := cX5_hearJudge) (maxL := 7) (ret := none) (own := RX5) (lv := [(0, .ref (za ω 24)), (1, .int a1), (2, .ref (za ω 18)), (3, .ref (za ω 11))]) (by decide) rfl rfl (Nat.le_of_ble_eq_true rfl) rfl (fun κ C hR => ?_)
  unfold f_X5_hearJudge_24_18_11 at hf
  refine G_iload_n (pc' := 1) C dX5_hearJudge_0 1 rfl rfl ?_
  refine G_callNp (pc' := 4) C [.int a1] (c_X7_isJudge ω N σ a1) sg_X7_isJudge gX5_hearJudge_X7_isJudge_n41 lk_X5_hearJudge_41n lk_X5_hearJudge_41s lk_X5_hearJudge_41i ⟨Nat.le_of_ble_eq_true rfl, Nat.le_of_ble_eq_true rfl⟩ rfl rfl (Nat.le_of_ble_eq_true rfl) dX5_hearJudge_1 rfl hf (fun v1 hf => ?_)
  refine G_if_ne (tgt := 8) (pc' := 7) C dX5_hearJudge_4 (by decide) rfl hf (fun hf => ?_) (fun hf => ?_)
  · exact G_vret C hR dX5_hearJudge_7 (Option.some.inj hf)
  · refine G_iconst (v := (0 : Int32)) (pc' := 9) C dX5_hearJudge_8 (by decide) rfl ?_
    refine G_istore (lv' := [(0, .ref (za ω 24)), (1, .int a1), (2, .ref (za ω 18)), (3, .ref (za ω 11)), (4, .int (0 : Int32))]) (pc' := 11) C dX5_hearJudge_9 (by decide) [1, 2, 3, 4, 0] rfl rfl ?_
    refine w_X5_hearJudge_24_18_11_11 C hR (fun y4 s5 hf => ?_) N (0 : Int32) σ hf
    refine G_iconst (v := (0 : Int32)) (pc' := 39) C dX5_hearJudge_38 (by decide) rfl ?_
    refine G_istore (lv' := [(0, .ref (za ω 24)), (1, .int a1), (2, .ref (za ω 18)), (3, .ref (za ω 11)), (4, .int (0 : Int32))]) (pc' := 41) C dX5_hearJudge_39 (by decide) [1, 2, 3, 4, 0] rfl rfl ?_
    refine G_iconst (v := (0 : Int32)) (pc' := 42) C dX5_hearJudge_41 (by decide) rfl ?_
    refine G_istore (lv' := [(0, .ref (za ω 24)), (1, .int a1), (2, .ref (za ω 18)), (3, .ref (za ω 11)), (4, .int (0 : Int32)), (5, .int (0 : Int32))]) (pc' := 44) C dX5_hearJudge_42 (by decide) [1, 2, 3, 4, 5, 0] rfl rfl ?_
    refine w_X5_hearJudge_24_18_11_44 C hR (fun y16 y17 s18 hf => ?_) N (0 : Int32) (0 : Int32) s5 hf
    exact G_vret C hR dX5_hearJudge_129 (Option.some.inj hf)
theorem iu_X5_hear_X5 : ∀ w ∈ wsX50, w ∈ wsX5_hear := by decide +kernel
theorem lk_X5_hear_15 : Cond.fieldLink RX5 15 "PrizeDesk$Tally" "places" "[I" ∈ wsX5_hear := by decide +kernel
theorem lk_X5_hear_18 : Cond.fieldLink RX5 18 "PrizeDesk$Tally" "ties" "[I" ∈ wsX5_hear := by decide +kernel
theorem lk_X5_hear_33 : Cond.fieldLink RX5 33 "PrizeDesk$Tally" "list" "I" ∈ wsX5_hear := by decide +kernel
abbrev rm_X5_hear_24_18_11 : Room := { frames := 3, cells := 0, slots := 0, locals := 70 }
theorem sg_X5_hear_24_18_11 : ZG yX5_hear wsX5_hear cX5_hear 6 none RX5 4 rm_X5_hear_24_18_11 := ⟨⟨_, rfl⟩, by decide +kernel, rfl, rfl⟩
set_option maxHeartbeats 4000000 in
set_option maxRecDepth 100000 in
theorem w_X5_hear_24_18_11_8 {ω : ZO} {κ : ZK} {N : Nat} {b4 : Int32} {K : Int32 → ZS → Option (ZS)} {r0 : ZS} (C : CX ω wD κ cX5_hear wsX5_hear RX5 none 6 rm_X5_hear_24_18_11) (hR : zRV ω wD κ (fun τ => τ = r0)) (HK : ∀ (y5 : Int32) (τ : ZS), K y5 τ = some r0 → G ω wD κ 29 [(0, .ref (za ω 24)), (1, .ref (za ω 18)), (2, .ref (za ω 11)), (4, .int b4)] [] τ) : ∀ (n : Nat) (y5 : Int32) (τ : ZS), L_X5_hear_24_18_11_8 N b4 K n y5 τ = some r0 → G ω wD κ 8 [(0, .ref (za ω 24)), (1, .ref (za ω 18)), (2, .ref (za ω 11)), (4, .int b4), (5, .int y5)] [] τ := by
  intro n
  induction n with
  | zero => intro  y5 τ hf; exact absurd (show none = some r0 from hf) (fun h => nomatch h)
  | succ n ih =>
    intro y5 τ hf
    have hf : B_X5_hear_24_18_11_8 N b4 K (L_X5_hear_24_18_11_8 N b4 K n) y5 τ = some r0 := hf
    unfold B_X5_hear_24_18_11_8 at hf
    refine G_iload (pc' := 10) C dX5_hear_8 4 rfl rfl ?_
    refine G_bipush (v := (7 : Int32)) (pc' := 12) C dX5_hear_10 (by decide) rfl ?_
    refine G_icmp_ge (tgt := 29) (pc' := 15) C dX5_hear_12 (by decide) rfl hf (fun hf => ?_) (fun hf => ?_)
    · refine G_sub (lv' := [(0, .ref (za ω 24)), (1, .ref (za ω 18)), (2, .ref (za ω 11)), (4, .int b4)]) C [0, 1, 2, 3] rfl ?_
      exact HK y5 τ hf
    · refine G_aload_n (pc' := 16) C dX5_hear_15 0 rfl rfl ?_
      refine G_iload (pc' := 18) C dX5_hear_16 4 rfl rfl ?_
      refine G_aload_n (pc' := 19) C dX5_hear_18 1 rfl rfl ?_
      refine G_aload_n (pc' := 20) C dX5_hear_19 2 rfl rfl ?_
      refine G_callVv (pc' := 23) C [.int y5, .ref (za ω 18), .ref (za ω 11)] (c_X5_hearJudge_24_18_11 ω N τ y5) sg_X5_hearJudge_24_18_11 gX5_hear_X5_hearJudge wD_24 rfl ⟨Nat.le_of_ble_eq_true rfl, Nat.le_of_ble_eq_true rfl⟩ rfl rfl (Nat.le_of_ble_eq_true rfl) dX5_hear_20 rfl hf (fun s2 hf => ?_)
      refine G_iincL (v := y5 + (1 : Int32)) (pc' := 26) C dX5_hear_23 4 rfl rfl (by decide) [1, 2, 3, 4, 0] (fun x3 => [(0, .ref (za ω 24)), (1, .ref (za ω 18)), (2, .ref (za ω 11)), (4, .int b4), (5, .int x3)]) (fun _ => rfl) rfl hf (fun x3 hf => ?_)
      refine G_goto (pc' := 8) C dX5_hear_26 (by decide) ?_
      exact ih x3 s2 hf
set_option maxHeartbeats 4000000 in
set_option maxRecDepth 100000 in
theorem w_X5_hear_24_18_11_32 {ω : ZO} {κ : ZK} {N : Nat} {b4 : Int32} {K : Int32 → ZS → Option (ZS)} {r0 : ZS} (C : CX ω wD κ cX5_hear wsX5_hear RX5 none 6 rm_X5_hear_24_18_11) (hR : zRV ω wD κ (fun τ => τ = r0)) (HK : ∀ (y5 : Int32) (τ : ZS), K y5 τ = some r0 → G ω wD κ 73 [(0, .ref (za ω 24)), (1, .ref (za ω 18)), (2, .ref (za ω 11))] [] τ) : ∀ (n : Nat) (y5 : Int32) (τ : ZS), L_X5_hear_24_18_11_32 N b4 K n y5 τ = some r0 → G ω wD κ 32 [(0, .ref (za ω 24)), (1, .ref (za ω 18)), (2, .ref (za ω 11)), (4, .int b4), (5, .int y5)] [] τ := by
  intro n
  induction n with
  | zero => intro  y5 τ hf; exact absurd (show none = some r0 from hf) (fun h => nomatch h)
  | succ n ih =>
    intro y5 τ hf
    have hf : B_X5_hear_24_18_11_32 N b4 K (L_X5_hear_24_18_11_32 N b4 K n) y5 τ = some r0 := hf
    unfold B_X5_hear_24_18_11_32 at hf
    refine G_iload (pc' := 34) C dX5_hear_32 4 rfl rfl ?_
    refine G_bipush (v := (24 : Int32)) (pc' := 36) C dX5_hear_34 (by decide) rfl ?_
    refine G_icmp_ge (tgt := 73) (pc' := 39) C dX5_hear_36 (by decide) rfl hf (fun hf => ?_) (fun hf => ?_)
    · refine G_sub (lv' := [(0, .ref (za ω 24)), (1, .ref (za ω 18)), (2, .ref (za ω 11))]) C [0, 1, 2] rfl ?_
      exact HK y5 τ hf
    · refine G_aload_n (pc' := 40) C dX5_hear_39 0 rfl rfl ?_
      refine G_get (pc' := 43) C wD_24 rfl 2 (by decide) rfl iu_X5_hear_X5 lk_X5_hear_18 dX5_hear_40 rfl ?_
      refine G_iload (pc' := 45) C dX5_hear_43 4 rfl rfl ?_
      refine G_iload (pc' := 47) C dX5_hear_45 3 rfl rfl ?_
      refine G_if_eq (tgt := 65) (pc' := 50) C dX5_hear_47 (by decide) rfl hf (fun hf => ?_) (fun hf => ?_)
      · refine G_iconst (v := (0 : Int32)) (pc' := 66) C dX5_hear_65 (by decide) rfl ?_
        refine G_iast (pc' := 67) C wD_27 wD_s27 dX5_hear_66 rfl hf (fun s6 hf => ?_)
        refine G_iincL (v := y5 + (1 : Int32)) (pc' := 70) C dX5_hear_67 4 rfl rfl (by decide) [1, 2, 3, 4, 0] (fun x7 => [(0, .ref (za ω 24)), (1, .ref (za ω 18)), (2, .ref (za ω 11)), (4, .int b4), (5, .int x7)]) (fun _ => rfl) rfl hf (fun x7 hf => ?_)
        refine G_goto (pc' := 32) C dX5_hear_70 (by decide) ?_
        exact ih x7 s6 hf
      · refine G_bipush (v := (24 : Int32)) (pc' := 52) C dX5_hear_50 (by decide) rfl ?_
        refine G_aload_n (pc' := 53) C dX5_hear_52 0 rfl rfl ?_
        refine G_get (pc' := 56) C wD_24 rfl 1 (by decide) rfl iu_X5_hear_X5 lk_X5_hear_15 dX5_hear_53 rfl ?_
        refine G_iconst (v := (0 : Int32)) (pc' := 57) C dX5_hear_56 (by decide) rfl ?_
        refine G_iload (pc' := 59) C dX5_hear_57 4 rfl rfl ?_
        refine G_iadd (pc' := 60) C dX5_hear_59 rfl ?_
        refine G_iald (pc' := 61) C wD_26 dX5_hear_60 rfl hf (fun v8 hf => ?_)
        refine G_isub (pc' := 62) C dX5_hear_61 rfl ?_
        refine G_goto (pc' := 66) C dX5_hear_62 (by decide) ?_
        refine G_iast (pc' := 67) C wD_27 wD_s27 dX5_hear_66 rfl hf (fun s9 hf => ?_)
        refine G_iincL (v := y5 + (1 : Int32)) (pc' := 70) C dX5_hear_67 4 rfl rfl (by decide) [1, 2, 3, 4, 0] (fun x10 => [(0, .ref (za ω 24)), (1, .ref (za ω 18)), (2, .ref (za ω 11)), (4, .int b4), (5, .int x10)]) (fun _ => rfl) rfl hf (fun x10 hf => ?_)
        refine G_goto (pc' := 32) C dX5_hear_70 (by decide) ?_
        exact ih x10 s9 hf
set_option maxHeartbeats 4000000 in
set_option maxRecDepth 100000 in
theorem c_X5_hear_24_18_11 (ω : ZO) (N : Nat) (σ : ZS) (a3 : Int32) (a4 : Int32) : ZVs ω wD yX5_hear wsX5_hear rm_X5_hear_24_18_11 [.ref (za ω 24), .ref (za ω 18), .ref (za ω 11), .int a3, .int a4] σ (f_X5_hear_24_18_11 N σ a3 a4) := by
  intro r0 hf
  refine ZV.go (cc := cX5_hear) (maxL := 6) (ret := none) (own := RX5) (lv := [(0, .ref (za ω 24)), (1, .ref (za ω 18)), (2, .ref (za ω 11)), (3, .int a3), (4, .int a4)]) (by decide) rfl rfl (Nat.le_of_ble_eq_true rfl) rfl (fun κ C hR => ?_)
  unfold f_X5_hear_24_18_11 at hf
  refine G_aload_n (pc' := 1) C dX5_hear_0 0 rfl rfl ?_
  refine G_iload_n (pc' := 2) C dX5_hear_1 3 rfl rfl ?_
  refine G_put (pc' := 5) C tyX5 tyX5_ok nmX5 wD_24 rfl 7 (by decide) (Nat.le_of_ble_eq_true rfl) iu_X5_hear_X5 lk_X5_hear_33 rfl (by decide +kernel) wD_f24_7 dX5_hear_2 rfl hf (fun s1 hf => ?_)
  refine G_iconst (v := (0 : Int32)) (pc' := 6) C dX5_hear_5 (by decide) rfl ?_
  refine G_istore (lv' := [(0, .ref (za ω 24)), (1, .ref (za ω 18)), (2, .ref (za ω 11)), (4, .int a4), (5, .int (0 : Int32))]) (pc' := 8) C dX5_hear_6 (by decide) [1, 2, 3, 5, 0] rfl rfl ?_
  refine w_X5_hear_24_18_11_8 C hR (fun y4 s5 hf => ?_) N (0 : Int32) s1 hf
  refine G_iconst (v := (0 : Int32)) (pc' := 30) C dX5_hear_29 (by decide) rfl ?_
  refine G_istore (lv' := [(0, .ref (za ω 24)), (1, .ref (za ω 18)), (2, .ref (za ω 11)), (4, .int a4), (5, .int (0 : Int32))]) (pc' := 32) C dX5_hear_30 (by decide) [1, 2, 3, 4, 0] rfl rfl ?_
  refine w_X5_hear_24_18_11_32 C hR (fun y11 s12 hf => ?_) N (0 : Int32) s5 hf
  exact G_vret C hR dX5_hear_73 (Option.some.inj hf)
theorem iu_X5_valueByPoints_X5 : ∀ w ∈ wsX50, w ∈ wsX5_valueByPoints := by decide +kernel
theorem lk_X5_valueByPoints_21 : Cond.fieldLink RX5 21 "PrizeDesk$Tally" "values" "[I" ∈ wsX5_valueByPoints := by decide +kernel
theorem lk_X5_valueByPoints_60n : Cond.methodLinkNest RX5 60 yX7_isBookNumber RX7 ∈ zNws := by decide +kernel
theorem lk_X5_valueByPoints_60s : Cond.static yX7_isBookNumber ∈ wsX5_valueByPoints := by decide +kernel
theorem lk_X5_valueByPoints_60i : Cond.initialized yX7_isBookNumber.cls ∈ wsX5_valueByPoints := by decide +kernel
theorem lk_X5_valueByPoints_9 : Cond.fieldLink RX5 9 "PrizeDesk$Tally" "rows" "[I" ∈ wsX5_valueByPoints := by decide +kernel
theorem lk_X5_valueByPoints_33 : Cond.fieldLink RX5 33 "PrizeDesk$Tally" "list" "I" ∈ wsX5_valueByPoints := by decide +kernel
abbrev rm_X5_valueByPoints : Room := { frames := 1, cells := 0, slots := 0, locals := 20 }
theorem sg_X5_valueByPoints : ZG yX5_valueByPoints wsX5_valueByPoints cX5_valueByPoints 5 none RX5 0 rm_X5_valueByPoints := ⟨⟨_, rfl⟩, by decide +kernel, rfl, rfl⟩
set_option maxHeartbeats 4000000 in
set_option maxRecDepth 100000 in
theorem w_X5_valueByPoints_10 {ω : ZO} {κ : ZK} {N : Nat} {b1 : Int32} {K : Int32 → ZS → Option (ZS)} {r0 : ZS} (C : CX ω wD κ cX5_valueByPoints wsX5_valueByPoints RX5 none 5 rm_X5_valueByPoints) (hR : zRV ω wD κ (fun τ => τ = r0)) (HK : ∀ (y2 : Int32) (τ : ZS), K y2 τ = some r0 → G ω wD κ 29 [(0, .ref (za ω 24)), (1, .int b1)] [] τ) : ∀ (n : Nat) (y2 : Int32) (τ : ZS), L_X5_valueByPoints_10 N b1 K n y2 τ = some r0 → G ω wD κ 10 [(0, .ref (za ω 24)), (1, .int b1), (2, .int y2)] [] τ := by
  intro n
  induction n with
  | zero => intro  y2 τ hf; exact absurd (show none = some r0 from hf) (fun h => nomatch h)
  | succ n ih =>
    intro y2 τ hf
    have hf : B_X5_valueByPoints_10 N b1 K (L_X5_valueByPoints_10 N b1 K n) y2 τ = some r0 := hf
    unfold B_X5_valueByPoints_10 at hf
    refine G_iload_n (pc' := 11) C dX5_valueByPoints_10 2 rfl rfl ?_
    refine G_bipush (v := (24 : Int32)) (pc' := 13) C dX5_valueByPoints_11 (by decide) rfl ?_
    refine G_icmp_ge (tgt := 29) (pc' := 16) C dX5_valueByPoints_13 (by decide) rfl hf (fun hf => ?_) (fun hf => ?_)
    · refine G_sub (lv' := [(0, .ref (za ω 24)), (1, .int b1)]) C [0, 1] rfl ?_
      exact HK y2 τ hf
    · refine G_aload_n (pc' := 17) C dX5_valueByPoints_16 0 rfl rfl ?_
      refine G_get (pc' := 20) C wD_24 rfl 3 (by decide) rfl iu_X5_valueByPoints_X5 lk_X5_valueByPoints_21 dX5_valueByPoints_17 rfl ?_
      refine G_iload_n (pc' := 21) C dX5_valueByPoints_20 2 rfl rfl ?_
      refine G_iconst (v := (0 : Int32)) (pc' := 22) C dX5_valueByPoints_21 (by decide) rfl ?_
      refine G_iast (pc' := 23) C wD_28 wD_s28 dX5_valueByPoints_22 rfl hf (fun s2 hf => ?_)
      refine G_iincL (v := y2 + (1 : Int32)) (pc' := 26) C dX5_valueByPoints_23 2 rfl rfl (by decide) [1, 2, 0] (fun x3 => [(0, .ref (za ω 24)), (1, .int b1), (2, .int x3)]) (fun _ => rfl) rfl hf (fun x3 hf => ?_)
      refine G_goto (pc' := 10) C dX5_valueByPoints_26 (by decide) ?_
      exact ih x3 s2 hf
set_option maxHeartbeats 4000000 in
set_option maxRecDepth 100000 in
theorem w_X5_valueByPoints_39 {ω : ZO} {κ : ZK} {N : Nat} {b1 : Int32} {b2 : Int32} {K : Int32 → ZS → Option (ZS)} {r0 : ZS} (C : CX ω wD κ cX5_valueByPoints wsX5_valueByPoints RX5 none 5 rm_X5_valueByPoints) (hR : zRV ω wD κ (fun τ => τ = r0)) (HK : ∀ (y3 : Int32) (τ : ZS), K y3 τ = some r0 → G ω wD κ 85 [(0, .ref (za ω 24)), (1, .int b1), (2, .int b2)] [] τ) : ∀ (n : Nat) (y3 : Int32) (τ : ZS), L_X5_valueByPoints_39 N b1 b2 K n y3 τ = some r0 → G ω wD κ 39 [(0, .ref (za ω 24)), (1, .int b1), (2, .int b2), (3, .int y3)] [] τ := by
  intro n
  induction n with
  | zero => intro  y3 τ hf; exact absurd (show none = some r0 from hf) (fun h => nomatch h)
  | succ n ih =>
    intro y3 τ hf
    have hf : B_X5_valueByPoints_39 N b1 b2 K (L_X5_valueByPoints_39 N b1 b2 K n) y3 τ = some r0 := hf
    unfold B_X5_valueByPoints_39 at hf
    refine G_iload_n (pc' := 40) C dX5_valueByPoints_39 3 rfl rfl ?_
    refine G_bipush (v := (12 : Int32)) (pc' := 42) C dX5_valueByPoints_40 (by decide) rfl ?_
    refine G_icmp_ge (tgt := 85) (pc' := 45) C dX5_valueByPoints_42 (by decide) rfl hf (fun hf => ?_) (fun hf => ?_)
    · refine G_sub (lv' := [(0, .ref (za ω 24)), (1, .int b1), (2, .int b2)]) C [0, 1, 2] rfl ?_
      exact HK y3 τ hf
    · refine G_aload_n (pc' := 46) C dX5_valueByPoints_45 0 rfl rfl ?_
      refine G_get (pc' := 49) C wD_24 rfl 0 (by decide) rfl iu_X5_valueByPoints_X5 lk_X5_valueByPoints_9 dX5_valueByPoints_46 rfl ?_
      refine G_iload_n (pc' := 50) C dX5_valueByPoints_49 2 rfl rfl ?_
      refine G_bipush (v := (12 : Int32)) (pc' := 52) C dX5_valueByPoints_50 (by decide) rfl ?_
      refine G_imul (pc' := 53) C dX5_valueByPoints_52 rfl ?_
      refine G_iload_n (pc' := 54) C dX5_valueByPoints_53 3 rfl rfl ?_
      refine G_iadd (pc' := 55) C dX5_valueByPoints_54 rfl ?_
      refine G_iald (pc' := 56) C wD_25 dX5_valueByPoints_55 rfl hf (fun v6 hf => ?_)
      refine G_istore (lv' := [(0, .ref (za ω 24)), (1, .int b1), (2, .int b2), (3, .int y3), (4, .int v6)]) (pc' := 58) C dX5_valueByPoints_56 (by decide) [1, 2, 3, 4, 0] rfl rfl ?_
      refine G_iload (pc' := 60) C dX5_valueByPoints_58 4 rfl rfl ?_
      refine G_callNp (pc' := 63) C [.int v6] (c_X7_isBookNumber ω N τ v6) sg_X7_isBookNumber gX5_valueByPoints_X7_isBookNumber_n60 lk_X5_valueByPoints_60n lk_X5_valueByPoints_60s lk_X5_valueByPoints_60i ⟨Nat.le_of_ble_eq_true rfl, Nat.le_of_ble_eq_true rfl⟩ rfl rfl (Nat.le_of_ble_eq_true rfl) dX5_valueByPoints_60 rfl hf (fun v7 hf => ?_)
      refine G_if_eq (tgt := 79) (pc' := 66) C dX5_valueByPoints_63 (by decide) rfl hf (fun hf => ?_) (fun hf => ?_)
      · refine G_iincL (v := y3 + (1 : Int32)) (pc' := 82) C dX5_valueByPoints_79 3 rfl rfl (by decide) [1, 2, 3, 0] (fun x8 => [(0, .ref (za ω 24)), (1, .int b1), (2, .int b2), (3, .int x8)]) (fun _ => rfl) rfl hf (fun x8 hf => ?_)
        refine G_goto (pc' := 39) C dX5_valueByPoints_82 (by decide) ?_
        exact ih x8 τ hf
      · refine G_aload_n (pc' := 67) C dX5_valueByPoints_66 0 rfl rfl ?_
        refine G_get (pc' := 70) C wD_24 rfl 3 (by decide) rfl iu_X5_valueByPoints_X5 lk_X5_valueByPoints_21 dX5_valueByPoints_67 rfl ?_
        refine G_iload (pc' := 72) C dX5_valueByPoints_70 4 rfl rfl ?_
        refine G_dup2 (pc' := 73) C dX5_valueByPoints_72 rfl rfl rfl ?_
        refine G_iald (pc' := 74) C wD_28 dX5_valueByPoints_73 rfl hf (fun v9 hf => ?_)
        refine G_iload_n (pc' := 75) C dX5_valueByPoints_74 1 rfl rfl ?_
        refine G_iload_n (pc' := 76) C dX5_valueByPoints_75 3 rfl rfl ?_
        refine G_isub (pc' := 77) C dX5_valueByPoints_76 rfl ?_
        refine G_iadd (pc' := 78) C dX5_valueByPoints_77 rfl ?_
        refine G_iast (pc' := 79) C wD_28 wD_s28 dX5_valueByPoints_78 rfl hf (fun s10 hf => ?_)
        refine G_iincL (v := y3 + (1 : Int32)) (pc' := 82) C dX5_valueByPoints_79 3 rfl rfl (by decide) [1, 2, 3, 0] (fun x11 => [(0, .ref (za ω 24)), (1, .int b1), (2, .int b2), (3, .int x11)]) (fun _ => rfl) rfl hf (fun x11 hf => ?_)
        refine G_goto (pc' := 39) C dX5_valueByPoints_82 (by decide) ?_
        exact ih x11 s10 hf
set_option maxHeartbeats 4000000 in
set_option maxRecDepth 100000 in
theorem w_X5_valueByPoints_31 {ω : ZO} {κ : ZK} {N : Nat} {b1 : Int32} {K : Int32 → ZS → Option (ZS)} {r0 : ZS} (C : CX ω wD κ cX5_valueByPoints wsX5_valueByPoints RX5 none 5 rm_X5_valueByPoints) (hR : zRV ω wD κ (fun τ => τ = r0)) (HK : ∀ (y2 : Int32) (τ : ZS), K y2 τ = some r0 → G ω wD κ 91 [(0, .ref (za ω 24))] [] τ) : ∀ (n : Nat) (y2 : Int32) (τ : ZS), L_X5_valueByPoints_31 N b1 K n y2 τ = some r0 → G ω wD κ 31 [(0, .ref (za ω 24)), (1, .int b1), (2, .int y2)] [] τ := by
  intro n
  induction n with
  | zero => intro  y2 τ hf; exact absurd (show none = some r0 from hf) (fun h => nomatch h)
  | succ n ih =>
    intro y2 τ hf
    have hf : B_X5_valueByPoints_31 N b1 K (L_X5_valueByPoints_31 N b1 K n) y2 τ = some r0 := hf
    unfold B_X5_valueByPoints_31 at hf
    refine G_iload_n (pc' := 32) C dX5_valueByPoints_31 2 rfl rfl ?_
    refine G_bipush (v := (7 : Int32)) (pc' := 34) C dX5_valueByPoints_32 (by decide) rfl ?_
    refine G_icmp_ge (tgt := 91) (pc' := 37) C dX5_valueByPoints_34 (by decide) rfl hf (fun hf => ?_) (fun hf => ?_)
    · refine G_sub (lv' := [(0, .ref (za ω 24))]) C [0] rfl ?_
      exact HK y2 τ hf
    · refine G_iconst (v := (0 : Int32)) (pc' := 38) C dX5_valueByPoints_37 (by decide) rfl ?_
      refine G_istore_n (lv' := [(0, .ref (za ω 24)), (1, .int b1), (2, .int y2), (3, .int (0 : Int32))]) (pc' := 39) C dX5_valueByPoints_38 (by decide) [1, 2, 3, 0] rfl rfl ?_
      refine w_X5_valueByPoints_39 C hR (fun y12 s13 hf => ?_) N (0 : Int32) τ hf
      refine G_iincL (v := y2 + (1 : Int32)) (pc' := 88) C dX5_valueByPoints_85 2 rfl rfl (by decide) [1, 2, 0] (fun x14 => [(0, .ref (za ω 24)), (1, .int b1), (2, .int x14)]) (fun _ => rfl) rfl hf (fun x14 hf => ?_)
      refine G_goto (pc' := 31) C dX5_valueByPoints_88 (by decide) ?_
      exact ih x14 s13 hf
set_option maxHeartbeats 4000000 in
set_option maxRecDepth 100000 in
theorem c_X5_valueByPoints (ω : ZO) (N : Nat) (σ : ZS) : ZVs ω wD yX5_valueByPoints wsX5_valueByPoints rm_X5_valueByPoints [.ref (za ω 24)] σ (f_X5_valueByPoints N σ) := by
  intro r0 hf
  refine ZV.go (cc := cX5_valueByPoints) (maxL := 5) (ret := none) (own := RX5) (lv := [(0, .ref (za ω 24))]) (by decide) rfl rfl (Nat.le_of_ble_eq_true rfl) rfl (fun κ C hR => ?_)
  unfold f_X5_valueByPoints at hf
  refine G_aload_n (pc' := 1) C dX5_valueByPoints_0 0 rfl rfl ?_
  refine G_get (pc' := 4) C wD_24 rfl 7 (by decide) rfl iu_X5_valueByPoints_X5 lk_X5_valueByPoints_33 dX5_valueByPoints_1 rfl ?_
  refine G_callSp (pc' := 7) C [.int (σ 24 7)] (c_J6_bitCount_0f7a4 ω N σ (σ 24 7)) sg_J6_bitCount_0f7a4 gX5_valueByPoints_J6_bitCount_0f7a4 ⟨Nat.le_of_ble_eq_true rfl, Nat.le_of_ble_eq_true rfl⟩ rfl rfl (Nat.le_of_ble_eq_true rfl) dX5_valueByPoints_4 rfl hf (fun v1 hf => ?_)
  refine G_istore_n (lv' := [(0, .ref (za ω 24)), (1, .int v1)]) (pc' := 8) C dX5_valueByPoints_7 (by decide) [1, 0] rfl rfl ?_
  refine G_iconst (v := (0 : Int32)) (pc' := 9) C dX5_valueByPoints_8 (by decide) rfl ?_
  refine G_istore_n (lv' := [(0, .ref (za ω 24)), (1, .int v1), (2, .int (0 : Int32))]) (pc' := 10) C dX5_valueByPoints_9 (by decide) [1, 2, 0] rfl rfl ?_
  refine w_X5_valueByPoints_10 C hR (fun y4 s5 hf => ?_) N (0 : Int32) σ hf
  refine G_iconst (v := (0 : Int32)) (pc' := 30) C dX5_valueByPoints_29 (by decide) rfl ?_
  refine G_istore_n (lv' := [(0, .ref (za ω 24)), (1, .int v1), (2, .int (0 : Int32))]) (pc' := 31) C dX5_valueByPoints_30 (by decide) [1, 2, 0] rfl rfl ?_
  refine w_X5_valueByPoints_31 C hR (fun y15 s16 hf => ?_) N (0 : Int32) s5 hf
  exact G_vret C hR dX5_valueByPoints_91 (Option.some.inj hf)
theorem iu_X5_rankInto_X5 : ∀ w ∈ wsX50, w ∈ wsX5_rankInto := by decide +kernel
theorem lk_X5_rankInto_18 : Cond.fieldLink RX5 18 "PrizeDesk$Tally" "ties" "[I" ∈ wsX5_rankInto := by decide +kernel
theorem lk_X5_rankInto_21 : Cond.fieldLink RX5 21 "PrizeDesk$Tally" "values" "[I" ∈ wsX5_rankInto := by decide +kernel
theorem lk_X5_rankInto_33 : Cond.fieldLink RX5 33 "PrizeDesk$Tally" "list" "I" ∈ wsX5_rankInto := by decide +kernel
abbrev rm_X5_rankInto : Room := { frames := 3, cells := 0, slots := 0, locals := 69 }
theorem sg_X5_rankInto : ZG yX5_rankInto wsX5_rankInto cX5_rankInto 3 none RX5 1 rm_X5_rankInto := ⟨⟨_, rfl⟩, by decide +kernel, rfl, rfl⟩
set_option maxHeartbeats 4000000 in
set_option maxRecDepth 100000 in
theorem w_X5_rankInto_2 {ω : ZO} {κ : ZK} {N : Nat} {K : Int32 → ZS → Option (ZS)} {r0 : ZS} (C : CX ω wD κ cX5_rankInto wsX5_rankInto RX5 none 3 rm_X5_rankInto) (hR : zRV ω wD κ (fun τ => τ = r0)) (HK : ∀ (y2 : Int32) (τ : ZS), K y2 τ = some r0 → G ω wD κ 35 [(0, .ref (za ω 24)), (1, .ref (za ω 32))] [] τ) : ∀ (n : Nat) (y2 : Int32) (τ : ZS), L_X5_rankInto_2 N K n y2 τ = some r0 → G ω wD κ 2 [(0, .ref (za ω 24)), (1, .ref (za ω 32)), (2, .int y2)] [] τ := by
  intro n
  induction n with
  | zero => intro  y2 τ hf; exact absurd (show none = some r0 from hf) (fun h => nomatch h)
  | succ n ih =>
    intro y2 τ hf
    have hf : B_X5_rankInto_2 N K (L_X5_rankInto_2 N K n) y2 τ = some r0 := hf
    unfold B_X5_rankInto_2 at hf
    refine G_iload_n (pc' := 3) C dX5_rankInto_2 2 rfl rfl ?_
    refine G_bipush (v := (24 : Int32)) (pc' := 5) C dX5_rankInto_3 (by decide) rfl ?_
    refine G_icmp_ge (tgt := 35) (pc' := 8) C dX5_rankInto_5 (by decide) rfl hf (fun hf => ?_) (fun hf => ?_)
    · refine G_sub (lv' := [(0, .ref (za ω 24)), (1, .ref (za ω 32))]) C [0, 1] rfl ?_
      exact HK y2 τ hf
    · refine G_aload_n (pc' := 9) C dX5_rankInto_8 1 rfl rfl ?_
      refine G_iload_n (pc' := 10) C dX5_rankInto_9 2 rfl rfl ?_
      refine G_bipush (v := (32 : Int32)) (pc' := 12) C dX5_rankInto_10 (by decide) rfl ?_
      refine G_aload_n (pc' := 13) C dX5_rankInto_12 0 rfl rfl ?_
      refine G_get (pc' := 16) C wD_24 rfl 3 (by decide) rfl iu_X5_rankInto_X5 lk_X5_rankInto_21 dX5_rankInto_13 rfl ?_
      refine G_iload_n (pc' := 17) C dX5_rankInto_16 2 rfl rfl ?_
      refine G_iald (pc' := 18) C wD_28 dX5_rankInto_17 rfl hf (fun v1 hf => ?_)
      refine G_imul (pc' := 19) C dX5_rankInto_18 rfl ?_
      refine G_aload_n (pc' := 20) C dX5_rankInto_19 0 rfl rfl ?_
      refine G_get (pc' := 23) C wD_24 rfl 2 (by decide) rfl iu_X5_rankInto_X5 lk_X5_rankInto_18 dX5_rankInto_20 rfl ?_
      refine G_iload_n (pc' := 24) C dX5_rankInto_23 2 rfl rfl ?_
      refine G_iald (pc' := 25) C wD_27 dX5_rankInto_24 rfl hf (fun v2 hf => ?_)
      refine G_iadd (pc' := 26) C dX5_rankInto_25 rfl ?_
      refine G_callVv (pc' := 29) C [.int y2, .int (((32 : Int32) * v1) + v2)] (c_X2_setKey ω N τ y2 (((32 : Int32) * v1) + v2)) sg_X2_setKey gX5_rankInto_X2_setKey wD_32 rfl ⟨Nat.le_of_ble_eq_true rfl, Nat.le_of_ble_eq_true rfl⟩ rfl rfl (Nat.le_of_ble_eq_true rfl) dX5_rankInto_26 rfl hf (fun s3 hf => ?_)
      refine G_iincL (v := y2 + (1 : Int32)) (pc' := 32) C dX5_rankInto_29 2 rfl rfl (by decide) [1, 2, 0] (fun x4 => [(0, .ref (za ω 24)), (1, .ref (za ω 32)), (2, .int x4)]) (fun _ => rfl) rfl hf (fun x4 hf => ?_)
      refine G_goto (pc' := 2) C dX5_rankInto_32 (by decide) ?_
      exact ih x4 s3 hf
set_option maxHeartbeats 4000000 in
set_option maxRecDepth 100000 in
theorem c_X5_rankInto (ω : ZO) (N : Nat) (σ : ZS) : ZVs ω wD yX5_rankInto wsX5_rankInto rm_X5_rankInto [.ref (za ω 24), .ref (za ω 32)] σ (f_X5_rankInto N σ) := by
  intro r0 hf
  refine ZV.go (cc := cX5_rankInto) (maxL := 3) (ret := none) (own := RX5) (lv := [(0, .ref (za ω 24)), (1, .ref (za ω 32))]) (by decide) rfl rfl (Nat.le_of_ble_eq_true rfl) rfl (fun κ C hR => ?_)
  unfold f_X5_rankInto at hf
  refine G_iconst (v := (0 : Int32)) (pc' := 1) C dX5_rankInto_0 (by decide) rfl ?_
  refine G_istore_n (lv' := [(0, .ref (za ω 24)), (1, .ref (za ω 32)), (2, .int (0 : Int32))]) (pc' := 2) C dX5_rankInto_1 (by decide) [1, 2, 0] rfl rfl ?_
  refine w_X5_rankInto_2 C hR (fun y5 s6 hf => ?_) N (0 : Int32) σ hf
  refine G_aload_n (pc' := 36) C dX5_rankInto_35 1 rfl rfl ?_
  refine G_aload_n (pc' := 37) C dX5_rankInto_36 0 rfl rfl ?_
  refine G_get (pc' := 40) C wD_24 rfl 7 (by decide) rfl iu_X5_rankInto_X5 lk_X5_rankInto_33 dX5_rankInto_37 rfl ?_
  refine G_bipush (v := (24 : Int32)) (pc' := 42) C dX5_rankInto_40 (by decide) rfl ?_
  refine G_callVv (pc' := 45) C [.int (s6 24 7), .int (24 : Int32)] (c_X2_draw ω N s6 (s6 24 7) (24 : Int32)) sg_X2_draw gX5_rankInto_X2_draw wD_32 rfl ⟨Nat.le_of_ble_eq_true rfl, Nat.le_of_ble_eq_true rfl⟩ rfl rfl (Nat.le_of_ble_eq_true rfl) dX5_rankInto_42 rfl hf (fun s7 hf => ?_)
  exact G_vret C hR dX5_rankInto_45 (Option.some.inj hf)
theorem lk_X5_leadOf_60n : Cond.methodLinkNest RX5 60 yX7_isBookNumber RX7 ∈ zNws := by decide +kernel
theorem lk_X5_leadOf_60s : Cond.static yX7_isBookNumber ∈ wsX5_leadOf := by decide +kernel
theorem lk_X5_leadOf_60i : Cond.initialized yX7_isBookNumber.cls ∈ wsX5_leadOf := by decide +kernel
theorem iu_X5_leadOf_X5 : ∀ w ∈ wsX50, w ∈ wsX5_leadOf := by decide +kernel
theorem lk_X5_leadOf_15 : Cond.fieldLink RX5 15 "PrizeDesk$Tally" "places" "[I" ∈ wsX5_leadOf := by decide +kernel
abbrev rm_X5_leadOf : Room := { frames := 1, cells := 0, slots := 0, locals := 20 }
theorem sg_X5_leadOf : ZG yX5_leadOf wsX5_leadOf cX5_leadOf 7 (some .int) RX5 2 rm_X5_leadOf := ⟨⟨_, rfl⟩, by decide +kernel, rfl, rfl⟩
set_option maxHeartbeats 4000000 in
set_option maxRecDepth 100000 in
theorem w_X5_leadOf_21 {ω : ZO} {κ : ZK} {N : Nat} {σ : ZS} {b1 : Int32} {b2 : Int32} {K : Int32 → Int32 → Option (Int32)} {r0 : Int32} (C : CX ω wD κ cX5_leadOf wsX5_leadOf RX5 (some .int) 7 rm_X5_leadOf) (hR : zRI ω wD κ (fun v τ => v = r0 ∧ τ = σ)) (HK : ∀ (y3 : Int32) (y4 : Int32), K y3 y4 = some r0 → G ω wD κ 85 [(0, .ref (za ω 24)), (3, .int y3)] [] σ) : ∀ (n : Nat) (y3 : Int32) (y4 : Int32), L_X5_leadOf_21 N σ b1 b2 K n y3 y4 = some r0 → G ω wD κ 21 [(0, .ref (za ω 24)), (1, .int b1), (2, .int b2), (3, .int y3), (4, .int y4)] [] σ := by
  intro n
  induction n with
  | zero => intro  y3 y4 hf; exact absurd (show none = some r0 from hf) (fun h => nomatch h)
  | succ n ih =>
    intro y3 y4 hf
    have hf : B_X5_leadOf_21 N σ b1 b2 K (L_X5_leadOf_21 N σ b1 b2 K n) y3 y4 = some r0 := hf
    unfold B_X5_leadOf_21 at hf
    refine G_iload (pc' := 23) C dX5_leadOf_21 4 rfl rfl ?_
    refine G_bipush (v := (7 : Int32)) (pc' := 25) C dX5_leadOf_23 (by decide) rfl ?_
    refine G_icmp_ge (tgt := 85) (pc' := 28) C dX5_leadOf_25 (by decide) rfl hf (fun hf => ?_) (fun hf => ?_)
    · refine G_sub (lv' := [(0, .ref (za ω 24)), (3, .int y3)]) C [0, 3] rfl ?_
      exact HK y3 y4 hf
    · refine G_aload_n (pc' := 29) C dX5_leadOf_28 0 rfl rfl ?_
      refine G_get (pc' := 32) C wD_24 rfl 1 (by decide) rfl iu_X5_leadOf_X5 lk_X5_leadOf_15 dX5_leadOf_29 rfl ?_
      refine G_iload (pc' := 34) C dX5_leadOf_32 4 rfl rfl ?_
      refine G_bipush (v := (24 : Int32)) (pc' := 36) C dX5_leadOf_34 (by decide) rfl ?_
      refine G_imul (pc' := 37) C dX5_leadOf_36 rfl ?_
      refine G_iload_n (pc' := 38) C dX5_leadOf_37 1 rfl rfl ?_
      refine G_iadd (pc' := 39) C dX5_leadOf_38 rfl ?_
      refine G_iald (pc' := 40) C wD_26 dX5_leadOf_39 rfl hf (fun v3 hf => ?_)
      refine G_istore (lv' := [(0, .ref (za ω 24)), (1, .int b1), (2, .int b2), (3, .int y3), (4, .int y4), (5, .int v3)]) (pc' := 42) C dX5_leadOf_40 (by decide) [1, 2, 3, 4, 5, 0] rfl rfl ?_
      refine G_aload_n (pc' := 43) C dX5_leadOf_42 0 rfl rfl ?_
      refine G_get (pc' := 46) C wD_24 rfl 1 (by decide) rfl iu_X5_leadOf_X5 lk_X5_leadOf_15 dX5_leadOf_43 rfl ?_
      refine G_iload (pc' := 48) C dX5_leadOf_46 4 rfl rfl ?_
      refine G_bipush (v := (24 : Int32)) (pc' := 50) C dX5_leadOf_48 (by decide) rfl ?_
      refine G_imul (pc' := 51) C dX5_leadOf_50 rfl ?_
      refine G_iload_n (pc' := 52) C dX5_leadOf_51 2 rfl rfl ?_
      refine G_iadd (pc' := 53) C dX5_leadOf_52 rfl ?_
      refine G_iald (pc' := 54) C wD_26 dX5_leadOf_53 rfl hf (fun v4 hf => ?_)
      refine G_istore (lv' := [(0, .ref (za ω 24)), (1, .int b1), (2, .int b2), (3, .int y3), (4, .int y4), (5, .int v3), (6, .int v4)]) (pc' := 56) C dX5_leadOf_54 (by decide) [1, 2, 3, 4, 5, 6, 0] rfl rfl ?_
      refine G_iload (pc' := 58) C dX5_leadOf_56 5 rfl rfl ?_
      refine G_iload (pc' := 60) C dX5_leadOf_58 6 rfl rfl ?_
      refine G_icmp_ge (tgt := 69) (pc' := 63) C dX5_leadOf_60 (by decide) rfl hf (fun hf => ?_) (fun hf => ?_)
      · refine G_iload (pc' := 71) C dX5_leadOf_69 6 rfl rfl ?_
        refine G_iload (pc' := 73) C dX5_leadOf_71 5 rfl rfl ?_
        refine G_icmp_ge (tgt := 79) (pc' := 76) C dX5_leadOf_73 (by decide) rfl hf (fun hf => ?_) (fun hf => ?_)
        · refine G_iincL (v := y4 + (1 : Int32)) (pc' := 82) C dX5_leadOf_79 4 rfl rfl (by decide) [1, 2, 3, 4, 0] (fun x5 => [(0, .ref (za ω 24)), (1, .int b1), (2, .int b2), (3, .int y3), (4, .int x5)]) (fun _ => rfl) rfl hf (fun x5 hf => ?_)
          refine G_goto (pc' := 21) C dX5_leadOf_82 (by decide) ?_
          exact ih y3 x5 hf
        · refine G_iincL (v := y3 + (-1 : Int32)) (pc' := 79) C dX5_leadOf_76 3 rfl rfl (by decide) [1, 2, 3, 0, 4] (fun x6 => [(0, .ref (za ω 24)), (1, .int b1), (2, .int b2), (3, .int x6), (4, .int y4)]) (fun _ => rfl) rfl hf (fun x6 hf => ?_)
          refine G_iincL (v := y4 + (1 : Int32)) (pc' := 82) C dX5_leadOf_79 4 rfl rfl (by decide) [1, 2, 3, 4, 0] (fun x7 => [(0, .ref (za ω 24)), (1, .int b1), (2, .int b2), (3, .int x6), (4, .int x7)]) (fun _ => rfl) rfl hf (fun x7 hf => ?_)
          refine G_goto (pc' := 21) C dX5_leadOf_82 (by decide) ?_
          exact ih x6 x7 hf
      · refine G_iincL (v := y3 + (1 : Int32)) (pc' := 66) C dX5_leadOf_63 3 rfl rfl (by decide) [1, 2, 3, 0, 4] (fun x8 => [(0, .ref (za ω 24)), (1, .int b1), (2, .int b2), (3, .int x8), (4, .int y4)]) (fun _ => rfl) rfl hf (fun x8 hf => ?_)
        refine G_goto (pc' := 79) C dX5_leadOf_66 (by decide) ?_
        refine G_iincL (v := y4 + (1 : Int32)) (pc' := 82) C dX5_leadOf_79 4 rfl rfl (by decide) [1, 2, 3, 4, 0] (fun x9 => [(0, .ref (za ω 24)), (1, .int b1), (2, .int b2), (3, .int x8), (4, .int x9)]) (fun _ => rfl) rfl hf (fun x9 hf => ?_)
        refine G_goto (pc' := 21) C dX5_leadOf_82 (by decide) ?_
        exact ih x8 x9 hf
set_option maxHeartbeats 4000000 in
set_option maxRecDepth 100000 in
theorem c_X5_leadOf (ω : ZO) (N : Nat) (σ : ZS) (a1 : Int32) (a2 : Int32) : ZIp ω wD yX5_leadOf wsX5_leadOf rm_X5_leadOf [.ref (za ω 24), .int a1, .int a2] σ (f_X5_leadOf N σ a1 a2) := by
  intro r0 hf
  refine ZI.go (cc := cX5_leadOf) (maxL := 7) (ret := (some .int)) (own := RX5) (lv := [(0, .ref (za ω 24)), (1, .int a1), (2, .int a2)]) (by decide) rfl rfl (Nat.le_of_ble_eq_true rfl) rfl (fun κ C hR => ?_)
  unfold f_X5_leadOf at hf
  refine G_iconst (v := (0 : Int32)) (pc' := 1) C dX5_leadOf_0 (by decide) rfl ?_
  refine G_istore_n (lv' := [(0, .ref (za ω 24)), (1, .int a1), (2, .int a2), (3, .int (0 : Int32))]) (pc' := 2) C dX5_leadOf_1 (by decide) [1, 2, 3, 0] rfl rfl ?_
  refine G_iload_n (pc' := 3) C dX5_leadOf_2 1 rfl rfl ?_
  refine G_callNp (pc' := 6) C [.int a1] (c_X7_isBookNumber ω N σ a1) sg_X7_isBookNumber gX5_leadOf_X7_isBookNumber_n60 lk_X5_leadOf_60n lk_X5_leadOf_60s lk_X5_leadOf_60i ⟨Nat.le_of_ble_eq_true rfl, Nat.le_of_ble_eq_true rfl⟩ rfl rfl (Nat.le_of_ble_eq_true rfl) dX5_leadOf_3 rfl hf (fun v1 hf => ?_)
  refine G_if_eq (tgt := 16) (pc' := 9) C dX5_leadOf_6 (by decide) rfl hf (fun hf => ?_) (fun hf => ?_)
  · refine G_iload_n (pc' := 17) C dX5_leadOf_16 3 rfl rfl ?_
    exact G_iret C hR dX5_leadOf_17 ⟨Option.some.inj hf, rfl⟩
  · refine G_iload_n (pc' := 10) C dX5_leadOf_9 2 rfl rfl ?_
    refine G_callNp (pc' := 13) C [.int a2] (c_X7_isBookNumber ω N σ a2) sg_X7_isBookNumber gX5_leadOf_X7_isBookNumber_n60 lk_X5_leadOf_60n lk_X5_leadOf_60s lk_X5_leadOf_60i ⟨Nat.le_of_ble_eq_true rfl, Nat.le_of_ble_eq_true rfl⟩ rfl rfl (Nat.le_of_ble_eq_true rfl) dX5_leadOf_10 rfl hf (fun v2 hf => ?_)
    refine G_if_ne (tgt := 18) (pc' := 16) C dX5_leadOf_13 (by decide) rfl hf (fun hf => ?_) (fun hf => ?_)
    · refine G_iload_n (pc' := 17) C dX5_leadOf_16 3 rfl rfl ?_
      exact G_iret C hR dX5_leadOf_17 ⟨Option.some.inj hf, rfl⟩
    · refine G_iconst (v := (0 : Int32)) (pc' := 19) C dX5_leadOf_18 (by decide) rfl ?_
      refine G_istore (lv' := [(0, .ref (za ω 24)), (1, .int a1), (2, .int a2), (3, .int (0 : Int32)), (4, .int (0 : Int32))]) (pc' := 21) C dX5_leadOf_19 (by decide) [1, 2, 3, 4, 0] rfl rfl ?_
      refine w_X5_leadOf_21 C hR (fun y10 y11 hf => ?_) N (0 : Int32) (0 : Int32) hf
      refine G_iload_n (pc' := 86) C dX5_leadOf_85 1 rfl rfl ?_
      exact G_iret C hR dX5_leadOf_86 ⟨Option.some.inj hf, rfl⟩
theorem iu_X5_comparePairs_X5 : ∀ w ∈ wsX50, w ∈ wsX5_comparePairs := by decide +kernel
theorem lk_X5_comparePairs_27 : Cond.fieldLink RX5 27 "PrizeDesk$Tally" "beaten" "[I" ∈ wsX5_comparePairs := by decide +kernel
theorem lk_X5_comparePairs_92n : Cond.methodLinkNest RX5 92 yX7_bit RX7 ∈ zNws := by decide +kernel
theorem lk_X5_comparePairs_92s : Cond.static yX7_bit ∈ wsX5_comparePairs := by decide +kernel
theorem lk_X5_comparePairs_92i : Cond.initialized yX7_bit.cls ∈ wsX5_comparePairs := by decide +kernel
abbrev rm_X5_comparePairs : Room := { frames := 2, cells := 0, slots := 0, locals := 46 }
theorem sg_X5_comparePairs : ZG yX5_comparePairs wsX5_comparePairs cX5_comparePairs 4 none RX5 0 rm_X5_comparePairs := ⟨⟨_, rfl⟩, by decide +kernel, rfl, rfl⟩
set_option maxHeartbeats 4000000 in
set_option maxRecDepth 100000 in
theorem w_X5_comparePairs_2 {ω : ZO} {κ : ZK} {N : Nat} {K : Int32 → ZS → Option (ZS)} {r0 : ZS} (C : CX ω wD κ cX5_comparePairs wsX5_comparePairs RX5 none 4 rm_X5_comparePairs) (hR : zRV ω wD κ (fun τ => τ = r0)) (HK : ∀ (y1 : Int32) (τ : ZS), K y1 τ = some r0 → G ω wD κ 21 [(0, .ref (za ω 24))] [] τ) : ∀ (n : Nat) (y1 : Int32) (τ : ZS), L_X5_comparePairs_2 N K n y1 τ = some r0 → G ω wD κ 2 [(0, .ref (za ω 24)), (1, .int y1)] [] τ := by
  intro n
  induction n with
  | zero => intro  y1 τ hf; exact absurd (show none = some r0 from hf) (fun h => nomatch h)
  | succ n ih =>
    intro y1 τ hf
    have hf : B_X5_comparePairs_2 N K (L_X5_comparePairs_2 N K n) y1 τ = some r0 := hf
    unfold B_X5_comparePairs_2 at hf
    refine G_iload_n (pc' := 3) C dX5_comparePairs_2 1 rfl rfl ?_
    refine G_bipush (v := (24 : Int32)) (pc' := 5) C dX5_comparePairs_3 (by decide) rfl ?_
    refine G_icmp_ge (tgt := 21) (pc' := 8) C dX5_comparePairs_5 (by decide) rfl hf (fun hf => ?_) (fun hf => ?_)
    · refine G_sub (lv' := [(0, .ref (za ω 24))]) C [0] rfl ?_
      exact HK y1 τ hf
    · refine G_aload_n (pc' := 9) C dX5_comparePairs_8 0 rfl rfl ?_
      refine G_get (pc' := 12) C wD_24 rfl 5 (by decide) rfl iu_X5_comparePairs_X5 lk_X5_comparePairs_27 dX5_comparePairs_9 rfl ?_
      refine G_iload_n (pc' := 13) C dX5_comparePairs_12 1 rfl rfl ?_
      refine G_iconst (v := (0 : Int32)) (pc' := 14) C dX5_comparePairs_13 (by decide) rfl ?_
      refine G_iast (pc' := 15) C wD_30 wD_s30 dX5_comparePairs_14 rfl hf (fun s1 hf => ?_)
      refine G_iincL (v := y1 + (1 : Int32)) (pc' := 18) C dX5_comparePairs_15 1 rfl rfl (by decide) [1, 0] (fun x2 => [(0, .ref (za ω 24)), (1, .int x2)]) (fun _ => rfl) rfl hf (fun x2 hf => ?_)
      refine G_goto (pc' := 2) C dX5_comparePairs_18 (by decide) ?_
      exact ih x2 s1 hf
set_option maxHeartbeats 4000000 in
set_option maxRecDepth 100000 in
theorem w_X5_comparePairs_33 {ω : ZO} {κ : ZK} {N : Nat} {b1 : Int32} {K : Int32 → ZS → Option (ZS)} {r0 : ZS} (C : CX ω wD κ cX5_comparePairs wsX5_comparePairs RX5 none 4 rm_X5_comparePairs) (hR : zRV ω wD κ (fun τ => τ = r0)) (HK : ∀ (y2 : Int32) (τ : ZS), K y2 τ = some r0 → G ω wD κ 109 [(0, .ref (za ω 24)), (1, .int b1)] [] τ) : ∀ (n : Nat) (y2 : Int32) (τ : ZS), L_X5_comparePairs_33 N b1 K n y2 τ = some r0 → G ω wD κ 33 [(0, .ref (za ω 24)), (1, .int b1), (2, .int y2)] [] τ := by
  intro n
  induction n with
  | zero => intro  y2 τ hf; exact absurd (show none = some r0 from hf) (fun h => nomatch h)
  | succ n ih =>
    intro y2 τ hf
    have hf : B_X5_comparePairs_33 N b1 K (L_X5_comparePairs_33 N b1 K n) y2 τ = some r0 := hf
    unfold B_X5_comparePairs_33 at hf
    refine G_iload_n (pc' := 34) C dX5_comparePairs_33 2 rfl rfl ?_
    refine G_bipush (v := (24 : Int32)) (pc' := 36) C dX5_comparePairs_34 (by decide) rfl ?_
    refine G_icmp_ge (tgt := 109) (pc' := 39) C dX5_comparePairs_36 (by decide) rfl hf (fun hf => ?_) (fun hf => ?_)
    · refine G_sub (lv' := [(0, .ref (za ω 24)), (1, .int b1)]) C [0, 1] rfl ?_
      exact HK y2 τ hf
    · refine G_aload_n (pc' := 40) C dX5_comparePairs_39 0 rfl rfl ?_
      refine G_iload_n (pc' := 41) C dX5_comparePairs_40 1 rfl rfl ?_
      refine G_callVp (pc' := 44) C [.int b1] (c_X5_isListed ω N τ b1) sg_X5_isListed gX5_comparePairs_X5_isListed wD_24 rfl ⟨Nat.le_of_ble_eq_true rfl, Nat.le_of_ble_eq_true rfl⟩ rfl rfl (Nat.le_of_ble_eq_true rfl) dX5_comparePairs_41 rfl hf (fun v6 hf => ?_)
      refine G_if_eq (tgt := 109) (pc' := 47) C dX5_comparePairs_44 (by decide) rfl hf (fun hf => ?_) (fun hf => ?_)
      · refine G_sub (lv' := [(0, .ref (za ω 24)), (1, .int b1)]) C [0, 1] rfl ?_
        exact HK y2 τ hf
      · refine G_aload_n (pc' := 48) C dX5_comparePairs_47 0 rfl rfl ?_
        refine G_iload_n (pc' := 49) C dX5_comparePairs_48 2 rfl rfl ?_
        refine G_callVp (pc' := 52) C [.int y2] (c_X5_isListed ω N τ y2) sg_X5_isListed gX5_comparePairs_X5_isListed wD_24 rfl ⟨Nat.le_of_ble_eq_true rfl, Nat.le_of_ble_eq_true rfl⟩ rfl rfl (Nat.le_of_ble_eq_true rfl) dX5_comparePairs_49 rfl hf (fun v7 hf => ?_)
        refine G_if_eq (tgt := 64) (pc' := 55) C dX5_comparePairs_52 (by decide) rfl hf (fun hf => ?_) (fun hf => ?_)
        · refine G_iconst (v := (0 : Int32)) (pc' := 65) C dX5_comparePairs_64 (by decide) rfl ?_
          refine G_istore_n (lv' := [(0, .ref (za ω 24)), (1, .int b1), (2, .int y2), (3, .int (0 : Int32))]) (pc' := 66) C dX5_comparePairs_65 (by decide) [1, 2, 3, 0] rfl rfl ?_
          refine G_iload_n (pc' := 67) C dX5_comparePairs_66 3 rfl rfl ?_
          refine G_if_le (tgt := 86) (pc' := 70) C dX5_comparePairs_67 (by decide) rfl hf (fun hf => ?_) (fun hf => ?_)
          · refine G_iload_n (pc' := 87) C dX5_comparePairs_86 3 rfl rfl ?_
            refine G_if_ge (tgt := 103) (pc' := 90) C dX5_comparePairs_87 (by decide) rfl hf (fun hf => ?_) (fun hf => ?_)
            · refine G_iincL (v := y2 + (1 : Int32)) (pc' := 106) C dX5_comparePairs_103 2 rfl rfl (by decide) [1, 2, 0] (fun x8 => [(0, .ref (za ω 24)), (1, .int b1), (2, .int x8)]) (fun _ => rfl) rfl hf (fun x8 hf => ?_)
              refine G_goto (pc' := 33) C dX5_comparePairs_106 (by decide) ?_
              exact ih x8 τ hf
            · refine G_aload_n (pc' := 91) C dX5_comparePairs_90 0 rfl rfl ?_
              refine G_get (pc' := 94) C wD_24 rfl 5 (by decide) rfl iu_X5_comparePairs_X5 lk_X5_comparePairs_27 dX5_comparePairs_91 rfl ?_
              refine G_iload_n (pc' := 95) C dX5_comparePairs_94 2 rfl rfl ?_
              refine G_dup2 (pc' := 96) C dX5_comparePairs_95 rfl rfl rfl ?_
              refine G_iald (pc' := 97) C wD_30 dX5_comparePairs_96 rfl hf (fun v9 hf => ?_)
              refine G_iload_n (pc' := 98) C dX5_comparePairs_97 1 rfl rfl ?_
              refine G_callNp (pc' := 101) C [.int b1] (c_X7_bit ω N τ b1) sg_X7_bit gX5_comparePairs_X7_bit_n92 lk_X5_comparePairs_92n lk_X5_comparePairs_92s lk_X5_comparePairs_92i ⟨Nat.le_of_ble_eq_true rfl, Nat.le_of_ble_eq_true rfl⟩ rfl rfl (Nat.le_of_ble_eq_true rfl) dX5_comparePairs_98 rfl hf (fun v10 hf => ?_)
              refine G_ior (pc' := 102) C dX5_comparePairs_101 rfl ?_
              refine G_iast (pc' := 103) C wD_30 wD_s30 dX5_comparePairs_102 rfl hf (fun s11 hf => ?_)
              refine G_iincL (v := y2 + (1 : Int32)) (pc' := 106) C dX5_comparePairs_103 2 rfl rfl (by decide) [1, 2, 0] (fun x12 => [(0, .ref (za ω 24)), (1, .int b1), (2, .int x12)]) (fun _ => rfl) rfl hf (fun x12 hf => ?_)
              refine G_goto (pc' := 33) C dX5_comparePairs_106 (by decide) ?_
              exact ih x12 s11 hf
          · refine G_aload_n (pc' := 71) C dX5_comparePairs_70 0 rfl rfl ?_
            refine G_get (pc' := 74) C wD_24 rfl 5 (by decide) rfl iu_X5_comparePairs_X5 lk_X5_comparePairs_27 dX5_comparePairs_71 rfl ?_
            refine G_iload_n (pc' := 75) C dX5_comparePairs_74 1 rfl rfl ?_
            refine G_dup2 (pc' := 76) C dX5_comparePairs_75 rfl rfl rfl ?_
            refine G_iald (pc' := 77) C wD_30 dX5_comparePairs_76 rfl hf (fun v13 hf => ?_)
            refine G_iload_n (pc' := 78) C dX5_comparePairs_77 2 rfl rfl ?_
            refine G_callNp (pc' := 81) C [.int y2] (c_X7_bit ω N τ y2) sg_X7_bit gX5_comparePairs_X7_bit_n92 lk_X5_comparePairs_92n lk_X5_comparePairs_92s lk_X5_comparePairs_92i ⟨Nat.le_of_ble_eq_true rfl, Nat.le_of_ble_eq_true rfl⟩ rfl rfl (Nat.le_of_ble_eq_true rfl) dX5_comparePairs_78 rfl hf (fun v14 hf => ?_)
            refine G_ior (pc' := 82) C dX5_comparePairs_81 rfl ?_
            refine G_iast (pc' := 83) C wD_30 wD_s30 dX5_comparePairs_82 rfl hf (fun s15 hf => ?_)
            refine G_goto (pc' := 103) C dX5_comparePairs_83 (by decide) ?_
            refine G_iincL (v := y2 + (1 : Int32)) (pc' := 106) C dX5_comparePairs_103 2 rfl rfl (by decide) [1, 2, 0] (fun x16 => [(0, .ref (za ω 24)), (1, .int b1), (2, .int x16)]) (fun _ => rfl) rfl hf (fun x16 hf => ?_)
            refine G_goto (pc' := 33) C dX5_comparePairs_106 (by decide) ?_
            exact ih x16 s15 hf
        · refine G_aload_n (pc' := 56) C dX5_comparePairs_55 0 rfl rfl ?_
          refine G_iload_n (pc' := 57) C dX5_comparePairs_56 1 rfl rfl ?_
          refine G_iload_n (pc' := 58) C dX5_comparePairs_57 2 rfl rfl ?_
          refine G_callVp (pc' := 61) C [.int b1, .int y2] (c_X5_leadOf ω N τ b1 y2) sg_X5_leadOf gX5_comparePairs_X5_leadOf wD_24 rfl ⟨Nat.le_of_ble_eq_true rfl, Nat.le_of_ble_eq_true rfl⟩ rfl rfl (Nat.le_of_ble_eq_true rfl) dX5_comparePairs_58 rfl hf (fun v17 hf => ?_)
          refine G_goto (pc' := 65) C dX5_comparePairs_61 (by decide) ?_
          refine G_istore_n (lv' := [(0, .ref (za ω 24)), (1, .int b1), (2, .int y2), (3, .int v17)]) (pc' := 66) C dX5_comparePairs_65 (by decide) [1, 2, 3, 0] rfl rfl ?_
          refine G_iload_n (pc' := 67) C dX5_comparePairs_66 3 rfl rfl ?_
          refine G_if_le (tgt := 86) (pc' := 70) C dX5_comparePairs_67 (by decide) rfl hf (fun hf => ?_) (fun hf => ?_)
          · refine G_iload_n (pc' := 87) C dX5_comparePairs_86 3 rfl rfl ?_
            refine G_if_ge (tgt := 103) (pc' := 90) C dX5_comparePairs_87 (by decide) rfl hf (fun hf => ?_) (fun hf => ?_)
            · refine G_iincL (v := y2 + (1 : Int32)) (pc' := 106) C dX5_comparePairs_103 2 rfl rfl (by decide) [1, 2, 0] (fun x18 => [(0, .ref (za ω 24)), (1, .int b1), (2, .int x18)]) (fun _ => rfl) rfl hf (fun x18 hf => ?_)
              refine G_goto (pc' := 33) C dX5_comparePairs_106 (by decide) ?_
              exact ih x18 τ hf
            · refine G_aload_n (pc' := 91) C dX5_comparePairs_90 0 rfl rfl ?_
              refine G_get (pc' := 94) C wD_24 rfl 5 (by decide) rfl iu_X5_comparePairs_X5 lk_X5_comparePairs_27 dX5_comparePairs_91 rfl ?_
              refine G_iload_n (pc' := 95) C dX5_comparePairs_94 2 rfl rfl ?_
              refine G_dup2 (pc' := 96) C dX5_comparePairs_95 rfl rfl rfl ?_
              refine G_iald (pc' := 97) C wD_30 dX5_comparePairs_96 rfl hf (fun v19 hf => ?_)
              refine G_iload_n (pc' := 98) C dX5_comparePairs_97 1 rfl rfl ?_
              refine G_callNp (pc' := 101) C [.int b1] (c_X7_bit ω N τ b1) sg_X7_bit gX5_comparePairs_X7_bit_n92 lk_X5_comparePairs_92n lk_X5_comparePairs_92s lk_X5_comparePairs_92i ⟨Nat.le_of_ble_eq_true rfl, Nat.le_of_ble_eq_true rfl⟩ rfl rfl (Nat.le_of_ble_eq_true rfl) dX5_comparePairs_98 rfl hf (fun v20 hf => ?_)
              refine G_ior (pc' := 102) C dX5_comparePairs_101 rfl ?_
              refine G_iast (pc' := 103) C wD_30 wD_s30 dX5_comparePairs_102 rfl hf (fun s21 hf => ?_)
              refine G_iincL (v := y2 + (1 : Int32)) (pc' := 106) C dX5_comparePairs_103 2 rfl rfl (by decide) [1, 2, 0] (fun x22 => [(0, .ref (za ω 24)), (1, .int b1), (2, .int x22)]) (fun _ => rfl) rfl hf (fun x22 hf => ?_)
              refine G_goto (pc' := 33) C dX5_comparePairs_106 (by decide) ?_
              exact ih x22 s21 hf
          · refine G_aload_n (pc' := 71) C dX5_comparePairs_70 0 rfl rfl ?_
            refine G_get (pc' := 74) C wD_24 rfl 5 (by decide) rfl iu_X5_comparePairs_X5 lk_X5_comparePairs_27 dX5_comparePairs_71 rfl ?_
            refine G_iload_n (pc' := 75) C dX5_comparePairs_74 1 rfl rfl ?_
            refine G_dup2 (pc' := 76) C dX5_comparePairs_75 rfl rfl rfl ?_
            refine G_iald (pc' := 77) C wD_30 dX5_comparePairs_76 rfl hf (fun v23 hf => ?_)
            refine G_iload_n (pc' := 78) C dX5_comparePairs_77 2 rfl rfl ?_
            refine G_callNp (pc' := 81) C [.int y2] (c_X7_bit ω N τ y2) sg_X7_bit gX5_comparePairs_X7_bit_n92 lk_X5_comparePairs_92n lk_X5_comparePairs_92s lk_X5_comparePairs_92i ⟨Nat.le_of_ble_eq_true rfl, Nat.le_of_ble_eq_true rfl⟩ rfl rfl (Nat.le_of_ble_eq_true rfl) dX5_comparePairs_78 rfl hf (fun v24 hf => ?_)
            refine G_ior (pc' := 82) C dX5_comparePairs_81 rfl ?_
            refine G_iast (pc' := 83) C wD_30 wD_s30 dX5_comparePairs_82 rfl hf (fun s25 hf => ?_)
            refine G_goto (pc' := 103) C dX5_comparePairs_83 (by decide) ?_
            refine G_iincL (v := y2 + (1 : Int32)) (pc' := 106) C dX5_comparePairs_103 2 rfl rfl (by decide) [1, 2, 0] (fun x26 => [(0, .ref (za ω 24)), (1, .int b1), (2, .int x26)]) (fun _ => rfl) rfl hf (fun x26 hf => ?_)
            refine G_goto (pc' := 33) C dX5_comparePairs_106 (by decide) ?_
            exact ih x26 s25 hf
set_option maxHeartbeats 4000000 in
set_option maxRecDepth 100000 in
theorem w_X5_comparePairs_23 {ω : ZO} {κ : ZK} {N : Nat} {K : Int32 → ZS → Option (ZS)} {r0 : ZS} (C : CX ω wD κ cX5_comparePairs wsX5_comparePairs RX5 none 4 rm_X5_comparePairs) (hR : zRV ω wD κ (fun τ => τ = r0)) (HK : ∀ (y1 : Int32) (τ : ZS), K y1 τ = some r0 → G ω wD κ 115 [(0, .ref (za ω 24))] [] τ) : ∀ (n : Nat) (y1 : Int32) (τ : ZS), L_X5_comparePairs_23 N K n y1 τ = some r0 → G ω wD κ 23 [(0, .ref (za ω 24)), (1, .int y1)] [] τ := by
  intro n
  induction n with
  | zero => intro  y1 τ hf; exact absurd (show none = some r0 from hf) (fun h => nomatch h)
  | succ n ih =>
    intro y1 τ hf
    have hf : B_X5_comparePairs_23 N K (L_X5_comparePairs_23 N K n) y1 τ = some r0 := hf
    unfold B_X5_comparePairs_23 at hf
    refine G_iload_n (pc' := 24) C dX5_comparePairs_23 1 rfl rfl ?_
    refine G_bipush (v := (24 : Int32)) (pc' := 26) C dX5_comparePairs_24 (by decide) rfl ?_
    refine G_icmp_ge (tgt := 115) (pc' := 29) C dX5_comparePairs_26 (by decide) rfl hf (fun hf => ?_) (fun hf => ?_)
    · refine G_sub (lv' := [(0, .ref (za ω 24))]) C [0] rfl ?_
      exact HK y1 τ hf
    · refine G_iload_n (pc' := 30) C dX5_comparePairs_29 1 rfl rfl ?_
      refine G_iconst (v := (1 : Int32)) (pc' := 31) C dX5_comparePairs_30 (by decide) rfl ?_
      refine G_iadd (pc' := 32) C dX5_comparePairs_31 rfl ?_
      refine G_nm hf (fun x5 hf => ?_)
      refine G_istore_n (lv' := [(0, .ref (za ω 24)), (1, .int y1), (2, .int x5)]) (pc' := 33) C dX5_comparePairs_32 (by decide) [1, 2, 0] rfl rfl ?_
      refine w_X5_comparePairs_33 C hR (fun y27 s28 hf => ?_) N x5 τ hf
      refine G_iincL (v := y1 + (1 : Int32)) (pc' := 112) C dX5_comparePairs_109 1 rfl rfl (by decide) [1, 0] (fun x29 => [(0, .ref (za ω 24)), (1, .int x29)]) (fun _ => rfl) rfl hf (fun x29 hf => ?_)
      refine G_goto (pc' := 23) C dX5_comparePairs_112 (by decide) ?_
      exact ih x29 s28 hf
set_option maxHeartbeats 4000000 in
set_option maxRecDepth 100000 in
theorem c_X5_comparePairs (ω : ZO) (N : Nat) (σ : ZS) : ZVs ω wD yX5_comparePairs wsX5_comparePairs rm_X5_comparePairs [.ref (za ω 24)] σ (f_X5_comparePairs N σ) := by
  intro r0 hf
  refine ZV.go (cc := cX5_comparePairs) (maxL := 4) (ret := none) (own := RX5) (lv := [(0, .ref (za ω 24))]) (by decide) rfl rfl (Nat.le_of_ble_eq_true rfl) rfl (fun κ C hR => ?_)
  unfold f_X5_comparePairs at hf
  refine G_iconst (v := (0 : Int32)) (pc' := 1) C dX5_comparePairs_0 (by decide) rfl ?_
  refine G_istore_n (lv' := [(0, .ref (za ω 24)), (1, .int (0 : Int32))]) (pc' := 2) C dX5_comparePairs_1 (by decide) [1, 0] rfl rfl ?_
  refine w_X5_comparePairs_2 C hR (fun y3 s4 hf => ?_) N (0 : Int32) σ hf
  refine G_iconst (v := (0 : Int32)) (pc' := 22) C dX5_comparePairs_21 (by decide) rfl ?_
  refine G_istore_n (lv' := [(0, .ref (za ω 24)), (1, .int (0 : Int32))]) (pc' := 23) C dX5_comparePairs_22 (by decide) [1, 0] rfl rfl ?_
  refine w_X5_comparePairs_23 C hR (fun y30 s31 hf => ?_) N (0 : Int32) s4 hf
  exact G_vret C hR dX5_comparePairs_115 (Option.some.inj hf)
theorem lk_X5_valueByPairs_80n : Cond.methodLinkNest RX5 80 yX7_contains RX7 ∈ zNws := by decide +kernel
theorem lk_X5_valueByPairs_80s : Cond.static yX7_contains ∈ wsX5_valueByPairs := by decide +kernel
theorem lk_X5_valueByPairs_80i : Cond.initialized yX7_contains.cls ∈ wsX5_valueByPairs := by decide +kernel
theorem iu_X5_valueByPairs_X5 : ∀ w ∈ wsX50, w ∈ wsX5_valueByPairs := by decide +kernel
theorem lk_X5_valueByPairs_21 : Cond.fieldLink RX5 21 "PrizeDesk$Tally" "values" "[I" ∈ wsX5_valueByPairs := by decide +kernel
theorem lk_X5_valueByPairs_27 : Cond.fieldLink RX5 27 "PrizeDesk$Tally" "beaten" "[I" ∈ wsX5_valueByPairs := by decide +kernel
abbrev rm_X5_valueByPairs : Room := { frames := 3, cells := 0, slots := 0, locals := 69 }
theorem sg_X5_valueByPairs : ZG yX5_valueByPairs wsX5_valueByPairs cX5_valueByPairs 3 none RX5 0 rm_X5_valueByPairs := ⟨⟨_, rfl⟩, by decide +kernel, rfl, rfl⟩
set_option maxHeartbeats 4000000 in
set_option maxRecDepth 100000 in
theorem w_X5_valueByPairs_29 {ω : ZO} {κ : ZK} {N : Nat} {b1 : Int32} {K : Int32 → ZS → Option (ZS)} {r0 : ZS} (C : CX ω wD κ cX5_valueByPairs wsX5_valueByPairs RX5 none 3 rm_X5_valueByPairs) (hR : zRV ω wD κ (fun τ => τ = r0)) (HK : ∀ (y2 : Int32) (τ : ZS), K y2 τ = some r0 → G ω wD κ 64 [(0, .ref (za ω 24)), (1, .int b1)] [] τ) : ∀ (n : Nat) (y2 : Int32) (τ : ZS), L_X5_valueByPairs_29 N b1 K n y2 τ = some r0 → G ω wD κ 29 [(0, .ref (za ω 24)), (1, .int b1), (2, .int y2)] [] τ := by
  intro n
  induction n with
  | zero => intro  y2 τ hf; exact absurd (show none = some r0 from hf) (fun h => nomatch h)
  | succ n ih =>
    intro y2 τ hf
    have hf : B_X5_valueByPairs_29 N b1 K (L_X5_valueByPairs_29 N b1 K n) y2 τ = some r0 := hf
    unfold B_X5_valueByPairs_29 at hf
    refine G_iload_n (pc' := 30) C dX5_valueByPairs_29 2 rfl rfl ?_
    refine G_bipush (v := (24 : Int32)) (pc' := 32) C dX5_valueByPairs_30 (by decide) rfl ?_
    refine G_icmp_ge (tgt := 64) (pc' := 35) C dX5_valueByPairs_32 (by decide) rfl hf (fun hf => ?_) (fun hf => ?_)
    · refine G_sub (lv' := [(0, .ref (za ω 24)), (1, .int b1)]) C [0, 1] rfl ?_
      exact HK y2 τ hf
    · refine G_aload_n (pc' := 36) C dX5_valueByPairs_35 0 rfl rfl ?_
      refine G_get (pc' := 39) C wD_24 rfl 5 (by decide) rfl iu_X5_valueByPairs_X5 lk_X5_valueByPairs_27 dX5_valueByPairs_36 rfl ?_
      refine G_iload_n (pc' := 40) C dX5_valueByPairs_39 2 rfl rfl ?_
      refine G_iald (pc' := 41) C wD_30 dX5_valueByPairs_40 rfl hf (fun v5 hf => ?_)
      refine G_iload_n (pc' := 42) C dX5_valueByPairs_41 1 rfl rfl ?_
      refine G_callNp (pc' := 45) C [.int v5, .int b1] (c_X7_contains ω N τ v5 b1) sg_X7_contains gX5_valueByPairs_X7_contains_n80 lk_X5_valueByPairs_80n lk_X5_valueByPairs_80s lk_X5_valueByPairs_80i ⟨Nat.le_of_ble_eq_true rfl, Nat.le_of_ble_eq_true rfl⟩ rfl rfl (Nat.le_of_ble_eq_true rfl) dX5_valueByPairs_42 rfl hf (fun v6 hf => ?_)
      refine G_if_eq (tgt := 58) (pc' := 48) C dX5_valueByPairs_45 (by decide) rfl hf (fun hf => ?_) (fun hf => ?_)
      · refine G_iincL (v := y2 + (1 : Int32)) (pc' := 61) C dX5_valueByPairs_58 2 rfl rfl (by decide) [1, 2, 0] (fun x7 => [(0, .ref (za ω 24)), (1, .int b1), (2, .int x7)]) (fun _ => rfl) rfl hf (fun x7 hf => ?_)
        refine G_goto (pc' := 29) C dX5_valueByPairs_61 (by decide) ?_
        exact ih x7 τ hf
      · refine G_aload_n (pc' := 49) C dX5_valueByPairs_48 0 rfl rfl ?_
        refine G_get (pc' := 52) C wD_24 rfl 3 (by decide) rfl iu_X5_valueByPairs_X5 lk_X5_valueByPairs_21 dX5_valueByPairs_49 rfl ?_
        refine G_iload_n (pc' := 53) C dX5_valueByPairs_52 1 rfl rfl ?_
        refine G_dup2 (pc' := 54) C dX5_valueByPairs_53 rfl rfl rfl ?_
        refine G_iald (pc' := 55) C wD_28 dX5_valueByPairs_54 rfl hf (fun v8 hf => ?_)
        refine G_iconst (v := (1 : Int32)) (pc' := 56) C dX5_valueByPairs_55 (by decide) rfl ?_
        refine G_isub (pc' := 57) C dX5_valueByPairs_56 rfl ?_
        refine G_iast (pc' := 58) C wD_28 wD_s28 dX5_valueByPairs_57 rfl hf (fun s9 hf => ?_)
        refine G_iincL (v := y2 + (1 : Int32)) (pc' := 61) C dX5_valueByPairs_58 2 rfl rfl (by decide) [1, 2, 0] (fun x10 => [(0, .ref (za ω 24)), (1, .int b1), (2, .int x10)]) (fun _ => rfl) rfl hf (fun x10 hf => ?_)
        refine G_goto (pc' := 29) C dX5_valueByPairs_61 (by decide) ?_
        exact ih x10 s9 hf
set_option maxHeartbeats 4000000 in
set_option maxRecDepth 100000 in
theorem w_X5_valueByPairs_6 {ω : ZO} {κ : ZK} {N : Nat} {K : Int32 → ZS → Option (ZS)} {r0 : ZS} (C : CX ω wD κ cX5_valueByPairs wsX5_valueByPairs RX5 none 3 rm_X5_valueByPairs) (hR : zRV ω wD κ (fun τ => τ = r0)) (HK : ∀ (y1 : Int32) (τ : ZS), K y1 τ = some r0 → G ω wD κ 70 [(0, .ref (za ω 24))] [] τ) : ∀ (n : Nat) (y1 : Int32) (τ : ZS), L_X5_valueByPairs_6 N K n y1 τ = some r0 → G ω wD κ 6 [(0, .ref (za ω 24)), (1, .int y1)] [] τ := by
  intro n
  induction n with
  | zero => intro  y1 τ hf; exact absurd (show none = some r0 from hf) (fun h => nomatch h)
  | succ n ih =>
    intro y1 τ hf
    have hf : B_X5_valueByPairs_6 N K (L_X5_valueByPairs_6 N K n) y1 τ = some r0 := hf
    unfold B_X5_valueByPairs_6 at hf
    refine G_iload_n (pc' := 7) C dX5_valueByPairs_6 1 rfl rfl ?_
    refine G_bipush (v := (24 : Int32)) (pc' := 9) C dX5_valueByPairs_7 (by decide) rfl ?_
    refine G_icmp_ge (tgt := 70) (pc' := 12) C dX5_valueByPairs_9 (by decide) rfl hf (fun hf => ?_) (fun hf => ?_)
    · refine G_sub (lv' := [(0, .ref (za ω 24))]) C [0] rfl ?_
      exact HK y1 τ hf
    · refine G_aload_n (pc' := 13) C dX5_valueByPairs_12 0 rfl rfl ?_
      refine G_get (pc' := 16) C wD_24 rfl 3 (by decide) rfl iu_X5_valueByPairs_X5 lk_X5_valueByPairs_21 dX5_valueByPairs_13 rfl ?_
      refine G_iload_n (pc' := 17) C dX5_valueByPairs_16 1 rfl rfl ?_
      refine G_aload_n (pc' := 18) C dX5_valueByPairs_17 0 rfl rfl ?_
      refine G_get (pc' := 21) C wD_24 rfl 5 (by decide) rfl iu_X5_valueByPairs_X5 lk_X5_valueByPairs_27 dX5_valueByPairs_18 rfl ?_
      refine G_iload_n (pc' := 22) C dX5_valueByPairs_21 1 rfl rfl ?_
      refine G_iald (pc' := 23) C wD_30 dX5_valueByPairs_22 rfl hf (fun v2 hf => ?_)
      refine G_callSp (pc' := 26) C [.int v2] (c_J6_bitCount_0f7a4 ω N τ v2) sg_J6_bitCount_0f7a4 gX5_valueByPairs_J6_bitCount_0f7a4 ⟨Nat.le_of_ble_eq_true rfl, Nat.le_of_ble_eq_true rfl⟩ rfl rfl (Nat.le_of_ble_eq_true rfl) dX5_valueByPairs_23 rfl hf (fun v3 hf => ?_)
      refine G_iast (pc' := 27) C wD_28 wD_s28 dX5_valueByPairs_26 rfl hf (fun s4 hf => ?_)
      refine G_iconst (v := (0 : Int32)) (pc' := 28) C dX5_valueByPairs_27 (by decide) rfl ?_
      refine G_istore_n (lv' := [(0, .ref (za ω 24)), (1, .int y1), (2, .int (0 : Int32))]) (pc' := 29) C dX5_valueByPairs_28 (by decide) [1, 2, 0] rfl rfl ?_
      refine w_X5_valueByPairs_29 C hR (fun y11 s12 hf => ?_) N (0 : Int32) s4 hf
      refine G_iincL (v := y1 + (1 : Int32)) (pc' := 67) C dX5_valueByPairs_64 1 rfl rfl (by decide) [1, 0] (fun x13 => [(0, .ref (za ω 24)), (1, .int x13)]) (fun _ => rfl) rfl hf (fun x13 hf => ?_)
      refine G_goto (pc' := 6) C dX5_valueByPairs_67 (by decide) ?_
      exact ih x13 s12 hf
set_option maxHeartbeats 4000000 in
set_option maxRecDepth 100000 in
theorem c_X5_valueByPairs (ω : ZO) (N : Nat) (σ : ZS) : ZVs ω wD yX5_valueByPairs wsX5_valueByPairs rm_X5_valueByPairs [.ref (za ω 24)] σ (f_X5_valueByPairs N σ) := by
  intro r0 hf
  refine ZV.go (cc := cX5_valueByPairs) (maxL := 3) (ret := none) (own := RX5) (lv := [(0, .ref (za ω 24))]) (by decide) rfl rfl (Nat.le_of_ble_eq_true rfl) rfl (fun κ C hR => ?_)
  unfold f_X5_valueByPairs at hf
  refine G_aload_n (pc' := 1) C dX5_valueByPairs_0 0 rfl rfl ?_
  refine G_callVv (pc' := 4) C [] (c_X5_comparePairs ω N σ) sg_X5_comparePairs gX5_valueByPairs_X5_comparePairs wD_24 rfl ⟨Nat.le_of_ble_eq_true rfl, Nat.le_of_ble_eq_true rfl⟩ rfl rfl (Nat.le_of_ble_eq_true rfl) dX5_valueByPairs_1 rfl hf (fun s1 hf => ?_)
  refine G_iconst (v := (0 : Int32)) (pc' := 5) C dX5_valueByPairs_4 (by decide) rfl ?_
  refine G_istore_n (lv' := [(0, .ref (za ω 24)), (1, .int (0 : Int32))]) (pc' := 6) C dX5_valueByPairs_5 (by decide) [1, 0] rfl rfl ?_
  refine w_X5_valueByPairs_6 C hR (fun y14 s15 hf => ?_) N (0 : Int32) s1 hf
  exact G_vret C hR dX5_valueByPairs_70 (Option.some.inj hf)
theorem lk_X5_firstOn_41n : Cond.methodLinkNest RX5 41 yX7_isJudge RX7 ∈ zNws := by decide +kernel
theorem lk_X5_firstOn_41s : Cond.static yX7_isJudge ∈ wsX5_firstOn := by decide +kernel
theorem lk_X5_firstOn_41i : Cond.initialized yX7_isJudge.cls ∈ wsX5_firstOn := by decide +kernel
theorem lk_X5_firstOn_60n : Cond.methodLinkNest RX5 60 yX7_isBookNumber RX7 ∈ zNws := by decide +kernel
theorem lk_X5_firstOn_60s : Cond.static yX7_isBookNumber ∈ wsX5_firstOn := by decide +kernel
theorem lk_X5_firstOn_60i : Cond.initialized yX7_isBookNumber.cls ∈ wsX5_firstOn := by decide +kernel
theorem lk_X5_firstOn_80n : Cond.methodLinkNest RX5 80 yX7_contains RX7 ∈ zNws := by decide +kernel
theorem lk_X5_firstOn_80s : Cond.static yX7_contains ∈ wsX5_firstOn := by decide +kernel
theorem lk_X5_firstOn_80i : Cond.initialized yX7_contains.cls ∈ wsX5_firstOn := by decide +kernel
theorem iu_X5_firstOn_X5 : ∀ w ∈ wsX50, w ∈ wsX5_firstOn := by decide +kernel
theorem lk_X5_firstOn_9 : Cond.fieldLink RX5 9 "PrizeDesk$Tally" "rows" "[I" ∈ wsX5_firstOn := by decide +kernel
abbrev rm_X5_firstOn : Room := { frames := 1, cells := 0, slots := 0, locals := 21 }
theorem sg_X5_firstOn : ZG yX5_firstOn wsX5_firstOn cX5_firstOn 5 (some .int) RX5 2 rm_X5_firstOn := ⟨⟨_, rfl⟩, by decide +kernel, rfl, rfl⟩
set_option maxHeartbeats 4000000 in
set_option maxRecDepth 100000 in
theorem w_X5_firstOn_2 {ω : ZO} {κ : ZK} {N : Nat} {σ : ZS} {b1 : Int32} {b2 : Int32} {K : Int32 → Option (Int32)} {r0 : Int32} (C : CX ω wD κ cX5_firstOn wsX5_firstOn RX5 (some .int) 5 rm_X5_firstOn) (hR : zRI ω wD κ (fun v τ => v = r0 ∧ τ = σ)) (HK : ∀ (y3 : Int32), K y3 = some r0 → G ω wD κ 54 [(0, .ref (za ω 24))] [] σ) : ∀ (n : Nat) (y3 : Int32), L_X5_firstOn_2 N σ b1 b2 K n y3 = some r0 → G ω wD κ 2 [(0, .ref (za ω 24)), (1, .int b1), (2, .int b2), (3, .int y3)] [] σ := by
  intro n
  induction n with
  | zero => intro  y3 hf; exact absurd (show none = some r0 from hf) (fun h => nomatch h)
  | succ n ih =>
    intro y3 hf
    have hf : B_X5_firstOn_2 N σ b1 b2 K (L_X5_firstOn_2 N σ b1 b2 K n) y3 = some r0 := hf
    unfold B_X5_firstOn_2 at hf
    refine G_iload_n (pc' := 3) C dX5_firstOn_2 3 rfl rfl ?_
    refine G_bipush (v := (12 : Int32)) (pc' := 5) C dX5_firstOn_3 (by decide) rfl ?_
    refine G_icmp_ge (tgt := 54) (pc' := 8) C dX5_firstOn_5 (by decide) rfl hf (fun hf => ?_) (fun hf => ?_)
    · refine G_sub (lv' := [(0, .ref (za ω 24))]) C [0] rfl ?_
      exact HK y3 hf
    · refine G_iload_n (pc' := 9) C dX5_firstOn_8 1 rfl rfl ?_
      refine G_callNp (pc' := 12) C [.int b1] (c_X7_isJudge ω N σ b1) sg_X7_isJudge gX5_firstOn_X7_isJudge_n41 lk_X5_firstOn_41n lk_X5_firstOn_41s lk_X5_firstOn_41i ⟨Nat.le_of_ble_eq_true rfl, Nat.le_of_ble_eq_true rfl⟩ rfl rfl (Nat.le_of_ble_eq_true rfl) dX5_firstOn_9 rfl hf (fun v1 hf => ?_)
      refine G_if_eq (tgt := 54) (pc' := 15) C dX5_firstOn_12 (by decide) rfl hf (fun hf => ?_) (fun hf => ?_)
      · refine G_sub (lv' := [(0, .ref (za ω 24))]) C [0] rfl ?_
        exact HK y3 hf
      · refine G_aload_n (pc' := 16) C dX5_firstOn_15 0 rfl rfl ?_
        refine G_get (pc' := 19) C wD_24 rfl 0 (by decide) rfl iu_X5_firstOn_X5 lk_X5_firstOn_9 dX5_firstOn_16 rfl ?_
        refine G_iload_n (pc' := 20) C dX5_firstOn_19 1 rfl rfl ?_
        refine G_bipush (v := (12 : Int32)) (pc' := 22) C dX5_firstOn_20 (by decide) rfl ?_
        refine G_imul (pc' := 23) C dX5_firstOn_22 rfl ?_
        refine G_iload_n (pc' := 24) C dX5_firstOn_23 3 rfl rfl ?_
        refine G_iadd (pc' := 25) C dX5_firstOn_24 rfl ?_
        refine G_iald (pc' := 26) C wD_25 dX5_firstOn_25 rfl hf (fun v2 hf => ?_)
        refine G_istore (lv' := [(0, .ref (za ω 24)), (1, .int b1), (2, .int b2), (3, .int y3), (4, .int v2)]) (pc' := 28) C dX5_firstOn_26 (by decide) [1, 2, 3, 4, 0] rfl rfl ?_
        refine G_iload (pc' := 30) C dX5_firstOn_28 4 rfl rfl ?_
        refine G_callNp (pc' := 33) C [.int v2] (c_X7_isBookNumber ω N σ v2) sg_X7_isBookNumber gX5_firstOn_X7_isBookNumber_n60 lk_X5_firstOn_60n lk_X5_firstOn_60s lk_X5_firstOn_60i ⟨Nat.le_of_ble_eq_true rfl, Nat.le_of_ble_eq_true rfl⟩ rfl rfl (Nat.le_of_ble_eq_true rfl) dX5_firstOn_30 rfl hf (fun v3 hf => ?_)
        refine G_if_eq (tgt := 48) (pc' := 36) C dX5_firstOn_33 (by decide) rfl hf (fun hf => ?_) (fun hf => ?_)
        · refine G_iincL (v := y3 + (1 : Int32)) (pc' := 51) C dX5_firstOn_48 3 rfl rfl (by decide) [1, 2, 3, 0] (fun x4 => [(0, .ref (za ω 24)), (1, .int b1), (2, .int b2), (3, .int x4)]) (fun _ => rfl) rfl hf (fun x4 hf => ?_)
          refine G_goto (pc' := 2) C dX5_firstOn_51 (by decide) ?_
          exact ih x4 hf
        · refine G_iload_n (pc' := 37) C dX5_firstOn_36 2 rfl rfl ?_
          refine G_iload (pc' := 39) C dX5_firstOn_37 4 rfl rfl ?_
          refine G_callNp (pc' := 42) C [.int b2, .int v2] (c_X7_contains ω N σ b2 v2) sg_X7_contains gX5_firstOn_X7_contains_n80 lk_X5_firstOn_80n lk_X5_firstOn_80s lk_X5_firstOn_80i ⟨Nat.le_of_ble_eq_true rfl, Nat.le_of_ble_eq_true rfl⟩ rfl rfl (Nat.le_of_ble_eq_true rfl) dX5_firstOn_39 rfl hf (fun v5 hf => ?_)
          refine G_if_eq (tgt := 48) (pc' := 45) C dX5_firstOn_42 (by decide) rfl hf (fun hf => ?_) (fun hf => ?_)
          · refine G_iincL (v := y3 + (1 : Int32)) (pc' := 51) C dX5_firstOn_48 3 rfl rfl (by decide) [1, 2, 3, 0] (fun x6 => [(0, .ref (za ω 24)), (1, .int b1), (2, .int b2), (3, .int x6)]) (fun _ => rfl) rfl hf (fun x6 hf => ?_)
            refine G_goto (pc' := 2) C dX5_firstOn_51 (by decide) ?_
            exact ih x6 hf
          · refine G_iload (pc' := 47) C dX5_firstOn_45 4 rfl rfl ?_
            exact G_iret C hR dX5_firstOn_47 ⟨Option.some.inj hf, rfl⟩
set_option maxHeartbeats 4000000 in
set_option maxRecDepth 100000 in
theorem c_X5_firstOn (ω : ZO) (N : Nat) (σ : ZS) (a1 : Int32) (a2 : Int32) : ZIp ω wD yX5_firstOn wsX5_firstOn rm_X5_firstOn [.ref (za ω 24), .int a1, .int a2] σ (f_X5_firstOn N σ a1 a2) := by
  intro r0 hf
  refine ZI.go (cc := cX5_firstOn) (maxL := 5) (ret := (some .int)) (own := RX5) (lv := [(0, .ref (za ω 24)), (1, .int a1), (2, .int a2)]) (by decide) rfl rfl (Nat.le_of_ble_eq_true rfl) rfl (fun κ C hR => ?_)
  unfold f_X5_firstOn at hf
  refine G_iconst (v := (0 : Int32)) (pc' := 1) C dX5_firstOn_0 (by decide) rfl ?_
  refine G_istore_n (lv' := [(0, .ref (za ω 24)), (1, .int a1), (2, .int a2), (3, .int (0 : Int32))]) (pc' := 2) C dX5_firstOn_1 (by decide) [1, 2, 3, 0] rfl rfl ?_
  refine w_X5_firstOn_2 C hR (fun y7 hf => ?_) N (0 : Int32) hf
  refine G_iconst (v := (-1 : Int32)) (pc' := 55) C dX5_firstOn_54 (by decide) rfl ?_
  exact G_iret C hR dX5_firstOn_55 ⟨Option.some.inj hf, rfl⟩
theorem iu_X5_shareBallots_X5 : ∀ w ∈ wsX50, w ∈ wsX5_shareBallots := by decide +kernel
theorem lk_X5_shareBallots_24 : Cond.fieldLink RX5 24 "PrizeDesk$Tally" "held" "[I" ∈ wsX5_shareBallots := by decide +kernel
theorem lk_X5_shareBallots_60n : Cond.methodLinkNest RX5 60 yX7_isBookNumber RX7 ∈ zNws := by decide +kernel
theorem lk_X5_shareBallots_60s : Cond.static yX7_isBookNumber ∈ wsX5_shareBallots := by decide +kernel
theorem lk_X5_shareBallots_60i : Cond.initialized yX7_isBookNumber.cls ∈ wsX5_shareBallots := by decide +kernel
abbrev rm_X5_shareBallots : Room := { frames := 2, cells := 0, slots := 0, locals := 45 }
theorem sg_X5_shareBallots : ZG yX5_shareBallots wsX5_shareBallots cX5_shareBallots 4 none RX5 1 rm_X5_shareBallots := ⟨⟨_, rfl⟩, by decide +kernel, rfl, rfl⟩
set_option maxHeartbeats 4000000 in
set_option maxRecDepth 100000 in
theorem w_X5_shareBallots_2 {ω : ZO} {κ : ZK} {N : Nat} {b1 : Int32} {K : Int32 → ZS → Option (ZS)} {r0 : ZS} (C : CX ω wD κ cX5_shareBallots wsX5_shareBallots RX5 none 4 rm_X5_shareBallots) (hR : zRV ω wD κ (fun τ => τ = r0)) (HK : ∀ (y2 : Int32) (τ : ZS), K y2 τ = some r0 → G ω wD κ 21 [(0, .ref (za ω 24)), (1, .int b1)] [] τ) : ∀ (n : Nat) (y2 : Int32) (τ : ZS), L_X5_shareBallots_2 N b1 K n y2 τ = some r0 → G ω wD κ 2 [(0, .ref (za ω 24)), (1, .int b1), (2, .int y2)] [] τ := by
  intro n
  induction n with
  | zero => intro  y2 τ hf; exact absurd (show none = some r0 from hf) (fun h => nomatch h)
  | succ n ih =>
    intro y2 τ hf
    have hf : B_X5_shareBallots_2 N b1 K (L_X5_shareBallots_2 N b1 K n) y2 τ = some r0 := hf
    unfold B_X5_shareBallots_2 at hf
    refine G_iload_n (pc' := 3) C dX5_shareBallots_2 2 rfl rfl ?_
    refine G_bipush (v := (24 : Int32)) (pc' := 5) C dX5_shareBallots_3 (by decide) rfl ?_
    refine G_icmp_ge (tgt := 21) (pc' := 8) C dX5_shareBallots_5 (by decide) rfl hf (fun hf => ?_) (fun hf => ?_)
    · refine G_sub (lv' := [(0, .ref (za ω 24)), (1, .int b1)]) C [0, 1] rfl ?_
      exact HK y2 τ hf
    · refine G_aload_n (pc' := 9) C dX5_shareBallots_8 0 rfl rfl ?_
      refine G_get (pc' := 12) C wD_24 rfl 4 (by decide) rfl iu_X5_shareBallots_X5 lk_X5_shareBallots_24 dX5_shareBallots_9 rfl ?_
      refine G_iload_n (pc' := 13) C dX5_shareBallots_12 2 rfl rfl ?_
      refine G_iconst (v := (0 : Int32)) (pc' := 14) C dX5_shareBallots_13 (by decide) rfl ?_
      refine G_iast (pc' := 15) C wD_29 wD_s29 dX5_shareBallots_14 rfl hf (fun s1 hf => ?_)
      refine G_iincL (v := y2 + (1 : Int32)) (pc' := 18) C dX5_shareBallots_15 2 rfl rfl (by decide) [1, 2, 0] (fun x2 => [(0, .ref (za ω 24)), (1, .int b1), (2, .int x2)]) (fun _ => rfl) rfl hf (fun x2 hf => ?_)
      refine G_goto (pc' := 2) C dX5_shareBallots_18 (by decide) ?_
      exact ih x2 s1 hf
set_option maxHeartbeats 4000000 in
set_option maxRecDepth 100000 in
theorem w_X5_shareBallots_23 {ω : ZO} {κ : ZK} {N : Nat} {b1 : Int32} {K : Int32 → ZS → Option (ZS)} {r0 : ZS} (C : CX ω wD κ cX5_shareBallots wsX5_shareBallots RX5 none 4 rm_X5_shareBallots) (hR : zRV ω wD κ (fun τ => τ = r0)) (HK : ∀ (y2 : Int32) (τ : ZS), K y2 τ = some r0 → G ω wD κ 59 [(0, .ref (za ω 24))] [] τ) : ∀ (n : Nat) (y2 : Int32) (τ : ZS), L_X5_shareBallots_23 N b1 K n y2 τ = some r0 → G ω wD κ 23 [(0, .ref (za ω 24)), (1, .int b1), (2, .int y2)] [] τ := by
  intro n
  induction n with
  | zero => intro  y2 τ hf; exact absurd (show none = some r0 from hf) (fun h => nomatch h)
  | succ n ih =>
    intro y2 τ hf
    have hf : B_X5_shareBallots_23 N b1 K (L_X5_shareBallots_23 N b1 K n) y2 τ = some r0 := hf
    unfold B_X5_shareBallots_23 at hf
    refine G_iload_n (pc' := 24) C dX5_shareBallots_23 2 rfl rfl ?_
    refine G_bipush (v := (7 : Int32)) (pc' := 26) C dX5_shareBallots_24 (by decide) rfl ?_
    refine G_icmp_ge (tgt := 59) (pc' := 29) C dX5_shareBallots_26 (by decide) rfl hf (fun hf => ?_) (fun hf => ?_)
    · refine G_sub (lv' := [(0, .ref (za ω 24))]) C [0] rfl ?_
      exact HK y2 τ hf
    · refine G_aload_n (pc' := 30) C dX5_shareBallots_29 0 rfl rfl ?_
      refine G_iload_n (pc' := 31) C dX5_shareBallots_30 2 rfl rfl ?_
      refine G_iload_n (pc' := 32) C dX5_shareBallots_31 1 rfl rfl ?_
      refine G_callVp (pc' := 35) C [.int y2, .int b1] (c_X5_firstOn ω N τ y2 b1) sg_X5_firstOn gX5_shareBallots_X5_firstOn wD_24 rfl ⟨Nat.le_of_ble_eq_true rfl, Nat.le_of_ble_eq_true rfl⟩ rfl rfl (Nat.le_of_ble_eq_true rfl) dX5_shareBallots_32 rfl hf (fun v5 hf => ?_)
      refine G_istore_n (lv' := [(0, .ref (za ω 24)), (1, .int b1), (2, .int y2), (3, .int v5)]) (pc' := 36) C dX5_shareBallots_35 (by decide) [1, 2, 3, 0] rfl rfl ?_
      refine G_iload_n (pc' := 37) C dX5_shareBallots_36 3 rfl rfl ?_
      refine G_callNp (pc' := 40) C [.int v5] (c_X7_isBookNumber ω N τ v5) sg_X7_isBookNumber gX5_shareBallots_X7_isBookNumber_n60 lk_X5_shareBallots_60n lk_X5_shareBallots_60s lk_X5_shareBallots_60i ⟨Nat.le_of_ble_eq_true rfl, Nat.le_of_ble_eq_true rfl⟩ rfl rfl (Nat.le_of_ble_eq_true rfl) dX5_shareBallots_37 rfl hf (fun v6 hf => ?_)
      refine G_if_eq (tgt := 53) (pc' := 43) C dX5_shareBallots_40 (by decide) rfl hf (fun hf => ?_) (fun hf => ?_)
      · refine G_iincL (v := y2 + (1 : Int32)) (pc' := 56) C dX5_shareBallots_53 2 rfl rfl (by decide) [1, 2, 0] (fun x7 => [(0, .ref (za ω 24)), (1, .int b1), (2, .int x7)]) (fun _ => rfl) rfl hf (fun x7 hf => ?_)
        refine G_goto (pc' := 23) C dX5_shareBallots_56 (by decide) ?_
        exact ih x7 τ hf
      · refine G_aload_n (pc' := 44) C dX5_shareBallots_43 0 rfl rfl ?_
        refine G_get (pc' := 47) C wD_24 rfl 4 (by decide) rfl iu_X5_shareBallots_X5 lk_X5_shareBallots_24 dX5_shareBallots_44 rfl ?_
        refine G_iload_n (pc' := 48) C dX5_shareBallots_47 3 rfl rfl ?_
        refine G_dup2 (pc' := 49) C dX5_shareBallots_48 rfl rfl rfl ?_
        refine G_iald (pc' := 50) C wD_29 dX5_shareBallots_49 rfl hf (fun v8 hf => ?_)
        refine G_iconst (v := (1 : Int32)) (pc' := 51) C dX5_shareBallots_50 (by decide) rfl ?_
        refine G_iadd (pc' := 52) C dX5_shareBallots_51 rfl ?_
        refine G_iast (pc' := 53) C wD_29 wD_s29 dX5_shareBallots_52 rfl hf (fun s9 hf => ?_)
        refine G_iincL (v := y2 + (1 : Int32)) (pc' := 56) C dX5_shareBallots_53 2 rfl rfl (by decide) [1, 2, 0] (fun x10 => [(0, .ref (za ω 24)), (1, .int b1), (2, .int x10)]) (fun _ => rfl) rfl hf (fun x10 hf => ?_)
        refine G_goto (pc' := 23) C dX5_shareBallots_56 (by decide) ?_
        exact ih x10 s9 hf
set_option maxHeartbeats 4000000 in
set_option maxRecDepth 100000 in
theorem c_X5_shareBallots (ω : ZO) (N : Nat) (σ : ZS) (a1 : Int32) : ZVs ω wD yX5_shareBallots wsX5_shareBallots rm_X5_shareBallots [.ref (za ω 24), .int a1] σ (f_X5_shareBallots N σ a1) := by
  intro r0 hf
  refine ZV.go (cc := cX5_shareBallots) (maxL := 4) (ret := none) (own := RX5) (lv := [(0, .ref (za ω 24)), (1, .int a1)]) (by decide) rfl rfl (Nat.le_of_ble_eq_true rfl) rfl (fun κ C hR => ?_)
  unfold f_X5_shareBallots at hf
  refine G_iconst (v := (0 : Int32)) (pc' := 1) C dX5_shareBallots_0 (by decide) rfl ?_
  refine G_istore_n (lv' := [(0, .ref (za ω 24)), (1, .int a1), (2, .int (0 : Int32))]) (pc' := 2) C dX5_shareBallots_1 (by decide) [1, 2, 0] rfl rfl ?_
  refine w_X5_shareBallots_2 C hR (fun y3 s4 hf => ?_) N (0 : Int32) σ hf
  refine G_iconst (v := (0 : Int32)) (pc' := 22) C dX5_shareBallots_21 (by decide) rfl ?_
  refine G_istore_n (lv' := [(0, .ref (za ω 24)), (1, .int a1), (2, .int (0 : Int32))]) (pc' := 23) C dX5_shareBallots_22 (by decide) [1, 2, 0] rfl rfl ?_
  refine w_X5_shareBallots_23 C hR (fun y11 s12 hf => ?_) N (0 : Int32) s4 hf
  exact G_vret C hR dX5_shareBallots_59 (Option.some.inj hf)
