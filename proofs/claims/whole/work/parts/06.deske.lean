theorem lk_X5_lastOf_80n : Cond.methodLinkNest RX5 80 yX7_contains RX7 ∈ zNws := by decide +kernel
theorem lk_X5_lastOf_80s : Cond.static yX7_contains ∈ wsX5_lastOf := by decide +kernel
theorem lk_X5_lastOf_80i : Cond.initialized yX7_contains.cls ∈ wsX5_lastOf := by decide +kernel
theorem iu_X5_lastOf_X5 : ∀ w ∈ wsX50, w ∈ wsX5_lastOf := by decide +kernel
theorem lk_X5_lastOf_18 : Cond.fieldLink RX5 18 "PrizeDesk$Tally" "ties" "[I" ∈ wsX5_lastOf := by decide +kernel
theorem lk_X5_lastOf_24 : Cond.fieldLink RX5 24 "PrizeDesk$Tally" "held" "[I" ∈ wsX5_lastOf := by decide +kernel
abbrev rm_X5_lastOf : Room := { frames := 1, cells := 0, slots := 0, locals := 21 }
theorem sg_X5_lastOf : ZG yX5_lastOf wsX5_lastOf cX5_lastOf 6 (some .int) RX5 1 rm_X5_lastOf := ⟨⟨_, rfl⟩, by decide +kernel, rfl, rfl⟩
set_option maxHeartbeats 4000000 in
set_option maxRecDepth 100000 in
theorem w_X5_lastOf_7 {ω : ZO} {κ : ZK} {N : Nat} {σ : ZS} {b1 : Int32} {K : Int32 → Int32 → Int32 → Option (Int32)} {r0 : Int32} (C : CX ω wD κ cX5_lastOf wsX5_lastOf RX5 (some .int) 6 rm_X5_lastOf) (hR : zRI ω wD κ (fun v τ => v = r0 ∧ τ = σ)) (HK : ∀ (y2 : Int32) (y3 : Int32) (y4 : Int32), K y2 y3 y4 = some r0 → G ω wD κ 66 [(0, .ref (za ω 24)), (2, .int y2)] [] σ) : ∀ (n : Nat) (y2 : Int32) (y3 : Int32) (y4 : Int32), L_X5_lastOf_7 N σ b1 K n y2 y3 y4 = some r0 → G ω wD κ 7 [(0, .ref (za ω 24)), (1, .int b1), (2, .int y2), (3, .int y3), (4, .int y4)] [] σ := by
  intro n
  induction n with
  | zero => intro  y2 y3 y4 hf; exact absurd (show none = some r0 from hf) (fun h => nomatch h)
  | succ n ih =>
    intro y2 y3 y4 hf
    have hf : B_X5_lastOf_7 N σ b1 K (L_X5_lastOf_7 N σ b1 K n) y2 y3 y4 = some r0 := hf
    unfold B_X5_lastOf_7 at hf
    refine G_iload (pc' := 9) C dX5_lastOf_7 4 rfl rfl ?_
    refine G_bipush (v := (24 : Int32)) (pc' := 11) C dX5_lastOf_9 (by decide) rfl ?_
    refine G_icmp_ge (tgt := 66) (pc' := 14) C dX5_lastOf_11 (by decide) rfl hf (fun hf => ?_) (fun hf => ?_)
    · refine G_sub (lv' := [(0, .ref (za ω 24)), (2, .int y2)]) C [0, 2] rfl ?_
      exact HK y2 y3 y4 hf
    · refine G_bipush (v := (32 : Int32)) (pc' := 16) C dX5_lastOf_14 (by decide) rfl ?_
      refine G_aload_n (pc' := 17) C dX5_lastOf_16 0 rfl rfl ?_
      refine G_get (pc' := 20) C wD_24 rfl 4 (by decide) rfl iu_X5_lastOf_X5 lk_X5_lastOf_24 dX5_lastOf_17 rfl ?_
      refine G_iload (pc' := 22) C dX5_lastOf_20 4 rfl rfl ?_
      refine G_iald (pc' := 23) C wD_29 dX5_lastOf_22 rfl hf (fun v1 hf => ?_)
      refine G_imul (pc' := 24) C dX5_lastOf_23 rfl ?_
      refine G_aload_n (pc' := 25) C dX5_lastOf_24 0 rfl rfl ?_
      refine G_get (pc' := 28) C wD_24 rfl 2 (by decide) rfl iu_X5_lastOf_X5 lk_X5_lastOf_18 dX5_lastOf_25 rfl ?_
      refine G_iload (pc' := 30) C dX5_lastOf_28 4 rfl rfl ?_
      refine G_iald (pc' := 31) C wD_27 dX5_lastOf_30 rfl hf (fun v2 hf => ?_)
      refine G_iadd (pc' := 32) C dX5_lastOf_31 rfl ?_
      refine G_nm hf (fun x3 hf => ?_)
      refine G_istore (lv' := [(0, .ref (za ω 24)), (1, .int b1), (2, .int y2), (3, .int y3), (4, .int y4), (5, .int x3)]) (pc' := 34) C dX5_lastOf_32 (by decide) [1, 2, 3, 4, 5, 0] rfl rfl ?_
      refine G_iload_n (pc' := 35) C dX5_lastOf_34 1 rfl rfl ?_
      refine G_iload (pc' := 37) C dX5_lastOf_35 4 rfl rfl ?_
      refine G_callNp (pc' := 40) C [.int b1, .int y4] (c_X7_contains ω N σ b1 y4) sg_X7_contains gX5_lastOf_X7_contains_n80 lk_X5_lastOf_80n lk_X5_lastOf_80s lk_X5_lastOf_80i ⟨Nat.le_of_ble_eq_true rfl, Nat.le_of_ble_eq_true rfl⟩ rfl rfl (Nat.le_of_ble_eq_true rfl) dX5_lastOf_37 rfl hf (fun v4 hf => ?_)
      refine G_if_eq (tgt := 60) (pc' := 43) C dX5_lastOf_40 (by decide) rfl hf (fun hf => ?_) (fun hf => ?_)
      · refine G_iincL (v := y4 + (1 : Int32)) (pc' := 63) C dX5_lastOf_60 4 rfl rfl (by decide) [1, 2, 3, 4, 0] (fun x5 => [(0, .ref (za ω 24)), (1, .int b1), (2, .int y2), (3, .int y3), (4, .int x5)]) (fun _ => rfl) rfl hf (fun x5 hf => ?_)
        refine G_goto (pc' := 7) C dX5_lastOf_63 (by decide) ?_
        exact ih y2 y3 x5 hf
      · refine G_iload_n (pc' := 44) C dX5_lastOf_43 2 rfl rfl ?_
        refine G_iconst (v := (-1 : Int32)) (pc' := 45) C dX5_lastOf_44 (by decide) rfl ?_
        refine G_icmp_eq (tgt := 54) (pc' := 48) C dX5_lastOf_45 (by decide) rfl hf (fun hf => ?_) (fun hf => ?_)
        · refine G_iload (pc' := 56) C dX5_lastOf_54 4 rfl rfl ?_
          refine G_istore_n (lv' := [(0, .ref (za ω 24)), (1, .int b1), (2, .int y4), (4, .int y4), (5, .int x3)]) (pc' := 57) C dX5_lastOf_56 (by decide) [1, 2, 0, 4, 5] rfl rfl ?_
          refine G_iload (pc' := 59) C dX5_lastOf_57 4 rfl rfl ?_
          refine G_istore_n (lv' := [(0, .ref (za ω 24)), (1, .int b1), (2, .int y4), (3, .int x3), (4, .int y4)]) (pc' := 60) C dX5_lastOf_59 (by decide) [1, 2, 3, 0, 4] rfl rfl ?_
          refine G_iincL (v := y4 + (1 : Int32)) (pc' := 63) C dX5_lastOf_60 4 rfl rfl (by decide) [1, 2, 3, 4, 0] (fun x6 => [(0, .ref (za ω 24)), (1, .int b1), (2, .int y4), (3, .int x3), (4, .int x6)]) (fun _ => rfl) rfl hf (fun x6 hf => ?_)
          refine G_goto (pc' := 7) C dX5_lastOf_63 (by decide) ?_
          exact ih y4 x3 x6 hf
        · refine G_iload (pc' := 50) C dX5_lastOf_48 5 rfl rfl ?_
          refine G_iload_n (pc' := 51) C dX5_lastOf_50 3 rfl rfl ?_
          refine G_icmp_gt (tgt := 60) (pc' := 54) C dX5_lastOf_51 (by decide) rfl hf (fun hf => ?_) (fun hf => ?_)
          · refine G_iincL (v := y4 + (1 : Int32)) (pc' := 63) C dX5_lastOf_60 4 rfl rfl (by decide) [1, 2, 3, 4, 0] (fun x7 => [(0, .ref (za ω 24)), (1, .int b1), (2, .int y2), (3, .int y3), (4, .int x7)]) (fun _ => rfl) rfl hf (fun x7 hf => ?_)
            refine G_goto (pc' := 7) C dX5_lastOf_63 (by decide) ?_
            exact ih y2 y3 x7 hf
          · refine G_iload (pc' := 56) C dX5_lastOf_54 4 rfl rfl ?_
            refine G_istore_n (lv' := [(0, .ref (za ω 24)), (1, .int b1), (2, .int y4), (4, .int y4), (5, .int x3)]) (pc' := 57) C dX5_lastOf_56 (by decide) [1, 2, 0, 4, 5] rfl rfl ?_
            refine G_iload (pc' := 59) C dX5_lastOf_57 4 rfl rfl ?_
            refine G_istore_n (lv' := [(0, .ref (za ω 24)), (1, .int b1), (2, .int y4), (3, .int x3), (4, .int y4)]) (pc' := 60) C dX5_lastOf_59 (by decide) [1, 2, 3, 0, 4] rfl rfl ?_
            refine G_iincL (v := y4 + (1 : Int32)) (pc' := 63) C dX5_lastOf_60 4 rfl rfl (by decide) [1, 2, 3, 4, 0] (fun x8 => [(0, .ref (za ω 24)), (1, .int b1), (2, .int y4), (3, .int x3), (4, .int x8)]) (fun _ => rfl) rfl hf (fun x8 hf => ?_)
            refine G_goto (pc' := 7) C dX5_lastOf_63 (by decide) ?_
            exact ih y4 x3 x8 hf
set_option maxHeartbeats 4000000 in
set_option maxRecDepth 100000 in
theorem c_X5_lastOf (ω : ZO) (N : Nat) (σ : ZS) (a1 : Int32) : ZIp ω wD yX5_lastOf wsX5_lastOf rm_X5_lastOf [.ref (za ω 24), .int a1] σ (f_X5_lastOf N σ a1) := by
  intro r0 hf
  refine ZI.go (cc := cX5_lastOf) (maxL := 6) (ret := (some .int)) (own := RX5) (lv := [(0, .ref (za ω 24)), (1, .int a1)]) (by decide) rfl rfl (Nat.le_of_ble_eq_true rfl) rfl (fun κ C hR => ?_)
  unfold f_X5_lastOf at hf
  refine G_iconst (v := (-1 : Int32)) (pc' := 1) C dX5_lastOf_0 (by decide) rfl ?_
  refine G_istore_n (lv' := [(0, .ref (za ω 24)), (1, .int a1), (2, .int (-1 : Int32))]) (pc' := 2) C dX5_lastOf_1 (by decide) [1, 2, 0] rfl rfl ?_
  refine G_iconst (v := (0 : Int32)) (pc' := 3) C dX5_lastOf_2 (by decide) rfl ?_
  refine G_istore_n (lv' := [(0, .ref (za ω 24)), (1, .int a1), (2, .int (-1 : Int32)), (3, .int (0 : Int32))]) (pc' := 4) C dX5_lastOf_3 (by decide) [1, 2, 3, 0] rfl rfl ?_
  refine G_iconst (v := (0 : Int32)) (pc' := 5) C dX5_lastOf_4 (by decide) rfl ?_
  refine G_istore (lv' := [(0, .ref (za ω 24)), (1, .int a1), (2, .int (-1 : Int32)), (3, .int (0 : Int32)), (4, .int (0 : Int32))]) (pc' := 7) C dX5_lastOf_5 (by decide) [1, 2, 3, 4, 0] rfl rfl ?_
  refine w_X5_lastOf_7 C hR (fun y9 y10 y11 hf => ?_) N (-1 : Int32) (0 : Int32) (0 : Int32) hf
  refine G_iload_n (pc' := 67) C dX5_lastOf_66 1 rfl rfl ?_
  exact G_iret C hR dX5_lastOf_67 ⟨Option.some.inj hf, rfl⟩
theorem lk_X5_valueByRounds_60n : Cond.methodLinkNest RX5 60 yX7_isBookNumber RX7 ∈ zNws := by decide +kernel
theorem lk_X5_valueByRounds_60s : Cond.static yX7_isBookNumber ∈ wsX5_valueByRounds := by decide +kernel
theorem lk_X5_valueByRounds_60i : Cond.initialized yX7_isBookNumber.cls ∈ wsX5_valueByRounds := by decide +kernel
theorem lk_X5_valueByRounds_92n : Cond.methodLinkNest RX5 92 yX7_bit RX7 ∈ zNws := by decide +kernel
theorem lk_X5_valueByRounds_92s : Cond.static yX7_bit ∈ wsX5_valueByRounds := by decide +kernel
theorem lk_X5_valueByRounds_92i : Cond.initialized yX7_bit.cls ∈ wsX5_valueByRounds := by decide +kernel
theorem iu_X5_valueByRounds_X5 : ∀ w ∈ wsX50, w ∈ wsX5_valueByRounds := by decide +kernel
theorem lk_X5_valueByRounds_21 : Cond.fieldLink RX5 21 "PrizeDesk$Tally" "values" "[I" ∈ wsX5_valueByRounds := by decide +kernel
theorem lk_X5_valueByRounds_33 : Cond.fieldLink RX5 33 "PrizeDesk$Tally" "list" "I" ∈ wsX5_valueByRounds := by decide +kernel
abbrev rm_X5_valueByRounds : Room := { frames := 3, cells := 0, slots := 0, locals := 68 }
theorem sg_X5_valueByRounds : ZG yX5_valueByRounds wsX5_valueByRounds cX5_valueByRounds 5 none RX5 0 rm_X5_valueByRounds := ⟨⟨_, rfl⟩, by decide +kernel, rfl, rfl⟩
set_option maxHeartbeats 4000000 in
set_option maxRecDepth 100000 in
theorem w_X5_valueByRounds_15 {ω : ZO} {κ : ZK} {N : Nat} {b2 : Int32} {K : Int32 → Int32 → ZS → Option (ZS)} {r0 : ZS} (C : CX ω wD κ cX5_valueByRounds wsX5_valueByRounds RX5 none 5 rm_X5_valueByRounds) (hR : zRV ω wD κ (fun τ => τ = r0)) (HK : ∀ (y1 : Int32) (y3 : Int32) (τ : ZS), K y1 y3 τ = some r0 → G ω wD κ 64 [(0, .ref (za ω 24))] [] τ) : ∀ (n : Nat) (y1 : Int32) (y3 : Int32) (τ : ZS), L_X5_valueByRounds_15 N b2 K n y1 y3 τ = some r0 → G ω wD κ 15 [(0, .ref (za ω 24)), (1, .int y1), (2, .int b2), (3, .int y3)] [] τ := by
  intro n
  induction n with
  | zero => intro  y1 y3 τ hf; exact absurd (show none = some r0 from hf) (fun h => nomatch h)
  | succ n ih =>
    intro y1 y3 τ hf
    have hf : B_X5_valueByRounds_15 N b2 K (L_X5_valueByRounds_15 N b2 K n) y1 y3 τ = some r0 := hf
    unfold B_X5_valueByRounds_15 at hf
    refine G_iload_n (pc' := 16) C dX5_valueByRounds_15 3 rfl rfl ?_
    refine G_iload_n (pc' := 17) C dX5_valueByRounds_16 2 rfl rfl ?_
    refine G_icmp_gt (tgt := 64) (pc' := 20) C dX5_valueByRounds_17 (by decide) rfl hf (fun hf => ?_) (fun hf => ?_)
    · refine G_sub (lv' := [(0, .ref (za ω 24))]) C [0] rfl ?_
      exact HK y1 y3 τ hf
    · refine G_aload_n (pc' := 21) C dX5_valueByRounds_20 0 rfl rfl ?_
      refine G_iload_n (pc' := 22) C dX5_valueByRounds_21 1 rfl rfl ?_
      refine G_callVv (pc' := 25) C [.int y1] (c_X5_shareBallots ω N τ y1) sg_X5_shareBallots gX5_valueByRounds_X5_shareBallots wD_24 rfl ⟨Nat.le_of_ble_eq_true rfl, Nat.le_of_ble_eq_true rfl⟩ rfl rfl (Nat.le_of_ble_eq_true rfl) dX5_valueByRounds_22 rfl hf (fun s2 hf => ?_)
      refine G_aload_n (pc' := 26) C dX5_valueByRounds_25 0 rfl rfl ?_
      refine G_iload_n (pc' := 27) C dX5_valueByRounds_26 1 rfl rfl ?_
      refine G_callVp (pc' := 30) C [.int y1] (c_X5_lastOf ω N s2 y1) sg_X5_lastOf gX5_valueByRounds_X5_lastOf wD_24 rfl ⟨Nat.le_of_ble_eq_true rfl, Nat.le_of_ble_eq_true rfl⟩ rfl rfl (Nat.le_of_ble_eq_true rfl) dX5_valueByRounds_27 rfl hf (fun v3 hf => ?_)
      refine G_istore (lv' := [(0, .ref (za ω 24)), (1, .int y1), (2, .int b2), (3, .int y3), (4, .int v3)]) (pc' := 32) C dX5_valueByRounds_30 (by decide) [1, 2, 3, 4, 0] rfl rfl ?_
      refine G_iload (pc' := 34) C dX5_valueByRounds_32 4 rfl rfl ?_
      refine G_callNp (pc' := 37) C [.int v3] (c_X7_isBookNumber ω N s2 v3) sg_X7_isBookNumber gX5_valueByRounds_X7_isBookNumber_n60 lk_X5_valueByRounds_60n lk_X5_valueByRounds_60s lk_X5_valueByRounds_60i ⟨Nat.le_of_ble_eq_true rfl, Nat.le_of_ble_eq_true rfl⟩ rfl rfl (Nat.le_of_ble_eq_true rfl) dX5_valueByRounds_34 rfl hf (fun v4 hf => ?_)
      refine G_if_eq (tgt := 58) (pc' := 40) C dX5_valueByRounds_37 (by decide) rfl hf (fun hf => ?_) (fun hf => ?_)
      · refine G_iincL (v := y3 + (1 : Int32)) (pc' := 61) C dX5_valueByRounds_58 3 rfl rfl (by decide) [1, 2, 3, 0] (fun x5 => [(0, .ref (za ω 24)), (1, .int y1), (2, .int b2), (3, .int x5)]) (fun _ => rfl) rfl hf (fun x5 hf => ?_)
        refine G_goto (pc' := 15) C dX5_valueByRounds_61 (by decide) ?_
        exact ih y1 x5 s2 hf
      · refine G_aload_n (pc' := 41) C dX5_valueByRounds_40 0 rfl rfl ?_
        refine G_get (pc' := 44) C wD_24 rfl 3 (by decide) rfl iu_X5_valueByRounds_X5 lk_X5_valueByRounds_21 dX5_valueByRounds_41 rfl ?_
        refine G_iload (pc' := 46) C dX5_valueByRounds_44 4 rfl rfl ?_
        refine G_iload_n (pc' := 47) C dX5_valueByRounds_46 3 rfl rfl ?_
        refine G_iast (pc' := 48) C wD_28 wD_s28 dX5_valueByRounds_47 rfl hf (fun s6 hf => ?_)
        refine G_iload_n (pc' := 49) C dX5_valueByRounds_48 1 rfl rfl ?_
        refine G_iload (pc' := 51) C dX5_valueByRounds_49 4 rfl rfl ?_
        refine G_callNp (pc' := 54) C [.int v3] (c_X7_bit ω N s6 v3) sg_X7_bit gX5_valueByRounds_X7_bit_n92 lk_X5_valueByRounds_92n lk_X5_valueByRounds_92s lk_X5_valueByRounds_92i ⟨Nat.le_of_ble_eq_true rfl, Nat.le_of_ble_eq_true rfl⟩ rfl rfl (Nat.le_of_ble_eq_true rfl) dX5_valueByRounds_51 rfl hf (fun v7 hf => ?_)
        refine G_iconst (v := (-1 : Int32)) (pc' := 55) C dX5_valueByRounds_54 (by decide) rfl ?_
        refine G_ixor (pc' := 56) C dX5_valueByRounds_55 rfl ?_
        refine G_iand (pc' := 57) C dX5_valueByRounds_56 rfl ?_
        refine G_nm hf (fun x8 hf => ?_)
        refine G_istore_n (lv' := [(0, .ref (za ω 24)), (1, .int x8), (2, .int b2), (3, .int y3)]) (pc' := 58) C dX5_valueByRounds_57 (by decide) [1, 0, 2, 3] rfl rfl ?_
        refine G_iincL (v := y3 + (1 : Int32)) (pc' := 61) C dX5_valueByRounds_58 3 rfl rfl (by decide) [1, 2, 3, 0] (fun x9 => [(0, .ref (za ω 24)), (1, .int x8), (2, .int b2), (3, .int x9)]) (fun _ => rfl) rfl hf (fun x9 hf => ?_)
        refine G_goto (pc' := 15) C dX5_valueByRounds_61 (by decide) ?_
        exact ih x8 x9 s6 hf
set_option maxHeartbeats 4000000 in
set_option maxRecDepth 100000 in
theorem c_X5_valueByRounds (ω : ZO) (N : Nat) (σ : ZS) : ZVs ω wD yX5_valueByRounds wsX5_valueByRounds rm_X5_valueByRounds [.ref (za ω 24)] σ (f_X5_valueByRounds N σ) := by
  intro r0 hf
  refine ZV.go (cc := cX5_valueByRounds) (maxL := 5) (ret := none) (own := RX5) (lv := [(0, .ref (za ω 24))]) (by decide) rfl rfl (Nat.le_of_ble_eq_true rfl) rfl (fun κ C hR => ?_)
  unfold f_X5_valueByRounds at hf
  refine G_aload_n (pc' := 1) C dX5_valueByRounds_0 0 rfl rfl ?_
  refine G_get (pc' := 4) C wD_24 rfl 7 (by decide) rfl iu_X5_valueByRounds_X5 lk_X5_valueByRounds_33 dX5_valueByRounds_1 rfl ?_
  refine G_istore_n (lv' := [(0, .ref (za ω 24)), (1, .int (σ 24 7))]) (pc' := 5) C dX5_valueByRounds_4 (by decide) [1, 0] rfl rfl ?_
  refine G_aload_n (pc' := 6) C dX5_valueByRounds_5 0 rfl rfl ?_
  refine G_get (pc' := 9) C wD_24 rfl 7 (by decide) rfl iu_X5_valueByRounds_X5 lk_X5_valueByRounds_33 dX5_valueByRounds_6 rfl ?_
  refine G_callSp (pc' := 12) C [.int (σ 24 7)] (c_J6_bitCount_0f7a4 ω N σ (σ 24 7)) sg_J6_bitCount_0f7a4 gX5_valueByRounds_J6_bitCount_0f7a4 ⟨Nat.le_of_ble_eq_true rfl, Nat.le_of_ble_eq_true rfl⟩ rfl rfl (Nat.le_of_ble_eq_true rfl) dX5_valueByRounds_9 rfl hf (fun v1 hf => ?_)
  refine G_istore_n (lv' := [(0, .ref (za ω 24)), (1, .int (σ 24 7)), (2, .int v1)]) (pc' := 13) C dX5_valueByRounds_12 (by decide) [1, 2, 0] rfl rfl ?_
  refine G_iconst (v := (1 : Int32)) (pc' := 14) C dX5_valueByRounds_13 (by decide) rfl ?_
  refine G_istore_n (lv' := [(0, .ref (za ω 24)), (1, .int (σ 24 7)), (2, .int v1), (3, .int (1 : Int32))]) (pc' := 15) C dX5_valueByRounds_14 (by decide) [1, 2, 3, 0] rfl rfl ?_
  refine w_X5_valueByRounds_15 C hR (fun y10 y11 s12 hf => ?_) N (σ 24 7) (1 : Int32) σ hf
  exact G_vret C hR dX5_valueByRounds_64 (Option.some.inj hf)
theorem iu_X7_recount_X7 : ∀ w ∈ wsX70, w ∈ wsX7_recount := by decide +kernel
theorem lk_X7_recount_57 : Cond.fieldLink RX7 57 "PrizeDesk" "ranking" "LPrizeDesk$Ranking;" ∈ wsX7_recount := by decide +kernel
theorem lk_X7_recount_50 : Cond.fieldLink RX7 50 "PrizeDesk" "tally" "LPrizeDesk$Tally;" ∈ wsX7_recount := by decide +kernel
theorem lk_X7_recount_19 : Cond.fieldLink RX7 19 "PrizeDesk" "ruleBook" "LPrizeDesk$Rules;" ∈ wsX7_recount := by decide +kernel
theorem lk_X7_recount_33 : Cond.fieldLink RX7 33 "PrizeDesk" "panel" "LPrizeDesk$Panel;" ∈ wsX7_recount := by decide +kernel
abbrev rm_X7_recount_0_18 : Room := { frames := 4, cells := 0, slots := 0, locals := 95 }
theorem sg_X7_recount_0_18 : ZG yX7_recount wsX7_recount cX7_recount 3 none RX7 2 rm_X7_recount_0_18 := ⟨⟨_, rfl⟩, by decide +kernel, rfl, rfl⟩
set_option maxHeartbeats 4000000 in
set_option maxRecDepth 100000 in
theorem c_X7_recount_0_18 (ω : ZO) (N : Nat) (σ : ZS) (a2 : Int32) : ZVs ω wD yX7_recount wsX7_recount rm_X7_recount_0_18 [.ref (za ω 0), .ref (za ω 18), .int a2] σ (f_X7_recount_0_18 N σ a2) := by
  intro r0 hf
  refine ZV.go (cc := cX7_recount) (maxL := 3) (ret := none) (own := RX7) (lv := [(0, .ref (za ω 0)), (1, .ref (za ω 18)), (2, .int a2)]) (by decide) rfl rfl (Nat.le_of_ble_eq_true rfl) rfl (fun κ C hR => ?_)
  unfold f_X7_recount_0_18 at hf
  refine G_aload_n (pc' := 1) C dX7_recount_0 0 rfl rfl ?_
  refine G_get (pc' := 4) C wD_0 rfl 6 (by decide) rfl iu_X7_recount_X7 lk_X7_recount_50 dX7_recount_1 rfl ?_
  refine G_aload_n (pc' := 5) C dX7_recount_4 1 rfl rfl ?_
  refine G_aload_n (pc' := 6) C dX7_recount_5 0 rfl rfl ?_
  refine G_get (pc' := 9) C wD_0 rfl 3 (by decide) rfl iu_X7_recount_X7 lk_X7_recount_33 dX7_recount_6 rfl ?_
  refine G_aload_n (pc' := 10) C dX7_recount_9 0 rfl rfl ?_
  refine G_get (pc' := 13) C wD_0 rfl 7 (by decide) rfl iu_X7_recount_X7 lk_X7_recount_57 dX7_recount_10 rfl ?_
  refine G_callVp (pc' := 16) C [] (c_X2_asSet ω N σ) sg_X2_asSet gX7_recount_X2_asSet wD_32 rfl ⟨Nat.le_of_ble_eq_true rfl, Nat.le_of_ble_eq_true rfl⟩ rfl rfl (Nat.le_of_ble_eq_true rfl) dX7_recount_13 rfl hf (fun v1 hf => ?_)
  refine G_aload_n (pc' := 17) C dX7_recount_16 0 rfl rfl ?_
  refine G_get (pc' := 20) C wD_0 rfl 1 (by decide) rfl iu_X7_recount_X7 lk_X7_recount_19 dX7_recount_17 rfl ?_
  refine G_bipush (v := (10 : Int32)) (pc' := 22) C dX7_recount_20 (by decide) rfl ?_
  refine G_callVp (pc' := 25) C [.int (10 : Int32)] (c_X3_number ω N σ (10 : Int32)) sg_X3_number gX7_recount_X3_number wD_3 rfl ⟨Nat.le_of_ble_eq_true rfl, Nat.le_of_ble_eq_true rfl⟩ rfl rfl (Nat.le_of_ble_eq_true rfl) dX7_recount_22 rfl hf (fun v2 hf => ?_)
  refine G_iconst (v := (1 : Int32)) (pc' := 26) C dX7_recount_25 (by decide) rfl ?_
  refine G_icmp_ne (tgt := 33) (pc' := 29) C dX7_recount_26 (by decide) rfl hf (fun hf => ?_) (fun hf => ?_)
  · refine G_iconst (v := (1 : Int32)) (pc' := 30) C dX7_recount_29 (by decide) rfl ?_
    refine G_goto (pc' := 34) C dX7_recount_30 (by decide) ?_
    refine G_callVv (pc' := 37) C [.ref (za ω 18), .ref (za ω 11), .int v1, .int (1 : Int32)] (c_X5_hear_24_18_11 ω N σ v1 (1 : Int32)) sg_X5_hear_24_18_11 gX7_recount_X5_hear wD_24 rfl ⟨Nat.le_of_ble_eq_true rfl, Nat.le_of_ble_eq_true rfl⟩ rfl rfl (Nat.le_of_ble_eq_true rfl) dX7_recount_34 rfl hf (fun s3 hf => ?_)
    refine G_iload_n (pc' := 38) C dX7_recount_37 2 rfl rfl ?_
    refine G_if_ne (tgt := 51) (pc' := 41) C dX7_recount_38 (by decide) rfl hf (fun hf => ?_) (fun hf => ?_)
    · refine G_aload_n (pc' := 42) C dX7_recount_41 0 rfl rfl ?_
      refine G_get (pc' := 45) C wD_0 rfl 6 (by decide) rfl iu_X7_recount_X7 lk_X7_recount_50 dX7_recount_42 rfl ?_
      refine G_callVv (pc' := 48) C [] (c_X5_valueByPoints ω N s3) sg_X5_valueByPoints gX7_recount_X5_valueByPoints wD_24 rfl ⟨Nat.le_of_ble_eq_true rfl, Nat.le_of_ble_eq_true rfl⟩ rfl rfl (Nat.le_of_ble_eq_true rfl) dX7_recount_45 rfl hf (fun s4 hf => ?_)
      refine G_goto (pc' := 73) C dX7_recount_48 (by decide) ?_
      refine G_aload_n (pc' := 74) C dX7_recount_73 0 rfl rfl ?_
      refine G_get (pc' := 77) C wD_0 rfl 6 (by decide) rfl iu_X7_recount_X7 lk_X7_recount_50 dX7_recount_74 rfl ?_
      refine G_aload_n (pc' := 78) C dX7_recount_77 0 rfl rfl ?_
      refine G_get (pc' := 81) C wD_0 rfl 7 (by decide) rfl iu_X7_recount_X7 lk_X7_recount_57 dX7_recount_78 rfl ?_
      refine G_callVv (pc' := 84) C [.ref (za ω 32)] (c_X5_rankInto ω N s4) sg_X5_rankInto gX7_recount_X5_rankInto wD_24 rfl ⟨Nat.le_of_ble_eq_true rfl, Nat.le_of_ble_eq_true rfl⟩ rfl rfl (Nat.le_of_ble_eq_true rfl) dX7_recount_81 rfl hf (fun s5 hf => ?_)
      exact G_vret C hR dX7_recount_84 (Option.some.inj hf)
    · refine G_iload_n (pc' := 52) C dX7_recount_51 2 rfl rfl ?_
      refine G_iconst (v := (1 : Int32)) (pc' := 53) C dX7_recount_52 (by decide) rfl ?_
      refine G_icmp_ne (tgt := 66) (pc' := 56) C dX7_recount_53 (by decide) rfl hf (fun hf => ?_) (fun hf => ?_)
      · refine G_aload_n (pc' := 57) C dX7_recount_56 0 rfl rfl ?_
        refine G_get (pc' := 60) C wD_0 rfl 6 (by decide) rfl iu_X7_recount_X7 lk_X7_recount_50 dX7_recount_57 rfl ?_
        refine G_callVv (pc' := 63) C [] (c_X5_valueByPairs ω N s3) sg_X5_valueByPairs gX7_recount_X5_valueByPairs wD_24 rfl ⟨Nat.le_of_ble_eq_true rfl, Nat.le_of_ble_eq_true rfl⟩ rfl rfl (Nat.le_of_ble_eq_true rfl) dX7_recount_60 rfl hf (fun s6 hf => ?_)
        refine G_goto (pc' := 73) C dX7_recount_63 (by decide) ?_
        refine G_aload_n (pc' := 74) C dX7_recount_73 0 rfl rfl ?_
        refine G_get (pc' := 77) C wD_0 rfl 6 (by decide) rfl iu_X7_recount_X7 lk_X7_recount_50 dX7_recount_74 rfl ?_
        refine G_aload_n (pc' := 78) C dX7_recount_77 0 rfl rfl ?_
        refine G_get (pc' := 81) C wD_0 rfl 7 (by decide) rfl iu_X7_recount_X7 lk_X7_recount_57 dX7_recount_78 rfl ?_
        refine G_callVv (pc' := 84) C [.ref (za ω 32)] (c_X5_rankInto ω N s6) sg_X5_rankInto gX7_recount_X5_rankInto wD_24 rfl ⟨Nat.le_of_ble_eq_true rfl, Nat.le_of_ble_eq_true rfl⟩ rfl rfl (Nat.le_of_ble_eq_true rfl) dX7_recount_81 rfl hf (fun s7 hf => ?_)
        exact G_vret C hR dX7_recount_84 (Option.some.inj hf)
      · refine G_aload_n (pc' := 67) C dX7_recount_66 0 rfl rfl ?_
        refine G_get (pc' := 70) C wD_0 rfl 6 (by decide) rfl iu_X7_recount_X7 lk_X7_recount_50 dX7_recount_67 rfl ?_
        refine G_callVv (pc' := 73) C [] (c_X5_valueByRounds ω N s3) sg_X5_valueByRounds gX7_recount_X5_valueByRounds wD_24 rfl ⟨Nat.le_of_ble_eq_true rfl, Nat.le_of_ble_eq_true rfl⟩ rfl rfl (Nat.le_of_ble_eq_true rfl) dX7_recount_70 rfl hf (fun s8 hf => ?_)
        refine G_aload_n (pc' := 74) C dX7_recount_73 0 rfl rfl ?_
        refine G_get (pc' := 77) C wD_0 rfl 6 (by decide) rfl iu_X7_recount_X7 lk_X7_recount_50 dX7_recount_74 rfl ?_
        refine G_aload_n (pc' := 78) C dX7_recount_77 0 rfl rfl ?_
        refine G_get (pc' := 81) C wD_0 rfl 7 (by decide) rfl iu_X7_recount_X7 lk_X7_recount_57 dX7_recount_78 rfl ?_
        refine G_callVv (pc' := 84) C [.ref (za ω 32)] (c_X5_rankInto ω N s8) sg_X5_rankInto gX7_recount_X5_rankInto wD_24 rfl ⟨Nat.le_of_ble_eq_true rfl, Nat.le_of_ble_eq_true rfl⟩ rfl rfl (Nat.le_of_ble_eq_true rfl) dX7_recount_81 rfl hf (fun s9 hf => ?_)
        exact G_vret C hR dX7_recount_84 (Option.some.inj hf)
  · refine G_iconst (v := (0 : Int32)) (pc' := 34) C dX7_recount_33 (by decide) rfl ?_
    refine G_callVv (pc' := 37) C [.ref (za ω 18), .ref (za ω 11), .int v1, .int (0 : Int32)] (c_X5_hear_24_18_11 ω N σ v1 (0 : Int32)) sg_X5_hear_24_18_11 gX7_recount_X5_hear wD_24 rfl ⟨Nat.le_of_ble_eq_true rfl, Nat.le_of_ble_eq_true rfl⟩ rfl rfl (Nat.le_of_ble_eq_true rfl) dX7_recount_34 rfl hf (fun s10 hf => ?_)
    refine G_iload_n (pc' := 38) C dX7_recount_37 2 rfl rfl ?_
    refine G_if_ne (tgt := 51) (pc' := 41) C dX7_recount_38 (by decide) rfl hf (fun hf => ?_) (fun hf => ?_)
    · refine G_aload_n (pc' := 42) C dX7_recount_41 0 rfl rfl ?_
      refine G_get (pc' := 45) C wD_0 rfl 6 (by decide) rfl iu_X7_recount_X7 lk_X7_recount_50 dX7_recount_42 rfl ?_
      refine G_callVv (pc' := 48) C [] (c_X5_valueByPoints ω N s10) sg_X5_valueByPoints gX7_recount_X5_valueByPoints wD_24 rfl ⟨Nat.le_of_ble_eq_true rfl, Nat.le_of_ble_eq_true rfl⟩ rfl rfl (Nat.le_of_ble_eq_true rfl) dX7_recount_45 rfl hf (fun s11 hf => ?_)
      refine G_goto (pc' := 73) C dX7_recount_48 (by decide) ?_
      refine G_aload_n (pc' := 74) C dX7_recount_73 0 rfl rfl ?_
      refine G_get (pc' := 77) C wD_0 rfl 6 (by decide) rfl iu_X7_recount_X7 lk_X7_recount_50 dX7_recount_74 rfl ?_
      refine G_aload_n (pc' := 78) C dX7_recount_77 0 rfl rfl ?_
      refine G_get (pc' := 81) C wD_0 rfl 7 (by decide) rfl iu_X7_recount_X7 lk_X7_recount_57 dX7_recount_78 rfl ?_
      refine G_callVv (pc' := 84) C [.ref (za ω 32)] (c_X5_rankInto ω N s11) sg_X5_rankInto gX7_recount_X5_rankInto wD_24 rfl ⟨Nat.le_of_ble_eq_true rfl, Nat.le_of_ble_eq_true rfl⟩ rfl rfl (Nat.le_of_ble_eq_true rfl) dX7_recount_81 rfl hf (fun s12 hf => ?_)
      exact G_vret C hR dX7_recount_84 (Option.some.inj hf)
    · refine G_iload_n (pc' := 52) C dX7_recount_51 2 rfl rfl ?_
      refine G_iconst (v := (1 : Int32)) (pc' := 53) C dX7_recount_52 (by decide) rfl ?_
      refine G_icmp_ne (tgt := 66) (pc' := 56) C dX7_recount_53 (by decide) rfl hf (fun hf => ?_) (fun hf => ?_)
      · refine G_aload_n (pc' := 57) C dX7_recount_56 0 rfl rfl ?_
        refine G_get (pc' := 60) C wD_0 rfl 6 (by decide) rfl iu_X7_recount_X7 lk_X7_recount_50 dX7_recount_57 rfl ?_
        refine G_callVv (pc' := 63) C [] (c_X5_valueByPairs ω N s10) sg_X5_valueByPairs gX7_recount_X5_valueByPairs wD_24 rfl ⟨Nat.le_of_ble_eq_true rfl, Nat.le_of_ble_eq_true rfl⟩ rfl rfl (Nat.le_of_ble_eq_true rfl) dX7_recount_60 rfl hf (fun s13 hf => ?_)
        refine G_goto (pc' := 73) C dX7_recount_63 (by decide) ?_
        refine G_aload_n (pc' := 74) C dX7_recount_73 0 rfl rfl ?_
        refine G_get (pc' := 77) C wD_0 rfl 6 (by decide) rfl iu_X7_recount_X7 lk_X7_recount_50 dX7_recount_74 rfl ?_
        refine G_aload_n (pc' := 78) C dX7_recount_77 0 rfl rfl ?_
        refine G_get (pc' := 81) C wD_0 rfl 7 (by decide) rfl iu_X7_recount_X7 lk_X7_recount_57 dX7_recount_78 rfl ?_
        refine G_callVv (pc' := 84) C [.ref (za ω 32)] (c_X5_rankInto ω N s13) sg_X5_rankInto gX7_recount_X5_rankInto wD_24 rfl ⟨Nat.le_of_ble_eq_true rfl, Nat.le_of_ble_eq_true rfl⟩ rfl rfl (Nat.le_of_ble_eq_true rfl) dX7_recount_81 rfl hf (fun s14 hf => ?_)
        exact G_vret C hR dX7_recount_84 (Option.some.inj hf)
      · refine G_aload_n (pc' := 67) C dX7_recount_66 0 rfl rfl ?_
        refine G_get (pc' := 70) C wD_0 rfl 6 (by decide) rfl iu_X7_recount_X7 lk_X7_recount_50 dX7_recount_67 rfl ?_
        refine G_callVv (pc' := 73) C [] (c_X5_valueByRounds ω N s10) sg_X5_valueByRounds gX7_recount_X5_valueByRounds wD_24 rfl ⟨Nat.le_of_ble_eq_true rfl, Nat.le_of_ble_eq_true rfl⟩ rfl rfl (Nat.le_of_ble_eq_true rfl) dX7_recount_70 rfl hf (fun s15 hf => ?_)
        refine G_aload_n (pc' := 74) C dX7_recount_73 0 rfl rfl ?_
        refine G_get (pc' := 77) C wD_0 rfl 6 (by decide) rfl iu_X7_recount_X7 lk_X7_recount_50 dX7_recount_74 rfl ?_
        refine G_aload_n (pc' := 78) C dX7_recount_77 0 rfl rfl ?_
        refine G_get (pc' := 81) C wD_0 rfl 7 (by decide) rfl iu_X7_recount_X7 lk_X7_recount_57 dX7_recount_78 rfl ?_
        refine G_callVv (pc' := 84) C [.ref (za ω 32)] (c_X5_rankInto ω N s15) sg_X5_rankInto gX7_recount_X5_rankInto wD_24 rfl ⟨Nat.le_of_ble_eq_true rfl, Nat.le_of_ble_eq_true rfl⟩ rfl rfl (Nat.le_of_ble_eq_true rfl) dX7_recount_81 rfl hf (fun s16 hf => ?_)
        exact G_vret C hR dX7_recount_84 (Option.some.inj hf)
theorem lk_X2_cut_33l : Cond.methodLink RX2 33 Lib.Math.min.name ∈ wsX2_cut := by decide +kernel
theorem lk_X2_cut_33s : Cond.static Lib.Math.min.name ∈ wsX2_cut := by decide +kernel
theorem lk_X2_cut_33i : Cond.initialized "java/lang/Math" ∈ wsX2_cut := by decide +kernel
theorem lk_X2_cut_33c : Cond.code Lib.Math.min.name Lib.Math.min.code 2 (some .int) ∈ wsX2_cut := by decide +kernel
theorem lk_X2_cut_39l : Cond.methodLink RX2 39 Lib.Math.max.name ∈ wsX2_cut := by decide +kernel
theorem lk_X2_cut_39s : Cond.static Lib.Math.max.name ∈ wsX2_cut := by decide +kernel
theorem lk_X2_cut_39i : Cond.initialized "java/lang/Math" ∈ wsX2_cut := by decide +kernel
theorem lk_X2_cut_39c : Cond.code Lib.Math.max.name Lib.Math.max.code 2 (some .int) ∈ wsX2_cut := by decide +kernel
theorem iu_X2_cut_X2 : ∀ w ∈ wsX20, w ∈ wsX2_cut := by decide +kernel
theorem lk_X2_cut_18 : Cond.fieldLink RX2 18 "PrizeDesk$Ranking" "size" "I" ∈ wsX2_cut := by decide +kernel
abbrev rm_X2_cut : Room := { frames := 1, cells := 0, slots := 0, locals := 21 }
theorem sg_X2_cut : ZG yX2_cut wsX2_cut cX2_cut 2 none RX2 1 rm_X2_cut := ⟨⟨_, rfl⟩, by decide +kernel, rfl, rfl⟩
set_option maxHeartbeats 4000000 in
set_option maxRecDepth 100000 in
theorem c_X2_cut (ω : ZO) (N : Nat) (σ : ZS) (a1 : Int32) : ZVs ω wD yX2_cut wsX2_cut rm_X2_cut [.ref (za ω 32), .int a1] σ (f_X2_cut N σ a1) := by
  intro r0 hf
  refine ZV.go (cc := cX2_cut) (maxL := 2) (ret := none) (own := RX2) (lv := [(0, .ref (za ω 32)), (1, .int a1)]) (by decide) rfl rfl (Nat.le_of_ble_eq_true rfl) rfl (fun κ C hR => ?_)
  unfold f_X2_cut at hf
  refine G_aload_n (pc' := 1) C dX2_cut_0 0 rfl rfl ?_
  refine G_iconst (v := (0 : Int32)) (pc' := 2) C dX2_cut_1 (by decide) rfl ?_
  refine G_aload_n (pc' := 3) C dX2_cut_2 0 rfl rfl ?_
  refine G_get (pc' := 6) C wD_32 rfl 2 (by decide) rfl iu_X2_cut_X2 lk_X2_cut_18 dX2_cut_3 rfl ?_
  refine G_iload_n (pc' := 7) C dX2_cut_6 1 rfl rfl ?_
  refine G_mmin (pc' := 10) C lk_X2_cut_33l lk_X2_cut_33s lk_X2_cut_33i lk_X2_cut_33c (by decide) (Nat.le_of_ble_eq_true rfl) dX2_cut_7 rfl hf (fun v1 hf => ?_)
  refine G_mmax (pc' := 13) C lk_X2_cut_39l lk_X2_cut_39s lk_X2_cut_39i lk_X2_cut_39c (by decide) (Nat.le_of_ble_eq_true rfl) dX2_cut_10 rfl hf (fun v2 hf => ?_)
  refine G_put (pc' := 16) C tyX2 tyX2_ok nmX2 wD_32 rfl 2 (by decide) (Nat.le_of_ble_eq_true rfl) iu_X2_cut_X2 lk_X2_cut_18 rfl (by decide +kernel) wD_f32_2 dX2_cut_13 rfl hf (fun s3 hf => ?_)
  exact G_vret C hR dX2_cut_16 (Option.some.inj hf)
theorem iu_X7_rankList_X7 : ∀ w ∈ wsX70, w ∈ wsX7_rankList := by decide +kernel
theorem lk_X7_rankList_19 : Cond.fieldLink RX7 19 "PrizeDesk" "ruleBook" "LPrizeDesk$Rules;" ∈ wsX7_rankList := by decide +kernel
theorem lk_X7_rankList_57 : Cond.fieldLink RX7 57 "PrizeDesk" "ranking" "LPrizeDesk$Ranking;" ∈ wsX7_rankList := by decide +kernel
theorem lk_X7_rankList_40 : Cond.fieldLink RX7 40 "PrizeDesk" "shortlistPoll" "LPrizeDesk$Poll;" ∈ wsX7_rankList := by decide +kernel
abbrev rm_X7_rankList : Room := { frames := 5, cells := 0, slots := 0, locals := 117 }
theorem sg_X7_rankList : ZG yX7_rankList wsX7_rankList cX7_rankList 2 none RX7 1 rm_X7_rankList := ⟨⟨_, rfl⟩, by decide +kernel, rfl, rfl⟩
set_option maxHeartbeats 4000000 in
set_option maxRecDepth 100000 in
theorem c_X7_rankList (ω : ZO) (N : Nat) (σ : ZS) (a1 : Int32) : ZVs ω wD yX7_rankList wsX7_rankList rm_X7_rankList [.ref (za ω 0), .int a1] σ (f_X7_rankList N σ a1) := by
  intro r0 hf
  refine ZV.go (cc := cX7_rankList) (maxL := 2) (ret := none) (own := RX7) (lv := [(0, .ref (za ω 0)), (1, .int a1)]) (by decide) rfl rfl (Nat.le_of_ble_eq_true rfl) rfl (fun κ C hR => ?_)
  unfold f_X7_rankList at hf
  refine G_aload_n (pc' := 1) C dX7_rankList_0 0 rfl rfl ?_
  refine G_callVv (pc' := 4) C [] (c_X7_rankLonglist ω N σ) sg_X7_rankLonglist gX7_rankList_X7_rankLonglist wD_0 rfl ⟨Nat.le_of_ble_eq_true rfl, Nat.le_of_ble_eq_true rfl⟩ rfl rfl (Nat.le_of_ble_eq_true rfl) dX7_rankList_1 rfl hf (fun s1 hf => ?_)
  refine G_iload_n (pc' := 5) C dX7_rankList_4 1 rfl rfl ?_
  refine G_iconst (v := (1 : Int32)) (pc' := 6) C dX7_rankList_5 (by decide) rfl ?_
  refine G_icmp_ne (tgt := 42) (pc' := 9) C dX7_rankList_6 (by decide) rfl hf (fun hf => ?_) (fun hf => ?_)
  · refine G_aload_n (pc' := 10) C dX7_rankList_9 0 rfl rfl ?_
    refine G_aload_n (pc' := 11) C dX7_rankList_10 0 rfl rfl ?_
    refine G_get (pc' := 14) C wD_0 rfl 4 (by decide) rfl iu_X7_rankList_X7 lk_X7_rankList_40 dX7_rankList_11 rfl ?_
    refine G_aload_n (pc' := 15) C dX7_rankList_14 0 rfl rfl ?_
    refine G_get (pc' := 18) C wD_0 rfl 1 (by decide) rfl iu_X7_rankList_X7 lk_X7_rankList_19 dX7_rankList_15 rfl ?_
    refine G_bipush (v := (9 : Int32)) (pc' := 20) C dX7_rankList_18 (by decide) rfl ?_
    refine G_callVp (pc' := 23) C [.int (9 : Int32)] (c_X3_number ω N s1 (9 : Int32)) sg_X3_number gX7_rankList_X3_number wD_3 rfl ⟨Nat.le_of_ble_eq_true rfl, Nat.le_of_ble_eq_true rfl⟩ rfl rfl (Nat.le_of_ble_eq_true rfl) dX7_rankList_20 rfl hf (fun v2 hf => ?_)
    refine G_callVv (pc' := 26) C [.ref (za ω 18), .int v2] (c_X7_recount_0_18 ω N s1 v2) sg_X7_recount_0_18 gX7_rankList_X7_recount wD_0 rfl ⟨Nat.le_of_ble_eq_true rfl, Nat.le_of_ble_eq_true rfl⟩ rfl rfl (Nat.le_of_ble_eq_true rfl) dX7_rankList_23 rfl hf (fun s3 hf => ?_)
    refine G_aload_n (pc' := 27) C dX7_rankList_26 0 rfl rfl ?_
    refine G_get (pc' := 30) C wD_0 rfl 7 (by decide) rfl iu_X7_rankList_X7 lk_X7_rankList_57 dX7_rankList_27 rfl ?_
    refine G_aload_n (pc' := 31) C dX7_rankList_30 0 rfl rfl ?_
    refine G_get (pc' := 34) C wD_0 rfl 1 (by decide) rfl iu_X7_rankList_X7 lk_X7_rankList_19 dX7_rankList_31 rfl ?_
    refine G_bipush (v := (8 : Int32)) (pc' := 36) C dX7_rankList_34 (by decide) rfl ?_
    refine G_callVp (pc' := 39) C [.int (8 : Int32)] (c_X3_number ω N s3 (8 : Int32)) sg_X3_number gX7_rankList_X3_number wD_3 rfl ⟨Nat.le_of_ble_eq_true rfl, Nat.le_of_ble_eq_true rfl⟩ rfl rfl (Nat.le_of_ble_eq_true rfl) dX7_rankList_36 rfl hf (fun v4 hf => ?_)
    refine G_callVv (pc' := 42) C [.int v4] (c_X2_cut ω N s3 v4) sg_X2_cut gX7_rankList_X2_cut wD_32 rfl ⟨Nat.le_of_ble_eq_true rfl, Nat.le_of_ble_eq_true rfl⟩ rfl rfl (Nat.le_of_ble_eq_true rfl) dX7_rankList_39 rfl hf (fun s5 hf => ?_)
    exact G_vret C hR dX7_rankList_42 (Option.some.inj hf)
  · exact G_vret C hR dX7_rankList_42 (Option.some.inj hf)
abbrev rm_X1_isCounting_21 : Room := { frames := 0, cells := 0, slots := 0, locals := 0 }
theorem sg_X1_isCounting_21 : ZG yX1_isCounting wsX1_isCounting cX1_isCounting 2 (some .boolean) RX1 1 rm_X1_isCounting_21 := ⟨⟨_, rfl⟩, by decide +kernel, rfl, rfl⟩
set_option maxHeartbeats 4000000 in
set_option maxRecDepth 100000 in
theorem c_X1_isCounting_21 (ω : ZO) (N : Nat) (σ : ZS) (a1 : Int32) : ZIp ω wD yX1_isCounting wsX1_isCounting rm_X1_isCounting_21 [.ref (za ω 21), .int a1] σ (f_X1_isCounting_21 N σ a1) := by
  intro r0 hf
  refine ZI.go (cc := cX1_isCounting) (maxL := 2) (ret := (some .boolean)) (own := RX1) (lv := [(0, .ref (za ω 21)), (1, .int a1)]) (by decide) rfl rfl (Nat.le_of_ble_eq_true rfl) rfl (fun κ C hR => ?_)
  unfold f_X1_isCounting_21 at hf
  refine G_iload_n (pc' := 1) C dX1_isCounting_0 1 rfl rfl ?_
  refine G_if_lt (tgt := 37) (pc' := 4) C dX1_isCounting_1 (by decide) rfl hf (fun hf => ?_) (fun hf => ?_)
  · refine G_iconst (v := (0 : Int32)) (pc' := 38) C dX1_isCounting_37 (by decide) rfl ?_
    exact G_zret C hR dX1_isCounting_38 (by decide) ⟨Option.some.inj hf, rfl⟩
  · refine G_iload_n (pc' := 5) C dX1_isCounting_4 1 rfl rfl ?_
    refine G_bipush (v := (7 : Int32)) (pc' := 7) C dX1_isCounting_5 (by decide) rfl ?_
    refine G_icmp_ge (tgt := 37) (pc' := 10) C dX1_isCounting_7 (by decide) rfl hf (fun hf => ?_) (fun hf => ?_)
    · refine G_iconst (v := (0 : Int32)) (pc' := 38) C dX1_isCounting_37 (by decide) rfl ?_
      exact G_zret C hR dX1_isCounting_38 (by decide) ⟨Option.some.inj hf, rfl⟩
    · refine G_aload_n (pc' := 11) C dX1_isCounting_10 0 rfl rfl ?_
      refine G_get (pc' := 14) C wD_21 rfl 0 (by decide) rfl iu_X1_isCounting_X1 lk_X1_isCounting_9 dX1_isCounting_11 rfl ?_
      refine G_iload_n (pc' := 15) C dX1_isCounting_14 1 rfl rfl ?_
      refine G_iald (pc' := 16) C wD_22 dX1_isCounting_15 rfl hf (fun v1 hf => ?_)
      refine G_iconst (v := (-1 : Int32)) (pc' := 17) C dX1_isCounting_16 (by decide) rfl ?_
      refine G_icmp_eq (tgt := 37) (pc' := 20) C dX1_isCounting_17 (by decide) rfl hf (fun hf => ?_) (fun hf => ?_)
      · refine G_iconst (v := (0 : Int32)) (pc' := 38) C dX1_isCounting_37 (by decide) rfl ?_
        exact G_zret C hR dX1_isCounting_38 (by decide) ⟨Option.some.inj hf, rfl⟩
      · refine G_aload_n (pc' := 21) C dX1_isCounting_20 0 rfl rfl ?_
        refine G_get (pc' := 24) C wD_21 rfl 0 (by decide) rfl iu_X1_isCounting_X1 lk_X1_isCounting_9 dX1_isCounting_21 rfl ?_
        refine G_iload_n (pc' := 25) C dX1_isCounting_24 1 rfl rfl ?_
        refine G_iald (pc' := 26) C wD_22 dX1_isCounting_25 rfl hf (fun v2 hf => ?_)
        refine G_aload_n (pc' := 27) C dX1_isCounting_26 0 rfl rfl ?_
        refine G_get (pc' := 30) C wD_21 rfl 2 (by decide) rfl iu_X1_isCounting_X1 lk_X1_isCounting_18 dX1_isCounting_27 rfl ?_
        refine G_icmp_gt (tgt := 37) (pc' := 33) C dX1_isCounting_30 (by decide) rfl hf (fun hf => ?_) (fun hf => ?_)
        · refine G_iconst (v := (0 : Int32)) (pc' := 38) C dX1_isCounting_37 (by decide) rfl ?_
          exact G_zret C hR dX1_isCounting_38 (by decide) ⟨Option.some.inj hf, rfl⟩
        · refine G_iconst (v := (1 : Int32)) (pc' := 34) C dX1_isCounting_33 (by decide) rfl ?_
          refine G_goto (pc' := 38) C dX1_isCounting_34 (by decide) ?_
          exact G_zret C hR dX1_isCounting_38 (by decide) ⟨Option.some.inj hf, rfl⟩
abbrev rm_X1_bookAt_21 : Room := { frames := 1, cells := 0, slots := 0, locals := 22 }
theorem sg_X1_bookAt_21 : ZG yX1_bookAt wsX1_bookAt cX1_bookAt 3 (some .int) RX1 2 rm_X1_bookAt_21 := ⟨⟨_, rfl⟩, by decide +kernel, rfl, rfl⟩
set_option maxHeartbeats 4000000 in
set_option maxRecDepth 100000 in
theorem c_X1_bookAt_21 (ω : ZO) (N : Nat) (σ : ZS) (a1 : Int32) (a2 : Int32) : ZIp ω wD yX1_bookAt wsX1_bookAt rm_X1_bookAt_21 [.ref (za ω 21), .int a1, .int a2] σ (f_X1_bookAt_21 N σ a1 a2) := by
  intro r0 hf
  refine ZI.go (cc := cX1_bookAt) (maxL := 3) (ret := (some .int)) (own := RX1) (lv := [(0, .ref (za ω 21)), (1, .int a1), (2, .int a2)]) (by decide) rfl rfl (Nat.le_of_ble_eq_true rfl) rfl (fun κ C hR => ?_)
  unfold f_X1_bookAt_21 at hf
  refine G_aload_n (pc' := 1) C dX1_bookAt_0 0 rfl rfl ?_
  refine G_iload_n (pc' := 2) C dX1_bookAt_1 1 rfl rfl ?_
  refine G_callVp (pc' := 5) C [.int a1] (c_X1_isCounting_21 ω N σ a1) sg_X1_isCounting_21 gX1_bookAt_X1_isCounting wD_21 rfl ⟨Nat.le_of_ble_eq_true rfl, Nat.le_of_ble_eq_true rfl⟩ rfl rfl (Nat.le_of_ble_eq_true rfl) dX1_bookAt_2 rfl hf (fun v1 hf => ?_)
  refine G_if_eq (tgt := 32) (pc' := 8) C dX1_bookAt_5 (by decide) rfl hf (fun hf => ?_) (fun hf => ?_)
  · refine G_iconst (v := (-1 : Int32)) (pc' := 33) C dX1_bookAt_32 (by decide) rfl ?_
    exact G_iret C hR dX1_bookAt_33 ⟨Option.some.inj hf, rfl⟩
  · refine G_iload_n (pc' := 9) C dX1_bookAt_8 2 rfl rfl ?_
    refine G_iconst (v := (0 : Int32)) (pc' := 10) C dX1_bookAt_9 (by decide) rfl ?_
    refine G_bipush (v := (11 : Int32)) (pc' := 12) C dX1_bookAt_10 (by decide) rfl ?_
    refine G_callNp (pc' := 15) C [.int a2, .int (0 : Int32), .int (11 : Int32)] (c_X7_isWithin ω N σ a2 (0 : Int32) (11 : Int32)) sg_X7_isWithin gX1_bookAt_X7_isWithin_n35 lk_X1_bookAt_35n lk_X1_bookAt_35s lk_X1_bookAt_35i ⟨Nat.le_of_ble_eq_true rfl, Nat.le_of_ble_eq_true rfl⟩ rfl rfl (Nat.le_of_ble_eq_true rfl) dX1_bookAt_12 rfl hf (fun v2 hf => ?_)
    refine G_if_eq (tgt := 32) (pc' := 18) C dX1_bookAt_15 (by decide) rfl hf (fun hf => ?_) (fun hf => ?_)
    · refine G_iconst (v := (-1 : Int32)) (pc' := 33) C dX1_bookAt_32 (by decide) rfl ?_
      exact G_iret C hR dX1_bookAt_33 ⟨Option.some.inj hf, rfl⟩
    · refine G_aload_n (pc' := 19) C dX1_bookAt_18 0 rfl rfl ?_
      refine G_get (pc' := 22) C wD_21 rfl 1 (by decide) rfl iu_X1_bookAt_X1 lk_X1_bookAt_15 dX1_bookAt_19 rfl ?_
      refine G_iload_n (pc' := 23) C dX1_bookAt_22 1 rfl rfl ?_
      refine G_bipush (v := (12 : Int32)) (pc' := 25) C dX1_bookAt_23 (by decide) rfl ?_
      refine G_imul (pc' := 26) C dX1_bookAt_25 rfl ?_
      refine G_iload_n (pc' := 27) C dX1_bookAt_26 2 rfl rfl ?_
      refine G_iadd (pc' := 28) C dX1_bookAt_27 rfl ?_
      refine G_iald (pc' := 29) C wD_23 dX1_bookAt_28 rfl hf (fun v3 hf => ?_)
      refine G_goto (pc' := 33) C dX1_bookAt_29 (by decide) ?_
      exact G_iret C hR dX1_bookAt_33 ⟨Option.some.inj hf, rfl⟩
abbrev rm_X5_hearJudge_24_21_11 : Room := { frames := 2, cells := 0, slots := 0, locals := 44 }
theorem sg_X5_hearJudge_24_21_11 : ZG yX5_hearJudge wsX5_hearJudge cX5_hearJudge 7 none RX5 3 rm_X5_hearJudge_24_21_11 := ⟨⟨_, rfl⟩, by decide +kernel, rfl, rfl⟩
set_option maxHeartbeats 4000000 in
set_option maxRecDepth 100000 in
theorem w_X5_hearJudge_24_21_11_11 {ω : ZO} {κ : ZK} {N : Nat} {b1 : Int32} {K : Int32 → ZS → Option (ZS)} {r0 : ZS} (C : CX ω wD κ cX5_hearJudge wsX5_hearJudge RX5 none 7 rm_X5_hearJudge_24_21_11) (hR : zRV ω wD κ (fun τ => τ = r0)) (HK : ∀ (y4 : Int32) (τ : ZS), K y4 τ = some r0 → G ω wD κ 38 [(0, .ref (za ω 24)), (1, .int b1), (2, .ref (za ω 21)), (3, .ref (za ω 11))] [] τ) : ∀ (n : Nat) (y4 : Int32) (τ : ZS), L_X5_hearJudge_24_21_11_11 N b1 K n y4 τ = some r0 → G ω wD κ 11 [(0, .ref (za ω 24)), (1, .int b1), (2, .ref (za ω 21)), (3, .ref (za ω 11)), (4, .int y4)] [] τ := by
  intro n
  induction n with
  | zero => intro  y4 τ hf; exact absurd (show none = some r0 from hf) (fun h => nomatch h)
  | succ n ih =>
    intro y4 τ hf
    have hf : B_X5_hearJudge_24_21_11_11 N b1 K (L_X5_hearJudge_24_21_11_11 N b1 K n) y4 τ = some r0 := hf
    unfold B_X5_hearJudge_24_21_11_11 at hf
    refine G_iload (pc' := 13) C dX5_hearJudge_11 4 rfl rfl ?_
    refine G_bipush (v := (24 : Int32)) (pc' := 15) C dX5_hearJudge_13 (by decide) rfl ?_
    refine G_icmp_ge (tgt := 38) (pc' := 18) C dX5_hearJudge_15 (by decide) rfl hf (fun hf => ?_) (fun hf => ?_)
    · refine G_sub (lv' := [(0, .ref (za ω 24)), (1, .int b1), (2, .ref (za ω 21)), (3, .ref (za ω 11))]) C [0, 1, 2, 3] rfl ?_
      exact HK y4 τ hf
    · refine G_aload_n (pc' := 19) C dX5_hearJudge_18 0 rfl rfl ?_
      refine G_get (pc' := 22) C wD_24 rfl 1 (by decide) rfl iu_X5_hearJudge_X5 lk_X5_hearJudge_15 dX5_hearJudge_19 rfl ?_
      refine G_iload_n (pc' := 23) C dX5_hearJudge_22 1 rfl rfl ?_
      refine G_bipush (v := (24 : Int32)) (pc' := 25) C dX5_hearJudge_23 (by decide) rfl ?_
      refine G_imul (pc' := 26) C dX5_hearJudge_25 rfl ?_
      refine G_iload (pc' := 28) C dX5_hearJudge_26 4 rfl rfl ?_
      refine G_iadd (pc' := 29) C dX5_hearJudge_28 rfl ?_
      refine G_bipush (v := (24 : Int32)) (pc' := 31) C dX5_hearJudge_29 (by decide) rfl ?_
      refine G_iast (pc' := 32) C wD_26 wD_s26 dX5_hearJudge_31 rfl hf (fun s2 hf => ?_)
      refine G_iincL (v := y4 + (1 : Int32)) (pc' := 35) C dX5_hearJudge_32 4 rfl rfl (by decide) [1, 2, 3, 4, 0] (fun x3 => [(0, .ref (za ω 24)), (1, .int b1), (2, .ref (za ω 21)), (3, .ref (za ω 11)), (4, .int x3)]) (fun _ => rfl) rfl hf (fun x3 hf => ?_)
      refine G_goto (pc' := 11) C dX5_hearJudge_35 (by decide) ?_
      exact ih x3 s2 hf
set_option maxHeartbeats 4000000 in
set_option maxRecDepth 100000 in
theorem w_X5_hearJudge_24_21_11_44 {ω : ZO} {κ : ZK} {N : Nat} {b1 : Int32} {K : Int32 → Int32 → ZS → Option (ZS)} {r0 : ZS} (C : CX ω wD κ cX5_hearJudge wsX5_hearJudge RX5 none 7 rm_X5_hearJudge_24_21_11) (hR : zRV ω wD κ (fun τ => τ = r0)) (HK : ∀ (y4 : Int32) (y5 : Int32) (τ : ZS), K y4 y5 τ = some r0 → G ω wD κ 129 [(0, .ref (za ω 24)), (2, .ref (za ω 21)), (3, .ref (za ω 11))] [] τ) : ∀ (n : Nat) (y4 : Int32) (y5 : Int32) (τ : ZS), L_X5_hearJudge_24_21_11_44 N b1 K n y4 y5 τ = some r0 → G ω wD κ 44 [(0, .ref (za ω 24)), (1, .int b1), (2, .ref (za ω 21)), (3, .ref (za ω 11)), (4, .int y4), (5, .int y5)] [] τ := by
  intro n
  induction n with
  | zero => intro  y4 y5 τ hf; exact absurd (show none = some r0 from hf) (fun h => nomatch h)
  | succ n ih =>
    intro y4 y5 τ hf
    have hf : B_X5_hearJudge_24_21_11_44 N b1 K (L_X5_hearJudge_24_21_11_44 N b1 K n) y4 y5 τ = some r0 := hf
    unfold B_X5_hearJudge_24_21_11_44 at hf
    refine G_iload (pc' := 46) C dX5_hearJudge_44 5 rfl rfl ?_
    refine G_bipush (v := (12 : Int32)) (pc' := 48) C dX5_hearJudge_46 (by decide) rfl ?_
    refine G_icmp_ge (tgt := 129) (pc' := 51) C dX5_hearJudge_48 (by decide) rfl hf (fun hf => ?_) (fun hf => ?_)
    · refine G_sub (lv' := [(0, .ref (za ω 24)), (2, .ref (za ω 21)), (3, .ref (za ω 11))]) C [0, 2, 3] rfl ?_
      exact HK y4 y5 τ hf
    · refine G_aload_n (pc' := 52) C dX5_hearJudge_51 2 rfl rfl ?_
      refine G_iload_n (pc' := 53) C dX5_hearJudge_52 1 rfl rfl ?_
      refine G_iload (pc' := 55) C dX5_hearJudge_53 5 rfl rfl ?_
      refine G_callVp (pc' := 58) C [.int b1, .int y5] (c_X1_bookAt_21 ω N τ b1 y5) sg_X1_bookAt_21 gX5_hearJudge_X1_bookAt wD_21 rfl ⟨Nat.le_of_ble_eq_true rfl, Nat.le_of_ble_eq_true rfl⟩ rfl rfl (Nat.le_of_ble_eq_true rfl) dX5_hearJudge_55 rfl hf (fun v6 hf => ?_)
      refine G_istore (lv' := [(0, .ref (za ω 24)), (1, .int b1), (2, .ref (za ω 21)), (3, .ref (za ω 11)), (4, .int y4), (5, .int y5), (6, .int v6)]) (pc' := 60) C dX5_hearJudge_58 (by decide) [1, 2, 3, 4, 5, 6, 0] rfl rfl ?_
      refine G_aload_n (pc' := 61) C dX5_hearJudge_60 0 rfl rfl ?_
      refine G_get (pc' := 64) C wD_24 rfl 0 (by decide) rfl iu_X5_hearJudge_X5 lk_X5_hearJudge_9 dX5_hearJudge_61 rfl ?_
      refine G_iload_n (pc' := 65) C dX5_hearJudge_64 1 rfl rfl ?_
      refine G_bipush (v := (12 : Int32)) (pc' := 67) C dX5_hearJudge_65 (by decide) rfl ?_
      refine G_imul (pc' := 68) C dX5_hearJudge_67 rfl ?_
      refine G_iload (pc' := 70) C dX5_hearJudge_68 5 rfl rfl ?_
      refine G_iadd (pc' := 71) C dX5_hearJudge_70 rfl ?_
      refine G_iconst (v := (-1 : Int32)) (pc' := 72) C dX5_hearJudge_71 (by decide) rfl ?_
      refine G_iast (pc' := 73) C wD_25 wD_s25 dX5_hearJudge_72 rfl hf (fun s7 hf => ?_)
      refine G_aload_n (pc' := 74) C dX5_hearJudge_73 0 rfl rfl ?_
      refine G_iload (pc' := 76) C dX5_hearJudge_74 6 rfl rfl ?_
      refine G_callVp (pc' := 79) C [.int v6] (c_X5_isListed ω N s7 v6) sg_X5_isListed gX5_hearJudge_X5_isListed wD_24 rfl ⟨Nat.le_of_ble_eq_true rfl, Nat.le_of_ble_eq_true rfl⟩ rfl rfl (Nat.le_of_ble_eq_true rfl) dX5_hearJudge_76 rfl hf (fun v8 hf => ?_)
      refine G_if_eq (tgt := 123) (pc' := 82) C dX5_hearJudge_79 (by decide) rfl hf (fun hf => ?_) (fun hf => ?_)
      · refine G_iincL (v := y5 + (1 : Int32)) (pc' := 126) C dX5_hearJudge_123 5 rfl rfl (by decide) [1, 2, 3, 4, 5, 0] (fun x9 => [(0, .ref (za ω 24)), (1, .int b1), (2, .ref (za ω 21)), (3, .ref (za ω 11)), (4, .int y4), (5, .int x9)]) (fun _ => rfl) rfl hf (fun x9 hf => ?_)
        refine G_goto (pc' := 44) C dX5_hearJudge_126 (by decide) ?_
        exact ih y4 x9 s7 hf
      · refine G_aload_n (pc' := 83) C dX5_hearJudge_82 3 rfl rfl ?_
        refine G_iload_n (pc' := 84) C dX5_hearJudge_83 1 rfl rfl ?_
        refine G_iload (pc' := 86) C dX5_hearJudge_84 6 rfl rfl ?_
        refine G_callVp (pc' := 89) C [.int b1, .int v6] (c_X0_isBarred ω N s7 b1 v6) sg_X0_isBarred gX5_hearJudge_X0_isBarred wD_11 rfl ⟨Nat.le_of_ble_eq_true rfl, Nat.le_of_ble_eq_true rfl⟩ rfl rfl (Nat.le_of_ble_eq_true rfl) dX5_hearJudge_86 rfl hf (fun v10 hf => ?_)
        refine G_if_ne (tgt := 123) (pc' := 92) C dX5_hearJudge_89 (by decide) rfl hf (fun hf => ?_) (fun hf => ?_)
        · refine G_aload_n (pc' := 93) C dX5_hearJudge_92 0 rfl rfl ?_
          refine G_get (pc' := 96) C wD_24 rfl 1 (by decide) rfl iu_X5_hearJudge_X5 lk_X5_hearJudge_15 dX5_hearJudge_93 rfl ?_
          refine G_iload_n (pc' := 97) C dX5_hearJudge_96 1 rfl rfl ?_
          refine G_bipush (v := (24 : Int32)) (pc' := 99) C dX5_hearJudge_97 (by decide) rfl ?_
          refine G_imul (pc' := 100) C dX5_hearJudge_99 rfl ?_
          refine G_iload (pc' := 102) C dX5_hearJudge_100 6 rfl rfl ?_
          refine G_iadd (pc' := 103) C dX5_hearJudge_102 rfl ?_
          refine G_iload (pc' := 105) C dX5_hearJudge_103 4 rfl rfl ?_
          refine G_iast (pc' := 106) C wD_26 wD_s26 dX5_hearJudge_105 rfl hf (fun s11 hf => ?_)
          refine G_aload_n (pc' := 107) C dX5_hearJudge_106 0 rfl rfl ?_
          refine G_get (pc' := 110) C wD_24 rfl 0 (by decide) rfl iu_X5_hearJudge_X5 lk_X5_hearJudge_9 dX5_hearJudge_107 rfl ?_
          refine G_iload_n (pc' := 111) C dX5_hearJudge_110 1 rfl rfl ?_
          refine G_bipush (v := (12 : Int32)) (pc' := 113) C dX5_hearJudge_111 (by decide) rfl ?_
          refine G_imul (pc' := 114) C dX5_hearJudge_113 rfl ?_
          refine G_iload (pc' := 116) C dX5_hearJudge_114 4 rfl rfl ?_
          refine G_iadd (pc' := 117) C dX5_hearJudge_116 rfl ?_
          refine G_iload (pc' := 119) C dX5_hearJudge_117 6 rfl rfl ?_
          refine G_iast (pc' := 120) C wD_25 wD_s25 dX5_hearJudge_119 rfl hf (fun s12 hf => ?_)
          refine G_iincL (v := y4 + (1 : Int32)) (pc' := 123) C dX5_hearJudge_120 4 rfl rfl (by decide) [1, 2, 3, 4, 0, 5] (fun x13 => [(0, .ref (za ω 24)), (1, .int b1), (2, .ref (za ω 21)), (3, .ref (za ω 11)), (4, .int x13), (5, .int y5)]) (fun _ => rfl) rfl hf (fun x13 hf => ?_)
          refine G_iincL (v := y5 + (1 : Int32)) (pc' := 126) C dX5_hearJudge_123 5 rfl rfl (by decide) [1, 2, 3, 4, 5, 0] (fun x14 => [(0, .ref (za ω 24)), (1, .int b1), (2, .ref (za ω 21)), (3, .ref (za ω 11)), (4, .int x13), (5, .int x14)]) (fun _ => rfl) rfl hf (fun x14 hf => ?_)
          refine G_goto (pc' := 44) C dX5_hearJudge_126 (by decide) ?_
          exact ih x13 x14 s12 hf
        · refine G_iincL (v := y5 + (1 : Int32)) (pc' := 126) C dX5_hearJudge_123 5 rfl rfl (by decide) [1, 2, 3, 4, 5, 0] (fun x15 => [(0, .ref (za ω 24)), (1, .int b1), (2, .ref (za ω 21)), (3, .ref (za ω 11)), (4, .int y4), (5, .int x15)]) (fun _ => rfl) rfl hf (fun x15 hf => ?_)
          refine G_goto (pc' := 44) C dX5_hearJudge_126 (by decide) ?_
          exact ih y4 x15 s7 hf
set_option maxHeartbeats 4000000 in
set_option maxRecDepth 100000 in
theorem c_X5_hearJudge_24_21_11 (ω : ZO) (N : Nat) (σ : ZS) (a1 : Int32) : ZVs ω wD yX5_hearJudge wsX5_hearJudge rm_X5_hearJudge_24_21_11 [.ref (za ω 24), .int a1, .ref (za ω 21), .ref (za ω 11)] σ (f_X5_hearJudge_24_21_11 N σ a1) := by
  intro r0 hf
  refine ZV.go (cc := cX5_hearJudge) (maxL := 7) (ret := none) (own := RX5) (lv := [(0, .ref (za ω 24)), (1, .int a1), (2, .ref (za ω 21)), (3, .ref (za ω 11))]) (by decide) rfl rfl (Nat.le_of_ble_eq_true rfl) rfl (fun κ C hR => ?_)
  unfold f_X5_hearJudge_24_21_11 at hf
  refine G_iload_n (pc' := 1) C dX5_hearJudge_0 1 rfl rfl ?_
  refine G_callNp (pc' := 4) C [.int a1] (c_X7_isJudge ω N σ a1) sg_X7_isJudge gX5_hearJudge_X7_isJudge_n41 lk_X5_hearJudge_41n lk_X5_hearJudge_41s lk_X5_hearJudge_41i ⟨Nat.le_of_ble_eq_true rfl, Nat.le_of_ble_eq_true rfl⟩ rfl rfl (Nat.le_of_ble_eq_true rfl) dX5_hearJudge_1 rfl hf (fun v1 hf => ?_)
  refine G_if_ne (tgt := 8) (pc' := 7) C dX5_hearJudge_4 (by decide) rfl hf (fun hf => ?_) (fun hf => ?_)
  · exact G_vret C hR dX5_hearJudge_7 (Option.some.inj hf)
  · refine G_iconst (v := (0 : Int32)) (pc' := 9) C dX5_hearJudge_8 (by decide) rfl ?_
    refine G_istore (lv' := [(0, .ref (za ω 24)), (1, .int a1), (2, .ref (za ω 21)), (3, .ref (za ω 11)), (4, .int (0 : Int32))]) (pc' := 11) C dX5_hearJudge_9 (by decide) [1, 2, 3, 4, 0] rfl rfl ?_
    refine w_X5_hearJudge_24_21_11_11 C hR (fun y4 s5 hf => ?_) N (0 : Int32) σ hf
    refine G_iconst (v := (0 : Int32)) (pc' := 39) C dX5_hearJudge_38 (by decide) rfl ?_
    refine G_istore (lv' := [(0, .ref (za ω 24)), (1, .int a1), (2, .ref (za ω 21)), (3, .ref (za ω 11)), (4, .int (0 : Int32))]) (pc' := 41) C dX5_hearJudge_39 (by decide) [1, 2, 3, 4, 0] rfl rfl ?_
    refine G_iconst (v := (0 : Int32)) (pc' := 42) C dX5_hearJudge_41 (by decide) rfl ?_
    refine G_istore (lv' := [(0, .ref (za ω 24)), (1, .int a1), (2, .ref (za ω 21)), (3, .ref (za ω 11)), (4, .int (0 : Int32)), (5, .int (0 : Int32))]) (pc' := 44) C dX5_hearJudge_42 (by decide) [1, 2, 3, 4, 5, 0] rfl rfl ?_
    refine w_X5_hearJudge_24_21_11_44 C hR (fun y16 y17 s18 hf => ?_) N (0 : Int32) (0 : Int32) s5 hf
    exact G_vret C hR dX5_hearJudge_129 (Option.some.inj hf)
abbrev rm_X5_hear_24_21_11 : Room := { frames := 3, cells := 0, slots := 0, locals := 70 }
theorem sg_X5_hear_24_21_11 : ZG yX5_hear wsX5_hear cX5_hear 6 none RX5 4 rm_X5_hear_24_21_11 := ⟨⟨_, rfl⟩, by decide +kernel, rfl, rfl⟩
set_option maxHeartbeats 4000000 in
set_option maxRecDepth 100000 in
theorem w_X5_hear_24_21_11_8 {ω : ZO} {κ : ZK} {N : Nat} {b4 : Int32} {K : Int32 → ZS → Option (ZS)} {r0 : ZS} (C : CX ω wD κ cX5_hear wsX5_hear RX5 none 6 rm_X5_hear_24_21_11) (hR : zRV ω wD κ (fun τ => τ = r0)) (HK : ∀ (y5 : Int32) (τ : ZS), K y5 τ = some r0 → G ω wD κ 29 [(0, .ref (za ω 24)), (1, .ref (za ω 21)), (2, .ref (za ω 11)), (4, .int b4)] [] τ) : ∀ (n : Nat) (y5 : Int32) (τ : ZS), L_X5_hear_24_21_11_8 N b4 K n y5 τ = some r0 → G ω wD κ 8 [(0, .ref (za ω 24)), (1, .ref (za ω 21)), (2, .ref (za ω 11)), (4, .int b4), (5, .int y5)] [] τ := by
  intro n
  induction n with
  | zero => intro  y5 τ hf; exact absurd (show none = some r0 from hf) (fun h => nomatch h)
  | succ n ih =>
    intro y5 τ hf
    have hf : B_X5_hear_24_21_11_8 N b4 K (L_X5_hear_24_21_11_8 N b4 K n) y5 τ = some r0 := hf
    unfold B_X5_hear_24_21_11_8 at hf
    refine G_iload (pc' := 10) C dX5_hear_8 4 rfl rfl ?_
    refine G_bipush (v := (7 : Int32)) (pc' := 12) C dX5_hear_10 (by decide) rfl ?_
    refine G_icmp_ge (tgt := 29) (pc' := 15) C dX5_hear_12 (by decide) rfl hf (fun hf => ?_) (fun hf => ?_)
    · refine G_sub (lv' := [(0, .ref (za ω 24)), (1, .ref (za ω 21)), (2, .ref (za ω 11)), (4, .int b4)]) C [0, 1, 2, 3] rfl ?_
      exact HK y5 τ hf
    · refine G_aload_n (pc' := 16) C dX5_hear_15 0 rfl rfl ?_
      refine G_iload (pc' := 18) C dX5_hear_16 4 rfl rfl ?_
      refine G_aload_n (pc' := 19) C dX5_hear_18 1 rfl rfl ?_
      refine G_aload_n (pc' := 20) C dX5_hear_19 2 rfl rfl ?_
      refine G_callVv (pc' := 23) C [.int y5, .ref (za ω 21), .ref (za ω 11)] (c_X5_hearJudge_24_21_11 ω N τ y5) sg_X5_hearJudge_24_21_11 gX5_hear_X5_hearJudge wD_24 rfl ⟨Nat.le_of_ble_eq_true rfl, Nat.le_of_ble_eq_true rfl⟩ rfl rfl (Nat.le_of_ble_eq_true rfl) dX5_hear_20 rfl hf (fun s2 hf => ?_)
      refine G_iincL (v := y5 + (1 : Int32)) (pc' := 26) C dX5_hear_23 4 rfl rfl (by decide) [1, 2, 3, 4, 0] (fun x3 => [(0, .ref (za ω 24)), (1, .ref (za ω 21)), (2, .ref (za ω 11)), (4, .int b4), (5, .int x3)]) (fun _ => rfl) rfl hf (fun x3 hf => ?_)
      refine G_goto (pc' := 8) C dX5_hear_26 (by decide) ?_
      exact ih x3 s2 hf
set_option maxHeartbeats 4000000 in
set_option maxRecDepth 100000 in
theorem w_X5_hear_24_21_11_32 {ω : ZO} {κ : ZK} {N : Nat} {b4 : Int32} {K : Int32 → ZS → Option (ZS)} {r0 : ZS} (C : CX ω wD κ cX5_hear wsX5_hear RX5 none 6 rm_X5_hear_24_21_11) (hR : zRV ω wD κ (fun τ => τ = r0)) (HK : ∀ (y5 : Int32) (τ : ZS), K y5 τ = some r0 → G ω wD κ 73 [(0, .ref (za ω 24)), (1, .ref (za ω 21)), (2, .ref (za ω 11))] [] τ) : ∀ (n : Nat) (y5 : Int32) (τ : ZS), L_X5_hear_24_21_11_32 N b4 K n y5 τ = some r0 → G ω wD κ 32 [(0, .ref (za ω 24)), (1, .ref (za ω 21)), (2, .ref (za ω 11)), (4, .int b4), (5, .int y5)] [] τ := by
  intro n
  induction n with
  | zero => intro  y5 τ hf; exact absurd (show none = some r0 from hf) (fun h => nomatch h)
  | succ n ih =>
    intro y5 τ hf
    have hf : B_X5_hear_24_21_11_32 N b4 K (L_X5_hear_24_21_11_32 N b4 K n) y5 τ = some r0 := hf
    unfold B_X5_hear_24_21_11_32 at hf
    refine G_iload (pc' := 34) C dX5_hear_32 4 rfl rfl ?_
    refine G_bipush (v := (24 : Int32)) (pc' := 36) C dX5_hear_34 (by decide) rfl ?_
    refine G_icmp_ge (tgt := 73) (pc' := 39) C dX5_hear_36 (by decide) rfl hf (fun hf => ?_) (fun hf => ?_)
    · refine G_sub (lv' := [(0, .ref (za ω 24)), (1, .ref (za ω 21)), (2, .ref (za ω 11))]) C [0, 1, 2] rfl ?_
      exact HK y5 τ hf
    · refine G_aload_n (pc' := 40) C dX5_hear_39 0 rfl rfl ?_
      refine G_get (pc' := 43) C wD_24 rfl 2 (by decide) rfl iu_X5_hear_X5 lk_X5_hear_18 dX5_hear_40 rfl ?_
      refine G_iload (pc' := 45) C dX5_hear_43 4 rfl rfl ?_
      refine G_iload (pc' := 47) C dX5_hear_45 3 rfl rfl ?_
      refine G_if_eq (tgt := 65) (pc' := 50) C dX5_hear_47 (by decide) rfl hf (fun hf => ?_) (fun hf => ?_)
      · refine G_iconst (v := (0 : Int32)) (pc' := 66) C dX5_hear_65 (by decide) rfl ?_
        refine G_iast (pc' := 67) C wD_27 wD_s27 dX5_hear_66 rfl hf (fun s6 hf => ?_)
        refine G_iincL (v := y5 + (1 : Int32)) (pc' := 70) C dX5_hear_67 4 rfl rfl (by decide) [1, 2, 3, 4, 0] (fun x7 => [(0, .ref (za ω 24)), (1, .ref (za ω 21)), (2, .ref (za ω 11)), (4, .int b4), (5, .int x7)]) (fun _ => rfl) rfl hf (fun x7 hf => ?_)
        refine G_goto (pc' := 32) C dX5_hear_70 (by decide) ?_
        exact ih x7 s6 hf
      · refine G_bipush (v := (24 : Int32)) (pc' := 52) C dX5_hear_50 (by decide) rfl ?_
        refine G_aload_n (pc' := 53) C dX5_hear_52 0 rfl rfl ?_
        refine G_get (pc' := 56) C wD_24 rfl 1 (by decide) rfl iu_X5_hear_X5 lk_X5_hear_15 dX5_hear_53 rfl ?_
        refine G_iconst (v := (0 : Int32)) (pc' := 57) C dX5_hear_56 (by decide) rfl ?_
        refine G_iload (pc' := 59) C dX5_hear_57 4 rfl rfl ?_
        refine G_iadd (pc' := 60) C dX5_hear_59 rfl ?_
        refine G_iald (pc' := 61) C wD_26 dX5_hear_60 rfl hf (fun v8 hf => ?_)
        refine G_isub (pc' := 62) C dX5_hear_61 rfl ?_
        refine G_goto (pc' := 66) C dX5_hear_62 (by decide) ?_
        refine G_iast (pc' := 67) C wD_27 wD_s27 dX5_hear_66 rfl hf (fun s9 hf => ?_)
        refine G_iincL (v := y5 + (1 : Int32)) (pc' := 70) C dX5_hear_67 4 rfl rfl (by decide) [1, 2, 3, 4, 0] (fun x10 => [(0, .ref (za ω 24)), (1, .ref (za ω 21)), (2, .ref (za ω 11)), (4, .int b4), (5, .int x10)]) (fun _ => rfl) rfl hf (fun x10 hf => ?_)
        refine G_goto (pc' := 32) C dX5_hear_70 (by decide) ?_
        exact ih x10 s9 hf
set_option maxHeartbeats 4000000 in
set_option maxRecDepth 100000 in
theorem c_X5_hear_24_21_11 (ω : ZO) (N : Nat) (σ : ZS) (a3 : Int32) (a4 : Int32) : ZVs ω wD yX5_hear wsX5_hear rm_X5_hear_24_21_11 [.ref (za ω 24), .ref (za ω 21), .ref (za ω 11), .int a3, .int a4] σ (f_X5_hear_24_21_11 N σ a3 a4) := by
  intro r0 hf
  refine ZV.go (cc := cX5_hear) (maxL := 6) (ret := none) (own := RX5) (lv := [(0, .ref (za ω 24)), (1, .ref (za ω 21)), (2, .ref (za ω 11)), (3, .int a3), (4, .int a4)]) (by decide) rfl rfl (Nat.le_of_ble_eq_true rfl) rfl (fun κ C hR => ?_)
  unfold f_X5_hear_24_21_11 at hf
  refine G_aload_n (pc' := 1) C dX5_hear_0 0 rfl rfl ?_
  refine G_iload_n (pc' := 2) C dX5_hear_1 3 rfl rfl ?_
  refine G_put (pc' := 5) C tyX5 tyX5_ok nmX5 wD_24 rfl 7 (by decide) (Nat.le_of_ble_eq_true rfl) iu_X5_hear_X5 lk_X5_hear_33 rfl (by decide +kernel) wD_f24_7 dX5_hear_2 rfl hf (fun s1 hf => ?_)
  refine G_iconst (v := (0 : Int32)) (pc' := 6) C dX5_hear_5 (by decide) rfl ?_
  refine G_istore (lv' := [(0, .ref (za ω 24)), (1, .ref (za ω 21)), (2, .ref (za ω 11)), (4, .int a4), (5, .int (0 : Int32))]) (pc' := 8) C dX5_hear_6 (by decide) [1, 2, 3, 5, 0] rfl rfl ?_
  refine w_X5_hear_24_21_11_8 C hR (fun y4 s5 hf => ?_) N (0 : Int32) s1 hf
  refine G_iconst (v := (0 : Int32)) (pc' := 30) C dX5_hear_29 (by decide) rfl ?_
  refine G_istore (lv' := [(0, .ref (za ω 24)), (1, .ref (za ω 21)), (2, .ref (za ω 11)), (4, .int a4), (5, .int (0 : Int32))]) (pc' := 32) C dX5_hear_30 (by decide) [1, 2, 3, 4, 0] rfl rfl ?_
  refine w_X5_hear_24_21_11_32 C hR (fun y11 s12 hf => ?_) N (0 : Int32) s5 hf
  exact G_vret C hR dX5_hear_73 (Option.some.inj hf)
abbrev rm_X7_recount_0_21 : Room := { frames := 4, cells := 0, slots := 0, locals := 95 }
theorem sg_X7_recount_0_21 : ZG yX7_recount wsX7_recount cX7_recount 3 none RX7 2 rm_X7_recount_0_21 := ⟨⟨_, rfl⟩, by decide +kernel, rfl, rfl⟩
set_option maxHeartbeats 4000000 in
set_option maxRecDepth 100000 in
theorem c_X7_recount_0_21 (ω : ZO) (N : Nat) (σ : ZS) (a2 : Int32) : ZVs ω wD yX7_recount wsX7_recount rm_X7_recount_0_21 [.ref (za ω 0), .ref (za ω 21), .int a2] σ (f_X7_recount_0_21 N σ a2) := by
  intro r0 hf
  refine ZV.go (cc := cX7_recount) (maxL := 3) (ret := none) (own := RX7) (lv := [(0, .ref (za ω 0)), (1, .ref (za ω 21)), (2, .int a2)]) (by decide) rfl rfl (Nat.le_of_ble_eq_true rfl) rfl (fun κ C hR => ?_)
  unfold f_X7_recount_0_21 at hf
  refine G_aload_n (pc' := 1) C dX7_recount_0 0 rfl rfl ?_
  refine G_get (pc' := 4) C wD_0 rfl 6 (by decide) rfl iu_X7_recount_X7 lk_X7_recount_50 dX7_recount_1 rfl ?_
  refine G_aload_n (pc' := 5) C dX7_recount_4 1 rfl rfl ?_
  refine G_aload_n (pc' := 6) C dX7_recount_5 0 rfl rfl ?_
  refine G_get (pc' := 9) C wD_0 rfl 3 (by decide) rfl iu_X7_recount_X7 lk_X7_recount_33 dX7_recount_6 rfl ?_
  refine G_aload_n (pc' := 10) C dX7_recount_9 0 rfl rfl ?_
  refine G_get (pc' := 13) C wD_0 rfl 7 (by decide) rfl iu_X7_recount_X7 lk_X7_recount_57 dX7_recount_10 rfl ?_
  refine G_callVp (pc' := 16) C [] (c_X2_asSet ω N σ) sg_X2_asSet gX7_recount_X2_asSet wD_32 rfl ⟨Nat.le_of_ble_eq_true rfl, Nat.le_of_ble_eq_true rfl⟩ rfl rfl (Nat.le_of_ble_eq_true rfl) dX7_recount_13 rfl hf (fun v1 hf => ?_)
  refine G_aload_n (pc' := 17) C dX7_recount_16 0 rfl rfl ?_
  refine G_get (pc' := 20) C wD_0 rfl 1 (by decide) rfl iu_X7_recount_X7 lk_X7_recount_19 dX7_recount_17 rfl ?_
  refine G_bipush (v := (10 : Int32)) (pc' := 22) C dX7_recount_20 (by decide) rfl ?_
  refine G_callVp (pc' := 25) C [.int (10 : Int32)] (c_X3_number ω N σ (10 : Int32)) sg_X3_number gX7_recount_X3_number wD_3 rfl ⟨Nat.le_of_ble_eq_true rfl, Nat.le_of_ble_eq_true rfl⟩ rfl rfl (Nat.le_of_ble_eq_true rfl) dX7_recount_22 rfl hf (fun v2 hf => ?_)
  refine G_iconst (v := (1 : Int32)) (pc' := 26) C dX7_recount_25 (by decide) rfl ?_
  refine G_icmp_ne (tgt := 33) (pc' := 29) C dX7_recount_26 (by decide) rfl hf (fun hf => ?_) (fun hf => ?_)
  · refine G_iconst (v := (1 : Int32)) (pc' := 30) C dX7_recount_29 (by decide) rfl ?_
    refine G_goto (pc' := 34) C dX7_recount_30 (by decide) ?_
    refine G_callVv (pc' := 37) C [.ref (za ω 21), .ref (za ω 11), .int v1, .int (1 : Int32)] (c_X5_hear_24_21_11 ω N σ v1 (1 : Int32)) sg_X5_hear_24_21_11 gX7_recount_X5_hear wD_24 rfl ⟨Nat.le_of_ble_eq_true rfl, Nat.le_of_ble_eq_true rfl⟩ rfl rfl (Nat.le_of_ble_eq_true rfl) dX7_recount_34 rfl hf (fun s3 hf => ?_)
    refine G_iload_n (pc' := 38) C dX7_recount_37 2 rfl rfl ?_
    refine G_if_ne (tgt := 51) (pc' := 41) C dX7_recount_38 (by decide) rfl hf (fun hf => ?_) (fun hf => ?_)
    · refine G_aload_n (pc' := 42) C dX7_recount_41 0 rfl rfl ?_
      refine G_get (pc' := 45) C wD_0 rfl 6 (by decide) rfl iu_X7_recount_X7 lk_X7_recount_50 dX7_recount_42 rfl ?_
      refine G_callVv (pc' := 48) C [] (c_X5_valueByPoints ω N s3) sg_X5_valueByPoints gX7_recount_X5_valueByPoints wD_24 rfl ⟨Nat.le_of_ble_eq_true rfl, Nat.le_of_ble_eq_true rfl⟩ rfl rfl (Nat.le_of_ble_eq_true rfl) dX7_recount_45 rfl hf (fun s4 hf => ?_)
      refine G_goto (pc' := 73) C dX7_recount_48 (by decide) ?_
      refine G_aload_n (pc' := 74) C dX7_recount_73 0 rfl rfl ?_
      refine G_get (pc' := 77) C wD_0 rfl 6 (by decide) rfl iu_X7_recount_X7 lk_X7_recount_50 dX7_recount_74 rfl ?_
      refine G_aload_n (pc' := 78) C dX7_recount_77 0 rfl rfl ?_
      refine G_get (pc' := 81) C wD_0 rfl 7 (by decide) rfl iu_X7_recount_X7 lk_X7_recount_57 dX7_recount_78 rfl ?_
      refine G_callVv (pc' := 84) C [.ref (za ω 32)] (c_X5_rankInto ω N s4) sg_X5_rankInto gX7_recount_X5_rankInto wD_24 rfl ⟨Nat.le_of_ble_eq_true rfl, Nat.le_of_ble_eq_true rfl⟩ rfl rfl (Nat.le_of_ble_eq_true rfl) dX7_recount_81 rfl hf (fun s5 hf => ?_)
      exact G_vret C hR dX7_recount_84 (Option.some.inj hf)
    · refine G_iload_n (pc' := 52) C dX7_recount_51 2 rfl rfl ?_
      refine G_iconst (v := (1 : Int32)) (pc' := 53) C dX7_recount_52 (by decide) rfl ?_
      refine G_icmp_ne (tgt := 66) (pc' := 56) C dX7_recount_53 (by decide) rfl hf (fun hf => ?_) (fun hf => ?_)
      · refine G_aload_n (pc' := 57) C dX7_recount_56 0 rfl rfl ?_
        refine G_get (pc' := 60) C wD_0 rfl 6 (by decide) rfl iu_X7_recount_X7 lk_X7_recount_50 dX7_recount_57 rfl ?_
        refine G_callVv (pc' := 63) C [] (c_X5_valueByPairs ω N s3) sg_X5_valueByPairs gX7_recount_X5_valueByPairs wD_24 rfl ⟨Nat.le_of_ble_eq_true rfl, Nat.le_of_ble_eq_true rfl⟩ rfl rfl (Nat.le_of_ble_eq_true rfl) dX7_recount_60 rfl hf (fun s6 hf => ?_)
        refine G_goto (pc' := 73) C dX7_recount_63 (by decide) ?_
        refine G_aload_n (pc' := 74) C dX7_recount_73 0 rfl rfl ?_
        refine G_get (pc' := 77) C wD_0 rfl 6 (by decide) rfl iu_X7_recount_X7 lk_X7_recount_50 dX7_recount_74 rfl ?_
        refine G_aload_n (pc' := 78) C dX7_recount_77 0 rfl rfl ?_
        refine G_get (pc' := 81) C wD_0 rfl 7 (by decide) rfl iu_X7_recount_X7 lk_X7_recount_57 dX7_recount_78 rfl ?_
        refine G_callVv (pc' := 84) C [.ref (za ω 32)] (c_X5_rankInto ω N s6) sg_X5_rankInto gX7_recount_X5_rankInto wD_24 rfl ⟨Nat.le_of_ble_eq_true rfl, Nat.le_of_ble_eq_true rfl⟩ rfl rfl (Nat.le_of_ble_eq_true rfl) dX7_recount_81 rfl hf (fun s7 hf => ?_)
        exact G_vret C hR dX7_recount_84 (Option.some.inj hf)
      · refine G_aload_n (pc' := 67) C dX7_recount_66 0 rfl rfl ?_
        refine G_get (pc' := 70) C wD_0 rfl 6 (by decide) rfl iu_X7_recount_X7 lk_X7_recount_50 dX7_recount_67 rfl ?_
        refine G_callVv (pc' := 73) C [] (c_X5_valueByRounds ω N s3) sg_X5_valueByRounds gX7_recount_X5_valueByRounds wD_24 rfl ⟨Nat.le_of_ble_eq_true rfl, Nat.le_of_ble_eq_true rfl⟩ rfl rfl (Nat.le_of_ble_eq_true rfl) dX7_recount_70 rfl hf (fun s8 hf => ?_)
        refine G_aload_n (pc' := 74) C dX7_recount_73 0 rfl rfl ?_
        refine G_get (pc' := 77) C wD_0 rfl 6 (by decide) rfl iu_X7_recount_X7 lk_X7_recount_50 dX7_recount_74 rfl ?_
        refine G_aload_n (pc' := 78) C dX7_recount_77 0 rfl rfl ?_
        refine G_get (pc' := 81) C wD_0 rfl 7 (by decide) rfl iu_X7_recount_X7 lk_X7_recount_57 dX7_recount_78 rfl ?_
        refine G_callVv (pc' := 84) C [.ref (za ω 32)] (c_X5_rankInto ω N s8) sg_X5_rankInto gX7_recount_X5_rankInto wD_24 rfl ⟨Nat.le_of_ble_eq_true rfl, Nat.le_of_ble_eq_true rfl⟩ rfl rfl (Nat.le_of_ble_eq_true rfl) dX7_recount_81 rfl hf (fun s9 hf => ?_)
        exact G_vret C hR dX7_recount_84 (Option.some.inj hf)
  · refine G_iconst (v := (0 : Int32)) (pc' := 34) C dX7_recount_33 (by decide) rfl ?_
    refine G_callVv (pc' := 37) C [.ref (za ω 21), .ref (za ω 11), .int v1, .int (0 : Int32)] (c_X5_hear_24_21_11 ω N σ v1 (0 : Int32)) sg_X5_hear_24_21_11 gX7_recount_X5_hear wD_24 rfl ⟨Nat.le_of_ble_eq_true rfl, Nat.le_of_ble_eq_true rfl⟩ rfl rfl (Nat.le_of_ble_eq_true rfl) dX7_recount_34 rfl hf (fun s10 hf => ?_)
    refine G_iload_n (pc' := 38) C dX7_recount_37 2 rfl rfl ?_
    refine G_if_ne (tgt := 51) (pc' := 41) C dX7_recount_38 (by decide) rfl hf (fun hf => ?_) (fun hf => ?_)
    · refine G_aload_n (pc' := 42) C dX7_recount_41 0 rfl rfl ?_
      refine G_get (pc' := 45) C wD_0 rfl 6 (by decide) rfl iu_X7_recount_X7 lk_X7_recount_50 dX7_recount_42 rfl ?_
      refine G_callVv (pc' := 48) C [] (c_X5_valueByPoints ω N s10) sg_X5_valueByPoints gX7_recount_X5_valueByPoints wD_24 rfl ⟨Nat.le_of_ble_eq_true rfl, Nat.le_of_ble_eq_true rfl⟩ rfl rfl (Nat.le_of_ble_eq_true rfl) dX7_recount_45 rfl hf (fun s11 hf => ?_)
      refine G_goto (pc' := 73) C dX7_recount_48 (by decide) ?_
      refine G_aload_n (pc' := 74) C dX7_recount_73 0 rfl rfl ?_
      refine G_get (pc' := 77) C wD_0 rfl 6 (by decide) rfl iu_X7_recount_X7 lk_X7_recount_50 dX7_recount_74 rfl ?_
      refine G_aload_n (pc' := 78) C dX7_recount_77 0 rfl rfl ?_
      refine G_get (pc' := 81) C wD_0 rfl 7 (by decide) rfl iu_X7_recount_X7 lk_X7_recount_57 dX7_recount_78 rfl ?_
      refine G_callVv (pc' := 84) C [.ref (za ω 32)] (c_X5_rankInto ω N s11) sg_X5_rankInto gX7_recount_X5_rankInto wD_24 rfl ⟨Nat.le_of_ble_eq_true rfl, Nat.le_of_ble_eq_true rfl⟩ rfl rfl (Nat.le_of_ble_eq_true rfl) dX7_recount_81 rfl hf (fun s12 hf => ?_)
      exact G_vret C hR dX7_recount_84 (Option.some.inj hf)
    · refine G_iload_n (pc' := 52) C dX7_recount_51 2 rfl rfl ?_
      refine G_iconst (v := (1 : Int32)) (pc' := 53) C dX7_recount_52 (by decide) rfl ?_
      refine G_icmp_ne (tgt := 66) (pc' := 56) C dX7_recount_53 (by decide) rfl hf (fun hf => ?_) (fun hf => ?_)
      · refine G_aload_n (pc' := 57) C dX7_recount_56 0 rfl rfl ?_
        refine G_get (pc' := 60) C wD_0 rfl 6 (by decide) rfl iu_X7_recount_X7 lk_X7_recount_50 dX7_recount_57 rfl ?_
        refine G_callVv (pc' := 63) C [] (c_X5_valueByPairs ω N s10) sg_X5_valueByPairs gX7_recount_X5_valueByPairs wD_24 rfl ⟨Nat.le_of_ble_eq_true rfl, Nat.le_of_ble_eq_true rfl⟩ rfl rfl (Nat.le_of_ble_eq_true rfl) dX7_recount_60 rfl hf (fun s13 hf => ?_)
        refine G_goto (pc' := 73) C dX7_recount_63 (by decide) ?_
        refine G_aload_n (pc' := 74) C dX7_recount_73 0 rfl rfl ?_
        refine G_get (pc' := 77) C wD_0 rfl 6 (by decide) rfl iu_X7_recount_X7 lk_X7_recount_50 dX7_recount_74 rfl ?_
        refine G_aload_n (pc' := 78) C dX7_recount_77 0 rfl rfl ?_
        refine G_get (pc' := 81) C wD_0 rfl 7 (by decide) rfl iu_X7_recount_X7 lk_X7_recount_57 dX7_recount_78 rfl ?_
        refine G_callVv (pc' := 84) C [.ref (za ω 32)] (c_X5_rankInto ω N s13) sg_X5_rankInto gX7_recount_X5_rankInto wD_24 rfl ⟨Nat.le_of_ble_eq_true rfl, Nat.le_of_ble_eq_true rfl⟩ rfl rfl (Nat.le_of_ble_eq_true rfl) dX7_recount_81 rfl hf (fun s14 hf => ?_)
        exact G_vret C hR dX7_recount_84 (Option.some.inj hf)
      · refine G_aload_n (pc' := 67) C dX7_recount_66 0 rfl rfl ?_
        refine G_get (pc' := 70) C wD_0 rfl 6 (by decide) rfl iu_X7_recount_X7 lk_X7_recount_50 dX7_recount_67 rfl ?_
        refine G_callVv (pc' := 73) C [] (c_X5_valueByRounds ω N s10) sg_X5_valueByRounds gX7_recount_X5_valueByRounds wD_24 rfl ⟨Nat.le_of_ble_eq_true rfl, Nat.le_of_ble_eq_true rfl⟩ rfl rfl (Nat.le_of_ble_eq_true rfl) dX7_recount_70 rfl hf (fun s15 hf => ?_)
        refine G_aload_n (pc' := 74) C dX7_recount_73 0 rfl rfl ?_
        refine G_get (pc' := 77) C wD_0 rfl 6 (by decide) rfl iu_X7_recount_X7 lk_X7_recount_50 dX7_recount_74 rfl ?_
        refine G_aload_n (pc' := 78) C dX7_recount_77 0 rfl rfl ?_
        refine G_get (pc' := 81) C wD_0 rfl 7 (by decide) rfl iu_X7_recount_X7 lk_X7_recount_57 dX7_recount_78 rfl ?_
        refine G_callVv (pc' := 84) C [.ref (za ω 32)] (c_X5_rankInto ω N s15) sg_X5_rankInto gX7_recount_X5_rankInto wD_24 rfl ⟨Nat.le_of_ble_eq_true rfl, Nat.le_of_ble_eq_true rfl⟩ rfl rfl (Nat.le_of_ble_eq_true rfl) dX7_recount_81 rfl hf (fun s16 hf => ?_)
        exact G_vret C hR dX7_recount_84 (Option.some.inj hf)
theorem lk_X7_told_197l : Cond.methodLink RX7 197 Lib.Math.min.name ∈ wsX7_told := by decide +kernel
theorem lk_X7_told_197s : Cond.static Lib.Math.min.name ∈ wsX7_told := by decide +kernel
theorem lk_X7_told_197i : Cond.initialized "java/lang/Math" ∈ wsX7_told := by decide +kernel
theorem lk_X7_told_197c : Cond.code Lib.Math.min.name Lib.Math.min.code 2 (some .int) ∈ wsX7_told := by decide +kernel
theorem iu_X7_told_X7 : ∀ w ∈ wsX70, w ∈ wsX7_told := by decide +kernel
theorem lk_X7_told_57 : Cond.fieldLink RX7 57 "PrizeDesk" "ranking" "LPrizeDesk$Ranking;" ∈ wsX7_told := by decide +kernel
theorem lk_X7_told_19 : Cond.fieldLink RX7 19 "PrizeDesk" "ruleBook" "LPrizeDesk$Rules;" ∈ wsX7_told := by decide +kernel
theorem lk_X7_told_44 : Cond.fieldLink RX7 44 "PrizeDesk" "winnerPoll" "LPrizeDesk$Poll;" ∈ wsX7_told := by decide +kernel
abbrev rm_X7_told : Room := { frames := 6, cells := 0, slots := 0, locals := 138 }
theorem sg_X7_told : ZG yX7_told wsX7_told cX7_told 5 (some .int) RX7 4 rm_X7_told := ⟨⟨_, rfl⟩, by decide +kernel, rfl, rfl⟩
set_option maxHeartbeats 4000000 in
set_option maxRecDepth 100000 in
theorem c_X7_told (ω : ZO) (N : Nat) (σ : ZS) (a1 : Int32) (a2 : Int32) (a3 : Int32) (a4 : Int32) : ZIs ω wD yX7_told wsX7_told rm_X7_told [.ref (za ω 0), .int a1, .int a2, .int a3, .int a4] σ (f_X7_told N σ a1 a2 a3 a4) := by
  intro r0 hf
  refine ZI.go (cc := cX7_told) (maxL := 5) (ret := (some .int)) (own := RX7) (lv := [(0, .ref (za ω 0)), (1, .int a1), (2, .int a2), (3, .int a3), (4, .int a4)]) (by decide) rfl rfl (Nat.le_of_ble_eq_true rfl) rfl (fun κ C hR => ?_)
  unfold f_X7_told at hf
  refine G_iload_n (pc' := 1) C dX7_told_0 1 rfl rfl ?_
  refine G_iconst (v := (0 : Int32)) (pc' := 2) C dX7_told_1 (by decide) rfl ?_
  refine G_bipush (v := (7 : Int32)) (pc' := 4) C dX7_told_2 (by decide) rfl ?_
  refine G_callSp (pc' := 7) C [.int a1, .int (0 : Int32), .int (7 : Int32)] (c_X7_isWithin ω N σ a1 (0 : Int32) (7 : Int32)) sg_X7_isWithin gX7_told_X7_isWithin ⟨Nat.le_of_ble_eq_true rfl, Nat.le_of_ble_eq_true rfl⟩ rfl rfl (Nat.le_of_ble_eq_true rfl) dX7_told_4 rfl hf (fun v1 hf => ?_)
  refine G_if_eq (tgt := 34) (pc' := 10) C dX7_told_7 (by decide) rfl hf (fun hf => ?_) (fun hf => ?_)
  · refine G_bipush (v := (-2 : Int32)) (pc' := 36) C dX7_told_34 (by decide) rfl ?_
    exact G_iret C hR dX7_told_36 (Option.some.inj hf)
  · refine G_iload_n (pc' := 11) C dX7_told_10 2 rfl rfl ?_
    refine G_callSp (pc' := 14) C [.int a2] (c_X7_isDay ω N σ a2) sg_X7_isDay gX7_told_X7_isDay ⟨Nat.le_of_ble_eq_true rfl, Nat.le_of_ble_eq_true rfl⟩ rfl rfl (Nat.le_of_ble_eq_true rfl) dX7_told_11 rfl hf (fun v2 hf => ?_)
    refine G_if_eq (tgt := 34) (pc' := 17) C dX7_told_14 (by decide) rfl hf (fun hf => ?_) (fun hf => ?_)
    · refine G_bipush (v := (-2 : Int32)) (pc' := 36) C dX7_told_34 (by decide) rfl ?_
      exact G_iret C hR dX7_told_36 (Option.some.inj hf)
    · refine G_iload_n (pc' := 18) C dX7_told_17 3 rfl rfl ?_
      refine G_callSp (pc' := 21) C [.int a3] (c_X7_isList ω N σ a3) sg_X7_isList gX7_told_X7_isList ⟨Nat.le_of_ble_eq_true rfl, Nat.le_of_ble_eq_true rfl⟩ rfl rfl (Nat.le_of_ble_eq_true rfl) dX7_told_18 rfl hf (fun v3 hf => ?_)
      refine G_if_eq (tgt := 34) (pc' := 24) C dX7_told_21 (by decide) rfl hf (fun hf => ?_) (fun hf => ?_)
      · refine G_bipush (v := (-2 : Int32)) (pc' := 36) C dX7_told_34 (by decide) rfl ?_
        exact G_iret C hR dX7_told_36 (Option.some.inj hf)
      · refine G_aload_n (pc' := 25) C dX7_told_24 0 rfl rfl ?_
        refine G_iload_n (pc' := 26) C dX7_told_25 1 rfl rfl ?_
        refine G_iload_n (pc' := 27) C dX7_told_26 2 rfl rfl ?_
        refine G_iload_n (pc' := 28) C dX7_told_27 3 rfl rfl ?_
        refine G_callVp (pc' := 31) C [.int a1, .int a2, .int a3] (c_X7_mayKnow ω N σ a1 a2 a3) sg_X7_mayKnow gX7_told_X7_mayKnow wD_0 rfl ⟨Nat.le_of_ble_eq_true rfl, Nat.le_of_ble_eq_true rfl⟩ rfl rfl (Nat.le_of_ble_eq_true rfl) dX7_told_28 rfl hf (fun v4 hf => ?_)
        refine G_if_ne (tgt := 37) (pc' := 34) C dX7_told_31 (by decide) rfl hf (fun hf => ?_) (fun hf => ?_)
        · refine G_bipush (v := (-2 : Int32)) (pc' := 36) C dX7_told_34 (by decide) rfl ?_
          exact G_iret C hR dX7_told_36 (Option.some.inj hf)
        · refine G_aload_n (pc' := 38) C dX7_told_37 0 rfl rfl ?_
          refine G_iload_n (pc' := 39) C dX7_told_38 3 rfl rfl ?_
          refine G_iconst (v := (1 : Int32)) (pc' := 40) C dX7_told_39 (by decide) rfl ?_
          refine G_mmin (pc' := 43) C lk_X7_told_197l lk_X7_told_197s lk_X7_told_197i lk_X7_told_197c (by decide) (Nat.le_of_ble_eq_true rfl) dX7_told_40 rfl hf (fun v5 hf => ?_)
          refine G_callVv (pc' := 46) C [.int v5] (c_X7_rankList ω N σ v5) sg_X7_rankList gX7_told_X7_rankList wD_0 rfl ⟨Nat.le_of_ble_eq_true rfl, Nat.le_of_ble_eq_true rfl⟩ rfl rfl (Nat.le_of_ble_eq_true rfl) dX7_told_43 rfl hf (fun s6 hf => ?_)
          refine G_iload_n (pc' := 47) C dX7_told_46 3 rfl rfl ?_
          refine G_iconst (v := (2 : Int32)) (pc' := 48) C dX7_told_47 (by decide) rfl ?_
          refine G_icmp_ne (tgt := 76) (pc' := 51) C dX7_told_48 (by decide) rfl hf (fun hf => ?_) (fun hf => ?_)
          · refine G_aload_n (pc' := 52) C dX7_told_51 0 rfl rfl ?_
            refine G_aload_n (pc' := 53) C dX7_told_52 0 rfl rfl ?_
            refine G_get (pc' := 56) C wD_0 rfl 5 (by decide) rfl iu_X7_told_X7 lk_X7_told_44 dX7_told_53 rfl ?_
            refine G_aload_n (pc' := 57) C dX7_told_56 0 rfl rfl ?_
            refine G_get (pc' := 60) C wD_0 rfl 1 (by decide) rfl iu_X7_told_X7 lk_X7_told_19 dX7_told_57 rfl ?_
            refine G_bipush (v := (9 : Int32)) (pc' := 62) C dX7_told_60 (by decide) rfl ?_
            refine G_callVp (pc' := 65) C [.int (9 : Int32)] (c_X3_number ω N s6 (9 : Int32)) sg_X3_number gX7_told_X3_number wD_3 rfl ⟨Nat.le_of_ble_eq_true rfl, Nat.le_of_ble_eq_true rfl⟩ rfl rfl (Nat.le_of_ble_eq_true rfl) dX7_told_62 rfl hf (fun v7 hf => ?_)
            refine G_callVv (pc' := 68) C [.ref (za ω 21), .int v7] (c_X7_recount_0_21 ω N s6 v7) sg_X7_recount_0_21 gX7_told_X7_recount wD_0 rfl ⟨Nat.le_of_ble_eq_true rfl, Nat.le_of_ble_eq_true rfl⟩ rfl rfl (Nat.le_of_ble_eq_true rfl) dX7_told_65 rfl hf (fun s8 hf => ?_)
            refine G_aload_n (pc' := 69) C dX7_told_68 0 rfl rfl ?_
            refine G_get (pc' := 72) C wD_0 rfl 7 (by decide) rfl iu_X7_told_X7 lk_X7_told_57 dX7_told_69 rfl ?_
            refine G_iconst (v := (1 : Int32)) (pc' := 73) C dX7_told_72 (by decide) rfl ?_
            refine G_callVv (pc' := 76) C [.int (1 : Int32)] (c_X2_cut ω N s8 (1 : Int32)) sg_X2_cut gX7_told_X2_cut wD_32 rfl ⟨Nat.le_of_ble_eq_true rfl, Nat.le_of_ble_eq_true rfl⟩ rfl rfl (Nat.le_of_ble_eq_true rfl) dX7_told_73 rfl hf (fun s9 hf => ?_)
            refine G_aload_n (pc' := 77) C dX7_told_76 0 rfl rfl ?_
            refine G_get (pc' := 80) C wD_0 rfl 7 (by decide) rfl iu_X7_told_X7 lk_X7_told_57 dX7_told_77 rfl ?_
            refine G_iload (pc' := 82) C dX7_told_80 4 rfl rfl ?_
            refine G_callVp (pc' := 85) C [.int a4] (c_X2_bookAt ω N s9 a4) sg_X2_bookAt gX7_told_X2_bookAt wD_32 rfl ⟨Nat.le_of_ble_eq_true rfl, Nat.le_of_ble_eq_true rfl⟩ rfl rfl (Nat.le_of_ble_eq_true rfl) dX7_told_82 rfl hf (fun v10 hf => ?_)
            exact G_iret C hR dX7_told_85 (Option.some.inj hf)
          · refine G_aload_n (pc' := 77) C dX7_told_76 0 rfl rfl ?_
            refine G_get (pc' := 80) C wD_0 rfl 7 (by decide) rfl iu_X7_told_X7 lk_X7_told_57 dX7_told_77 rfl ?_
            refine G_iload (pc' := 82) C dX7_told_80 4 rfl rfl ?_
            refine G_callVp (pc' := 85) C [.int a4] (c_X2_bookAt ω N s6 a4) sg_X2_bookAt gX7_told_X2_bookAt wD_32 rfl ⟨Nat.le_of_ble_eq_true rfl, Nat.le_of_ble_eq_true rfl⟩ rfl rfl (Nat.le_of_ble_eq_true rfl) dX7_told_82 rfl hf (fun v11 hf => ?_)
            exact G_iret C hR dX7_told_85 (Option.some.inj hf)
abbrev rm_X7_isKind : Room := { frames := 1, cells := 0, slots := 0, locals := 22 }
theorem sg_X7_isKind : ZG yX7_isKind wsX7_isKind cX7_isKind 1 (some .boolean) RX7 1 rm_X7_isKind := ⟨⟨_, rfl⟩, by decide +kernel, rfl, rfl⟩
set_option maxHeartbeats 4000000 in
set_option maxRecDepth 100000 in
theorem c_X7_isKind (ω : ZO) (N : Nat) (σ : ZS) (a0 : Int32) : ZIp ω wD yX7_isKind wsX7_isKind rm_X7_isKind [.int a0] σ (f_X7_isKind N σ a0) := by
  intro r0 hf
  refine ZI.go (cc := cX7_isKind) (maxL := 1) (ret := (some .boolean)) (own := RX7) (lv := [(0, .int a0)]) (by decide) rfl rfl (Nat.le_of_ble_eq_true rfl) rfl (fun κ C hR => ?_)
  unfold f_X7_isKind at hf
  refine G_iload_n (pc' := 1) C dX7_isKind_0 0 rfl rfl ?_
  refine G_iconst (v := (0 : Int32)) (pc' := 2) C dX7_isKind_1 (by decide) rfl ?_
  refine G_iconst (v := (2 : Int32)) (pc' := 3) C dX7_isKind_2 (by decide) rfl ?_
  refine G_callSp (pc' := 6) C [.int a0, .int (0 : Int32), .int (2 : Int32)] (c_X7_isWithin ω N σ a0 (0 : Int32) (2 : Int32)) sg_X7_isWithin gX7_isKind_X7_isWithin ⟨Nat.le_of_ble_eq_true rfl, Nat.le_of_ble_eq_true rfl⟩ rfl rfl (Nat.le_of_ble_eq_true rfl) dX7_isKind_3 rfl hf (fun v1 hf => ?_)
  exact G_zret C hR dX7_isKind_6 (g_zr_some hf).1 ⟨Option.some.inj (g_zr_some hf).2, rfl⟩
theorem iu_X7_counted_X7 : ∀ w ∈ wsX70, w ∈ wsX7_counted := by decide +kernel
theorem lk_X7_counted_57 : Cond.fieldLink RX7 57 "PrizeDesk" "ranking" "LPrizeDesk$Ranking;" ∈ wsX7_counted := by decide +kernel
abbrev rm_X7_counted : Room := { frames := 6, cells := 0, slots := 0, locals := 138 }
theorem sg_X7_counted : ZG yX7_counted wsX7_counted cX7_counted 4 (some .int) RX7 3 rm_X7_counted := ⟨⟨_, rfl⟩, by decide +kernel, rfl, rfl⟩
set_option maxHeartbeats 4000000 in
set_option maxRecDepth 100000 in
theorem c_X7_counted (ω : ZO) (N : Nat) (σ : ZS) (a1 : Int32) (a2 : Int32) (a3 : Int32) : ZIs ω wD yX7_counted wsX7_counted rm_X7_counted [.ref (za ω 0), .int a1, .int a2, .int a3] σ (f_X7_counted N σ a1 a2 a3) := by
  intro r0 hf
  refine ZI.go (cc := cX7_counted) (maxL := 4) (ret := (some .int)) (own := RX7) (lv := [(0, .ref (za ω 0)), (1, .int a1), (2, .int a2), (3, .int a3)]) (by decide) rfl rfl (Nat.le_of_ble_eq_true rfl) rfl (fun κ C hR => ?_)
  unfold f_X7_counted at hf
  refine G_iload_n (pc' := 1) C dX7_counted_0 1 rfl rfl ?_
  refine G_callSp (pc' := 4) C [.int a1] (c_X7_isStage ω N σ a1) sg_X7_isStage gX7_counted_X7_isStage ⟨Nat.le_of_ble_eq_true rfl, Nat.le_of_ble_eq_true rfl⟩ rfl rfl (Nat.le_of_ble_eq_true rfl) dX7_counted_1 rfl hf (fun v1 hf => ?_)
  refine G_if_eq (tgt := 14) (pc' := 7) C dX7_counted_4 (by decide) rfl hf (fun hf => ?_) (fun hf => ?_)
  · refine G_iconst (v := (-1 : Int32)) (pc' := 15) C dX7_counted_14 (by decide) rfl ?_
    exact G_iret C hR dX7_counted_15 (Option.some.inj hf)
  · refine G_iload_n (pc' := 8) C dX7_counted_7 2 rfl rfl ?_
    refine G_callSp (pc' := 11) C [.int a2] (c_X7_isKind ω N σ a2) sg_X7_isKind gX7_counted_X7_isKind ⟨Nat.le_of_ble_eq_true rfl, Nat.le_of_ble_eq_true rfl⟩ rfl rfl (Nat.le_of_ble_eq_true rfl) dX7_counted_8 rfl hf (fun v2 hf => ?_)
    refine G_if_ne (tgt := 16) (pc' := 14) C dX7_counted_11 (by decide) rfl hf (fun hf => ?_) (fun hf => ?_)
    · refine G_iconst (v := (-1 : Int32)) (pc' := 15) C dX7_counted_14 (by decide) rfl ?_
      exact G_iret C hR dX7_counted_15 (Option.some.inj hf)
    · refine G_aload_n (pc' := 17) C dX7_counted_16 0 rfl rfl ?_
      refine G_iload_n (pc' := 18) C dX7_counted_17 1 rfl rfl ?_
      refine G_callVv (pc' := 21) C [.int a1] (c_X7_rankList ω N σ a1) sg_X7_rankList gX7_counted_X7_rankList wD_0 rfl ⟨Nat.le_of_ble_eq_true rfl, Nat.le_of_ble_eq_true rfl⟩ rfl rfl (Nat.le_of_ble_eq_true rfl) dX7_counted_18 rfl hf (fun s3 hf => ?_)
      refine G_aload_n (pc' := 22) C dX7_counted_21 0 rfl rfl ?_
      refine G_aload_n (pc' := 23) C dX7_counted_22 0 rfl rfl ?_
      refine G_iload_n (pc' := 24) C dX7_counted_23 1 rfl rfl ?_
      by_cases hq : a1 = 0
      · rw [if_pos hq] at hf
        refine G_callVr (pc' := 27) C [.int a1] (c_X7_pollOf_a ω s3 a1 hq) sg_X7_pollOf gX7_counted_X7_pollOf wD_0 rfl ⟨Nat.le_of_ble_eq_true rfl, Nat.le_of_ble_eq_true rfl⟩ rfl rfl (Nat.le_of_ble_eq_true rfl) dX7_counted_24 rfl ?_
        refine G_iload_n (pc' := 28) C dX7_counted_27 2 rfl rfl ?_
        refine G_callVv (pc' := 31) C [.ref (za ω 18), .int a2] (c_X7_recount_0_18 ω N s3 a2) sg_X7_recount_0_18 gX7_counted_X7_recount wD_0 rfl ⟨Nat.le_of_ble_eq_true rfl, Nat.le_of_ble_eq_true rfl⟩ rfl rfl (Nat.le_of_ble_eq_true rfl) dX7_counted_28 rfl hf (fun s4 hf => ?_)
        refine G_aload_n (pc' := 32) C dX7_counted_31 0 rfl rfl ?_
        refine G_get (pc' := 35) C wD_0 rfl 7 (by decide) rfl iu_X7_counted_X7 lk_X7_counted_57 dX7_counted_32 rfl ?_
        refine G_iload_n (pc' := 36) C dX7_counted_35 3 rfl rfl ?_
        refine G_callVp (pc' := 39) C [.int a3] (c_X2_bookAt ω N s4 a3) sg_X2_bookAt gX7_counted_X2_bookAt wD_32 rfl ⟨Nat.le_of_ble_eq_true rfl, Nat.le_of_ble_eq_true rfl⟩ rfl rfl (Nat.le_of_ble_eq_true rfl) dX7_counted_36 rfl hf (fun v5 hf => ?_)
        exact G_iret C hR dX7_counted_39 (Option.some.inj hf)
      · rw [if_neg hq] at hf
        refine G_callVr (pc' := 27) C [.int a1] (c_X7_pollOf_b ω s3 a1 hq) sg_X7_pollOf gX7_counted_X7_pollOf wD_0 rfl ⟨Nat.le_of_ble_eq_true rfl, Nat.le_of_ble_eq_true rfl⟩ rfl rfl (Nat.le_of_ble_eq_true rfl) dX7_counted_24 rfl ?_
        refine G_iload_n (pc' := 28) C dX7_counted_27 2 rfl rfl ?_
        refine G_callVv (pc' := 31) C [.ref (za ω 21), .int a2] (c_X7_recount_0_21 ω N s3 a2) sg_X7_recount_0_21 gX7_counted_X7_recount wD_0 rfl ⟨Nat.le_of_ble_eq_true rfl, Nat.le_of_ble_eq_true rfl⟩ rfl rfl (Nat.le_of_ble_eq_true rfl) dX7_counted_28 rfl hf (fun s6 hf => ?_)
        refine G_aload_n (pc' := 32) C dX7_counted_31 0 rfl rfl ?_
        refine G_get (pc' := 35) C wD_0 rfl 7 (by decide) rfl iu_X7_counted_X7 lk_X7_counted_57 dX7_counted_32 rfl ?_
        refine G_iload_n (pc' := 36) C dX7_counted_35 3 rfl rfl ?_
        refine G_callVp (pc' := 39) C [.int a3] (c_X2_bookAt ω N s6 a3) sg_X2_bookAt gX7_counted_X2_bookAt wD_32 rfl ⟨Nat.le_of_ble_eq_true rfl, Nat.le_of_ble_eq_true rfl⟩ rfl rfl (Nat.le_of_ble_eq_true rfl) dX7_counted_36 rfl hf (fun v7 hf => ?_)
        exact G_iret C hR dX7_counted_39 (Option.some.inj hf)
theorem lk_X5_valueOf_60n : Cond.methodLinkNest RX5 60 yX7_isBookNumber RX7 ∈ zNws := by decide +kernel
theorem lk_X5_valueOf_60s : Cond.static yX7_isBookNumber ∈ wsX5_valueOf := by decide +kernel
theorem lk_X5_valueOf_60i : Cond.initialized yX7_isBookNumber.cls ∈ wsX5_valueOf := by decide +kernel
theorem iu_X5_valueOf_X5 : ∀ w ∈ wsX50, w ∈ wsX5_valueOf := by decide +kernel
theorem lk_X5_valueOf_21 : Cond.fieldLink RX5 21 "PrizeDesk$Tally" "values" "[I" ∈ wsX5_valueOf := by decide +kernel
abbrev rm_X5_valueOf : Room := { frames := 1, cells := 0, slots := 0, locals := 20 }
theorem sg_X5_valueOf : ZG yX5_valueOf wsX5_valueOf cX5_valueOf 2 (some .int) RX5 1 rm_X5_valueOf := ⟨⟨_, rfl⟩, by decide +kernel, rfl, rfl⟩
set_option maxHeartbeats 4000000 in
set_option maxRecDepth 100000 in
theorem c_X5_valueOf (ω : ZO) (N : Nat) (σ : ZS) (a1 : Int32) : ZIp ω wD yX5_valueOf wsX5_valueOf rm_X5_valueOf [.ref (za ω 24), .int a1] σ (f_X5_valueOf N σ a1) := by
  intro r0 hf
  refine ZI.go (cc := cX5_valueOf) (maxL := 2) (ret := (some .int)) (own := RX5) (lv := [(0, .ref (za ω 24)), (1, .int a1)]) (by decide) rfl rfl (Nat.le_of_ble_eq_true rfl) rfl (fun κ C hR => ?_)
  unfold f_X5_valueOf at hf
  refine G_iload_n (pc' := 1) C dX5_valueOf_0 1 rfl rfl ?_
  refine G_callNp (pc' := 4) C [.int a1] (c_X7_isBookNumber ω N σ a1) sg_X7_isBookNumber gX5_valueOf_X7_isBookNumber_n60 lk_X5_valueOf_60n lk_X5_valueOf_60s lk_X5_valueOf_60i ⟨Nat.le_of_ble_eq_true rfl, Nat.le_of_ble_eq_true rfl⟩ rfl rfl (Nat.le_of_ble_eq_true rfl) dX5_valueOf_1 rfl hf (fun v1 hf => ?_)
  refine G_if_eq (tgt := 16) (pc' := 7) C dX5_valueOf_4 (by decide) rfl hf (fun hf => ?_) (fun hf => ?_)
  · refine G_iconst (v := (-1 : Int32)) (pc' := 17) C dX5_valueOf_16 (by decide) rfl ?_
    exact G_iret C hR dX5_valueOf_17 ⟨Option.some.inj hf, rfl⟩
  · refine G_aload_n (pc' := 8) C dX5_valueOf_7 0 rfl rfl ?_
    refine G_get (pc' := 11) C wD_24 rfl 3 (by decide) rfl iu_X5_valueOf_X5 lk_X5_valueOf_21 dX5_valueOf_8 rfl ?_
    refine G_iload_n (pc' := 12) C dX5_valueOf_11 1 rfl rfl ?_
    refine G_iald (pc' := 13) C wD_28 dX5_valueOf_12 rfl hf (fun v2 hf => ?_)
    refine G_goto (pc' := 17) C dX5_valueOf_13 (by decide) ?_
    exact G_iret C hR dX5_valueOf_17 ⟨Option.some.inj hf, rfl⟩
theorem iu_X7_worth_X7 : ∀ w ∈ wsX70, w ∈ wsX7_worth := by decide +kernel
theorem lk_X7_worth_50 : Cond.fieldLink RX7 50 "PrizeDesk" "tally" "LPrizeDesk$Tally;" ∈ wsX7_worth := by decide +kernel
theorem lk_X7_worth_57 : Cond.fieldLink RX7 57 "PrizeDesk" "ranking" "LPrizeDesk$Ranking;" ∈ wsX7_worth := by decide +kernel
theorem lk_X7_worth_26 : Cond.fieldLink RX7 26 "PrizeDesk" "shelf" "LPrizeDesk$Shelf;" ∈ wsX7_worth := by decide +kernel
abbrev rm_X7_worth : Room := { frames := 6, cells := 0, slots := 0, locals := 138 }
theorem sg_X7_worth : ZG yX7_worth wsX7_worth cX7_worth 4 (some .int) RX7 3 rm_X7_worth := ⟨⟨_, rfl⟩, by decide +kernel, rfl, rfl⟩
set_option maxHeartbeats 4000000 in
set_option maxRecDepth 100000 in
theorem c_X7_worth (ω : ZO) (N : Nat) (σ : ZS) (a1 : Int32) (a2 : Int32) (a3 : Int32) : ZIs ω wD yX7_worth wsX7_worth rm_X7_worth [.ref (za ω 0), .int a1, .int a2, .int a3] σ (f_X7_worth N σ a1 a2 a3) := by
  intro r0 hf
  refine ZI.go (cc := cX7_worth) (maxL := 4) (ret := (some .int)) (own := RX7) (lv := [(0, .ref (za ω 0)), (1, .int a1), (2, .int a2), (3, .int a3)]) (by decide) rfl rfl (Nat.le_of_ble_eq_true rfl) rfl (fun κ C hR => ?_)
  unfold f_X7_worth at hf
  refine G_iload_n (pc' := 1) C dX7_worth_0 1 rfl rfl ?_
  refine G_callSp (pc' := 4) C [.int a1] (c_X7_isStage ω N σ a1) sg_X7_isStage gX7_worth_X7_isStage ⟨Nat.le_of_ble_eq_true rfl, Nat.le_of_ble_eq_true rfl⟩ rfl rfl (Nat.le_of_ble_eq_true rfl) dX7_worth_1 rfl hf (fun v1 hf => ?_)
  refine G_if_eq (tgt := 25) (pc' := 7) C dX7_worth_4 (by decide) rfl hf (fun hf => ?_) (fun hf => ?_)
  · refine G_iconst (v := (-1 : Int32)) (pc' := 26) C dX7_worth_25 (by decide) rfl ?_
    exact G_iret C hR dX7_worth_26 (Option.some.inj hf)
  · refine G_iload_n (pc' := 8) C dX7_worth_7 2 rfl rfl ?_
    refine G_callSp (pc' := 11) C [.int a2] (c_X7_isKind ω N σ a2) sg_X7_isKind gX7_worth_X7_isKind ⟨Nat.le_of_ble_eq_true rfl, Nat.le_of_ble_eq_true rfl⟩ rfl rfl (Nat.le_of_ble_eq_true rfl) dX7_worth_8 rfl hf (fun v2 hf => ?_)
    refine G_if_eq (tgt := 25) (pc' := 14) C dX7_worth_11 (by decide) rfl hf (fun hf => ?_) (fun hf => ?_)
    · refine G_iconst (v := (-1 : Int32)) (pc' := 26) C dX7_worth_25 (by decide) rfl ?_
      exact G_iret C hR dX7_worth_26 (Option.some.inj hf)
    · refine G_aload_n (pc' := 15) C dX7_worth_14 0 rfl rfl ?_
      refine G_get (pc' := 18) C wD_0 rfl 2 (by decide) rfl iu_X7_worth_X7 lk_X7_worth_26 dX7_worth_15 rfl ?_
      refine G_iload_n (pc' := 19) C dX7_worth_18 3 rfl rfl ?_
      refine G_callVp (pc' := 22) C [.int a3] (c_X4_has ω N σ a3) sg_X4_has gX7_worth_X4_has wD_6 rfl ⟨Nat.le_of_ble_eq_true rfl, Nat.le_of_ble_eq_true rfl⟩ rfl rfl (Nat.le_of_ble_eq_true rfl) dX7_worth_19 rfl hf (fun v3 hf => ?_)
      refine G_if_ne (tgt := 27) (pc' := 25) C dX7_worth_22 (by decide) rfl hf (fun hf => ?_) (fun hf => ?_)
      · refine G_iconst (v := (-1 : Int32)) (pc' := 26) C dX7_worth_25 (by decide) rfl ?_
        exact G_iret C hR dX7_worth_26 (Option.some.inj hf)
      · refine G_aload_n (pc' := 28) C dX7_worth_27 0 rfl rfl ?_
        refine G_iload_n (pc' := 29) C dX7_worth_28 1 rfl rfl ?_
        refine G_callVv (pc' := 32) C [.int a1] (c_X7_rankList ω N σ a1) sg_X7_rankList gX7_worth_X7_rankList wD_0 rfl ⟨Nat.le_of_ble_eq_true rfl, Nat.le_of_ble_eq_true rfl⟩ rfl rfl (Nat.le_of_ble_eq_true rfl) dX7_worth_29 rfl hf (fun s4 hf => ?_)
        refine G_aload_n (pc' := 33) C dX7_worth_32 0 rfl rfl ?_
        refine G_get (pc' := 36) C wD_0 rfl 7 (by decide) rfl iu_X7_worth_X7 lk_X7_worth_57 dX7_worth_33 rfl ?_
        refine G_callVp (pc' := 39) C [] (c_X2_asSet ω N s4) sg_X2_asSet gX7_worth_X2_asSet wD_32 rfl ⟨Nat.le_of_ble_eq_true rfl, Nat.le_of_ble_eq_true rfl⟩ rfl rfl (Nat.le_of_ble_eq_true rfl) dX7_worth_36 rfl hf (fun v5 hf => ?_)
        refine G_iload_n (pc' := 40) C dX7_worth_39 3 rfl rfl ?_
        refine G_callSp (pc' := 43) C [.int v5, .int a3] (c_X7_contains ω N s4 v5 a3) sg_X7_contains gX7_worth_X7_contains ⟨Nat.le_of_ble_eq_true rfl, Nat.le_of_ble_eq_true rfl⟩ rfl rfl (Nat.le_of_ble_eq_true rfl) dX7_worth_40 rfl hf (fun v6 hf => ?_)
        refine G_if_ne (tgt := 48) (pc' := 46) C dX7_worth_43 (by decide) rfl hf (fun hf => ?_) (fun hf => ?_)
        · refine G_iconst (v := (-1 : Int32)) (pc' := 47) C dX7_worth_46 (by decide) rfl ?_
          exact G_iret C hR dX7_worth_47 (Option.some.inj hf)
        · refine G_aload_n (pc' := 49) C dX7_worth_48 0 rfl rfl ?_
          refine G_aload_n (pc' := 50) C dX7_worth_49 0 rfl rfl ?_
          refine G_iload_n (pc' := 51) C dX7_worth_50 1 rfl rfl ?_
          by_cases hq : a1 = 0
          · rw [if_pos hq] at hf
            refine G_callVr (pc' := 54) C [.int a1] (c_X7_pollOf_a ω s4 a1 hq) sg_X7_pollOf gX7_worth_X7_pollOf wD_0 rfl ⟨Nat.le_of_ble_eq_true rfl, Nat.le_of_ble_eq_true rfl⟩ rfl rfl (Nat.le_of_ble_eq_true rfl) dX7_worth_51 rfl ?_
            refine G_iload_n (pc' := 55) C dX7_worth_54 2 rfl rfl ?_
            refine G_callVv (pc' := 58) C [.ref (za ω 18), .int a2] (c_X7_recount_0_18 ω N s4 a2) sg_X7_recount_0_18 gX7_worth_X7_recount wD_0 rfl ⟨Nat.le_of_ble_eq_true rfl, Nat.le_of_ble_eq_true rfl⟩ rfl rfl (Nat.le_of_ble_eq_true rfl) dX7_worth_55 rfl hf (fun s7 hf => ?_)
            refine G_iload_n (pc' := 59) C dX7_worth_58 2 rfl rfl ?_
            refine G_iconst (v := (1 : Int32)) (pc' := 60) C dX7_worth_59 (by decide) rfl ?_
            refine G_icmp_ne (tgt := 78) (pc' := 63) C dX7_worth_60 (by decide) rfl hf (fun hf => ?_) (fun hf => ?_)
            · refine G_aload_n (pc' := 64) C dX7_worth_63 0 rfl rfl ?_
              refine G_get (pc' := 67) C wD_0 rfl 6 (by decide) rfl iu_X7_worth_X7 lk_X7_worth_50 dX7_worth_64 rfl ?_
              refine G_iload_n (pc' := 68) C dX7_worth_67 3 rfl rfl ?_
              refine G_callVp (pc' := 71) C [.int a3] (c_X5_valueOf ω N s7 a3) sg_X5_valueOf gX7_worth_X5_valueOf wD_24 rfl ⟨Nat.le_of_ble_eq_true rfl, Nat.le_of_ble_eq_true rfl⟩ rfl rfl (Nat.le_of_ble_eq_true rfl) dX7_worth_68 rfl hf (fun v8 hf => ?_)
              refine G_sipush (v := (1000 : Int32)) (pc' := 74) C dX7_worth_71 (by decide) rfl ?_
              refine G_iadd (pc' := 75) C dX7_worth_74 rfl ?_
              refine G_goto (pc' := 86) C dX7_worth_75 (by decide) ?_
              exact G_iret C hR dX7_worth_86 (Option.some.inj hf)
            · refine G_aload_n (pc' := 79) C dX7_worth_78 0 rfl rfl ?_
              refine G_get (pc' := 82) C wD_0 rfl 6 (by decide) rfl iu_X7_worth_X7 lk_X7_worth_50 dX7_worth_79 rfl ?_
              refine G_iload_n (pc' := 83) C dX7_worth_82 3 rfl rfl ?_
              refine G_callVp (pc' := 86) C [.int a3] (c_X5_valueOf ω N s7 a3) sg_X5_valueOf gX7_worth_X5_valueOf wD_24 rfl ⟨Nat.le_of_ble_eq_true rfl, Nat.le_of_ble_eq_true rfl⟩ rfl rfl (Nat.le_of_ble_eq_true rfl) dX7_worth_83 rfl hf (fun v9 hf => ?_)
              exact G_iret C hR dX7_worth_86 (Option.some.inj hf)
          · rw [if_neg hq] at hf
            refine G_callVr (pc' := 54) C [.int a1] (c_X7_pollOf_b ω s4 a1 hq) sg_X7_pollOf gX7_worth_X7_pollOf wD_0 rfl ⟨Nat.le_of_ble_eq_true rfl, Nat.le_of_ble_eq_true rfl⟩ rfl rfl (Nat.le_of_ble_eq_true rfl) dX7_worth_51 rfl ?_
            refine G_iload_n (pc' := 55) C dX7_worth_54 2 rfl rfl ?_
            refine G_callVv (pc' := 58) C [.ref (za ω 21), .int a2] (c_X7_recount_0_21 ω N s4 a2) sg_X7_recount_0_21 gX7_worth_X7_recount wD_0 rfl ⟨Nat.le_of_ble_eq_true rfl, Nat.le_of_ble_eq_true rfl⟩ rfl rfl (Nat.le_of_ble_eq_true rfl) dX7_worth_55 rfl hf (fun s10 hf => ?_)
            refine G_iload_n (pc' := 59) C dX7_worth_58 2 rfl rfl ?_
            refine G_iconst (v := (1 : Int32)) (pc' := 60) C dX7_worth_59 (by decide) rfl ?_
            refine G_icmp_ne (tgt := 78) (pc' := 63) C dX7_worth_60 (by decide) rfl hf (fun hf => ?_) (fun hf => ?_)
            · refine G_aload_n (pc' := 64) C dX7_worth_63 0 rfl rfl ?_
              refine G_get (pc' := 67) C wD_0 rfl 6 (by decide) rfl iu_X7_worth_X7 lk_X7_worth_50 dX7_worth_64 rfl ?_
              refine G_iload_n (pc' := 68) C dX7_worth_67 3 rfl rfl ?_
              refine G_callVp (pc' := 71) C [.int a3] (c_X5_valueOf ω N s10 a3) sg_X5_valueOf gX7_worth_X5_valueOf wD_24 rfl ⟨Nat.le_of_ble_eq_true rfl, Nat.le_of_ble_eq_true rfl⟩ rfl rfl (Nat.le_of_ble_eq_true rfl) dX7_worth_68 rfl hf (fun v11 hf => ?_)
              refine G_sipush (v := (1000 : Int32)) (pc' := 74) C dX7_worth_71 (by decide) rfl ?_
              refine G_iadd (pc' := 75) C dX7_worth_74 rfl ?_
              refine G_goto (pc' := 86) C dX7_worth_75 (by decide) ?_
              exact G_iret C hR dX7_worth_86 (Option.some.inj hf)
            · refine G_aload_n (pc' := 79) C dX7_worth_78 0 rfl rfl ?_
              refine G_get (pc' := 82) C wD_0 rfl 6 (by decide) rfl iu_X7_worth_X7 lk_X7_worth_50 dX7_worth_79 rfl ?_
              refine G_iload_n (pc' := 83) C dX7_worth_82 3 rfl rfl ?_
              refine G_callVp (pc' := 86) C [.int a3] (c_X5_valueOf ω N s10 a3) sg_X5_valueOf gX7_worth_X5_valueOf wD_24 rfl ⟨Nat.le_of_ble_eq_true rfl, Nat.le_of_ble_eq_true rfl⟩ rfl rfl (Nat.le_of_ble_eq_true rfl) dX7_worth_83 rfl hf (fun v12 hf => ?_)
              exact G_iret C hR dX7_worth_86 (Option.some.inj hf)
theorem lk_X5_findRing_80n : Cond.methodLinkNest RX5 80 yX7_contains RX7 ∈ zNws := by decide +kernel
theorem lk_X5_findRing_80s : Cond.static yX7_contains ∈ wsX5_findRing := by decide +kernel
theorem lk_X5_findRing_80i : Cond.initialized yX7_contains.cls ∈ wsX5_findRing := by decide +kernel
theorem iu_X5_findRing_X5 : ∀ w ∈ wsX50, w ∈ wsX5_findRing := by decide +kernel
theorem lk_X5_findRing_30 : Cond.fieldLink RX5 30 "PrizeDesk$Tally" "ring" "[I" ∈ wsX5_findRing := by decide +kernel
theorem lk_X5_findRing_27 : Cond.fieldLink RX5 27 "PrizeDesk$Tally" "beaten" "[I" ∈ wsX5_findRing := by decide +kernel
abbrev rm_X5_findRing : Room := { frames := 1, cells := 0, slots := 0, locals := 21 }
theorem sg_X5_findRing : ZG yX5_findRing wsX5_findRing cX5_findRing 4 (some .boolean) RX5 0 rm_X5_findRing := ⟨⟨_, rfl⟩, by decide +kernel, rfl, rfl⟩
set_option maxHeartbeats 4000000 in
set_option maxRecDepth 100000 in
theorem w_X5_findRing_18 {ω : ZO} {κ : ZK} {N : Nat} {σ : ZS} {b1 : Int32} {b2 : Int32} {K : Int32 → Option (Int32 × ZS)} {r0 : Int32 × ZS} (C : CX ω wD κ cX5_findRing wsX5_findRing RX5 (some .boolean) 4 rm_X5_findRing) (hR : zRI ω wD κ (fun v τ => (v, τ) = r0)) (HK : ∀ (y3 : Int32), K y3 = some r0 → G ω wD κ 92 [(0, .ref (za ω 24)), (1, .int b1), (2, .int b2)] [] σ) : ∀ (n : Nat) (y3 : Int32), L_X5_findRing_18 N σ b1 b2 K n y3 = some r0 → G ω wD κ 18 [(0, .ref (za ω 24)), (1, .int b1), (2, .int b2), (3, .int y3)] [] σ := by
  intro n
  induction n with
  | zero => intro  y3 hf; exact absurd (show none = some r0 from hf) (fun h => nomatch h)
  | succ n ih =>
    intro y3 hf
    have hf : B_X5_findRing_18 N σ b1 b2 K (L_X5_findRing_18 N σ b1 b2 K n) y3 = some r0 := hf
    unfold B_X5_findRing_18 at hf
    refine G_iload_n (pc' := 19) C dX5_findRing_18 3 rfl rfl ?_
    refine G_bipush (v := (24 : Int32)) (pc' := 21) C dX5_findRing_19 (by decide) rfl ?_
    refine G_icmp_ge (tgt := 92) (pc' := 24) C dX5_findRing_21 (by decide) rfl hf (fun hf => ?_) (fun hf => ?_)
    · refine G_sub (lv' := [(0, .ref (za ω 24)), (1, .int b1), (2, .int b2)]) C [0, 1, 2] rfl ?_
      exact HK y3 hf
    · refine G_aload_n (pc' := 25) C dX5_findRing_24 0 rfl rfl ?_
      refine G_get (pc' := 28) C wD_24 rfl 5 (by decide) rfl iu_X5_findRing_X5 lk_X5_findRing_27 dX5_findRing_25 rfl ?_
      refine G_iload_n (pc' := 29) C dX5_findRing_28 1 rfl rfl ?_
      refine G_iald (pc' := 30) C wD_30 dX5_findRing_29 rfl hf (fun v1 hf => ?_)
      refine G_iload_n (pc' := 31) C dX5_findRing_30 2 rfl rfl ?_
      refine G_callNp (pc' := 34) C [.int v1, .int b2] (c_X7_contains ω N σ v1 b2) sg_X7_contains gX5_findRing_X7_contains_n80 lk_X5_findRing_80n lk_X5_findRing_80s lk_X5_findRing_80i ⟨Nat.le_of_ble_eq_true rfl, Nat.le_of_ble_eq_true rfl⟩ rfl rfl (Nat.le_of_ble_eq_true rfl) dX5_findRing_31 rfl hf (fun v2 hf => ?_)
      refine G_if_eq (tgt := 92) (pc' := 37) C dX5_findRing_34 (by decide) rfl hf (fun hf => ?_) (fun hf => ?_)
      · refine G_sub (lv' := [(0, .ref (za ω 24)), (1, .int b1), (2, .int b2)]) C [0, 1, 2] rfl ?_
        exact HK y3 hf
      · refine G_aload_n (pc' := 38) C dX5_findRing_37 0 rfl rfl ?_
        refine G_get (pc' := 41) C wD_24 rfl 5 (by decide) rfl iu_X5_findRing_X5 lk_X5_findRing_27 dX5_findRing_38 rfl ?_
        refine G_iload_n (pc' := 42) C dX5_findRing_41 2 rfl rfl ?_
        refine G_iald (pc' := 43) C wD_30 dX5_findRing_42 rfl hf (fun v3 hf => ?_)
        refine G_iload_n (pc' := 44) C dX5_findRing_43 3 rfl rfl ?_
        refine G_callNp (pc' := 47) C [.int v3, .int y3] (c_X7_contains ω N σ v3 y3) sg_X7_contains gX5_findRing_X7_contains_n80 lk_X5_findRing_80n lk_X5_findRing_80s lk_X5_findRing_80i ⟨Nat.le_of_ble_eq_true rfl, Nat.le_of_ble_eq_true rfl⟩ rfl rfl (Nat.le_of_ble_eq_true rfl) dX5_findRing_44 rfl hf (fun v4 hf => ?_)
        refine G_if_eq (tgt := 86) (pc' := 50) C dX5_findRing_47 (by decide) rfl hf (fun hf => ?_) (fun hf => ?_)
        · refine G_iincL (v := y3 + (1 : Int32)) (pc' := 89) C dX5_findRing_86 3 rfl rfl (by decide) [1, 2, 3, 0] (fun x5 => [(0, .ref (za ω 24)), (1, .int b1), (2, .int b2), (3, .int x5)]) (fun _ => rfl) rfl hf (fun x5 hf => ?_)
          refine G_goto (pc' := 18) C dX5_findRing_89 (by decide) ?_
          exact ih x5 hf
        · refine G_aload_n (pc' := 51) C dX5_findRing_50 0 rfl rfl ?_
          refine G_get (pc' := 54) C wD_24 rfl 5 (by decide) rfl iu_X5_findRing_X5 lk_X5_findRing_27 dX5_findRing_51 rfl ?_
          refine G_iload_n (pc' := 55) C dX5_findRing_54 3 rfl rfl ?_
          refine G_iald (pc' := 56) C wD_30 dX5_findRing_55 rfl hf (fun v6 hf => ?_)
          refine G_iload_n (pc' := 57) C dX5_findRing_56 1 rfl rfl ?_
          refine G_callNp (pc' := 60) C [.int v6, .int b1] (c_X7_contains ω N σ v6 b1) sg_X7_contains gX5_findRing_X7_contains_n80 lk_X5_findRing_80n lk_X5_findRing_80s lk_X5_findRing_80i ⟨Nat.le_of_ble_eq_true rfl, Nat.le_of_ble_eq_true rfl⟩ rfl rfl (Nat.le_of_ble_eq_true rfl) dX5_findRing_57 rfl hf (fun v7 hf => ?_)
          refine G_if_eq (tgt := 86) (pc' := 63) C dX5_findRing_60 (by decide) rfl hf (fun hf => ?_) (fun hf => ?_)
          · refine G_iincL (v := y3 + (1 : Int32)) (pc' := 89) C dX5_findRing_86 3 rfl rfl (by decide) [1, 2, 3, 0] (fun x8 => [(0, .ref (za ω 24)), (1, .int b1), (2, .int b2), (3, .int x8)]) (fun _ => rfl) rfl hf (fun x8 hf => ?_)
            refine G_goto (pc' := 18) C dX5_findRing_89 (by decide) ?_
            exact ih x8 hf
          · refine G_aload_n (pc' := 64) C dX5_findRing_63 0 rfl rfl ?_
            refine G_get (pc' := 67) C wD_24 rfl 6 (by decide) rfl iu_X5_findRing_X5 lk_X5_findRing_30 dX5_findRing_64 rfl ?_
            refine G_iconst (v := (0 : Int32)) (pc' := 68) C dX5_findRing_67 (by decide) rfl ?_
            refine G_iload_n (pc' := 69) C dX5_findRing_68 1 rfl rfl ?_
            refine G_iast (pc' := 70) C wD_31 wD_s31 dX5_findRing_69 rfl hf (fun s9 hf => ?_)
            refine G_aload_n (pc' := 71) C dX5_findRing_70 0 rfl rfl ?_
            refine G_get (pc' := 74) C wD_24 rfl 6 (by decide) rfl iu_X5_findRing_X5 lk_X5_findRing_30 dX5_findRing_71 rfl ?_
            refine G_iconst (v := (1 : Int32)) (pc' := 75) C dX5_findRing_74 (by decide) rfl ?_
            refine G_iload_n (pc' := 76) C dX5_findRing_75 2 rfl rfl ?_
            refine G_iast (pc' := 77) C wD_31 wD_s31 dX5_findRing_76 rfl hf (fun s10 hf => ?_)
            refine G_aload_n (pc' := 78) C dX5_findRing_77 0 rfl rfl ?_
            refine G_get (pc' := 81) C wD_24 rfl 6 (by decide) rfl iu_X5_findRing_X5 lk_X5_findRing_30 dX5_findRing_78 rfl ?_
            refine G_iconst (v := (2 : Int32)) (pc' := 82) C dX5_findRing_81 (by decide) rfl ?_
            refine G_iload_n (pc' := 83) C dX5_findRing_82 3 rfl rfl ?_
            refine G_iast (pc' := 84) C wD_31 wD_s31 dX5_findRing_83 rfl hf (fun s11 hf => ?_)
            refine G_iconst (v := (1 : Int32)) (pc' := 85) C dX5_findRing_84 (by decide) rfl ?_
            exact G_zret C hR dX5_findRing_85 (by decide) (Option.some.inj hf)
set_option maxHeartbeats 4000000 in
set_option maxRecDepth 100000 in
theorem w_X5_findRing_10 {ω : ZO} {κ : ZK} {N : Nat} {σ : ZS} {b1 : Int32} {K : Int32 → Option (Int32 × ZS)} {r0 : Int32 × ZS} (C : CX ω wD κ cX5_findRing wsX5_findRing RX5 (some .boolean) 4 rm_X5_findRing) (hR : zRI ω wD κ (fun v τ => (v, τ) = r0)) (HK : ∀ (y2 : Int32), K y2 = some r0 → G ω wD κ 98 [(0, .ref (za ω 24)), (1, .int b1)] [] σ) : ∀ (n : Nat) (y2 : Int32), L_X5_findRing_10 N σ b1 K n y2 = some r0 → G ω wD κ 10 [(0, .ref (za ω 24)), (1, .int b1), (2, .int y2)] [] σ := by
  intro n
  induction n with
  | zero => intro  y2 hf; exact absurd (show none = some r0 from hf) (fun h => nomatch h)
  | succ n ih =>
    intro y2 hf
    have hf : B_X5_findRing_10 N σ b1 K (L_X5_findRing_10 N σ b1 K n) y2 = some r0 := hf
    unfold B_X5_findRing_10 at hf
    refine G_iload_n (pc' := 11) C dX5_findRing_10 2 rfl rfl ?_
    refine G_bipush (v := (24 : Int32)) (pc' := 13) C dX5_findRing_11 (by decide) rfl ?_
    refine G_icmp_ge (tgt := 98) (pc' := 16) C dX5_findRing_13 (by decide) rfl hf (fun hf => ?_) (fun hf => ?_)
    · refine G_sub (lv' := [(0, .ref (za ω 24)), (1, .int b1)]) C [0, 1] rfl ?_
      exact HK y2 hf
    · refine G_iconst (v := (0 : Int32)) (pc' := 17) C dX5_findRing_16 (by decide) rfl ?_
      refine G_istore_n (lv' := [(0, .ref (za ω 24)), (1, .int b1), (2, .int y2), (3, .int (0 : Int32))]) (pc' := 18) C dX5_findRing_17 (by decide) [1, 2, 3, 0] rfl rfl ?_
      refine w_X5_findRing_18 C hR (fun y12 hf => ?_) N (0 : Int32) hf
      refine G_iincL (v := y2 + (1 : Int32)) (pc' := 95) C dX5_findRing_92 2 rfl rfl (by decide) [1, 2, 0] (fun x13 => [(0, .ref (za ω 24)), (1, .int b1), (2, .int x13)]) (fun _ => rfl) rfl hf (fun x13 hf => ?_)
      refine G_goto (pc' := 10) C dX5_findRing_95 (by decide) ?_
      exact ih x13 hf
set_option maxHeartbeats 4000000 in
set_option maxRecDepth 100000 in
theorem w_X5_findRing_2 {ω : ZO} {κ : ZK} {N : Nat} {σ : ZS} {K : Int32 → Option (Int32 × ZS)} {r0 : Int32 × ZS} (C : CX ω wD κ cX5_findRing wsX5_findRing RX5 (some .boolean) 4 rm_X5_findRing) (hR : zRI ω wD κ (fun v τ => (v, τ) = r0)) (HK : ∀ (y1 : Int32), K y1 = some r0 → G ω wD κ 104 [(0, .ref (za ω 24))] [] σ) : ∀ (n : Nat) (y1 : Int32), L_X5_findRing_2 N σ K n y1 = some r0 → G ω wD κ 2 [(0, .ref (za ω 24)), (1, .int y1)] [] σ := by
  intro n
  induction n with
  | zero => intro  y1 hf; exact absurd (show none = some r0 from hf) (fun h => nomatch h)
  | succ n ih =>
    intro y1 hf
    have hf : B_X5_findRing_2 N σ K (L_X5_findRing_2 N σ K n) y1 = some r0 := hf
    unfold B_X5_findRing_2 at hf
    refine G_iload_n (pc' := 3) C dX5_findRing_2 1 rfl rfl ?_
    refine G_bipush (v := (24 : Int32)) (pc' := 5) C dX5_findRing_3 (by decide) rfl ?_
    refine G_icmp_ge (tgt := 104) (pc' := 8) C dX5_findRing_5 (by decide) rfl hf (fun hf => ?_) (fun hf => ?_)
    · refine G_sub (lv' := [(0, .ref (za ω 24))]) C [0] rfl ?_
      exact HK y1 hf
    · refine G_iconst (v := (0 : Int32)) (pc' := 9) C dX5_findRing_8 (by decide) rfl ?_
      refine G_istore_n (lv' := [(0, .ref (za ω 24)), (1, .int y1), (2, .int (0 : Int32))]) (pc' := 10) C dX5_findRing_9 (by decide) [1, 2, 0] rfl rfl ?_
      refine w_X5_findRing_10 C hR (fun y14 hf => ?_) N (0 : Int32) hf
      refine G_iincL (v := y1 + (1 : Int32)) (pc' := 101) C dX5_findRing_98 1 rfl rfl (by decide) [1, 0] (fun x15 => [(0, .ref (za ω 24)), (1, .int x15)]) (fun _ => rfl) rfl hf (fun x15 hf => ?_)
      refine G_goto (pc' := 2) C dX5_findRing_101 (by decide) ?_
      exact ih x15 hf
set_option maxHeartbeats 4000000 in
set_option maxRecDepth 100000 in
theorem c_X5_findRing (ω : ZO) (N : Nat) (σ : ZS) : ZIs ω wD yX5_findRing wsX5_findRing rm_X5_findRing [.ref (za ω 24)] σ (f_X5_findRing N σ) := by
  intro r0 hf
  refine ZI.go (cc := cX5_findRing) (maxL := 4) (ret := (some .boolean)) (own := RX5) (lv := [(0, .ref (za ω 24))]) (by decide) rfl rfl (Nat.le_of_ble_eq_true rfl) rfl (fun κ C hR => ?_)
  unfold f_X5_findRing at hf
  refine G_iconst (v := (0 : Int32)) (pc' := 1) C dX5_findRing_0 (by decide) rfl ?_
  refine G_istore_n (lv' := [(0, .ref (za ω 24)), (1, .int (0 : Int32))]) (pc' := 2) C dX5_findRing_1 (by decide) [1, 0] rfl rfl ?_
  refine w_X5_findRing_2 C hR (fun y16 hf => ?_) N (0 : Int32) hf
  refine G_iconst (v := (0 : Int32)) (pc' := 105) C dX5_findRing_104 (by decide) rfl ?_
  exact G_zret C hR dX5_findRing_105 (by decide) (Option.some.inj hf)
theorem lk_X5_ringBook_72n : Cond.methodLinkNest RX5 72 yX7_isWithin RX7 ∈ zNws := by decide +kernel
theorem lk_X5_ringBook_72s : Cond.static yX7_isWithin ∈ wsX5_ringBook := by decide +kernel
theorem lk_X5_ringBook_72i : Cond.initialized yX7_isWithin.cls ∈ wsX5_ringBook := by decide +kernel
theorem iu_X5_ringBook_X5 : ∀ w ∈ wsX50, w ∈ wsX5_ringBook := by decide +kernel
theorem lk_X5_ringBook_30 : Cond.fieldLink RX5 30 "PrizeDesk$Tally" "ring" "[I" ∈ wsX5_ringBook := by decide +kernel
abbrev rm_X5_ringBook : Room := { frames := 2, cells := 0, slots := 0, locals := 44 }
theorem sg_X5_ringBook : ZG yX5_ringBook wsX5_ringBook cX5_ringBook 2 (some .int) RX5 1 rm_X5_ringBook := ⟨⟨_, rfl⟩, by decide +kernel, rfl, rfl⟩
set_option maxHeartbeats 4000000 in
set_option maxRecDepth 100000 in
theorem c_X5_ringBook (ω : ZO) (N : Nat) (σ : ZS) (a1 : Int32) : ZIs ω wD yX5_ringBook wsX5_ringBook rm_X5_ringBook [.ref (za ω 24), .int a1] σ (f_X5_ringBook N σ a1) := by
  intro r0 hf
  refine ZI.go (cc := cX5_ringBook) (maxL := 2) (ret := (some .int)) (own := RX5) (lv := [(0, .ref (za ω 24)), (1, .int a1)]) (by decide) rfl rfl (Nat.le_of_ble_eq_true rfl) rfl (fun κ C hR => ?_)
  unfold f_X5_ringBook at hf
  refine G_iload_n (pc' := 1) C dX5_ringBook_0 1 rfl rfl ?_
  refine G_iconst (v := (0 : Int32)) (pc' := 2) C dX5_ringBook_1 (by decide) rfl ?_
  refine G_aload_n (pc' := 3) C dX5_ringBook_2 0 rfl rfl ?_
  refine G_get (pc' := 6) C wD_24 rfl 6 (by decide) rfl iu_X5_ringBook_X5 lk_X5_ringBook_30 dX5_ringBook_3 rfl ?_
  refine G_alen (v := (3 : Int32)) (pc' := 7) C wD_31 (by decide) dX5_ringBook_6 rfl ?_
  refine G_iconst (v := (1 : Int32)) (pc' := 8) C dX5_ringBook_7 (by decide) rfl ?_
  refine G_isub (pc' := 9) C dX5_ringBook_8 rfl ?_
  refine G_callNp (pc' := 12) C [.int a1, .int (0 : Int32), .int ((3 : Int32) - (1 : Int32))] (c_X7_isWithin ω N σ a1 (0 : Int32) ((3 : Int32) - (1 : Int32))) sg_X7_isWithin gX5_ringBook_X7_isWithin_n72 lk_X5_ringBook_72n lk_X5_ringBook_72s lk_X5_ringBook_72i ⟨Nat.le_of_ble_eq_true rfl, Nat.le_of_ble_eq_true rfl⟩ rfl rfl (Nat.le_of_ble_eq_true rfl) dX5_ringBook_9 rfl hf (fun v1 hf => ?_)
  refine G_if_eq (tgt := 31) (pc' := 15) C dX5_ringBook_12 (by decide) rfl hf (fun hf => ?_) (fun hf => ?_)
  · refine G_iconst (v := (-1 : Int32)) (pc' := 32) C dX5_ringBook_31 (by decide) rfl ?_
    exact G_iret C hR dX5_ringBook_32 (Option.some.inj hf)
  · refine G_aload_n (pc' := 16) C dX5_ringBook_15 0 rfl rfl ?_
    refine G_callVt (pc' := 19) C [] (c_X5_findRing ω N σ) sg_X5_findRing gX5_ringBook_X5_findRing wD_24 rfl ⟨Nat.le_of_ble_eq_true rfl, Nat.le_of_ble_eq_true rfl⟩ rfl rfl (Nat.le_of_ble_eq_true rfl) dX5_ringBook_16 rfl hf (fun v3 s2 hf => ?_)
    refine G_if_eq (tgt := 31) (pc' := 22) C dX5_ringBook_19 (by decide) rfl hf (fun hf => ?_) (fun hf => ?_)
    · refine G_iconst (v := (-1 : Int32)) (pc' := 32) C dX5_ringBook_31 (by decide) rfl ?_
      exact G_iret C hR dX5_ringBook_32 (Option.some.inj hf)
    · refine G_aload_n (pc' := 23) C dX5_ringBook_22 0 rfl rfl ?_
      refine G_get (pc' := 26) C wD_24 rfl 6 (by decide) rfl iu_X5_ringBook_X5 lk_X5_ringBook_30 dX5_ringBook_23 rfl ?_
      refine G_iload_n (pc' := 27) C dX5_ringBook_26 1 rfl rfl ?_
      refine G_iald (pc' := 28) C wD_31 dX5_ringBook_27 rfl hf (fun v4 hf => ?_)
      refine G_goto (pc' := 32) C dX5_ringBook_28 (by decide) ?_
      exact G_iret C hR dX5_ringBook_32 (Option.some.inj hf)
theorem iu_X7_paradox_X7 : ∀ w ∈ wsX70, w ∈ wsX7_paradox := by decide +kernel
theorem lk_X7_paradox_50 : Cond.fieldLink RX7 50 "PrizeDesk" "tally" "LPrizeDesk$Tally;" ∈ wsX7_paradox := by decide +kernel
abbrev rm_X7_paradox : Room := { frames := 6, cells := 0, slots := 0, locals := 138 }
theorem sg_X7_paradox : ZG yX7_paradox wsX7_paradox cX7_paradox 3 (some .int) RX7 2 rm_X7_paradox := ⟨⟨_, rfl⟩, by decide +kernel, rfl, rfl⟩
set_option maxHeartbeats 4000000 in
set_option maxRecDepth 100000 in
theorem c_X7_paradox (ω : ZO) (N : Nat) (σ : ZS) (a1 : Int32) (a2 : Int32) : ZIs ω wD yX7_paradox wsX7_paradox rm_X7_paradox [.ref (za ω 0), .int a1, .int a2] σ (f_X7_paradox N σ a1 a2) := by
  intro r0 hf
  refine ZI.go (cc := cX7_paradox) (maxL := 3) (ret := (some .int)) (own := RX7) (lv := [(0, .ref (za ω 0)), (1, .int a1), (2, .int a2)]) (by decide) rfl rfl (Nat.le_of_ble_eq_true rfl) rfl (fun κ C hR => ?_)
  unfold f_X7_paradox at hf
  refine G_iload_n (pc' := 1) C dX7_paradox_0 1 rfl rfl ?_
  refine G_callSp (pc' := 4) C [.int a1] (c_X7_isStage ω N σ a1) sg_X7_isStage gX7_paradox_X7_isStage ⟨Nat.le_of_ble_eq_true rfl, Nat.le_of_ble_eq_true rfl⟩ rfl rfl (Nat.le_of_ble_eq_true rfl) dX7_paradox_1 rfl hf (fun v1 hf => ?_)
  refine G_if_ne (tgt := 9) (pc' := 7) C dX7_paradox_4 (by decide) rfl hf (fun hf => ?_) (fun hf => ?_)
  · refine G_iconst (v := (-1 : Int32)) (pc' := 8) C dX7_paradox_7 (by decide) rfl ?_
    exact G_iret C hR dX7_paradox_8 (Option.some.inj hf)
  · refine G_aload_n (pc' := 10) C dX7_paradox_9 0 rfl rfl ?_
    refine G_iload_n (pc' := 11) C dX7_paradox_10 1 rfl rfl ?_
    refine G_callVv (pc' := 14) C [.int a1] (c_X7_rankList ω N σ a1) sg_X7_rankList gX7_paradox_X7_rankList wD_0 rfl ⟨Nat.le_of_ble_eq_true rfl, Nat.le_of_ble_eq_true rfl⟩ rfl rfl (Nat.le_of_ble_eq_true rfl) dX7_paradox_11 rfl hf (fun s2 hf => ?_)
    refine G_aload_n (pc' := 15) C dX7_paradox_14 0 rfl rfl ?_
    refine G_aload_n (pc' := 16) C dX7_paradox_15 0 rfl rfl ?_
    refine G_iload_n (pc' := 17) C dX7_paradox_16 1 rfl rfl ?_
    by_cases hq : a1 = 0
    · rw [if_pos hq] at hf
      refine G_callVr (pc' := 20) C [.int a1] (c_X7_pollOf_a ω s2 a1 hq) sg_X7_pollOf gX7_paradox_X7_pollOf wD_0 rfl ⟨Nat.le_of_ble_eq_true rfl, Nat.le_of_ble_eq_true rfl⟩ rfl rfl (Nat.le_of_ble_eq_true rfl) dX7_paradox_17 rfl ?_
      refine G_iconst (v := (1 : Int32)) (pc' := 21) C dX7_paradox_20 (by decide) rfl ?_
      refine G_callVv (pc' := 24) C [.ref (za ω 18), .int (1 : Int32)] (c_X7_recount_0_18 ω N s2 (1 : Int32)) sg_X7_recount_0_18 gX7_paradox_X7_recount wD_0 rfl ⟨Nat.le_of_ble_eq_true rfl, Nat.le_of_ble_eq_true rfl⟩ rfl rfl (Nat.le_of_ble_eq_true rfl) dX7_paradox_21 rfl hf (fun s3 hf => ?_)
      refine G_aload_n (pc' := 25) C dX7_paradox_24 0 rfl rfl ?_
      refine G_get (pc' := 28) C wD_0 rfl 6 (by decide) rfl iu_X7_paradox_X7 lk_X7_paradox_50 dX7_paradox_25 rfl ?_
      refine G_iload_n (pc' := 29) C dX7_paradox_28 2 rfl rfl ?_
      refine G_callVt (pc' := 32) C [.int a2] (c_X5_ringBook ω N s3 a2) sg_X5_ringBook gX7_paradox_X5_ringBook wD_24 rfl ⟨Nat.le_of_ble_eq_true rfl, Nat.le_of_ble_eq_true rfl⟩ rfl rfl (Nat.le_of_ble_eq_true rfl) dX7_paradox_29 rfl hf (fun v5 s4 hf => ?_)
      exact G_iret C hR dX7_paradox_32 (Option.some.inj hf)
    · rw [if_neg hq] at hf
      refine G_callVr (pc' := 20) C [.int a1] (c_X7_pollOf_b ω s2 a1 hq) sg_X7_pollOf gX7_paradox_X7_pollOf wD_0 rfl ⟨Nat.le_of_ble_eq_true rfl, Nat.le_of_ble_eq_true rfl⟩ rfl rfl (Nat.le_of_ble_eq_true rfl) dX7_paradox_17 rfl ?_
      refine G_iconst (v := (1 : Int32)) (pc' := 21) C dX7_paradox_20 (by decide) rfl ?_
      refine G_callVv (pc' := 24) C [.ref (za ω 21), .int (1 : Int32)] (c_X7_recount_0_21 ω N s2 (1 : Int32)) sg_X7_recount_0_21 gX7_paradox_X7_recount wD_0 rfl ⟨Nat.le_of_ble_eq_true rfl, Nat.le_of_ble_eq_true rfl⟩ rfl rfl (Nat.le_of_ble_eq_true rfl) dX7_paradox_21 rfl hf (fun s6 hf => ?_)
      refine G_aload_n (pc' := 25) C dX7_paradox_24 0 rfl rfl ?_
      refine G_get (pc' := 28) C wD_0 rfl 6 (by decide) rfl iu_X7_paradox_X7 lk_X7_paradox_50 dX7_paradox_25 rfl ?_
      refine G_iload_n (pc' := 29) C dX7_paradox_28 2 rfl rfl ?_
      refine G_callVt (pc' := 32) C [.int a2] (c_X5_ringBook ω N s6 a2) sg_X5_ringBook gX7_paradox_X5_ringBook wD_24 rfl ⟨Nat.le_of_ble_eq_true rfl, Nat.le_of_ble_eq_true rfl⟩ rfl rfl (Nat.le_of_ble_eq_true rfl) dX7_paradox_29 rfl hf (fun v8 s7 hf => ?_)
      exact G_iret C hR dX7_paradox_32 (Option.some.inj hf)
