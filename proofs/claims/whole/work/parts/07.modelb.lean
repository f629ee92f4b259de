theorem iu_X8_isIn_X8 : ∀ w ∈ wsX80, w ∈ wsX8_isIn := by decide +kernel
theorem lk_X8_isIn_29 : Cond.fieldLink RX8 29 "PrizeDeskModel" "isCalled" "[Z" ∈ wsX8_isIn := by decide +kernel
theorem lk_X8_isIn_20 : Cond.fieldLink RX8 20 "PrizeDeskModel" "publisher" "[I" ∈ wsX8_isIn := by decide +kernel
theorem lk_X8_isIn_13 : Cond.fieldLink RX8 13 "PrizeDeskModel" "rule" "[I" ∈ wsX8_isIn := by decide +kernel
abbrev rm_X8_isIn : Room := { frames := 1, cells := 0, slots := 0, locals := 21 }
theorem sg_X8_isIn : ZG yX8_isIn wsX8_isIn cX8_isIn 4 (some .boolean) RX8 1 rm_X8_isIn := ⟨⟨_, rfl⟩, by decide +kernel, rfl, rfl⟩
set_option maxHeartbeats 4000000 in
set_option maxRecDepth 100000 in
theorem w_X8_isIn_25 {ω : ZO} {κ : ZK} {N : Nat} {σ : ZS} {b1 : Int32} {K : Int32 → Int32 → Option (Int32)} {r0 : Int32} (C : CX ω wM κ cX8_isIn wsX8_isIn RX8 (some .boolean) 4 rm_X8_isIn) (hR : zRI ω wM κ (fun v τ => v = r0 ∧ τ = σ)) (HK : ∀ (y2 : Int32) (y3 : Int32), K y2 y3 = some r0 → G ω wM κ 76 [(0, .ref (za ω 0)), (2, .int y2)] [] σ) : ∀ (n : Nat) (y2 : Int32) (y3 : Int32), L_X8_isIn_25 N σ b1 K n y2 y3 = some r0 → G ω wM κ 25 [(0, .ref (za ω 0)), (1, .int b1), (2, .int y2), (3, .int y3)] [] σ := by
  intro n
  induction n with
  | zero => intro  y2 y3 hf; exact absurd (show none = some r0 from hf) (fun h => nomatch h)
  | succ n ih =>
    intro y2 y3 hf
    have hf : B_X8_isIn_25 N σ b1 K (L_X8_isIn_25 N σ b1 K n) y2 y3 = some r0 := hf
    unfold B_X8_isIn_25 at hf
    refine G_iload_n (pc' := 26) C dX8_isIn_25 3 rfl rfl ?_
    refine G_iload_n (pc' := 27) C dX8_isIn_26 1 rfl rfl ?_
    refine G_icmp_ge (tgt := 76) (pc' := 30) C dX8_isIn_27 (by decide) rfl hf (fun hf => ?_) (fun hf => ?_)
    · refine G_sub (lv' := [(0, .ref (za ω 0)), (2, .int y2)]) C [0, 2] rfl ?_
      exact HK y2 y3 hf
    · refine G_iload_n (pc' := 31) C dX8_isIn_30 2 rfl rfl ?_
      refine G_aload_n (pc' := 32) C dX8_isIn_31 0 rfl rfl ?_
      refine G_get (pc' := 35) C wM_0 rfl 5 (by decide) rfl iu_X8_isIn_X8 lk_X8_isIn_20 dX8_isIn_32 rfl ?_
      refine G_iload_n (pc' := 36) C dX8_isIn_35 3 rfl rfl ?_
      refine G_iald (pc' := 37) C wM_4 dX8_isIn_36 rfl hf (fun v3 hf => ?_)
      refine G_aload_n (pc' := 38) C dX8_isIn_37 0 rfl rfl ?_
      refine G_get (pc' := 41) C wM_0 rfl 5 (by decide) rfl iu_X8_isIn_X8 lk_X8_isIn_20 dX8_isIn_38 rfl ?_
      refine G_iload_n (pc' := 42) C dX8_isIn_41 1 rfl rfl ?_
      refine G_iald (pc' := 43) C wM_4 dX8_isIn_42 rfl hf (fun v4 hf => ?_)
      refine G_icmp_ne (tgt := 67) (pc' := 46) C dX8_isIn_43 (by decide) rfl hf (fun hf => ?_) (fun hf => ?_)
      · refine G_aload_n (pc' := 47) C dX8_isIn_46 0 rfl rfl ?_
        refine G_iload_n (pc' := 48) C dX8_isIn_47 3 rfl rfl ?_
        refine G_callVp (pc' := 51) C [.int y3] (c_X8_isWithin ω N σ y3) sg_X8_isWithin gX8_isIn_X8_isWithin wM_0 rfl ⟨Nat.le_of_ble_eq_true rfl, Nat.le_of_ble_eq_true rfl⟩ rfl rfl (Nat.le_of_ble_eq_true rfl) dX8_isIn_48 rfl hf (fun v5 hf => ?_)
        refine G_if_eq (tgt := 67) (pc' := 54) C dX8_isIn_51 (by decide) rfl hf (fun hf => ?_) (fun hf => ?_)
        · refine G_iconst (v := (0 : Int32)) (pc' := 68) C dX8_isIn_67 (by decide) rfl ?_
          refine G_iadd (pc' := 69) C dX8_isIn_68 rfl ?_
          refine G_nm hf (fun x6 hf => ?_)
          refine G_istore_n (lv' := [(0, .ref (za ω 0)), (1, .int b1), (2, .int x6), (3, .int y3)]) (pc' := 70) C dX8_isIn_69 (by decide) [1, 2, 0, 3] rfl rfl ?_
          refine G_iincL (v := y3 + (1 : Int32)) (pc' := 73) C dX8_isIn_70 3 rfl rfl (by decide) [1, 2, 3, 0] (fun x7 => [(0, .ref (za ω 0)), (1, .int b1), (2, .int x6), (3, .int x7)]) (fun _ => rfl) rfl hf (fun x7 hf => ?_)
          refine G_goto (pc' := 25) C dX8_isIn_73 (by decide) ?_
          exact ih x6 x7 hf
        · refine G_aload_n (pc' := 55) C dX8_isIn_54 0 rfl rfl ?_
          refine G_get (pc' := 58) C wM_0 rfl 8 (by decide) rfl iu_X8_isIn_X8 lk_X8_isIn_29 dX8_isIn_55 rfl ?_
          refine G_iload_n (pc' := 59) C dX8_isIn_58 3 rfl rfl ?_
          refine G_zald (pc' := 60) C wM_7 dX8_isIn_59 rfl hf (fun v8 hf => ?_)
          refine G_if_ne (tgt := 67) (pc' := 63) C dX8_isIn_60 (by decide) rfl hf (fun hf => ?_) (fun hf => ?_)
          · refine G_iconst (v := (1 : Int32)) (pc' := 64) C dX8_isIn_63 (by decide) rfl ?_
            refine G_goto (pc' := 68) C dX8_isIn_64 (by decide) ?_
            refine G_iadd (pc' := 69) C dX8_isIn_68 rfl ?_
            refine G_nm hf (fun x9 hf => ?_)
            refine G_istore_n (lv' := [(0, .ref (za ω 0)), (1, .int b1), (2, .int x9), (3, .int y3)]) (pc' := 70) C dX8_isIn_69 (by decide) [1, 2, 0, 3] rfl rfl ?_
            refine G_iincL (v := y3 + (1 : Int32)) (pc' := 73) C dX8_isIn_70 3 rfl rfl (by decide) [1, 2, 3, 0] (fun x10 => [(0, .ref (za ω 0)), (1, .int b1), (2, .int x9), (3, .int x10)]) (fun _ => rfl) rfl hf (fun x10 hf => ?_)
            refine G_goto (pc' := 25) C dX8_isIn_73 (by decide) ?_
            exact ih x9 x10 hf
          · refine G_iconst (v := (0 : Int32)) (pc' := 68) C dX8_isIn_67 (by decide) rfl ?_
            refine G_iadd (pc' := 69) C dX8_isIn_68 rfl ?_
            refine G_nm hf (fun x11 hf => ?_)
            refine G_istore_n (lv' := [(0, .ref (za ω 0)), (1, .int b1), (2, .int x11), (3, .int y3)]) (pc' := 70) C dX8_isIn_69 (by decide) [1, 2, 0, 3] rfl rfl ?_
            refine G_iincL (v := y3 + (1 : Int32)) (pc' := 73) C dX8_isIn_70 3 rfl rfl (by decide) [1, 2, 3, 0] (fun x12 => [(0, .ref (za ω 0)), (1, .int b1), (2, .int x11), (3, .int x12)]) (fun _ => rfl) rfl hf (fun x12 hf => ?_)
            refine G_goto (pc' := 25) C dX8_isIn_73 (by decide) ?_
            exact ih x11 x12 hf
      · refine G_iconst (v := (0 : Int32)) (pc' := 68) C dX8_isIn_67 (by decide) rfl ?_
        refine G_iadd (pc' := 69) C dX8_isIn_68 rfl ?_
        refine G_nm hf (fun x13 hf => ?_)
        refine G_istore_n (lv' := [(0, .ref (za ω 0)), (1, .int b1), (2, .int x13), (3, .int y3)]) (pc' := 70) C dX8_isIn_69 (by decide) [1, 2, 0, 3] rfl rfl ?_
        refine G_iincL (v := y3 + (1 : Int32)) (pc' := 73) C dX8_isIn_70 3 rfl rfl (by decide) [1, 2, 3, 0] (fun x14 => [(0, .ref (za ω 0)), (1, .int b1), (2, .int x13), (3, .int x14)]) (fun _ => rfl) rfl hf (fun x14 hf => ?_)
        refine G_goto (pc' := 25) C dX8_isIn_73 (by decide) ?_
        exact ih x13 x14 hf
set_option maxHeartbeats 4000000 in
set_option maxRecDepth 100000 in
theorem c_X8_isIn (ω : ZO) (N : Nat) (σ : ZS) (a1 : Int32) : ZIp ω wM yX8_isIn wsX8_isIn rm_X8_isIn [.ref (za ω 0), .int a1] σ (f_X8_isIn N σ a1) := by
  intro r0 hf
  refine ZI.go (cc := cX8_isIn) (maxL := 4) (ret := (some .boolean)) (own := RX8) (lv := [(0, .ref (za ω 0)), (1, .int a1)]) (by decide) rfl rfl (Nat.le_of_ble_eq_true rfl) rfl (fun κ C hR => ?_)
  unfold f_X8_isIn at hf
  refine G_aload_n (pc' := 1) C dX8_isIn_0 0 rfl rfl ?_
  refine G_iload_n (pc' := 2) C dX8_isIn_1 1 rfl rfl ?_
  refine G_callVp (pc' := 5) C [.int a1] (c_X8_isWithin ω N σ a1) sg_X8_isWithin gX8_isIn_X8_isWithin wM_0 rfl ⟨Nat.le_of_ble_eq_true rfl, Nat.le_of_ble_eq_true rfl⟩ rfl rfl (Nat.le_of_ble_eq_true rfl) dX8_isIn_2 rfl hf (fun v1 hf => ?_)
  refine G_if_ne (tgt := 10) (pc' := 8) C dX8_isIn_5 (by decide) rfl hf (fun hf => ?_) (fun hf => ?_)
  · refine G_iconst (v := (0 : Int32)) (pc' := 9) C dX8_isIn_8 (by decide) rfl ?_
    exact G_zret C hR dX8_isIn_9 (by decide) ⟨Option.some.inj hf, rfl⟩
  · refine G_aload_n (pc' := 11) C dX8_isIn_10 0 rfl rfl ?_
    refine G_get (pc' := 14) C wM_0 rfl 8 (by decide) rfl iu_X8_isIn_X8 lk_X8_isIn_29 dX8_isIn_11 rfl ?_
    refine G_iload_n (pc' := 15) C dX8_isIn_14 1 rfl rfl ?_
    refine G_zald (pc' := 16) C wM_7 dX8_isIn_15 rfl hf (fun v2 hf => ?_)
    refine G_if_eq (tgt := 21) (pc' := 19) C dX8_isIn_16 (by decide) rfl hf (fun hf => ?_) (fun hf => ?_)
    · refine G_iconst (v := (0 : Int32)) (pc' := 22) C dX8_isIn_21 (by decide) rfl ?_
      refine G_istore_n (lv' := [(0, .ref (za ω 0)), (1, .int a1), (2, .int (0 : Int32))]) (pc' := 23) C dX8_isIn_22 (by decide) [1, 2, 0] rfl rfl ?_
      refine G_iconst (v := (0 : Int32)) (pc' := 24) C dX8_isIn_23 (by decide) rfl ?_
      refine G_istore_n (lv' := [(0, .ref (za ω 0)), (1, .int a1), (2, .int (0 : Int32)), (3, .int (0 : Int32))]) (pc' := 25) C dX8_isIn_24 (by decide) [1, 2, 3, 0] rfl rfl ?_
      refine w_X8_isIn_25 C hR (fun y15 y16 hf => ?_) N (0 : Int32) (0 : Int32) hf
      refine G_iload_n (pc' := 77) C dX8_isIn_76 1 rfl rfl ?_
      refine G_aload_n (pc' := 78) C dX8_isIn_77 0 rfl rfl ?_
      refine G_get (pc' := 81) C wM_0 rfl 2 (by decide) rfl iu_X8_isIn_X8 lk_X8_isIn_13 dX8_isIn_78 rfl ?_
      refine G_iconst (v := (4 : Int32)) (pc' := 82) C dX8_isIn_81 (by decide) rfl ?_
      refine G_iald (pc' := 83) C wM_2 dX8_isIn_82 rfl hf (fun v17 hf => ?_)
      refine G_icmp_ge (tgt := 90) (pc' := 86) C dX8_isIn_83 (by decide) rfl hf (fun hf => ?_) (fun hf => ?_)
      · refine G_iconst (v := (0 : Int32)) (pc' := 91) C dX8_isIn_90 (by decide) rfl ?_
        exact G_zret C hR dX8_isIn_91 (by decide) ⟨Option.some.inj hf, rfl⟩
      · refine G_iconst (v := (1 : Int32)) (pc' := 87) C dX8_isIn_86 (by decide) rfl ?_
        refine G_goto (pc' := 91) C dX8_isIn_87 (by decide) ?_
        exact G_zret C hR dX8_isIn_91 (by decide) ⟨Option.some.inj hf, rfl⟩
    · refine G_iconst (v := (1 : Int32)) (pc' := 20) C dX8_isIn_19 (by decide) rfl ?_
      exact G_zret C hR dX8_isIn_20 (by decide) ⟨Option.some.inj hf, rfl⟩
theorem iu_X8_isBarred_X8 : ∀ w ∈ wsX80, w ∈ wsX8_isBarred := by decide +kernel
theorem lk_X8_isBarred_20 : Cond.fieldLink RX8 20 "PrizeDeskModel" "publisher" "[I" ∈ wsX8_isBarred := by decide +kernel
theorem lk_X8_isBarred_39 : Cond.fieldLink RX8 39 "PrizeDeskModel" "isFriend" "[Z" ∈ wsX8_isBarred := by decide +kernel
theorem lk_X8_isBarred_36 : Cond.fieldLink RX8 36 "PrizeDeskModel" "isKin" "[Z" ∈ wsX8_isBarred := by decide +kernel
abbrev rm_X8_isBarred : Room := { frames := 0, cells := 0, slots := 0, locals := 0 }
theorem sg_X8_isBarred : ZG yX8_isBarred wsX8_isBarred cX8_isBarred 3 (some .boolean) RX8 2 rm_X8_isBarred := ⟨⟨_, rfl⟩, by decide +kernel, rfl, rfl⟩
set_option maxHeartbeats 4000000 in
set_option maxRecDepth 100000 in
theorem c_X8_isBarred (ω : ZO) (N : Nat) (σ : ZS) (a1 : Int32) (a2 : Int32) : ZIp ω wM yX8_isBarred wsX8_isBarred rm_X8_isBarred [.ref (za ω 0), .int a1, .int a2] σ (f_X8_isBarred N σ a1 a2) := by
  intro r0 hf
  refine ZI.go (cc := cX8_isBarred) (maxL := 3) (ret := (some .boolean)) (own := RX8) (lv := [(0, .ref (za ω 0)), (1, .int a1), (2, .int a2)]) (by decide) rfl rfl (Nat.le_of_ble_eq_true rfl) rfl (fun κ C hR => ?_)
  unfold f_X8_isBarred at hf
  refine G_aload_n (pc' := 1) C dX8_isBarred_0 0 rfl rfl ?_
  refine G_get (pc' := 4) C wM_0 rfl 10 (by decide) rfl iu_X8_isBarred_X8 lk_X8_isBarred_36 dX8_isBarred_1 rfl ?_
  refine G_bipush (v := (24 : Int32)) (pc' := 6) C dX8_isBarred_4 (by decide) rfl ?_
  refine G_iload_n (pc' := 7) C dX8_isBarred_6 1 rfl rfl ?_
  refine G_imul (pc' := 8) C dX8_isBarred_7 rfl ?_
  refine G_iload_n (pc' := 9) C dX8_isBarred_8 2 rfl rfl ?_
  refine G_iadd (pc' := 10) C dX8_isBarred_9 rfl ?_
  refine G_zald (pc' := 11) C wM_9 dX8_isBarred_10 rfl hf (fun v1 hf => ?_)
  refine G_if_ne (tgt := 33) (pc' := 14) C dX8_isBarred_11 (by decide) rfl hf (fun hf => ?_) (fun hf => ?_)
  · refine G_aload_n (pc' := 15) C dX8_isBarred_14 0 rfl rfl ?_
    refine G_get (pc' := 18) C wM_0 rfl 11 (by decide) rfl iu_X8_isBarred_X8 lk_X8_isBarred_39 dX8_isBarred_15 rfl ?_
    refine G_bipush (v := (8 : Int32)) (pc' := 20) C dX8_isBarred_18 (by decide) rfl ?_
    refine G_iload_n (pc' := 21) C dX8_isBarred_20 1 rfl rfl ?_
    refine G_imul (pc' := 22) C dX8_isBarred_21 rfl ?_
    refine G_aload_n (pc' := 23) C dX8_isBarred_22 0 rfl rfl ?_
    refine G_get (pc' := 26) C wM_0 rfl 5 (by decide) rfl iu_X8_isBarred_X8 lk_X8_isBarred_20 dX8_isBarred_23 rfl ?_
    refine G_iload_n (pc' := 27) C dX8_isBarred_26 2 rfl rfl ?_
    refine G_iald (pc' := 28) C wM_4 dX8_isBarred_27 rfl hf (fun v2 hf => ?_)
    refine G_iadd (pc' := 29) C dX8_isBarred_28 rfl ?_
    refine G_zald (pc' := 30) C wM_10 dX8_isBarred_29 rfl hf (fun v3 hf => ?_)
    refine G_if_eq (tgt := 37) (pc' := 33) C dX8_isBarred_30 (by decide) rfl hf (fun hf => ?_) (fun hf => ?_)
    · refine G_iconst (v := (0 : Int32)) (pc' := 38) C dX8_isBarred_37 (by decide) rfl ?_
      exact G_zret C hR dX8_isBarred_38 (by decide) ⟨Option.some.inj hf, rfl⟩
    · refine G_iconst (v := (1 : Int32)) (pc' := 34) C dX8_isBarred_33 (by decide) rfl ?_
      refine G_goto (pc' := 38) C dX8_isBarred_34 (by decide) ?_
      exact G_zret C hR dX8_isBarred_38 (by decide) ⟨Option.some.inj hf, rfl⟩
  · refine G_iconst (v := (1 : Int32)) (pc' := 34) C dX8_isBarred_33 (by decide) rfl ?_
    refine G_goto (pc' := 38) C dX8_isBarred_34 (by decide) ?_
    exact G_zret C hR dX8_isBarred_38 (by decide) ⟨Option.some.inj hf, rfl⟩
abbrev rm_X8_judgesOutside : Room := { frames := 1, cells := 0, slots := 0, locals := 22 }
theorem sg_X8_judgesOutside : ZG yX8_judgesOutside wsX8_judgesOutside cX8_judgesOutside 5 (some .int) RX8 2 rm_X8_judgesOutside := ⟨⟨_, rfl⟩, by decide +kernel, rfl, rfl⟩
set_option maxHeartbeats 4000000 in
set_option maxRecDepth 100000 in
theorem w_X8_judgesOutside_5 {ω : ZO} {κ : ZK} {N : Nat} {σ : ZS} {b1 : Int32} {b2 : Int32} {K : Int32 → Int32 → Option (Int32)} {r0 : Int32} (C : CX ω wM κ cX8_judgesOutside wsX8_judgesOutside RX8 (some .int) 5 rm_X8_judgesOutside) (hR : zRI ω wM κ (fun v τ => v = r0 ∧ τ = σ)) (HK : ∀ (y3 : Int32) (y4 : Int32), K y3 y4 = some r0 → G ω wM κ 45 [(0, .ref (za ω 0)), (3, .int y3)] [] σ) : ∀ (n : Nat) (y3 : Int32) (y4 : Int32), L_X8_judgesOutside_5 N σ b1 b2 K n y3 y4 = some r0 → G ω wM κ 5 [(0, .ref (za ω 0)), (1, .int b1), (2, .int b2), (3, .int y3), (4, .int y4)] [] σ := by
  intro n
  induction n with
  | zero => intro  y3 y4 hf; exact absurd (show none = some r0 from hf) (fun h => nomatch h)
  | succ n ih =>
    intro y3 y4 hf
    have hf : B_X8_judgesOutside_5 N σ b1 b2 K (L_X8_judgesOutside_5 N σ b1 b2 K n) y3 y4 = some r0 := hf
    unfold B_X8_judgesOutside_5 at hf
    refine G_iload (pc' := 7) C dX8_judgesOutside_5 4 rfl rfl ?_
    refine G_bipush (v := (7 : Int32)) (pc' := 9) C dX8_judgesOutside_7 (by decide) rfl ?_
    refine G_icmp_ge (tgt := 45) (pc' := 12) C dX8_judgesOutside_9 (by decide) rfl hf (fun hf => ?_) (fun hf => ?_)
    · refine G_sub (lv' := [(0, .ref (za ω 0)), (3, .int y3)]) C [0, 3] rfl ?_
      exact HK y3 y4 hf
    · refine G_iload_n (pc' := 13) C dX8_judgesOutside_12 3 rfl rfl ?_
      refine G_iload_n (pc' := 14) C dX8_judgesOutside_13 2 rfl rfl ?_
      refine G_iload (pc' := 16) C dX8_judgesOutside_14 4 rfl rfl ?_
      refine G_ishr (pc' := 17) C dX8_judgesOutside_16 rfl ?_
      refine G_iconst (v := (1 : Int32)) (pc' := 18) C dX8_judgesOutside_17 (by decide) rfl ?_
      refine G_iand (pc' := 19) C dX8_judgesOutside_18 rfl ?_
      refine G_if_ne (tgt := 36) (pc' := 22) C dX8_judgesOutside_19 (by decide) rfl hf (fun hf => ?_) (fun hf => ?_)
      · refine G_aload_n (pc' := 23) C dX8_judgesOutside_22 0 rfl rfl ?_
        refine G_iload (pc' := 25) C dX8_judgesOutside_23 4 rfl rfl ?_
        refine G_iload_n (pc' := 26) C dX8_judgesOutside_25 1 rfl rfl ?_
        refine G_callVp (pc' := 29) C [.int y4, .int b1] (c_X8_isBarred ω N σ y4 b1) sg_X8_isBarred gX8_judgesOutside_X8_isBarred wM_0 rfl ⟨Nat.le_of_ble_eq_true rfl, Nat.le_of_ble_eq_true rfl⟩ rfl rfl (Nat.le_of_ble_eq_true rfl) dX8_judgesOutside_26 rfl hf (fun v1 hf => ?_)
        refine G_if_ne (tgt := 36) (pc' := 32) C dX8_judgesOutside_29 (by decide) rfl hf (fun hf => ?_) (fun hf => ?_)
        · refine G_iconst (v := (1 : Int32)) (pc' := 33) C dX8_judgesOutside_32 (by decide) rfl ?_
          refine G_goto (pc' := 37) C dX8_judgesOutside_33 (by decide) ?_
          refine G_iadd (pc' := 38) C dX8_judgesOutside_37 rfl ?_
          refine G_nm hf (fun x2 hf => ?_)
          refine G_istore_n (lv' := [(0, .ref (za ω 0)), (1, .int b1), (2, .int b2), (3, .int x2), (4, .int y4)]) (pc' := 39) C dX8_judgesOutside_38 (by decide) [1, 2, 3, 0, 4] rfl rfl ?_
          refine G_iincL (v := y4 + (1 : Int32)) (pc' := 42) C dX8_judgesOutside_39 4 rfl rfl (by decide) [1, 2, 3, 4, 0] (fun x3 => [(0, .ref (za ω 0)), (1, .int b1), (2, .int b2), (3, .int x2), (4, .int x3)]) (fun _ => rfl) rfl hf (fun x3 hf => ?_)
          refine G_goto (pc' := 5) C dX8_judgesOutside_42 (by decide) ?_
          exact ih x2 x3 hf
        · refine G_iconst (v := (0 : Int32)) (pc' := 37) C dX8_judgesOutside_36 (by decide) rfl ?_
          refine G_iadd (pc' := 38) C dX8_judgesOutside_37 rfl ?_
          refine G_nm hf (fun x4 hf => ?_)
          refine G_istore_n (lv' := [(0, .ref (za ω 0)), (1, .int b1), (2, .int b2), (3, .int x4), (4, .int y4)]) (pc' := 39) C dX8_judgesOutside_38 (by decide) [1, 2, 3, 0, 4] rfl rfl ?_
          refine G_iincL (v := y4 + (1 : Int32)) (pc' := 42) C dX8_judgesOutside_39 4 rfl rfl (by decide) [1, 2, 3, 4, 0] (fun x5 => [(0, .ref (za ω 0)), (1, .int b1), (2, .int b2), (3, .int x4), (4, .int x5)]) (fun _ => rfl) rfl hf (fun x5 hf => ?_)
          refine G_goto (pc' := 5) C dX8_judgesOutside_42 (by decide) ?_
          exact ih x4 x5 hf
      · refine G_iconst (v := (0 : Int32)) (pc' := 37) C dX8_judgesOutside_36 (by decide) rfl ?_
        refine G_iadd (pc' := 38) C dX8_judgesOutside_37 rfl ?_
        refine G_nm hf (fun x6 hf => ?_)
        refine G_istore_n (lv' := [(0, .ref (za ω 0)), (1, .int b1), (2, .int b2), (3, .int x6), (4, .int y4)]) (pc' := 39) C dX8_judgesOutside_38 (by decide) [1, 2, 3, 0, 4] rfl rfl ?_
        refine G_iincL (v := y4 + (1 : Int32)) (pc' := 42) C dX8_judgesOutside_39 4 rfl rfl (by decide) [1, 2, 3, 4, 0] (fun x7 => [(0, .ref (za ω 0)), (1, .int b1), (2, .int b2), (3, .int x6), (4, .int x7)]) (fun _ => rfl) rfl hf (fun x7 hf => ?_)
        refine G_goto (pc' := 5) C dX8_judgesOutside_42 (by decide) ?_
        exact ih x6 x7 hf
set_option maxHeartbeats 4000000 in
set_option maxRecDepth 100000 in
theorem c_X8_judgesOutside (ω : ZO) (N : Nat) (σ : ZS) (a1 : Int32) (a2 : Int32) : ZIp ω wM yX8_judgesOutside wsX8_judgesOutside rm_X8_judgesOutside [.ref (za ω 0), .int a1, .int a2] σ (f_X8_judgesOutside N σ a1 a2) := by
  intro r0 hf
  refine ZI.go (cc := cX8_judgesOutside) (maxL := 5) (ret := (some .int)) (own := RX8) (lv := [(0, .ref (za ω 0)), (1, .int a1), (2, .int a2)]) (by decide) rfl rfl (Nat.le_of_ble_eq_true rfl) rfl (fun κ C hR => ?_)
  unfold f_X8_judgesOutside at hf
  refine G_iconst (v := (0 : Int32)) (pc' := 1) C dX8_judgesOutside_0 (by decide) rfl ?_
  refine G_istore_n (lv' := [(0, .ref (za ω 0)), (1, .int a1), (2, .int a2), (3, .int (0 : Int32))]) (pc' := 2) C dX8_judgesOutside_1 (by decide) [1, 2, 3, 0] rfl rfl ?_
  refine G_iconst (v := (0 : Int32)) (pc' := 3) C dX8_judgesOutside_2 (by decide) rfl ?_
  refine G_istore (lv' := [(0, .ref (za ω 0)), (1, .int a1), (2, .int a2), (3, .int (0 : Int32)), (4, .int (0 : Int32))]) (pc' := 5) C dX8_judgesOutside_3 (by decide) [1, 2, 3, 4, 0] rfl rfl ?_
  refine w_X8_judgesOutside_5 C hR (fun y8 y9 hf => ?_) N (0 : Int32) (0 : Int32) hf
  refine G_iload_n (pc' := 46) C dX8_judgesOutside_45 1 rfl rfl ?_
  exact G_iret C hR dX8_judgesOutside_46 ⟨Option.some.inj hf, rfl⟩
abbrev rm_X8_bits : Room := { frames := 0, cells := 0, slots := 0, locals := 0 }
theorem sg_X8_bits : ZG yX8_bits wsX8_bits cX8_bits 3 (some .int) RX8 1 rm_X8_bits := ⟨⟨_, rfl⟩, by decide +kernel, rfl, rfl⟩
set_option maxHeartbeats 4000000 in
set_option maxRecDepth 100000 in
theorem w_X8_bits_4 {ω : ZO} {κ : ZK} {N : Nat} {σ : ZS} {b0 : Int32} {K : Int32 → Int32 → Option (Int32)} {r0 : Int32} (C : CX ω wM κ cX8_bits wsX8_bits RX8 (some .int) 3 rm_X8_bits) (hR : zRI ω wM κ (fun v τ => v = r0 ∧ τ = σ)) (HK : ∀ (y1 : Int32) (y2 : Int32), K y1 y2 = some r0 → G ω wM κ 24 [(1, .int y1)] [] σ) : ∀ (n : Nat) (y1 : Int32) (y2 : Int32), L_X8_bits_4 N σ b0 K n y1 y2 = some r0 → G ω wM κ 4 [(0, .int b0), (1, .int y1), (2, .int y2)] [] σ := by
  intro n
  induction n with
  | zero => intro  y1 y2 hf; exact absurd (show none = some r0 from hf) (fun h => nomatch h)
  | succ n ih =>
    intro y1 y2 hf
    have hf : B_X8_bits_4 N σ b0 K (L_X8_bits_4 N σ b0 K n) y1 y2 = some r0 := hf
    unfold B_X8_bits_4 at hf
    refine G_iload_n (pc' := 5) C dX8_bits_4 2 rfl rfl ?_
    refine G_bipush (v := (7 : Int32)) (pc' := 7) C dX8_bits_5 (by decide) rfl ?_
    refine G_icmp_ge (tgt := 24) (pc' := 10) C dX8_bits_7 (by decide) rfl hf (fun hf => ?_) (fun hf => ?_)
    · refine G_sub (lv' := [(1, .int y1)]) C [1] rfl ?_
      exact HK y1 y2 hf
    · refine G_iload_n (pc' := 11) C dX8_bits_10 1 rfl rfl ?_
      refine G_iload_n (pc' := 12) C dX8_bits_11 0 rfl rfl ?_
      refine G_iload_n (pc' := 13) C dX8_bits_12 2 rfl rfl ?_
      refine G_ishr (pc' := 14) C dX8_bits_13 rfl ?_
      refine G_iconst (v := (1 : Int32)) (pc' := 15) C dX8_bits_14 (by decide) rfl ?_
      refine G_iand (pc' := 16) C dX8_bits_15 rfl ?_
      refine G_iadd (pc' := 17) C dX8_bits_16 rfl ?_
      refine G_nm hf (fun x1 hf => ?_)
      refine G_istore_n (lv' := [(0, .int b0), (1, .int x1), (2, .int y2)]) (pc' := 18) C dX8_bits_17 (by decide) [1, 0, 2] rfl rfl ?_
      refine G_iincL (v := y2 + (1 : Int32)) (pc' := 21) C dX8_bits_18 2 rfl rfl (by decide) [1, 2, 0] (fun x2 => [(0, .int b0), (1, .int x1), (2, .int x2)]) (fun _ => rfl) rfl hf (fun x2 hf => ?_)
      refine G_goto (pc' := 4) C dX8_bits_21 (by decide) ?_
      exact ih x1 x2 hf
set_option maxHeartbeats 4000000 in
set_option maxRecDepth 100000 in
theorem c_X8_bits (ω : ZO) (N : Nat) (σ : ZS) (a0 : Int32) : ZIp ω wM yX8_bits wsX8_bits rm_X8_bits [.int a0] σ (f_X8_bits N σ a0) := by
  intro r0 hf
  refine ZI.go (cc := cX8_bits) (maxL := 3) (ret := (some .int)) (own := RX8) (lv := [(0, .int a0)]) (by decide) rfl rfl (Nat.le_of_ble_eq_true rfl) rfl (fun κ C hR => ?_)
  unfold f_X8_bits at hf
  refine G_iconst (v := (0 : Int32)) (pc' := 1) C dX8_bits_0 (by decide) rfl ?_
  refine G_istore_n (lv' := [(0, .int a0), (1, .int (0 : Int32))]) (pc' := 2) C dX8_bits_1 (by decide) [1, 0] rfl rfl ?_
  refine G_iconst (v := (0 : Int32)) (pc' := 3) C dX8_bits_2 (by decide) rfl ?_
  refine G_istore_n (lv' := [(0, .int a0), (1, .int (0 : Int32)), (2, .int (0 : Int32))]) (pc' := 4) C dX8_bits_3 (by decide) [1, 2, 0] rfl rfl ?_
  refine w_X8_bits_4 C hR (fun y3 y4 hf => ?_) N (0 : Int32) (0 : Int32) hf
  refine G_iload_n (pc' := 25) C dX8_bits_24 0 rfl rfl ?_
  exact G_iret C hR dX8_bits_25 ⟨Option.some.inj hf, rfl⟩
theorem iu_X8_load_X8 : ∀ w ∈ wsX80, w ∈ wsX8_load := by decide +kernel
theorem lk_X8_load_13 : Cond.fieldLink RX8 13 "PrizeDeskModel" "rule" "[I" ∈ wsX8_load := by decide +kernel
theorem lk_X8_load_113 : Cond.fieldLink RX8 113 "PrizeDeskModel" "books" "I" ∈ wsX8_load := by decide +kernel
abbrev rm_X8_load : Room := { frames := 2, cells := 0, slots := 0, locals := 46 }
theorem sg_X8_load : ZG yX8_load wsX8_load cX8_load 6 (some .int) RX8 0 rm_X8_load := ⟨⟨_, rfl⟩, by decide +kernel, rfl, rfl⟩
set_option maxHeartbeats 4000000 in
set_option maxRecDepth 100000 in
theorem w_X8_load_16 {ω : ZO} {κ : ZK} {N : Nat} {σ : ZS} {b1 : Int32} {b2 : Int32} {K : Int32 → Int32 → Option (Int32)} {r0 : Int32} (C : CX ω wM κ cX8_load wsX8_load RX8 (some .int) 6 rm_X8_load) (hR : zRI ω wM κ (fun v τ => v = r0 ∧ τ = σ)) (HK : ∀ (y3 : Int32) (y4 : Int32), K y3 y4 = some r0 → G ω wM κ 79 [(0, .ref (za ω 0)), (1, .int b1), (2, .int b2), (3, .int y3)] [] σ) : ∀ (n : Nat) (y3 : Int32) (y4 : Int32), L_X8_load_16 N σ b1 b2 K n y3 y4 = some r0 → G ω wM κ 16 [(0, .ref (za ω 0)), (1, .int b1), (2, .int b2), (3, .int y3), (4, .int y4)] [] σ := by
  intro n
  induction n with
  | zero => intro  y3 y4 hf; exact absurd (show none = some r0 from hf) (fun h => nomatch h)
  | succ n ih =>
    intro y3 y4 hf
    have hf : B_X8_load_16 N σ b1 b2 K (L_X8_load_16 N σ b1 b2 K n) y3 y4 = some r0 := hf
    unfold B_X8_load_16 at hf
    refine G_iload (pc' := 18) C dX8_load_16 4 rfl rfl ?_
    refine G_aload_n (pc' := 19) C dX8_load_18 0 rfl rfl ?_
    refine G_get (pc' := 22) C wM_0 rfl 4 (by decide) rfl iu_X8_load_X8 lk_X8_load_113 dX8_load_19 rfl ?_
    refine G_icmp_ge (tgt := 79) (pc' := 25) C dX8_load_22 (by decide) rfl hf (fun hf => ?_) (fun hf => ?_)
    · refine G_sub (lv' := [(0, .ref (za ω 0)), (1, .int b1), (2, .int b2), (3, .int y3)]) C [0, 1, 2, 3] rfl ?_
      exact HK y3 y4 hf
    · refine G_aload_n (pc' := 26) C dX8_load_25 0 rfl rfl ?_
      refine G_iload (pc' := 28) C dX8_load_26 4 rfl rfl ?_
      refine G_callVp (pc' := 31) C [.int y4] (c_X8_isIn ω N σ y4) sg_X8_isIn gX8_load_X8_isIn wM_0 rfl ⟨Nat.le_of_ble_eq_true rfl, Nat.le_of_ble_eq_true rfl⟩ rfl rfl (Nat.le_of_ble_eq_true rfl) dX8_load_28 rfl hf (fun v1 hf => ?_)
      refine G_if_ne (tgt := 37) (pc' := 34) C dX8_load_31 (by decide) rfl hf (fun hf => ?_) (fun hf => ?_)
      · refine G_goto (pc' := 73) C dX8_load_34 (by decide) ?_
        refine G_iincL (v := y4 + (1 : Int32)) (pc' := 76) C dX8_load_73 4 rfl rfl (by decide) [1, 2, 3, 4, 0] (fun x2 => [(0, .ref (za ω 0)), (1, .int b1), (2, .int b2), (3, .int y3), (4, .int x2)]) (fun _ => rfl) rfl hf (fun x2 hf => ?_)
        refine G_goto (pc' := 16) C dX8_load_76 (by decide) ?_
        exact ih y3 x2 hf
      · refine G_aload_n (pc' := 38) C dX8_load_37 0 rfl rfl ?_
        refine G_iload (pc' := 40) C dX8_load_38 4 rfl rfl ?_
        refine G_iload_n (pc' := 41) C dX8_load_40 2 rfl rfl ?_
        refine G_callVp (pc' := 44) C [.int y4, .int b2] (c_X8_judgesOutside ω N σ y4 b2) sg_X8_judgesOutside gX8_load_X8_judgesOutside wM_0 rfl ⟨Nat.le_of_ble_eq_true rfl, Nat.le_of_ble_eq_true rfl⟩ rfl rfl (Nat.le_of_ble_eq_true rfl) dX8_load_41 rfl hf (fun v3 hf => ?_)
        refine G_istore (lv' := [(0, .ref (za ω 0)), (1, .int b1), (2, .int b2), (3, .int y3), (4, .int y4), (5, .int v3)]) (pc' := 46) C dX8_load_44 (by decide) [1, 2, 3, 4, 5, 0] rfl rfl ?_
        refine G_iload_n (pc' := 47) C dX8_load_46 3 rfl rfl ?_
        refine G_iload (pc' := 49) C dX8_load_47 5 rfl rfl ?_
        refine G_aload_n (pc' := 50) C dX8_load_49 0 rfl rfl ?_
        refine G_get (pc' := 53) C wM_0 rfl 2 (by decide) rfl iu_X8_load_X8 lk_X8_load_13 dX8_load_50 rfl ?_
        refine G_iconst (v := (5 : Int32)) (pc' := 54) C dX8_load_53 (by decide) rfl ?_
        refine G_iald (pc' := 55) C wM_2 dX8_load_54 rfl hf (fun v4 hf => ?_)
        refine G_icmp_ge (tgt := 70) (pc' := 58) C dX8_load_55 (by decide) rfl hf (fun hf => ?_) (fun hf => ?_)
        · refine G_iconst (v := (0 : Int32)) (pc' := 71) C dX8_load_70 (by decide) rfl ?_
          refine G_iadd (pc' := 72) C dX8_load_71 rfl ?_
          refine G_nm hf (fun x5 hf => ?_)
          refine G_istore_n (lv' := [(0, .ref (za ω 0)), (1, .int b1), (2, .int b2), (3, .int x5), (4, .int y4)]) (pc' := 73) C dX8_load_72 (by decide) [1, 2, 3, 0, 4] rfl rfl ?_
          refine G_iincL (v := y4 + (1 : Int32)) (pc' := 76) C dX8_load_73 4 rfl rfl (by decide) [1, 2, 3, 4, 0] (fun x6 => [(0, .ref (za ω 0)), (1, .int b1), (2, .int b2), (3, .int x5), (4, .int x6)]) (fun _ => rfl) rfl hf (fun x6 hf => ?_)
          refine G_goto (pc' := 16) C dX8_load_76 (by decide) ?_
          exact ih x5 x6 hf
        · refine G_aload_n (pc' := 59) C dX8_load_58 0 rfl rfl ?_
          refine G_get (pc' := 62) C wM_0 rfl 2 (by decide) rfl iu_X8_load_X8 lk_X8_load_13 dX8_load_59 rfl ?_
          refine G_iconst (v := (5 : Int32)) (pc' := 63) C dX8_load_62 (by decide) rfl ?_
          refine G_iald (pc' := 64) C wM_2 dX8_load_63 rfl hf (fun v7 hf => ?_)
          refine G_iload (pc' := 66) C dX8_load_64 5 rfl rfl ?_
          refine G_isub (pc' := 67) C dX8_load_66 rfl ?_
          refine G_goto (pc' := 71) C dX8_load_67 (by decide) ?_
          refine G_iadd (pc' := 72) C dX8_load_71 rfl ?_
          refine G_nm hf (fun x8 hf => ?_)
          refine G_istore_n (lv' := [(0, .ref (za ω 0)), (1, .int b1), (2, .int b2), (3, .int x8), (4, .int y4)]) (pc' := 73) C dX8_load_72 (by decide) [1, 2, 3, 0, 4] rfl rfl ?_
          refine G_iincL (v := y4 + (1 : Int32)) (pc' := 76) C dX8_load_73 4 rfl rfl (by decide) [1, 2, 3, 4, 0] (fun x9 => [(0, .ref (za ω 0)), (1, .int b1), (2, .int b2), (3, .int x8), (4, .int x9)]) (fun _ => rfl) rfl hf (fun x9 hf => ?_)
          refine G_goto (pc' := 16) C dX8_load_76 (by decide) ?_
          exact ih x8 x9 hf
set_option maxHeartbeats 4000000 in
set_option maxRecDepth 100000 in
theorem w_X8_load_4 {ω : ZO} {κ : ZK} {N : Nat} {σ : ZS} {K : Int32 → Int32 → Option (Int32)} {r0 : Int32} (C : CX ω wM κ cX8_load wsX8_load RX8 (some .int) 6 rm_X8_load) (hR : zRI ω wM κ (fun v τ => v = r0 ∧ τ = σ)) (HK : ∀ (y1 : Int32) (y2 : Int32), K y1 y2 = some r0 → G ω wM κ 131 [(0, .ref (za ω 0)), (1, .int y1)] [] σ) : ∀ (n : Nat) (y1 : Int32) (y2 : Int32), L_X8_load_4 N σ K n y1 y2 = some r0 → G ω wM κ 4 [(0, .ref (za ω 0)), (1, .int y1), (2, .int y2)] [] σ := by
  intro n
  induction n with
  | zero => intro  y1 y2 hf; exact absurd (show none = some r0 from hf) (fun h => nomatch h)
  | succ n ih =>
    intro y1 y2 hf
    have hf : B_X8_load_4 N σ K (L_X8_load_4 N σ K n) y1 y2 = some r0 := hf
    unfold B_X8_load_4 at hf
    refine G_iload_n (pc' := 5) C dX8_load_4 2 rfl rfl ?_
    refine G_sipush (v := (128 : Int32)) (pc' := 8) C dX8_load_5 (by decide) rfl ?_
    refine G_icmp_ge (tgt := 131) (pc' := 11) C dX8_load_8 (by decide) rfl hf (fun hf => ?_) (fun hf => ?_)
    · refine G_sub (lv' := [(0, .ref (za ω 0)), (1, .int y1)]) C [0, 1] rfl ?_
      exact HK y1 y2 hf
    · refine G_iconst (v := (0 : Int32)) (pc' := 12) C dX8_load_11 (by decide) rfl ?_
      refine G_istore_n (lv' := [(0, .ref (za ω 0)), (1, .int y1), (2, .int y2), (3, .int (0 : Int32))]) (pc' := 13) C dX8_load_12 (by decide) [1, 2, 3, 0] rfl rfl ?_
      refine G_iconst (v := (0 : Int32)) (pc' := 14) C dX8_load_13 (by decide) rfl ?_
      refine G_istore (lv' := [(0, .ref (za ω 0)), (1, .int y1), (2, .int y2), (3, .int (0 : Int32)), (4, .int (0 : Int32))]) (pc' := 16) C dX8_load_14 (by decide) [1, 2, 3, 4, 0] rfl rfl ?_
      refine w_X8_load_16 C hR (fun y10 y11 hf => ?_) N (0 : Int32) (0 : Int32) hf
      refine G_iload_n (pc' := 80) C dX8_load_79 2 rfl rfl ?_
      refine G_callSp (pc' := 83) C [.int y2] (c_X8_bits ω N σ y2) sg_X8_bits gX8_load_X8_bits ⟨Nat.le_of_ble_eq_true rfl, Nat.le_of_ble_eq_true rfl⟩ rfl rfl (Nat.le_of_ble_eq_true rfl) dX8_load_80 rfl hf (fun v12 hf => ?_)
      refine G_istore (lv' := [(0, .ref (za ω 0)), (1, .int y1), (2, .int y2), (3, .int y10), (4, .int v12)]) (pc' := 85) C dX8_load_83 (by decide) [1, 2, 3, 4, 0] rfl rfl ?_
      refine G_iload (pc' := 87) C dX8_load_85 4 rfl rfl ?_
      refine G_if_ne (tgt := 96) (pc' := 90) C dX8_load_87 (by decide) rfl hf (fun hf => ?_) (fun hf => ?_)
      · refine G_iload_n (pc' := 91) C dX8_load_90 3 rfl rfl ?_
        refine G_if_le (tgt := 96) (pc' := 94) C dX8_load_91 (by decide) rfl hf (fun hf => ?_) (fun hf => ?_)
        · refine G_iload (pc' := 98) C dX8_load_96 4 rfl rfl ?_
          refine G_if_ne (tgt := 105) (pc' := 101) C dX8_load_98 (by decide) rfl hf (fun hf => ?_) (fun hf => ?_)
          · refine G_iconst (v := (0 : Int32)) (pc' := 102) C dX8_load_101 (by decide) rfl ?_
            refine G_goto (pc' := 114) C dX8_load_102 (by decide) ?_
            refine G_istore (lv' := [(0, .ref (za ω 0)), (1, .int y1), (2, .int y2), (5, .int (0 : Int32))]) (pc' := 116) C dX8_load_114 (by decide) [1, 2, 3, 0] rfl rfl ?_
            refine G_iload (pc' := 118) C dX8_load_116 3 rfl rfl ?_
            refine G_iload_n (pc' := 119) C dX8_load_118 1 rfl rfl ?_
            refine G_icmp_le (tgt := 125) (pc' := 122) C dX8_load_119 (by decide) rfl hf (fun hf => ?_) (fun hf => ?_)
            · refine G_iincL (v := y2 + (1 : Int32)) (pc' := 128) C dX8_load_125 2 rfl rfl (by decide) [1, 2, 0] (fun x13 => [(0, .ref (za ω 0)), (1, .int y1), (2, .int x13)]) (fun _ => rfl) rfl hf (fun x13 hf => ?_)
              refine G_goto (pc' := 4) C dX8_load_128 (by decide) ?_
              exact ih y1 x13 hf
            · refine G_iload (pc' := 124) C dX8_load_122 3 rfl rfl ?_
              refine G_istore_n (lv' := [(0, .ref (za ω 0)), (1, .int (0 : Int32)), (2, .int y2)]) (pc' := 125) C dX8_load_124 (by decide) [1, 0, 2] rfl rfl ?_
              refine G_iincL (v := y2 + (1 : Int32)) (pc' := 128) C dX8_load_125 2 rfl rfl (by decide) [1, 2, 0] (fun x14 => [(0, .ref (za ω 0)), (1, .int (0 : Int32)), (2, .int x14)]) (fun _ => rfl) rfl hf (fun x14 hf => ?_)
              refine G_goto (pc' := 4) C dX8_load_128 (by decide) ?_
              exact ih (0 : Int32) x14 hf
          · refine G_iload_n (pc' := 106) C dX8_load_105 3 rfl rfl ?_
            refine G_iload (pc' := 108) C dX8_load_106 4 rfl rfl ?_
            refine G_iadd (pc' := 109) C dX8_load_108 rfl ?_
            refine G_iconst (v := (1 : Int32)) (pc' := 110) C dX8_load_109 (by decide) rfl ?_
            refine G_isub (pc' := 111) C dX8_load_110 rfl ?_
            refine G_iload (pc' := 113) C dX8_load_111 4 rfl rfl ?_
            refine G_idiv (pc' := 114) C dX8_load_113 rfl hf (fun hf => ?_)
            refine G_nm hf (fun x15 hf => ?_)
            refine G_istore (lv' := [(0, .ref (za ω 0)), (1, .int y1), (2, .int y2), (5, .int x15)]) (pc' := 116) C dX8_load_114 (by decide) [1, 2, 3, 0] rfl rfl ?_
            refine G_iload (pc' := 118) C dX8_load_116 3 rfl rfl ?_
            refine G_iload_n (pc' := 119) C dX8_load_118 1 rfl rfl ?_
            refine G_icmp_le (tgt := 125) (pc' := 122) C dX8_load_119 (by decide) rfl hf (fun hf => ?_) (fun hf => ?_)
            · refine G_iincL (v := y2 + (1 : Int32)) (pc' := 128) C dX8_load_125 2 rfl rfl (by decide) [1, 2, 0] (fun x16 => [(0, .ref (za ω 0)), (1, .int y1), (2, .int x16)]) (fun _ => rfl) rfl hf (fun x16 hf => ?_)
              refine G_goto (pc' := 4) C dX8_load_128 (by decide) ?_
              exact ih y1 x16 hf
            · refine G_iload (pc' := 124) C dX8_load_122 3 rfl rfl ?_
              refine G_istore_n (lv' := [(0, .ref (za ω 0)), (1, .int x15), (2, .int y2)]) (pc' := 125) C dX8_load_124 (by decide) [1, 0, 2] rfl rfl ?_
              refine G_iincL (v := y2 + (1 : Int32)) (pc' := 128) C dX8_load_125 2 rfl rfl (by decide) [1, 2, 0] (fun x17 => [(0, .ref (za ω 0)), (1, .int x15), (2, .int x17)]) (fun _ => rfl) rfl hf (fun x17 hf => ?_)
              refine G_goto (pc' := 4) C dX8_load_128 (by decide) ?_
              exact ih x15 x17 hf
        · refine G_iconst (v := (-1 : Int32)) (pc' := 95) C dX8_load_94 (by decide) rfl ?_
          exact G_iret C hR dX8_load_95 ⟨Option.some.inj hf, rfl⟩
      · refine G_iload (pc' := 98) C dX8_load_96 4 rfl rfl ?_
        refine G_if_ne (tgt := 105) (pc' := 101) C dX8_load_98 (by decide) rfl hf (fun hf => ?_) (fun hf => ?_)
        · refine G_iconst (v := (0 : Int32)) (pc' := 102) C dX8_load_101 (by decide) rfl ?_
          refine G_goto (pc' := 114) C dX8_load_102 (by decide) ?_
          refine G_istore (lv' := [(0, .ref (za ω 0)), (1, .int y1), (2, .int y2), (5, .int (0 : Int32))]) (pc' := 116) C dX8_load_114 (by decide) [1, 2, 3, 0] rfl rfl ?_
          refine G_iload (pc' := 118) C dX8_load_116 3 rfl rfl ?_
          refine G_iload_n (pc' := 119) C dX8_load_118 1 rfl rfl ?_
          refine G_icmp_le (tgt := 125) (pc' := 122) C dX8_load_119 (by decide) rfl hf (fun hf => ?_) (fun hf => ?_)
          · refine G_iincL (v := y2 + (1 : Int32)) (pc' := 128) C dX8_load_125 2 rfl rfl (by decide) [1, 2, 0] (fun x18 => [(0, .ref (za ω 0)), (1, .int y1), (2, .int x18)]) (fun _ => rfl) rfl hf (fun x18 hf => ?_)
            refine G_goto (pc' := 4) C dX8_load_128 (by decide) ?_
            exact ih y1 x18 hf
          · refine G_iload (pc' := 124) C dX8_load_122 3 rfl rfl ?_
            refine G_istore_n (lv' := [(0, .ref (za ω 0)), (1, .int (0 : Int32)), (2, .int y2)]) (pc' := 125) C dX8_load_124 (by decide) [1, 0, 2] rfl rfl ?_
            refine G_iincL (v := y2 + (1 : Int32)) (pc' := 128) C dX8_load_125 2 rfl rfl (by decide) [1, 2, 0] (fun x19 => [(0, .ref (za ω 0)), (1, .int (0 : Int32)), (2, .int x19)]) (fun _ => rfl) rfl hf (fun x19 hf => ?_)
            refine G_goto (pc' := 4) C dX8_load_128 (by decide) ?_
            exact ih (0 : Int32) x19 hf
        · refine G_iload_n (pc' := 106) C dX8_load_105 3 rfl rfl ?_
          refine G_iload (pc' := 108) C dX8_load_106 4 rfl rfl ?_
          refine G_iadd (pc' := 109) C dX8_load_108 rfl ?_
          refine G_iconst (v := (1 : Int32)) (pc' := 110) C dX8_load_109 (by decide) rfl ?_
          refine G_isub (pc' := 111) C dX8_load_110 rfl ?_
          refine G_iload (pc' := 113) C dX8_load_111 4 rfl rfl ?_
          refine G_idiv (pc' := 114) C dX8_load_113 rfl hf (fun hf => ?_)
          refine G_nm hf (fun x20 hf => ?_)
          refine G_istore (lv' := [(0, .ref (za ω 0)), (1, .int y1), (2, .int y2), (5, .int x20)]) (pc' := 116) C dX8_load_114 (by decide) [1, 2, 3, 0] rfl rfl ?_
          refine G_iload (pc' := 118) C dX8_load_116 3 rfl rfl ?_
          refine G_iload_n (pc' := 119) C dX8_load_118 1 rfl rfl ?_
          refine G_icmp_le (tgt := 125) (pc' := 122) C dX8_load_119 (by decide) rfl hf (fun hf => ?_) (fun hf => ?_)
          · refine G_iincL (v := y2 + (1 : Int32)) (pc' := 128) C dX8_load_125 2 rfl rfl (by decide) [1, 2, 0] (fun x21 => [(0, .ref (za ω 0)), (1, .int y1), (2, .int x21)]) (fun _ => rfl) rfl hf (fun x21 hf => ?_)
            refine G_goto (pc' := 4) C dX8_load_128 (by decide) ?_
            exact ih y1 x21 hf
          · refine G_iload (pc' := 124) C dX8_load_122 3 rfl rfl ?_
            refine G_istore_n (lv' := [(0, .ref (za ω 0)), (1, .int x20), (2, .int y2)]) (pc' := 125) C dX8_load_124 (by decide) [1, 0, 2] rfl rfl ?_
            refine G_iincL (v := y2 + (1 : Int32)) (pc' := 128) C dX8_load_125 2 rfl rfl (by decide) [1, 2, 0] (fun x22 => [(0, .ref (za ω 0)), (1, .int x20), (2, .int x22)]) (fun _ => rfl) rfl hf (fun x22 hf => ?_)
            refine G_goto (pc' := 4) C dX8_load_128 (by decide) ?_
            exact ih x20 x22 hf
set_option maxHeartbeats 4000000 in
set_option maxRecDepth 100000 in
theorem c_X8_load (ω : ZO) (N : Nat) (σ : ZS) : ZIp ω wM yX8_load wsX8_load rm_X8_load [.ref (za ω 0)] σ (f_X8_load N σ) := by
  intro r0 hf
  refine ZI.go (cc := cX8_load) (maxL := 6) (ret := (some .int)) (own := RX8) (lv := [(0, .ref (za ω 0))]) (by decide) rfl rfl (Nat.le_of_ble_eq_true rfl) rfl (fun κ C hR => ?_)
  unfold f_X8_load at hf
  refine G_iconst (v := (0 : Int32)) (pc' := 1) C dX8_load_0 (by decide) rfl ?_
  refine G_istore_n (lv' := [(0, .ref (za ω 0)), (1, .int (0 : Int32))]) (pc' := 2) C dX8_load_1 (by decide) [1, 0] rfl rfl ?_
  refine G_iconst (v := (0 : Int32)) (pc' := 3) C dX8_load_2 (by decide) rfl ?_
  refine G_istore_n (lv' := [(0, .ref (za ω 0)), (1, .int (0 : Int32)), (2, .int (0 : Int32))]) (pc' := 4) C dX8_load_3 (by decide) [1, 2, 0] rfl rfl ?_
  refine w_X8_load_4 C hR (fun y23 y24 hf => ?_) N (0 : Int32) (0 : Int32) hf
  refine G_iload_n (pc' := 132) C dX8_load_131 1 rfl rfl ?_
  exact G_iret C hR dX8_load_132 ⟨Option.some.inj hf, rfl⟩
theorem iu_X8_mark_X8 : ∀ w ∈ wsX80, w ∈ wsX8_mark := by decide +kernel
theorem lk_X8_mark_42 : Cond.fieldLink RX8 42 "PrizeDeskModel" "mark" "[I" ∈ wsX8_mark := by decide +kernel
abbrev rm_X8_mark : Room := { frames := 1, cells := 0, slots := 0, locals := 22 }
theorem sg_X8_mark : ZG yX8_mark wsX8_mark cX8_mark 4 (some .boolean) RX8 3 rm_X8_mark := ⟨⟨_, rfl⟩, by decide +kernel, rfl, rfl⟩
set_option maxHeartbeats 4000000 in
set_option maxRecDepth 100000 in
theorem c_X8_mark (ω : ZO) (N : Nat) (σ : ZS) (a1 : Int32) (a2 : Int32) (a3 : Int32) : ZIs ω wM yX8_mark wsX8_mark rm_X8_mark [.ref (za ω 0), .int a1, .int a2, .int a3] σ (f_X8_mark N σ a1 a2 a3) := by
  intro r0 hf
  refine ZI.go (cc := cX8_mark) (maxL := 4) (ret := (some .boolean)) (own := RX8) (lv := [(0, .ref (za ω 0)), (1, .int a1), (2, .int a2), (3, .int a3)]) (by decide) rfl rfl (Nat.le_of_ble_eq_true rfl) rfl (fun κ C hR => ?_)
  unfold f_X8_mark at hf
  refine G_iload_n (pc' := 1) C dX8_mark_0 1 rfl rfl ?_
  refine G_callSp (pc' := 4) C [.int a1] (c_X8_isJudge ω N σ a1) sg_X8_isJudge gX8_mark_X8_isJudge ⟨Nat.le_of_ble_eq_true rfl, Nat.le_of_ble_eq_true rfl⟩ rfl rfl (Nat.le_of_ble_eq_true rfl) dX8_mark_1 rfl hf (fun v1 hf => ?_)
  refine G_if_eq (tgt := 34) (pc' := 7) C dX8_mark_4 (by decide) rfl hf (fun hf => ?_) (fun hf => ?_)
  · refine G_iconst (v := (0 : Int32)) (pc' := 35) C dX8_mark_34 (by decide) rfl ?_
    exact G_zret C hR dX8_mark_35 (by decide) (Option.some.inj hf)
  · refine G_aload_n (pc' := 8) C dX8_mark_7 0 rfl rfl ?_
    refine G_iload_n (pc' := 9) C dX8_mark_8 2 rfl rfl ?_
    refine G_callVp (pc' := 12) C [.int a2] (c_X8_isBook ω N σ a2) sg_X8_isBook gX8_mark_X8_isBook wM_0 rfl ⟨Nat.le_of_ble_eq_true rfl, Nat.le_of_ble_eq_true rfl⟩ rfl rfl (Nat.le_of_ble_eq_true rfl) dX8_mark_9 rfl hf (fun v2 hf => ?_)
    refine G_if_eq (tgt := 34) (pc' := 15) C dX8_mark_12 (by decide) rfl hf (fun hf => ?_) (fun hf => ?_)
    · refine G_iconst (v := (0 : Int32)) (pc' := 35) C dX8_mark_34 (by decide) rfl ?_
      exact G_zret C hR dX8_mark_35 (by decide) (Option.some.inj hf)
    · refine G_iload_n (pc' := 16) C dX8_mark_15 3 rfl rfl ?_
      refine G_if_lt (tgt := 34) (pc' := 19) C dX8_mark_16 (by decide) rfl hf (fun hf => ?_) (fun hf => ?_)
      · refine G_iconst (v := (0 : Int32)) (pc' := 35) C dX8_mark_34 (by decide) rfl ?_
        exact G_zret C hR dX8_mark_35 (by decide) (Option.some.inj hf)
      · refine G_iload_n (pc' := 20) C dX8_mark_19 3 rfl rfl ?_
        refine G_bipush (v := (100 : Int32)) (pc' := 22) C dX8_mark_20 (by decide) rfl ?_
        refine G_icmp_gt (tgt := 34) (pc' := 25) C dX8_mark_22 (by decide) rfl hf (fun hf => ?_) (fun hf => ?_)
        · refine G_iconst (v := (0 : Int32)) (pc' := 35) C dX8_mark_34 (by decide) rfl ?_
          exact G_zret C hR dX8_mark_35 (by decide) (Option.some.inj hf)
        · refine G_aload_n (pc' := 26) C dX8_mark_25 0 rfl rfl ?_
          refine G_iload_n (pc' := 27) C dX8_mark_26 1 rfl rfl ?_
          refine G_iload_n (pc' := 28) C dX8_mark_27 2 rfl rfl ?_
          refine G_callVp (pc' := 31) C [.int a1, .int a2] (c_X8_isBarred ω N σ a1 a2) sg_X8_isBarred gX8_mark_X8_isBarred wM_0 rfl ⟨Nat.le_of_ble_eq_true rfl, Nat.le_of_ble_eq_true rfl⟩ rfl rfl (Nat.le_of_ble_eq_true rfl) dX8_mark_28 rfl hf (fun v3 hf => ?_)
          refine G_if_eq (tgt := 36) (pc' := 34) C dX8_mark_31 (by decide) rfl hf (fun hf => ?_) (fun hf => ?_)
          · refine G_aload_n (pc' := 37) C dX8_mark_36 0 rfl rfl ?_
            refine G_get (pc' := 40) C wM_0 rfl 12 (by decide) rfl iu_X8_mark_X8 lk_X8_mark_42 dX8_mark_37 rfl ?_
            refine G_bipush (v := (24 : Int32)) (pc' := 42) C dX8_mark_40 (by decide) rfl ?_
            refine G_iload_n (pc' := 43) C dX8_mark_42 1 rfl rfl ?_
            refine G_imul (pc' := 44) C dX8_mark_43 rfl ?_
            refine G_iload_n (pc' := 45) C dX8_mark_44 2 rfl rfl ?_
            refine G_iadd (pc' := 46) C dX8_mark_45 rfl ?_
            refine G_iload_n (pc' := 47) C dX8_mark_46 3 rfl rfl ?_
            refine G_iast (pc' := 48) C wM_11 wM_s11 dX8_mark_47 rfl hf (fun s4 hf => ?_)
            refine G_iconst (v := (1 : Int32)) (pc' := 49) C dX8_mark_48 (by decide) rfl ?_
            exact G_zret C hR dX8_mark_49 (by decide) (Option.some.inj hf)
          · refine G_iconst (v := (0 : Int32)) (pc' := 35) C dX8_mark_34 (by decide) rfl ?_
            exact G_zret C hR dX8_mark_35 (by decide) (Option.some.inj hf)
theorem iu_X8_metOn_X8 : ∀ w ∈ wsX80, w ∈ wsX8_metOn := by decide +kernel
theorem lk_X8_metOn_42 : Cond.fieldLink RX8 42 "PrizeDeskModel" "mark" "[I" ∈ wsX8_metOn := by decide +kernel
theorem lk_X8_metOn_113 : Cond.fieldLink RX8 113 "PrizeDeskModel" "books" "I" ∈ wsX8_metOn := by decide +kernel
abbrev rm_X8_metOn : Room := { frames := 0, cells := 0, slots := 0, locals := 0 }
theorem sg_X8_metOn : ZG yX8_metOn wsX8_metOn cX8_metOn 8 (some .int) RX8 3 rm_X8_metOn := ⟨⟨_, rfl⟩, by decide +kernel, rfl, rfl⟩
set_option maxHeartbeats 4000000 in
set_option maxRecDepth 100000 in
theorem w_X8_metOn_6 {ω : ZO} {κ : ZK} {N : Nat} {σ : ZS} {b1 : Int32} {b2 : Int32} {b3 : Int32} {K : Int32 → Int32 → Option (Int32)} {r0 : Int32} (C : CX ω wM κ cX8_metOn wsX8_metOn RX8 (some .int) 8 rm_X8_metOn) (hR : zRI ω wM κ (fun v τ => v = r0 ∧ τ = σ)) (HK : ∀ (y4 : Int32) (y5 : Int32), K y4 y5 = some r0 → G ω wM κ 79 [(0, .ref (za ω 0)), (4, .int y4)] [] σ) : ∀ (n : Nat) (y4 : Int32) (y5 : Int32), L_X8_metOn_6 N σ b1 b2 b3 K n y4 y5 = some r0 → G ω wM κ 6 [(0, .ref (za ω 0)), (1, .int b1), (2, .int b2), (3, .int b3), (4, .int y4), (5, .int y5)] [] σ := by
  intro n
  induction n with
  | zero => intro  y4 y5 hf; exact absurd (show none = some r0 from hf) (fun h => nomatch h)
  | succ n ih =>
    intro y4 y5 hf
    have hf : B_X8_metOn_6 N σ b1 b2 b3 K (L_X8_metOn_6 N σ b1 b2 b3 K n) y4 y5 = some r0 := hf
    unfold B_X8_metOn_6 at hf
    refine G_iload (pc' := 8) C dX8_metOn_6 5 rfl rfl ?_
    refine G_aload_n (pc' := 9) C dX8_metOn_8 0 rfl rfl ?_
    refine G_get (pc' := 12) C wM_0 rfl 4 (by decide) rfl iu_X8_metOn_X8 lk_X8_metOn_113 dX8_metOn_9 rfl ?_
    refine G_icmp_ge (tgt := 79) (pc' := 15) C dX8_metOn_12 (by decide) rfl hf (fun hf => ?_) (fun hf => ?_)
    · refine G_sub (lv' := [(0, .ref (za ω 0)), (4, .int y4)]) C [0, 4] rfl ?_
      exact HK y4 y5 hf
    · refine G_aload_n (pc' := 16) C dX8_metOn_15 0 rfl rfl ?_
      refine G_get (pc' := 19) C wM_0 rfl 12 (by decide) rfl iu_X8_metOn_X8 lk_X8_metOn_42 dX8_metOn_16 rfl ?_
      refine G_bipush (v := (24 : Int32)) (pc' := 21) C dX8_metOn_19 (by decide) rfl ?_
      refine G_iload_n (pc' := 22) C dX8_metOn_21 1 rfl rfl ?_
      refine G_imul (pc' := 23) C dX8_metOn_22 rfl ?_
      refine G_iload (pc' := 25) C dX8_metOn_23 5 rfl rfl ?_
      refine G_iadd (pc' := 26) C dX8_metOn_25 rfl ?_
      refine G_iald (pc' := 27) C wM_11 dX8_metOn_26 rfl hf (fun v1 hf => ?_)
      refine G_istore (lv' := [(0, .ref (za ω 0)), (1, .int b1), (2, .int b2), (3, .int b3), (4, .int y4), (5, .int y5), (6, .int v1)]) (pc' := 29) C dX8_metOn_27 (by decide) [1, 2, 3, 4, 5, 6, 0] rfl rfl ?_
      refine G_aload_n (pc' := 30) C dX8_metOn_29 0 rfl rfl ?_
      refine G_get (pc' := 33) C wM_0 rfl 12 (by decide) rfl iu_X8_metOn_X8 lk_X8_metOn_42 dX8_metOn_30 rfl ?_
      refine G_bipush (v := (24 : Int32)) (pc' := 35) C dX8_metOn_33 (by decide) rfl ?_
      refine G_iload_n (pc' := 36) C dX8_metOn_35 2 rfl rfl ?_
      refine G_imul (pc' := 37) C dX8_metOn_36 rfl ?_
      refine G_iload (pc' := 39) C dX8_metOn_37 5 rfl rfl ?_
      refine G_iadd (pc' := 40) C dX8_metOn_39 rfl ?_
      refine G_iald (pc' := 41) C wM_11 dX8_metOn_40 rfl hf (fun v2 hf => ?_)
      refine G_istore (lv' := [(0, .ref (za ω 0)), (1, .int b1), (2, .int b2), (3, .int b3), (4, .int y4), (5, .int y5), (6, .int v1), (7, .int v2)]) (pc' := 43) C dX8_metOn_41 (by decide) [1, 2, 3, 4, 5, 6, 7, 0] rfl rfl ?_
      refine G_iload (pc' := 45) C dX8_metOn_43 6 rfl rfl ?_
      refine G_iconst (v := (-1 : Int32)) (pc' := 46) C dX8_metOn_45 (by decide) rfl ?_
      refine G_icmp_eq (tgt := 73) (pc' := 49) C dX8_metOn_46 (by decide) rfl hf (fun hf => ?_) (fun hf => ?_)
      · refine G_iincL (v := y5 + (1 : Int32)) (pc' := 76) C dX8_metOn_73 5 rfl rfl (by decide) [1, 2, 3, 4, 5, 0] (fun x3 => [(0, .ref (za ω 0)), (1, .int b1), (2, .int b2), (3, .int b3), (4, .int y4), (5, .int x3)]) (fun _ => rfl) rfl hf (fun x3 hf => ?_)
        refine G_goto (pc' := 6) C dX8_metOn_76 (by decide) ?_
        exact ih y4 x3 hf
      · refine G_iload (pc' := 51) C dX8_metOn_49 7 rfl rfl ?_
        refine G_iconst (v := (-1 : Int32)) (pc' := 52) C dX8_metOn_51 (by decide) rfl ?_
        refine G_icmp_eq (tgt := 73) (pc' := 55) C dX8_metOn_52 (by decide) rfl hf (fun hf => ?_) (fun hf => ?_)
        · refine G_iincL (v := y5 + (1 : Int32)) (pc' := 76) C dX8_metOn_73 5 rfl rfl (by decide) [1, 2, 3, 4, 5, 0] (fun x4 => [(0, .ref (za ω 0)), (1, .int b1), (2, .int b2), (3, .int b3), (4, .int y4), (5, .int x4)]) (fun _ => rfl) rfl hf (fun x4 hf => ?_)
          refine G_goto (pc' := 6) C dX8_metOn_76 (by decide) ?_
          exact ih y4 x4 hf
        · refine G_iload (pc' := 57) C dX8_metOn_55 4 rfl rfl ?_
          refine G_iload_n (pc' := 58) C dX8_metOn_57 3 rfl rfl ?_
          refine G_if_eq (tgt := 69) (pc' := 61) C dX8_metOn_58 (by decide) rfl hf (fun hf => ?_) (fun hf => ?_)
          · refine G_iconst (v := (1 : Int32)) (pc' := 70) C dX8_metOn_69 (by decide) rfl ?_
            refine G_iadd (pc' := 71) C dX8_metOn_70 rfl ?_
            refine G_nm hf (fun x5 hf => ?_)
            refine G_istore (lv' := [(0, .ref (za ω 0)), (1, .int b1), (2, .int b2), (3, .int b3), (4, .int x5), (5, .int y5)]) (pc' := 73) C dX8_metOn_71 (by decide) [1, 2, 3, 4, 0, 5] rfl rfl ?_
            refine G_iincL (v := y5 + (1 : Int32)) (pc' := 76) C dX8_metOn_73 5 rfl rfl (by decide) [1, 2, 3, 4, 5, 0] (fun x6 => [(0, .ref (za ω 0)), (1, .int b1), (2, .int b2), (3, .int b3), (4, .int x5), (5, .int x6)]) (fun _ => rfl) rfl hf (fun x6 hf => ?_)
            refine G_goto (pc' := 6) C dX8_metOn_76 (by decide) ?_
            exact ih x5 x6 hf
          · refine G_iload (pc' := 63) C dX8_metOn_61 6 rfl rfl ?_
            refine G_iload (pc' := 65) C dX8_metOn_63 7 rfl rfl ?_
            refine G_isub (pc' := 66) C dX8_metOn_65 rfl ?_
            refine G_goto (pc' := 70) C dX8_metOn_66 (by decide) ?_
            refine G_iadd (pc' := 71) C dX8_metOn_70 rfl ?_
            refine G_nm hf (fun x7 hf => ?_)
            refine G_istore (lv' := [(0, .ref (za ω 0)), (1, .int b1), (2, .int b2), (3, .int b3), (4, .int x7), (5, .int y5)]) (pc' := 73) C dX8_metOn_71 (by decide) [1, 2, 3, 4, 0, 5] rfl rfl ?_
            refine G_iincL (v := y5 + (1 : Int32)) (pc' := 76) C dX8_metOn_73 5 rfl rfl (by decide) [1, 2, 3, 4, 5, 0] (fun x8 => [(0, .ref (za ω 0)), (1, .int b1), (2, .int b2), (3, .int b3), (4, .int x7), (5, .int x8)]) (fun _ => rfl) rfl hf (fun x8 hf => ?_)
            refine G_goto (pc' := 6) C dX8_metOn_76 (by decide) ?_
            exact ih x7 x8 hf
set_option maxHeartbeats 4000000 in
set_option maxRecDepth 100000 in
theorem c_X8_metOn (ω : ZO) (N : Nat) (σ : ZS) (a1 : Int32) (a2 : Int32) (a3 : Int32) : ZIp ω wM yX8_metOn wsX8_metOn rm_X8_metOn [.ref (za ω 0), .int a1, .int a2, .int a3] σ (f_X8_metOn N σ a1 a2 a3) := by
  intro r0 hf
  refine ZI.go (cc := cX8_metOn) (maxL := 8) (ret := (some .int)) (own := RX8) (lv := [(0, .ref (za ω 0)), (1, .int a1), (2, .int a2), (3, .int a3)]) (by decide) rfl rfl (Nat.le_of_ble_eq_true rfl) rfl (fun κ C hR => ?_)
  unfold f_X8_metOn at hf
  refine G_iconst (v := (0 : Int32)) (pc' := 1) C dX8_metOn_0 (by decide) rfl ?_
  refine G_istore (lv' := [(0, .ref (za ω 0)), (1, .int a1), (2, .int a2), (3, .int a3), (4, .int (0 : Int32))]) (pc' := 3) C dX8_metOn_1 (by decide) [1, 2, 3, 4, 0] rfl rfl ?_
  refine G_iconst (v := (0 : Int32)) (pc' := 4) C dX8_metOn_3 (by decide) rfl ?_
  refine G_istore (lv' := [(0, .ref (za ω 0)), (1, .int a1), (2, .int a2), (3, .int a3), (4, .int (0 : Int32)), (5, .int (0 : Int32))]) (pc' := 6) C dX8_metOn_4 (by decide) [1, 2, 3, 4, 5, 0] rfl rfl ?_
  refine w_X8_metOn_6 C hR (fun y9 y10 hf => ?_) N (0 : Int32) (0 : Int32) hf
  refine G_iload (pc' := 81) C dX8_metOn_79 1 rfl rfl ?_
  exact G_iret C hR dX8_metOn_81 ⟨Option.some.inj hf, rfl⟩
abbrev rm_X8_areApart : Room := { frames := 1, cells := 0, slots := 0, locals := 27 }
theorem sg_X8_areApart : ZG yX8_areApart wsX8_areApart cX8_areApart 7 (some .boolean) RX8 2 rm_X8_areApart := ⟨⟨_, rfl⟩, by decide +kernel, rfl, rfl⟩
set_option maxHeartbeats 4000000 in
set_option maxRecDepth 100000 in
theorem w_X8_areApart_27 {ω : ZO} {κ : ZK} {N : Nat} {σ : ZS} {b2 : Int32} {b4 : Int32} {b5 : Int32} {K : Int32 → Int32 → Option (Int32)} {r0 : Int32} (C : CX ω wM κ cX8_areApart wsX8_areApart RX8 (some .boolean) 7 rm_X8_areApart) (hR : zRI ω wM κ (fun v τ => v = r0 ∧ τ = σ)) (HK : ∀ (y3 : Int32) (y6 : Int32), K y3 y6 = some r0 → G ω wM κ 69 [(0, .ref (za ω 0)), (2, .int b2), (3, .int y3), (4, .int b4), (5, .int b5)] [] σ) : ∀ (n : Nat) (y3 : Int32) (y6 : Int32), L_X8_areApart_27 N σ b2 b4 b5 K n y3 y6 = some r0 → G ω wM κ 27 [(0, .ref (za ω 0)), (2, .int b2), (3, .int y3), (4, .int b4), (5, .int b5), (6, .int y6)] [] σ := by
  intro n
  induction n with
  | zero => intro  y3 y6 hf; exact absurd (show none = some r0 from hf) (fun h => nomatch h)
  | succ n ih =>
    intro y3 y6 hf
    have hf : B_X8_areApart_27 N σ b2 b4 b5 K (L_X8_areApart_27 N σ b2 b4 b5 K n) y3 y6 = some r0 := hf
    unfold B_X8_areApart_27 at hf
    refine G_iload (pc' := 29) C dX8_areApart_27 5 rfl rfl ?_
    refine G_bipush (v := (7 : Int32)) (pc' := 31) C dX8_areApart_29 (by decide) rfl ?_
    refine G_icmp_ge (tgt := 69) (pc' := 34) C dX8_areApart_31 (by decide) rfl hf (fun hf => ?_) (fun hf => ?_)
    · refine G_sub (lv' := [(0, .ref (za ω 0)), (2, .int b2), (3, .int y3), (4, .int b4), (5, .int b5)]) C [0, 1, 2, 3, 4] rfl ?_
      exact HK y3 y6 hf
    · refine G_iload_n (pc' := 35) C dX8_areApart_34 2 rfl rfl ?_
      refine G_iload (pc' := 37) C dX8_areApart_35 4 rfl rfl ?_
      refine G_ishr (pc' := 38) C dX8_areApart_37 rfl ?_
      refine G_iconst (v := (1 : Int32)) (pc' := 39) C dX8_areApart_38 (by decide) rfl ?_
      refine G_iand (pc' := 40) C dX8_areApart_39 rfl ?_
      refine G_iconst (v := (1 : Int32)) (pc' := 41) C dX8_areApart_40 (by decide) rfl ?_
      refine G_icmp_ne (tgt := 63) (pc' := 44) C dX8_areApart_41 (by decide) rfl hf (fun hf => ?_) (fun hf => ?_)
      · refine G_aload_n (pc' := 45) C dX8_areApart_44 0 rfl rfl ?_
        refine G_iload (pc' := 47) C dX8_areApart_45 4 rfl rfl ?_
        refine G_iload (pc' := 49) C dX8_areApart_47 5 rfl rfl ?_
        refine G_iconst (v := (0 : Int32)) (pc' := 50) C dX8_areApart_49 (by decide) rfl ?_
        refine G_callVp (pc' := 53) C [.int b5, .int y6, .int (0 : Int32)] (c_X8_metOn ω N σ b5 y6 (0 : Int32)) sg_X8_metOn gX8_areApart_X8_metOn wM_0 rfl ⟨Nat.le_of_ble_eq_true rfl, Nat.le_of_ble_eq_true rfl⟩ rfl rfl (Nat.le_of_ble_eq_true rfl) dX8_areApart_50 rfl hf (fun v2 hf => ?_)
        refine G_if_le (tgt := 63) (pc' := 56) C dX8_areApart_53 (by decide) rfl hf (fun hf => ?_) (fun hf => ?_)
        · refine G_iincL (v := y6 + (1 : Int32)) (pc' := 66) C dX8_areApart_63 5 rfl rfl (by decide) [1, 2, 3, 4, 5, 0] (fun x3 => [(0, .ref (za ω 0)), (2, .int b2), (3, .int y3), (4, .int b4), (5, .int b5), (6, .int x3)]) (fun _ => rfl) rfl hf (fun x3 hf => ?_)
          refine G_goto (pc' := 27) C dX8_areApart_66 (by decide) ?_
          exact ih y3 x3 hf
        · refine G_iload_n (pc' := 57) C dX8_areApart_56 2 rfl rfl ?_
          refine G_iconst (v := (1 : Int32)) (pc' := 58) C dX8_areApart_57 (by decide) rfl ?_
          refine G_iload (pc' := 60) C dX8_areApart_58 5 rfl rfl ?_
          refine G_ishl (pc' := 61) C dX8_areApart_60 rfl ?_
          refine G_ior (pc' := 62) C dX8_areApart_61 rfl ?_
          refine G_nm hf (fun x4 hf => ?_)
          refine G_istore_n (lv' := [(0, .ref (za ω 0)), (2, .int b2), (3, .int x4), (4, .int b4), (5, .int b5), (6, .int y6)]) (pc' := 63) C dX8_areApart_62 (by decide) [1, 2, 0, 3, 4, 5] rfl rfl ?_
          refine G_iincL (v := y6 + (1 : Int32)) (pc' := 66) C dX8_areApart_63 5 rfl rfl (by decide) [1, 2, 3, 4, 5, 0] (fun x5 => [(0, .ref (za ω 0)), (2, .int b2), (3, .int x4), (4, .int b4), (5, .int b5), (6, .int x5)]) (fun _ => rfl) rfl hf (fun x5 hf => ?_)
          refine G_goto (pc' := 27) C dX8_areApart_66 (by decide) ?_
          exact ih x4 x5 hf
      · refine G_iincL (v := y6 + (1 : Int32)) (pc' := 66) C dX8_areApart_63 5 rfl rfl (by decide) [1, 2, 3, 4, 5, 0] (fun x6 => [(0, .ref (za ω 0)), (2, .int b2), (3, .int y3), (4, .int b4), (5, .int b5), (6, .int x6)]) (fun _ => rfl) rfl hf (fun x6 hf => ?_)
        refine G_goto (pc' := 27) C dX8_areApart_66 (by decide) ?_
        exact ih y3 x6 hf
set_option maxHeartbeats 4000000 in
set_option maxRecDepth 100000 in
theorem w_X8_areApart_17 {ω : ZO} {κ : ZK} {N : Nat} {σ : ZS} {b2 : Int32} {b4 : Int32} {K : Int32 → Int32 → Option (Int32)} {r0 : Int32} (C : CX ω wM κ cX8_areApart wsX8_areApart RX8 (some .boolean) 7 rm_X8_areApart) (hR : zRI ω wM κ (fun v τ => v = r0 ∧ τ = σ)) (HK : ∀ (y3 : Int32) (y5 : Int32), K y3 y5 = some r0 → G ω wM κ 75 [(0, .ref (za ω 0)), (2, .int b2), (3, .int y3), (4, .int b4)] [] σ) : ∀ (n : Nat) (y3 : Int32) (y5 : Int32), L_X8_areApart_17 N σ b2 b4 K n y3 y5 = some r0 → G ω wM κ 17 [(0, .ref (za ω 0)), (2, .int b2), (3, .int y3), (4, .int b4), (5, .int y5)] [] σ := by
  intro n
  induction n with
  | zero => intro  y3 y5 hf; exact absurd (show none = some r0 from hf) (fun h => nomatch h)
  | succ n ih =>
    intro y3 y5 hf
    have hf : B_X8_areApart_17 N σ b2 b4 K (L_X8_areApart_17 N σ b2 b4 K n) y3 y5 = some r0 := hf
    unfold B_X8_areApart_17 at hf
    refine G_iload (pc' := 19) C dX8_areApart_17 4 rfl rfl ?_
    refine G_bipush (v := (7 : Int32)) (pc' := 21) C dX8_areApart_19 (by decide) rfl ?_
    refine G_icmp_ge (tgt := 75) (pc' := 24) C dX8_areApart_21 (by decide) rfl hf (fun hf => ?_) (fun hf => ?_)
    · refine G_sub (lv' := [(0, .ref (za ω 0)), (2, .int b2), (3, .int y3), (4, .int b4)]) C [0, 1, 2, 3] rfl ?_
      exact HK y3 y5 hf
    · refine G_iconst (v := (0 : Int32)) (pc' := 25) C dX8_areApart_24 (by decide) rfl ?_
      refine G_istore (lv' := [(0, .ref (za ω 0)), (2, .int b2), (3, .int y3), (4, .int b4), (5, .int y5), (6, .int (0 : Int32))]) (pc' := 27) C dX8_areApart_25 (by decide) [1, 2, 3, 4, 5, 0] rfl rfl ?_
      refine w_X8_areApart_27 C hR (fun y7 y8 hf => ?_) N y3 (0 : Int32) hf
      refine G_iincL (v := y5 + (1 : Int32)) (pc' := 72) C dX8_areApart_69 4 rfl rfl (by decide) [1, 2, 3, 4, 0] (fun x9 => [(0, .ref (za ω 0)), (2, .int b2), (3, .int y7), (4, .int b4), (5, .int x9)]) (fun _ => rfl) rfl hf (fun x9 hf => ?_)
      refine G_goto (pc' := 17) C dX8_areApart_72 (by decide) ?_
      exact ih y7 x9 hf
set_option maxHeartbeats 4000000 in
set_option maxRecDepth 100000 in
theorem w_X8_areApart_7 {ω : ZO} {κ : ZK} {N : Nat} {σ : ZS} {b2 : Int32} {K : Int32 → Int32 → Option (Int32)} {r0 : Int32} (C : CX ω wM κ cX8_areApart wsX8_areApart RX8 (some .boolean) 7 rm_X8_areApart) (hR : zRI ω wM κ (fun v τ => v = r0 ∧ τ = σ)) (HK : ∀ (y3 : Int32) (y4 : Int32), K y3 y4 = some r0 → G ω wM κ 81 [(0, .ref (za ω 0)), (2, .int b2), (3, .int y3)] [] σ) : ∀ (n : Nat) (y3 : Int32) (y4 : Int32), L_X8_areApart_7 N σ b2 K n y3 y4 = some r0 → G ω wM κ 7 [(0, .ref (za ω 0)), (2, .int b2), (3, .int y3), (4, .int y4)] [] σ := by
  intro n
  induction n with
  | zero => intro  y3 y4 hf; exact absurd (show none = some r0 from hf) (fun h => nomatch h)
  | succ n ih =>
    intro y3 y4 hf
    have hf : B_X8_areApart_7 N σ b2 K (L_X8_areApart_7 N σ b2 K n) y3 y4 = some r0 := hf
    unfold B_X8_areApart_7 at hf
    refine G_iload (pc' := 9) C dX8_areApart_7 3 rfl rfl ?_
    refine G_bipush (v := (7 : Int32)) (pc' := 11) C dX8_areApart_9 (by decide) rfl ?_
    refine G_icmp_ge (tgt := 81) (pc' := 14) C dX8_areApart_11 (by decide) rfl hf (fun hf => ?_) (fun hf => ?_)
    · refine G_sub (lv' := [(0, .ref (za ω 0)), (2, .int b2), (3, .int y3)]) C [0, 1, 2] rfl ?_
      exact HK y3 y4 hf
    · refine G_iconst (v := (0 : Int32)) (pc' := 15) C dX8_areApart_14 (by decide) rfl ?_
      refine G_istore (lv' := [(0, .ref (za ω 0)), (2, .int b2), (3, .int y3), (4, .int y4), (5, .int (0 : Int32))]) (pc' := 17) C dX8_areApart_15 (by decide) [1, 2, 3, 4, 0] rfl rfl ?_
      refine w_X8_areApart_17 C hR (fun y10 y11 hf => ?_) N y3 (0 : Int32) hf
      refine G_iincL (v := y4 + (1 : Int32)) (pc' := 78) C dX8_areApart_75 3 rfl rfl (by decide) [1, 2, 3, 0] (fun x12 => [(0, .ref (za ω 0)), (2, .int b2), (3, .int y10), (4, .int x12)]) (fun _ => rfl) rfl hf (fun x12 hf => ?_)
      refine G_goto (pc' := 7) C dX8_areApart_78 (by decide) ?_
      exact ih y10 x12 hf
set_option maxHeartbeats 4000000 in
set_option maxRecDepth 100000 in
theorem c_X8_areApart (ω : ZO) (N : Nat) (σ : ZS) (a1 : Int32) (a2 : Int32) : ZIp ω wM yX8_areApart wsX8_areApart rm_X8_areApart [.ref (za ω 0), .int a1, .int a2] σ (f_X8_areApart N σ a1 a2) := by
  intro r0 hf
  refine ZI.go (cc := cX8_areApart) (maxL := 7) (ret := (some .boolean)) (own := RX8) (lv := [(0, .ref (za ω 0)), (1, .int a1), (2, .int a2)]) (by decide) rfl rfl (Nat.le_of_ble_eq_true rfl) rfl (fun κ C hR => ?_)
  unfold f_X8_areApart at hf
  refine G_iconst (v := (1 : Int32)) (pc' := 1) C dX8_areApart_0 (by decide) rfl ?_
  refine G_iload_n (pc' := 2) C dX8_areApart_1 1 rfl rfl ?_
  refine G_ishl (pc' := 3) C dX8_areApart_2 rfl ?_
  refine G_nm hf (fun x1 hf => ?_)
  refine G_istore_n (lv' := [(0, .ref (za ω 0)), (2, .int a2), (3, .int x1)]) (pc' := 4) C dX8_areApart_3 (by decide) [1, 3, 0] rfl rfl ?_
  refine G_iconst (v := (0 : Int32)) (pc' := 5) C dX8_areApart_4 (by decide) rfl ?_
  refine G_istore (lv' := [(0, .ref (za ω 0)), (2, .int a2), (3, .int x1), (4, .int (0 : Int32))]) (pc' := 7) C dX8_areApart_5 (by decide) [1, 2, 3, 0] rfl rfl ?_
  refine w_X8_areApart_7 C hR (fun y13 y14 hf => ?_) N x1 (0 : Int32) hf
  refine G_iload_n (pc' := 82) C dX8_areApart_81 2 rfl rfl ?_
  refine G_iload_n (pc' := 83) C dX8_areApart_82 1 rfl rfl ?_
  refine G_ishr (pc' := 84) C dX8_areApart_83 rfl ?_
  refine G_iconst (v := (1 : Int32)) (pc' := 85) C dX8_areApart_84 (by decide) rfl ?_
  refine G_iand (pc' := 86) C dX8_areApart_85 rfl ?_
  refine G_if_ne (tgt := 93) (pc' := 89) C dX8_areApart_86 (by decide) rfl hf (fun hf => ?_) (fun hf => ?_)
  · refine G_iconst (v := (1 : Int32)) (pc' := 90) C dX8_areApart_89 (by decide) rfl ?_
    refine G_goto (pc' := 94) C dX8_areApart_90 (by decide) ?_
    exact G_zret C hR dX8_areApart_94 (by decide) ⟨Option.some.inj hf, rfl⟩
  · refine G_iconst (v := (0 : Int32)) (pc' := 94) C dX8_areApart_93 (by decide) rfl ?_
    exact G_zret C hR dX8_areApart_94 (by decide) ⟨Option.some.inj hf, rfl⟩
abbrev rm_X8_met : Room := { frames := 2, cells := 0, slots := 0, locals := 53 }
theorem sg_X8_met : ZG yX8_met wsX8_met cX8_met 4 (some .int) RX8 3 rm_X8_met := ⟨⟨_, rfl⟩, by decide +kernel, rfl, rfl⟩
set_option maxHeartbeats 4000000 in
set_option maxRecDepth 100000 in
theorem c_X8_met (ω : ZO) (N : Nat) (σ : ZS) (a1 : Int32) (a2 : Int32) (a3 : Int32) : ZIp ω wM yX8_met wsX8_met rm_X8_met [.ref (za ω 0), .int a1, .int a2, .int a3] σ (f_X8_met N σ a1 a2 a3) := by
  intro r0 hf
  refine ZI.go (cc := cX8_met) (maxL := 4) (ret := (some .int)) (own := RX8) (lv := [(0, .ref (za ω 0)), (1, .int a1), (2, .int a2), (3, .int a3)]) (by decide) rfl rfl (Nat.le_of_ble_eq_true rfl) rfl (fun κ C hR => ?_)
  unfold f_X8_met at hf
  refine G_iload_n (pc' := 1) C dX8_met_0 1 rfl rfl ?_
  refine G_callSp (pc' := 4) C [.int a1] (c_X8_isJudge ω N σ a1) sg_X8_isJudge gX8_met_X8_isJudge ⟨Nat.le_of_ble_eq_true rfl, Nat.le_of_ble_eq_true rfl⟩ rfl rfl (Nat.le_of_ble_eq_true rfl) dX8_met_1 rfl hf (fun v1 hf => ?_)
  refine G_if_eq (tgt := 19) (pc' := 7) C dX8_met_4 (by decide) rfl hf (fun hf => ?_) (fun hf => ?_)
  · refine G_iconst (v := (-1 : Int32)) (pc' := 20) C dX8_met_19 (by decide) rfl ?_
    exact G_iret C hR dX8_met_20 ⟨Option.some.inj hf, rfl⟩
  · refine G_iload_n (pc' := 8) C dX8_met_7 2 rfl rfl ?_
    refine G_callSp (pc' := 11) C [.int a2] (c_X8_isJudge ω N σ a2) sg_X8_isJudge gX8_met_X8_isJudge ⟨Nat.le_of_ble_eq_true rfl, Nat.le_of_ble_eq_true rfl⟩ rfl rfl (Nat.le_of_ble_eq_true rfl) dX8_met_8 rfl hf (fun v2 hf => ?_)
    refine G_if_eq (tgt := 19) (pc' := 14) C dX8_met_11 (by decide) rfl hf (fun hf => ?_) (fun hf => ?_)
    · refine G_iconst (v := (-1 : Int32)) (pc' := 20) C dX8_met_19 (by decide) rfl ?_
      exact G_iret C hR dX8_met_20 ⟨Option.some.inj hf, rfl⟩
    · refine G_iload_n (pc' := 15) C dX8_met_14 1 rfl rfl ?_
      refine G_iload_n (pc' := 16) C dX8_met_15 2 rfl rfl ?_
      refine G_icmp_ne (tgt := 21) (pc' := 19) C dX8_met_16 (by decide) rfl hf (fun hf => ?_) (fun hf => ?_)
      · refine G_iconst (v := (-1 : Int32)) (pc' := 20) C dX8_met_19 (by decide) rfl ?_
        exact G_iret C hR dX8_met_20 ⟨Option.some.inj hf, rfl⟩
      · refine G_iload_n (pc' := 22) C dX8_met_21 3 rfl rfl ?_
        by_cases hk0 : a3 = (0 : Int32)
        · rw [if_pos hk0] at hf
          refine G_tIn (k := (0 : Int32)) (off := 26) (tgt := 48) C hk0 dX8_met_22 (by decide) (by decide) (by decide +kernel) (by decide) ?_
          refine G_aload_n (pc' := 49) C dX8_met_48 0 rfl rfl ?_
          refine G_iload_n (pc' := 50) C dX8_met_49 1 rfl rfl ?_
          refine G_iload_n (pc' := 51) C dX8_met_50 2 rfl rfl ?_
          refine G_iconst (v := (0 : Int32)) (pc' := 52) C dX8_met_51 (by decide) rfl ?_
          refine G_callVp (pc' := 55) C [.int a1, .int a2, .int (0 : Int32)] (c_X8_metOn ω N σ a1 a2 (0 : Int32)) sg_X8_metOn gX8_met_X8_metOn wM_0 rfl ⟨Nat.le_of_ble_eq_true rfl, Nat.le_of_ble_eq_true rfl⟩ rfl rfl (Nat.le_of_ble_eq_true rfl) dX8_met_52 rfl hf (fun v3 hf => ?_)
          exact G_iret C hR dX8_met_55 ⟨Option.some.inj hf, rfl⟩
        rw [if_neg hk0] at hf
        by_cases hk1 : a3 = (1 : Int32)
        · rw [if_pos hk1] at hf
          refine G_tIn (k := (1 : Int32)) (off := 34) (tgt := 56) C hk1 dX8_met_22 (by decide) (by decide) (by decide +kernel) (by decide) ?_
          refine G_aload_n (pc' := 57) C dX8_met_56 0 rfl rfl ?_
          refine G_iload_n (pc' := 58) C dX8_met_57 1 rfl rfl ?_
          refine G_iload_n (pc' := 59) C dX8_met_58 2 rfl rfl ?_
          refine G_iconst (v := (1 : Int32)) (pc' := 60) C dX8_met_59 (by decide) rfl ?_
          refine G_callVp (pc' := 63) C [.int a1, .int a2, .int (1 : Int32)] (c_X8_metOn ω N σ a1 a2 (1 : Int32)) sg_X8_metOn gX8_met_X8_metOn wM_0 rfl ⟨Nat.le_of_ble_eq_true rfl, Nat.le_of_ble_eq_true rfl⟩ rfl rfl (Nat.le_of_ble_eq_true rfl) dX8_met_60 rfl hf (fun v4 hf => ?_)
          exact G_iret C hR dX8_met_63 ⟨Option.some.inj hf, rfl⟩
        rw [if_neg hk1] at hf
        by_cases hk2 : a3 = (2 : Int32)
        · rw [if_pos hk2] at hf
          refine G_tIn (k := (2 : Int32)) (off := 42) (tgt := 64) C hk2 dX8_met_22 (by decide) (by decide) (by decide +kernel) (by decide) ?_
          refine G_aload_n (pc' := 65) C dX8_met_64 0 rfl rfl ?_
          refine G_iload_n (pc' := 66) C dX8_met_65 1 rfl rfl ?_
          refine G_iload_n (pc' := 67) C dX8_met_66 2 rfl rfl ?_
          refine G_callVp (pc' := 70) C [.int a1, .int a2] (c_X8_areApart ω N σ a1 a2) sg_X8_areApart gX8_met_X8_areApart wM_0 rfl ⟨Nat.le_of_ble_eq_true rfl, Nat.le_of_ble_eq_true rfl⟩ rfl rfl (Nat.le_of_ble_eq_true rfl) dX8_met_67 rfl hf (fun v5 hf => ?_)
          refine G_if_eq (tgt := 77) (pc' := 73) C dX8_met_70 (by decide) rfl hf (fun hf => ?_) (fun hf => ?_)
          · refine G_iconst (v := (0 : Int32)) (pc' := 78) C dX8_met_77 (by decide) rfl ?_
            exact G_iret C hR dX8_met_78 ⟨Option.some.inj hf, rfl⟩
          · refine G_iconst (v := (1 : Int32)) (pc' := 74) C dX8_met_73 (by decide) rfl ?_
            refine G_goto (pc' := 78) C dX8_met_74 (by decide) ?_
            exact G_iret C hR dX8_met_78 ⟨Option.some.inj hf, rfl⟩
        rw [if_neg hk2] at hf
        have gd : G ω wM κ 79 [(0, .ref (za ω 0)), (1, .int a1), (2, .int a2), (3, .int a3)] [] σ := by
          refine G_iconst (v := (-1 : Int32)) (pc' := 80) C dX8_met_79 (by decide) rfl ?_
          exact G_iret C hR dX8_met_80 ⟨Option.some.inj hf, rfl⟩
        have hn0 := lv_neT hk0 (show ((0 : Int32)).toInt = 0 by decide)
        have hn1 := lv_neT hk1 (show ((1 : Int32)).toInt = 1 by decide)
        have hn2 := lv_neT hk2 (show ((2 : Int32)).toInt = 2 by decide)
        exact G_tOut (tgt := 79) C dX8_met_22 (by omega) (by decide) gd
theorem iu_X8_marks_X8 : ∀ w ∈ wsX80, w ∈ wsX8_marks := by decide +kernel
theorem lk_X8_marks_42 : Cond.fieldLink RX8 42 "PrizeDeskModel" "mark" "[I" ∈ wsX8_marks := by decide +kernel
abbrev rm_X8_marks : Room := { frames := 0, cells := 0, slots := 0, locals := 0 }
theorem sg_X8_marks : ZG yX8_marks wsX8_marks cX8_marks 4 (some .int) RX8 1 rm_X8_marks := ⟨⟨_, rfl⟩, by decide +kernel, rfl, rfl⟩
set_option maxHeartbeats 4000000 in
set_option maxRecDepth 100000 in
theorem w_X8_marks_4 {ω : ZO} {κ : ZK} {N : Nat} {σ : ZS} {b1 : Int32} {K : Int32 → Int32 → Option (Int32)} {r0 : Int32} (C : CX ω wM κ cX8_marks wsX8_marks RX8 (some .int) 4 rm_X8_marks) (hR : zRI ω wM κ (fun v τ => v = r0 ∧ τ = σ)) (HK : ∀ (y2 : Int32) (y3 : Int32), K y2 y3 = some r0 → G ω wM κ 39 [(0, .ref (za ω 0)), (2, .int y2)] [] σ) : ∀ (n : Nat) (y2 : Int32) (y3 : Int32), L_X8_marks_4 N σ b1 K n y2 y3 = some r0 → G ω wM κ 4 [(0, .ref (za ω 0)), (1, .int b1), (2, .int y2), (3, .int y3)] [] σ := by
  intro n
  induction n with
  | zero => intro  y2 y3 hf; exact absurd (show none = some r0 from hf) (fun h => nomatch h)
  | succ n ih =>
    intro y2 y3 hf
    have hf : B_X8_marks_4 N σ b1 K (L_X8_marks_4 N σ b1 K n) y2 y3 = some r0 := hf
    unfold B_X8_marks_4 at hf
    refine G_iload_n (pc' := 5) C dX8_marks_4 3 rfl rfl ?_
    refine G_bipush (v := (7 : Int32)) (pc' := 7) C dX8_marks_5 (by decide) rfl ?_
    refine G_icmp_ge (tgt := 39) (pc' := 10) C dX8_marks_7 (by decide) rfl hf (fun hf => ?_) (fun hf => ?_)
    · refine G_sub (lv' := [(0, .ref (za ω 0)), (2, .int y2)]) C [0, 2] rfl ?_
      exact HK y2 y3 hf
    · refine G_iload_n (pc' := 11) C dX8_marks_10 2 rfl rfl ?_
      refine G_aload_n (pc' := 12) C dX8_marks_11 0 rfl rfl ?_
      refine G_get (pc' := 15) C wM_0 rfl 12 (by decide) rfl iu_X8_marks_X8 lk_X8_marks_42 dX8_marks_12 rfl ?_
      refine G_bipush (v := (24 : Int32)) (pc' := 17) C dX8_marks_15 (by decide) rfl ?_
      refine G_iload_n (pc' := 18) C dX8_marks_17 3 rfl rfl ?_
      refine G_imul (pc' := 19) C dX8_marks_18 rfl ?_
      refine G_iload_n (pc' := 20) C dX8_marks_19 1 rfl rfl ?_
      refine G_iadd (pc' := 21) C dX8_marks_20 rfl ?_
      refine G_iald (pc' := 22) C wM_11 dX8_marks_21 rfl hf (fun v1 hf => ?_)
      refine G_iconst (v := (-1 : Int32)) (pc' := 23) C dX8_marks_22 (by decide) rfl ?_
      refine G_icmp_ne (tgt := 30) (pc' := 26) C dX8_marks_23 (by decide) rfl hf (fun hf => ?_) (fun hf => ?_)
      · refine G_iconst (v := (0 : Int32)) (pc' := 27) C dX8_marks_26 (by decide) rfl ?_
        refine G_goto (pc' := 31) C dX8_marks_27 (by decide) ?_
        refine G_iadd (pc' := 32) C dX8_marks_31 rfl ?_
        refine G_nm hf (fun x2 hf => ?_)
        refine G_istore_n (lv' := [(0, .ref (za ω 0)), (1, .int b1), (2, .int x2), (3, .int y3)]) (pc' := 33) C dX8_marks_32 (by decide) [1, 2, 0, 3] rfl rfl ?_
        refine G_iincL (v := y3 + (1 : Int32)) (pc' := 36) C dX8_marks_33 3 rfl rfl (by decide) [1, 2, 3, 0] (fun x3 => [(0, .ref (za ω 0)), (1, .int b1), (2, .int x2), (3, .int x3)]) (fun _ => rfl) rfl hf (fun x3 hf => ?_)
        refine G_goto (pc' := 4) C dX8_marks_36 (by decide) ?_
        exact ih x2 x3 hf
      · refine G_iconst (v := (1 : Int32)) (pc' := 31) C dX8_marks_30 (by decide) rfl ?_
        refine G_iadd (pc' := 32) C dX8_marks_31 rfl ?_
        refine G_nm hf (fun x4 hf => ?_)
        refine G_istore_n (lv' := [(0, .ref (za ω 0)), (1, .int b1), (2, .int x4), (3, .int y3)]) (pc' := 33) C dX8_marks_32 (by decide) [1, 2, 0, 3] rfl rfl ?_
        refine G_iincL (v := y3 + (1 : Int32)) (pc' := 36) C dX8_marks_33 3 rfl rfl (by decide) [1, 2, 3, 0] (fun x5 => [(0, .ref (za ω 0)), (1, .int b1), (2, .int x4), (3, .int x5)]) (fun _ => rfl) rfl hf (fun x5 hf => ?_)
        refine G_goto (pc' := 4) C dX8_marks_36 (by decide) ?_
        exact ih x4 x5 hf
set_option maxHeartbeats 4000000 in
set_option maxRecDepth 100000 in
theorem c_X8_marks (ω : ZO) (N : Nat) (σ : ZS) (a1 : Int32) : ZIp ω wM yX8_marks wsX8_marks rm_X8_marks [.ref (za ω 0), .int a1] σ (f_X8_marks N σ a1) := by
  intro r0 hf
  refine ZI.go (cc := cX8_marks) (maxL := 4) (ret := (some .int)) (own := RX8) (lv := [(0, .ref (za ω 0)), (1, .int a1)]) (by decide) rfl rfl (Nat.le_of_ble_eq_true rfl) rfl (fun κ C hR => ?_)
  unfold f_X8_marks at hf
  refine G_iconst (v := (0 : Int32)) (pc' := 1) C dX8_marks_0 (by decide) rfl ?_
  refine G_istore_n (lv' := [(0, .ref (za ω 0)), (1, .int a1), (2, .int (0 : Int32))]) (pc' := 2) C dX8_marks_1 (by decide) [1, 2, 0] rfl rfl ?_
  refine G_iconst (v := (0 : Int32)) (pc' := 3) C dX8_marks_2 (by decide) rfl ?_
  refine G_istore_n (lv' := [(0, .ref (za ω 0)), (1, .int a1), (2, .int (0 : Int32)), (3, .int (0 : Int32))]) (pc' := 4) C dX8_marks_3 (by decide) [1, 2, 3, 0] rfl rfl ?_
  refine w_X8_marks_4 C hR (fun y6 y7 hf => ?_) N (0 : Int32) (0 : Int32) hf
  refine G_iload_n (pc' := 40) C dX8_marks_39 1 rfl rfl ?_
  exact G_iret C hR dX8_marks_40 ⟨Option.some.inj hf, rfl⟩
theorem iu_X8_wantsThird_X8 : ∀ w ∈ wsX80, w ∈ wsX8_wantsThird := by decide +kernel
theorem lk_X8_wantsThird_42 : Cond.fieldLink RX8 42 "PrizeDeskModel" "mark" "[I" ∈ wsX8_wantsThird := by decide +kernel
theorem lk_X8_wantsThird_13 : Cond.fieldLink RX8 13 "PrizeDeskModel" "rule" "[I" ∈ wsX8_wantsThird := by decide +kernel
abbrev rm_X8_wantsThird : Room := { frames := 2, cells := 0, slots := 0, locals := 44 }
theorem sg_X8_wantsThird : ZG yX8_wantsThird wsX8_wantsThird cX8_wantsThird 6 (some .boolean) RX8 1 rm_X8_wantsThird := ⟨⟨_, rfl⟩, by decide +kernel, rfl, rfl⟩
set_option maxHeartbeats 4000000 in
set_option maxRecDepth 100000 in
theorem w_X8_wantsThird_27 {ω : ZO} {κ : ZK} {N : Nat} {σ : ZS} {b1 : Int32} {K : Int32 → Int32 → Int32 → Option (Int32)} {r0 : Int32} (C : CX ω wM κ cX8_wantsThird wsX8_wantsThird RX8 (some .boolean) 6 rm_X8_wantsThird) (hR : zRI ω wM κ (fun v τ => v = r0 ∧ τ = σ)) (HK : ∀ (y2 : Int32) (y3 : Int32) (y4 : Int32), K y2 y3 y4 = some r0 → G ω wM κ 81 [(0, .ref (za ω 0)), (2, .int y2), (3, .int y3)] [] σ) : ∀ (n : Nat) (y2 : Int32) (y3 : Int32) (y4 : Int32), L_X8_wantsThird_27 N σ b1 K n y2 y3 y4 = some r0 → G ω wM κ 27 [(0, .ref (za ω 0)), (1, .int b1), (2, .int y2), (3, .int y3), (4, .int y4)] [] σ := by
  intro n
  induction n with
  | zero => intro  y2 y3 y4 hf; exact absurd (show none = some r0 from hf) (fun h => nomatch h)
  | succ n ih =>
    intro y2 y3 y4 hf
    have hf : B_X8_wantsThird_27 N σ b1 K (L_X8_wantsThird_27 N σ b1 K n) y2 y3 y4 = some r0 := hf
    unfold B_X8_wantsThird_27 at hf
    refine G_iload (pc' := 29) C dX8_wantsThird_27 4 rfl rfl ?_
    refine G_bipush (v := (7 : Int32)) (pc' := 31) C dX8_wantsThird_29 (by decide) rfl ?_
    refine G_icmp_ge (tgt := 81) (pc' := 34) C dX8_wantsThird_31 (by decide) rfl hf (fun hf => ?_) (fun hf => ?_)
    · refine G_sub (lv' := [(0, .ref (za ω 0)), (2, .int y2), (3, .int y3)]) C [0, 2, 3] rfl ?_
      exact HK y2 y3 y4 hf
    · refine G_aload_n (pc' := 35) C dX8_wantsThird_34 0 rfl rfl ?_
      refine G_get (pc' := 38) C wM_0 rfl 12 (by decide) rfl iu_X8_wantsThird_X8 lk_X8_wantsThird_42 dX8_wantsThird_35 rfl ?_
      refine G_bipush (v := (24 : Int32)) (pc' := 40) C dX8_wantsThird_38 (by decide) rfl ?_
      refine G_iload (pc' := 42) C dX8_wantsThird_40 4 rfl rfl ?_
      refine G_imul (pc' := 43) C dX8_wantsThird_42 rfl ?_
      refine G_iload_n (pc' := 44) C dX8_wantsThird_43 1 rfl rfl ?_
      refine G_iadd (pc' := 45) C dX8_wantsThird_44 rfl ?_
      refine G_iald (pc' := 46) C wM_11 dX8_wantsThird_45 rfl hf (fun v3 hf => ?_)
      refine G_istore (lv' := [(0, .ref (za ω 0)), (1, .int b1), (2, .int y2), (3, .int y3), (4, .int y4), (5, .int v3)]) (pc' := 48) C dX8_wantsThird_46 (by decide) [1, 2, 3, 4, 5, 0] rfl rfl ?_
      refine G_iload (pc' := 50) C dX8_wantsThird_48 5 rfl rfl ?_
      refine G_iconst (v := (-1 : Int32)) (pc' := 51) C dX8_wantsThird_50 (by decide) rfl ?_
      refine G_icmp_ne (tgt := 57) (pc' := 54) C dX8_wantsThird_51 (by decide) rfl hf (fun hf => ?_) (fun hf => ?_)
      · refine G_goto (pc' := 75) C dX8_wantsThird_54 (by decide) ?_
        refine G_iincL (v := y4 + (1 : Int32)) (pc' := 78) C dX8_wantsThird_75 4 rfl rfl (by decide) [1, 2, 3, 4, 0] (fun x4 => [(0, .ref (za ω 0)), (1, .int b1), (2, .int y2), (3, .int y3), (4, .int x4)]) (fun _ => rfl) rfl hf (fun x4 hf => ?_)
        refine G_goto (pc' := 27) C dX8_wantsThird_78 (by decide) ?_
        exact ih y2 y3 x4 hf
      · refine G_iload (pc' := 59) C dX8_wantsThird_57 5 rfl rfl ?_
        refine G_iload_n (pc' := 60) C dX8_wantsThird_59 2 rfl rfl ?_
        refine G_icmp_ge (tgt := 66) (pc' := 63) C dX8_wantsThird_60 (by decide) rfl hf (fun hf => ?_) (fun hf => ?_)
        · refine G_iload (pc' := 68) C dX8_wantsThird_66 5 rfl rfl ?_
          refine G_iload_n (pc' := 69) C dX8_wantsThird_68 3 rfl rfl ?_
          refine G_icmp_le (tgt := 75) (pc' := 72) C dX8_wantsThird_69 (by decide) rfl hf (fun hf => ?_) (fun hf => ?_)
          · refine G_iincL (v := y4 + (1 : Int32)) (pc' := 78) C dX8_wantsThird_75 4 rfl rfl (by decide) [1, 2, 3, 4, 0] (fun x5 => [(0, .ref (za ω 0)), (1, .int b1), (2, .int y2), (3, .int y3), (4, .int x5)]) (fun _ => rfl) rfl hf (fun x5 hf => ?_)
            refine G_goto (pc' := 27) C dX8_wantsThird_78 (by decide) ?_
            exact ih y2 y3 x5 hf
          · refine G_iload (pc' := 74) C dX8_wantsThird_72 5 rfl rfl ?_
            refine G_istore_n (lv' := [(0, .ref (za ω 0)), (1, .int b1), (2, .int y2), (3, .int v3), (4, .int y4)]) (pc' := 75) C dX8_wantsThird_74 (by decide) [1, 2, 3, 0, 4] rfl rfl ?_
            refine G_iincL (v := y4 + (1 : Int32)) (pc' := 78) C dX8_wantsThird_75 4 rfl rfl (by decide) [1, 2, 3, 4, 0] (fun x6 => [(0, .ref (za ω 0)), (1, .int b1), (2, .int y2), (3, .int v3), (4, .int x6)]) (fun _ => rfl) rfl hf (fun x6 hf => ?_)
            refine G_goto (pc' := 27) C dX8_wantsThird_78 (by decide) ?_
            exact ih y2 v3 x6 hf
        · refine G_iload (pc' := 65) C dX8_wantsThird_63 5 rfl rfl ?_
          refine G_istore_n (lv' := [(0, .ref (za ω 0)), (1, .int b1), (2, .int v3), (3, .int y3), (4, .int y4), (5, .int v3)]) (pc' := 66) C dX8_wantsThird_65 (by decide) [1, 2, 0, 3, 4, 5] rfl rfl ?_
          refine G_iload (pc' := 68) C dX8_wantsThird_66 5 rfl rfl ?_
          refine G_iload_n (pc' := 69) C dX8_wantsThird_68 3 rfl rfl ?_
          refine G_icmp_le (tgt := 75) (pc' := 72) C dX8_wantsThird_69 (by decide) rfl hf (fun hf => ?_) (fun hf => ?_)
          · refine G_iincL (v := y4 + (1 : Int32)) (pc' := 78) C dX8_wantsThird_75 4 rfl rfl (by decide) [1, 2, 3, 4, 0] (fun x7 => [(0, .ref (za ω 0)), (1, .int b1), (2, .int v3), (3, .int y3), (4, .int x7)]) (fun _ => rfl) rfl hf (fun x7 hf => ?_)
            refine G_goto (pc' := 27) C dX8_wantsThird_78 (by decide) ?_
            exact ih v3 y3 x7 hf
          · refine G_iload (pc' := 74) C dX8_wantsThird_72 5 rfl rfl ?_
            refine G_istore_n (lv' := [(0, .ref (za ω 0)), (1, .int b1), (2, .int v3), (3, .int v3), (4, .int y4)]) (pc' := 75) C dX8_wantsThird_74 (by decide) [1, 2, 3, 0, 4] rfl rfl ?_
            refine G_iincL (v := y4 + (1 : Int32)) (pc' := 78) C dX8_wantsThird_75 4 rfl rfl (by decide) [1, 2, 3, 4, 0] (fun x8 => [(0, .ref (za ω 0)), (1, .int b1), (2, .int v3), (3, .int v3), (4, .int x8)]) (fun _ => rfl) rfl hf (fun x8 hf => ?_)
            refine G_goto (pc' := 27) C dX8_wantsThird_78 (by decide) ?_
            exact ih v3 v3 x8 hf
set_option maxHeartbeats 4000000 in
set_option maxRecDepth 100000 in
theorem c_X8_wantsThird (ω : ZO) (N : Nat) (σ : ZS) (a1 : Int32) : ZIp ω wM yX8_wantsThird wsX8_wantsThird rm_X8_wantsThird [.ref (za ω 0), .int a1] σ (f_X8_wantsThird N σ a1) := by
  intro r0 hf
  refine ZI.go (cc := cX8_wantsThird) (maxL := 6) (ret := (some .boolean)) (own := RX8) (lv := [(0, .ref (za ω 0)), (1, .int a1)]) (by decide) rfl rfl (Nat.le_of_ble_eq_true rfl) rfl (fun κ C hR => ?_)
  unfold f_X8_wantsThird at hf
  refine G_aload_n (pc' := 1) C dX8_wantsThird_0 0 rfl rfl ?_
  refine G_iload_n (pc' := 2) C dX8_wantsThird_1 1 rfl rfl ?_
  refine G_callVp (pc' := 5) C [.int a1] (c_X8_isIn ω N σ a1) sg_X8_isIn gX8_wantsThird_X8_isIn wM_0 rfl ⟨Nat.le_of_ble_eq_true rfl, Nat.le_of_ble_eq_true rfl⟩ rfl rfl (Nat.le_of_ble_eq_true rfl) dX8_wantsThird_2 rfl hf (fun v1 hf => ?_)
  refine G_if_eq (tgt := 17) (pc' := 8) C dX8_wantsThird_5 (by decide) rfl hf (fun hf => ?_) (fun hf => ?_)
  · refine G_iconst (v := (0 : Int32)) (pc' := 18) C dX8_wantsThird_17 (by decide) rfl ?_
    exact G_zret C hR dX8_wantsThird_18 (by decide) ⟨Option.some.inj hf, rfl⟩
  · refine G_aload_n (pc' := 9) C dX8_wantsThird_8 0 rfl rfl ?_
    refine G_iload_n (pc' := 10) C dX8_wantsThird_9 1 rfl rfl ?_
    refine G_callVp (pc' := 13) C [.int a1] (c_X8_marks ω N σ a1) sg_X8_marks gX8_wantsThird_X8_marks wM_0 rfl ⟨Nat.le_of_ble_eq_true rfl, Nat.le_of_ble_eq_true rfl⟩ rfl rfl (Nat.le_of_ble_eq_true rfl) dX8_wantsThird_10 rfl hf (fun v2 hf => ?_)
    refine G_iconst (v := (2 : Int32)) (pc' := 14) C dX8_wantsThird_13 (by decide) rfl ?_
    refine G_icmp_eq (tgt := 19) (pc' := 17) C dX8_wantsThird_14 (by decide) rfl hf (fun hf => ?_) (fun hf => ?_)
    · refine G_bipush (v := (101 : Int32)) (pc' := 21) C dX8_wantsThird_19 (by decide) rfl ?_
      refine G_istore_n (lv' := [(0, .ref (za ω 0)), (1, .int a1), (2, .int (101 : Int32))]) (pc' := 22) C dX8_wantsThird_21 (by decide) [1, 2, 0] rfl rfl ?_
      refine G_iconst (v := (-1 : Int32)) (pc' := 23) C dX8_wantsThird_22 (by decide) rfl ?_
      refine G_istore_n (lv' := [(0, .ref (za ω 0)), (1, .int a1), (2, .int (101 : Int32)), (3, .int (-1 : Int32))]) (pc' := 24) C dX8_wantsThird_23 (by decide) [1, 2, 3, 0] rfl rfl ?_
      refine G_iconst (v := (0 : Int32)) (pc' := 25) C dX8_wantsThird_24 (by decide) rfl ?_
      refine G_istore (lv' := [(0, .ref (za ω 0)), (1, .int a1), (2, .int (101 : Int32)), (3, .int (-1 : Int32)), (4, .int (0 : Int32))]) (pc' := 27) C dX8_wantsThird_25 (by decide) [1, 2, 3, 4, 0] rfl rfl ?_
      refine w_X8_wantsThird_27 C hR (fun y9 y10 y11 hf => ?_) N (101 : Int32) (-1 : Int32) (0 : Int32) hf
      refine G_iload_n (pc' := 82) C dX8_wantsThird_81 2 rfl rfl ?_
      refine G_iload_n (pc' := 83) C dX8_wantsThird_82 1 rfl rfl ?_
      refine G_isub (pc' := 84) C dX8_wantsThird_83 rfl ?_
      refine G_aload_n (pc' := 85) C dX8_wantsThird_84 0 rfl rfl ?_
      refine G_get (pc' := 88) C wM_0 rfl 2 (by decide) rfl iu_X8_wantsThird_X8 lk_X8_wantsThird_13 dX8_wantsThird_85 rfl ?_
      refine G_bipush (v := (6 : Int32)) (pc' := 90) C dX8_wantsThird_88 (by decide) rfl ?_
      refine G_iald (pc' := 91) C wM_2 dX8_wantsThird_90 rfl hf (fun v12 hf => ?_)
      refine G_icmp_le (tgt := 98) (pc' := 94) C dX8_wantsThird_91 (by decide) rfl hf (fun hf => ?_) (fun hf => ?_)
      · refine G_iconst (v := (0 : Int32)) (pc' := 99) C dX8_wantsThird_98 (by decide) rfl ?_
        exact G_zret C hR dX8_wantsThird_99 (by decide) ⟨Option.some.inj hf, rfl⟩
      · refine G_iconst (v := (1 : Int32)) (pc' := 95) C dX8_wantsThird_94 (by decide) rfl ?_
        refine G_goto (pc' := 99) C dX8_wantsThird_95 (by decide) ?_
        exact G_zret C hR dX8_wantsThird_99 (by decide) ⟨Option.some.inj hf, rfl⟩
    · refine G_iconst (v := (0 : Int32)) (pc' := 18) C dX8_wantsThird_17 (by decide) rfl ?_
      exact G_zret C hR dX8_wantsThird_18 (by decide) ⟨Option.some.inj hf, rfl⟩
theorem iu_X8_thirds_X8 : ∀ w ∈ wsX80, w ∈ wsX8_thirds := by decide +kernel
theorem lk_X8_thirds_113 : Cond.fieldLink RX8 113 "PrizeDeskModel" "books" "I" ∈ wsX8_thirds := by decide +kernel
abbrev rm_X8_thirds : Room := { frames := 3, cells := 0, slots := 0, locals := 69 }
theorem sg_X8_thirds : ZG yX8_thirds wsX8_thirds cX8_thirds 4 (some .int) RX8 1 rm_X8_thirds := ⟨⟨_, rfl⟩, by decide +kernel, rfl, rfl⟩
set_option maxHeartbeats 4000000 in
set_option maxRecDepth 100000 in
theorem w_X8_thirds_4 {ω : ZO} {κ : ZK} {N : Nat} {σ : ZS} {b1 : Int32} {K : Int32 → Int32 → Option (Int32)} {r0 : Int32} (C : CX ω wM κ cX8_thirds wsX8_thirds RX8 (some .int) 4 rm_X8_thirds) (hR : zRI ω wM κ (fun v τ => v = r0 ∧ τ = σ)) (HK : ∀ (y2 : Int32) (y3 : Int32), K y2 y3 = some r0 → G ω wM κ 40 [(0, .ref (za ω 0)), (1, .int b1), (2, .int y2)] [] σ) : ∀ (n : Nat) (y2 : Int32) (y3 : Int32), L_X8_thirds_4 N σ b1 K n y2 y3 = some r0 → G ω wM κ 4 [(0, .ref (za ω 0)), (1, .int b1), (2, .int y2), (3, .int y3)] [] σ := by
  intro n
  induction n with
  | zero => intro  y2 y3 hf; exact absurd (show none = some r0 from hf) (fun h => nomatch h)
  | succ n ih =>
    intro y2 y3 hf
    have hf : B_X8_thirds_4 N σ b1 K (L_X8_thirds_4 N σ b1 K n) y2 y3 = some r0 := hf
    unfold B_X8_thirds_4 at hf
    refine G_iload_n (pc' := 5) C dX8_thirds_4 3 rfl rfl ?_
    refine G_aload_n (pc' := 6) C dX8_thirds_5 0 rfl rfl ?_
    refine G_get (pc' := 9) C wM_0 rfl 4 (by decide) rfl iu_X8_thirds_X8 lk_X8_thirds_113 dX8_thirds_6 rfl ?_
    refine G_icmp_ge (tgt := 40) (pc' := 12) C dX8_thirds_9 (by decide) rfl hf (fun hf => ?_) (fun hf => ?_)
    · refine G_sub (lv' := [(0, .ref (za ω 0)), (1, .int b1), (2, .int y2)]) C [0, 1, 2] rfl ?_
      exact HK y2 y3 hf
    · refine G_aload_n (pc' := 13) C dX8_thirds_12 0 rfl rfl ?_
      refine G_iload_n (pc' := 14) C dX8_thirds_13 3 rfl rfl ?_
      refine G_callVp (pc' := 17) C [.int y3] (c_X8_wantsThird ω N σ y3) sg_X8_wantsThird gX8_thirds_X8_wantsThird wM_0 rfl ⟨Nat.le_of_ble_eq_true rfl, Nat.le_of_ble_eq_true rfl⟩ rfl rfl (Nat.le_of_ble_eq_true rfl) dX8_thirds_14 rfl hf (fun v1 hf => ?_)
      refine G_if_ne (tgt := 23) (pc' := 20) C dX8_thirds_17 (by decide) rfl hf (fun hf => ?_) (fun hf => ?_)
      · refine G_goto (pc' := 34) C dX8_thirds_20 (by decide) ?_
        refine G_iincL (v := y3 + (1 : Int32)) (pc' := 37) C dX8_thirds_34 3 rfl rfl (by decide) [1, 2, 3, 0] (fun x2 => [(0, .ref (za ω 0)), (1, .int b1), (2, .int y2), (3, .int x2)]) (fun _ => rfl) rfl hf (fun x2 hf => ?_)
        refine G_goto (pc' := 4) C dX8_thirds_37 (by decide) ?_
        exact ih y2 x2 hf
      · refine G_iload_n (pc' := 24) C dX8_thirds_23 2 rfl rfl ?_
        refine G_iload_n (pc' := 25) C dX8_thirds_24 1 rfl rfl ?_
        refine G_icmp_ne (tgt := 30) (pc' := 28) C dX8_thirds_25 (by decide) rfl hf (fun hf => ?_) (fun hf => ?_)
        · refine G_iload_n (pc' := 29) C dX8_thirds_28 3 rfl rfl ?_
          exact G_iret C hR dX8_thirds_29 ⟨Option.some.inj hf, rfl⟩
        · refine G_iload_n (pc' := 31) C dX8_thirds_30 2 rfl rfl ?_
          refine G_iconst (v := (1 : Int32)) (pc' := 32) C dX8_thirds_31 (by decide) rfl ?_
          refine G_iadd (pc' := 33) C dX8_thirds_32 rfl ?_
          refine G_nm hf (fun x3 hf => ?_)
          refine G_istore_n (lv' := [(0, .ref (za ω 0)), (1, .int b1), (2, .int x3), (3, .int y3)]) (pc' := 34) C dX8_thirds_33 (by decide) [1, 2, 0, 3] rfl rfl ?_
          refine G_iincL (v := y3 + (1 : Int32)) (pc' := 37) C dX8_thirds_34 3 rfl rfl (by decide) [1, 2, 3, 0] (fun x4 => [(0, .ref (za ω 0)), (1, .int b1), (2, .int x3), (3, .int x4)]) (fun _ => rfl) rfl hf (fun x4 hf => ?_)
          refine G_goto (pc' := 4) C dX8_thirds_37 (by decide) ?_
          exact ih x3 x4 hf
set_option maxHeartbeats 4000000 in
set_option maxRecDepth 100000 in
theorem c_X8_thirds (ω : ZO) (N : Nat) (σ : ZS) (a1 : Int32) : ZIp ω wM yX8_thirds wsX8_thirds rm_X8_thirds [.ref (za ω 0), .int a1] σ (f_X8_thirds N σ a1) := by
  intro r0 hf
  refine ZI.go (cc := cX8_thirds) (maxL := 4) (ret := (some .int)) (own := RX8) (lv := [(0, .ref (za ω 0)), (1, .int a1)]) (by decide) rfl rfl (Nat.le_of_ble_eq_true rfl) rfl (fun κ C hR => ?_)
  unfold f_X8_thirds at hf
  refine G_iconst (v := (0 : Int32)) (pc' := 1) C dX8_thirds_0 (by decide) rfl ?_
  refine G_istore_n (lv' := [(0, .ref (za ω 0)), (1, .int a1), (2, .int (0 : Int32))]) (pc' := 2) C dX8_thirds_1 (by decide) [1, 2, 0] rfl rfl ?_
  refine G_iconst (v := (0 : Int32)) (pc' := 3) C dX8_thirds_2 (by decide) rfl ?_
  refine G_istore_n (lv' := [(0, .ref (za ω 0)), (1, .int a1), (2, .int (0 : Int32)), (3, .int (0 : Int32))]) (pc' := 4) C dX8_thirds_3 (by decide) [1, 2, 3, 0] rfl rfl ?_
  refine w_X8_thirds_4 C hR (fun y5 y6 hf => ?_) N (0 : Int32) (0 : Int32) hf
  refine G_iload_n (pc' := 41) C dX8_thirds_40 1 rfl rfl ?_
  refine G_iconst (v := (-1 : Int32)) (pc' := 42) C dX8_thirds_41 (by decide) rfl ?_
  refine G_icmp_ne (tgt := 49) (pc' := 45) C dX8_thirds_42 (by decide) rfl hf (fun hf => ?_) (fun hf => ?_)
  · refine G_iload_n (pc' := 46) C dX8_thirds_45 2 rfl rfl ?_
    refine G_goto (pc' := 50) C dX8_thirds_46 (by decide) ?_
    exact G_iret C hR dX8_thirds_50 ⟨Option.some.inj hf, rfl⟩
  · refine G_iconst (v := (-1 : Int32)) (pc' := 50) C dX8_thirds_49 (by decide) rfl ?_
    exact G_iret C hR dX8_thirds_50 ⟨Option.some.inj hf, rfl⟩
abbrev rm_X8_third : Room := { frames := 4, cells := 0, slots := 0, locals := 92 }
theorem sg_X8_third : ZG yX8_third wsX8_third cX8_third 2 (some .int) RX8 1 rm_X8_third := ⟨⟨_, rfl⟩, by decide +kernel, rfl, rfl⟩
set_option maxHeartbeats 4000000 in
set_option maxRecDepth 100000 in
theorem c_X8_third (ω : ZO) (N : Nat) (σ : ZS) (a1 : Int32) : ZIp ω wM yX8_third wsX8_third rm_X8_third [.ref (za ω 0), .int a1] σ (f_X8_third N σ a1) := by
  intro r0 hf
  refine ZI.go (cc := cX8_third) (maxL := 2) (ret := (some .int)) (own := RX8) (lv := [(0, .ref (za ω 0)), (1, .int a1)]) (by decide) rfl rfl (Nat.le_of_ble_eq_true rfl) rfl (fun κ C hR => ?_)
  unfold f_X8_third at hf
  refine G_iload_n (pc' := 1) C dX8_third_0 1 rfl rfl ?_
  refine G_if_ge (tgt := 8) (pc' := 4) C dX8_third_1 (by decide) rfl hf (fun hf => ?_) (fun hf => ?_)
  · refine G_aload_n (pc' := 9) C dX8_third_8 0 rfl rfl ?_
    refine G_iload_n (pc' := 10) C dX8_third_9 1 rfl rfl ?_
    refine G_callVp (pc' := 13) C [.int a1] (c_X8_thirds ω N σ a1) sg_X8_thirds gX8_third_X8_thirds wM_0 rfl ⟨Nat.le_of_ble_eq_true rfl, Nat.le_of_ble_eq_true rfl⟩ rfl rfl (Nat.le_of_ble_eq_true rfl) dX8_third_10 rfl hf (fun v1 hf => ?_)
    exact G_iret C hR dX8_third_13 ⟨Option.some.inj hf, rfl⟩
  · refine G_iconst (v := (-1 : Int32)) (pc' := 5) C dX8_third_4 (by decide) rfl ?_
    refine G_goto (pc' := 13) C dX8_third_5 (by decide) ?_
    exact G_iret C hR dX8_third_13 ⟨Option.some.inj hf, rfl⟩
