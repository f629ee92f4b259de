theorem iu_X6_hasRoom_X6 : ∀ w ∈ wsX60, w ∈ wsX6_hasRoom := by decide +kernel
theorem lk_X6_hasRoom_15 : Cond.fieldLink RX6 15 "PrizeDesk$Tape" "size" "I" ∈ wsX6_hasRoom := by decide +kernel
abbrev rm_X6_hasRoom : Room := { frames := 0, cells := 0, slots := 0, locals := 0 }
theorem sg_X6_hasRoom : ZG yX6_hasRoom wsX6_hasRoom cX6_hasRoom 1 (some .boolean) RX6 0 rm_X6_hasRoom := ⟨⟨_, rfl⟩, by decide +kernel, rfl, rfl⟩
set_option maxHeartbeats 4000000 in
set_option maxRecDepth 100000 in
theorem c_X6_hasRoom (ω : ZO) (N : Nat) (σ : ZS) : ZIp ω wD yX6_hasRoom wsX6_hasRoom rm_X6_hasRoom [.ref (za ω 1)] σ (f_X6_hasRoom N σ) := by
  intro r0 hf
  refine ZI.go (cc := cX6_hasRoom) (maxL := 1) (ret := (some .boolean)) (own := RX6) (lv := [(0, .ref (za ω 1))]) (by decide) rfl rfl (Nat.le_of_ble_eq_true rfl) rfl (fun κ C hR => ?_)
  unfold f_X6_hasRoom at hf
  refine G_aload_n (pc' := 1) C dX6_hasRoom_0 0 rfl rfl ?_
  refine G_get (pc' := 4) C wD_1 rfl 1 (by decide) rfl iu_X6_hasRoom_X6 lk_X6_hasRoom_15 dX6_hasRoom_1 rfl ?_
  refine G_bipush (v := (20 : Int32)) (pc' := 6) C dX6_hasRoom_4 (by decide) rfl ?_
  refine G_iadd (pc' := 7) C dX6_hasRoom_6 rfl ?_
  refine G_bipush (v := (80 : Int32)) (pc' := 9) C dX6_hasRoom_7 (by decide) rfl ?_
  refine G_icmp_gt (tgt := 16) (pc' := 12) C dX6_hasRoom_9 (by decide) rfl hf (fun hf => ?_) (fun hf => ?_)
  · refine G_iconst (v := (0 : Int32)) (pc' := 17) C dX6_hasRoom_16 (by decide) rfl ?_
    exact G_zret C hR dX6_hasRoom_17 (by decide) ⟨Option.some.inj hf, rfl⟩
  · refine G_iconst (v := (1 : Int32)) (pc' := 13) C dX6_hasRoom_12 (by decide) rfl ?_
    refine G_goto (pc' := 17) C dX6_hasRoom_13 (by decide) ?_
    exact G_zret C hR dX6_hasRoom_17 (by decide) ⟨Option.some.inj hf, rfl⟩
theorem iu_X6_append_X6 : ∀ w ∈ wsX60, w ∈ wsX6_append := by decide +kernel
theorem lk_X6_append_15 : Cond.fieldLink RX6 15 "PrizeDesk$Tape" "size" "I" ∈ wsX6_append := by decide +kernel
theorem lk_X6_append_11 : Cond.fieldLink RX6 11 "PrizeDesk$Tape" "bytes" "[I" ∈ wsX6_append := by decide +kernel
abbrev rm_X6_append : Room := { frames := 0, cells := 0, slots := 0, locals := 0 }
theorem sg_X6_append : ZG yX6_append wsX6_append cX6_append 3 none RX6 1 rm_X6_append := ⟨⟨_, rfl⟩, by decide +kernel, rfl, rfl⟩
set_option maxHeartbeats 4000000 in
set_option maxRecDepth 100000 in
theorem w_X6_append_3 {ω : ZO} {κ : ZK} {N : Nat} {b1 : Int32} {K : Int32 → ZS → Option (ZS)} {r0 : ZS} (C : CX ω wD κ cX6_append wsX6_append RX6 none 3 rm_X6_append) (hR : zRV ω wD κ (fun τ => τ = r0)) (HK : ∀ (y2 : Int32) (τ : ZS), K y2 τ = some r0 → G ω wD κ 48 [(0, .ref (za ω 1))] [] τ) : ∀ (n : Nat) (y2 : Int32) (τ : ZS), L_X6_append_3 N b1 K n y2 τ = some r0 → G ω wD κ 3 [(0, .ref (za ω 1)), (1, .int b1), (2, .int y2)] [] τ := by
  intro n
  induction n with
  | zero => intro  y2 τ hf; exact absurd (show none = some r0 from hf) (fun h => nomatch h)
  | succ n ih =>
    intro y2 τ hf
    have hf : B_X6_append_3 N b1 K (L_X6_append_3 N b1 K n) y2 τ = some r0 := hf
    unfold B_X6_append_3 at hf
    refine G_iload_n (pc' := 4) C dX6_append_3 2 rfl rfl ?_
    refine G_if_lt (tgt := 48) (pc' := 7) C dX6_append_4 (by decide) rfl hf (fun hf => ?_) (fun hf => ?_)
    · refine G_sub (lv' := [(0, .ref (za ω 1))]) C [0] rfl ?_
      exact HK y2 τ hf
    · refine G_aload_n (pc' := 8) C dX6_append_7 0 rfl rfl ?_
      refine G_get (pc' := 11) C wD_1 rfl 1 (by decide) rfl iu_X6_append_X6 lk_X6_append_15 dX6_append_8 rfl ?_
      refine G_bipush (v := (80 : Int32)) (pc' := 13) C dX6_append_11 (by decide) rfl ?_
      refine G_icmp_ge (tgt := 42) (pc' := 16) C dX6_append_13 (by decide) rfl hf (fun hf => ?_) (fun hf => ?_)
      · refine G_iincL (v := y2 + (-8 : Int32)) (pc' := 45) C dX6_append_42 2 rfl rfl (by decide) [1, 2, 0] (fun x1 => [(0, .ref (za ω 1)), (1, .int b1), (2, .int x1)]) (fun _ => rfl) rfl hf (fun x1 hf => ?_)
        refine G_goto (pc' := 3) C dX6_append_45 (by decide) ?_
        exact ih x1 τ hf
      · refine G_aload_n (pc' := 17) C dX6_append_16 0 rfl rfl ?_
        refine G_get (pc' := 20) C wD_1 rfl 0 (by decide) rfl iu_X6_append_X6 lk_X6_append_11 dX6_append_17 rfl ?_
        refine G_aload_n (pc' := 21) C dX6_append_20 0 rfl rfl ?_
        refine G_get (pc' := 24) C wD_1 rfl 1 (by decide) rfl iu_X6_append_X6 lk_X6_append_15 dX6_append_21 rfl ?_
        refine G_iload_n (pc' := 25) C dX6_append_24 1 rfl rfl ?_
        refine G_iload_n (pc' := 26) C dX6_append_25 2 rfl rfl ?_
        refine G_ishr (pc' := 27) C dX6_append_26 rfl ?_
        refine G_sipush (v := (255 : Int32)) (pc' := 30) C dX6_append_27 (by decide) rfl ?_
        refine G_iand (pc' := 31) C dX6_append_30 rfl ?_
        refine G_iast (pc' := 32) C wD_2 wD_s2 dX6_append_31 rfl hf (fun s2 hf => ?_)
        refine G_aload_n (pc' := 33) C dX6_append_32 0 rfl rfl ?_
        refine G_dup (pc' := 34) C dX6_append_33 rfl rfl ?_
        refine G_get (pc' := 37) C wD_1 rfl 1 (by decide) rfl iu_X6_append_X6 lk_X6_append_15 dX6_append_34 rfl ?_
        refine G_iconst (v := (1 : Int32)) (pc' := 38) C dX6_append_37 (by decide) rfl ?_
        refine G_iadd (pc' := 39) C dX6_append_38 rfl ?_
        refine G_put (pc' := 42) C tyX6 tyX6_ok nmX6 wD_1 rfl 1 (by decide) (Nat.le_of_ble_eq_true rfl) iu_X6_append_X6 lk_X6_append_15 rfl (by decide +kernel) wD_f1_1 dX6_append_39 rfl hf (fun s3 hf => ?_)
        refine G_iincL (v := y2 + (-8 : Int32)) (pc' := 45) C dX6_append_42 2 rfl rfl (by decide) [1, 2, 0] (fun x4 => [(0, .ref (za ω 1)), (1, .int b1), (2, .int x4)]) (fun _ => rfl) rfl hf (fun x4 hf => ?_)
        refine G_goto (pc' := 3) C dX6_append_45 (by decide) ?_
        exact ih x4 s3 hf
set_option maxHeartbeats 4000000 in
set_option maxRecDepth 100000 in
theorem c_X6_append (ω : ZO) (N : Nat) (σ : ZS) (a1 : Int32) : ZVs ω wD yX6_append wsX6_append rm_X6_append [.ref (za ω 1), .int a1] σ (f_X6_append N σ a1) := by
  intro r0 hf
  refine ZV.go (cc := cX6_append) (maxL := 3) (ret := none) (own := RX6) (lv := [(0, .ref (za ω 1)), (1, .int a1)]) (by decide) rfl rfl (Nat.le_of_ble_eq_true rfl) rfl (fun κ C hR => ?_)
  unfold f_X6_append at hf
  refine G_bipush (v := (24 : Int32)) (pc' := 2) C dX6_append_0 (by decide) rfl ?_
  refine G_istore_n (lv' := [(0, .ref (za ω 1)), (1, .int a1), (2, .int (24 : Int32))]) (pc' := 3) C dX6_append_2 (by decide) [1, 2, 0] rfl rfl ?_
  refine w_X6_append_3 C hR (fun y5 s6 hf => ?_) N (24 : Int32) σ hf
  exact G_vret C hR dX6_append_48 (Option.some.inj hf)
theorem iu_X6_length_X6 : ∀ w ∈ wsX60, w ∈ wsX6_length := by decide +kernel
theorem lk_X6_length_15 : Cond.fieldLink RX6 15 "PrizeDesk$Tape" "size" "I" ∈ wsX6_length := by decide +kernel
abbrev rm_X6_length : Room := { frames := 0, cells := 0, slots := 0, locals := 0 }
theorem sg_X6_length : ZG yX6_length wsX6_length cX6_length 1 (some .int) RX6 0 rm_X6_length := ⟨⟨_, rfl⟩, by decide +kernel, rfl, rfl⟩
set_option maxHeartbeats 4000000 in
set_option maxRecDepth 100000 in
theorem c_X6_length (ω : ZO) (N : Nat) (σ : ZS) : ZIp ω wD yX6_length wsX6_length rm_X6_length [.ref (za ω 1)] σ (f_X6_length N σ) := by
  intro r0 hf
  refine ZI.go (cc := cX6_length) (maxL := 1) (ret := (some .int)) (own := RX6) (lv := [(0, .ref (za ω 1))]) (by decide) rfl rfl (Nat.le_of_ble_eq_true rfl) rfl (fun κ C hR => ?_)
  unfold f_X6_length at hf
  refine G_aload_n (pc' := 1) C dX6_length_0 0 rfl rfl ?_
  refine G_get (pc' := 4) C wD_1 rfl 1 (by decide) rfl iu_X6_length_X6 lk_X6_length_15 dX6_length_1 rfl ?_
  exact G_iret C hR dX6_length_4 ⟨Option.some.inj hf, rfl⟩
theorem iu_X7_feed_X7 : ∀ w ∈ wsX70, w ∈ wsX7_feed := by decide +kernel
theorem lk_X7_feed_10 : Cond.fieldLink RX7 10 "PrizeDesk" "tape" "LPrizeDesk$Tape;" ∈ wsX7_feed := by decide +kernel
abbrev rm_X7_feed : Room := { frames := 1, cells := 0, slots := 0, locals := 22 }
theorem sg_X7_feed : ZG yX7_feed wsX7_feed cX7_feed 6 (some .int) RX7 5 rm_X7_feed := ⟨⟨_, rfl⟩, by decide +kernel, rfl, rfl⟩
set_option maxHeartbeats 4000000 in
set_option maxRecDepth 100000 in
theorem c_X7_feed (ω : ZO) (N : Nat) (σ : ZS) (a1 : Int32) (a2 : Int32) (a3 : Int32) (a4 : Int32) (a5 : Int32) : ZIs ω wD yX7_feed wsX7_feed rm_X7_feed [.ref (za ω 0), .int a1, .int a2, .int a3, .int a4, .int a5] σ (f_X7_feed N σ a1 a2 a3 a4 a5) := by
  intro r0 hf
  refine ZI.go (cc := cX7_feed) (maxL := 6) (ret := (some .int)) (own := RX7) (lv := [(0, .ref (za ω 0)), (1, .int a1), (2, .int a2), (3, .int a3), (4, .int a4), (5, .int a5)]) (by decide) rfl rfl (Nat.le_of_ble_eq_true rfl) rfl (fun κ C hR => ?_)
  unfold f_X7_feed at hf
  refine G_aload_n (pc' := 1) C dX7_feed_0 0 rfl rfl ?_
  refine G_get (pc' := 4) C wD_0 rfl 0 (by decide) rfl iu_X7_feed_X7 lk_X7_feed_10 dX7_feed_1 rfl ?_
  refine G_callVp (pc' := 7) C [] (c_X6_hasRoom ω N σ) sg_X6_hasRoom gX7_feed_X6_hasRoom wD_1 rfl ⟨Nat.le_of_ble_eq_true rfl, Nat.le_of_ble_eq_true rfl⟩ rfl rfl (Nat.le_of_ble_eq_true rfl) dX7_feed_4 rfl hf (fun v1 hf => ?_)
  refine G_if_ne (tgt := 12) (pc' := 10) C dX7_feed_7 (by decide) rfl hf (fun hf => ?_) (fun hf => ?_)
  · refine G_iconst (v := (-1 : Int32)) (pc' := 11) C dX7_feed_10 (by decide) rfl ?_
    exact G_iret C hR dX7_feed_11 (Option.some.inj hf)
  · refine G_aload_n (pc' := 13) C dX7_feed_12 0 rfl rfl ?_
    refine G_get (pc' := 16) C wD_0 rfl 0 (by decide) rfl iu_X7_feed_X7 lk_X7_feed_10 dX7_feed_13 rfl ?_
    refine G_iload_n (pc' := 17) C dX7_feed_16 1 rfl rfl ?_
    refine G_callVv (pc' := 20) C [.int a1] (c_X6_append ω N σ a1) sg_X6_append gX7_feed_X6_append wD_1 rfl ⟨Nat.le_of_ble_eq_true rfl, Nat.le_of_ble_eq_true rfl⟩ rfl rfl (Nat.le_of_ble_eq_true rfl) dX7_feed_17 rfl hf (fun s2 hf => ?_)
    refine G_aload_n (pc' := 21) C dX7_feed_20 0 rfl rfl ?_
    refine G_get (pc' := 24) C wD_0 rfl 0 (by decide) rfl iu_X7_feed_X7 lk_X7_feed_10 dX7_feed_21 rfl ?_
    refine G_iload_n (pc' := 25) C dX7_feed_24 2 rfl rfl ?_
    refine G_callVv (pc' := 28) C [.int a2] (c_X6_append ω N s2 a2) sg_X6_append gX7_feed_X6_append wD_1 rfl ⟨Nat.le_of_ble_eq_true rfl, Nat.le_of_ble_eq_true rfl⟩ rfl rfl (Nat.le_of_ble_eq_true rfl) dX7_feed_25 rfl hf (fun s3 hf => ?_)
    refine G_aload_n (pc' := 29) C dX7_feed_28 0 rfl rfl ?_
    refine G_get (pc' := 32) C wD_0 rfl 0 (by decide) rfl iu_X7_feed_X7 lk_X7_feed_10 dX7_feed_29 rfl ?_
    refine G_iload_n (pc' := 33) C dX7_feed_32 3 rfl rfl ?_
    refine G_callVv (pc' := 36) C [.int a3] (c_X6_append ω N s3 a3) sg_X6_append gX7_feed_X6_append wD_1 rfl ⟨Nat.le_of_ble_eq_true rfl, Nat.le_of_ble_eq_true rfl⟩ rfl rfl (Nat.le_of_ble_eq_true rfl) dX7_feed_33 rfl hf (fun s4 hf => ?_)
    refine G_aload_n (pc' := 37) C dX7_feed_36 0 rfl rfl ?_
    refine G_get (pc' := 40) C wD_0 rfl 0 (by decide) rfl iu_X7_feed_X7 lk_X7_feed_10 dX7_feed_37 rfl ?_
    refine G_iload (pc' := 42) C dX7_feed_40 4 rfl rfl ?_
    refine G_callVv (pc' := 45) C [.int a4] (c_X6_append ω N s4 a4) sg_X6_append gX7_feed_X6_append wD_1 rfl ⟨Nat.le_of_ble_eq_true rfl, Nat.le_of_ble_eq_true rfl⟩ rfl rfl (Nat.le_of_ble_eq_true rfl) dX7_feed_42 rfl hf (fun s5 hf => ?_)
    refine G_aload_n (pc' := 46) C dX7_feed_45 0 rfl rfl ?_
    refine G_get (pc' := 49) C wD_0 rfl 0 (by decide) rfl iu_X7_feed_X7 lk_X7_feed_10 dX7_feed_46 rfl ?_
    refine G_iload (pc' := 51) C dX7_feed_49 5 rfl rfl ?_
    refine G_callVv (pc' := 54) C [.int a5] (c_X6_append ω N s5 a5) sg_X6_append gX7_feed_X6_append wD_1 rfl ⟨Nat.le_of_ble_eq_true rfl, Nat.le_of_ble_eq_true rfl⟩ rfl rfl (Nat.le_of_ble_eq_true rfl) dX7_feed_51 rfl hf (fun s6 hf => ?_)
    refine G_aload_n (pc' := 55) C dX7_feed_54 0 rfl rfl ?_
    refine G_get (pc' := 58) C wD_0 rfl 0 (by decide) rfl iu_X7_feed_X7 lk_X7_feed_10 dX7_feed_55 rfl ?_
    refine G_callVp (pc' := 61) C [] (c_X6_length ω N s6) sg_X6_length gX7_feed_X6_length wD_1 rfl ⟨Nat.le_of_ble_eq_true rfl, Nat.le_of_ble_eq_true rfl⟩ rfl rfl (Nat.le_of_ble_eq_true rfl) dX7_feed_58 rfl hf (fun v7 hf => ?_)
    exact G_iret C hR dX7_feed_61 (Option.some.inj hf)
abbrev rm_X7_isWithin : Room := { frames := 0, cells := 0, slots := 0, locals := 0 }
theorem sg_X7_isWithin : ZG yX7_isWithin wsX7_isWithin cX7_isWithin 3 (some .boolean) RX7 3 rm_X7_isWithin := ⟨⟨_, rfl⟩, by decide +kernel, rfl, rfl⟩
set_option maxHeartbeats 4000000 in
set_option maxRecDepth 100000 in
theorem c_X7_isWithin (ω : ZO) (N : Nat) (σ : ZS) (a0 : Int32) (a1 : Int32) (a2 : Int32) : ZIp ω wD yX7_isWithin wsX7_isWithin rm_X7_isWithin [.int a0, .int a1, .int a2] σ (f_X7_isWithin N σ a0 a1 a2) := by
  intro r0 hf
  refine ZI.go (cc := cX7_isWithin) (maxL := 3) (ret := (some .boolean)) (own := RX7) (lv := [(0, .int a0), (1, .int a1), (2, .int a2)]) (by decide) rfl rfl (Nat.le_of_ble_eq_true rfl) rfl (fun κ C hR => ?_)
  unfold f_X7_isWithin at hf
  refine G_iload_n (pc' := 1) C dX7_isWithin_0 0 rfl rfl ?_
  refine G_iload_n (pc' := 2) C dX7_isWithin_1 1 rfl rfl ?_
  refine G_icmp_lt (tgt := 14) (pc' := 5) C dX7_isWithin_2 (by decide) rfl hf (fun hf => ?_) (fun hf => ?_)
  · refine G_iconst (v := (0 : Int32)) (pc' := 15) C dX7_isWithin_14 (by decide) rfl ?_
    exact G_zret C hR dX7_isWithin_15 (by decide) ⟨Option.some.inj hf, rfl⟩
  · refine G_iload_n (pc' := 6) C dX7_isWithin_5 0 rfl rfl ?_
    refine G_iload_n (pc' := 7) C dX7_isWithin_6 2 rfl rfl ?_
    refine G_icmp_gt (tgt := 14) (pc' := 10) C dX7_isWithin_7 (by decide) rfl hf (fun hf => ?_) (fun hf => ?_)
    · refine G_iconst (v := (0 : Int32)) (pc' := 15) C dX7_isWithin_14 (by decide) rfl ?_
      exact G_zret C hR dX7_isWithin_15 (by decide) ⟨Option.some.inj hf, rfl⟩
    · refine G_iconst (v := (1 : Int32)) (pc' := 11) C dX7_isWithin_10 (by decide) rfl ?_
      refine G_goto (pc' := 15) C dX7_isWithin_11 (by decide) ?_
      exact G_zret C hR dX7_isWithin_15 (by decide) ⟨Option.some.inj hf, rfl⟩
theorem lk_X6_holds_19n : Cond.methodLinkNest RX6 19 yX7_isWithin RX7 ∈ zNws := by decide +kernel
theorem lk_X6_holds_19s : Cond.static yX7_isWithin ∈ wsX6_holds := by decide +kernel
theorem lk_X6_holds_19i : Cond.initialized yX7_isWithin.cls ∈ wsX6_holds := by decide +kernel
theorem iu_X6_holds_X6 : ∀ w ∈ wsX60, w ∈ wsX6_holds := by decide +kernel
theorem lk_X6_holds_15 : Cond.fieldLink RX6 15 "PrizeDesk$Tape" "size" "I" ∈ wsX6_holds := by decide +kernel
abbrev rm_X6_holds : Room := { frames := 1, cells := 0, slots := 0, locals := 22 }
theorem sg_X6_holds : ZG yX6_holds wsX6_holds cX6_holds 2 (some .boolean) RX6 1 rm_X6_holds := ⟨⟨_, rfl⟩, by decide +kernel, rfl, rfl⟩
set_option maxHeartbeats 4000000 in
set_option maxRecDepth 100000 in
theorem c_X6_holds (ω : ZO) (N : Nat) (σ : ZS) (a1 : Int32) : ZIp ω wD yX6_holds wsX6_holds rm_X6_holds [.ref (za ω 1), .int a1] σ (f_X6_holds N σ a1) := by
  intro r0 hf
  refine ZI.go (cc := cX6_holds) (maxL := 2) (ret := (some .boolean)) (own := RX6) (lv := [(0, .ref (za ω 1)), (1, .int a1)]) (by decide) rfl rfl (Nat.le_of_ble_eq_true rfl) rfl (fun κ C hR => ?_)
  unfold f_X6_holds at hf
  refine G_iload_n (pc' := 1) C dX6_holds_0 1 rfl rfl ?_
  refine G_iconst (v := (0 : Int32)) (pc' := 2) C dX6_holds_1 (by decide) rfl ?_
  refine G_aload_n (pc' := 3) C dX6_holds_2 0 rfl rfl ?_
  refine G_get (pc' := 6) C wD_1 rfl 1 (by decide) rfl iu_X6_holds_X6 lk_X6_holds_15 dX6_holds_3 rfl ?_
  refine G_callNp (pc' := 9) C [.int a1, .int (0 : Int32), .int (σ 1 1)] (c_X7_isWithin ω N σ a1 (0 : Int32) (σ 1 1)) sg_X7_isWithin gX6_holds_X7_isWithin_n19 lk_X6_holds_19n lk_X6_holds_19s lk_X6_holds_19i ⟨Nat.le_of_ble_eq_true rfl, Nat.le_of_ble_eq_true rfl⟩ rfl rfl (Nat.le_of_ble_eq_true rfl) dX6_holds_6 rfl hf (fun v1 hf => ?_)
  exact G_zret C hR dX6_holds_9 (g_zr_some hf).1 ⟨Option.some.inj (g_zr_some hf).2, rfl⟩
theorem iu_X6_keep_X6 : ∀ w ∈ wsX60, w ∈ wsX6_keep := by decide +kernel
theorem lk_X6_keep_15 : Cond.fieldLink RX6 15 "PrizeDesk$Tape" "size" "I" ∈ wsX6_keep := by decide +kernel
abbrev rm_X6_keep : Room := { frames := 2, cells := 0, slots := 0, locals := 43 }
theorem sg_X6_keep : ZG yX6_keep wsX6_keep cX6_keep 2 none RX6 1 rm_X6_keep := ⟨⟨_, rfl⟩, by decide +kernel, rfl, rfl⟩
set_option maxHeartbeats 4000000 in
set_option maxRecDepth 100000 in
theorem c_X6_keep (ω : ZO) (N : Nat) (σ : ZS) (a1 : Int32) : ZVs ω wD yX6_keep wsX6_keep rm_X6_keep [.ref (za ω 1), .int a1] σ (f_X6_keep N σ a1) := by
  intro r0 hf
  refine ZV.go (cc := cX6_keep) (maxL := 2) (ret := none) (own := RX6) (lv := [(0, .ref (za ω 1)), (1, .int a1)]) (by decide) rfl rfl (Nat.le_of_ble_eq_true rfl) rfl (fun κ C hR => ?_)
  unfold f_X6_keep at hf
  refine G_aload_n (pc' := 1) C dX6_keep_0 0 rfl rfl ?_
  refine G_iload_n (pc' := 2) C dX6_keep_1 1 rfl rfl ?_
  refine G_callVp (pc' := 5) C [.int a1] (c_X6_holds ω N σ a1) sg_X6_holds gX6_keep_X6_holds wD_1 rfl ⟨Nat.le_of_ble_eq_true rfl, Nat.le_of_ble_eq_true rfl⟩ rfl rfl (Nat.le_of_ble_eq_true rfl) dX6_keep_2 rfl hf (fun v1 hf => ?_)
  refine G_if_eq (tgt := 13) (pc' := 8) C dX6_keep_5 (by decide) rfl hf (fun hf => ?_) (fun hf => ?_)
  · exact G_vret C hR dX6_keep_13 (Option.some.inj hf)
  · refine G_aload_n (pc' := 9) C dX6_keep_8 0 rfl rfl ?_
    refine G_iload_n (pc' := 10) C dX6_keep_9 1 rfl rfl ?_
    refine G_put (pc' := 13) C tyX6 tyX6_ok nmX6 wD_1 rfl 1 (by decide) (Nat.le_of_ble_eq_true rfl) iu_X6_keep_X6 lk_X6_keep_15 rfl (by decide +kernel) wD_f1_1 dX6_keep_10 rfl hf (fun s2 hf => ?_)
    exact G_vret C hR dX6_keep_13 (Option.some.inj hf)
abbrev rm_X3_copy_s1_5 : Room := { frames := 0, cells := 0, slots := 0, locals := 0 }
theorem sg_X3_copy_s1_5 : ZG yX3_copy wsX3_copy cX3_copy 3 none RX3 2 rm_X3_copy_s1_5 := ⟨⟨_, rfl⟩, by decide +kernel, rfl, rfl⟩
set_option maxHeartbeats 4000000 in
set_option maxRecDepth 100000 in
theorem w_X3_copy_s1_5_2 {ω : ZO} {κ : ZK} {N : Nat} {K : Int32 → ZS → Option (ZS)} {r0 : ZS} (C : CX ω wD κ cX3_copy wsX3_copy RX3 none 3 rm_X3_copy_s1_5) (hR : zRV ω wD κ (fun τ => τ = r0)) (HK : ∀ (y2 : Int32) (τ : ZS), K y2 τ = some r0 → G ω wD κ 20 [(0, .ref (zS ω 1)), (1, .ref (za ω 5))] [] τ) : ∀ (n : Nat) (y2 : Int32) (τ : ZS), L_X3_copy_s1_5_2 N K n y2 τ = some r0 → G ω wD κ 2 [(0, .ref (zS ω 1)), (1, .ref (za ω 5)), (2, .int y2)] [] τ := by
  intro n
  induction n with
  | zero => intro  y2 τ hf; exact absurd (show none = some r0 from hf) (fun h => nomatch h)
  | succ n ih =>
    intro y2 τ hf
    have hf : B_X3_copy_s1_5_2 N K (L_X3_copy_s1_5_2 N K n) y2 τ = some r0 := hf
    unfold B_X3_copy_s1_5_2 at hf
    refine G_iload_n (pc' := 3) C dX3_copy_2 2 rfl rfl ?_
    refine G_bipush (v := (11 : Int32)) (pc' := 5) C dX3_copy_3 (by decide) rfl ?_
    refine G_icmp_ge (tgt := 20) (pc' := 8) C dX3_copy_5 (by decide) rfl hf (fun hf => ?_) (fun hf => ?_)
    · refine G_sub (lv' := [(0, .ref (zS ω 1)), (1, .ref (za ω 5))]) C [0, 1] rfl ?_
      exact HK y2 τ hf
    · refine G_aload_n (pc' := 9) C dX3_copy_8 1 rfl rfl ?_
      refine G_iload_n (pc' := 10) C dX3_copy_9 2 rfl rfl ?_
      refine G_aload_n (pc' := 11) C dX3_copy_10 0 rfl rfl ?_
      refine G_iload_n (pc' := 12) C dX3_copy_11 2 rfl rfl ?_
      refine G_tald (pc' := 13) C 1 (by decide) dX3_copy_12 rfl hf (fun v1 hf => ?_)
      refine G_iast (pc' := 14) C wD_5 wD_s5 dX3_copy_13 rfl hf (fun s2 hf => ?_)
      refine G_iincL (v := y2 + (1 : Int32)) (pc' := 17) C dX3_copy_14 2 rfl rfl (by decide) [1, 2, 0] (fun x3 => [(0, .ref (zS ω 1)), (1, .ref (za ω 5)), (2, .int x3)]) (fun _ => rfl) rfl hf (fun x3 hf => ?_)
      refine G_goto (pc' := 2) C dX3_copy_17 (by decide) ?_
      exact ih x3 s2 hf
set_option maxHeartbeats 4000000 in
set_option maxRecDepth 100000 in
theorem c_X3_copy_s1_5 (ω : ZO) (N : Nat) (σ : ZS) : ZVs ω wD yX3_copy wsX3_copy rm_X3_copy_s1_5 [.ref (zS ω 1), .ref (za ω 5)] σ (f_X3_copy_s1_5 N σ) := by
  intro r0 hf
  refine ZV.go (cc := cX3_copy) (maxL := 3) (ret := none) (own := RX3) (lv := [(0, .ref (zS ω 1)), (1, .ref (za ω 5))]) (by decide) rfl rfl (Nat.le_of_ble_eq_true rfl) rfl (fun κ C hR => ?_)
  unfold f_X3_copy_s1_5 at hf
  refine G_iconst (v := (0 : Int32)) (pc' := 1) C dX3_copy_0 (by decide) rfl ?_
  refine G_istore_n (lv' := [(0, .ref (zS ω 1)), (1, .ref (za ω 5)), (2, .int (0 : Int32))]) (pc' := 2) C dX3_copy_1 (by decide) [1, 2, 0] rfl rfl ?_
  refine w_X3_copy_s1_5_2 C hR (fun y4 s5 hf => ?_) N (0 : Int32) σ hf
  exact G_vret C hR dX3_copy_20 (Option.some.inj hf)
theorem lk_X6_byteAt_19n : Cond.methodLinkNest RX6 19 yX7_isWithin RX7 ∈ zNws := by decide +kernel
theorem lk_X6_byteAt_19s : Cond.static yX7_isWithin ∈ wsX6_byteAt := by decide +kernel
theorem lk_X6_byteAt_19i : Cond.initialized yX7_isWithin.cls ∈ wsX6_byteAt := by decide +kernel
theorem iu_X6_byteAt_X6 : ∀ w ∈ wsX60, w ∈ wsX6_byteAt := by decide +kernel
theorem lk_X6_byteAt_11 : Cond.fieldLink RX6 11 "PrizeDesk$Tape" "bytes" "[I" ∈ wsX6_byteAt := by decide +kernel
theorem lk_X6_byteAt_15 : Cond.fieldLink RX6 15 "PrizeDesk$Tape" "size" "I" ∈ wsX6_byteAt := by decide +kernel
abbrev rm_X6_byteAt : Room := { frames := 1, cells := 0, slots := 0, locals := 22 }
theorem sg_X6_byteAt : ZG yX6_byteAt wsX6_byteAt cX6_byteAt 2 (some .int) RX6 1 rm_X6_byteAt := ⟨⟨_, rfl⟩, by decide +kernel, rfl, rfl⟩
set_option maxHeartbeats 4000000 in
set_option maxRecDepth 100000 in
theorem c_X6_byteAt (ω : ZO) (N : Nat) (σ : ZS) (a1 : Int32) : ZIp ω wD yX6_byteAt wsX6_byteAt rm_X6_byteAt [.ref (za ω 1), .int a1] σ (f_X6_byteAt N σ a1) := by
  intro r0 hf
  refine ZI.go (cc := cX6_byteAt) (maxL := 2) (ret := (some .int)) (own := RX6) (lv := [(0, .ref (za ω 1)), (1, .int a1)]) (by decide) rfl rfl (Nat.le_of_ble_eq_true rfl) rfl (fun κ C hR => ?_)
  unfold f_X6_byteAt at hf
  refine G_iload_n (pc' := 1) C dX6_byteAt_0 1 rfl rfl ?_
  refine G_iconst (v := (0 : Int32)) (pc' := 2) C dX6_byteAt_1 (by decide) rfl ?_
  refine G_aload_n (pc' := 3) C dX6_byteAt_2 0 rfl rfl ?_
  refine G_get (pc' := 6) C wD_1 rfl 1 (by decide) rfl iu_X6_byteAt_X6 lk_X6_byteAt_15 dX6_byteAt_3 rfl ?_
  refine G_iconst (v := (1 : Int32)) (pc' := 7) C dX6_byteAt_6 (by decide) rfl ?_
  refine G_isub (pc' := 8) C dX6_byteAt_7 rfl ?_
  refine G_callNp (pc' := 11) C [.int a1, .int (0 : Int32), .int ((σ 1 1) - (1 : Int32))] (c_X7_isWithin ω N σ a1 (0 : Int32) ((σ 1 1) - (1 : Int32))) sg_X7_isWithin gX6_byteAt_X7_isWithin_n19 lk_X6_byteAt_19n lk_X6_byteAt_19s lk_X6_byteAt_19i ⟨Nat.le_of_ble_eq_true rfl, Nat.le_of_ble_eq_true rfl⟩ rfl rfl (Nat.le_of_ble_eq_true rfl) dX6_byteAt_8 rfl hf (fun v1 hf => ?_)
  refine G_if_eq (tgt := 23) (pc' := 14) C dX6_byteAt_11 (by decide) rfl hf (fun hf => ?_) (fun hf => ?_)
  · refine G_iconst (v := (-1 : Int32)) (pc' := 24) C dX6_byteAt_23 (by decide) rfl ?_
    exact G_iret C hR dX6_byteAt_24 ⟨Option.some.inj hf, rfl⟩
  · refine G_aload_n (pc' := 15) C dX6_byteAt_14 0 rfl rfl ?_
    refine G_get (pc' := 18) C wD_1 rfl 0 (by decide) rfl iu_X6_byteAt_X6 lk_X6_byteAt_11 dX6_byteAt_15 rfl ?_
    refine G_iload_n (pc' := 19) C dX6_byteAt_18 1 rfl rfl ?_
    refine G_iald (pc' := 20) C wD_2 dX6_byteAt_19 rfl hf (fun v2 hf => ?_)
    refine G_goto (pc' := 24) C dX6_byteAt_20 (by decide) ?_
    exact G_iret C hR dX6_byteAt_24 ⟨Option.some.inj hf, rfl⟩
theorem lk_X3_indexOf_28 : Cond.fieldLink RX3 28 "PrizeDesk$Rules" "LETTERS" "[I" ∈ wsX3_indexOf := by decide +kernel
abbrev rm_X3_indexOf : Room := { frames := 0, cells := 0, slots := 0, locals := 0 }
theorem sg_X3_indexOf : ZG yX3_indexOf wsX3_indexOf cX3_indexOf 2 (some .int) RX3 1 rm_X3_indexOf := ⟨⟨_, rfl⟩, by decide +kernel, rfl, rfl⟩
set_option maxHeartbeats 4000000 in
set_option maxRecDepth 100000 in
theorem w_X3_indexOf_2 {ω : ZO} {κ : ZK} {N : Nat} {σ : ZS} {b0 : Int32} {K : Int32 → Option (Int32)} {r0 : Int32} (C : CX ω wD κ cX3_indexOf wsX3_indexOf RX3 (some .int) 2 rm_X3_indexOf) (hR : zRI ω wD κ (fun v τ => v = r0 ∧ τ = σ)) (HK : ∀ (y1 : Int32), K y1 = some r0 → G ω wD κ 25 [] [] σ) : ∀ (n : Nat) (y1 : Int32), L_X3_indexOf_2 N σ b0 K n y1 = some r0 → G ω wD κ 2 [(0, .int b0), (1, .int y1)] [] σ := by
  intro n
  induction n with
  | zero => intro  y1 hf; exact absurd (show none = some r0 from hf) (fun h => nomatch h)
  | succ n ih =>
    intro y1 hf
    have hf : B_X3_indexOf_2 N σ b0 K (L_X3_indexOf_2 N σ b0 K n) y1 = some r0 := hf
    unfold B_X3_indexOf_2 at hf
    refine G_iload_n (pc' := 3) C dX3_indexOf_2 1 rfl rfl ?_
    refine G_bipush (v := (11 : Int32)) (pc' := 5) C dX3_indexOf_3 (by decide) rfl ?_
    refine G_icmp_ge (tgt := 25) (pc' := 8) C dX3_indexOf_5 (by decide) rfl hf (fun hf => ?_) (fun hf => ?_)
    · refine G_sub (lv' := []) C [] rfl ?_
      exact HK y1 hf
    · refine G_gets (pc' := 11) C 0 (by decide) lk_X3_indexOf_28 dX3_indexOf_8 rfl ?_
      refine G_iload_n (pc' := 12) C dX3_indexOf_11 1 rfl rfl ?_
      refine G_tald (pc' := 13) C 0 (by decide) dX3_indexOf_12 rfl hf (fun v1 hf => ?_)
      refine G_iload_n (pc' := 14) C dX3_indexOf_13 0 rfl rfl ?_
      refine G_icmp_ne (tgt := 19) (pc' := 17) C dX3_indexOf_14 (by decide) rfl hf (fun hf => ?_) (fun hf => ?_)
      · refine G_iload_n (pc' := 18) C dX3_indexOf_17 1 rfl rfl ?_
        exact G_iret C hR dX3_indexOf_18 ⟨Option.some.inj hf, rfl⟩
      · refine G_iincL (v := y1 + (1 : Int32)) (pc' := 22) C dX3_indexOf_19 1 rfl rfl (by decide) [1, 0] (fun x2 => [(0, .int b0), (1, .int x2)]) (fun _ => rfl) rfl hf (fun x2 hf => ?_)
        refine G_goto (pc' := 2) C dX3_indexOf_22 (by decide) ?_
        exact ih x2 hf
set_option maxHeartbeats 4000000 in
set_option maxRecDepth 100000 in
theorem c_X3_indexOf (ω : ZO) (N : Nat) (σ : ZS) (a0 : Int32) : ZIp ω wD yX3_indexOf wsX3_indexOf rm_X3_indexOf [.int a0] σ (f_X3_indexOf N σ a0) := by
  intro r0 hf
  refine ZI.go (cc := cX3_indexOf) (maxL := 2) (ret := (some .int)) (own := RX3) (lv := [(0, .int a0)]) (by decide) rfl rfl (Nat.le_of_ble_eq_true rfl) rfl (fun κ C hR => ?_)
  unfold f_X3_indexOf at hf
  refine G_iconst (v := (0 : Int32)) (pc' := 1) C dX3_indexOf_0 (by decide) rfl ?_
  refine G_istore_n (lv' := [(0, .int a0), (1, .int (0 : Int32))]) (pc' := 2) C dX3_indexOf_1 (by decide) [1, 0] rfl rfl ?_
  refine w_X3_indexOf_2 C hR (fun y3 hf => ?_) N (0 : Int32) hf
  refine G_iconst (v := (-1 : Int32)) (pc' := 26) C dX3_indexOf_25 (by decide) rfl ?_
  exact G_iret C hR dX3_indexOf_26 ⟨Option.some.inj hf, rfl⟩
theorem lk_X3_digitsFrom_31n : Cond.methodLinkNest RX3 31 yX7_isWithin RX7 ∈ zNws := by decide +kernel
theorem lk_X3_digitsFrom_31s : Cond.static yX7_isWithin ∈ wsX3_digitsFrom := by decide +kernel
theorem lk_X3_digitsFrom_31i : Cond.initialized yX7_isWithin.cls ∈ wsX3_digitsFrom := by decide +kernel
abbrev rm_X3_digitsFrom : Room := { frames := 2, cells := 0, slots := 0, locals := 43 }
theorem sg_X3_digitsFrom : ZG yX3_digitsFrom wsX3_digitsFrom cX3_digitsFrom 3 (some .int) RX3 2 rm_X3_digitsFrom := ⟨⟨_, rfl⟩, by decide +kernel, rfl, rfl⟩
set_option maxHeartbeats 4000000 in
set_option maxRecDepth 100000 in
theorem w_X3_digitsFrom_2 {ω : ZO} {κ : ZK} {N : Nat} {σ : ZS} {b1 : Int32} {K : Int32 → Option (Int32)} {r0 : Int32} (C : CX ω wD κ cX3_digitsFrom wsX3_digitsFrom RX3 (some .int) 3 rm_X3_digitsFrom) (hR : zRI ω wD κ (fun v τ => v = r0 ∧ τ = σ)) (HK : ∀ (y2 : Int32), K y2 = some r0 → G ω wD κ 32 [(0, .ref (za ω 1))] [] σ) : ∀ (n : Nat) (y2 : Int32), L_X3_digitsFrom_2 N σ b1 K n y2 = some r0 → G ω wD κ 2 [(0, .ref (za ω 1)), (1, .int b1), (2, .int y2)] [] σ := by
  intro n
  induction n with
  | zero => intro  y2 hf; exact absurd (show none = some r0 from hf) (fun h => nomatch h)
  | succ n ih =>
    intro y2 hf
    have hf : B_X3_digitsFrom_2 N σ b1 K (L_X3_digitsFrom_2 N σ b1 K n) y2 = some r0 := hf
    unfold B_X3_digitsFrom_2 at hf
    refine G_iload_n (pc' := 3) C dX3_digitsFrom_2 2 rfl rfl ?_
    refine G_iconst (v := (4 : Int32)) (pc' := 4) C dX3_digitsFrom_3 (by decide) rfl ?_
    refine G_icmp_gt (tgt := 32) (pc' := 7) C dX3_digitsFrom_4 (by decide) rfl hf (fun hf => ?_) (fun hf => ?_)
    · refine G_sub (lv' := [(0, .ref (za ω 1))]) C [0] rfl ?_
      exact HK y2 hf
    · refine G_aload_n (pc' := 8) C dX3_digitsFrom_7 0 rfl rfl ?_
      refine G_iload_n (pc' := 9) C dX3_digitsFrom_8 1 rfl rfl ?_
      refine G_iload_n (pc' := 10) C dX3_digitsFrom_9 2 rfl rfl ?_
      refine G_iadd (pc' := 11) C dX3_digitsFrom_10 rfl ?_
      refine G_callVp (pc' := 14) C [.int (b1 + y2)] (c_X6_byteAt ω N σ (b1 + y2)) sg_X6_byteAt gX3_digitsFrom_X6_byteAt wD_1 rfl ⟨Nat.le_of_ble_eq_true rfl, Nat.le_of_ble_eq_true rfl⟩ rfl rfl (Nat.le_of_ble_eq_true rfl) dX3_digitsFrom_11 rfl hf (fun v1 hf => ?_)
      refine G_bipush (v := (48 : Int32)) (pc' := 16) C dX3_digitsFrom_14 (by decide) rfl ?_
      refine G_bipush (v := (57 : Int32)) (pc' := 18) C dX3_digitsFrom_16 (by decide) rfl ?_
      refine G_callNp (pc' := 21) C [.int v1, .int (48 : Int32), .int (57 : Int32)] (c_X7_isWithin ω N σ v1 (48 : Int32) (57 : Int32)) sg_X7_isWithin gX3_digitsFrom_X7_isWithin_n31 lk_X3_digitsFrom_31n lk_X3_digitsFrom_31s lk_X3_digitsFrom_31i ⟨Nat.le_of_ble_eq_true rfl, Nat.le_of_ble_eq_true rfl⟩ rfl rfl (Nat.le_of_ble_eq_true rfl) dX3_digitsFrom_18 rfl hf (fun v2 hf => ?_)
      refine G_if_ne (tgt := 26) (pc' := 24) C dX3_digitsFrom_21 (by decide) rfl hf (fun hf => ?_) (fun hf => ?_)
      · refine G_iload_n (pc' := 25) C dX3_digitsFrom_24 2 rfl rfl ?_
        exact G_iret C hR dX3_digitsFrom_25 ⟨Option.some.inj hf, rfl⟩
      · refine G_iincL (v := y2 + (1 : Int32)) (pc' := 29) C dX3_digitsFrom_26 2 rfl rfl (by decide) [1, 2, 0] (fun x3 => [(0, .ref (za ω 1)), (1, .int b1), (2, .int x3)]) (fun _ => rfl) rfl hf (fun x3 hf => ?_)
        refine G_goto (pc' := 2) C dX3_digitsFrom_29 (by decide) ?_
        exact ih x3 hf
set_option maxHeartbeats 4000000 in
set_option maxRecDepth 100000 in
theorem c_X3_digitsFrom (ω : ZO) (N : Nat) (σ : ZS) (a1 : Int32) : ZIp ω wD yX3_digitsFrom wsX3_digitsFrom rm_X3_digitsFrom [.ref (za ω 1), .int a1] σ (f_X3_digitsFrom N σ a1) := by
  intro r0 hf
  refine ZI.go (cc := cX3_digitsFrom) (maxL := 3) (ret := (some .int)) (own := RX3) (lv := [(0, .ref (za ω 1)), (1, .int a1)]) (by decide) rfl rfl (Nat.le_of_ble_eq_true rfl) rfl (fun κ C hR => ?_)
  unfold f_X3_digitsFrom at hf
  refine G_iconst (v := (0 : Int32)) (pc' := 1) C dX3_digitsFrom_0 (by decide) rfl ?_
  refine G_istore_n (lv' := [(0, .ref (za ω 1)), (1, .int a1), (2, .int (0 : Int32))]) (pc' := 2) C dX3_digitsFrom_1 (by decide) [1, 2, 0] rfl rfl ?_
  refine w_X3_digitsFrom_2 C hR (fun y4 hf => ?_) N (0 : Int32) hf
  refine G_iconst (v := (5 : Int32)) (pc' := 33) C dX3_digitsFrom_32 (by decide) rfl ?_
  exact G_iret C hR dX3_digitsFrom_33 ⟨Option.some.inj hf, rfl⟩
abbrev rm_X3_numberOf : Room := { frames := 2, cells := 0, slots := 0, locals := 43 }
theorem sg_X3_numberOf : ZG yX3_numberOf wsX3_numberOf cX3_numberOf 5 (some .int) RX3 3 rm_X3_numberOf := ⟨⟨_, rfl⟩, by decide +kernel, rfl, rfl⟩
set_option maxHeartbeats 4000000 in
set_option maxRecDepth 100000 in
theorem w_X3_numberOf_5 {ω : ZO} {κ : ZK} {N : Nat} {σ : ZS} {b2 : Int32} {K : Int32 → Int32 → Option (Int32)} {r0 : Int32} (C : CX ω wD κ cX3_numberOf wsX3_numberOf RX3 (some .int) 5 rm_X3_numberOf) (hR : zRI ω wD κ (fun v τ => v = r0 ∧ τ = σ)) (HK : ∀ (y3 : Int32) (y4 : Int32), K y3 y4 = some r0 → G ω wD κ 32 [(0, .ref (za ω 1)), (3, .int y3)] [] σ) : ∀ (n : Nat) (y3 : Int32) (y4 : Int32), L_X3_numberOf_5 N σ b2 K n y3 y4 = some r0 → G ω wD κ 5 [(0, .ref (za ω 1)), (2, .int b2), (3, .int y3), (4, .int y4)] [] σ := by
  intro n
  induction n with
  | zero => intro  y3 y4 hf; exact absurd (show none = some r0 from hf) (fun h => nomatch h)
  | succ n ih =>
    intro y3 y4 hf
    have hf : B_X3_numberOf_5 N σ b2 K (L_X3_numberOf_5 N σ b2 K n) y3 y4 = some r0 := hf
    unfold B_X3_numberOf_5 at hf
    refine G_iload (pc' := 7) C dX3_numberOf_5 3 rfl rfl ?_
    refine G_iload_n (pc' := 8) C dX3_numberOf_7 1 rfl rfl ?_
    refine G_icmp_ge (tgt := 32) (pc' := 11) C dX3_numberOf_8 (by decide) rfl hf (fun hf => ?_) (fun hf => ?_)
    · refine G_sub (lv' := [(0, .ref (za ω 1)), (3, .int y3)]) C [0, 2] rfl ?_
      exact HK y3 y4 hf
    · refine G_bipush (v := (10 : Int32)) (pc' := 13) C dX3_numberOf_11 (by decide) rfl ?_
      refine G_iload_n (pc' := 14) C dX3_numberOf_13 2 rfl rfl ?_
      refine G_imul (pc' := 15) C dX3_numberOf_14 rfl ?_
      refine G_aload_n (pc' := 16) C dX3_numberOf_15 0 rfl rfl ?_
      refine G_iload (pc' := 18) C dX3_numberOf_16 3 rfl rfl ?_
      refine G_callVp (pc' := 21) C [.int y4] (c_X6_byteAt ω N σ y4) sg_X6_byteAt gX3_numberOf_X6_byteAt wD_1 rfl ⟨Nat.le_of_ble_eq_true rfl, Nat.le_of_ble_eq_true rfl⟩ rfl rfl (Nat.le_of_ble_eq_true rfl) dX3_numberOf_18 rfl hf (fun v1 hf => ?_)
      refine G_iadd (pc' := 22) C dX3_numberOf_21 rfl ?_
      refine G_bipush (v := (48 : Int32)) (pc' := 24) C dX3_numberOf_22 (by decide) rfl ?_
      refine G_isub (pc' := 25) C dX3_numberOf_24 rfl ?_
      refine G_nm hf (fun x2 hf => ?_)
      refine G_istore_n (lv' := [(0, .ref (za ω 1)), (2, .int b2), (3, .int x2), (4, .int y4)]) (pc' := 26) C dX3_numberOf_25 (by decide) [1, 2, 0, 3] rfl rfl ?_
      refine G_iincL (v := y4 + (1 : Int32)) (pc' := 29) C dX3_numberOf_26 3 rfl rfl (by decide) [1, 2, 3, 0] (fun x3 => [(0, .ref (za ω 1)), (2, .int b2), (3, .int x2), (4, .int x3)]) (fun _ => rfl) rfl hf (fun x3 hf => ?_)
      refine G_goto (pc' := 5) C dX3_numberOf_29 (by decide) ?_
      exact ih x2 x3 hf
set_option maxHeartbeats 4000000 in
set_option maxRecDepth 100000 in
theorem c_X3_numberOf (ω : ZO) (N : Nat) (σ : ZS) (a1 : Int32) (a2 : Int32) : ZIp ω wD yX3_numberOf wsX3_numberOf rm_X3_numberOf [.ref (za ω 1), .int a1, .int a2] σ (f_X3_numberOf N σ a1 a2) := by
  intro r0 hf
  refine ZI.go (cc := cX3_numberOf) (maxL := 5) (ret := (some .int)) (own := RX3) (lv := [(0, .ref (za ω 1)), (1, .int a1), (2, .int a2)]) (by decide) rfl rfl (Nat.le_of_ble_eq_true rfl) rfl (fun κ C hR => ?_)
  unfold f_X3_numberOf at hf
  refine G_iconst (v := (0 : Int32)) (pc' := 1) C dX3_numberOf_0 (by decide) rfl ?_
  refine G_istore_n (lv' := [(0, .ref (za ω 1)), (1, .int a1), (2, .int a2), (3, .int (0 : Int32))]) (pc' := 2) C dX3_numberOf_1 (by decide) [1, 2, 3, 0] rfl rfl ?_
  refine G_iload_n (pc' := 3) C dX3_numberOf_2 1 rfl rfl ?_
  refine G_istore (lv' := [(0, .ref (za ω 1)), (2, .int a2), (3, .int (0 : Int32)), (4, .int a1)]) (pc' := 5) C dX3_numberOf_3 (by decide) [1, 3, 4, 0] rfl rfl ?_
  refine w_X3_numberOf_5 C hR (fun y4 y5 hf => ?_) N (0 : Int32) a1 hf
  refine G_iload_n (pc' := 33) C dX3_numberOf_32 1 rfl rfl ?_
  exact G_iret C hR dX3_numberOf_33 ⟨Option.some.inj hf, rfl⟩
theorem iu_X3_refuse_X3 : ∀ w ∈ wsX30, w ∈ wsX3_refuse := by decide +kernel
theorem lk_X3_refuse_22 : Cond.fieldLink RX3 22 "PrizeDesk$Rules" "fault" "I" ∈ wsX3_refuse := by decide +kernel
abbrev rm_X3_refuse : Room := { frames := 0, cells := 0, slots := 0, locals := 0 }
theorem sg_X3_refuse : ZG yX3_refuse wsX3_refuse cX3_refuse 3 none RX3 2 rm_X3_refuse := ⟨⟨_, rfl⟩, by decide +kernel, rfl, rfl⟩
set_option maxHeartbeats 4000000 in
set_option maxRecDepth 100000 in
theorem c_X3_refuse (ω : ZO) (N : Nat) (σ : ZS) (a1 : Int32) (a2 : Int32) : ZVs ω wD yX3_refuse wsX3_refuse rm_X3_refuse [.ref (za ω 3), .int a1, .int a2] σ (f_X3_refuse N σ a1 a2) := by
  intro r0 hf
  refine ZV.go (cc := cX3_refuse) (maxL := 3) (ret := none) (own := RX3) (lv := [(0, .ref (za ω 3)), (1, .int a1), (2, .int a2)]) (by decide) rfl rfl (Nat.le_of_ble_eq_true rfl) rfl (fun κ C hR => ?_)
  unfold f_X3_refuse at hf
  refine G_aload_n (pc' := 1) C dX3_refuse_0 0 rfl rfl ?_
  refine G_bipush (v := (100 : Int32)) (pc' := 3) C dX3_refuse_1 (by decide) rfl ?_
  refine G_iload_n (pc' := 4) C dX3_refuse_3 1 rfl rfl ?_
  refine G_imul (pc' := 5) C dX3_refuse_4 rfl ?_
  refine G_iload_n (pc' := 6) C dX3_refuse_5 2 rfl rfl ?_
  refine G_iadd (pc' := 7) C dX3_refuse_6 rfl ?_
  refine G_put (pc' := 10) C tyX3 tyX3_ok nmX3 wD_3 rfl 3 (by decide) (Nat.le_of_ble_eq_true rfl) iu_X3_refuse_X3 lk_X3_refuse_22 rfl (by decide +kernel) wD_f3_3 dX3_refuse_7 rfl hf (fun s1 hf => ?_)
  exact G_vret C hR dX3_refuse_10 (Option.some.inj hf)
theorem iu_X3_readClause_X3 : ∀ w ∈ wsX30, w ∈ wsX3_readClause := by decide +kernel
theorem lk_X3_readClause_18 : Cond.fieldLink RX3 18 "PrizeDesk$Rules" "place" "I" ∈ wsX3_readClause := by decide +kernel
theorem lk_X3_readClause_31n : Cond.methodLinkNest RX3 31 yX7_isWithin RX7 ∈ zNws := by decide +kernel
theorem lk_X3_readClause_31s : Cond.static yX7_isWithin ∈ wsX3_readClause := by decide +kernel
theorem lk_X3_readClause_31i : Cond.initialized yX7_isWithin.cls ∈ wsX3_readClause := by decide +kernel
theorem lk_X3_readClause_15 : Cond.fieldLink RX3 15 "PrizeDesk$Rules" "drafted" "[I" ∈ wsX3_readClause := by decide +kernel
theorem lk_X3_readClause_71 : Cond.fieldLink RX3 71 "PrizeDesk$Rules" "GREATEST" "[I" ∈ wsX3_readClause := by decide +kernel
theorem lk_X3_readClause_68 : Cond.fieldLink RX3 68 "PrizeDesk$Rules" "LEAST" "[I" ∈ wsX3_readClause := by decide +kernel
abbrev rm_X3_readClause : Room := { frames := 3, cells := 0, slots := 0, locals := 67 }
theorem sg_X3_readClause : ZG yX3_readClause wsX3_readClause cX3_readClause 7 none RX3 1 rm_X3_readClause := ⟨⟨_, rfl⟩, by decide +kernel, rfl, rfl⟩
set_option maxHeartbeats 4000000 in
set_option maxRecDepth 100000 in
theorem c_X3_readClause (ω : ZO) (N : Nat) (σ : ZS) : ZVs ω wD yX3_readClause wsX3_readClause rm_X3_readClause [.ref (za ω 3), .ref (za ω 1)] σ (f_X3_readClause N σ) := by
  intro r0 hf
  refine ZV.go (cc := cX3_readClause) (maxL := 7) (ret := none) (own := RX3) (lv := [(0, .ref (za ω 3)), (1, .ref (za ω 1))]) (by decide) rfl rfl (Nat.le_of_ble_eq_true rfl) rfl (fun κ C hR => ?_)
  unfold f_X3_readClause at hf
  refine G_aload_n (pc' := 1) C dX3_readClause_0 1 rfl rfl ?_
  refine G_aload_n (pc' := 2) C dX3_readClause_1 0 rfl rfl ?_
  refine G_get (pc' := 5) C wD_3 rfl 2 (by decide) rfl iu_X3_readClause_X3 lk_X3_readClause_18 dX3_readClause_2 rfl ?_
  refine G_callVp (pc' := 8) C [.int (σ 3 2)] (c_X6_byteAt ω N σ (σ 3 2)) sg_X6_byteAt gX3_readClause_X6_byteAt wD_1 rfl ⟨Nat.le_of_ble_eq_true rfl, Nat.le_of_ble_eq_true rfl⟩ rfl rfl (Nat.le_of_ble_eq_true rfl) dX3_readClause_5 rfl hf (fun v1 hf => ?_)
  refine G_callSp (pc' := 11) C [.int v1] (c_X3_indexOf ω N σ v1) sg_X3_indexOf gX3_readClause_X3_indexOf ⟨Nat.le_of_ble_eq_true rfl, Nat.le_of_ble_eq_true rfl⟩ rfl rfl (Nat.le_of_ble_eq_true rfl) dX3_readClause_8 rfl hf (fun v2 hf => ?_)
  refine G_istore_n (lv' := [(0, .ref (za ω 3)), (1, .ref (za ω 1)), (2, .int v2)]) (pc' := 12) C dX3_readClause_11 (by decide) [1, 2, 0] rfl rfl ?_
  refine G_aload_n (pc' := 13) C dX3_readClause_12 0 rfl rfl ?_
  refine G_get (pc' := 16) C wD_3 rfl 2 (by decide) rfl iu_X3_readClause_X3 lk_X3_readClause_18 dX3_readClause_13 rfl ?_
  refine G_iconst (v := (1 : Int32)) (pc' := 17) C dX3_readClause_16 (by decide) rfl ?_
  refine G_iadd (pc' := 18) C dX3_readClause_17 rfl ?_
  refine G_nm hf (fun x3 hf => ?_)
  refine G_istore_n (lv' := [(0, .ref (za ω 3)), (1, .ref (za ω 1)), (2, .int v2), (3, .int x3)]) (pc' := 19) C dX3_readClause_18 (by decide) [1, 2, 3, 0] rfl rfl ?_
  refine G_aload_n (pc' := 20) C dX3_readClause_19 1 rfl rfl ?_
  refine G_iload_n (pc' := 21) C dX3_readClause_20 3 rfl rfl ?_
  refine G_callSp (pc' := 24) C [.ref (za ω 1), .int x3] (c_X3_digitsFrom ω N σ x3) sg_X3_digitsFrom gX3_readClause_X3_digitsFrom ⟨Nat.le_of_ble_eq_true rfl, Nat.le_of_ble_eq_true rfl⟩ rfl rfl (Nat.le_of_ble_eq_true rfl) dX3_readClause_21 rfl hf (fun v4 hf => ?_)
  refine G_istore (lv' := [(0, .ref (za ω 3)), (1, .ref (za ω 1)), (2, .int v2), (3, .int x3), (4, .int v4)]) (pc' := 26) C dX3_readClause_24 (by decide) [1, 2, 3, 4, 0] rfl rfl ?_
  refine G_iload_n (pc' := 27) C dX3_readClause_26 3 rfl rfl ?_
  refine G_iload (pc' := 29) C dX3_readClause_27 4 rfl rfl ?_
  refine G_iadd (pc' := 30) C dX3_readClause_29 rfl ?_
  refine G_nm hf (fun x5 hf => ?_)
  refine G_istore (lv' := [(0, .ref (za ω 3)), (1, .ref (za ω 1)), (2, .int v2), (3, .int x3), (4, .int v4), (5, .int x5)]) (pc' := 32) C dX3_readClause_30 (by decide) [1, 2, 3, 4, 5, 0] rfl rfl ?_
  refine G_aload_n (pc' := 33) C dX3_readClause_32 1 rfl rfl ?_
  refine G_iload_n (pc' := 34) C dX3_readClause_33 3 rfl rfl ?_
  refine G_iload (pc' := 36) C dX3_readClause_34 5 rfl rfl ?_
  refine G_callSp (pc' := 39) C [.ref (za ω 1), .int x3, .int x5] (c_X3_numberOf ω N σ x3 x5) sg_X3_numberOf gX3_readClause_X3_numberOf ⟨Nat.le_of_ble_eq_true rfl, Nat.le_of_ble_eq_true rfl⟩ rfl rfl (Nat.le_of_ble_eq_true rfl) dX3_readClause_36 rfl hf (fun v6 hf => ?_)
  refine G_istore (lv' := [(0, .ref (za ω 3)), (1, .ref (za ω 1)), (2, .int v2), (3, .int x3), (4, .int v4), (5, .int x5), (6, .int v6)]) (pc' := 41) C dX3_readClause_39 (by decide) [1, 2, 3, 4, 5, 6, 0] rfl rfl ?_
  refine G_iload_n (pc' := 42) C dX3_readClause_41 2 rfl rfl ?_
  refine G_iconst (v := (-1 : Int32)) (pc' := 43) C dX3_readClause_42 (by decide) rfl ?_
  refine G_icmp_ne (tgt := 58) (pc' := 46) C dX3_readClause_43 (by decide) rfl hf (fun hf => ?_) (fun hf => ?_)
  · refine G_aload_n (pc' := 47) C dX3_readClause_46 0 rfl rfl ?_
    refine G_iconst (v := (1 : Int32)) (pc' := 48) C dX3_readClause_47 (by decide) rfl ?_
    refine G_aload_n (pc' := 49) C dX3_readClause_48 0 rfl rfl ?_
    refine G_get (pc' := 52) C wD_3 rfl 2 (by decide) rfl iu_X3_readClause_X3 lk_X3_readClause_18 dX3_readClause_49 rfl ?_
    refine G_callVv (pc' := 55) C [.int (1 : Int32), .int (σ 3 2)] (c_X3_refuse ω N σ (1 : Int32) (σ 3 2)) sg_X3_refuse gX3_readClause_X3_refuse wD_3 rfl ⟨Nat.le_of_ble_eq_true rfl, Nat.le_of_ble_eq_true rfl⟩ rfl rfl (Nat.le_of_ble_eq_true rfl) dX3_readClause_52 rfl hf (fun s7 hf => ?_)
    refine G_goto (pc' := 160) C dX3_readClause_55 (by decide) ?_
    exact G_vret C hR dX3_readClause_160 (Option.some.inj hf)
  · refine G_iload (pc' := 60) C dX3_readClause_58 4 rfl rfl ?_
    refine G_if_ne (tgt := 72) (pc' := 63) C dX3_readClause_60 (by decide) rfl hf (fun hf => ?_) (fun hf => ?_)
    · refine G_aload_n (pc' := 64) C dX3_readClause_63 0 rfl rfl ?_
      refine G_iconst (v := (2 : Int32)) (pc' := 65) C dX3_readClause_64 (by decide) rfl ?_
      refine G_iload_n (pc' := 66) C dX3_readClause_65 3 rfl rfl ?_
      refine G_callVv (pc' := 69) C [.int (2 : Int32), .int x3] (c_X3_refuse ω N σ (2 : Int32) x3) sg_X3_refuse gX3_readClause_X3_refuse wD_3 rfl ⟨Nat.le_of_ble_eq_true rfl, Nat.le_of_ble_eq_true rfl⟩ rfl rfl (Nat.le_of_ble_eq_true rfl) dX3_readClause_66 rfl hf (fun s8 hf => ?_)
      refine G_goto (pc' := 160) C dX3_readClause_69 (by decide) ?_
      exact G_vret C hR dX3_readClause_160 (Option.some.inj hf)
    · refine G_iload (pc' := 74) C dX3_readClause_72 4 rfl rfl ?_
      refine G_iconst (v := (4 : Int32)) (pc' := 75) C dX3_readClause_74 (by decide) rfl ?_
      refine G_icmp_le (tgt := 89) (pc' := 78) C dX3_readClause_75 (by decide) rfl hf (fun hf => ?_) (fun hf => ?_)
      · refine G_iload (pc' := 91) C dX3_readClause_89 6 rfl rfl ?_
        refine G_gets (pc' := 94) C 2 (by decide) lk_X3_readClause_68 dX3_readClause_91 rfl ?_
        refine G_iload_n (pc' := 95) C dX3_readClause_94 2 rfl rfl ?_
        refine G_tald (pc' := 96) C 2 (by decide) dX3_readClause_95 rfl hf (fun v9 hf => ?_)
        refine G_gets (pc' := 99) C 3 (by decide) lk_X3_readClause_71 dX3_readClause_96 rfl ?_
        refine G_iload_n (pc' := 100) C dX3_readClause_99 2 rfl rfl ?_
        refine G_tald (pc' := 101) C 3 (by decide) dX3_readClause_100 rfl hf (fun v10 hf => ?_)
        refine G_callNp (pc' := 104) C [.int v6, .int v9, .int v10] (c_X7_isWithin ω N σ v6 v9 v10) sg_X7_isWithin gX3_readClause_X7_isWithin_n31 lk_X3_readClause_31n lk_X3_readClause_31s lk_X3_readClause_31i ⟨Nat.le_of_ble_eq_true rfl, Nat.le_of_ble_eq_true rfl⟩ rfl rfl (Nat.le_of_ble_eq_true rfl) dX3_readClause_101 rfl hf (fun v11 hf => ?_)
        refine G_if_ne (tgt := 116) (pc' := 107) C dX3_readClause_104 (by decide) rfl hf (fun hf => ?_) (fun hf => ?_)
        · refine G_aload_n (pc' := 108) C dX3_readClause_107 0 rfl rfl ?_
          refine G_iconst (v := (5 : Int32)) (pc' := 109) C dX3_readClause_108 (by decide) rfl ?_
          refine G_iload_n (pc' := 110) C dX3_readClause_109 3 rfl rfl ?_
          refine G_callVv (pc' := 113) C [.int (5 : Int32), .int x3] (c_X3_refuse ω N σ (5 : Int32) x3) sg_X3_refuse gX3_readClause_X3_refuse wD_3 rfl ⟨Nat.le_of_ble_eq_true rfl, Nat.le_of_ble_eq_true rfl⟩ rfl rfl (Nat.le_of_ble_eq_true rfl) dX3_readClause_110 rfl hf (fun s12 hf => ?_)
          refine G_goto (pc' := 160) C dX3_readClause_113 (by decide) ?_
          exact G_vret C hR dX3_readClause_160 (Option.some.inj hf)
        · refine G_iload (pc' := 118) C dX3_readClause_116 5 rfl rfl ?_
          refine G_aload_n (pc' := 119) C dX3_readClause_118 1 rfl rfl ?_
          refine G_callVp (pc' := 122) C [] (c_X6_length ω N σ) sg_X6_length gX3_readClause_X6_length wD_1 rfl ⟨Nat.le_of_ble_eq_true rfl, Nat.le_of_ble_eq_true rfl⟩ rfl rfl (Nat.le_of_ble_eq_true rfl) dX3_readClause_119 rfl hf (fun v13 hf => ?_)
          refine G_icmp_ge (tgt := 146) (pc' := 125) C dX3_readClause_122 (by decide) rfl hf (fun hf => ?_) (fun hf => ?_)
          · refine G_aload_n (pc' := 147) C dX3_readClause_146 0 rfl rfl ?_
            refine G_get (pc' := 150) C wD_3 rfl 1 (by decide) rfl iu_X3_readClause_X3 lk_X3_readClause_15 dX3_readClause_147 rfl ?_
            refine G_iload_n (pc' := 151) C dX3_readClause_150 2 rfl rfl ?_
            refine G_iload (pc' := 153) C dX3_readClause_151 6 rfl rfl ?_
            refine G_iast (pc' := 154) C wD_5 wD_s5 dX3_readClause_153 rfl hf (fun s14 hf => ?_)
            refine G_aload_n (pc' := 155) C dX3_readClause_154 0 rfl rfl ?_
            refine G_iload (pc' := 157) C dX3_readClause_155 5 rfl rfl ?_
            refine G_put (pc' := 160) C tyX3 tyX3_ok nmX3 wD_3 rfl 2 (by decide) (Nat.le_of_ble_eq_true rfl) iu_X3_readClause_X3 lk_X3_readClause_18 rfl (by decide +kernel) wD_f3_2 dX3_readClause_157 rfl hf (fun s15 hf => ?_)
            exact G_vret C hR dX3_readClause_160 (Option.some.inj hf)
          · refine G_aload_n (pc' := 126) C dX3_readClause_125 1 rfl rfl ?_
            refine G_iload (pc' := 128) C dX3_readClause_126 5 rfl rfl ?_
            refine G_callVp (pc' := 131) C [.int x5] (c_X6_byteAt ω N σ x5) sg_X6_byteAt gX3_readClause_X6_byteAt wD_1 rfl ⟨Nat.le_of_ble_eq_true rfl, Nat.le_of_ble_eq_true rfl⟩ rfl rfl (Nat.le_of_ble_eq_true rfl) dX3_readClause_128 rfl hf (fun v16 hf => ?_)
            refine G_bipush (v := (59 : Int32)) (pc' := 133) C dX3_readClause_131 (by decide) rfl ?_
            refine G_icmp_eq (tgt := 146) (pc' := 136) C dX3_readClause_133 (by decide) rfl hf (fun hf => ?_) (fun hf => ?_)
            · refine G_aload_n (pc' := 147) C dX3_readClause_146 0 rfl rfl ?_
              refine G_get (pc' := 150) C wD_3 rfl 1 (by decide) rfl iu_X3_readClause_X3 lk_X3_readClause_15 dX3_readClause_147 rfl ?_
              refine G_iload_n (pc' := 151) C dX3_readClause_150 2 rfl rfl ?_
              refine G_iload (pc' := 153) C dX3_readClause_151 6 rfl rfl ?_
              refine G_iast (pc' := 154) C wD_5 wD_s5 dX3_readClause_153 rfl hf (fun s17 hf => ?_)
              refine G_aload_n (pc' := 155) C dX3_readClause_154 0 rfl rfl ?_
              refine G_iload (pc' := 157) C dX3_readClause_155 5 rfl rfl ?_
              refine G_put (pc' := 160) C tyX3 tyX3_ok nmX3 wD_3 rfl 2 (by decide) (Nat.le_of_ble_eq_true rfl) iu_X3_readClause_X3 lk_X3_readClause_18 rfl (by decide +kernel) wD_f3_2 dX3_readClause_157 rfl hf (fun s18 hf => ?_)
              exact G_vret C hR dX3_readClause_160 (Option.some.inj hf)
            · refine G_aload_n (pc' := 137) C dX3_readClause_136 0 rfl rfl ?_
              refine G_iconst (v := (4 : Int32)) (pc' := 138) C dX3_readClause_137 (by decide) rfl ?_
              refine G_iload (pc' := 140) C dX3_readClause_138 5 rfl rfl ?_
              refine G_callVv (pc' := 143) C [.int (4 : Int32), .int x5] (c_X3_refuse ω N σ (4 : Int32) x5) sg_X3_refuse gX3_readClause_X3_refuse wD_3 rfl ⟨Nat.le_of_ble_eq_true rfl, Nat.le_of_ble_eq_true rfl⟩ rfl rfl (Nat.le_of_ble_eq_true rfl) dX3_readClause_140 rfl hf (fun s19 hf => ?_)
              refine G_goto (pc' := 160) C dX3_readClause_143 (by decide) ?_
              exact G_vret C hR dX3_readClause_160 (Option.some.inj hf)
      · refine G_aload_n (pc' := 79) C dX3_readClause_78 0 rfl rfl ?_
        refine G_iconst (v := (3 : Int32)) (pc' := 80) C dX3_readClause_79 (by decide) rfl ?_
        refine G_iload_n (pc' := 81) C dX3_readClause_80 3 rfl rfl ?_
        refine G_iconst (v := (4 : Int32)) (pc' := 82) C dX3_readClause_81 (by decide) rfl ?_
        refine G_iadd (pc' := 83) C dX3_readClause_82 rfl ?_
        refine G_callVv (pc' := 86) C [.int (3 : Int32), .int (x3 + (4 : Int32))] (c_X3_refuse ω N σ (3 : Int32) (x3 + (4 : Int32))) sg_X3_refuse gX3_readClause_X3_refuse wD_3 rfl ⟨Nat.le_of_ble_eq_true rfl, Nat.le_of_ble_eq_true rfl⟩ rfl rfl (Nat.le_of_ble_eq_true rfl) dX3_readClause_83 rfl hf (fun s20 hf => ?_)
        refine G_goto (pc' := 160) C dX3_readClause_86 (by decide) ?_
        exact G_vret C hR dX3_readClause_160 (Option.some.inj hf)
abbrev rm_X3_copy_5_4 : Room := { frames := 0, cells := 0, slots := 0, locals := 0 }
theorem sg_X3_copy_5_4 : ZG yX3_copy wsX3_copy cX3_copy 3 none RX3 2 rm_X3_copy_5_4 := ⟨⟨_, rfl⟩, by decide +kernel, rfl, rfl⟩
set_option maxHeartbeats 4000000 in
set_option maxRecDepth 100000 in
theorem w_X3_copy_5_4_2 {ω : ZO} {κ : ZK} {N : Nat} {K : Int32 → ZS → Option (ZS)} {r0 : ZS} (C : CX ω wD κ cX3_copy wsX3_copy RX3 none 3 rm_X3_copy_5_4) (hR : zRV ω wD κ (fun τ => τ = r0)) (HK : ∀ (y2 : Int32) (τ : ZS), K y2 τ = some r0 → G ω wD κ 20 [(0, .ref (za ω 5)), (1, .ref (za ω 4))] [] τ) : ∀ (n : Nat) (y2 : Int32) (τ : ZS), L_X3_copy_5_4_2 N K n y2 τ = some r0 → G ω wD κ 2 [(0, .ref (za ω 5)), (1, .ref (za ω 4)), (2, .int y2)] [] τ := by
  intro n
  induction n with
  | zero => intro  y2 τ hf; exact absurd (show none = some r0 from hf) (fun h => nomatch h)
  | succ n ih =>
    intro y2 τ hf
    have hf : B_X3_copy_5_4_2 N K (L_X3_copy_5_4_2 N K n) y2 τ = some r0 := hf
    unfold B_X3_copy_5_4_2 at hf
    refine G_iload_n (pc' := 3) C dX3_copy_2 2 rfl rfl ?_
    refine G_bipush (v := (11 : Int32)) (pc' := 5) C dX3_copy_3 (by decide) rfl ?_
    refine G_icmp_ge (tgt := 20) (pc' := 8) C dX3_copy_5 (by decide) rfl hf (fun hf => ?_) (fun hf => ?_)
    · refine G_sub (lv' := [(0, .ref (za ω 5)), (1, .ref (za ω 4))]) C [0, 1] rfl ?_
      exact HK y2 τ hf
    · refine G_aload_n (pc' := 9) C dX3_copy_8 1 rfl rfl ?_
      refine G_iload_n (pc' := 10) C dX3_copy_9 2 rfl rfl ?_
      refine G_aload_n (pc' := 11) C dX3_copy_10 0 rfl rfl ?_
      refine G_iload_n (pc' := 12) C dX3_copy_11 2 rfl rfl ?_
      refine G_iald (pc' := 13) C wD_5 dX3_copy_12 rfl hf (fun v1 hf => ?_)
      refine G_iast (pc' := 14) C wD_4 wD_s4 dX3_copy_13 rfl hf (fun s2 hf => ?_)
      refine G_iincL (v := y2 + (1 : Int32)) (pc' := 17) C dX3_copy_14 2 rfl rfl (by decide) [1, 2, 0] (fun x3 => [(0, .ref (za ω 5)), (1, .ref (za ω 4)), (2, .int x3)]) (fun _ => rfl) rfl hf (fun x3 hf => ?_)
      refine G_goto (pc' := 2) C dX3_copy_17 (by decide) ?_
      exact ih x3 s2 hf
set_option maxHeartbeats 4000000 in
set_option maxRecDepth 100000 in
theorem c_X3_copy_5_4 (ω : ZO) (N : Nat) (σ : ZS) : ZVs ω wD yX3_copy wsX3_copy rm_X3_copy_5_4 [.ref (za ω 5), .ref (za ω 4)] σ (f_X3_copy_5_4 N σ) := by
  intro r0 hf
  refine ZV.go (cc := cX3_copy) (maxL := 3) (ret := none) (own := RX3) (lv := [(0, .ref (za ω 5)), (1, .ref (za ω 4))]) (by decide) rfl rfl (Nat.le_of_ble_eq_true rfl) rfl (fun κ C hR => ?_)
  unfold f_X3_copy_5_4 at hf
  refine G_iconst (v := (0 : Int32)) (pc' := 1) C dX3_copy_0 (by decide) rfl ?_
  refine G_istore_n (lv' := [(0, .ref (za ω 5)), (1, .ref (za ω 4)), (2, .int (0 : Int32))]) (pc' := 2) C dX3_copy_1 (by decide) [1, 2, 0] rfl rfl ?_
  refine w_X3_copy_5_4_2 C hR (fun y4 s5 hf => ?_) N (0 : Int32) σ hf
  exact G_vret C hR dX3_copy_20 (Option.some.inj hf)
theorem iu_X3_read_X3 : ∀ w ∈ wsX30, w ∈ wsX3_read := by decide +kernel
theorem lk_X3_read_18 : Cond.fieldLink RX3 18 "PrizeDesk$Rules" "place" "I" ∈ wsX3_read := by decide +kernel
theorem lk_X3_read_22 : Cond.fieldLink RX3 22 "PrizeDesk$Rules" "fault" "I" ∈ wsX3_read := by decide +kernel
theorem lk_X3_read_11 : Cond.fieldLink RX3 11 "PrizeDesk$Rules" "numbers" "[I" ∈ wsX3_read := by decide +kernel
theorem lk_X3_read_15 : Cond.fieldLink RX3 15 "PrizeDesk$Rules" "drafted" "[I" ∈ wsX3_read := by decide +kernel
theorem lk_X3_read_25 : Cond.fieldLink RX3 25 "PrizeDesk$Rules" "AT_FIRST" "[I" ∈ wsX3_read := by decide +kernel
abbrev rm_X3_read : Room := { frames := 4, cells := 0, slots := 0, locals := 93 }
theorem sg_X3_read : ZG yX3_read wsX3_read cX3_read 3 (some .int) RX3 1 rm_X3_read := ⟨⟨_, rfl⟩, by decide +kernel, rfl, rfl⟩
set_option maxHeartbeats 4000000 in
set_option maxRecDepth 100000 in
theorem w_X3_read_27 {ω : ZO} {κ : ZK} {N : Nat} {K : Int32 → ZS → Option (Int32 × ZS)} {r0 : Int32 × ZS} (C : CX ω wD κ cX3_read wsX3_read RX3 (some .int) 3 rm_X3_read) (hR : zRI ω wD κ (fun v τ => (v, τ) = r0)) (HK : ∀ (y2 : Int32) (τ : ZS), K y2 τ = some r0 → G ω wD κ 72 [(0, .ref (za ω 3)), (1, .ref (za ω 1))] [] τ) : ∀ (n : Nat) (y2 : Int32) (τ : ZS), L_X3_read_27 N K n y2 τ = some r0 → G ω wD κ 27 [(0, .ref (za ω 3)), (1, .ref (za ω 1)), (2, .int y2)] [] τ := by
  intro n
  induction n with
  | zero => intro  y2 τ hf; exact absurd (show none = some r0 from hf) (fun h => nomatch h)
  | succ n ih =>
    intro y2 τ hf
    have hf : B_X3_read_27 N K (L_X3_read_27 N K n) y2 τ = some r0 := hf
    unfold B_X3_read_27 at hf
    refine G_iload_n (pc' := 28) C dX3_read_27 2 rfl rfl ?_
    refine G_bipush (v := (80 : Int32)) (pc' := 30) C dX3_read_28 (by decide) rfl ?_
    refine G_icmp_ge (tgt := 72) (pc' := 33) C dX3_read_30 (by decide) rfl hf (fun hf => ?_) (fun hf => ?_)
    · refine G_sub (lv' := [(0, .ref (za ω 3)), (1, .ref (za ω 1))]) C [0, 1] rfl ?_
      exact HK y2 τ hf
    · refine G_aload_n (pc' := 34) C dX3_read_33 0 rfl rfl ?_
      refine G_get (pc' := 37) C wD_3 rfl 3 (by decide) rfl iu_X3_read_X3 lk_X3_read_22 dX3_read_34 rfl ?_
      refine G_if_ne (tgt := 72) (pc' := 40) C dX3_read_37 (by decide) rfl hf (fun hf => ?_) (fun hf => ?_)
      · refine G_aload_n (pc' := 41) C dX3_read_40 0 rfl rfl ?_
        refine G_get (pc' := 44) C wD_3 rfl 2 (by decide) rfl iu_X3_read_X3 lk_X3_read_18 dX3_read_41 rfl ?_
        refine G_aload_n (pc' := 45) C dX3_read_44 1 rfl rfl ?_
        refine G_callVp (pc' := 48) C [] (c_X6_length ω N τ) sg_X6_length gX3_read_X6_length wD_1 rfl ⟨Nat.le_of_ble_eq_true rfl, Nat.le_of_ble_eq_true rfl⟩ rfl rfl (Nat.le_of_ble_eq_true rfl) dX3_read_45 rfl hf (fun v5 hf => ?_)
        refine G_icmp_ge (tgt := 72) (pc' := 51) C dX3_read_48 (by decide) rfl hf (fun hf => ?_) (fun hf => ?_)
        · refine G_sub (lv' := [(0, .ref (za ω 3)), (1, .ref (za ω 1))]) C [0, 1] rfl ?_
          exact HK y2 τ hf
        · refine G_aload_n (pc' := 52) C dX3_read_51 0 rfl rfl ?_
          refine G_dup (pc' := 53) C dX3_read_52 rfl rfl ?_
          refine G_get (pc' := 56) C wD_3 rfl 2 (by decide) rfl iu_X3_read_X3 lk_X3_read_18 dX3_read_53 rfl ?_
          refine G_iconst (v := (1 : Int32)) (pc' := 57) C dX3_read_56 (by decide) rfl ?_
          refine G_iadd (pc' := 58) C dX3_read_57 rfl ?_
          refine G_put (pc' := 61) C tyX3 tyX3_ok nmX3 wD_3 rfl 2 (by decide) (Nat.le_of_ble_eq_true rfl) iu_X3_read_X3 lk_X3_read_18 rfl (by decide +kernel) wD_f3_2 dX3_read_58 rfl hf (fun s6 hf => ?_)
          refine G_aload_n (pc' := 62) C dX3_read_61 0 rfl rfl ?_
          refine G_aload_n (pc' := 63) C dX3_read_62 1 rfl rfl ?_
          refine G_callVv (pc' := 66) C [.ref (za ω 1)] (c_X3_readClause ω N s6) sg_X3_readClause gX3_read_X3_readClause wD_3 rfl ⟨Nat.le_of_ble_eq_true rfl, Nat.le_of_ble_eq_true rfl⟩ rfl rfl (Nat.le_of_ble_eq_true rfl) dX3_read_63 rfl hf (fun s7 hf => ?_)
          refine G_iincL (v := y2 + (1 : Int32)) (pc' := 69) C dX3_read_66 2 rfl rfl (by decide) [1, 2, 0] (fun x8 => [(0, .ref (za ω 3)), (1, .ref (za ω 1)), (2, .int x8)]) (fun _ => rfl) rfl hf (fun x8 hf => ?_)
          refine G_goto (pc' := 27) C dX3_read_69 (by decide) ?_
          exact ih x8 s7 hf
      · refine G_sub (lv' := [(0, .ref (za ω 3)), (1, .ref (za ω 1))]) C [0, 1] rfl ?_
        exact HK y2 τ hf
set_option maxHeartbeats 4000000 in
set_option maxRecDepth 100000 in
theorem c_X3_read (ω : ZO) (N : Nat) (σ : ZS) : ZIs ω wD yX3_read wsX3_read rm_X3_read [.ref (za ω 3), .ref (za ω 1)] σ (f_X3_read N σ) := by
  intro r0 hf
  refine ZI.go (cc := cX3_read) (maxL := 3) (ret := (some .int)) (own := RX3) (lv := [(0, .ref (za ω 3)), (1, .ref (za ω 1))]) (by decide) rfl rfl (Nat.le_of_ble_eq_true rfl) rfl (fun κ C hR => ?_)
  unfold f_X3_read at hf
  refine G_gets (pc' := 3) C 1 (by decide) lk_X3_read_25 dX3_read_0 rfl ?_
  refine G_aload_n (pc' := 4) C dX3_read_3 0 rfl rfl ?_
  refine G_get (pc' := 7) C wD_3 rfl 1 (by decide) rfl iu_X3_read_X3 lk_X3_read_15 dX3_read_4 rfl ?_
  refine G_callSv (pc' := 10) C [.ref (zS ω 1), .ref (za ω 5)] (c_X3_copy_s1_5 ω N σ) sg_X3_copy_s1_5 gX3_read_X3_copy ⟨Nat.le_of_ble_eq_true rfl, Nat.le_of_ble_eq_true rfl⟩ rfl rfl (Nat.le_of_ble_eq_true rfl) dX3_read_7 rfl hf (fun s1 hf => ?_)
  refine G_aload_n (pc' := 11) C dX3_read_10 0 rfl rfl ?_
  refine G_iconst (v := (0 : Int32)) (pc' := 12) C dX3_read_11 (by decide) rfl ?_
  refine G_put (pc' := 15) C tyX3 tyX3_ok nmX3 wD_3 rfl 2 (by decide) (Nat.le_of_ble_eq_true rfl) iu_X3_read_X3 lk_X3_read_18 rfl (by decide +kernel) wD_f3_2 dX3_read_12 rfl hf (fun s2 hf => ?_)
  refine G_aload_n (pc' := 16) C dX3_read_15 0 rfl rfl ?_
  refine G_iconst (v := (0 : Int32)) (pc' := 17) C dX3_read_16 (by decide) rfl ?_
  refine G_put (pc' := 20) C tyX3 tyX3_ok nmX3 wD_3 rfl 3 (by decide) (Nat.le_of_ble_eq_true rfl) iu_X3_read_X3 lk_X3_read_22 rfl (by decide +kernel) wD_f3_3 dX3_read_17 rfl hf (fun s3 hf => ?_)
  refine G_aload_n (pc' := 21) C dX3_read_20 0 rfl rfl ?_
  refine G_aload_n (pc' := 22) C dX3_read_21 1 rfl rfl ?_
  refine G_callVv (pc' := 25) C [.ref (za ω 1)] (c_X3_readClause ω N s3) sg_X3_readClause gX3_read_X3_readClause wD_3 rfl ⟨Nat.le_of_ble_eq_true rfl, Nat.le_of_ble_eq_true rfl⟩ rfl rfl (Nat.le_of_ble_eq_true rfl) dX3_read_22 rfl hf (fun s4 hf => ?_)
  refine G_iconst (v := (0 : Int32)) (pc' := 26) C dX3_read_25 (by decide) rfl ?_
  refine G_istore_n (lv' := [(0, .ref (za ω 3)), (1, .ref (za ω 1)), (2, .int (0 : Int32))]) (pc' := 27) C dX3_read_26 (by decide) [1, 2, 0] rfl rfl ?_
  refine w_X3_read_27 C hR (fun y9 s10 hf => ?_) N (0 : Int32) s4 hf
  refine G_aload_n (pc' := 73) C dX3_read_72 0 rfl rfl ?_
  refine G_get (pc' := 76) C wD_3 rfl 3 (by decide) rfl iu_X3_read_X3 lk_X3_read_22 dX3_read_73 rfl ?_
  refine G_if_ne (tgt := 90) (pc' := 79) C dX3_read_76 (by decide) rfl hf (fun hf => ?_) (fun hf => ?_)
  · refine G_aload_n (pc' := 80) C dX3_read_79 0 rfl rfl ?_
    refine G_get (pc' := 83) C wD_3 rfl 1 (by decide) rfl iu_X3_read_X3 lk_X3_read_15 dX3_read_80 rfl ?_
    refine G_aload_n (pc' := 84) C dX3_read_83 0 rfl rfl ?_
    refine G_get (pc' := 87) C wD_3 rfl 0 (by decide) rfl iu_X3_read_X3 lk_X3_read_11 dX3_read_84 rfl ?_
    refine G_callSv (pc' := 90) C [.ref (za ω 5), .ref (za ω 4)] (c_X3_copy_5_4 ω N s10) sg_X3_copy_5_4 gX3_read_X3_copy ⟨Nat.le_of_ble_eq_true rfl, Nat.le_of_ble_eq_true rfl⟩ rfl rfl (Nat.le_of_ble_eq_true rfl) dX3_read_87 rfl hf (fun s11 hf => ?_)
    refine G_aload_n (pc' := 91) C dX3_read_90 0 rfl rfl ?_
    refine G_get (pc' := 94) C wD_3 rfl 3 (by decide) rfl iu_X3_read_X3 lk_X3_read_22 dX3_read_91 rfl ?_
    exact G_iret C hR dX3_read_94 (Option.some.inj hf)
  · refine G_aload_n (pc' := 91) C dX3_read_90 0 rfl rfl ?_
    refine G_get (pc' := 94) C wD_3 rfl 3 (by decide) rfl iu_X3_read_X3 lk_X3_read_22 dX3_read_91 rfl ?_
    exact G_iret C hR dX3_read_94 (Option.some.inj hf)
theorem iu_X7_rules_X7 : ∀ w ∈ wsX70, w ∈ wsX7_rules := by decide +kernel
theorem lk_X7_rules_10 : Cond.fieldLink RX7 10 "PrizeDesk" "tape" "LPrizeDesk$Tape;" ∈ wsX7_rules := by decide +kernel
theorem lk_X7_rules_19 : Cond.fieldLink RX7 19 "PrizeDesk" "ruleBook" "LPrizeDesk$Rules;" ∈ wsX7_rules := by decide +kernel
abbrev rm_X7_rules : Room := { frames := 5, cells := 0, slots := 0, locals := 115 }
theorem sg_X7_rules : ZG yX7_rules wsX7_rules cX7_rules 3 (some .int) RX7 1 rm_X7_rules := ⟨⟨_, rfl⟩, by decide +kernel, rfl, rfl⟩
set_option maxHeartbeats 4000000 in
set_option maxRecDepth 100000 in
theorem c_X7_rules (ω : ZO) (N : Nat) (σ : ZS) (a1 : Int32) : ZIs ω wD yX7_rules wsX7_rules rm_X7_rules [.ref (za ω 0), .int a1] σ (f_X7_rules N σ a1) := by
  intro r0 hf
  refine ZI.go (cc := cX7_rules) (maxL := 3) (ret := (some .int)) (own := RX7) (lv := [(0, .ref (za ω 0)), (1, .int a1)]) (by decide) rfl rfl (Nat.le_of_ble_eq_true rfl) rfl (fun κ C hR => ?_)
  unfold f_X7_rules at hf
  refine G_aload_n (pc' := 1) C dX7_rules_0 0 rfl rfl ?_
  refine G_get (pc' := 4) C wD_0 rfl 0 (by decide) rfl iu_X7_rules_X7 lk_X7_rules_10 dX7_rules_1 rfl ?_
  refine G_iload_n (pc' := 5) C dX7_rules_4 1 rfl rfl ?_
  refine G_callVp (pc' := 8) C [.int a1] (c_X6_holds ω N σ a1) sg_X6_holds gX7_rules_X6_holds wD_1 rfl ⟨Nat.le_of_ble_eq_true rfl, Nat.le_of_ble_eq_true rfl⟩ rfl rfl (Nat.le_of_ble_eq_true rfl) dX7_rules_5 rfl hf (fun v1 hf => ?_)
  refine G_if_ne (tgt := 13) (pc' := 11) C dX7_rules_8 (by decide) rfl hf (fun hf => ?_) (fun hf => ?_)
  · refine G_iconst (v := (-1 : Int32)) (pc' := 12) C dX7_rules_11 (by decide) rfl ?_
    exact G_iret C hR dX7_rules_12 (Option.some.inj hf)
  · refine G_aload_n (pc' := 14) C dX7_rules_13 0 rfl rfl ?_
    refine G_get (pc' := 17) C wD_0 rfl 0 (by decide) rfl iu_X7_rules_X7 lk_X7_rules_10 dX7_rules_14 rfl ?_
    refine G_iload_n (pc' := 18) C dX7_rules_17 1 rfl rfl ?_
    refine G_callVv (pc' := 21) C [.int a1] (c_X6_keep ω N σ a1) sg_X6_keep gX7_rules_X6_keep wD_1 rfl ⟨Nat.le_of_ble_eq_true rfl, Nat.le_of_ble_eq_true rfl⟩ rfl rfl (Nat.le_of_ble_eq_true rfl) dX7_rules_18 rfl hf (fun s2 hf => ?_)
    refine G_aload_n (pc' := 22) C dX7_rules_21 0 rfl rfl ?_
    refine G_get (pc' := 25) C wD_0 rfl 1 (by decide) rfl iu_X7_rules_X7 lk_X7_rules_19 dX7_rules_22 rfl ?_
    refine G_aload_n (pc' := 26) C dX7_rules_25 0 rfl rfl ?_
    refine G_get (pc' := 29) C wD_0 rfl 0 (by decide) rfl iu_X7_rules_X7 lk_X7_rules_10 dX7_rules_26 rfl ?_
    refine G_callVt (pc' := 32) C [.ref (za ω 1)] (c_X3_read ω N s2) sg_X3_read gX7_rules_X3_read wD_3 rfl ⟨Nat.le_of_ble_eq_true rfl, Nat.le_of_ble_eq_true rfl⟩ rfl rfl (Nat.le_of_ble_eq_true rfl) dX7_rules_29 rfl hf (fun v4 s3 hf => ?_)
    refine G_istore_n (lv' := [(0, .ref (za ω 0)), (2, .int v4)]) (pc' := 33) C dX7_rules_32 (by decide) [1, 0] rfl rfl ?_
    refine G_aload_n (pc' := 34) C dX7_rules_33 0 rfl rfl ?_
    refine G_get (pc' := 37) C wD_0 rfl 0 (by decide) rfl iu_X7_rules_X7 lk_X7_rules_10 dX7_rules_34 rfl ?_
    refine G_iconst (v := (0 : Int32)) (pc' := 38) C dX7_rules_37 (by decide) rfl ?_
    refine G_callVv (pc' := 41) C [.int (0 : Int32)] (c_X6_keep ω N s3 (0 : Int32)) sg_X6_keep gX7_rules_X6_keep wD_1 rfl ⟨Nat.le_of_ble_eq_true rfl, Nat.le_of_ble_eq_true rfl⟩ rfl rfl (Nat.le_of_ble_eq_true rfl) dX7_rules_38 rfl hf (fun s5 hf => ?_)
    refine G_iload_n (pc' := 42) C dX7_rules_41 1 rfl rfl ?_
    exact G_iret C hR dX7_rules_42 (Option.some.inj hf)
theorem lk_X3_number_31n : Cond.methodLinkNest RX3 31 yX7_isWithin RX7 ∈ zNws := by decide +kernel
theorem lk_X3_number_31s : Cond.static yX7_isWithin ∈ wsX3_number := by decide +kernel
theorem lk_X3_number_31i : Cond.initialized yX7_isWithin.cls ∈ wsX3_number := by decide +kernel
theorem iu_X3_number_X3 : ∀ w ∈ wsX30, w ∈ wsX3_number := by decide +kernel
theorem lk_X3_number_11 : Cond.fieldLink RX3 11 "PrizeDesk$Rules" "numbers" "[I" ∈ wsX3_number := by decide +kernel
abbrev rm_X3_number : Room := { frames := 1, cells := 0, slots := 0, locals := 22 }
theorem sg_X3_number : ZG yX3_number wsX3_number cX3_number 2 (some .int) RX3 1 rm_X3_number := ⟨⟨_, rfl⟩, by decide +kernel, rfl, rfl⟩
set_option maxHeartbeats 4000000 in
set_option maxRecDepth 100000 in
theorem c_X3_number (ω : ZO) (N : Nat) (σ : ZS) (a1 : Int32) : ZIp ω wD yX3_number wsX3_number rm_X3_number [.ref (za ω 3), .int a1] σ (f_X3_number N σ a1) := by
  intro r0 hf
  refine ZI.go (cc := cX3_number) (maxL := 2) (ret := (some .int)) (own := RX3) (lv := [(0, .ref (za ω 3)), (1, .int a1)]) (by decide) rfl rfl (Nat.le_of_ble_eq_true rfl) rfl (fun κ C hR => ?_)
  unfold f_X3_number at hf
  refine G_iload_n (pc' := 1) C dX3_number_0 1 rfl rfl ?_
  refine G_iconst (v := (0 : Int32)) (pc' := 2) C dX3_number_1 (by decide) rfl ?_
  refine G_bipush (v := (10 : Int32)) (pc' := 4) C dX3_number_2 (by decide) rfl ?_
  refine G_callNp (pc' := 7) C [.int a1, .int (0 : Int32), .int (10 : Int32)] (c_X7_isWithin ω N σ a1 (0 : Int32) (10 : Int32)) sg_X7_isWithin gX3_number_X7_isWithin_n31 lk_X3_number_31n lk_X3_number_31s lk_X3_number_31i ⟨Nat.le_of_ble_eq_true rfl, Nat.le_of_ble_eq_true rfl⟩ rfl rfl (Nat.le_of_ble_eq_true rfl) dX3_number_4 rfl hf (fun v1 hf => ?_)
  refine G_if_eq (tgt := 19) (pc' := 10) C dX3_number_7 (by decide) rfl hf (fun hf => ?_) (fun hf => ?_)
  · refine G_iconst (v := (-1 : Int32)) (pc' := 20) C dX3_number_19 (by decide) rfl ?_
    exact G_iret C hR dX3_number_20 ⟨Option.some.inj hf, rfl⟩
  · refine G_aload_n (pc' := 11) C dX3_number_10 0 rfl rfl ?_
    refine G_get (pc' := 14) C wD_3 rfl 0 (by decide) rfl iu_X3_number_X3 lk_X3_number_11 dX3_number_11 rfl ?_
    refine G_iload_n (pc' := 15) C dX3_number_14 1 rfl rfl ?_
    refine G_iald (pc' := 16) C wD_4 dX3_number_15 rfl hf (fun v2 hf => ?_)
    refine G_goto (pc' := 20) C dX3_number_16 (by decide) ?_
    exact G_iret C hR dX3_number_20 ⟨Option.some.inj hf, rfl⟩
theorem iu_X7_rule_X7 : ∀ w ∈ wsX70, w ∈ wsX7_rule := by decide +kernel
theorem lk_X7_rule_19 : Cond.fieldLink RX7 19 "PrizeDesk" "ruleBook" "LPrizeDesk$Rules;" ∈ wsX7_rule := by decide +kernel
abbrev rm_X7_rule : Room := { frames := 2, cells := 0, slots := 0, locals := 43 }
theorem sg_X7_rule : ZG yX7_rule wsX7_rule cX7_rule 2 (some .int) RX7 1 rm_X7_rule := ⟨⟨_, rfl⟩, by decide +kernel, rfl, rfl⟩
set_option maxHeartbeats 4000000 in
set_option maxRecDepth 100000 in
theorem c_X7_rule (ω : ZO) (N : Nat) (σ : ZS) (a1 : Int32) : ZIp ω wD yX7_rule wsX7_rule rm_X7_rule [.ref (za ω 0), .int a1] σ (f_X7_rule N σ a1) := by
  intro r0 hf
  refine ZI.go (cc := cX7_rule) (maxL := 2) (ret := (some .int)) (own := RX7) (lv := [(0, .ref (za ω 0)), (1, .int a1)]) (by decide) rfl rfl (Nat.le_of_ble_eq_true rfl) rfl (fun κ C hR => ?_)
  unfold f_X7_rule at hf
  refine G_aload_n (pc' := 1) C dX7_rule_0 0 rfl rfl ?_
  refine G_get (pc' := 4) C wD_0 rfl 1 (by decide) rfl iu_X7_rule_X7 lk_X7_rule_19 dX7_rule_1 rfl ?_
  refine G_iload_n (pc' := 5) C dX7_rule_4 1 rfl rfl ?_
  refine G_callSp (pc' := 8) C [.int a1] (c_X3_indexOf ω N σ a1) sg_X3_indexOf gX7_rule_X3_indexOf ⟨Nat.le_of_ble_eq_true rfl, Nat.le_of_ble_eq_true rfl⟩ rfl rfl (Nat.le_of_ble_eq_true rfl) dX7_rule_5 rfl hf (fun v1 hf => ?_)
  refine G_callVp (pc' := 11) C [.int v1] (c_X3_number ω N σ v1) sg_X3_number gX7_rule_X3_number wD_3 rfl ⟨Nat.le_of_ble_eq_true rfl, Nat.le_of_ble_eq_true rfl⟩ rfl rfl (Nat.le_of_ble_eq_true rfl) dX7_rule_8 rfl hf (fun v2 hf => ?_)
  exact G_iret C hR dX7_rule_11 ⟨Option.some.inj hf, rfl⟩
abbrev rm_X7_isPublisher : Room := { frames := 1, cells := 0, slots := 0, locals := 22 }
theorem sg_X7_isPublisher : ZG yX7_isPublisher wsX7_isPublisher cX7_isPublisher 1 (some .boolean) RX7 1 rm_X7_isPublisher := ⟨⟨_, rfl⟩, by decide +kernel, rfl, rfl⟩
set_option maxHeartbeats 4000000 in
set_option maxRecDepth 100000 in
theorem c_X7_isPublisher (ω : ZO) (N : Nat) (σ : ZS) (a0 : Int32) : ZIp ω wD yX7_isPublisher wsX7_isPublisher rm_X7_isPublisher [.int a0] σ (f_X7_isPublisher N σ a0) := by
  intro r0 hf
  refine ZI.go (cc := cX7_isPublisher) (maxL := 1) (ret := (some .boolean)) (own := RX7) (lv := [(0, .int a0)]) (by decide) rfl rfl (Nat.le_of_ble_eq_true rfl) rfl (fun κ C hR => ?_)
  unfold f_X7_isPublisher at hf
  refine G_iload_n (pc' := 1) C dX7_isPublisher_0 0 rfl rfl ?_
  refine G_iconst (v := (0 : Int32)) (pc' := 2) C dX7_isPublisher_1 (by decide) rfl ?_
  refine G_bipush (v := (7 : Int32)) (pc' := 4) C dX7_isPublisher_2 (by decide) rfl ?_
  refine G_callSp (pc' := 7) C [.int a0, .int (0 : Int32), .int (7 : Int32)] (c_X7_isWithin ω N σ a0 (0 : Int32) (7 : Int32)) sg_X7_isWithin gX7_isPublisher_X7_isWithin ⟨Nat.le_of_ble_eq_true rfl, Nat.le_of_ble_eq_true rfl⟩ rfl rfl (Nat.le_of_ble_eq_true rfl) dX7_isPublisher_4 rfl hf (fun v1 hf => ?_)
  exact G_zret C hR dX7_isPublisher_7 (g_zr_some hf).1 ⟨Option.some.inj (g_zr_some hf).2, rfl⟩
abbrev rm_X7_isDay : Room := { frames := 1, cells := 0, slots := 0, locals := 22 }
theorem sg_X7_isDay : ZG yX7_isDay wsX7_isDay cX7_isDay 1 (some .boolean) RX7 1 rm_X7_isDay := ⟨⟨_, rfl⟩, by decide +kernel, rfl, rfl⟩
set_option maxHeartbeats 4000000 in
set_option maxRecDepth 100000 in
theorem c_X7_isDay (ω : ZO) (N : Nat) (σ : ZS) (a0 : Int32) : ZIp ω wD yX7_isDay wsX7_isDay rm_X7_isDay [.int a0] σ (f_X7_isDay N σ a0) := by
  intro r0 hf
  refine ZI.go (cc := cX7_isDay) (maxL := 1) (ret := (some .boolean)) (own := RX7) (lv := [(0, .int a0)]) (by decide) rfl rfl (Nat.le_of_ble_eq_true rfl) rfl (fun κ C hR => ?_)
  unfold f_X7_isDay at hf
  refine G_iload_n (pc' := 1) C dX7_isDay_0 0 rfl rfl ?_
  refine G_iconst (v := (0 : Int32)) (pc' := 2) C dX7_isDay_1 (by decide) rfl ?_
  refine G_sipush (v := (400 : Int32)) (pc' := 5) C dX7_isDay_2 (by decide) rfl ?_
  refine G_callSp (pc' := 8) C [.int a0, .int (0 : Int32), .int (400 : Int32)] (c_X7_isWithin ω N σ a0 (0 : Int32) (400 : Int32)) sg_X7_isWithin gX7_isDay_X7_isWithin ⟨Nat.le_of_ble_eq_true rfl, Nat.le_of_ble_eq_true rfl⟩ rfl rfl (Nat.le_of_ble_eq_true rfl) dX7_isDay_5 rfl hf (fun v1 hf => ?_)
  exact G_zret C hR dX7_isDay_8 (g_zr_some hf).1 ⟨Option.some.inj (g_zr_some hf).2, rfl⟩
theorem iu_X4_add_X4 : ∀ w ∈ wsX40, w ∈ wsX4_add := by decide +kernel
theorem lk_X4_add_24 : Cond.fieldLink RX4 24 "PrizeDesk$Shelf" "size" "I" ∈ wsX4_add := by decide +kernel
theorem lk_X4_add_18 : Cond.fieldLink RX4 18 "PrizeDesk$Shelf" "days" "[I" ∈ wsX4_add := by decide +kernel
theorem lk_X4_add_15 : Cond.fieldLink RX4 15 "PrizeDesk$Shelf" "pages" "[I" ∈ wsX4_add := by decide +kernel
theorem lk_X4_add_9 : Cond.fieldLink RX4 9 "PrizeDesk$Shelf" "publishers" "[I" ∈ wsX4_add := by decide +kernel
abbrev rm_X4_add : Room := { frames := 0, cells := 0, slots := 0, locals := 0 }
theorem sg_X4_add : ZG yX4_add wsX4_add cX4_add 5 (some .int) RX4 3 rm_X4_add := ⟨⟨_, rfl⟩, by decide +kernel, rfl, rfl⟩
set_option maxHeartbeats 4000000 in
set_option maxRecDepth 100000 in
theorem c_X4_add (ω : ZO) (N : Nat) (σ : ZS) (a1 : Int32) (a2 : Int32) (a3 : Int32) : ZIs ω wD yX4_add wsX4_add rm_X4_add [.ref (za ω 6), .int a1, .int a2, .int a3] σ (f_X4_add N σ a1 a2 a3) := by
  intro r0 hf
  refine ZI.go (cc := cX4_add) (maxL := 5) (ret := (some .int)) (own := RX4) (lv := [(0, .ref (za ω 6)), (1, .int a1), (2, .int a2), (3, .int a3)]) (by decide) rfl rfl (Nat.le_of_ble_eq_true rfl) rfl (fun κ C hR => ?_)
  unfold f_X4_add at hf
  refine G_aload_n (pc' := 1) C dX4_add_0 0 rfl rfl ?_
  refine G_get (pc' := 4) C wD_6 rfl 4 (by decide) rfl iu_X4_add_X4 lk_X4_add_24 dX4_add_1 rfl ?_
  refine G_bipush (v := (24 : Int32)) (pc' := 6) C dX4_add_4 (by decide) rfl ?_
  refine G_icmp_lt (tgt := 11) (pc' := 9) C dX4_add_6 (by decide) rfl hf (fun hf => ?_) (fun hf => ?_)
  · refine G_aload_n (pc' := 12) C dX4_add_11 0 rfl rfl ?_
    refine G_get (pc' := 15) C wD_6 rfl 4 (by decide) rfl iu_X4_add_X4 lk_X4_add_24 dX4_add_12 rfl ?_
    refine G_istore (lv' := [(0, .ref (za ω 6)), (1, .int a1), (2, .int a2), (3, .int a3), (4, .int (σ 6 4))]) (pc' := 17) C dX4_add_15 (by decide) [1, 2, 3, 4, 0] rfl rfl ?_
    refine G_aload_n (pc' := 18) C dX4_add_17 0 rfl rfl ?_
    refine G_get (pc' := 21) C wD_6 rfl 0 (by decide) rfl iu_X4_add_X4 lk_X4_add_9 dX4_add_18 rfl ?_
    refine G_iload (pc' := 23) C dX4_add_21 4 rfl rfl ?_
    refine G_iload_n (pc' := 24) C dX4_add_23 1 rfl rfl ?_
    refine G_iast (pc' := 25) C wD_7 wD_s7 dX4_add_24 rfl hf (fun s1 hf => ?_)
    refine G_aload_n (pc' := 26) C dX4_add_25 0 rfl rfl ?_
    refine G_get (pc' := 29) C wD_6 rfl 1 (by decide) rfl iu_X4_add_X4 lk_X4_add_15 dX4_add_26 rfl ?_
    refine G_iload (pc' := 31) C dX4_add_29 4 rfl rfl ?_
    refine G_iload_n (pc' := 32) C dX4_add_31 2 rfl rfl ?_
    refine G_iast (pc' := 33) C wD_8 wD_s8 dX4_add_32 rfl hf (fun s2 hf => ?_)
    refine G_aload_n (pc' := 34) C dX4_add_33 0 rfl rfl ?_
    refine G_get (pc' := 37) C wD_6 rfl 2 (by decide) rfl iu_X4_add_X4 lk_X4_add_18 dX4_add_34 rfl ?_
    refine G_iload (pc' := 39) C dX4_add_37 4 rfl rfl ?_
    refine G_iload_n (pc' := 40) C dX4_add_39 3 rfl rfl ?_
    refine G_iast (pc' := 41) C wD_9 wD_s9 dX4_add_40 rfl hf (fun s3 hf => ?_)
    refine G_aload_n (pc' := 42) C dX4_add_41 0 rfl rfl ?_
    refine G_dup (pc' := 43) C dX4_add_42 rfl rfl ?_
    refine G_get (pc' := 46) C wD_6 rfl 4 (by decide) rfl iu_X4_add_X4 lk_X4_add_24 dX4_add_43 rfl ?_
    refine G_iconst (v := (1 : Int32)) (pc' := 47) C dX4_add_46 (by decide) rfl ?_
    refine G_iadd (pc' := 48) C dX4_add_47 rfl ?_
    refine G_put (pc' := 51) C tyX4 tyX4_ok nmX4 wD_6 rfl 4 (by decide) (Nat.le_of_ble_eq_true rfl) iu_X4_add_X4 lk_X4_add_24 rfl (by decide +kernel) wD_f6_4 dX4_add_48 rfl hf (fun s4 hf => ?_)
    refine G_iload (pc' := 53) C dX4_add_51 4 rfl rfl ?_
    exact G_iret C hR dX4_add_53 (Option.some.inj hf)
  · refine G_iconst (v := (-1 : Int32)) (pc' := 10) C dX4_add_9 (by decide) rfl ?_
    exact G_iret C hR dX4_add_10 (Option.some.inj hf)
abbrev rm_X7_isBookNumber : Room := { frames := 0, cells := 0, slots := 0, locals := 0 }
theorem sg_X7_isBookNumber : ZG yX7_isBookNumber wsX7_isBookNumber cX7_isBookNumber 1 (some .boolean) RX7 1 rm_X7_isBookNumber := ⟨⟨_, rfl⟩, by decide +kernel, rfl, rfl⟩
set_option maxHeartbeats 4000000 in
set_option maxRecDepth 100000 in
theorem c_X7_isBookNumber (ω : ZO) (N : Nat) (σ : ZS) (a0 : Int32) : ZIp ω wD yX7_isBookNumber wsX7_isBookNumber rm_X7_isBookNumber [.int a0] σ (f_X7_isBookNumber N σ a0) := by
  intro r0 hf
  refine ZI.go (cc := cX7_isBookNumber) (maxL := 1) (ret := (some .boolean)) (own := RX7) (lv := [(0, .int a0)]) (by decide) rfl rfl (Nat.le_of_ble_eq_true rfl) rfl (fun κ C hR => ?_)
  unfold f_X7_isBookNumber at hf
  refine G_iload_n (pc' := 1) C dX7_isBookNumber_0 0 rfl rfl ?_
  refine G_if_lt (tgt := 14) (pc' := 4) C dX7_isBookNumber_1 (by decide) rfl hf (fun hf => ?_) (fun hf => ?_)
  · refine G_iconst (v := (0 : Int32)) (pc' := 15) C dX7_isBookNumber_14 (by decide) rfl ?_
    exact G_zret C hR dX7_isBookNumber_15 (by decide) ⟨Option.some.inj hf, rfl⟩
  · refine G_iload_n (pc' := 5) C dX7_isBookNumber_4 0 rfl rfl ?_
    refine G_bipush (v := (24 : Int32)) (pc' := 7) C dX7_isBookNumber_5 (by decide) rfl ?_
    refine G_icmp_ge (tgt := 14) (pc' := 10) C dX7_isBookNumber_7 (by decide) rfl hf (fun hf => ?_) (fun hf => ?_)
    · refine G_iconst (v := (0 : Int32)) (pc' := 15) C dX7_isBookNumber_14 (by decide) rfl ?_
      exact G_zret C hR dX7_isBookNumber_15 (by decide) ⟨Option.some.inj hf, rfl⟩
    · refine G_iconst (v := (1 : Int32)) (pc' := 11) C dX7_isBookNumber_10 (by decide) rfl ?_
      refine G_goto (pc' := 15) C dX7_isBookNumber_11 (by decide) ?_
      exact G_zret C hR dX7_isBookNumber_15 (by decide) ⟨Option.some.inj hf, rfl⟩
abbrev rm_X7_contains : Room := { frames := 0, cells := 0, slots := 0, locals := 0 }
theorem sg_X7_contains : ZG yX7_contains wsX7_contains cX7_contains 2 (some .boolean) RX7 2 rm_X7_contains := ⟨⟨_, rfl⟩, by decide +kernel, rfl, rfl⟩
set_option maxHeartbeats 4000000 in
set_option maxRecDepth 100000 in
theorem c_X7_contains (ω : ZO) (N : Nat) (σ : ZS) (a0 : Int32) (a1 : Int32) : ZIp ω wD yX7_contains wsX7_contains rm_X7_contains [.int a0, .int a1] σ (f_X7_contains N σ a0 a1) := by
  intro r0 hf
  refine ZI.go (cc := cX7_contains) (maxL := 2) (ret := (some .boolean)) (own := RX7) (lv := [(0, .int a0), (1, .int a1)]) (by decide) rfl rfl (Nat.le_of_ble_eq_true rfl) rfl (fun κ C hR => ?_)
  unfold f_X7_contains at hf
  refine G_iload_n (pc' := 1) C dX7_contains_0 0 rfl rfl ?_
  refine G_iload_n (pc' := 2) C dX7_contains_1 1 rfl rfl ?_
  refine G_ishr (pc' := 3) C dX7_contains_2 rfl ?_
  refine G_iconst (v := (1 : Int32)) (pc' := 4) C dX7_contains_3 (by decide) rfl ?_
  refine G_iand (pc' := 5) C dX7_contains_4 rfl ?_
  refine G_if_eq (tgt := 12) (pc' := 8) C dX7_contains_5 (by decide) rfl hf (fun hf => ?_) (fun hf => ?_)
  · refine G_iconst (v := (0 : Int32)) (pc' := 13) C dX7_contains_12 (by decide) rfl ?_
    exact G_zret C hR dX7_contains_13 (by decide) ⟨Option.some.inj hf, rfl⟩
  · refine G_iconst (v := (1 : Int32)) (pc' := 9) C dX7_contains_8 (by decide) rfl ?_
    refine G_goto (pc' := 13) C dX7_contains_9 (by decide) ?_
    exact G_zret C hR dX7_contains_13 (by decide) ⟨Option.some.inj hf, rfl⟩
abbrev rm_X7_bit : Room := { frames := 0, cells := 0, slots := 0, locals := 0 }
theorem sg_X7_bit : ZG yX7_bit wsX7_bit cX7_bit 1 (some .int) RX7 1 rm_X7_bit := ⟨⟨_, rfl⟩, by decide +kernel, rfl, rfl⟩
set_option maxHeartbeats 4000000 in
set_option maxRecDepth 100000 in
theorem c_X7_bit (ω : ZO) (N : Nat) (σ : ZS) (a0 : Int32) : ZIp ω wD yX7_bit wsX7_bit rm_X7_bit [.int a0] σ (f_X7_bit N σ a0) := by
  intro r0 hf
  refine ZI.go (cc := cX7_bit) (maxL := 1) (ret := (some .int)) (own := RX7) (lv := [(0, .int a0)]) (by decide) rfl rfl (Nat.le_of_ble_eq_true rfl) rfl (fun κ C hR => ?_)
  unfold f_X7_bit at hf
  refine G_iconst (v := (1 : Int32)) (pc' := 1) C dX7_bit_0 (by decide) rfl ?_
  refine G_iload_n (pc' := 2) C dX7_bit_1 0 rfl rfl ?_
  refine G_ishl (pc' := 3) C dX7_bit_2 rfl ?_
  exact G_iret C hR dX7_bit_3 ⟨Option.some.inj hf, rfl⟩
abbrev rm_X7_isJudge : Room := { frames := 0, cells := 0, slots := 0, locals := 0 }
theorem sg_X7_isJudge : ZG yX7_isJudge wsX7_isJudge cX7_isJudge 1 (some .boolean) RX7 1 rm_X7_isJudge := ⟨⟨_, rfl⟩, by decide +kernel, rfl, rfl⟩
set_option maxHeartbeats 4000000 in
set_option maxRecDepth 100000 in
theorem c_X7_isJudge (ω : ZO) (N : Nat) (σ : ZS) (a0 : Int32) : ZIp ω wD yX7_isJudge wsX7_isJudge rm_X7_isJudge [.int a0] σ (f_X7_isJudge N σ a0) := by
  intro r0 hf
  refine ZI.go (cc := cX7_isJudge) (maxL := 1) (ret := (some .boolean)) (own := RX7) (lv := [(0, .int a0)]) (by decide) rfl rfl (Nat.le_of_ble_eq_true rfl) rfl (fun κ C hR => ?_)
  unfold f_X7_isJudge at hf
  refine G_iload_n (pc' := 1) C dX7_isJudge_0 0 rfl rfl ?_
  refine G_if_lt (tgt := 14) (pc' := 4) C dX7_isJudge_1 (by decide) rfl hf (fun hf => ?_) (fun hf => ?_)
  · refine G_iconst (v := (0 : Int32)) (pc' := 15) C dX7_isJudge_14 (by decide) rfl ?_
    exact G_zret C hR dX7_isJudge_15 (by decide) ⟨Option.some.inj hf, rfl⟩
  · refine G_iload_n (pc' := 5) C dX7_isJudge_4 0 rfl rfl ?_
    refine G_bipush (v := (7 : Int32)) (pc' := 7) C dX7_isJudge_5 (by decide) rfl ?_
    refine G_icmp_ge (tgt := 14) (pc' := 10) C dX7_isJudge_7 (by decide) rfl hf (fun hf => ?_) (fun hf => ?_)
    · refine G_iconst (v := (0 : Int32)) (pc' := 15) C dX7_isJudge_14 (by decide) rfl ?_
      exact G_zret C hR dX7_isJudge_15 (by decide) ⟨Option.some.inj hf, rfl⟩
    · refine G_iconst (v := (1 : Int32)) (pc' := 11) C dX7_isJudge_10 (by decide) rfl ?_
      refine G_goto (pc' := 15) C dX7_isJudge_11 (by decide) ?_
      exact G_zret C hR dX7_isJudge_15 (by decide) ⟨Option.some.inj hf, rfl⟩
theorem lk_X0_bar_30n : Cond.methodLinkNest RX0 30 yX7_isJudge RX7 ∈ zNws := by decide +kernel
theorem lk_X0_bar_30s : Cond.static yX7_isJudge ∈ wsX0_bar := by decide +kernel
theorem lk_X0_bar_30i : Cond.initialized yX7_isJudge.cls ∈ wsX0_bar := by decide +kernel
theorem iu_X0_bar_X0 : ∀ w ∈ wsX00, w ∈ wsX0_bar := by decide +kernel
theorem lk_X0_bar_21 : Cond.fieldLink RX0 21 "PrizeDesk$Panel" "markedBooks" "[I" ∈ wsX0_bar := by decide +kernel
theorem lk_X0_bar_18 : Cond.fieldLink RX0 18 "PrizeDesk$Panel" "barredBooks" "[I" ∈ wsX0_bar := by decide +kernel
abbrev rm_X0_bar : Room := { frames := 1, cells := 0, slots := 0, locals := 20 }
theorem sg_X0_bar : ZG yX0_bar wsX0_bar cX0_bar 3 none RX0 2 rm_X0_bar := ⟨⟨_, rfl⟩, by decide +kernel, rfl, rfl⟩
set_option maxHeartbeats 4000000 in
set_option maxRecDepth 100000 in
theorem c_X0_bar (ω : ZO) (N : Nat) (σ : ZS) (a1 : Int32) (a2 : Int32) : ZVs ω wD yX0_bar wsX0_bar rm_X0_bar [.ref (za ω 11), .int a1, .int a2] σ (f_X0_bar N σ a1 a2) := by
  intro r0 hf
  refine ZV.go (cc := cX0_bar) (maxL := 3) (ret := none) (own := RX0) (lv := [(0, .ref (za ω 11)), (1, .int a1), (2, .int a2)]) (by decide) rfl rfl (Nat.le_of_ble_eq_true rfl) rfl (fun κ C hR => ?_)
  unfold f_X0_bar at hf
  refine G_iload_n (pc' := 1) C dX0_bar_0 1 rfl rfl ?_
  refine G_callNp (pc' := 4) C [.int a1] (c_X7_isJudge ω N σ a1) sg_X7_isJudge gX0_bar_X7_isJudge_n30 lk_X0_bar_30n lk_X0_bar_30s lk_X0_bar_30i ⟨Nat.le_of_ble_eq_true rfl, Nat.le_of_ble_eq_true rfl⟩ rfl rfl (Nat.le_of_ble_eq_true rfl) dX0_bar_1 rfl hf (fun v1 hf => ?_)
  refine G_if_eq (tgt := 29) (pc' := 7) C dX0_bar_4 (by decide) rfl hf (fun hf => ?_) (fun hf => ?_)
  · exact G_vret C hR dX0_bar_29 (Option.some.inj hf)
  · refine G_aload_n (pc' := 8) C dX0_bar_7 0 rfl rfl ?_
    refine G_get (pc' := 11) C wD_11 rfl 2 (by decide) rfl iu_X0_bar_X0 lk_X0_bar_18 dX0_bar_8 rfl ?_
    refine G_iload_n (pc' := 12) C dX0_bar_11 1 rfl rfl ?_
    refine G_dup2 (pc' := 13) C dX0_bar_12 rfl rfl rfl ?_
    refine G_iald (pc' := 14) C wD_14 dX0_bar_13 rfl hf (fun v2 hf => ?_)
    refine G_iload_n (pc' := 15) C dX0_bar_14 2 rfl rfl ?_
    refine G_ior (pc' := 16) C dX0_bar_15 rfl ?_
    refine G_iast (pc' := 17) C wD_14 wD_s14 dX0_bar_16 rfl hf (fun s3 hf => ?_)
    refine G_aload_n (pc' := 18) C dX0_bar_17 0 rfl rfl ?_
    refine G_get (pc' := 21) C wD_11 rfl 3 (by decide) rfl iu_X0_bar_X0 lk_X0_bar_21 dX0_bar_18 rfl ?_
    refine G_iload_n (pc' := 22) C dX0_bar_21 1 rfl rfl ?_
    refine G_dup2 (pc' := 23) C dX0_bar_22 rfl rfl rfl ?_
    refine G_iald (pc' := 24) C wD_15 dX0_bar_23 rfl hf (fun v4 hf => ?_)
    refine G_iload_n (pc' := 25) C dX0_bar_24 2 rfl rfl ?_
    refine G_iconst (v := (-1 : Int32)) (pc' := 26) C dX0_bar_25 (by decide) rfl ?_
    refine G_ixor (pc' := 27) C dX0_bar_26 rfl ?_
    refine G_iand (pc' := 28) C dX0_bar_27 rfl ?_
    refine G_iast (pc' := 29) C wD_15 wD_s15 dX0_bar_28 rfl hf (fun s5 hf => ?_)
    exact G_vret C hR dX0_bar_29 (Option.some.inj hf)
theorem lk_X0_barFriends_46n : Cond.methodLinkNest RX0 46 yX7_isBookNumber RX7 ∈ zNws := by decide +kernel
theorem lk_X0_barFriends_46s : Cond.static yX7_isBookNumber ∈ wsX0_barFriends := by decide +kernel
theorem lk_X0_barFriends_46i : Cond.initialized yX7_isBookNumber.cls ∈ wsX0_barFriends := by decide +kernel
theorem lk_X0_barFriends_34n : Cond.methodLinkNest RX0 34 yX7_contains RX7 ∈ zNws := by decide +kernel
theorem lk_X0_barFriends_34s : Cond.static yX7_contains ∈ wsX0_barFriends := by decide +kernel
theorem lk_X0_barFriends_34i : Cond.initialized yX7_contains.cls ∈ wsX0_barFriends := by decide +kernel
theorem lk_X0_barFriends_38n : Cond.methodLinkNest RX0 38 yX7_bit RX7 ∈ zNws := by decide +kernel
theorem lk_X0_barFriends_38s : Cond.static yX7_bit ∈ wsX0_barFriends := by decide +kernel
theorem lk_X0_barFriends_38i : Cond.initialized yX7_bit.cls ∈ wsX0_barFriends := by decide +kernel
theorem iu_X0_barFriends_X0 : ∀ w ∈ wsX00, w ∈ wsX0_barFriends := by decide +kernel
theorem lk_X0_barFriends_15 : Cond.fieldLink RX0 15 "PrizeDesk$Panel" "friends" "[I" ∈ wsX0_barFriends := by decide +kernel
abbrev rm_X0_barFriends : Room := { frames := 2, cells := 0, slots := 0, locals := 42 }
theorem sg_X0_barFriends : ZG yX0_barFriends wsX0_barFriends cX0_barFriends 4 none RX0 2 rm_X0_barFriends := ⟨⟨_, rfl⟩, by decide +kernel, rfl, rfl⟩
set_option maxHeartbeats 4000000 in
set_option maxRecDepth 100000 in
theorem w_X0_barFriends_2 {ω : ZO} {κ : ZK} {N : Nat} {b1 : Int32} {b2 : Int32} {K : Int32 → ZS → Option (ZS)} {r0 : ZS} (C : CX ω wD κ cX0_barFriends wsX0_barFriends RX0 none 4 rm_X0_barFriends) (hR : zRV ω wD κ (fun τ => τ = r0)) (HK : ∀ (y3 : Int32) (τ : ZS), K y3 τ = some r0 → G ω wD κ 43 [(0, .ref (za ω 11))] [] τ) : ∀ (n : Nat) (y3 : Int32) (τ : ZS), L_X0_barFriends_2 N b1 b2 K n y3 τ = some r0 → G ω wD κ 2 [(0, .ref (za ω 11)), (1, .int b1), (2, .int b2), (3, .int y3)] [] τ := by
  intro n
  induction n with
  | zero => intro  y3 τ hf; exact absurd (show none = some r0 from hf) (fun h => nomatch h)
  | succ n ih =>
    intro y3 τ hf
    have hf : B_X0_barFriends_2 N b1 b2 K (L_X0_barFriends_2 N b1 b2 K n) y3 τ = some r0 := hf
    unfold B_X0_barFriends_2 at hf
    refine G_iload_n (pc' := 3) C dX0_barFriends_2 3 rfl rfl ?_
    refine G_bipush (v := (7 : Int32)) (pc' := 5) C dX0_barFriends_3 (by decide) rfl ?_
    refine G_icmp_ge (tgt := 43) (pc' := 8) C dX0_barFriends_5 (by decide) rfl hf (fun hf => ?_) (fun hf => ?_)
    · refine G_sub (lv' := [(0, .ref (za ω 11))]) C [0] rfl ?_
      exact HK y3 τ hf
    · refine G_iload_n (pc' := 9) C dX0_barFriends_8 1 rfl rfl ?_
      refine G_callNp (pc' := 12) C [.int b1] (c_X7_isBookNumber ω N τ b1) sg_X7_isBookNumber gX0_barFriends_X7_isBookNumber_n46 lk_X0_barFriends_46n lk_X0_barFriends_46s lk_X0_barFriends_46i ⟨Nat.le_of_ble_eq_true rfl, Nat.le_of_ble_eq_true rfl⟩ rfl rfl (Nat.le_of_ble_eq_true rfl) dX0_barFriends_9 rfl hf (fun v1 hf => ?_)
      refine G_if_eq (tgt := 37) (pc' := 15) C dX0_barFriends_12 (by decide) rfl hf (fun hf => ?_) (fun hf => ?_)
      · refine G_iincL (v := y3 + (1 : Int32)) (pc' := 40) C dX0_barFriends_37 3 rfl rfl (by decide) [1, 2, 3, 0] (fun x2 => [(0, .ref (za ω 11)), (1, .int b1), (2, .int b2), (3, .int x2)]) (fun _ => rfl) rfl hf (fun x2 hf => ?_)
        refine G_goto (pc' := 2) C dX0_barFriends_40 (by decide) ?_
        exact ih x2 τ hf
      · refine G_aload_n (pc' := 16) C dX0_barFriends_15 0 rfl rfl ?_
        refine G_get (pc' := 19) C wD_11 rfl 1 (by decide) rfl iu_X0_barFriends_X0 lk_X0_barFriends_15 dX0_barFriends_16 rfl ?_
        refine G_iload_n (pc' := 20) C dX0_barFriends_19 3 rfl rfl ?_
        refine G_iald (pc' := 21) C wD_13 dX0_barFriends_20 rfl hf (fun v3 hf => ?_)
        refine G_iload_n (pc' := 22) C dX0_barFriends_21 2 rfl rfl ?_
        refine G_callNp (pc' := 25) C [.int v3, .int b2] (c_X7_contains ω N τ v3 b2) sg_X7_contains gX0_barFriends_X7_contains_n34 lk_X0_barFriends_34n lk_X0_barFriends_34s lk_X0_barFriends_34i ⟨Nat.le_of_ble_eq_true rfl, Nat.le_of_ble_eq_true rfl⟩ rfl rfl (Nat.le_of_ble_eq_true rfl) dX0_barFriends_22 rfl hf (fun v4 hf => ?_)
        refine G_if_eq (tgt := 37) (pc' := 28) C dX0_barFriends_25 (by decide) rfl hf (fun hf => ?_) (fun hf => ?_)
        · refine G_iincL (v := y3 + (1 : Int32)) (pc' := 40) C dX0_barFriends_37 3 rfl rfl (by decide) [1, 2, 3, 0] (fun x5 => [(0, .ref (za ω 11)), (1, .int b1), (2, .int b2), (3, .int x5)]) (fun _ => rfl) rfl hf (fun x5 hf => ?_)
          refine G_goto (pc' := 2) C dX0_barFriends_40 (by decide) ?_
          exact ih x5 τ hf
        · refine G_aload_n (pc' := 29) C dX0_barFriends_28 0 rfl rfl ?_
          refine G_iload_n (pc' := 30) C dX0_barFriends_29 3 rfl rfl ?_
          refine G_iload_n (pc' := 31) C dX0_barFriends_30 1 rfl rfl ?_
          refine G_callNp (pc' := 34) C [.int b1] (c_X7_bit ω N τ b1) sg_X7_bit gX0_barFriends_X7_bit_n38 lk_X0_barFriends_38n lk_X0_barFriends_38s lk_X0_barFriends_38i ⟨Nat.le_of_ble_eq_true rfl, Nat.le_of_ble_eq_true rfl⟩ rfl rfl (Nat.le_of_ble_eq_true rfl) dX0_barFriends_31 rfl hf (fun v6 hf => ?_)
          refine G_callVv (pc' := 37) C [.int y3, .int v6] (c_X0_bar ω N τ y3 v6) sg_X0_bar gX0_barFriends_X0_bar wD_11 rfl ⟨Nat.le_of_ble_eq_true rfl, Nat.le_of_ble_eq_true rfl⟩ rfl rfl (Nat.le_of_ble_eq_true rfl) dX0_barFriends_34 rfl hf (fun s7 hf => ?_)
          refine G_iincL (v := y3 + (1 : Int32)) (pc' := 40) C dX0_barFriends_37 3 rfl rfl (by decide) [1, 2, 3, 0] (fun x8 => [(0, .ref (za ω 11)), (1, .int b1), (2, .int b2), (3, .int x8)]) (fun _ => rfl) rfl hf (fun x8 hf => ?_)
          refine G_goto (pc' := 2) C dX0_barFriends_40 (by decide) ?_
          exact ih x8 s7 hf
set_option maxHeartbeats 4000000 in
set_option maxRecDepth 100000 in
theorem c_X0_barFriends (ω : ZO) (N : Nat) (σ : ZS) (a1 : Int32) (a2 : Int32) : ZVs ω wD yX0_barFriends wsX0_barFriends rm_X0_barFriends [.ref (za ω 11), .int a1, .int a2] σ (f_X0_barFriends N σ a1 a2) := by
  intro r0 hf
  refine ZV.go (cc := cX0_barFriends) (maxL := 4) (ret := none) (own := RX0) (lv := [(0, .ref (za ω 11)), (1, .int a1), (2, .int a2)]) (by decide) rfl rfl (Nat.le_of_ble_eq_true rfl) rfl (fun κ C hR => ?_)
  unfold f_X0_barFriends at hf
  refine G_iconst (v := (0 : Int32)) (pc' := 1) C dX0_barFriends_0 (by decide) rfl ?_
  refine G_istore_n (lv' := [(0, .ref (za ω 11)), (1, .int a1), (2, .int a2), (3, .int (0 : Int32))]) (pc' := 2) C dX0_barFriends_1 (by decide) [1, 2, 3, 0] rfl rfl ?_
  refine w_X0_barFriends_2 C hR (fun y9 s10 hf => ?_) N (0 : Int32) σ hf
  exact G_vret C hR dX0_barFriends_43 (Option.some.inj hf)
theorem iu_X7_book_X7 : ∀ w ∈ wsX70, w ∈ wsX7_book := by decide +kernel
theorem lk_X7_book_33 : Cond.fieldLink RX7 33 "PrizeDesk" "panel" "LPrizeDesk$Panel;" ∈ wsX7_book := by decide +kernel
theorem lk_X7_book_26 : Cond.fieldLink RX7 26 "PrizeDesk" "shelf" "LPrizeDesk$Shelf;" ∈ wsX7_book := by decide +kernel
abbrev rm_X7_book : Room := { frames := 3, cells := 0, slots := 0, locals := 65 }
theorem sg_X7_book : ZG yX7_book wsX7_book cX7_book 5 (some .int) RX7 3 rm_X7_book := ⟨⟨_, rfl⟩, by decide +kernel, rfl, rfl⟩
set_option maxHeartbeats 4000000 in
set_option maxRecDepth 100000 in
theorem c_X7_book (ω : ZO) (N : Nat) (σ : ZS) (a1 : Int32) (a2 : Int32) (a3 : Int32) : ZIs ω wD yX7_book wsX7_book rm_X7_book [.ref (za ω 0), .int a1, .int a2, .int a3] σ (f_X7_book N σ a1 a2 a3) := by
  intro r0 hf
  refine ZI.go (cc := cX7_book) (maxL := 5) (ret := (some .int)) (own := RX7) (lv := [(0, .ref (za ω 0)), (1, .int a1), (2, .int a2), (3, .int a3)]) (by decide) rfl rfl (Nat.le_of_ble_eq_true rfl) rfl (fun κ C hR => ?_)
  unfold f_X7_book at hf
  refine G_iload_n (pc' := 1) C dX7_book_0 1 rfl rfl ?_
  refine G_callSp (pc' := 4) C [.int a1] (c_X7_isPublisher ω N σ a1) sg_X7_isPublisher gX7_book_X7_isPublisher ⟨Nat.le_of_ble_eq_true rfl, Nat.le_of_ble_eq_true rfl⟩ rfl rfl (Nat.le_of_ble_eq_true rfl) dX7_book_1 rfl hf (fun v1 hf => ?_)
  refine G_if_eq (tgt := 25) (pc' := 7) C dX7_book_4 (by decide) rfl hf (fun hf => ?_) (fun hf => ?_)
  · refine G_iconst (v := (-1 : Int32)) (pc' := 26) C dX7_book_25 (by decide) rfl ?_
    exact G_iret C hR dX7_book_26 (Option.some.inj hf)
  · refine G_iload_n (pc' := 8) C dX7_book_7 2 rfl rfl ?_
    refine G_iconst (v := (1 : Int32)) (pc' := 9) C dX7_book_8 (by decide) rfl ?_
    refine G_sipush (v := (2000 : Int32)) (pc' := 12) C dX7_book_9 (by decide) rfl ?_
    refine G_callSp (pc' := 15) C [.int a2, .int (1 : Int32), .int (2000 : Int32)] (c_X7_isWithin ω N σ a2 (1 : Int32) (2000 : Int32)) sg_X7_isWithin gX7_book_X7_isWithin ⟨Nat.le_of_ble_eq_true rfl, Nat.le_of_ble_eq_true rfl⟩ rfl rfl (Nat.le_of_ble_eq_true rfl) dX7_book_12 rfl hf (fun v2 hf => ?_)
    refine G_if_eq (tgt := 25) (pc' := 18) C dX7_book_15 (by decide) rfl hf (fun hf => ?_) (fun hf => ?_)
    · refine G_iconst (v := (-1 : Int32)) (pc' := 26) C dX7_book_25 (by decide) rfl ?_
      exact G_iret C hR dX7_book_26 (Option.some.inj hf)
    · refine G_iload_n (pc' := 19) C dX7_book_18 3 rfl rfl ?_
      refine G_callSp (pc' := 22) C [.int a3] (c_X7_isDay ω N σ a3) sg_X7_isDay gX7_book_X7_isDay ⟨Nat.le_of_ble_eq_true rfl, Nat.le_of_ble_eq_true rfl⟩ rfl rfl (Nat.le_of_ble_eq_true rfl) dX7_book_19 rfl hf (fun v3 hf => ?_)
      refine G_if_ne (tgt := 27) (pc' := 25) C dX7_book_22 (by decide) rfl hf (fun hf => ?_) (fun hf => ?_)
      · refine G_iconst (v := (-1 : Int32)) (pc' := 26) C dX7_book_25 (by decide) rfl ?_
        exact G_iret C hR dX7_book_26 (Option.some.inj hf)
      · refine G_aload_n (pc' := 28) C dX7_book_27 0 rfl rfl ?_
        refine G_get (pc' := 31) C wD_0 rfl 2 (by decide) rfl iu_X7_book_X7 lk_X7_book_26 dX7_book_28 rfl ?_
        refine G_iload_n (pc' := 32) C dX7_book_31 1 rfl rfl ?_
        refine G_iload_n (pc' := 33) C dX7_book_32 2 rfl rfl ?_
        refine G_iload_n (pc' := 34) C dX7_book_33 3 rfl rfl ?_
        refine G_callVt (pc' := 37) C [.int a1, .int a2, .int a3] (c_X4_add ω N σ a1 a2 a3) sg_X4_add gX7_book_X4_add wD_6 rfl ⟨Nat.le_of_ble_eq_true rfl, Nat.le_of_ble_eq_true rfl⟩ rfl rfl (Nat.le_of_ble_eq_true rfl) dX7_book_34 rfl hf (fun v5 s4 hf => ?_)
        refine G_istore (lv' := [(0, .ref (za ω 0)), (1, .int a1), (4, .int v5)]) (pc' := 39) C dX7_book_37 (by decide) [1, 2, 0] rfl rfl ?_
        refine G_aload_n (pc' := 40) C dX7_book_39 0 rfl rfl ?_
        refine G_get (pc' := 43) C wD_0 rfl 3 (by decide) rfl iu_X7_book_X7 lk_X7_book_33 dX7_book_40 rfl ?_
        refine G_iload (pc' := 45) C dX7_book_43 2 rfl rfl ?_
        refine G_iload_n (pc' := 46) C dX7_book_45 1 rfl rfl ?_
        refine G_callVv (pc' := 49) C [.int v5, .int a1] (c_X0_barFriends ω N s4 v5 a1) sg_X0_barFriends gX7_book_X0_barFriends wD_11 rfl ⟨Nat.le_of_ble_eq_true rfl, Nat.le_of_ble_eq_true rfl⟩ rfl rfl (Nat.le_of_ble_eq_true rfl) dX7_book_46 rfl hf (fun s6 hf => ?_)
        refine G_iload (pc' := 51) C dX7_book_49 2 rfl rfl ?_
        exact G_iret C hR dX7_book_51 (Option.some.inj hf)
theorem iu_X4_has_X4 : ∀ w ∈ wsX40, w ∈ wsX4_has := by decide +kernel
theorem lk_X4_has_24 : Cond.fieldLink RX4 24 "PrizeDesk$Shelf" "size" "I" ∈ wsX4_has := by decide +kernel
abbrev rm_X4_has : Room := { frames := 0, cells := 0, slots := 0, locals := 0 }
theorem sg_X4_has : ZG yX4_has wsX4_has cX4_has 2 (some .boolean) RX4 1 rm_X4_has := ⟨⟨_, rfl⟩, by decide +kernel, rfl, rfl⟩
set_option maxHeartbeats 4000000 in
set_option maxRecDepth 100000 in
theorem c_X4_has (ω : ZO) (N : Nat) (σ : ZS) (a1 : Int32) : ZIp ω wD yX4_has wsX4_has rm_X4_has [.ref (za ω 6), .int a1] σ (f_X4_has N σ a1) := by
  intro r0 hf
  refine ZI.go (cc := cX4_has) (maxL := 2) (ret := (some .boolean)) (own := RX4) (lv := [(0, .ref (za ω 6)), (1, .int a1)]) (by decide) rfl rfl (Nat.le_of_ble_eq_true rfl) rfl (fun κ C hR => ?_)
  unfold f_X4_has at hf
  refine G_iload_n (pc' := 1) C dX4_has_0 1 rfl rfl ?_
  refine G_if_lt (tgt := 16) (pc' := 4) C dX4_has_1 (by decide) rfl hf (fun hf => ?_) (fun hf => ?_)
  · refine G_iconst (v := (0 : Int32)) (pc' := 17) C dX4_has_16 (by decide) rfl ?_
    exact G_zret C hR dX4_has_17 (by decide) ⟨Option.some.inj hf, rfl⟩
  · refine G_iload_n (pc' := 5) C dX4_has_4 1 rfl rfl ?_
    refine G_aload_n (pc' := 6) C dX4_has_5 0 rfl rfl ?_
    refine G_get (pc' := 9) C wD_6 rfl 4 (by decide) rfl iu_X4_has_X4 lk_X4_has_24 dX4_has_6 rfl ?_
    refine G_icmp_ge (tgt := 16) (pc' := 12) C dX4_has_9 (by decide) rfl hf (fun hf => ?_) (fun hf => ?_)
    · refine G_iconst (v := (0 : Int32)) (pc' := 17) C dX4_has_16 (by decide) rfl ?_
      exact G_zret C hR dX4_has_17 (by decide) ⟨Option.some.inj hf, rfl⟩
    · refine G_iconst (v := (1 : Int32)) (pc' := 13) C dX4_has_12 (by decide) rfl ?_
      refine G_goto (pc' := 17) C dX4_has_13 (by decide) ?_
      exact G_zret C hR dX4_has_17 (by decide) ⟨Option.some.inj hf, rfl⟩
theorem lk_X4_isCalledIn_45n : Cond.methodLinkNest RX4 45 yX7_contains RX7 ∈ zNws := by decide +kernel
theorem lk_X4_isCalledIn_45s : Cond.static yX7_contains ∈ wsX4_isCalledIn := by decide +kernel
theorem lk_X4_isCalledIn_45i : Cond.initialized yX7_contains.cls ∈ wsX4_isCalledIn := by decide +kernel
theorem iu_X4_isCalledIn_X4 : ∀ w ∈ wsX40, w ∈ wsX4_isCalledIn := by decide +kernel
theorem lk_X4_isCalledIn_28 : Cond.fieldLink RX4 28 "PrizeDesk$Shelf" "calledIn" "I" ∈ wsX4_isCalledIn := by decide +kernel
abbrev rm_X4_isCalledIn : Room := { frames := 1, cells := 0, slots := 0, locals := 21 }
theorem sg_X4_isCalledIn : ZG yX4_isCalledIn wsX4_isCalledIn cX4_isCalledIn 2 (some .boolean) RX4 1 rm_X4_isCalledIn := ⟨⟨_, rfl⟩, by decide +kernel, rfl, rfl⟩
set_option maxHeartbeats 4000000 in
set_option maxRecDepth 100000 in
theorem c_X4_isCalledIn (ω : ZO) (N : Nat) (σ : ZS) (a1 : Int32) : ZIp ω wD yX4_isCalledIn wsX4_isCalledIn rm_X4_isCalledIn [.ref (za ω 6), .int a1] σ (f_X4_isCalledIn N σ a1) := by
  intro r0 hf
  refine ZI.go (cc := cX4_isCalledIn) (maxL := 2) (ret := (some .boolean)) (own := RX4) (lv := [(0, .ref (za ω 6)), (1, .int a1)]) (by decide) rfl rfl (Nat.le_of_ble_eq_true rfl) rfl (fun κ C hR => ?_)
  unfold f_X4_isCalledIn at hf
  refine G_aload_n (pc' := 1) C dX4_isCalledIn_0 0 rfl rfl ?_
  refine G_get (pc' := 4) C wD_6 rfl 5 (by decide) rfl iu_X4_isCalledIn_X4 lk_X4_isCalledIn_28 dX4_isCalledIn_1 rfl ?_
  refine G_iload_n (pc' := 5) C dX4_isCalledIn_4 1 rfl rfl ?_
  refine G_callNp (pc' := 8) C [.int (σ 6 5), .int a1] (c_X7_contains ω N σ (σ 6 5) a1) sg_X7_contains gX4_isCalledIn_X7_contains_n45 lk_X4_isCalledIn_45n lk_X4_isCalledIn_45s lk_X4_isCalledIn_45i ⟨Nat.le_of_ble_eq_true rfl, Nat.le_of_ble_eq_true rfl⟩ rfl rfl (Nat.le_of_ble_eq_true rfl) dX4_isCalledIn_5 rfl hf (fun v1 hf => ?_)
  exact G_zret C hR dX4_isCalledIn_8 (g_zr_some hf).1 ⟨Option.some.inj (g_zr_some hf).2, rfl⟩
theorem lk_X4_callIn_38n : Cond.methodLinkNest RX4 38 yX7_bit RX7 ∈ zNws := by decide +kernel
theorem lk_X4_callIn_38s : Cond.static yX7_bit ∈ wsX4_callIn := by decide +kernel
theorem lk_X4_callIn_38i : Cond.initialized yX7_bit.cls ∈ wsX4_callIn := by decide +kernel
theorem iu_X4_callIn_X4 : ∀ w ∈ wsX40, w ∈ wsX4_callIn := by decide +kernel
theorem lk_X4_callIn_28 : Cond.fieldLink RX4 28 "PrizeDesk$Shelf" "calledIn" "I" ∈ wsX4_callIn := by decide +kernel
abbrev rm_X4_callIn : Room := { frames := 2, cells := 0, slots := 0, locals := 42 }
theorem sg_X4_callIn : ZG yX4_callIn wsX4_callIn cX4_callIn 3 (some .boolean) RX4 1 rm_X4_callIn := ⟨⟨_, rfl⟩, by decide +kernel, rfl, rfl⟩
set_option maxHeartbeats 4000000 in
set_option maxRecDepth 100000 in
theorem c_X4_callIn (ω : ZO) (N : Nat) (σ : ZS) (a1 : Int32) : ZIs ω wD yX4_callIn wsX4_callIn rm_X4_callIn [.ref (za ω 6), .int a1] σ (f_X4_callIn N σ a1) := by
  intro r0 hf
  refine ZI.go (cc := cX4_callIn) (maxL := 3) (ret := (some .boolean)) (own := RX4) (lv := [(0, .ref (za ω 6)), (1, .int a1)]) (by decide) rfl rfl (Nat.le_of_ble_eq_true rfl) rfl (fun κ C hR => ?_)
  unfold f_X4_callIn at hf
  refine G_aload_n (pc' := 1) C dX4_callIn_0 0 rfl rfl ?_
  refine G_iload_n (pc' := 2) C dX4_callIn_1 1 rfl rfl ?_
  refine G_callVp (pc' := 5) C [.int a1] (c_X4_isCalledIn ω N σ a1) sg_X4_isCalledIn gX4_callIn_X4_isCalledIn wD_6 rfl ⟨Nat.le_of_ble_eq_true rfl, Nat.le_of_ble_eq_true rfl⟩ rfl rfl (Nat.le_of_ble_eq_true rfl) dX4_callIn_2 rfl hf (fun v1 hf => ?_)
  refine G_if_ne (tgt := 12) (pc' := 8) C dX4_callIn_5 (by decide) rfl hf (fun hf => ?_) (fun hf => ?_)
  · refine G_iconst (v := (1 : Int32)) (pc' := 9) C dX4_callIn_8 (by decide) rfl ?_
    refine G_goto (pc' := 13) C dX4_callIn_9 (by decide) ?_
    refine G_istore_n (lv' := [(0, .ref (za ω 6)), (1, .int a1), (2, .int (1 : Int32))]) (pc' := 14) C dX4_callIn_13 (by decide) [1, 2, 0] rfl rfl ?_
    refine G_aload_n (pc' := 15) C dX4_callIn_14 0 rfl rfl ?_
    refine G_dup (pc' := 16) C dX4_callIn_15 rfl rfl ?_
    refine G_get (pc' := 19) C wD_6 rfl 5 (by decide) rfl iu_X4_callIn_X4 lk_X4_callIn_28 dX4_callIn_16 rfl ?_
    refine G_iload_n (pc' := 20) C dX4_callIn_19 1 rfl rfl ?_
    refine G_callNp (pc' := 23) C [.int a1] (c_X7_bit ω N σ a1) sg_X7_bit gX4_callIn_X7_bit_n38 lk_X4_callIn_38n lk_X4_callIn_38s lk_X4_callIn_38i ⟨Nat.le_of_ble_eq_true rfl, Nat.le_of_ble_eq_true rfl⟩ rfl rfl (Nat.le_of_ble_eq_true rfl) dX4_callIn_20 rfl hf (fun v2 hf => ?_)
    refine G_ior (pc' := 24) C dX4_callIn_23 rfl ?_
    refine G_put (pc' := 27) C tyX4 tyX4_ok nmX4 wD_6 rfl 5 (by decide) (Nat.le_of_ble_eq_true rfl) iu_X4_callIn_X4 lk_X4_callIn_28 rfl (by decide +kernel) wD_f6_5 dX4_callIn_24 rfl hf (fun s3 hf => ?_)
    refine G_iload_n (pc' := 28) C dX4_callIn_27 2 rfl rfl ?_
    exact G_zret C hR dX4_callIn_28 (by decide) (Option.some.inj hf)
  · refine G_iconst (v := (0 : Int32)) (pc' := 13) C dX4_callIn_12 (by decide) rfl ?_
    refine G_istore_n (lv' := [(0, .ref (za ω 6)), (1, .int a1), (2, .int (0 : Int32))]) (pc' := 14) C dX4_callIn_13 (by decide) [1, 2, 0] rfl rfl ?_
    refine G_aload_n (pc' := 15) C dX4_callIn_14 0 rfl rfl ?_
    refine G_dup (pc' := 16) C dX4_callIn_15 rfl rfl ?_
    refine G_get (pc' := 19) C wD_6 rfl 5 (by decide) rfl iu_X4_callIn_X4 lk_X4_callIn_28 dX4_callIn_16 rfl ?_
    refine G_iload_n (pc' := 20) C dX4_callIn_19 1 rfl rfl ?_
    refine G_callNp (pc' := 23) C [.int a1] (c_X7_bit ω N σ a1) sg_X7_bit gX4_callIn_X7_bit_n38 lk_X4_callIn_38n lk_X4_callIn_38s lk_X4_callIn_38i ⟨Nat.le_of_ble_eq_true rfl, Nat.le_of_ble_eq_true rfl⟩ rfl rfl (Nat.le_of_ble_eq_true rfl) dX4_callIn_20 rfl hf (fun v4 hf => ?_)
    refine G_ior (pc' := 24) C dX4_callIn_23 rfl ?_
    refine G_put (pc' := 27) C tyX4 tyX4_ok nmX4 wD_6 rfl 5 (by decide) (Nat.le_of_ble_eq_true rfl) iu_X4_callIn_X4 lk_X4_callIn_28 rfl (by decide +kernel) wD_f6_5 dX4_callIn_24 rfl hf (fun s5 hf => ?_)
    refine G_iload_n (pc' := 28) C dX4_callIn_27 2 rfl rfl ?_
    exact G_zret C hR dX4_callIn_28 (by decide) (Option.some.inj hf)
theorem iu_X7_call_X7 : ∀ w ∈ wsX70, w ∈ wsX7_call := by decide +kernel
theorem lk_X7_call_26 : Cond.fieldLink RX7 26 "PrizeDesk" "shelf" "LPrizeDesk$Shelf;" ∈ wsX7_call := by decide +kernel
abbrev rm_X7_call : Room := { frames := 3, cells := 0, slots := 0, locals := 64 }
theorem sg_X7_call : ZG yX7_call wsX7_call cX7_call 2 (some .boolean) RX7 1 rm_X7_call := ⟨⟨_, rfl⟩, by decide +kernel, rfl, rfl⟩
set_option maxHeartbeats 4000000 in
set_option maxRecDepth 100000 in
theorem c_X7_call (ω : ZO) (N : Nat) (σ : ZS) (a1 : Int32) : ZIs ω wD yX7_call wsX7_call rm_X7_call [.ref (za ω 0), .int a1] σ (f_X7_call N σ a1) := by
  intro r0 hf
  refine ZI.go (cc := cX7_call) (maxL := 2) (ret := (some .boolean)) (own := RX7) (lv := [(0, .ref (za ω 0)), (1, .int a1)]) (by decide) rfl rfl (Nat.le_of_ble_eq_true rfl) rfl (fun κ C hR => ?_)
  unfold f_X7_call at hf
  refine G_aload_n (pc' := 1) C dX7_call_0 0 rfl rfl ?_
  refine G_get (pc' := 4) C wD_0 rfl 2 (by decide) rfl iu_X7_call_X7 lk_X7_call_26 dX7_call_1 rfl ?_
  refine G_iload_n (pc' := 5) C dX7_call_4 1 rfl rfl ?_
  refine G_callVp (pc' := 8) C [.int a1] (c_X4_has ω N σ a1) sg_X4_has gX7_call_X4_has wD_6 rfl ⟨Nat.le_of_ble_eq_true rfl, Nat.le_of_ble_eq_true rfl⟩ rfl rfl (Nat.le_of_ble_eq_true rfl) dX7_call_5 rfl hf (fun v1 hf => ?_)
  refine G_if_eq (tgt := 26) (pc' := 11) C dX7_call_8 (by decide) rfl hf (fun hf => ?_) (fun hf => ?_)
  · refine G_iconst (v := (0 : Int32)) (pc' := 27) C dX7_call_26 (by decide) rfl ?_
    exact G_zret C hR dX7_call_27 (by decide) (Option.some.inj hf)
  · refine G_aload_n (pc' := 12) C dX7_call_11 0 rfl rfl ?_
    refine G_get (pc' := 15) C wD_0 rfl 2 (by decide) rfl iu_X7_call_X7 lk_X7_call_26 dX7_call_12 rfl ?_
    refine G_iload_n (pc' := 16) C dX7_call_15 1 rfl rfl ?_
    refine G_callVt (pc' := 19) C [.int a1] (c_X4_callIn ω N σ a1) sg_X4_callIn gX7_call_X4_callIn wD_6 rfl ⟨Nat.le_of_ble_eq_true rfl, Nat.le_of_ble_eq_true rfl⟩ rfl rfl (Nat.le_of_ble_eq_true rfl) dX7_call_16 rfl hf (fun v3 s2 hf => ?_)
    refine G_if_eq (tgt := 26) (pc' := 22) C dX7_call_19 (by decide) rfl hf (fun hf => ?_) (fun hf => ?_)
    · refine G_iconst (v := (0 : Int32)) (pc' := 27) C dX7_call_26 (by decide) rfl ?_
      exact G_zret C hR dX7_call_27 (by decide) (Option.some.inj hf)
    · refine G_iconst (v := (1 : Int32)) (pc' := 23) C dX7_call_22 (by decide) rfl ?_
      refine G_goto (pc' := 27) C dX7_call_23 (by decide) ?_
      exact G_zret C hR dX7_call_27 (by decide) (Option.some.inj hf)
theorem lk_X4_isTakenOut_45n : Cond.methodLinkNest RX4 45 yX7_contains RX7 ∈ zNws := by decide +kernel
theorem lk_X4_isTakenOut_45s : Cond.static yX7_contains ∈ wsX4_isTakenOut := by decide +kernel
theorem lk_X4_isTakenOut_45i : Cond.initialized yX7_contains.cls ∈ wsX4_isTakenOut := by decide +kernel
theorem iu_X4_isTakenOut_X4 : ∀ w ∈ wsX40, w ∈ wsX4_isTakenOut := by decide +kernel
theorem lk_X4_isTakenOut_31 : Cond.fieldLink RX4 31 "PrizeDesk$Shelf" "takenOut" "I" ∈ wsX4_isTakenOut := by decide +kernel
abbrev rm_X4_isTakenOut : Room := { frames := 1, cells := 0, slots := 0, locals := 21 }
theorem sg_X4_isTakenOut : ZG yX4_isTakenOut wsX4_isTakenOut cX4_isTakenOut 2 (some .boolean) RX4 1 rm_X4_isTakenOut := ⟨⟨_, rfl⟩, by decide +kernel, rfl, rfl⟩
set_option maxHeartbeats 4000000 in
set_option maxRecDepth 100000 in
theorem c_X4_isTakenOut (ω : ZO) (N : Nat) (σ : ZS) (a1 : Int32) : ZIp ω wD yX4_isTakenOut wsX4_isTakenOut rm_X4_isTakenOut [.ref (za ω 6), .int a1] σ (f_X4_isTakenOut N σ a1) := by
  intro r0 hf
  refine ZI.go (cc := cX4_isTakenOut) (maxL := 2) (ret := (some .boolean)) (own := RX4) (lv := [(0, .ref (za ω 6)), (1, .int a1)]) (by decide) rfl rfl (Nat.le_of_ble_eq_true rfl) rfl (fun κ C hR => ?_)
  unfold f_X4_isTakenOut at hf
  refine G_aload_n (pc' := 1) C dX4_isTakenOut_0 0 rfl rfl ?_
  refine G_get (pc' := 4) C wD_6 rfl 6 (by decide) rfl iu_X4_isTakenOut_X4 lk_X4_isTakenOut_31 dX4_isTakenOut_1 rfl ?_
  refine G_iload_n (pc' := 5) C dX4_isTakenOut_4 1 rfl rfl ?_
  refine G_callNp (pc' := 8) C [.int (σ 6 6), .int a1] (c_X7_contains ω N σ (σ 6 6) a1) sg_X7_contains gX4_isTakenOut_X7_contains_n45 lk_X4_isTakenOut_45n lk_X4_isTakenOut_45s lk_X4_isTakenOut_45i ⟨Nat.le_of_ble_eq_true rfl, Nat.le_of_ble_eq_true rfl⟩ rfl rfl (Nat.le_of_ble_eq_true rfl) dX4_isTakenOut_5 rfl hf (fun v1 hf => ?_)
  exact G_zret C hR dX4_isTakenOut_8 (g_zr_some hf).1 ⟨Option.some.inj (g_zr_some hf).2, rfl⟩
