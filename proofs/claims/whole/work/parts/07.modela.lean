theorem iu_X8_types_X8 : ∀ w ∈ wsX80, w ∈ wsX8_types := by decide +kernel
theorem lk_X8_types_91 : Cond.fieldLink RX8 91 "PrizeDeskModel" "taped" "I" ∈ wsX8_types := by decide +kernel
theorem lk_X8_types_7 : Cond.fieldLink RX8 7 "PrizeDeskModel" "tape" "[B" ∈ wsX8_types := by decide +kernel
abbrev rm_X8_types : Room := { frames := 0, cells := 0, slots := 0, locals := 0 }
theorem sg_X8_types : ZG yX8_types wsX8_types cX8_types 3 none RX8 1 rm_X8_types := ⟨⟨_, rfl⟩, by decide +kernel, rfl, rfl⟩
set_option maxHeartbeats 4000000 in
set_option maxRecDepth 100000 in
theorem w_X8_types_2 {ω : ZO} {κ : ZK} {N : Nat} {b1 : Int32} {K : Int32 → ZS → Option (ZS)} {r0 : ZS} (C : CX ω wM κ cX8_types wsX8_types RX8 none 3 rm_X8_types) (hR : zRV ω wM κ (fun τ => τ = r0)) (HK : ∀ (y2 : Int32) (τ : ZS), K y2 τ = some r0 → G ω wM κ 38 [(0, .ref (za ω 0))] [] τ) : ∀ (n : Nat) (y2 : Int32) (τ : ZS), L_X8_types_2 N b1 K n y2 τ = some r0 → G ω wM κ 2 [(0, .ref (za ω 0)), (1, .int b1), (2, .int y2)] [] τ := by
  intro n
  induction n with
  | zero => intro  y2 τ hf; exact absurd (show none = some r0 from hf) (fun h => nomatch h)
  | succ n ih =>
    intro y2 τ hf
    have hf : B_X8_types_2 N b1 K (L_X8_types_2 N b1 K n) y2 τ = some r0 := hf
    unfold B_X8_types_2 at hf
    refine G_iload_n (pc' := 3) C dX8_types_2 2 rfl rfl ?_
    refine G_if_lt (tgt := 38) (pc' := 6) C dX8_types_3 (by decide) rfl hf (fun hf => ?_) (fun hf => ?_)
    · refine G_sub (lv' := [(0, .ref (za ω 0))]) C [0] rfl ?_
      exact HK y2 τ hf
    · refine G_aload_n (pc' := 7) C dX8_types_6 0 rfl rfl ?_
      refine G_get (pc' := 10) C wM_0 rfl 0 (by decide) rfl iu_X8_types_X8 lk_X8_types_7 dX8_types_7 rfl ?_
      refine G_aload_n (pc' := 11) C dX8_types_10 0 rfl rfl ?_
      refine G_get (pc' := 14) C wM_0 rfl 1 (by decide) rfl iu_X8_types_X8 lk_X8_types_91 dX8_types_11 rfl ?_
      refine G_iload_n (pc' := 15) C dX8_types_14 1 rfl rfl ?_
      refine G_bipush (v := (8 : Int32)) (pc' := 17) C dX8_types_15 (by decide) rfl ?_
      refine G_iload_n (pc' := 18) C dX8_types_17 2 rfl rfl ?_
      refine G_imul (pc' := 19) C dX8_types_18 rfl ?_
      refine G_ishr (pc' := 20) C dX8_types_19 rfl ?_
      refine G_i2b (pc' := 21) C dX8_types_20 rfl ?_
      refine G_bast (pc' := 22) C wM_1 wM_s1 dX8_types_21 rfl hf (fun s1 hf => ?_)
      refine G_aload_n (pc' := 23) C dX8_types_22 0 rfl rfl ?_
      refine G_aload_n (pc' := 24) C dX8_types_23 0 rfl rfl ?_
      refine G_get (pc' := 27) C wM_0 rfl 1 (by decide) rfl iu_X8_types_X8 lk_X8_types_91 dX8_types_24 rfl ?_
      refine G_iconst (v := (1 : Int32)) (pc' := 28) C dX8_types_27 (by decide) rfl ?_
      refine G_iadd (pc' := 29) C dX8_types_28 rfl ?_
      refine G_put (pc' := 32) C tyX8 tyX8_ok nmX8 wM_0 rfl 1 (by decide) (Nat.le_of_ble_eq_true rfl) iu_X8_types_X8 lk_X8_types_91 rfl (by decide +kernel) wM_f0_1 dX8_types_29 rfl hf (fun s2 hf => ?_)
      refine G_iincL (v := y2 + (-1 : Int32)) (pc' := 35) C dX8_types_32 2 rfl rfl (by decide) [1, 2, 0] (fun x3 => [(0, .ref (za ω 0)), (1, .int b1), (2, .int x3)]) (fun _ => rfl) rfl hf (fun x3 hf => ?_)
      refine G_goto (pc' := 2) C dX8_types_35 (by decide) ?_
      exact ih x3 s2 hf
set_option maxHeartbeats 4000000 in
set_option maxRecDepth 100000 in
theorem c_X8_types (ω : ZO) (N : Nat) (σ : ZS) (a1 : Int32) : ZVs ω wM yX8_types wsX8_types rm_X8_types [.ref (za ω 0), .int a1] σ (f_X8_types N σ a1) := by
  intro r0 hf
  refine ZV.go (cc := cX8_types) (maxL := 3) (ret := none) (own := RX8) (lv := [(0, .ref (za ω 0)), (1, .int a1)]) (by decide) rfl rfl (Nat.le_of_ble_eq_true rfl) rfl (fun κ C hR => ?_)
  unfold f_X8_types at hf
  refine G_iconst (v := (3 : Int32)) (pc' := 1) C dX8_types_0 (by decide) rfl ?_
  refine G_istore_n (lv' := [(0, .ref (za ω 0)), (1, .int a1), (2, .int (3 : Int32))]) (pc' := 2) C dX8_types_1 (by decide) [1, 2, 0] rfl rfl ?_
  refine w_X8_types_2 C hR (fun y4 s5 hf => ?_) N (3 : Int32) σ hf
  exact G_vret C hR dX8_types_38 (Option.some.inj hf)
theorem iu_X8_feed_X8 : ∀ w ∈ wsX80, w ∈ wsX8_feed := by decide +kernel
theorem lk_X8_feed_91 : Cond.fieldLink RX8 91 "PrizeDeskModel" "taped" "I" ∈ wsX8_feed := by decide +kernel
abbrev rm_X8_feed : Room := { frames := 1, cells := 0, slots := 0, locals := 22 }
theorem sg_X8_feed : ZG yX8_feed wsX8_feed cX8_feed 6 (some .int) RX8 5 rm_X8_feed := ⟨⟨_, rfl⟩, by decide +kernel, rfl, rfl⟩
set_option maxHeartbeats 4000000 in
set_option maxRecDepth 100000 in
theorem c_X8_feed (ω : ZO) (N : Nat) (σ : ZS) (a1 : Int32) (a2 : Int32) (a3 : Int32) (a4 : Int32) (a5 : Int32) : ZIs ω wM yX8_feed wsX8_feed rm_X8_feed [.ref (za ω 0), .int a1, .int a2, .int a3, .int a4, .int a5] σ (f_X8_feed N σ a1 a2 a3 a4 a5) := by
  intro r0 hf
  refine ZI.go (cc := cX8_feed) (maxL := 6) (ret := (some .int)) (own := RX8) (lv := [(0, .ref (za ω 0)), (1, .int a1), (2, .int a2), (3, .int a3), (4, .int a4), (5, .int a5)]) (by decide) rfl rfl (Nat.le_of_ble_eq_true rfl) rfl (fun κ C hR => ?_)
  unfold f_X8_feed at hf
  refine G_aload_n (pc' := 1) C dX8_feed_0 0 rfl rfl ?_
  refine G_get (pc' := 4) C wM_0 rfl 1 (by decide) rfl iu_X8_feed_X8 lk_X8_feed_91 dX8_feed_1 rfl ?_
  refine G_bipush (v := (20 : Int32)) (pc' := 6) C dX8_feed_4 (by decide) rfl ?_
  refine G_iadd (pc' := 7) C dX8_feed_6 rfl ?_
  refine G_bipush (v := (80 : Int32)) (pc' := 9) C dX8_feed_7 (by decide) rfl ?_
  refine G_icmp_le (tgt := 14) (pc' := 12) C dX8_feed_9 (by decide) rfl hf (fun hf => ?_) (fun hf => ?_)
  · refine G_aload_n (pc' := 15) C dX8_feed_14 0 rfl rfl ?_
    refine G_iload_n (pc' := 16) C dX8_feed_15 1 rfl rfl ?_
    refine G_callVv (pc' := 19) C [.int a1] (c_X8_types ω N σ a1) sg_X8_types gX8_feed_X8_types wM_0 rfl ⟨Nat.le_of_ble_eq_true rfl, Nat.le_of_ble_eq_true rfl⟩ rfl rfl (Nat.le_of_ble_eq_true rfl) dX8_feed_16 rfl hf (fun s1 hf => ?_)
    refine G_aload_n (pc' := 20) C dX8_feed_19 0 rfl rfl ?_
    refine G_iload_n (pc' := 21) C dX8_feed_20 2 rfl rfl ?_
    refine G_callVv (pc' := 24) C [.int a2] (c_X8_types ω N s1 a2) sg_X8_types gX8_feed_X8_types wM_0 rfl ⟨Nat.le_of_ble_eq_true rfl, Nat.le_of_ble_eq_true rfl⟩ rfl rfl (Nat.le_of_ble_eq_true rfl) dX8_feed_21 rfl hf (fun s2 hf => ?_)
    refine G_aload_n (pc' := 25) C dX8_feed_24 0 rfl rfl ?_
    refine G_iload_n (pc' := 26) C dX8_feed_25 3 rfl rfl ?_
    refine G_callVv (pc' := 29) C [.int a3] (c_X8_types ω N s2 a3) sg_X8_types gX8_feed_X8_types wM_0 rfl ⟨Nat.le_of_ble_eq_true rfl, Nat.le_of_ble_eq_true rfl⟩ rfl rfl (Nat.le_of_ble_eq_true rfl) dX8_feed_26 rfl hf (fun s3 hf => ?_)
    refine G_aload_n (pc' := 30) C dX8_feed_29 0 rfl rfl ?_
    refine G_iload (pc' := 32) C dX8_feed_30 4 rfl rfl ?_
    refine G_callVv (pc' := 35) C [.int a4] (c_X8_types ω N s3 a4) sg_X8_types gX8_feed_X8_types wM_0 rfl ⟨Nat.le_of_ble_eq_true rfl, Nat.le_of_ble_eq_true rfl⟩ rfl rfl (Nat.le_of_ble_eq_true rfl) dX8_feed_32 rfl hf (fun s4 hf => ?_)
    refine G_aload_n (pc' := 36) C dX8_feed_35 0 rfl rfl ?_
    refine G_iload (pc' := 38) C dX8_feed_36 5 rfl rfl ?_
    refine G_callVv (pc' := 41) C [.int a5] (c_X8_types ω N s4 a5) sg_X8_types gX8_feed_X8_types wM_0 rfl ⟨Nat.le_of_ble_eq_true rfl, Nat.le_of_ble_eq_true rfl⟩ rfl rfl (Nat.le_of_ble_eq_true rfl) dX8_feed_38 rfl hf (fun s5 hf => ?_)
    refine G_aload_n (pc' := 42) C dX8_feed_41 0 rfl rfl ?_
    refine G_get (pc' := 45) C wM_0 rfl 1 (by decide) rfl iu_X8_feed_X8 lk_X8_feed_91 dX8_feed_42 rfl ?_
    exact G_iret C hR dX8_feed_45 (Option.some.inj hf)
  · refine G_iconst (v := (-1 : Int32)) (pc' := 13) C dX8_feed_12 (by decide) rfl ?_
    exact G_iret C hR dX8_feed_13 (Option.some.inj hf)
abbrev rm_X8_begins_3 : Room := { frames := 0, cells := 0, slots := 0, locals := 0 }
theorem sg_X8_begins_3 : ZG yX8_begins wsX8_begins cX8_begins 1 none RX8 1 rm_X8_begins_3 := ⟨⟨_, rfl⟩, by decide +kernel, rfl, rfl⟩
set_option maxHeartbeats 4000000 in
set_option maxRecDepth 100000 in
theorem c_X8_begins_3 (ω : ZO) (N : Nat) (σ : ZS) : ZVs ω wM yX8_begins wsX8_begins rm_X8_begins_3 [.ref (za ω 3)] σ (f_X8_begins_3 N σ) := by
  intro r0 hf
  refine ZV.go (cc := cX8_begins) (maxL := 1) (ret := none) (own := RX8) (lv := [(0, .ref (za ω 3))]) (by decide) rfl rfl (Nat.le_of_ble_eq_true rfl) rfl (fun κ C hR => ?_)
  unfold f_X8_begins_3 at hf
  refine G_aload_n (pc' := 1) C dX8_begins_0 0 rfl rfl ?_
  refine G_iconst (v := (0 : Int32)) (pc' := 2) C dX8_begins_1 (by decide) rfl ?_
  refine G_bipush (v := (50 : Int32)) (pc' := 4) C dX8_begins_2 (by decide) rfl ?_
  refine G_iast (pc' := 5) C wM_3 wM_s3 dX8_begins_4 rfl hf (fun s1 hf => ?_)
  refine G_aload_n (pc' := 6) C dX8_begins_5 0 rfl rfl ?_
  refine G_iconst (v := (1 : Int32)) (pc' := 7) C dX8_begins_6 (by decide) rfl ?_
  refine G_sipush (v := (900 : Int32)) (pc' := 10) C dX8_begins_7 (by decide) rfl ?_
  refine G_iast (pc' := 11) C wM_3 wM_s3 dX8_begins_10 rfl hf (fun s2 hf => ?_)
  refine G_aload_n (pc' := 12) C dX8_begins_11 0 rfl rfl ?_
  refine G_iconst (v := (2 : Int32)) (pc' := 13) C dX8_begins_12 (by decide) rfl ?_
  refine G_iconst (v := (0 : Int32)) (pc' := 14) C dX8_begins_13 (by decide) rfl ?_
  refine G_iast (pc' := 15) C wM_3 wM_s3 dX8_begins_14 rfl hf (fun s3 hf => ?_)
  refine G_aload_n (pc' := 16) C dX8_begins_15 0 rfl rfl ?_
  refine G_iconst (v := (3 : Int32)) (pc' := 17) C dX8_begins_16 (by decide) rfl ?_
  refine G_sipush (v := (365 : Int32)) (pc' := 20) C dX8_begins_17 (by decide) rfl ?_
  refine G_iast (pc' := 21) C wM_3 wM_s3 dX8_begins_20 rfl hf (fun s4 hf => ?_)
  refine G_aload_n (pc' := 22) C dX8_begins_21 0 rfl rfl ?_
  refine G_iconst (v := (4 : Int32)) (pc' := 23) C dX8_begins_22 (by decide) rfl ?_
  refine G_iconst (v := (3 : Int32)) (pc' := 24) C dX8_begins_23 (by decide) rfl ?_
  refine G_iast (pc' := 25) C wM_3 wM_s3 dX8_begins_24 rfl hf (fun s5 hf => ?_)
  refine G_aload_n (pc' := 26) C dX8_begins_25 0 rfl rfl ?_
  refine G_iconst (v := (5 : Int32)) (pc' := 27) C dX8_begins_26 (by decide) rfl ?_
  refine G_iconst (v := (2 : Int32)) (pc' := 28) C dX8_begins_27 (by decide) rfl ?_
  refine G_iast (pc' := 29) C wM_3 wM_s3 dX8_begins_28 rfl hf (fun s6 hf => ?_)
  refine G_aload_n (pc' := 30) C dX8_begins_29 0 rfl rfl ?_
  refine G_bipush (v := (6 : Int32)) (pc' := 32) C dX8_begins_30 (by decide) rfl ?_
  refine G_bipush (v := (30 : Int32)) (pc' := 34) C dX8_begins_32 (by decide) rfl ?_
  refine G_iast (pc' := 35) C wM_3 wM_s3 dX8_begins_34 rfl hf (fun s7 hf => ?_)
  refine G_aload_n (pc' := 36) C dX8_begins_35 0 rfl rfl ?_
  refine G_bipush (v := (7 : Int32)) (pc' := 38) C dX8_begins_36 (by decide) rfl ?_
  refine G_bipush (v := (6 : Int32)) (pc' := 40) C dX8_begins_38 (by decide) rfl ?_
  refine G_iast (pc' := 41) C wM_3 wM_s3 dX8_begins_40 rfl hf (fun s8 hf => ?_)
  refine G_aload_n (pc' := 42) C dX8_begins_41 0 rfl rfl ?_
  refine G_bipush (v := (8 : Int32)) (pc' := 44) C dX8_begins_42 (by decide) rfl ?_
  refine G_iconst (v := (3 : Int32)) (pc' := 45) C dX8_begins_44 (by decide) rfl ?_
  refine G_iast (pc' := 46) C wM_3 wM_s3 dX8_begins_45 rfl hf (fun s9 hf => ?_)
  refine G_aload_n (pc' := 47) C dX8_begins_46 0 rfl rfl ?_
  refine G_bipush (v := (9 : Int32)) (pc' := 49) C dX8_begins_47 (by decide) rfl ?_
  refine G_iconst (v := (0 : Int32)) (pc' := 50) C dX8_begins_49 (by decide) rfl ?_
  refine G_iast (pc' := 51) C wM_3 wM_s3 dX8_begins_50 rfl hf (fun s10 hf => ?_)
  refine G_aload_n (pc' := 52) C dX8_begins_51 0 rfl rfl ?_
  refine G_bipush (v := (10 : Int32)) (pc' := 54) C dX8_begins_52 (by decide) rfl ?_
  refine G_iconst (v := (0 : Int32)) (pc' := 55) C dX8_begins_54 (by decide) rfl ?_
  refine G_iast (pc' := 56) C wM_3 wM_s3 dX8_begins_55 rfl hf (fun s11 hf => ?_)
  exact G_vret C hR dX8_begins_56 (Option.some.inj hf)
theorem iu_X8_isDigit_X8 : ∀ w ∈ wsX80, w ∈ wsX8_isDigit := by decide +kernel
theorem lk_X8_isDigit_7 : Cond.fieldLink RX8 7 "PrizeDeskModel" "tape" "[B" ∈ wsX8_isDigit := by decide +kernel
abbrev rm_X8_isDigit : Room := { frames := 0, cells := 0, slots := 0, locals := 0 }
theorem sg_X8_isDigit : ZG yX8_isDigit wsX8_isDigit cX8_isDigit 3 (some .boolean) RX8 2 rm_X8_isDigit := ⟨⟨_, rfl⟩, by decide +kernel, rfl, rfl⟩
set_option maxHeartbeats 4000000 in
set_option maxRecDepth 100000 in
theorem c_X8_isDigit (ω : ZO) (N : Nat) (σ : ZS) (a1 : Int32) (a2 : Int32) : ZIp ω wM yX8_isDigit wsX8_isDigit rm_X8_isDigit [.ref (za ω 0), .int a1, .int a2] σ (f_X8_isDigit N σ a1 a2) := by
  intro r0 hf
  refine ZI.go (cc := cX8_isDigit) (maxL := 3) (ret := (some .boolean)) (own := RX8) (lv := [(0, .ref (za ω 0)), (1, .int a1), (2, .int a2)]) (by decide) rfl rfl (Nat.le_of_ble_eq_true rfl) rfl (fun κ C hR => ?_)
  unfold f_X8_isDigit at hf
  refine G_iload_n (pc' := 1) C dX8_isDigit_0 1 rfl rfl ?_
  refine G_iload_n (pc' := 2) C dX8_isDigit_1 2 rfl rfl ?_
  refine G_icmp_ge (tgt := 31) (pc' := 5) C dX8_isDigit_2 (by decide) rfl hf (fun hf => ?_) (fun hf => ?_)
  · refine G_iconst (v := (0 : Int32)) (pc' := 32) C dX8_isDigit_31 (by decide) rfl ?_
    exact G_zret C hR dX8_isDigit_32 (by decide) ⟨Option.some.inj hf, rfl⟩
  · refine G_aload_n (pc' := 6) C dX8_isDigit_5 0 rfl rfl ?_
    refine G_get (pc' := 9) C wM_0 rfl 0 (by decide) rfl iu_X8_isDigit_X8 lk_X8_isDigit_7 dX8_isDigit_6 rfl ?_
    refine G_iload_n (pc' := 10) C dX8_isDigit_9 1 rfl rfl ?_
    refine G_bald (pc' := 11) C wM_1 dX8_isDigit_10 rfl hf (fun v1 hf => ?_)
    refine G_bipush (v := (48 : Int32)) (pc' := 13) C dX8_isDigit_11 (by decide) rfl ?_
    refine G_icmp_lt (tgt := 31) (pc' := 16) C dX8_isDigit_13 (by decide) rfl hf (fun hf => ?_) (fun hf => ?_)
    · refine G_iconst (v := (0 : Int32)) (pc' := 32) C dX8_isDigit_31 (by decide) rfl ?_
      exact G_zret C hR dX8_isDigit_32 (by decide) ⟨Option.some.inj hf, rfl⟩
    · refine G_aload_n (pc' := 17) C dX8_isDigit_16 0 rfl rfl ?_
      refine G_get (pc' := 20) C wM_0 rfl 0 (by decide) rfl iu_X8_isDigit_X8 lk_X8_isDigit_7 dX8_isDigit_17 rfl ?_
      refine G_iload_n (pc' := 21) C dX8_isDigit_20 1 rfl rfl ?_
      refine G_bald (pc' := 22) C wM_1 dX8_isDigit_21 rfl hf (fun v2 hf => ?_)
      refine G_bipush (v := (57 : Int32)) (pc' := 24) C dX8_isDigit_22 (by decide) rfl ?_
      refine G_icmp_gt (tgt := 31) (pc' := 27) C dX8_isDigit_24 (by decide) rfl hf (fun hf => ?_) (fun hf => ?_)
      · refine G_iconst (v := (0 : Int32)) (pc' := 32) C dX8_isDigit_31 (by decide) rfl ?_
        exact G_zret C hR dX8_isDigit_32 (by decide) ⟨Option.some.inj hf, rfl⟩
      · refine G_iconst (v := (1 : Int32)) (pc' := 28) C dX8_isDigit_27 (by decide) rfl ?_
        refine G_goto (pc' := 32) C dX8_isDigit_28 (by decide) ?_
        exact G_zret C hR dX8_isDigit_32 (by decide) ⟨Option.some.inj hf, rfl⟩
abbrev rm_X8_canBe : Room := { frames := 0, cells := 0, slots := 0, locals := 0 }
theorem sg_X8_canBe : ZG yX8_canBe wsX8_canBe cX8_canBe 2 (some .boolean) RX8 2 rm_X8_canBe := ⟨⟨_, rfl⟩, by decide +kernel, rfl, rfl⟩
set_option maxHeartbeats 4000000 in
set_option maxRecDepth 100000 in
theorem c_X8_canBe (ω : ZO) (N : Nat) (σ : ZS) (a0 : Int32) (a1 : Int32) : ZIp ω wM yX8_canBe wsX8_canBe rm_X8_canBe [.int a0, .int a1] σ (f_X8_canBe N σ a0 a1) := by
  intro r0 hf
  refine ZI.go (cc := cX8_canBe) (maxL := 2) (ret := (some .boolean)) (own := RX8) (lv := [(0, .int a0), (1, .int a1)]) (by decide) rfl rfl (Nat.le_of_ble_eq_true rfl) rfl (fun κ C hR => ?_)
  unfold f_X8_canBe at hf
  refine G_iload_n (pc' := 1) C dX8_canBe_0 0 rfl rfl ?_
  by_cases hk5 : a0 = (5 : Int32)
  · rw [if_pos hk5] at hf
    refine G_tIn (k := (5 : Int32)) (off := 39) (tgt := 40) C hk5 dX8_canBe_1 (by decide) (by decide) (by decide +kernel) (by decide) ?_
    refine G_iload_n (pc' := 41) C dX8_canBe_40 1 rfl rfl ?_
    refine G_iconst (v := (1 : Int32)) (pc' := 42) C dX8_canBe_41 (by decide) rfl ?_
    refine G_icmp_lt (tgt := 54) (pc' := 45) C dX8_canBe_42 (by decide) rfl hf (fun hf => ?_) (fun hf => ?_)
    · refine G_iconst (v := (0 : Int32)) (pc' := 55) C dX8_canBe_54 (by decide) rfl ?_
      exact G_zret C hR dX8_canBe_55 (by decide) ⟨Option.some.inj hf, rfl⟩
    · refine G_iload_n (pc' := 46) C dX8_canBe_45 1 rfl rfl ?_
      refine G_iconst (v := (3 : Int32)) (pc' := 47) C dX8_canBe_46 (by decide) rfl ?_
      refine G_icmp_gt (tgt := 54) (pc' := 50) C dX8_canBe_47 (by decide) rfl hf (fun hf => ?_) (fun hf => ?_)
      · refine G_iconst (v := (0 : Int32)) (pc' := 55) C dX8_canBe_54 (by decide) rfl ?_
        exact G_zret C hR dX8_canBe_55 (by decide) ⟨Option.some.inj hf, rfl⟩
      · refine G_iconst (v := (1 : Int32)) (pc' := 51) C dX8_canBe_50 (by decide) rfl ?_
        refine G_goto (pc' := 55) C dX8_canBe_51 (by decide) ?_
        exact G_zret C hR dX8_canBe_55 (by decide) ⟨Option.some.inj hf, rfl⟩
  rw [if_neg hk5] at hf
  by_cases hk7 : a0 = (7 : Int32)
  · rw [if_pos hk7] at hf
    refine G_tIn (k := (7 : Int32)) (off := 55) (tgt := 56) C hk7 dX8_canBe_1 (by decide) (by decide) (by decide +kernel) (by decide) ?_
    refine G_iload_n (pc' := 57) C dX8_canBe_56 1 rfl rfl ?_
    refine G_iconst (v := (1 : Int32)) (pc' := 58) C dX8_canBe_57 (by decide) rfl ?_
    refine G_icmp_lt (tgt := 71) (pc' := 61) C dX8_canBe_58 (by decide) rfl hf (fun hf => ?_) (fun hf => ?_)
    · refine G_iconst (v := (0 : Int32)) (pc' := 72) C dX8_canBe_71 (by decide) rfl ?_
      exact G_zret C hR dX8_canBe_72 (by decide) ⟨Option.some.inj hf, rfl⟩
    · refine G_iload_n (pc' := 62) C dX8_canBe_61 1 rfl rfl ?_
      refine G_bipush (v := (12 : Int32)) (pc' := 64) C dX8_canBe_62 (by decide) rfl ?_
      refine G_icmp_gt (tgt := 71) (pc' := 67) C dX8_canBe_64 (by decide) rfl hf (fun hf => ?_) (fun hf => ?_)
      · refine G_iconst (v := (0 : Int32)) (pc' := 72) C dX8_canBe_71 (by decide) rfl ?_
        exact G_zret C hR dX8_canBe_72 (by decide) ⟨Option.some.inj hf, rfl⟩
      · refine G_iconst (v := (1 : Int32)) (pc' := 68) C dX8_canBe_67 (by decide) rfl ?_
        refine G_goto (pc' := 72) C dX8_canBe_68 (by decide) ?_
        exact G_zret C hR dX8_canBe_72 (by decide) ⟨Option.some.inj hf, rfl⟩
  rw [if_neg hk7] at hf
  by_cases hk8 : a0 = (8 : Int32)
  · rw [if_pos hk8] at hf
    refine G_tIn (k := (8 : Int32)) (off := 55) (tgt := 56) C hk8 dX8_canBe_1 (by decide) (by decide) (by decide +kernel) (by decide) ?_
    refine G_iload_n (pc' := 57) C dX8_canBe_56 1 rfl rfl ?_
    refine G_iconst (v := (1 : Int32)) (pc' := 58) C dX8_canBe_57 (by decide) rfl ?_
    refine G_icmp_lt (tgt := 71) (pc' := 61) C dX8_canBe_58 (by decide) rfl hf (fun hf => ?_) (fun hf => ?_)
    · refine G_iconst (v := (0 : Int32)) (pc' := 72) C dX8_canBe_71 (by decide) rfl ?_
      exact G_zret C hR dX8_canBe_72 (by decide) ⟨Option.some.inj hf, rfl⟩
    · refine G_iload_n (pc' := 62) C dX8_canBe_61 1 rfl rfl ?_
      refine G_bipush (v := (12 : Int32)) (pc' := 64) C dX8_canBe_62 (by decide) rfl ?_
      refine G_icmp_gt (tgt := 71) (pc' := 67) C dX8_canBe_64 (by decide) rfl hf (fun hf => ?_) (fun hf => ?_)
      · refine G_iconst (v := (0 : Int32)) (pc' := 72) C dX8_canBe_71 (by decide) rfl ?_
        exact G_zret C hR dX8_canBe_72 (by decide) ⟨Option.some.inj hf, rfl⟩
      · refine G_iconst (v := (1 : Int32)) (pc' := 68) C dX8_canBe_67 (by decide) rfl ?_
        refine G_goto (pc' := 72) C dX8_canBe_68 (by decide) ?_
        exact G_zret C hR dX8_canBe_72 (by decide) ⟨Option.some.inj hf, rfl⟩
  rw [if_neg hk8] at hf
  by_cases hk9 : a0 = (9 : Int32)
  · rw [if_pos hk9] at hf
    refine G_tIn (k := (9 : Int32)) (off := 72) (tgt := 73) C hk9 dX8_canBe_1 (by decide) (by decide) (by decide +kernel) (by decide) ?_
    refine G_iload_n (pc' := 74) C dX8_canBe_73 1 rfl rfl ?_
    refine G_iconst (v := (2 : Int32)) (pc' := 75) C dX8_canBe_74 (by decide) rfl ?_
    refine G_icmp_gt (tgt := 82) (pc' := 78) C dX8_canBe_75 (by decide) rfl hf (fun hf => ?_) (fun hf => ?_)
    · refine G_iconst (v := (0 : Int32)) (pc' := 83) C dX8_canBe_82 (by decide) rfl ?_
      exact G_zret C hR dX8_canBe_83 (by decide) ⟨Option.some.inj hf, rfl⟩
    · refine G_iconst (v := (1 : Int32)) (pc' := 79) C dX8_canBe_78 (by decide) rfl ?_
      refine G_goto (pc' := 83) C dX8_canBe_79 (by decide) ?_
      exact G_zret C hR dX8_canBe_83 (by decide) ⟨Option.some.inj hf, rfl⟩
  rw [if_neg hk9] at hf
  by_cases hk10 : a0 = (10 : Int32)
  · rw [if_pos hk10] at hf
    refine G_tIn (k := (10 : Int32)) (off := 83) (tgt := 84) C hk10 dX8_canBe_1 (by decide) (by decide) (by decide +kernel) (by decide) ?_
    refine G_iload_n (pc' := 85) C dX8_canBe_84 1 rfl rfl ?_
    refine G_iconst (v := (1 : Int32)) (pc' := 86) C dX8_canBe_85 (by decide) rfl ?_
    refine G_icmp_gt (tgt := 93) (pc' := 89) C dX8_canBe_86 (by decide) rfl hf (fun hf => ?_) (fun hf => ?_)
    · refine G_iconst (v := (0 : Int32)) (pc' := 94) C dX8_canBe_93 (by decide) rfl ?_
      exact G_zret C hR dX8_canBe_94 (by decide) ⟨Option.some.inj hf, rfl⟩
    · refine G_iconst (v := (1 : Int32)) (pc' := 90) C dX8_canBe_89 (by decide) rfl ?_
      refine G_goto (pc' := 94) C dX8_canBe_90 (by decide) ?_
      exact G_zret C hR dX8_canBe_94 (by decide) ⟨Option.some.inj hf, rfl⟩
  rw [if_neg hk10] at hf
  have gd : G ω wM κ 95 [(0, .int a0), (1, .int a1)] [] σ := by
    refine G_iconst (v := (1 : Int32)) (pc' := 96) C dX8_canBe_95 (by decide) rfl ?_
    exact G_zret C hR dX8_canBe_96 (by decide) ⟨Option.some.inj hf, rfl⟩
  have hn5 := lv_neT hk5 (show ((5 : Int32)).toInt = 5 by decide)
  have hn7 := lv_neT hk7 (show ((7 : Int32)).toInt = 7 by decide)
  have hn8 := lv_neT hk8 (show ((8 : Int32)).toInt = 8 by decide)
  have hn9 := lv_neT hk9 (show ((9 : Int32)).toInt = 9 by decide)
  have hn10 := lv_neT hk10 (show ((10 : Int32)).toInt = 10 by decide)
  rcases (show (a0).toInt < 5 ∨ 10 < (a0).toInt ∨ (a0).toInt = 6 by omega) with ho | ho | ho
  · exact G_tOut (tgt := 95) C dX8_canBe_1 (Or.inl ho) (by decide) gd
  · exact G_tOut (tgt := 95) C dX8_canBe_1 (Or.inr ho) (by decide) gd
  · exact G_tIn (k := (6 : Int32)) (off := 94) (tgt := 95) C (Int32.toInt_inj.mp (ho.trans (by decide))) dX8_canBe_1 (by decide) (by decide) (by decide +kernel) (by decide) gd
abbrev rm_X8_letterOf : Room := { frames := 0, cells := 0, slots := 0, locals := 0 }
theorem sg_X8_letterOf : ZG yX8_letterOf wsX8_letterOf cX8_letterOf 1 (some .int) RX8 1 rm_X8_letterOf := ⟨⟨_, rfl⟩, by decide +kernel, rfl, rfl⟩
set_option maxHeartbeats 4000000 in
set_option maxRecDepth 100000 in
theorem c_X8_letterOf (ω : ZO) (N : Nat) (σ : ZS) (a0 : Int32) : ZIp ω wM yX8_letterOf wsX8_letterOf rm_X8_letterOf [.int a0] σ (f_X8_letterOf N σ a0) := by
  intro r0 hf
  refine ZI.go (cc := cX8_letterOf) (maxL := 1) (ret := (some .int)) (own := RX8) (lv := [(0, .int a0)]) (by decide) rfl rfl (Nat.le_of_ble_eq_true rfl) rfl (fun κ C hR => ?_)
  unfold f_X8_letterOf at hf
  refine G_iload_n (pc' := 1) C dX8_letterOf_0 0 rfl rfl ?_
  by_cases hk98 : a0 = (98 : Int32)
  · rw [if_pos hk98] at hf
    refine G_tIn (k := (98 : Int32)) (off := 107) (tgt := 108) C hk98 dX8_letterOf_1 (by decide) (by decide) (by decide +kernel) (by decide) ?_
    refine G_iconst (v := (4 : Int32)) (pc' := 109) C dX8_letterOf_108 (by decide) rfl ?_
    exact G_iret C hR dX8_letterOf_109 ⟨Option.some.inj hf, rfl⟩
  rw [if_neg hk98] at hf
  by_cases hk99 : a0 = (99 : Int32)
  · rw [if_pos hk99] at hf
    refine G_tIn (k := (99 : Int32)) (off := 123) (tgt := 124) C hk99 dX8_letterOf_1 (by decide) (by decide) (by decide +kernel) (by decide) ?_
    refine G_bipush (v := (10 : Int32)) (pc' := 126) C dX8_letterOf_124 (by decide) rfl ?_
    exact G_iret C hR dX8_letterOf_126 ⟨Option.some.inj hf, rfl⟩
  rw [if_neg hk99] at hf
  by_cases hk100 : a0 = (100 : Int32)
  · rw [if_pos hk100] at hf
    refine G_tIn (k := (100 : Int32)) (off := 111) (tgt := 112) C hk100 dX8_letterOf_1 (by decide) (by decide) (by decide +kernel) (by decide) ?_
    refine G_bipush (v := (6 : Int32)) (pc' := 114) C dX8_letterOf_112 (by decide) rfl ?_
    exact G_iret C hR dX8_letterOf_114 ⟨Option.some.inj hf, rfl⟩
  rw [if_neg hk100] at hf
  by_cases hk102 : a0 = (102 : Int32)
  · rw [if_pos hk102] at hf
    refine G_tIn (k := (102 : Int32)) (off := 103) (tgt := 104) C hk102 dX8_letterOf_1 (by decide) (by decide) (by decide +kernel) (by decide) ?_
    refine G_iconst (v := (2 : Int32)) (pc' := 105) C dX8_letterOf_104 (by decide) rfl ?_
    exact G_iret C hR dX8_letterOf_105 ⟨Option.some.inj hf, rfl⟩
  rw [if_neg hk102] at hf
  by_cases hk108 : a0 = (108 : Int32)
  · rw [if_pos hk108] at hf
    refine G_tIn (k := (108 : Int32)) (off := 114) (tgt := 115) C hk108 dX8_letterOf_1 (by decide) (by decide) (by decide +kernel) (by decide) ?_
    refine G_bipush (v := (7 : Int32)) (pc' := 117) C dX8_letterOf_115 (by decide) rfl ?_
    exact G_iret C hR dX8_letterOf_117 ⟨Option.some.inj hf, rfl⟩
  rw [if_neg hk108] at hf
  by_cases hk112 : a0 = (112 : Int32)
  · rw [if_pos hk112] at hf
    refine G_tIn (k := (112 : Int32)) (off := 99) (tgt := 100) C hk112 dX8_letterOf_1 (by decide) (by decide) (by decide +kernel) (by decide) ?_
    refine G_iconst (v := (0 : Int32)) (pc' := 101) C dX8_letterOf_100 (by decide) rfl ?_
    exact G_iret C hR dX8_letterOf_101 ⟨Option.some.inj hf, rfl⟩
  rw [if_neg hk112] at hf
  by_cases hk113 : a0 = (113 : Int32)
  · rw [if_pos hk113] at hf
    refine G_tIn (k := (113 : Int32)) (off := 101) (tgt := 102) C hk113 dX8_letterOf_1 (by decide) (by decide) (by decide +kernel) (by decide) ?_
    refine G_iconst (v := (1 : Int32)) (pc' := 103) C dX8_letterOf_102 (by decide) rfl ?_
    exact G_iret C hR dX8_letterOf_103 ⟨Option.some.inj hf, rfl⟩
  rw [if_neg hk113] at hf
  by_cases hk114 : a0 = (114 : Int32)
  · rw [if_pos hk114] at hf
    refine G_tIn (k := (114 : Int32)) (off := 109) (tgt := 110) C hk114 dX8_letterOf_1 (by decide) (by decide) (by decide +kernel) (by decide) ?_
    refine G_iconst (v := (5 : Int32)) (pc' := 111) C dX8_letterOf_110 (by decide) rfl ?_
    exact G_iret C hR dX8_letterOf_111 ⟨Option.some.inj hf, rfl⟩
  rw [if_neg hk114] at hf
  by_cases hk115 : a0 = (115 : Int32)
  · rw [if_pos hk115] at hf
    refine G_tIn (k := (115 : Int32)) (off := 117) (tgt := 118) C hk115 dX8_letterOf_1 (by decide) (by decide) (by decide +kernel) (by decide) ?_
    refine G_bipush (v := (8 : Int32)) (pc' := 120) C dX8_letterOf_118 (by decide) rfl ?_
    exact G_iret C hR dX8_letterOf_120 ⟨Option.some.inj hf, rfl⟩
  rw [if_neg hk115] at hf
  by_cases hk116 : a0 = (116 : Int32)
  · rw [if_pos hk116] at hf
    refine G_tIn (k := (116 : Int32)) (off := 105) (tgt := 106) C hk116 dX8_letterOf_1 (by decide) (by decide) (by decide +kernel) (by decide) ?_
    refine G_iconst (v := (3 : Int32)) (pc' := 107) C dX8_letterOf_106 (by decide) rfl ?_
    exact G_iret C hR dX8_letterOf_107 ⟨Option.some.inj hf, rfl⟩
  rw [if_neg hk116] at hf
  by_cases hk118 : a0 = (118 : Int32)
  · rw [if_pos hk118] at hf
    refine G_tIn (k := (118 : Int32)) (off := 120) (tgt := 121) C hk118 dX8_letterOf_1 (by decide) (by decide) (by decide +kernel) (by decide) ?_
    refine G_bipush (v := (9 : Int32)) (pc' := 123) C dX8_letterOf_121 (by decide) rfl ?_
    exact G_iret C hR dX8_letterOf_123 ⟨Option.some.inj hf, rfl⟩
  rw [if_neg hk118] at hf
  have gd : G ω wM κ 127 [(0, .int a0)] [] σ := by
    refine G_iconst (v := (-1 : Int32)) (pc' := 128) C dX8_letterOf_127 (by decide) rfl ?_
    exact G_iret C hR dX8_letterOf_128 ⟨Option.some.inj hf, rfl⟩
  have hn98 := lv_neT hk98 (show ((98 : Int32)).toInt = 98 by decide)
  have hn99 := lv_neT hk99 (show ((99 : Int32)).toInt = 99 by decide)
  have hn100 := lv_neT hk100 (show ((100 : Int32)).toInt = 100 by decide)
  have hn102 := lv_neT hk102 (show ((102 : Int32)).toInt = 102 by decide)
  have hn108 := lv_neT hk108 (show ((108 : Int32)).toInt = 108 by decide)
  have hn112 := lv_neT hk112 (show ((112 : Int32)).toInt = 112 by decide)
  have hn113 := lv_neT hk113 (show ((113 : Int32)).toInt = 113 by decide)
  have hn114 := lv_neT hk114 (show ((114 : Int32)).toInt = 114 by decide)
  have hn115 := lv_neT hk115 (show ((115 : Int32)).toInt = 115 by decide)
  have hn116 := lv_neT hk116 (show ((116 : Int32)).toInt = 116 by decide)
  have hn118 := lv_neT hk118 (show ((118 : Int32)).toInt = 118 by decide)
  rcases (show (a0).toInt < 98 ∨ 118 < (a0).toInt ∨ (a0).toInt = 101 ∨ (a0).toInt = 103 ∨ (a0).toInt = 104 ∨ (a0).toInt = 105 ∨ (a0).toInt = 106 ∨ (a0).toInt = 107 ∨ (a0).toInt = 109 ∨ (a0).toInt = 110 ∨ (a0).toInt = 111 ∨ (a0).toInt = 117 by omega) with ho | ho | ho | ho | ho | ho | ho | ho | ho | ho | ho | ho
  · exact G_tOut (tgt := 127) C dX8_letterOf_1 (Or.inl ho) (by decide) gd
  · exact G_tOut (tgt := 127) C dX8_letterOf_1 (Or.inr ho) (by decide) gd
  · exact G_tIn (k := (101 : Int32)) (off := 126) (tgt := 127) C (Int32.toInt_inj.mp (ho.trans (by decide))) dX8_letterOf_1 (by decide) (by decide) (by decide +kernel) (by decide) gd
  · exact G_tIn (k := (103 : Int32)) (off := 126) (tgt := 127) C (Int32.toInt_inj.mp (ho.trans (by decide))) dX8_letterOf_1 (by decide) (by decide) (by decide +kernel) (by decide) gd
  · exact G_tIn (k := (104 : Int32)) (off := 126) (tgt := 127) C (Int32.toInt_inj.mp (ho.trans (by decide))) dX8_letterOf_1 (by decide) (by decide) (by decide +kernel) (by decide) gd
  · exact G_tIn (k := (105 : Int32)) (off := 126) (tgt := 127) C (Int32.toInt_inj.mp (ho.trans (by decide))) dX8_letterOf_1 (by decide) (by decide) (by decide +kernel) (by decide) gd
  · exact G_tIn (k := (106 : Int32)) (off := 126) (tgt := 127) C (Int32.toInt_inj.mp (ho.trans (by decide))) dX8_letterOf_1 (by decide) (by decide) (by decide +kernel) (by decide) gd
  · exact G_tIn (k := (107 : Int32)) (off := 126) (tgt := 127) C (Int32.toInt_inj.mp (ho.trans (by decide))) dX8_letterOf_1 (by decide) (by decide) (by decide +kernel) (by decide) gd
  · exact G_tIn (k := (109 : Int32)) (off := 126) (tgt := 127) C (Int32.toInt_inj.mp (ho.trans (by decide))) dX8_letterOf_1 (by decide) (by decide) (by decide +kernel) (by decide) gd
  · exact G_tIn (k := (110 : Int32)) (off := 126) (tgt := 127) C (Int32.toInt_inj.mp (ho.trans (by decide))) dX8_letterOf_1 (by decide) (by decide) (by decide +kernel) (by decide) gd
  · exact G_tIn (k := (111 : Int32)) (off := 126) (tgt := 127) C (Int32.toInt_inj.mp (ho.trans (by decide))) dX8_letterOf_1 (by decide) (by decide) (by decide +kernel) (by decide) gd
  · exact G_tIn (k := (117 : Int32)) (off := 126) (tgt := 127) C (Int32.toInt_inj.mp (ho.trans (by decide))) dX8_letterOf_1 (by decide) (by decide) (by decide +kernel) (by decide) gd
theorem iu_X8_parse_X8 : ∀ w ∈ wsX80, w ∈ wsX8_parse := by decide +kernel
theorem lk_X8_parse_7 : Cond.fieldLink RX8 7 "PrizeDeskModel" "tape" "[B" ∈ wsX8_parse := by decide +kernel
theorem lk_X8_parse_17 : Cond.fieldLink RX8 17 "PrizeDeskModel" "said" "[I" ∈ wsX8_parse := by decide +kernel
abbrev rm_X8_parse : Room := { frames := 1, cells := 0, slots := 0, locals := 22 }
theorem sg_X8_parse : ZG yX8_parse wsX8_parse cX8_parse 6 (some .int) RX8 1 rm_X8_parse := ⟨⟨_, rfl⟩, by decide +kernel, rfl, rfl⟩
set_option maxHeartbeats 4000000 in
set_option maxRecDepth 100000 in
theorem w_X8_parse_56 {ω : ZO} {κ : ZK} {N : Nat} {σ : ZS} {b1 : Int32} {b3 : Int32} {b4 : Int32} {K : Int32 → Int32 → Option (Int32 × ZS)} {r0 : Int32 × ZS} (C : CX ω wM κ cX8_parse wsX8_parse RX8 (some .int) 6 rm_X8_parse) (hR : zRI ω wM κ (fun v τ => (v, τ) = r0)) (HK : ∀ (y2 : Int32) (y5 : Int32), K y2 y5 = some r0 → G ω wM κ 103 [(0, .ref (za ω 0)), (1, .int b1), (2, .int y2), (3, .int b3), (4, .int b4), (5, .int y5)] [] σ) : ∀ (n : Nat) (y2 : Int32) (y5 : Int32), L_X8_parse_56 N σ b1 b3 b4 K n y2 y5 = some r0 → G ω wM κ 56 [(0, .ref (za ω 0)), (1, .int b1), (2, .int y2), (3, .int b3), (4, .int b4), (5, .int y5)] [] σ := by
  intro n
  induction n with
  | zero => intro  y2 y5 hf; exact absurd (show none = some r0 from hf) (fun h => nomatch h)
  | succ n ih =>
    intro y2 y5 hf
    have hf : B_X8_parse_56 N σ b1 b3 b4 K (L_X8_parse_56 N σ b1 b3 b4 K n) y2 y5 = some r0 := hf
    unfold B_X8_parse_56 at hf
    refine G_aload_n (pc' := 57) C dX8_parse_56 0 rfl rfl ?_
    refine G_iload_n (pc' := 58) C dX8_parse_57 2 rfl rfl ?_
    refine G_iload_n (pc' := 59) C dX8_parse_58 1 rfl rfl ?_
    refine G_callVp (pc' := 62) C [.int y2, .int b1] (c_X8_isDigit ω N σ y2 b1) sg_X8_isDigit gX8_parse_X8_isDigit wM_0 rfl ⟨Nat.le_of_ble_eq_true rfl, Nat.le_of_ble_eq_true rfl⟩ rfl rfl (Nat.le_of_ble_eq_true rfl) dX8_parse_59 rfl hf (fun v3 hf => ?_)
    refine G_if_eq (tgt := 103) (pc' := 65) C dX8_parse_62 (by decide) rfl hf (fun hf => ?_) (fun hf => ?_)
    · exact HK y2 y5 hf
    · refine G_iload_n (pc' := 66) C dX8_parse_65 2 rfl rfl ?_
      refine G_iload (pc' := 68) C dX8_parse_66 4 rfl rfl ?_
      refine G_iconst (v := (4 : Int32)) (pc' := 69) C dX8_parse_68 (by decide) rfl ?_
      refine G_iadd (pc' := 70) C dX8_parse_69 rfl ?_
      refine G_icmp_ne (tgt := 79) (pc' := 73) C dX8_parse_70 (by decide) rfl hf (fun hf => ?_) (fun hf => ?_)
      · refine G_sipush (v := (300 : Int32)) (pc' := 76) C dX8_parse_73 (by decide) rfl ?_
        refine G_iload_n (pc' := 77) C dX8_parse_76 2 rfl rfl ?_
        refine G_iadd (pc' := 78) C dX8_parse_77 rfl ?_
        exact G_iret C hR dX8_parse_78 (Option.some.inj hf)
      · refine G_bipush (v := (10 : Int32)) (pc' := 81) C dX8_parse_79 (by decide) rfl ?_
        refine G_iload (pc' := 83) C dX8_parse_81 5 rfl rfl ?_
        refine G_imul (pc' := 84) C dX8_parse_83 rfl ?_
        refine G_aload_n (pc' := 85) C dX8_parse_84 0 rfl rfl ?_
        refine G_get (pc' := 88) C wM_0 rfl 0 (by decide) rfl iu_X8_parse_X8 lk_X8_parse_7 dX8_parse_85 rfl ?_
        refine G_iload_n (pc' := 89) C dX8_parse_88 2 rfl rfl ?_
        refine G_bald (pc' := 90) C wM_1 dX8_parse_89 rfl hf (fun v4 hf => ?_)
        refine G_iadd (pc' := 91) C dX8_parse_90 rfl ?_
        refine G_bipush (v := (48 : Int32)) (pc' := 93) C dX8_parse_91 (by decide) rfl ?_
        refine G_isub (pc' := 94) C dX8_parse_93 rfl ?_
        refine G_nm hf (fun x5 hf => ?_)
        refine G_istore (lv' := [(0, .ref (za ω 0)), (1, .int b1), (2, .int y2), (3, .int b3), (4, .int b4), (5, .int x5)]) (pc' := 96) C dX8_parse_94 (by decide) [1, 2, 3, 4, 5, 0] rfl rfl ?_
        refine G_iload_n (pc' := 97) C dX8_parse_96 2 rfl rfl ?_
        refine G_iconst (v := (1 : Int32)) (pc' := 98) C dX8_parse_97 (by decide) rfl ?_
        refine G_iadd (pc' := 99) C dX8_parse_98 rfl ?_
        refine G_nm hf (fun x6 hf => ?_)
        refine G_istore_n (lv' := [(0, .ref (za ω 0)), (1, .int b1), (2, .int x6), (3, .int b3), (4, .int b4), (5, .int x5)]) (pc' := 100) C dX8_parse_99 (by decide) [1, 2, 0, 3, 4, 5] rfl rfl ?_
        refine G_goto (pc' := 56) C dX8_parse_100 (by decide) ?_
        exact ih x6 x5 hf
set_option maxHeartbeats 4000000 in
set_option maxRecDepth 100000 in
theorem w_X8_parse_2 {ω : ZO} {κ : ZK} {N : Nat} {b1 : Int32} {K : Int32 → ZS → Option (Int32 × ZS)} {r0 : Int32 × ZS} (C : CX ω wM κ cX8_parse wsX8_parse RX8 (some .int) 6 rm_X8_parse) (hR : zRI ω wM κ (fun v τ => (v, τ) = r0)) : ∀ (n : Nat) (y2 : Int32) (τ : ZS), L_X8_parse_2 N b1 K n y2 τ = some r0 → G ω wM κ 2 [(0, .ref (za ω 0)), (1, .int b1), (2, .int y2)] [] τ := by
  intro n
  induction n with
  | zero => intro  y2 τ hf; exact absurd (show none = some r0 from hf) (fun h => nomatch h)
  | succ n ih =>
    intro y2 τ hf
    have hf : B_X8_parse_2 N b1 K (L_X8_parse_2 N b1 K n) y2 τ = some r0 := hf
    unfold B_X8_parse_2 at hf
    refine G_iload_n (pc' := 3) C dX8_parse_2 2 rfl rfl ?_
    refine G_iload_n (pc' := 4) C dX8_parse_3 1 rfl rfl ?_
    refine G_icmp_ge (tgt := 19) (pc' := 7) C dX8_parse_4 (by decide) rfl hf (fun hf => ?_) (fun hf => ?_)
    · refine G_iconst (v := (-1 : Int32)) (pc' := 20) C dX8_parse_19 (by decide) rfl ?_
      refine G_istore_n (lv' := [(0, .ref (za ω 0)), (1, .int b1), (2, .int y2), (3, .int (-1 : Int32))]) (pc' := 21) C dX8_parse_20 (by decide) [1, 2, 3, 0] rfl rfl ?_
      refine G_iload_n (pc' := 22) C dX8_parse_21 3 rfl rfl ?_
      refine G_iconst (v := (-1 : Int32)) (pc' := 23) C dX8_parse_22 (by decide) rfl ?_
      refine G_icmp_ne (tgt := 31) (pc' := 26) C dX8_parse_23 (by decide) rfl hf (fun hf => ?_) (fun hf => ?_)
      · refine G_bipush (v := (100 : Int32)) (pc' := 28) C dX8_parse_26 (by decide) rfl ?_
        refine G_iload_n (pc' := 29) C dX8_parse_28 2 rfl rfl ?_
        refine G_iadd (pc' := 30) C dX8_parse_29 rfl ?_
        exact G_iret C hR dX8_parse_30 (Option.some.inj hf)
      · refine G_iload_n (pc' := 32) C dX8_parse_31 2 rfl rfl ?_
        refine G_iconst (v := (1 : Int32)) (pc' := 33) C dX8_parse_32 (by decide) rfl ?_
        refine G_iadd (pc' := 34) C dX8_parse_33 rfl ?_
        refine G_nm hf (fun x1 hf => ?_)
        refine G_istore_n (lv' := [(0, .ref (za ω 0)), (1, .int b1), (2, .int x1), (3, .int (-1 : Int32))]) (pc' := 35) C dX8_parse_34 (by decide) [1, 2, 0, 3] rfl rfl ?_
        refine G_iload_n (pc' := 36) C dX8_parse_35 2 rfl rfl ?_
        refine G_istore (lv' := [(0, .ref (za ω 0)), (1, .int b1), (2, .int x1), (3, .int (-1 : Int32)), (4, .int x1)]) (pc' := 38) C dX8_parse_36 (by decide) [1, 2, 3, 4, 0] rfl rfl ?_
        refine G_aload_n (pc' := 39) C dX8_parse_38 0 rfl rfl ?_
        refine G_iload_n (pc' := 40) C dX8_parse_39 2 rfl rfl ?_
        refine G_iload_n (pc' := 41) C dX8_parse_40 1 rfl rfl ?_
        refine G_callVp (pc' := 44) C [.int x1, .int b1] (c_X8_isDigit ω N τ x1 b1) sg_X8_isDigit gX8_parse_X8_isDigit wM_0 rfl ⟨Nat.le_of_ble_eq_true rfl, Nat.le_of_ble_eq_true rfl⟩ rfl rfl (Nat.le_of_ble_eq_true rfl) dX8_parse_41 rfl hf (fun v2 hf => ?_)
        refine G_if_ne (tgt := 53) (pc' := 47) C dX8_parse_44 (by decide) rfl hf (fun hf => ?_) (fun hf => ?_)
        · refine G_sipush (v := (200 : Int32)) (pc' := 50) C dX8_parse_47 (by decide) rfl ?_
          refine G_iload_n (pc' := 51) C dX8_parse_50 2 rfl rfl ?_
          refine G_iadd (pc' := 52) C dX8_parse_51 rfl ?_
          exact G_iret C hR dX8_parse_52 (Option.some.inj hf)
        · refine G_iconst (v := (0 : Int32)) (pc' := 54) C dX8_parse_53 (by decide) rfl ?_
          refine G_istore (lv' := [(0, .ref (za ω 0)), (1, .int b1), (2, .int x1), (3, .int (-1 : Int32)), (4, .int x1), (5, .int (0 : Int32))]) (pc' := 56) C dX8_parse_54 (by decide) [1, 2, 3, 4, 5, 0] rfl rfl ?_
          refine w_X8_parse_56 C hR (fun y7 y8 hf => ?_) N x1 (0 : Int32) hf
          refine G_iload_n (pc' := 104) C dX8_parse_103 3 rfl rfl ?_
          refine G_iload (pc' := 106) C dX8_parse_104 5 rfl rfl ?_
          refine G_callSp (pc' := 109) C [.int (-1 : Int32), .int y8] (c_X8_canBe ω N τ (-1 : Int32) y8) sg_X8_canBe gX8_parse_X8_canBe ⟨Nat.le_of_ble_eq_true rfl, Nat.le_of_ble_eq_true rfl⟩ rfl rfl (Nat.le_of_ble_eq_true rfl) dX8_parse_106 rfl hf (fun v9 hf => ?_)
          refine G_if_ne (tgt := 119) (pc' := 112) C dX8_parse_109 (by decide) rfl hf (fun hf => ?_) (fun hf => ?_)
          · refine G_sipush (v := (500 : Int32)) (pc' := 115) C dX8_parse_112 (by decide) rfl ?_
            refine G_iload (pc' := 117) C dX8_parse_115 4 rfl rfl ?_
            refine G_iadd (pc' := 118) C dX8_parse_117 rfl ?_
            exact G_iret C hR dX8_parse_118 (Option.some.inj hf)
          · refine G_aload_n (pc' := 120) C dX8_parse_119 0 rfl rfl ?_
            refine G_get (pc' := 123) C wM_0 rfl 3 (by decide) rfl iu_X8_parse_X8 lk_X8_parse_17 dX8_parse_120 rfl ?_
            refine G_iload_n (pc' := 124) C dX8_parse_123 3 rfl rfl ?_
            refine G_iload (pc' := 126) C dX8_parse_124 5 rfl rfl ?_
            refine G_iast (pc' := 127) C wM_3 wM_s3 dX8_parse_126 rfl hf (fun s10 hf => ?_)
            refine G_iload_n (pc' := 128) C dX8_parse_127 2 rfl rfl ?_
            refine G_iload_n (pc' := 129) C dX8_parse_128 1 rfl rfl ?_
            refine G_icmp_ne (tgt := 134) (pc' := 132) C dX8_parse_129 (by decide) rfl hf (fun hf => ?_) (fun hf => ?_)
            · refine G_iconst (v := (0 : Int32)) (pc' := 133) C dX8_parse_132 (by decide) rfl ?_
              exact G_iret C hR dX8_parse_133 (Option.some.inj hf)
            · refine G_aload_n (pc' := 135) C dX8_parse_134 0 rfl rfl ?_
              refine G_get (pc' := 138) C wM_0 rfl 0 (by decide) rfl iu_X8_parse_X8 lk_X8_parse_7 dX8_parse_135 rfl ?_
              refine G_iload_n (pc' := 139) C dX8_parse_138 2 rfl rfl ?_
              refine G_bald (pc' := 140) C wM_1 dX8_parse_139 rfl hf (fun v11 hf => ?_)
              refine G_bipush (v := (59 : Int32)) (pc' := 142) C dX8_parse_140 (by decide) rfl ?_
              refine G_icmp_eq (tgt := 151) (pc' := 145) C dX8_parse_142 (by decide) rfl hf (fun hf => ?_) (fun hf => ?_)
              · refine G_iload_n (pc' := 152) C dX8_parse_151 2 rfl rfl ?_
                refine G_iconst (v := (1 : Int32)) (pc' := 153) C dX8_parse_152 (by decide) rfl ?_
                refine G_iadd (pc' := 154) C dX8_parse_153 rfl ?_
                refine G_nm hf (fun x12 hf => ?_)
                refine G_istore_n (lv' := [(0, .ref (za ω 0)), (1, .int b1), (2, .int x12)]) (pc' := 155) C dX8_parse_154 (by decide) [1, 2, 0] rfl rfl ?_
                refine G_goto (pc' := 2) C dX8_parse_155 (by decide) ?_
                exact ih x12 s10 hf
              · refine G_sipush (v := (400 : Int32)) (pc' := 148) C dX8_parse_145 (by decide) rfl ?_
                refine G_iload_n (pc' := 149) C dX8_parse_148 2 rfl rfl ?_
                refine G_iadd (pc' := 150) C dX8_parse_149 rfl ?_
                exact G_iret C hR dX8_parse_150 (Option.some.inj hf)
    · refine G_aload_n (pc' := 8) C dX8_parse_7 0 rfl rfl ?_
      refine G_get (pc' := 11) C wM_0 rfl 0 (by decide) rfl iu_X8_parse_X8 lk_X8_parse_7 dX8_parse_8 rfl ?_
      refine G_iload_n (pc' := 12) C dX8_parse_11 2 rfl rfl ?_
      refine G_bald (pc' := 13) C wM_1 dX8_parse_12 rfl hf (fun v13 hf => ?_)
      refine G_callSp (pc' := 16) C [.int v13] (c_X8_letterOf ω N τ v13) sg_X8_letterOf gX8_parse_X8_letterOf ⟨Nat.le_of_ble_eq_true rfl, Nat.le_of_ble_eq_true rfl⟩ rfl rfl (Nat.le_of_ble_eq_true rfl) dX8_parse_13 rfl hf (fun v14 hf => ?_)
      refine G_goto (pc' := 20) C dX8_parse_16 (by decide) ?_
      refine G_istore_n (lv' := [(0, .ref (za ω 0)), (1, .int b1), (2, .int y2), (3, .int v14)]) (pc' := 21) C dX8_parse_20 (by decide) [1, 2, 3, 0] rfl rfl ?_
      refine G_iload_n (pc' := 22) C dX8_parse_21 3 rfl rfl ?_
      refine G_iconst (v := (-1 : Int32)) (pc' := 23) C dX8_parse_22 (by decide) rfl ?_
      refine G_icmp_ne (tgt := 31) (pc' := 26) C dX8_parse_23 (by decide) rfl hf (fun hf => ?_) (fun hf => ?_)
      · refine G_bipush (v := (100 : Int32)) (pc' := 28) C dX8_parse_26 (by decide) rfl ?_
        refine G_iload_n (pc' := 29) C dX8_parse_28 2 rfl rfl ?_
        refine G_iadd (pc' := 30) C dX8_parse_29 rfl ?_
        exact G_iret C hR dX8_parse_30 (Option.some.inj hf)
      · refine G_iload_n (pc' := 32) C dX8_parse_31 2 rfl rfl ?_
        refine G_iconst (v := (1 : Int32)) (pc' := 33) C dX8_parse_32 (by decide) rfl ?_
        refine G_iadd (pc' := 34) C dX8_parse_33 rfl ?_
        refine G_nm hf (fun x15 hf => ?_)
        refine G_istore_n (lv' := [(0, .ref (za ω 0)), (1, .int b1), (2, .int x15), (3, .int v14)]) (pc' := 35) C dX8_parse_34 (by decide) [1, 2, 0, 3] rfl rfl ?_
        refine G_iload_n (pc' := 36) C dX8_parse_35 2 rfl rfl ?_
        refine G_istore (lv' := [(0, .ref (za ω 0)), (1, .int b1), (2, .int x15), (3, .int v14), (4, .int x15)]) (pc' := 38) C dX8_parse_36 (by decide) [1, 2, 3, 4, 0] rfl rfl ?_
        refine G_aload_n (pc' := 39) C dX8_parse_38 0 rfl rfl ?_
        refine G_iload_n (pc' := 40) C dX8_parse_39 2 rfl rfl ?_
        refine G_iload_n (pc' := 41) C dX8_parse_40 1 rfl rfl ?_
        refine G_callVp (pc' := 44) C [.int x15, .int b1] (c_X8_isDigit ω N τ x15 b1) sg_X8_isDigit gX8_parse_X8_isDigit wM_0 rfl ⟨Nat.le_of_ble_eq_true rfl, Nat.le_of_ble_eq_true rfl⟩ rfl rfl (Nat.le_of_ble_eq_true rfl) dX8_parse_41 rfl hf (fun v16 hf => ?_)
        refine G_if_ne (tgt := 53) (pc' := 47) C dX8_parse_44 (by decide) rfl hf (fun hf => ?_) (fun hf => ?_)
        · refine G_sipush (v := (200 : Int32)) (pc' := 50) C dX8_parse_47 (by decide) rfl ?_
          refine G_iload_n (pc' := 51) C dX8_parse_50 2 rfl rfl ?_
          refine G_iadd (pc' := 52) C dX8_parse_51 rfl ?_
          exact G_iret C hR dX8_parse_52 (Option.some.inj hf)
        · refine G_iconst (v := (0 : Int32)) (pc' := 54) C dX8_parse_53 (by decide) rfl ?_
          refine G_istore (lv' := [(0, .ref (za ω 0)), (1, .int b1), (2, .int x15), (3, .int v14), (4, .int x15), (5, .int (0 : Int32))]) (pc' := 56) C dX8_parse_54 (by decide) [1, 2, 3, 4, 5, 0] rfl rfl ?_
          refine w_X8_parse_56 C hR (fun y17 y18 hf => ?_) N x15 (0 : Int32) hf
          refine G_iload_n (pc' := 104) C dX8_parse_103 3 rfl rfl ?_
          refine G_iload (pc' := 106) C dX8_parse_104 5 rfl rfl ?_
          refine G_callSp (pc' := 109) C [.int v14, .int y18] (c_X8_canBe ω N τ v14 y18) sg_X8_canBe gX8_parse_X8_canBe ⟨Nat.le_of_ble_eq_true rfl, Nat.le_of_ble_eq_true rfl⟩ rfl rfl (Nat.le_of_ble_eq_true rfl) dX8_parse_106 rfl hf (fun v19 hf => ?_)
          refine G_if_ne (tgt := 119) (pc' := 112) C dX8_parse_109 (by decide) rfl hf (fun hf => ?_) (fun hf => ?_)
          · refine G_sipush (v := (500 : Int32)) (pc' := 115) C dX8_parse_112 (by decide) rfl ?_
            refine G_iload (pc' := 117) C dX8_parse_115 4 rfl rfl ?_
            refine G_iadd (pc' := 118) C dX8_parse_117 rfl ?_
            exact G_iret C hR dX8_parse_118 (Option.some.inj hf)
          · refine G_aload_n (pc' := 120) C dX8_parse_119 0 rfl rfl ?_
            refine G_get (pc' := 123) C wM_0 rfl 3 (by decide) rfl iu_X8_parse_X8 lk_X8_parse_17 dX8_parse_120 rfl ?_
            refine G_iload_n (pc' := 124) C dX8_parse_123 3 rfl rfl ?_
            refine G_iload (pc' := 126) C dX8_parse_124 5 rfl rfl ?_
            refine G_iast (pc' := 127) C wM_3 wM_s3 dX8_parse_126 rfl hf (fun s20 hf => ?_)
            refine G_iload_n (pc' := 128) C dX8_parse_127 2 rfl rfl ?_
            refine G_iload_n (pc' := 129) C dX8_parse_128 1 rfl rfl ?_
            refine G_icmp_ne (tgt := 134) (pc' := 132) C dX8_parse_129 (by decide) rfl hf (fun hf => ?_) (fun hf => ?_)
            · refine G_iconst (v := (0 : Int32)) (pc' := 133) C dX8_parse_132 (by decide) rfl ?_
              exact G_iret C hR dX8_parse_133 (Option.some.inj hf)
            · refine G_aload_n (pc' := 135) C dX8_parse_134 0 rfl rfl ?_
              refine G_get (pc' := 138) C wM_0 rfl 0 (by decide) rfl iu_X8_parse_X8 lk_X8_parse_7 dX8_parse_135 rfl ?_
              refine G_iload_n (pc' := 139) C dX8_parse_138 2 rfl rfl ?_
              refine G_bald (pc' := 140) C wM_1 dX8_parse_139 rfl hf (fun v21 hf => ?_)
              refine G_bipush (v := (59 : Int32)) (pc' := 142) C dX8_parse_140 (by decide) rfl ?_
              refine G_icmp_eq (tgt := 151) (pc' := 145) C dX8_parse_142 (by decide) rfl hf (fun hf => ?_) (fun hf => ?_)
              · refine G_iload_n (pc' := 152) C dX8_parse_151 2 rfl rfl ?_
                refine G_iconst (v := (1 : Int32)) (pc' := 153) C dX8_parse_152 (by decide) rfl ?_
                refine G_iadd (pc' := 154) C dX8_parse_153 rfl ?_
                refine G_nm hf (fun x22 hf => ?_)
                refine G_istore_n (lv' := [(0, .ref (za ω 0)), (1, .int b1), (2, .int x22)]) (pc' := 155) C dX8_parse_154 (by decide) [1, 2, 0] rfl rfl ?_
                refine G_goto (pc' := 2) C dX8_parse_155 (by decide) ?_
                exact ih x22 s20 hf
              · refine G_sipush (v := (400 : Int32)) (pc' := 148) C dX8_parse_145 (by decide) rfl ?_
                refine G_iload_n (pc' := 149) C dX8_parse_148 2 rfl rfl ?_
                refine G_iadd (pc' := 150) C dX8_parse_149 rfl ?_
                exact G_iret C hR dX8_parse_150 (Option.some.inj hf)
set_option maxHeartbeats 4000000 in
set_option maxRecDepth 100000 in
theorem c_X8_parse (ω : ZO) (N : Nat) (σ : ZS) (a1 : Int32) : ZIs ω wM yX8_parse wsX8_parse rm_X8_parse [.ref (za ω 0), .int a1] σ (f_X8_parse N σ a1) := by
  intro r0 hf
  refine ZI.go (cc := cX8_parse) (maxL := 6) (ret := (some .int)) (own := RX8) (lv := [(0, .ref (za ω 0)), (1, .int a1)]) (by decide) rfl rfl (Nat.le_of_ble_eq_true rfl) rfl (fun κ C hR => ?_)
  unfold f_X8_parse at hf
  refine G_iconst (v := (0 : Int32)) (pc' := 1) C dX8_parse_0 (by decide) rfl ?_
  refine G_istore_n (lv' := [(0, .ref (za ω 0)), (1, .int a1), (2, .int (0 : Int32))]) (pc' := 2) C dX8_parse_1 (by decide) [1, 2, 0] rfl rfl ?_
  exact w_X8_parse_2 (K := fun _ _ => none) C hR N (0 : Int32) σ hf
theorem iu_X8_rules_X8 : ∀ w ∈ wsX80, w ∈ wsX8_rules := by decide +kernel
theorem lk_X8_rules_17 : Cond.fieldLink RX8 17 "PrizeDeskModel" "said" "[I" ∈ wsX8_rules := by decide +kernel
theorem lk_X8_rules_13 : Cond.fieldLink RX8 13 "PrizeDeskModel" "rule" "[I" ∈ wsX8_rules := by decide +kernel
theorem lk_X8_rules_91 : Cond.fieldLink RX8 91 "PrizeDeskModel" "taped" "I" ∈ wsX8_rules := by decide +kernel
abbrev rm_X8_rules : Room := { frames := 2, cells := 0, slots := 0, locals := 47 }
theorem sg_X8_rules : ZG yX8_rules wsX8_rules cX8_rules 4 (some .int) RX8 1 rm_X8_rules := ⟨⟨_, rfl⟩, by decide +kernel, rfl, rfl⟩
set_option maxHeartbeats 4000000 in
set_option maxRecDepth 100000 in
theorem w_X8_rules_34 {ω : ZO} {κ : ZK} {N : Nat} {b2 : Int32} {K : Int32 → ZS → Option (Int32 × ZS)} {r0 : Int32 × ZS} (C : CX ω wM κ cX8_rules wsX8_rules RX8 (some .int) 4 rm_X8_rules) (hR : zRI ω wM κ (fun v τ => (v, τ) = r0)) (HK : ∀ (y3 : Int32) (τ : ZS), K y3 τ = some r0 → G ω wM κ 62 [(0, .ref (za ω 0)), (2, .int b2)] [] τ) : ∀ (n : Nat) (y3 : Int32) (τ : ZS), L_X8_rules_34 N b2 K n y3 τ = some r0 → G ω wM κ 34 [(0, .ref (za ω 0)), (2, .int b2), (3, .int y3)] [] τ := by
  intro n
  induction n with
  | zero => intro  y3 τ hf; exact absurd (show none = some r0 from hf) (fun h => nomatch h)
  | succ n ih =>
    intro y3 τ hf
    have hf : B_X8_rules_34 N b2 K (L_X8_rules_34 N b2 K n) y3 τ = some r0 := hf
    unfold B_X8_rules_34 at hf
    refine G_iload_n (pc' := 35) C dX8_rules_34 2 rfl rfl ?_
    refine G_bipush (v := (11 : Int32)) (pc' := 37) C dX8_rules_35 (by decide) rfl ?_
    refine G_icmp_ge (tgt := 62) (pc' := 40) C dX8_rules_37 (by decide) rfl hf (fun hf => ?_) (fun hf => ?_)
    · refine G_sub (lv' := [(0, .ref (za ω 0)), (2, .int b2)]) C [0, 1] rfl ?_
      exact HK y3 τ hf
    · refine G_iload_n (pc' := 41) C dX8_rules_40 1 rfl rfl ?_
      refine G_if_ne (tgt := 62) (pc' := 44) C dX8_rules_41 (by decide) rfl hf (fun hf => ?_) (fun hf => ?_)
      · refine G_aload_n (pc' := 45) C dX8_rules_44 0 rfl rfl ?_
        refine G_get (pc' := 48) C wM_0 rfl 2 (by decide) rfl iu_X8_rules_X8 lk_X8_rules_13 dX8_rules_45 rfl ?_
        refine G_iload_n (pc' := 49) C dX8_rules_48 2 rfl rfl ?_
        refine G_aload_n (pc' := 50) C dX8_rules_49 0 rfl rfl ?_
        refine G_get (pc' := 53) C wM_0 rfl 3 (by decide) rfl iu_X8_rules_X8 lk_X8_rules_17 dX8_rules_50 rfl ?_
        refine G_iload_n (pc' := 54) C dX8_rules_53 2 rfl rfl ?_
        refine G_iald (pc' := 55) C wM_3 dX8_rules_54 rfl hf (fun v5 hf => ?_)
        refine G_iast (pc' := 56) C wM_2 wM_s2 dX8_rules_55 rfl hf (fun s6 hf => ?_)
        refine G_iincL (v := y3 + (1 : Int32)) (pc' := 59) C dX8_rules_56 2 rfl rfl (by decide) [1, 2, 0] (fun x7 => [(0, .ref (za ω 0)), (2, .int b2), (3, .int x7)]) (fun _ => rfl) rfl hf (fun x7 hf => ?_)
        refine G_goto (pc' := 34) C dX8_rules_59 (by decide) ?_
        exact ih x7 s6 hf
      · refine G_sub (lv' := [(0, .ref (za ω 0)), (2, .int b2)]) C [0, 1] rfl ?_
        exact HK y3 τ hf
set_option maxHeartbeats 4000000 in
set_option maxRecDepth 100000 in
theorem c_X8_rules (ω : ZO) (N : Nat) (σ : ZS) (a1 : Int32) : ZIs ω wM yX8_rules wsX8_rules rm_X8_rules [.ref (za ω 0), .int a1] σ (f_X8_rules N σ a1) := by
  intro r0 hf
  refine ZI.go (cc := cX8_rules) (maxL := 4) (ret := (some .int)) (own := RX8) (lv := [(0, .ref (za ω 0)), (1, .int a1)]) (by decide) rfl rfl (Nat.le_of_ble_eq_true rfl) rfl (fun κ C hR => ?_)
  unfold f_X8_rules at hf
  refine G_iload_n (pc' := 1) C dX8_rules_0 1 rfl rfl ?_
  refine G_if_lt (tgt := 12) (pc' := 4) C dX8_rules_1 (by decide) rfl hf (fun hf => ?_) (fun hf => ?_)
  · refine G_iconst (v := (-1 : Int32)) (pc' := 13) C dX8_rules_12 (by decide) rfl ?_
    exact G_iret C hR dX8_rules_13 (Option.some.inj hf)
  · refine G_iload_n (pc' := 5) C dX8_rules_4 1 rfl rfl ?_
    refine G_aload_n (pc' := 6) C dX8_rules_5 0 rfl rfl ?_
    refine G_get (pc' := 9) C wM_0 rfl 1 (by decide) rfl iu_X8_rules_X8 lk_X8_rules_91 dX8_rules_6 rfl ?_
    refine G_icmp_le (tgt := 14) (pc' := 12) C dX8_rules_9 (by decide) rfl hf (fun hf => ?_) (fun hf => ?_)
    · refine G_aload_n (pc' := 15) C dX8_rules_14 0 rfl rfl ?_
      refine G_get (pc' := 18) C wM_0 rfl 3 (by decide) rfl iu_X8_rules_X8 lk_X8_rules_17 dX8_rules_15 rfl ?_
      refine G_callSv (pc' := 21) C [.ref (za ω 3)] (c_X8_begins_3 ω N σ) sg_X8_begins_3 gX8_rules_X8_begins ⟨Nat.le_of_ble_eq_true rfl, Nat.le_of_ble_eq_true rfl⟩ rfl rfl (Nat.le_of_ble_eq_true rfl) dX8_rules_18 rfl hf (fun s1 hf => ?_)
      refine G_aload_n (pc' := 22) C dX8_rules_21 0 rfl rfl ?_
      refine G_iload_n (pc' := 23) C dX8_rules_22 1 rfl rfl ?_
      refine G_callVt (pc' := 26) C [.int a1] (c_X8_parse ω N s1 a1) sg_X8_parse gX8_rules_X8_parse wM_0 rfl ⟨Nat.le_of_ble_eq_true rfl, Nat.le_of_ble_eq_true rfl⟩ rfl rfl (Nat.le_of_ble_eq_true rfl) dX8_rules_23 rfl hf (fun v3 s2 hf => ?_)
      refine G_istore_n (lv' := [(0, .ref (za ω 0)), (2, .int v3)]) (pc' := 27) C dX8_rules_26 (by decide) [1, 0] rfl rfl ?_
      refine G_aload_n (pc' := 28) C dX8_rules_27 0 rfl rfl ?_
      refine G_iconst (v := (0 : Int32)) (pc' := 29) C dX8_rules_28 (by decide) rfl ?_
      refine G_put (pc' := 32) C tyX8 tyX8_ok nmX8 wM_0 rfl 1 (by decide) (Nat.le_of_ble_eq_true rfl) iu_X8_rules_X8 lk_X8_rules_91 rfl (by decide +kernel) wM_f0_1 dX8_rules_29 rfl hf (fun s4 hf => ?_)
      refine G_iconst (v := (0 : Int32)) (pc' := 33) C dX8_rules_32 (by decide) rfl ?_
      refine G_istore_n (lv' := [(0, .ref (za ω 0)), (2, .int v3), (3, .int (0 : Int32))]) (pc' := 34) C dX8_rules_33 (by decide) [1, 2, 0] rfl rfl ?_
      refine w_X8_rules_34 C hR (fun y8 s9 hf => ?_) N (0 : Int32) s4 hf
      refine G_iload_n (pc' := 63) C dX8_rules_62 1 rfl rfl ?_
      exact G_iret C hR dX8_rules_63 (Option.some.inj hf)
    · refine G_iconst (v := (-1 : Int32)) (pc' := 13) C dX8_rules_12 (by decide) rfl ?_
      exact G_iret C hR dX8_rules_13 (Option.some.inj hf)
theorem iu_X8_rule_X8 : ∀ w ∈ wsX80, w ∈ wsX8_rule := by decide +kernel
theorem lk_X8_rule_13 : Cond.fieldLink RX8 13 "PrizeDeskModel" "rule" "[I" ∈ wsX8_rule := by decide +kernel
abbrev rm_X8_rule : Room := { frames := 1, cells := 0, slots := 0, locals := 20 }
theorem sg_X8_rule : ZG yX8_rule wsX8_rule cX8_rule 3 (some .int) RX8 1 rm_X8_rule := ⟨⟨_, rfl⟩, by decide +kernel, rfl, rfl⟩
set_option maxHeartbeats 4000000 in
set_option maxRecDepth 100000 in
theorem c_X8_rule (ω : ZO) (N : Nat) (σ : ZS) (a1 : Int32) : ZIp ω wM yX8_rule wsX8_rule rm_X8_rule [.ref (za ω 0), .int a1] σ (f_X8_rule N σ a1) := by
  intro r0 hf
  refine ZI.go (cc := cX8_rule) (maxL := 3) (ret := (some .int)) (own := RX8) (lv := [(0, .ref (za ω 0)), (1, .int a1)]) (by decide) rfl rfl (Nat.le_of_ble_eq_true rfl) rfl (fun κ C hR => ?_)
  unfold f_X8_rule at hf
  refine G_iload_n (pc' := 1) C dX8_rule_0 1 rfl rfl ?_
  refine G_callSp (pc' := 4) C [.int a1] (c_X8_letterOf ω N σ a1) sg_X8_letterOf gX8_rule_X8_letterOf ⟨Nat.le_of_ble_eq_true rfl, Nat.le_of_ble_eq_true rfl⟩ rfl rfl (Nat.le_of_ble_eq_true rfl) dX8_rule_1 rfl hf (fun v1 hf => ?_)
  refine G_istore_n (lv' := [(0, .ref (za ω 0)), (2, .int v1)]) (pc' := 5) C dX8_rule_4 (by decide) [1, 0] rfl rfl ?_
  refine G_iload_n (pc' := 6) C dX8_rule_5 1 rfl rfl ?_
  refine G_iconst (v := (-1 : Int32)) (pc' := 7) C dX8_rule_6 (by decide) rfl ?_
  refine G_icmp_ne (tgt := 14) (pc' := 10) C dX8_rule_7 (by decide) rfl hf (fun hf => ?_) (fun hf => ?_)
  · refine G_iconst (v := (-1 : Int32)) (pc' := 11) C dX8_rule_10 (by decide) rfl ?_
    refine G_goto (pc' := 20) C dX8_rule_11 (by decide) ?_
    exact G_iret C hR dX8_rule_20 ⟨Option.some.inj hf, rfl⟩
  · refine G_aload_n (pc' := 15) C dX8_rule_14 0 rfl rfl ?_
    refine G_get (pc' := 18) C wM_0 rfl 2 (by decide) rfl iu_X8_rule_X8 lk_X8_rule_13 dX8_rule_15 rfl ?_
    refine G_iload_n (pc' := 19) C dX8_rule_18 1 rfl rfl ?_
    refine G_iald (pc' := 20) C wM_2 dX8_rule_19 rfl hf (fun v2 hf => ?_)
    exact G_iret C hR dX8_rule_20 ⟨Option.some.inj hf, rfl⟩
theorem iu_X8_book_X8 : ∀ w ∈ wsX80, w ∈ wsX8_book := by decide +kernel
theorem lk_X8_book_113 : Cond.fieldLink RX8 113 "PrizeDeskModel" "books" "I" ∈ wsX8_book := by decide +kernel
theorem lk_X8_book_42 : Cond.fieldLink RX8 42 "PrizeDeskModel" "mark" "[I" ∈ wsX8_book := by decide +kernel
theorem lk_X8_book_26 : Cond.fieldLink RX8 26 "PrizeDeskModel" "came" "[I" ∈ wsX8_book := by decide +kernel
theorem lk_X8_book_23 : Cond.fieldLink RX8 23 "PrizeDeskModel" "pages" "[I" ∈ wsX8_book := by decide +kernel
theorem lk_X8_book_20 : Cond.fieldLink RX8 20 "PrizeDeskModel" "publisher" "[I" ∈ wsX8_book := by decide +kernel
abbrev rm_X8_book : Room := { frames := 0, cells := 0, slots := 0, locals := 0 }
theorem sg_X8_book : ZG yX8_book wsX8_book cX8_book 5 (some .int) RX8 3 rm_X8_book := ⟨⟨_, rfl⟩, by decide +kernel, rfl, rfl⟩
set_option maxHeartbeats 4000000 in
set_option maxRecDepth 100000 in
theorem w_X8_book_77 {ω : ZO} {κ : ZK} {N : Nat} {K : Int32 → ZS → Option (Int32 × ZS)} {r0 : Int32 × ZS} (C : CX ω wM κ cX8_book wsX8_book RX8 (some .int) 5 rm_X8_book) (hR : zRI ω wM κ (fun v τ => (v, τ) = r0)) (HK : ∀ (y4 : Int32) (τ : ZS), K y4 τ = some r0 → G ω wM κ 106 [(0, .ref (za ω 0))] [] τ) : ∀ (n : Nat) (y4 : Int32) (τ : ZS), L_X8_book_77 N K n y4 τ = some r0 → G ω wM κ 77 [(0, .ref (za ω 0)), (4, .int y4)] [] τ := by
  intro n
  induction n with
  | zero => intro  y4 τ hf; exact absurd (show none = some r0 from hf) (fun h => nomatch h)
  | succ n ih =>
    intro y4 τ hf
    have hf : B_X8_book_77 N K (L_X8_book_77 N K n) y4 τ = some r0 := hf
    unfold B_X8_book_77 at hf
    refine G_iload (pc' := 79) C dX8_book_77 1 rfl rfl ?_
    refine G_bipush (v := (7 : Int32)) (pc' := 81) C dX8_book_79 (by decide) rfl ?_
    refine G_icmp_ge (tgt := 106) (pc' := 84) C dX8_book_81 (by decide) rfl hf (fun hf => ?_) (fun hf => ?_)
    · refine G_sub (lv' := [(0, .ref (za ω 0))]) C [0] rfl ?_
      exact HK y4 τ hf
    · refine G_aload_n (pc' := 85) C dX8_book_84 0 rfl rfl ?_
      refine G_get (pc' := 88) C wM_0 rfl 12 (by decide) rfl iu_X8_book_X8 lk_X8_book_42 dX8_book_85 rfl ?_
      refine G_bipush (v := (24 : Int32)) (pc' := 90) C dX8_book_88 (by decide) rfl ?_
      refine G_iload (pc' := 92) C dX8_book_90 1 rfl rfl ?_
      refine G_imul (pc' := 93) C dX8_book_92 rfl ?_
      refine G_aload_n (pc' := 94) C dX8_book_93 0 rfl rfl ?_
      refine G_get (pc' := 97) C wM_0 rfl 4 (by decide) rfl iu_X8_book_X8 lk_X8_book_113 dX8_book_94 rfl ?_
      refine G_iadd (pc' := 98) C dX8_book_97 rfl ?_
      refine G_iconst (v := (-1 : Int32)) (pc' := 99) C dX8_book_98 (by decide) rfl ?_
      refine G_iast (pc' := 100) C wM_11 wM_s11 dX8_book_99 rfl hf (fun s4 hf => ?_)
      refine G_iincL (v := y4 + (1 : Int32)) (pc' := 103) C dX8_book_100 1 rfl rfl (by decide) [1, 0] (fun x5 => [(0, .ref (za ω 0)), (4, .int x5)]) (fun _ => rfl) rfl hf (fun x5 hf => ?_)
      refine G_goto (pc' := 77) C dX8_book_103 (by decide) ?_
      exact ih x5 s4 hf
set_option maxHeartbeats 4000000 in
set_option maxRecDepth 100000 in
theorem c_X8_book (ω : ZO) (N : Nat) (σ : ZS) (a1 : Int32) (a2 : Int32) (a3 : Int32) : ZIs ω wM yX8_book wsX8_book rm_X8_book [.ref (za ω 0), .int a1, .int a2, .int a3] σ (f_X8_book N σ a1 a2 a3) := by
  intro r0 hf
  refine ZI.go (cc := cX8_book) (maxL := 5) (ret := (some .int)) (own := RX8) (lv := [(0, .ref (za ω 0)), (1, .int a1), (2, .int a2), (3, .int a3)]) (by decide) rfl rfl (Nat.le_of_ble_eq_true rfl) rfl (fun κ C hR => ?_)
  unfold f_X8_book at hf
  refine G_iload_n (pc' := 1) C dX8_book_0 1 rfl rfl ?_
  refine G_if_lt (tgt := 42) (pc' := 4) C dX8_book_1 (by decide) rfl hf (fun hf => ?_) (fun hf => ?_)
  · refine G_iconst (v := (-1 : Int32)) (pc' := 43) C dX8_book_42 (by decide) rfl ?_
    exact G_iret C hR dX8_book_43 (Option.some.inj hf)
  · refine G_iload_n (pc' := 5) C dX8_book_4 1 rfl rfl ?_
    refine G_bipush (v := (8 : Int32)) (pc' := 7) C dX8_book_5 (by decide) rfl ?_
    refine G_icmp_ge (tgt := 42) (pc' := 10) C dX8_book_7 (by decide) rfl hf (fun hf => ?_) (fun hf => ?_)
    · refine G_iconst (v := (-1 : Int32)) (pc' := 43) C dX8_book_42 (by decide) rfl ?_
      exact G_iret C hR dX8_book_43 (Option.some.inj hf)
    · refine G_iload_n (pc' := 11) C dX8_book_10 2 rfl rfl ?_
      refine G_iconst (v := (1 : Int32)) (pc' := 12) C dX8_book_11 (by decide) rfl ?_
      refine G_icmp_lt (tgt := 42) (pc' := 15) C dX8_book_12 (by decide) rfl hf (fun hf => ?_) (fun hf => ?_)
      · refine G_iconst (v := (-1 : Int32)) (pc' := 43) C dX8_book_42 (by decide) rfl ?_
        exact G_iret C hR dX8_book_43 (Option.some.inj hf)
      · refine G_iload_n (pc' := 16) C dX8_book_15 2 rfl rfl ?_
        refine G_sipush (v := (2000 : Int32)) (pc' := 19) C dX8_book_16 (by decide) rfl ?_
        refine G_icmp_gt (tgt := 42) (pc' := 22) C dX8_book_19 (by decide) rfl hf (fun hf => ?_) (fun hf => ?_)
        · refine G_iconst (v := (-1 : Int32)) (pc' := 43) C dX8_book_42 (by decide) rfl ?_
          exact G_iret C hR dX8_book_43 (Option.some.inj hf)
        · refine G_iload_n (pc' := 23) C dX8_book_22 3 rfl rfl ?_
          refine G_if_lt (tgt := 42) (pc' := 26) C dX8_book_23 (by decide) rfl hf (fun hf => ?_) (fun hf => ?_)
          · refine G_iconst (v := (-1 : Int32)) (pc' := 43) C dX8_book_42 (by decide) rfl ?_
            exact G_iret C hR dX8_book_43 (Option.some.inj hf)
          · refine G_iload_n (pc' := 27) C dX8_book_26 3 rfl rfl ?_
            refine G_sipush (v := (400 : Int32)) (pc' := 30) C dX8_book_27 (by decide) rfl ?_
            refine G_icmp_gt (tgt := 42) (pc' := 33) C dX8_book_30 (by decide) rfl hf (fun hf => ?_) (fun hf => ?_)
            · refine G_iconst (v := (-1 : Int32)) (pc' := 43) C dX8_book_42 (by decide) rfl ?_
              exact G_iret C hR dX8_book_43 (Option.some.inj hf)
            · refine G_aload_n (pc' := 34) C dX8_book_33 0 rfl rfl ?_
              refine G_get (pc' := 37) C wM_0 rfl 4 (by decide) rfl iu_X8_book_X8 lk_X8_book_113 dX8_book_34 rfl ?_
              refine G_bipush (v := (24 : Int32)) (pc' := 39) C dX8_book_37 (by decide) rfl ?_
              refine G_icmp_ne (tgt := 44) (pc' := 42) C dX8_book_39 (by decide) rfl hf (fun hf => ?_) (fun hf => ?_)
              · refine G_iconst (v := (-1 : Int32)) (pc' := 43) C dX8_book_42 (by decide) rfl ?_
                exact G_iret C hR dX8_book_43 (Option.some.inj hf)
              · refine G_aload_n (pc' := 45) C dX8_book_44 0 rfl rfl ?_
                refine G_get (pc' := 48) C wM_0 rfl 5 (by decide) rfl iu_X8_book_X8 lk_X8_book_20 dX8_book_45 rfl ?_
                refine G_aload_n (pc' := 49) C dX8_book_48 0 rfl rfl ?_
                refine G_get (pc' := 52) C wM_0 rfl 4 (by decide) rfl iu_X8_book_X8 lk_X8_book_113 dX8_book_49 rfl ?_
                refine G_iload_n (pc' := 53) C dX8_book_52 1 rfl rfl ?_
                refine G_iast (pc' := 54) C wM_4 wM_s4 dX8_book_53 rfl hf (fun s1 hf => ?_)
                refine G_aload_n (pc' := 55) C dX8_book_54 0 rfl rfl ?_
                refine G_get (pc' := 58) C wM_0 rfl 6 (by decide) rfl iu_X8_book_X8 lk_X8_book_23 dX8_book_55 rfl ?_
                refine G_aload_n (pc' := 59) C dX8_book_58 0 rfl rfl ?_
                refine G_get (pc' := 62) C wM_0 rfl 4 (by decide) rfl iu_X8_book_X8 lk_X8_book_113 dX8_book_59 rfl ?_
                refine G_iload_n (pc' := 63) C dX8_book_62 2 rfl rfl ?_
                refine G_iast (pc' := 64) C wM_5 wM_s5 dX8_book_63 rfl hf (fun s2 hf => ?_)
                refine G_aload_n (pc' := 65) C dX8_book_64 0 rfl rfl ?_
                refine G_get (pc' := 68) C wM_0 rfl 7 (by decide) rfl iu_X8_book_X8 lk_X8_book_26 dX8_book_65 rfl ?_
                refine G_aload_n (pc' := 69) C dX8_book_68 0 rfl rfl ?_
                refine G_get (pc' := 72) C wM_0 rfl 4 (by decide) rfl iu_X8_book_X8 lk_X8_book_113 dX8_book_69 rfl ?_
                refine G_iload_n (pc' := 73) C dX8_book_72 3 rfl rfl ?_
                refine G_iast (pc' := 74) C wM_6 wM_s6 dX8_book_73 rfl hf (fun s3 hf => ?_)
                refine G_iconst (v := (0 : Int32)) (pc' := 75) C dX8_book_74 (by decide) rfl ?_
                refine G_istore (lv' := [(0, .ref (za ω 0)), (4, .int (0 : Int32))]) (pc' := 77) C dX8_book_75 (by decide) [1, 0] rfl rfl ?_
                refine w_X8_book_77 C hR (fun y6 s7 hf => ?_) N (0 : Int32) s3 hf
                refine G_aload_n (pc' := 107) C dX8_book_106 0 rfl rfl ?_
                refine G_aload_n (pc' := 108) C dX8_book_107 0 rfl rfl ?_
                refine G_get (pc' := 111) C wM_0 rfl 4 (by decide) rfl iu_X8_book_X8 lk_X8_book_113 dX8_book_108 rfl ?_
                refine G_iconst (v := (1 : Int32)) (pc' := 112) C dX8_book_111 (by decide) rfl ?_
                refine G_iadd (pc' := 113) C dX8_book_112 rfl ?_
                refine G_put (pc' := 116) C tyX8 tyX8_ok nmX8 wM_0 rfl 4 (by decide) (Nat.le_of_ble_eq_true rfl) iu_X8_book_X8 lk_X8_book_113 rfl (by decide +kernel) wM_f0_4 dX8_book_113 rfl hf (fun s8 hf => ?_)
                refine G_aload_n (pc' := 117) C dX8_book_116 0 rfl rfl ?_
                refine G_get (pc' := 120) C wM_0 rfl 4 (by decide) rfl iu_X8_book_X8 lk_X8_book_113 dX8_book_117 rfl ?_
                refine G_iconst (v := (1 : Int32)) (pc' := 121) C dX8_book_120 (by decide) rfl ?_
                refine G_isub (pc' := 122) C dX8_book_121 rfl ?_
                exact G_iret C hR dX8_book_122 (Option.some.inj hf)
theorem iu_X8_isBook_X8 : ∀ w ∈ wsX80, w ∈ wsX8_isBook := by decide +kernel
theorem lk_X8_isBook_113 : Cond.fieldLink RX8 113 "PrizeDeskModel" "books" "I" ∈ wsX8_isBook := by decide +kernel
abbrev rm_X8_isBook : Room := { frames := 0, cells := 0, slots := 0, locals := 0 }
theorem sg_X8_isBook : ZG yX8_isBook wsX8_isBook cX8_isBook 2 (some .boolean) RX8 1 rm_X8_isBook := ⟨⟨_, rfl⟩, by decide +kernel, rfl, rfl⟩
set_option maxHeartbeats 4000000 in
set_option maxRecDepth 100000 in
theorem c_X8_isBook (ω : ZO) (N : Nat) (σ : ZS) (a1 : Int32) : ZIp ω wM yX8_isBook wsX8_isBook rm_X8_isBook [.ref (za ω 0), .int a1] σ (f_X8_isBook N σ a1) := by
  intro r0 hf
  refine ZI.go (cc := cX8_isBook) (maxL := 2) (ret := (some .boolean)) (own := RX8) (lv := [(0, .ref (za ω 0)), (1, .int a1)]) (by decide) rfl rfl (Nat.le_of_ble_eq_true rfl) rfl (fun κ C hR => ?_)
  unfold f_X8_isBook at hf
  refine G_iload_n (pc' := 1) C dX8_isBook_0 1 rfl rfl ?_
  refine G_if_lt (tgt := 16) (pc' := 4) C dX8_isBook_1 (by decide) rfl hf (fun hf => ?_) (fun hf => ?_)
  · refine G_iconst (v := (0 : Int32)) (pc' := 17) C dX8_isBook_16 (by decide) rfl ?_
    exact G_zret C hR dX8_isBook_17 (by decide) ⟨Option.some.inj hf, rfl⟩
  · refine G_iload_n (pc' := 5) C dX8_isBook_4 1 rfl rfl ?_
    refine G_aload_n (pc' := 6) C dX8_isBook_5 0 rfl rfl ?_
    refine G_get (pc' := 9) C wM_0 rfl 4 (by decide) rfl iu_X8_isBook_X8 lk_X8_isBook_113 dX8_isBook_6 rfl ?_
    refine G_icmp_ge (tgt := 16) (pc' := 12) C dX8_isBook_9 (by decide) rfl hf (fun hf => ?_) (fun hf => ?_)
    · refine G_iconst (v := (0 : Int32)) (pc' := 17) C dX8_isBook_16 (by decide) rfl ?_
      exact G_zret C hR dX8_isBook_17 (by decide) ⟨Option.some.inj hf, rfl⟩
    · refine G_iconst (v := (1 : Int32)) (pc' := 13) C dX8_isBook_12 (by decide) rfl ?_
      refine G_goto (pc' := 17) C dX8_isBook_13 (by decide) ?_
      exact G_zret C hR dX8_isBook_17 (by decide) ⟨Option.some.inj hf, rfl⟩
theorem iu_X8_call_X8 : ∀ w ∈ wsX80, w ∈ wsX8_call := by decide +kernel
theorem lk_X8_call_29 : Cond.fieldLink RX8 29 "PrizeDeskModel" "isCalled" "[Z" ∈ wsX8_call := by decide +kernel
abbrev rm_X8_call : Room := { frames := 1, cells := 0, slots := 0, locals := 21 }
theorem sg_X8_call : ZG yX8_call wsX8_call cX8_call 2 (some .boolean) RX8 1 rm_X8_call := ⟨⟨_, rfl⟩, by decide +kernel, rfl, rfl⟩
set_option maxHeartbeats 4000000 in
set_option maxRecDepth 100000 in
theorem c_X8_call (ω : ZO) (N : Nat) (σ : ZS) (a1 : Int32) : ZIs ω wM yX8_call wsX8_call rm_X8_call [.ref (za ω 0), .int a1] σ (f_X8_call N σ a1) := by
  intro r0 hf
  refine ZI.go (cc := cX8_call) (maxL := 2) (ret := (some .boolean)) (own := RX8) (lv := [(0, .ref (za ω 0)), (1, .int a1)]) (by decide) rfl rfl (Nat.le_of_ble_eq_true rfl) rfl (fun κ C hR => ?_)
  unfold f_X8_call at hf
  refine G_aload_n (pc' := 1) C dX8_call_0 0 rfl rfl ?_
  refine G_iload_n (pc' := 2) C dX8_call_1 1 rfl rfl ?_
  refine G_callVp (pc' := 5) C [.int a1] (c_X8_isBook ω N σ a1) sg_X8_isBook gX8_call_X8_isBook wM_0 rfl ⟨Nat.le_of_ble_eq_true rfl, Nat.le_of_ble_eq_true rfl⟩ rfl rfl (Nat.le_of_ble_eq_true rfl) dX8_call_2 rfl hf (fun v1 hf => ?_)
  refine G_if_eq (tgt := 17) (pc' := 8) C dX8_call_5 (by decide) rfl hf (fun hf => ?_) (fun hf => ?_)
  · refine G_iconst (v := (0 : Int32)) (pc' := 18) C dX8_call_17 (by decide) rfl ?_
    exact G_zret C hR dX8_call_18 (by decide) (Option.some.inj hf)
  · refine G_aload_n (pc' := 9) C dX8_call_8 0 rfl rfl ?_
    refine G_get (pc' := 12) C wM_0 rfl 8 (by decide) rfl iu_X8_call_X8 lk_X8_call_29 dX8_call_9 rfl ?_
    refine G_iload_n (pc' := 13) C dX8_call_12 1 rfl rfl ?_
    refine G_zald (pc' := 14) C wM_7 dX8_call_13 rfl hf (fun v2 hf => ?_)
    refine G_if_eq (tgt := 19) (pc' := 17) C dX8_call_14 (by decide) rfl hf (fun hf => ?_) (fun hf => ?_)
    · refine G_aload_n (pc' := 20) C dX8_call_19 0 rfl rfl ?_
      refine G_get (pc' := 23) C wM_0 rfl 8 (by decide) rfl iu_X8_call_X8 lk_X8_call_29 dX8_call_20 rfl ?_
      refine G_iload_n (pc' := 24) C dX8_call_23 1 rfl rfl ?_
      refine G_iconst (v := (1 : Int32)) (pc' := 25) C dX8_call_24 (by decide) rfl ?_
      refine G_zast (pc' := 26) C wM_7 wM_s7 dX8_call_25 rfl hf (fun s3 hf => ?_)
      refine G_iconst (v := (1 : Int32)) (pc' := 27) C dX8_call_26 (by decide) rfl ?_
      exact G_zret C hR dX8_call_27 (by decide) (Option.some.inj hf)
    · refine G_iconst (v := (0 : Int32)) (pc' := 18) C dX8_call_17 (by decide) rfl ?_
      exact G_zret C hR dX8_call_18 (by decide) (Option.some.inj hf)
theorem iu_X8_withdraw_X8 : ∀ w ∈ wsX80, w ∈ wsX8_withdraw := by decide +kernel
theorem lk_X8_withdraw_33 : Cond.fieldLink RX8 33 "PrizeDeskModel" "isWithdrawn" "[Z" ∈ wsX8_withdraw := by decide +kernel
abbrev rm_X8_withdraw : Room := { frames := 1, cells := 0, slots := 0, locals := 21 }
theorem sg_X8_withdraw : ZG yX8_withdraw wsX8_withdraw cX8_withdraw 2 (some .boolean) RX8 1 rm_X8_withdraw := ⟨⟨_, rfl⟩, by decide +kernel, rfl, rfl⟩
set_option maxHeartbeats 4000000 in
set_option maxRecDepth 100000 in
theorem c_X8_withdraw (ω : ZO) (N : Nat) (σ : ZS) (a1 : Int32) : ZIs ω wM yX8_withdraw wsX8_withdraw rm_X8_withdraw [.ref (za ω 0), .int a1] σ (f_X8_withdraw N σ a1) := by
  intro r0 hf
  refine ZI.go (cc := cX8_withdraw) (maxL := 2) (ret := (some .boolean)) (own := RX8) (lv := [(0, .ref (za ω 0)), (1, .int a1)]) (by decide) rfl rfl (Nat.le_of_ble_eq_true rfl) rfl (fun κ C hR => ?_)
  unfold f_X8_withdraw at hf
  refine G_aload_n (pc' := 1) C dX8_withdraw_0 0 rfl rfl ?_
  refine G_iload_n (pc' := 2) C dX8_withdraw_1 1 rfl rfl ?_
  refine G_callVp (pc' := 5) C [.int a1] (c_X8_isBook ω N σ a1) sg_X8_isBook gX8_withdraw_X8_isBook wM_0 rfl ⟨Nat.le_of_ble_eq_true rfl, Nat.le_of_ble_eq_true rfl⟩ rfl rfl (Nat.le_of_ble_eq_true rfl) dX8_withdraw_2 rfl hf (fun v1 hf => ?_)
  refine G_if_eq (tgt := 17) (pc' := 8) C dX8_withdraw_5 (by decide) rfl hf (fun hf => ?_) (fun hf => ?_)
  · refine G_iconst (v := (0 : Int32)) (pc' := 18) C dX8_withdraw_17 (by decide) rfl ?_
    exact G_zret C hR dX8_withdraw_18 (by decide) (Option.some.inj hf)
  · refine G_aload_n (pc' := 9) C dX8_withdraw_8 0 rfl rfl ?_
    refine G_get (pc' := 12) C wM_0 rfl 9 (by decide) rfl iu_X8_withdraw_X8 lk_X8_withdraw_33 dX8_withdraw_9 rfl ?_
    refine G_iload_n (pc' := 13) C dX8_withdraw_12 1 rfl rfl ?_
    refine G_zald (pc' := 14) C wM_8 dX8_withdraw_13 rfl hf (fun v2 hf => ?_)
    refine G_if_eq (tgt := 19) (pc' := 17) C dX8_withdraw_14 (by decide) rfl hf (fun hf => ?_) (fun hf => ?_)
    · refine G_aload_n (pc' := 20) C dX8_withdraw_19 0 rfl rfl ?_
      refine G_get (pc' := 23) C wM_0 rfl 9 (by decide) rfl iu_X8_withdraw_X8 lk_X8_withdraw_33 dX8_withdraw_20 rfl ?_
      refine G_iload_n (pc' := 24) C dX8_withdraw_23 1 rfl rfl ?_
      refine G_iconst (v := (1 : Int32)) (pc' := 25) C dX8_withdraw_24 (by decide) rfl ?_
      refine G_zast (pc' := 26) C wM_8 wM_s8 dX8_withdraw_25 rfl hf (fun s3 hf => ?_)
      refine G_iconst (v := (1 : Int32)) (pc' := 27) C dX8_withdraw_26 (by decide) rfl ?_
      exact G_zret C hR dX8_withdraw_27 (by decide) (Option.some.inj hf)
    · refine G_iconst (v := (0 : Int32)) (pc' := 18) C dX8_withdraw_17 (by decide) rfl ?_
      exact G_zret C hR dX8_withdraw_18 (by decide) (Option.some.inj hf)
abbrev rm_X8_isJudge : Room := { frames := 0, cells := 0, slots := 0, locals := 0 }
theorem sg_X8_isJudge : ZG yX8_isJudge wsX8_isJudge cX8_isJudge 1 (some .boolean) RX8 1 rm_X8_isJudge := ⟨⟨_, rfl⟩, by decide +kernel, rfl, rfl⟩
set_option maxHeartbeats 4000000 in
set_option maxRecDepth 100000 in
theorem c_X8_isJudge (ω : ZO) (N : Nat) (σ : ZS) (a0 : Int32) : ZIp ω wM yX8_isJudge wsX8_isJudge rm_X8_isJudge [.int a0] σ (f_X8_isJudge N σ a0) := by
  intro r0 hf
  refine ZI.go (cc := cX8_isJudge) (maxL := 1) (ret := (some .boolean)) (own := RX8) (lv := [(0, .int a0)]) (by decide) rfl rfl (Nat.le_of_ble_eq_true rfl) rfl (fun κ C hR => ?_)
  unfold f_X8_isJudge at hf
  refine G_iload_n (pc' := 1) C dX8_isJudge_0 0 rfl rfl ?_
  refine G_if_lt (tgt := 14) (pc' := 4) C dX8_isJudge_1 (by decide) rfl hf (fun hf => ?_) (fun hf => ?_)
  · refine G_iconst (v := (0 : Int32)) (pc' := 15) C dX8_isJudge_14 (by decide) rfl ?_
    exact G_zret C hR dX8_isJudge_15 (by decide) ⟨Option.some.inj hf, rfl⟩
  · refine G_iload_n (pc' := 5) C dX8_isJudge_4 0 rfl rfl ?_
    refine G_bipush (v := (7 : Int32)) (pc' := 7) C dX8_isJudge_5 (by decide) rfl ?_
    refine G_icmp_ge (tgt := 14) (pc' := 10) C dX8_isJudge_7 (by decide) rfl hf (fun hf => ?_) (fun hf => ?_)
    · refine G_iconst (v := (0 : Int32)) (pc' := 15) C dX8_isJudge_14 (by decide) rfl ?_
      exact G_zret C hR dX8_isJudge_15 (by decide) ⟨Option.some.inj hf, rfl⟩
    · refine G_iconst (v := (1 : Int32)) (pc' := 11) C dX8_isJudge_10 (by decide) rfl ?_
      refine G_goto (pc' := 15) C dX8_isJudge_11 (by decide) ?_
      exact G_zret C hR dX8_isJudge_15 (by decide) ⟨Option.some.inj hf, rfl⟩
theorem iu_X8_kin_X8 : ∀ w ∈ wsX80, w ∈ wsX8_kin := by decide +kernel
theorem lk_X8_kin_42 : Cond.fieldLink RX8 42 "PrizeDeskModel" "mark" "[I" ∈ wsX8_kin := by decide +kernel
theorem lk_X8_kin_36 : Cond.fieldLink RX8 36 "PrizeDeskModel" "isKin" "[Z" ∈ wsX8_kin := by decide +kernel
abbrev rm_X8_kin : Room := { frames := 1, cells := 0, slots := 0, locals := 21 }
theorem sg_X8_kin : ZG yX8_kin wsX8_kin cX8_kin 3 (some .boolean) RX8 2 rm_X8_kin := ⟨⟨_, rfl⟩, by decide +kernel, rfl, rfl⟩
set_option maxHeartbeats 4000000 in
set_option maxRecDepth 100000 in
theorem c_X8_kin (ω : ZO) (N : Nat) (σ : ZS) (a1 : Int32) (a2 : Int32) : ZIs ω wM yX8_kin wsX8_kin rm_X8_kin [.ref (za ω 0), .int a1, .int a2] σ (f_X8_kin N σ a1 a2) := by
  intro r0 hf
  refine ZI.go (cc := cX8_kin) (maxL := 3) (ret := (some .boolean)) (own := RX8) (lv := [(0, .ref (za ω 0)), (1, .int a1), (2, .int a2)]) (by decide) rfl rfl (Nat.le_of_ble_eq_true rfl) rfl (fun κ C hR => ?_)
  unfold f_X8_kin at hf
  refine G_iload_n (pc' := 1) C dX8_kin_0 1 rfl rfl ?_
  refine G_callSp (pc' := 4) C [.int a1] (c_X8_isJudge ω N σ a1) sg_X8_isJudge gX8_kin_X8_isJudge ⟨Nat.le_of_ble_eq_true rfl, Nat.le_of_ble_eq_true rfl⟩ rfl rfl (Nat.le_of_ble_eq_true rfl) dX8_kin_1 rfl hf (fun v1 hf => ?_)
  refine G_if_eq (tgt := 29) (pc' := 7) C dX8_kin_4 (by decide) rfl hf (fun hf => ?_) (fun hf => ?_)
  · refine G_iconst (v := (0 : Int32)) (pc' := 30) C dX8_kin_29 (by decide) rfl ?_
    exact G_zret C hR dX8_kin_30 (by decide) (Option.some.inj hf)
  · refine G_aload_n (pc' := 8) C dX8_kin_7 0 rfl rfl ?_
    refine G_iload_n (pc' := 9) C dX8_kin_8 2 rfl rfl ?_
    refine G_callVp (pc' := 12) C [.int a2] (c_X8_isBook ω N σ a2) sg_X8_isBook gX8_kin_X8_isBook wM_0 rfl ⟨Nat.le_of_ble_eq_true rfl, Nat.le_of_ble_eq_true rfl⟩ rfl rfl (Nat.le_of_ble_eq_true rfl) dX8_kin_9 rfl hf (fun v2 hf => ?_)
    refine G_if_eq (tgt := 29) (pc' := 15) C dX8_kin_12 (by decide) rfl hf (fun hf => ?_) (fun hf => ?_)
    · refine G_iconst (v := (0 : Int32)) (pc' := 30) C dX8_kin_29 (by decide) rfl ?_
      exact G_zret C hR dX8_kin_30 (by decide) (Option.some.inj hf)
    · refine G_aload_n (pc' := 16) C dX8_kin_15 0 rfl rfl ?_
      refine G_get (pc' := 19) C wM_0 rfl 10 (by decide) rfl iu_X8_kin_X8 lk_X8_kin_36 dX8_kin_16 rfl ?_
      refine G_bipush (v := (24 : Int32)) (pc' := 21) C dX8_kin_19 (by decide) rfl ?_
      refine G_iload_n (pc' := 22) C dX8_kin_21 1 rfl rfl ?_
      refine G_imul (pc' := 23) C dX8_kin_22 rfl ?_
      refine G_iload_n (pc' := 24) C dX8_kin_23 2 rfl rfl ?_
      refine G_iadd (pc' := 25) C dX8_kin_24 rfl ?_
      refine G_zald (pc' := 26) C wM_9 dX8_kin_25 rfl hf (fun v3 hf => ?_)
      refine G_if_eq (tgt := 31) (pc' := 29) C dX8_kin_26 (by decide) rfl hf (fun hf => ?_) (fun hf => ?_)
      · refine G_aload_n (pc' := 32) C dX8_kin_31 0 rfl rfl ?_
        refine G_get (pc' := 35) C wM_0 rfl 10 (by decide) rfl iu_X8_kin_X8 lk_X8_kin_36 dX8_kin_32 rfl ?_
        refine G_bipush (v := (24 : Int32)) (pc' := 37) C dX8_kin_35 (by decide) rfl ?_
        refine G_iload_n (pc' := 38) C dX8_kin_37 1 rfl rfl ?_
        refine G_imul (pc' := 39) C dX8_kin_38 rfl ?_
        refine G_iload_n (pc' := 40) C dX8_kin_39 2 rfl rfl ?_
        refine G_iadd (pc' := 41) C dX8_kin_40 rfl ?_
        refine G_iconst (v := (1 : Int32)) (pc' := 42) C dX8_kin_41 (by decide) rfl ?_
        refine G_zast (pc' := 43) C wM_9 wM_s9 dX8_kin_42 rfl hf (fun s4 hf => ?_)
        refine G_aload_n (pc' := 44) C dX8_kin_43 0 rfl rfl ?_
        refine G_get (pc' := 47) C wM_0 rfl 12 (by decide) rfl iu_X8_kin_X8 lk_X8_kin_42 dX8_kin_44 rfl ?_
        refine G_bipush (v := (24 : Int32)) (pc' := 49) C dX8_kin_47 (by decide) rfl ?_
        refine G_iload_n (pc' := 50) C dX8_kin_49 1 rfl rfl ?_
        refine G_imul (pc' := 51) C dX8_kin_50 rfl ?_
        refine G_iload_n (pc' := 52) C dX8_kin_51 2 rfl rfl ?_
        refine G_iadd (pc' := 53) C dX8_kin_52 rfl ?_
        refine G_iconst (v := (-1 : Int32)) (pc' := 54) C dX8_kin_53 (by decide) rfl ?_
        refine G_iast (pc' := 55) C wM_11 wM_s11 dX8_kin_54 rfl hf (fun s5 hf => ?_)
        refine G_iconst (v := (1 : Int32)) (pc' := 56) C dX8_kin_55 (by decide) rfl ?_
        exact G_zret C hR dX8_kin_56 (by decide) (Option.some.inj hf)
      · refine G_iconst (v := (0 : Int32)) (pc' := 30) C dX8_kin_29 (by decide) rfl ?_
        exact G_zret C hR dX8_kin_30 (by decide) (Option.some.inj hf)
theorem iu_X8_friend_X8 : ∀ w ∈ wsX80, w ∈ wsX8_friend := by decide +kernel
theorem lk_X8_friend_42 : Cond.fieldLink RX8 42 "PrizeDeskModel" "mark" "[I" ∈ wsX8_friend := by decide +kernel
theorem lk_X8_friend_20 : Cond.fieldLink RX8 20 "PrizeDeskModel" "publisher" "[I" ∈ wsX8_friend := by decide +kernel
theorem lk_X8_friend_113 : Cond.fieldLink RX8 113 "PrizeDeskModel" "books" "I" ∈ wsX8_friend := by decide +kernel
theorem lk_X8_friend_39 : Cond.fieldLink RX8 39 "PrizeDeskModel" "isFriend" "[Z" ∈ wsX8_friend := by decide +kernel
abbrev rm_X8_friend : Room := { frames := 1, cells := 0, slots := 0, locals := 20 }
theorem sg_X8_friend : ZG yX8_friend wsX8_friend cX8_friend 4 (some .boolean) RX8 2 rm_X8_friend := ⟨⟨_, rfl⟩, by decide +kernel, rfl, rfl⟩
set_option maxHeartbeats 4000000 in
set_option maxRecDepth 100000 in
theorem w_X8_friend_47 {ω : ZO} {κ : ZK} {N : Nat} {b1 : Int32} {b2 : Int32} {K : Int32 → ZS → Option (Int32 × ZS)} {r0 : Int32 × ZS} (C : CX ω wM κ cX8_friend wsX8_friend RX8 (some .boolean) 4 rm_X8_friend) (hR : zRI ω wM κ (fun v τ => (v, τ) = r0)) (HK : ∀ (y3 : Int32) (τ : ZS), K y3 τ = some r0 → G ω wM κ 83 [(0, .ref (za ω 0))] [] τ) : ∀ (n : Nat) (y3 : Int32) (τ : ZS), L_X8_friend_47 N b1 b2 K n y3 τ = some r0 → G ω wM κ 47 [(0, .ref (za ω 0)), (1, .int b1), (2, .int b2), (3, .int y3)] [] τ := by
  intro n
  induction n with
  | zero => intro  y3 τ hf; exact absurd (show none = some r0 from hf) (fun h => nomatch h)
  | succ n ih =>
    intro y3 τ hf
    have hf : B_X8_friend_47 N b1 b2 K (L_X8_friend_47 N b1 b2 K n) y3 τ = some r0 := hf
    unfold B_X8_friend_47 at hf
    refine G_iload_n (pc' := 48) C dX8_friend_47 3 rfl rfl ?_
    refine G_aload_n (pc' := 49) C dX8_friend_48 0 rfl rfl ?_
    refine G_get (pc' := 52) C wM_0 rfl 4 (by decide) rfl iu_X8_friend_X8 lk_X8_friend_113 dX8_friend_49 rfl ?_
    refine G_icmp_ge (tgt := 83) (pc' := 55) C dX8_friend_52 (by decide) rfl hf (fun hf => ?_) (fun hf => ?_)
    · refine G_sub (lv' := [(0, .ref (za ω 0))]) C [0] rfl ?_
      exact HK y3 τ hf
    · refine G_aload_n (pc' := 56) C dX8_friend_55 0 rfl rfl ?_
      refine G_get (pc' := 59) C wM_0 rfl 5 (by decide) rfl iu_X8_friend_X8 lk_X8_friend_20 dX8_friend_56 rfl ?_
      refine G_iload_n (pc' := 60) C dX8_friend_59 3 rfl rfl ?_
      refine G_iald (pc' := 61) C wM_4 dX8_friend_60 rfl hf (fun v4 hf => ?_)
      refine G_iload_n (pc' := 62) C dX8_friend_61 2 rfl rfl ?_
      refine G_icmp_ne (tgt := 77) (pc' := 65) C dX8_friend_62 (by decide) rfl hf (fun hf => ?_) (fun hf => ?_)
      · refine G_aload_n (pc' := 66) C dX8_friend_65 0 rfl rfl ?_
        refine G_get (pc' := 69) C wM_0 rfl 12 (by decide) rfl iu_X8_friend_X8 lk_X8_friend_42 dX8_friend_66 rfl ?_
        refine G_bipush (v := (24 : Int32)) (pc' := 71) C dX8_friend_69 (by decide) rfl ?_
        refine G_iload_n (pc' := 72) C dX8_friend_71 1 rfl rfl ?_
        refine G_imul (pc' := 73) C dX8_friend_72 rfl ?_
        refine G_iload_n (pc' := 74) C dX8_friend_73 3 rfl rfl ?_
        refine G_iadd (pc' := 75) C dX8_friend_74 rfl ?_
        refine G_iconst (v := (-1 : Int32)) (pc' := 76) C dX8_friend_75 (by decide) rfl ?_
        refine G_iast (pc' := 77) C wM_11 wM_s11 dX8_friend_76 rfl hf (fun s5 hf => ?_)
        refine G_iincL (v := y3 + (1 : Int32)) (pc' := 80) C dX8_friend_77 3 rfl rfl (by decide) [1, 2, 3, 0] (fun x6 => [(0, .ref (za ω 0)), (1, .int b1), (2, .int b2), (3, .int x6)]) (fun _ => rfl) rfl hf (fun x6 hf => ?_)
        refine G_goto (pc' := 47) C dX8_friend_80 (by decide) ?_
        exact ih x6 s5 hf
      · refine G_iincL (v := y3 + (1 : Int32)) (pc' := 80) C dX8_friend_77 3 rfl rfl (by decide) [1, 2, 3, 0] (fun x7 => [(0, .ref (za ω 0)), (1, .int b1), (2, .int b2), (3, .int x7)]) (fun _ => rfl) rfl hf (fun x7 hf => ?_)
        refine G_goto (pc' := 47) C dX8_friend_80 (by decide) ?_
        exact ih x7 τ hf
set_option maxHeartbeats 4000000 in
set_option maxRecDepth 100000 in
theorem c_X8_friend (ω : ZO) (N : Nat) (σ : ZS) (a1 : Int32) (a2 : Int32) : ZIs ω wM yX8_friend wsX8_friend rm_X8_friend [.ref (za ω 0), .int a1, .int a2] σ (f_X8_friend N σ a1 a2) := by
  intro r0 hf
  refine ZI.go (cc := cX8_friend) (maxL := 4) (ret := (some .boolean)) (own := RX8) (lv := [(0, .ref (za ω 0)), (1, .int a1), (2, .int a2)]) (by decide) rfl rfl (Nat.le_of_ble_eq_true rfl) rfl (fun κ C hR => ?_)
  unfold f_X8_friend at hf
  refine G_iload_n (pc' := 1) C dX8_friend_0 1 rfl rfl ?_
  refine G_callSp (pc' := 4) C [.int a1] (c_X8_isJudge ω N σ a1) sg_X8_isJudge gX8_friend_X8_isJudge ⟨Nat.le_of_ble_eq_true rfl, Nat.le_of_ble_eq_true rfl⟩ rfl rfl (Nat.le_of_ble_eq_true rfl) dX8_friend_1 rfl hf (fun v1 hf => ?_)
  refine G_if_eq (tgt := 31) (pc' := 7) C dX8_friend_4 (by decide) rfl hf (fun hf => ?_) (fun hf => ?_)
  · refine G_iconst (v := (0 : Int32)) (pc' := 32) C dX8_friend_31 (by decide) rfl ?_
    exact G_zret C hR dX8_friend_32 (by decide) (Option.some.inj hf)
  · refine G_iload_n (pc' := 8) C dX8_friend_7 2 rfl rfl ?_
    refine G_if_lt (tgt := 31) (pc' := 11) C dX8_friend_8 (by decide) rfl hf (fun hf => ?_) (fun hf => ?_)
    · refine G_iconst (v := (0 : Int32)) (pc' := 32) C dX8_friend_31 (by decide) rfl ?_
      exact G_zret C hR dX8_friend_32 (by decide) (Option.some.inj hf)
    · refine G_iload_n (pc' := 12) C dX8_friend_11 2 rfl rfl ?_
      refine G_bipush (v := (8 : Int32)) (pc' := 14) C dX8_friend_12 (by decide) rfl ?_
      refine G_icmp_ge (tgt := 31) (pc' := 17) C dX8_friend_14 (by decide) rfl hf (fun hf => ?_) (fun hf => ?_)
      · refine G_iconst (v := (0 : Int32)) (pc' := 32) C dX8_friend_31 (by decide) rfl ?_
        exact G_zret C hR dX8_friend_32 (by decide) (Option.some.inj hf)
      · refine G_aload_n (pc' := 18) C dX8_friend_17 0 rfl rfl ?_
        refine G_get (pc' := 21) C wM_0 rfl 11 (by decide) rfl iu_X8_friend_X8 lk_X8_friend_39 dX8_friend_18 rfl ?_
        refine G_bipush (v := (8 : Int32)) (pc' := 23) C dX8_friend_21 (by decide) rfl ?_
        refine G_iload_n (pc' := 24) C dX8_friend_23 1 rfl rfl ?_
        refine G_imul (pc' := 25) C dX8_friend_24 rfl ?_
        refine G_iload_n (pc' := 26) C dX8_friend_25 2 rfl rfl ?_
        refine G_iadd (pc' := 27) C dX8_friend_26 rfl ?_
        refine G_zald (pc' := 28) C wM_10 dX8_friend_27 rfl hf (fun v2 hf => ?_)
        refine G_if_eq (tgt := 33) (pc' := 31) C dX8_friend_28 (by decide) rfl hf (fun hf => ?_) (fun hf => ?_)
        · refine G_aload_n (pc' := 34) C dX8_friend_33 0 rfl rfl ?_
          refine G_get (pc' := 37) C wM_0 rfl 11 (by decide) rfl iu_X8_friend_X8 lk_X8_friend_39 dX8_friend_34 rfl ?_
          refine G_bipush (v := (8 : Int32)) (pc' := 39) C dX8_friend_37 (by decide) rfl ?_
          refine G_iload_n (pc' := 40) C dX8_friend_39 1 rfl rfl ?_
          refine G_imul (pc' := 41) C dX8_friend_40 rfl ?_
          refine G_iload_n (pc' := 42) C dX8_friend_41 2 rfl rfl ?_
          refine G_iadd (pc' := 43) C dX8_friend_42 rfl ?_
          refine G_iconst (v := (1 : Int32)) (pc' := 44) C dX8_friend_43 (by decide) rfl ?_
          refine G_zast (pc' := 45) C wM_10 wM_s10 dX8_friend_44 rfl hf (fun s3 hf => ?_)
          refine G_iconst (v := (0 : Int32)) (pc' := 46) C dX8_friend_45 (by decide) rfl ?_
          refine G_istore_n (lv' := [(0, .ref (za ω 0)), (1, .int a1), (2, .int a2), (3, .int (0 : Int32))]) (pc' := 47) C dX8_friend_46 (by decide) [1, 2, 3, 0] rfl rfl ?_
          refine w_X8_friend_47 C hR (fun y8 s9 hf => ?_) N (0 : Int32) s3 hf
          refine G_iconst (v := (1 : Int32)) (pc' := 84) C dX8_friend_83 (by decide) rfl ?_
          exact G_zret C hR dX8_friend_84 (by decide) (Option.some.inj hf)
        · refine G_iconst (v := (0 : Int32)) (pc' := 32) C dX8_friend_31 (by decide) rfl ?_
          exact G_zret C hR dX8_friend_32 (by decide) (Option.some.inj hf)
theorem iu_X8_isWithin_X8 : ∀ w ∈ wsX80, w ∈ wsX8_isWithin := by decide +kernel
theorem lk_X8_isWithin_13 : Cond.fieldLink RX8 13 "PrizeDeskModel" "rule" "[I" ∈ wsX8_isWithin := by decide +kernel
theorem lk_X8_isWithin_26 : Cond.fieldLink RX8 26 "PrizeDeskModel" "came" "[I" ∈ wsX8_isWithin := by decide +kernel
theorem lk_X8_isWithin_23 : Cond.fieldLink RX8 23 "PrizeDeskModel" "pages" "[I" ∈ wsX8_isWithin := by decide +kernel
theorem lk_X8_isWithin_33 : Cond.fieldLink RX8 33 "PrizeDeskModel" "isWithdrawn" "[Z" ∈ wsX8_isWithin := by decide +kernel
abbrev rm_X8_isWithin : Room := { frames := 0, cells := 0, slots := 0, locals := 0 }
theorem sg_X8_isWithin : ZG yX8_isWithin wsX8_isWithin cX8_isWithin 2 (some .boolean) RX8 1 rm_X8_isWithin := ⟨⟨_, rfl⟩, by decide +kernel, rfl, rfl⟩
set_option maxHeartbeats 4000000 in
set_option maxRecDepth 100000 in
theorem c_X8_isWithin (ω : ZO) (N : Nat) (σ : ZS) (a1 : Int32) : ZIp ω wM yX8_isWithin wsX8_isWithin rm_X8_isWithin [.ref (za ω 0), .int a1] σ (f_X8_isWithin N σ a1) := by
  intro r0 hf
  refine ZI.go (cc := cX8_isWithin) (maxL := 2) (ret := (some .boolean)) (own := RX8) (lv := [(0, .ref (za ω 0)), (1, .int a1)]) (by decide) rfl rfl (Nat.le_of_ble_eq_true rfl) rfl (fun κ C hR => ?_)
  unfold f_X8_isWithin at hf
  refine G_aload_n (pc' := 1) C dX8_isWithin_0 0 rfl rfl ?_
  refine G_get (pc' := 4) C wM_0 rfl 9 (by decide) rfl iu_X8_isWithin_X8 lk_X8_isWithin_33 dX8_isWithin_1 rfl ?_
  refine G_iload_n (pc' := 5) C dX8_isWithin_4 1 rfl rfl ?_
  refine G_zald (pc' := 6) C wM_8 dX8_isWithin_5 rfl hf (fun v1 hf => ?_)
  refine G_if_ne (tgt := 73) (pc' := 9) C dX8_isWithin_6 (by decide) rfl hf (fun hf => ?_) (fun hf => ?_)
  · refine G_aload_n (pc' := 10) C dX8_isWithin_9 0 rfl rfl ?_
    refine G_get (pc' := 13) C wM_0 rfl 6 (by decide) rfl iu_X8_isWithin_X8 lk_X8_isWithin_23 dX8_isWithin_10 rfl ?_
    refine G_iload_n (pc' := 14) C dX8_isWithin_13 1 rfl rfl ?_
    refine G_iald (pc' := 15) C wM_5 dX8_isWithin_14 rfl hf (fun v2 hf => ?_)
    refine G_aload_n (pc' := 16) C dX8_isWithin_15 0 rfl rfl ?_
    refine G_get (pc' := 19) C wM_0 rfl 2 (by decide) rfl iu_X8_isWithin_X8 lk_X8_isWithin_13 dX8_isWithin_16 rfl ?_
    refine G_iconst (v := (0 : Int32)) (pc' := 20) C dX8_isWithin_19 (by decide) rfl ?_
    refine G_iald (pc' := 21) C wM_2 dX8_isWithin_20 rfl hf (fun v3 hf => ?_)
    refine G_icmp_lt (tgt := 73) (pc' := 24) C dX8_isWithin_21 (by decide) rfl hf (fun hf => ?_) (fun hf => ?_)
    · refine G_iconst (v := (0 : Int32)) (pc' := 74) C dX8_isWithin_73 (by decide) rfl ?_
      exact G_zret C hR dX8_isWithin_74 (by decide) ⟨Option.some.inj hf, rfl⟩
    · refine G_aload_n (pc' := 25) C dX8_isWithin_24 0 rfl rfl ?_
      refine G_get (pc' := 28) C wM_0 rfl 6 (by decide) rfl iu_X8_isWithin_X8 lk_X8_isWithin_23 dX8_isWithin_25 rfl ?_
      refine G_iload_n (pc' := 29) C dX8_isWithin_28 1 rfl rfl ?_
      refine G_iald (pc' := 30) C wM_5 dX8_isWithin_29 rfl hf (fun v4 hf => ?_)
      refine G_aload_n (pc' := 31) C dX8_isWithin_30 0 rfl rfl ?_
      refine G_get (pc' := 34) C wM_0 rfl 2 (by decide) rfl iu_X8_isWithin_X8 lk_X8_isWithin_13 dX8_isWithin_31 rfl ?_
      refine G_iconst (v := (1 : Int32)) (pc' := 35) C dX8_isWithin_34 (by decide) rfl ?_
      refine G_iald (pc' := 36) C wM_2 dX8_isWithin_35 rfl hf (fun v5 hf => ?_)
      refine G_icmp_gt (tgt := 73) (pc' := 39) C dX8_isWithin_36 (by decide) rfl hf (fun hf => ?_) (fun hf => ?_)
      · refine G_iconst (v := (0 : Int32)) (pc' := 74) C dX8_isWithin_73 (by decide) rfl ?_
        exact G_zret C hR dX8_isWithin_74 (by decide) ⟨Option.some.inj hf, rfl⟩
      · refine G_aload_n (pc' := 40) C dX8_isWithin_39 0 rfl rfl ?_
        refine G_get (pc' := 43) C wM_0 rfl 7 (by decide) rfl iu_X8_isWithin_X8 lk_X8_isWithin_26 dX8_isWithin_40 rfl ?_
        refine G_iload_n (pc' := 44) C dX8_isWithin_43 1 rfl rfl ?_
        refine G_iald (pc' := 45) C wM_6 dX8_isWithin_44 rfl hf (fun v6 hf => ?_)
        refine G_aload_n (pc' := 46) C dX8_isWithin_45 0 rfl rfl ?_
        refine G_get (pc' := 49) C wM_0 rfl 2 (by decide) rfl iu_X8_isWithin_X8 lk_X8_isWithin_13 dX8_isWithin_46 rfl ?_
        refine G_iconst (v := (2 : Int32)) (pc' := 50) C dX8_isWithin_49 (by decide) rfl ?_
        refine G_iald (pc' := 51) C wM_2 dX8_isWithin_50 rfl hf (fun v7 hf => ?_)
        refine G_icmp_lt (tgt := 73) (pc' := 54) C dX8_isWithin_51 (by decide) rfl hf (fun hf => ?_) (fun hf => ?_)
        · refine G_iconst (v := (0 : Int32)) (pc' := 74) C dX8_isWithin_73 (by decide) rfl ?_
          exact G_zret C hR dX8_isWithin_74 (by decide) ⟨Option.some.inj hf, rfl⟩
        · refine G_aload_n (pc' := 55) C dX8_isWithin_54 0 rfl rfl ?_
          refine G_get (pc' := 58) C wM_0 rfl 7 (by decide) rfl iu_X8_isWithin_X8 lk_X8_isWithin_26 dX8_isWithin_55 rfl ?_
          refine G_iload_n (pc' := 59) C dX8_isWithin_58 1 rfl rfl ?_
          refine G_iald (pc' := 60) C wM_6 dX8_isWithin_59 rfl hf (fun v8 hf => ?_)
          refine G_aload_n (pc' := 61) C dX8_isWithin_60 0 rfl rfl ?_
          refine G_get (pc' := 64) C wM_0 rfl 2 (by decide) rfl iu_X8_isWithin_X8 lk_X8_isWithin_13 dX8_isWithin_61 rfl ?_
          refine G_iconst (v := (3 : Int32)) (pc' := 65) C dX8_isWithin_64 (by decide) rfl ?_
          refine G_iald (pc' := 66) C wM_2 dX8_isWithin_65 rfl hf (fun v9 hf => ?_)
          refine G_icmp_gt (tgt := 73) (pc' := 69) C dX8_isWithin_66 (by decide) rfl hf (fun hf => ?_) (fun hf => ?_)
          · refine G_iconst (v := (0 : Int32)) (pc' := 74) C dX8_isWithin_73 (by decide) rfl ?_
            exact G_zret C hR dX8_isWithin_74 (by decide) ⟨Option.some.inj hf, rfl⟩
          · refine G_iconst (v := (1 : Int32)) (pc' := 70) C dX8_isWithin_69 (by decide) rfl ?_
            refine G_goto (pc' := 74) C dX8_isWithin_70 (by decide) ?_
            exact G_zret C hR dX8_isWithin_74 (by decide) ⟨Option.some.inj hf, rfl⟩
  · refine G_iconst (v := (0 : Int32)) (pc' := 74) C dX8_isWithin_73 (by decide) rfl ?_
    exact G_zret C hR dX8_isWithin_74 (by decide) ⟨Option.some.inj hf, rfl⟩
