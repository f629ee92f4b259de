theorem lk_X0_sumAbove_34n : Cond.methodLinkNest RX0 34 yX7_contains RX7 ∈ zNws := by decide +kernel
theorem lk_X0_sumAbove_34s : Cond.static yX7_contains ∈ wsX0_sumAbove := by decide +kernel
theorem lk_X0_sumAbove_34i : Cond.initialized yX7_contains.cls ∈ wsX0_sumAbove := by decide +kernel
abbrev rm_X0_sumAbove : Room := { frames := 3, cells := 0, slots := 0, locals := 65 }
theorem sg_X0_sumAbove : ZG yX0_sumAbove wsX0_sumAbove cX0_sumAbove 6 (some .int) RX0 2 rm_X0_sumAbove := ⟨⟨_, rfl⟩, by decide +kernel, rfl, rfl⟩
set_option maxHeartbeats 4000000 in
set_option maxRecDepth 100000 in
theorem w_X0_sumAbove_13 {ω : ZO} {κ : ZK} {N : Nat} {σ : ZS} {b1 : Int32} {b2 : Int32} {b3 : Int32} {K : Int32 → Int32 → Option (Int32)} {r0 : Int32} (C : CX ω wD κ cX0_sumAbove wsX0_sumAbove RX0 (some .int) 6 rm_X0_sumAbove) (hR : zRI ω wD κ (fun v τ => v = r0 ∧ τ = σ)) (HK : ∀ (y4 : Int32) (y5 : Int32), K y4 y5 = some r0 → G ω wD κ 55 [(0, .ref (za ω 11)), (4, .int y4)] [] σ) : ∀ (n : Nat) (y4 : Int32) (y5 : Int32), L_X0_sumAbove_13 N σ b1 b2 b3 K n y4 y5 = some r0 → G ω wD κ 13 [(0, .ref (za ω 11)), (1, .int b1), (2, .int b2), (3, .int b3), (4, .int y4), (5, .int y5)] [] σ := by
  intro n
  induction n with
  | zero => intro  y4 y5 hf; exact absurd (show none = some r0 from hf) (fun h => nomatch h)
  | succ n ih =>
    intro y4 y5 hf
    have hf : B_X0_sumAbove_13 N σ b1 b2 b3 K (L_X0_sumAbove_13 N σ b1 b2 b3 K n) y4 y5 = some r0 := hf
    unfold B_X0_sumAbove_13 at hf
    refine G_iload (pc' := 15) C dX0_sumAbove_13 5 rfl rfl ?_
    refine G_bipush (v := (24 : Int32)) (pc' := 17) C dX0_sumAbove_15 (by decide) rfl ?_
    refine G_icmp_ge (tgt := 55) (pc' := 20) C dX0_sumAbove_17 (by decide) rfl hf (fun hf => ?_) (fun hf => ?_)
    · refine G_sub (lv' := [(0, .ref (za ω 11)), (4, .int y4)]) C [0, 4] rfl ?_
      exact HK y4 y5 hf
    · refine G_iload_n (pc' := 21) C dX0_sumAbove_20 3 rfl rfl ?_
      refine G_iload (pc' := 23) C dX0_sumAbove_21 5 rfl rfl ?_
      refine G_callNp (pc' := 26) C [.int b3, .int y5] (c_X7_contains ω N σ b3 y5) sg_X7_contains gX0_sumAbove_X7_contains_n34 lk_X0_sumAbove_34n lk_X0_sumAbove_34s lk_X0_sumAbove_34i ⟨Nat.le_of_ble_eq_true rfl, Nat.le_of_ble_eq_true rfl⟩ rfl rfl (Nat.le_of_ble_eq_true rfl) dX0_sumAbove_23 rfl hf (fun v2 hf => ?_)
      refine G_if_eq (tgt := 49) (pc' := 29) C dX0_sumAbove_26 (by decide) rfl hf (fun hf => ?_) (fun hf => ?_)
      · refine G_iincL (v := y5 + (1 : Int32)) (pc' := 52) C dX0_sumAbove_49 5 rfl rfl (by decide) [1, 2, 3, 4, 5, 0] (fun x3 => [(0, .ref (za ω 11)), (1, .int b1), (2, .int b2), (3, .int b3), (4, .int y4), (5, .int x3)]) (fun _ => rfl) rfl hf (fun x3 hf => ?_)
        refine G_goto (pc' := 13) C dX0_sumAbove_52 (by decide) ?_
        exact ih y4 x3 hf
      · refine G_iload (pc' := 31) C dX0_sumAbove_29 4 rfl rfl ?_
        refine G_aload_n (pc' := 32) C dX0_sumAbove_31 0 rfl rfl ?_
        refine G_iload_n (pc' := 33) C dX0_sumAbove_32 1 rfl rfl ?_
        refine G_iload (pc' := 35) C dX0_sumAbove_33 5 rfl rfl ?_
        refine G_callVp (pc' := 38) C [.int b1, .int y5] (c_X0_markOf ω N σ b1 y5) sg_X0_markOf gX0_sumAbove_X0_markOf wD_11 rfl ⟨Nat.le_of_ble_eq_true rfl, Nat.le_of_ble_eq_true rfl⟩ rfl rfl (Nat.le_of_ble_eq_true rfl) dX0_sumAbove_35 rfl hf (fun v4 hf => ?_)
        refine G_aload_n (pc' := 39) C dX0_sumAbove_38 0 rfl rfl ?_
        refine G_iload_n (pc' := 40) C dX0_sumAbove_39 2 rfl rfl ?_
        refine G_iload (pc' := 42) C dX0_sumAbove_40 5 rfl rfl ?_
        refine G_callVp (pc' := 45) C [.int b2, .int y5] (c_X0_markOf ω N σ b2 y5) sg_X0_markOf gX0_sumAbove_X0_markOf wD_11 rfl ⟨Nat.le_of_ble_eq_true rfl, Nat.le_of_ble_eq_true rfl⟩ rfl rfl (Nat.le_of_ble_eq_true rfl) dX0_sumAbove_42 rfl hf (fun v5 hf => ?_)
        refine G_isub (pc' := 46) C dX0_sumAbove_45 rfl ?_
        refine G_iadd (pc' := 47) C dX0_sumAbove_46 rfl ?_
        refine G_nm hf (fun x6 hf => ?_)
        refine G_istore (lv' := [(0, .ref (za ω 11)), (1, .int b1), (2, .int b2), (3, .int b3), (4, .int x6), (5, .int y5)]) (pc' := 49) C dX0_sumAbove_47 (by decide) [1, 2, 3, 4, 0, 5] rfl rfl ?_
        refine G_iincL (v := y5 + (1 : Int32)) (pc' := 52) C dX0_sumAbove_49 5 rfl rfl (by decide) [1, 2, 3, 4, 5, 0] (fun x7 => [(0, .ref (za ω 11)), (1, .int b1), (2, .int b2), (3, .int b3), (4, .int x6), (5, .int x7)]) (fun _ => rfl) rfl hf (fun x7 hf => ?_)
        refine G_goto (pc' := 13) C dX0_sumAbove_52 (by decide) ?_
        exact ih x6 x7 hf
set_option maxHeartbeats 4000000 in
set_option maxRecDepth 100000 in
theorem c_X0_sumAbove (ω : ZO) (N : Nat) (σ : ZS) (a1 : Int32) (a2 : Int32) : ZIp ω wD yX0_sumAbove wsX0_sumAbove rm_X0_sumAbove [.ref (za ω 11), .int a1, .int a2] σ (f_X0_sumAbove N σ a1 a2) := by
  intro r0 hf
  refine ZI.go (cc := cX0_sumAbove) (maxL := 6) (ret := (some .int)) (own := RX0) (lv := [(0, .ref (za ω 11)), (1, .int a1), (2, .int a2)]) (by decide) rfl rfl (Nat.le_of_ble_eq_true rfl) rfl (fun κ C hR => ?_)
  unfold f_X0_sumAbove at hf
  refine G_aload_n (pc' := 1) C dX0_sumAbove_0 0 rfl rfl ?_
  refine G_iload_n (pc' := 2) C dX0_sumAbove_1 1 rfl rfl ?_
  refine G_iload_n (pc' := 3) C dX0_sumAbove_2 2 rfl rfl ?_
  refine G_callVp (pc' := 6) C [.int a1, .int a2] (c_X0_sharedBooks ω N σ a1 a2) sg_X0_sharedBooks gX0_sumAbove_X0_sharedBooks wD_11 rfl ⟨Nat.le_of_ble_eq_true rfl, Nat.le_of_ble_eq_true rfl⟩ rfl rfl (Nat.le_of_ble_eq_true rfl) dX0_sumAbove_3 rfl hf (fun v1 hf => ?_)
  refine G_istore_n (lv' := [(0, .ref (za ω 11)), (1, .int a1), (2, .int a2), (3, .int v1)]) (pc' := 7) C dX0_sumAbove_6 (by decide) [1, 2, 3, 0] rfl rfl ?_
  refine G_iconst (v := (0 : Int32)) (pc' := 8) C dX0_sumAbove_7 (by decide) rfl ?_
  refine G_istore (lv' := [(0, .ref (za ω 11)), (1, .int a1), (2, .int a2), (3, .int v1), (4, .int (0 : Int32))]) (pc' := 10) C dX0_sumAbove_8 (by decide) [1, 2, 3, 4, 0] rfl rfl ?_
  refine G_iconst (v := (0 : Int32)) (pc' := 11) C dX0_sumAbove_10 (by decide) rfl ?_
  refine G_istore (lv' := [(0, .ref (za ω 11)), (1, .int a1), (2, .int a2), (3, .int v1), (4, .int (0 : Int32)), (5, .int (0 : Int32))]) (pc' := 13) C dX0_sumAbove_11 (by decide) [1, 2, 3, 4, 5, 0] rfl rfl ?_
  refine w_X0_sumAbove_13 C hR (fun y8 y9 hf => ?_) N (0 : Int32) (0 : Int32) hf
  refine G_iload (pc' := 57) C dX0_sumAbove_55 1 rfl rfl ?_
  exact G_iret C hR dX0_sumAbove_57 ⟨Option.some.inj hf, rfl⟩
theorem lk_X0_isApart_30n : Cond.methodLinkNest RX0 30 yX7_isJudge RX7 ∈ zNws := by decide +kernel
theorem lk_X0_isApart_30s : Cond.static yX7_isJudge ∈ wsX0_isApart := by decide +kernel
theorem lk_X0_isApart_30i : Cond.initialized yX7_isJudge.cls ∈ wsX0_isApart := by decide +kernel
theorem iu_X0_isApart_X0 : ∀ w ∈ wsX00, w ∈ wsX0_isApart := by decide +kernel
theorem lk_X0_isApart_21 : Cond.fieldLink RX0 21 "PrizeDesk$Panel" "markedBooks" "[I" ∈ wsX0_isApart := by decide +kernel
abbrev rm_X0_isApart : Room := { frames := 1, cells := 0, slots := 0, locals := 20 }
theorem sg_X0_isApart : ZG yX0_isApart wsX0_isApart cX0_isApart 6 (some .boolean) RX0 2 rm_X0_isApart := ⟨⟨_, rfl⟩, by decide +kernel, rfl, rfl⟩
set_option maxHeartbeats 4000000 in
set_option maxRecDepth 100000 in
theorem w_X0_isApart_36 {ω : ZO} {κ : ZK} {N : Nat} {σ : ZS} {b2 : Int32} {b4 : Int32} {K : Int32 → Int32 → Option (Int32)} {r0 : Int32} (C : CX ω wD κ cX0_isApart wsX0_isApart RX0 (some .boolean) 6 rm_X0_isApart) (hR : zRI ω wD κ (fun v τ => v = r0 ∧ τ = σ)) (HK : ∀ (y3 : Int32) (y5 : Int32), K y3 y5 = some r0 → G ω wD κ 71 [(0, .ref (za ω 11)), (2, .int b2), (3, .int y3), (4, .int b4)] [] σ) : ∀ (n : Nat) (y3 : Int32) (y5 : Int32), L_X0_isApart_36 N σ b2 b4 K n y3 y5 = some r0 → G ω wD κ 36 [(0, .ref (za ω 11)), (2, .int b2), (3, .int y3), (4, .int b4), (5, .int y5)] [] σ := by
  intro n
  induction n with
  | zero => intro  y3 y5 hf; exact absurd (show none = some r0 from hf) (fun h => nomatch h)
  | succ n ih =>
    intro y3 y5 hf
    have hf : B_X0_isApart_36 N σ b2 b4 K (L_X0_isApart_36 N σ b2 b4 K n) y3 y5 = some r0 := hf
    unfold B_X0_isApart_36 at hf
    refine G_iload (pc' := 38) C dX0_isApart_36 4 rfl rfl ?_
    refine G_bipush (v := (7 : Int32)) (pc' := 40) C dX0_isApart_38 (by decide) rfl ?_
    refine G_icmp_ge (tgt := 71) (pc' := 43) C dX0_isApart_40 (by decide) rfl hf (fun hf => ?_) (fun hf => ?_)
    · refine G_sub (lv' := [(0, .ref (za ω 11)), (2, .int b2), (3, .int y3), (4, .int b4)]) C [0, 1, 2, 3] rfl ?_
      exact HK y3 y5 hf
    · refine G_aload_n (pc' := 44) C dX0_isApart_43 0 rfl rfl ?_
      refine G_get (pc' := 47) C wD_11 rfl 3 (by decide) rfl iu_X0_isApart_X0 lk_X0_isApart_21 dX0_isApart_44 rfl ?_
      refine G_iload (pc' := 49) C dX0_isApart_47 4 rfl rfl ?_
      refine G_iald (pc' := 50) C wD_15 dX0_isApart_49 rfl hf (fun v4 hf => ?_)
      refine G_iload_n (pc' := 51) C dX0_isApart_50 2 rfl rfl ?_
      refine G_iand (pc' := 52) C dX0_isApart_51 rfl ?_
      refine G_if_eq (tgt := 65) (pc' := 55) C dX0_isApart_52 (by decide) rfl hf (fun hf => ?_) (fun hf => ?_)
      · refine G_iincL (v := y5 + (1 : Int32)) (pc' := 68) C dX0_isApart_65 4 rfl rfl (by decide) [1, 2, 3, 4, 0] (fun x5 => [(0, .ref (za ω 11)), (2, .int b2), (3, .int y3), (4, .int b4), (5, .int x5)]) (fun _ => rfl) rfl hf (fun x5 hf => ?_)
        refine G_goto (pc' := 36) C dX0_isApart_68 (by decide) ?_
        exact ih y3 x5 hf
      · refine G_iload_n (pc' := 56) C dX0_isApart_55 2 rfl rfl ?_
        refine G_aload_n (pc' := 57) C dX0_isApart_56 0 rfl rfl ?_
        refine G_get (pc' := 60) C wD_11 rfl 3 (by decide) rfl iu_X0_isApart_X0 lk_X0_isApart_21 dX0_isApart_57 rfl ?_
        refine G_iload (pc' := 62) C dX0_isApart_60 4 rfl rfl ?_
        refine G_iald (pc' := 63) C wD_15 dX0_isApart_62 rfl hf (fun v6 hf => ?_)
        refine G_ior (pc' := 64) C dX0_isApart_63 rfl ?_
        refine G_nm hf (fun x7 hf => ?_)
        refine G_istore_n (lv' := [(0, .ref (za ω 11)), (2, .int b2), (3, .int x7), (4, .int b4), (5, .int y5)]) (pc' := 65) C dX0_isApart_64 (by decide) [1, 2, 0, 3, 4] rfl rfl ?_
        refine G_iincL (v := y5 + (1 : Int32)) (pc' := 68) C dX0_isApart_65 4 rfl rfl (by decide) [1, 2, 3, 4, 0] (fun x8 => [(0, .ref (za ω 11)), (2, .int b2), (3, .int x7), (4, .int b4), (5, .int x8)]) (fun _ => rfl) rfl hf (fun x8 hf => ?_)
        refine G_goto (pc' := 36) C dX0_isApart_68 (by decide) ?_
        exact ih x7 x8 hf
set_option maxHeartbeats 4000000 in
set_option maxRecDepth 100000 in
theorem w_X0_isApart_26 {ω : ZO} {κ : ZK} {N : Nat} {σ : ZS} {b2 : Int32} {K : Int32 → Int32 → Option (Int32)} {r0 : Int32} (C : CX ω wD κ cX0_isApart wsX0_isApart RX0 (some .boolean) 6 rm_X0_isApart) (hR : zRI ω wD κ (fun v τ => v = r0 ∧ τ = σ)) (HK : ∀ (y3 : Int32) (y4 : Int32), K y3 y4 = some r0 → G ω wD κ 77 [(0, .ref (za ω 11)), (2, .int b2), (3, .int y3)] [] σ) : ∀ (n : Nat) (y3 : Int32) (y4 : Int32), L_X0_isApart_26 N σ b2 K n y3 y4 = some r0 → G ω wD κ 26 [(0, .ref (za ω 11)), (2, .int b2), (3, .int y3), (4, .int y4)] [] σ := by
  intro n
  induction n with
  | zero => intro  y3 y4 hf; exact absurd (show none = some r0 from hf) (fun h => nomatch h)
  | succ n ih =>
    intro y3 y4 hf
    have hf : B_X0_isApart_26 N σ b2 K (L_X0_isApart_26 N σ b2 K n) y3 y4 = some r0 := hf
    unfold B_X0_isApart_26 at hf
    refine G_iload (pc' := 28) C dX0_isApart_26 3 rfl rfl ?_
    refine G_bipush (v := (7 : Int32)) (pc' := 30) C dX0_isApart_28 (by decide) rfl ?_
    refine G_icmp_ge (tgt := 77) (pc' := 33) C dX0_isApart_30 (by decide) rfl hf (fun hf => ?_) (fun hf => ?_)
    · refine G_sub (lv' := [(0, .ref (za ω 11)), (2, .int b2), (3, .int y3)]) C [0, 1, 2] rfl ?_
      exact HK y3 y4 hf
    · refine G_iconst (v := (0 : Int32)) (pc' := 34) C dX0_isApart_33 (by decide) rfl ?_
      refine G_istore (lv' := [(0, .ref (za ω 11)), (2, .int b2), (3, .int y3), (4, .int y4), (5, .int (0 : Int32))]) (pc' := 36) C dX0_isApart_34 (by decide) [1, 2, 3, 4, 0] rfl rfl ?_
      refine w_X0_isApart_36 C hR (fun y9 y10 hf => ?_) N y3 (0 : Int32) hf
      refine G_iincL (v := y4 + (1 : Int32)) (pc' := 74) C dX0_isApart_71 3 rfl rfl (by decide) [1, 2, 3, 0] (fun x11 => [(0, .ref (za ω 11)), (2, .int b2), (3, .int y9), (4, .int x11)]) (fun _ => rfl) rfl hf (fun x11 hf => ?_)
      refine G_goto (pc' := 26) C dX0_isApart_74 (by decide) ?_
      exact ih y9 x11 hf
set_option maxHeartbeats 4000000 in
set_option maxRecDepth 100000 in
theorem c_X0_isApart (ω : ZO) (N : Nat) (σ : ZS) (a1 : Int32) (a2 : Int32) : ZIp ω wD yX0_isApart wsX0_isApart rm_X0_isApart [.ref (za ω 11), .int a1, .int a2] σ (f_X0_isApart N σ a1 a2) := by
  intro r0 hf
  refine ZI.go (cc := cX0_isApart) (maxL := 6) (ret := (some .boolean)) (own := RX0) (lv := [(0, .ref (za ω 11)), (1, .int a1), (2, .int a2)]) (by decide) rfl rfl (Nat.le_of_ble_eq_true rfl) rfl (fun κ C hR => ?_)
  unfold f_X0_isApart at hf
  refine G_iload_n (pc' := 1) C dX0_isApart_0 1 rfl rfl ?_
  refine G_callNp (pc' := 4) C [.int a1] (c_X7_isJudge ω N σ a1) sg_X7_isJudge gX0_isApart_X7_isJudge_n30 lk_X0_isApart_30n lk_X0_isApart_30s lk_X0_isApart_30i ⟨Nat.le_of_ble_eq_true rfl, Nat.le_of_ble_eq_true rfl⟩ rfl rfl (Nat.le_of_ble_eq_true rfl) dX0_isApart_1 rfl hf (fun v1 hf => ?_)
  refine G_if_eq (tgt := 14) (pc' := 7) C dX0_isApart_4 (by decide) rfl hf (fun hf => ?_) (fun hf => ?_)
  · refine G_iconst (v := (1 : Int32)) (pc' := 15) C dX0_isApart_14 (by decide) rfl ?_
    exact G_zret C hR dX0_isApart_15 (by decide) ⟨Option.some.inj hf, rfl⟩
  · refine G_iload_n (pc' := 8) C dX0_isApart_7 2 rfl rfl ?_
    refine G_callNp (pc' := 11) C [.int a2] (c_X7_isJudge ω N σ a2) sg_X7_isJudge gX0_isApart_X7_isJudge_n30 lk_X0_isApart_30n lk_X0_isApart_30s lk_X0_isApart_30i ⟨Nat.le_of_ble_eq_true rfl, Nat.le_of_ble_eq_true rfl⟩ rfl rfl (Nat.le_of_ble_eq_true rfl) dX0_isApart_8 rfl hf (fun v2 hf => ?_)
    refine G_if_ne (tgt := 16) (pc' := 14) C dX0_isApart_11 (by decide) rfl hf (fun hf => ?_) (fun hf => ?_)
    · refine G_iconst (v := (1 : Int32)) (pc' := 15) C dX0_isApart_14 (by decide) rfl ?_
      exact G_zret C hR dX0_isApart_15 (by decide) ⟨Option.some.inj hf, rfl⟩
    · refine G_aload_n (pc' := 17) C dX0_isApart_16 0 rfl rfl ?_
      refine G_get (pc' := 20) C wD_11 rfl 3 (by decide) rfl iu_X0_isApart_X0 lk_X0_isApart_21 dX0_isApart_17 rfl ?_
      refine G_iload_n (pc' := 21) C dX0_isApart_20 1 rfl rfl ?_
      refine G_iald (pc' := 22) C wD_15 dX0_isApart_21 rfl hf (fun v3 hf => ?_)
      refine G_istore_n (lv' := [(0, .ref (za ω 11)), (2, .int a2), (3, .int v3)]) (pc' := 23) C dX0_isApart_22 (by decide) [1, 3, 0] rfl rfl ?_
      refine G_iconst (v := (0 : Int32)) (pc' := 24) C dX0_isApart_23 (by decide) rfl ?_
      refine G_istore (lv' := [(0, .ref (za ω 11)), (2, .int a2), (3, .int v3), (4, .int (0 : Int32))]) (pc' := 26) C dX0_isApart_24 (by decide) [1, 2, 3, 0] rfl rfl ?_
      refine w_X0_isApart_26 C hR (fun y12 y13 hf => ?_) N v3 (0 : Int32) hf
      refine G_aload_n (pc' := 78) C dX0_isApart_77 0 rfl rfl ?_
      refine G_get (pc' := 81) C wD_11 rfl 3 (by decide) rfl iu_X0_isApart_X0 lk_X0_isApart_21 dX0_isApart_78 rfl ?_
      refine G_iload_n (pc' := 82) C dX0_isApart_81 1 rfl rfl ?_
      refine G_iald (pc' := 83) C wD_15 dX0_isApart_82 rfl hf (fun v14 hf => ?_)
      refine G_iload_n (pc' := 84) C dX0_isApart_83 2 rfl rfl ?_
      refine G_iand (pc' := 85) C dX0_isApart_84 rfl ?_
      refine G_if_ne (tgt := 92) (pc' := 88) C dX0_isApart_85 (by decide) rfl hf (fun hf => ?_) (fun hf => ?_)
      · refine G_iconst (v := (1 : Int32)) (pc' := 89) C dX0_isApart_88 (by decide) rfl ?_
        refine G_goto (pc' := 93) C dX0_isApart_89 (by decide) ?_
        exact G_zret C hR dX0_isApart_93 (by decide) ⟨Option.some.inj hf, rfl⟩
      · refine G_iconst (v := (0 : Int32)) (pc' := 93) C dX0_isApart_92 (by decide) rfl ?_
        exact G_zret C hR dX0_isApart_93 (by decide) ⟨Option.some.inj hf, rfl⟩
abbrev rm_X7_asInt : Room := { frames := 0, cells := 0, slots := 0, locals := 0 }
theorem sg_X7_asInt : ZG yX7_asInt wsX7_asInt cX7_asInt 1 (some .int) RX7 1 rm_X7_asInt := ⟨⟨_, rfl⟩, by decide +kernel, rfl, rfl⟩
set_option maxHeartbeats 4000000 in
set_option maxRecDepth 100000 in
theorem c_X7_asInt (ω : ZO) (N : Nat) (σ : ZS) (a0 : Int32) : ZIp ω wD yX7_asInt wsX7_asInt rm_X7_asInt [.int a0] σ (f_X7_asInt N σ a0) := by
  intro r0 hf
  refine ZI.go (cc := cX7_asInt) (maxL := 1) (ret := (some .int)) (own := RX7) (lv := [(0, .int a0)]) (by decide) rfl rfl (Nat.le_of_ble_eq_true rfl) rfl (fun κ C hR => ?_)
  unfold f_X7_asInt at hf
  refine G_iload_n (pc' := 1) C dX7_asInt_0 0 rfl rfl ?_
  refine G_if_eq (tgt := 8) (pc' := 4) C dX7_asInt_1 (by decide) rfl hf (fun hf => ?_) (fun hf => ?_)
  · refine G_iconst (v := (0 : Int32)) (pc' := 9) C dX7_asInt_8 (by decide) rfl ?_
    exact G_iret C hR dX7_asInt_9 ⟨Option.some.inj hf, rfl⟩
  · refine G_iconst (v := (1 : Int32)) (pc' := 5) C dX7_asInt_4 (by decide) rfl ?_
    refine G_goto (pc' := 9) C dX7_asInt_5 (by decide) ?_
    exact G_iret C hR dX7_asInt_9 ⟨Option.some.inj hf, rfl⟩
theorem iu_X7_met_X7 : ∀ w ∈ wsX70, w ∈ wsX7_met := by decide +kernel
theorem lk_X7_met_33 : Cond.fieldLink RX7 33 "PrizeDesk" "panel" "LPrizeDesk$Panel;" ∈ wsX7_met := by decide +kernel
abbrev rm_X7_met : Room := { frames := 4, cells := 0, slots := 0, locals := 90 }
theorem sg_X7_met : ZG yX7_met wsX7_met cX7_met 4 (some .int) RX7 3 rm_X7_met := ⟨⟨_, rfl⟩, by decide +kernel, rfl, rfl⟩
set_option maxHeartbeats 4000000 in
set_option maxRecDepth 100000 in
theorem c_X7_met (ω : ZO) (N : Nat) (σ : ZS) (a1 : Int32) (a2 : Int32) (a3 : Int32) : ZIp ω wD yX7_met wsX7_met rm_X7_met [.ref (za ω 0), .int a1, .int a2, .int a3] σ (f_X7_met N σ a1 a2 a3) := by
  intro r0 hf
  refine ZI.go (cc := cX7_met) (maxL := 4) (ret := (some .int)) (own := RX7) (lv := [(0, .ref (za ω 0)), (1, .int a1), (2, .int a2), (3, .int a3)]) (by decide) rfl rfl (Nat.le_of_ble_eq_true rfl) rfl (fun κ C hR => ?_)
  unfold f_X7_met at hf
  refine G_iload_n (pc' := 1) C dX7_met_0 1 rfl rfl ?_
  refine G_callSp (pc' := 4) C [.int a1] (c_X7_isJudge ω N σ a1) sg_X7_isJudge gX7_met_X7_isJudge ⟨Nat.le_of_ble_eq_true rfl, Nat.le_of_ble_eq_true rfl⟩ rfl rfl (Nat.le_of_ble_eq_true rfl) dX7_met_1 rfl hf (fun v1 hf => ?_)
  refine G_if_eq (tgt := 19) (pc' := 7) C dX7_met_4 (by decide) rfl hf (fun hf => ?_) (fun hf => ?_)
  · refine G_iconst (v := (-1 : Int32)) (pc' := 20) C dX7_met_19 (by decide) rfl ?_
    exact G_iret C hR dX7_met_20 ⟨Option.some.inj hf, rfl⟩
  · refine G_iload_n (pc' := 8) C dX7_met_7 2 rfl rfl ?_
    refine G_callSp (pc' := 11) C [.int a2] (c_X7_isJudge ω N σ a2) sg_X7_isJudge gX7_met_X7_isJudge ⟨Nat.le_of_ble_eq_true rfl, Nat.le_of_ble_eq_true rfl⟩ rfl rfl (Nat.le_of_ble_eq_true rfl) dX7_met_8 rfl hf (fun v2 hf => ?_)
    refine G_if_eq (tgt := 19) (pc' := 14) C dX7_met_11 (by decide) rfl hf (fun hf => ?_) (fun hf => ?_)
    · refine G_iconst (v := (-1 : Int32)) (pc' := 20) C dX7_met_19 (by decide) rfl ?_
      exact G_iret C hR dX7_met_20 ⟨Option.some.inj hf, rfl⟩
    · refine G_iload_n (pc' := 15) C dX7_met_14 1 rfl rfl ?_
      refine G_iload_n (pc' := 16) C dX7_met_15 2 rfl rfl ?_
      refine G_icmp_ne (tgt := 21) (pc' := 19) C dX7_met_16 (by decide) rfl hf (fun hf => ?_) (fun hf => ?_)
      · refine G_iconst (v := (-1 : Int32)) (pc' := 20) C dX7_met_19 (by decide) rfl ?_
        exact G_iret C hR dX7_met_20 ⟨Option.some.inj hf, rfl⟩
      · refine G_iload_n (pc' := 22) C dX7_met_21 3 rfl rfl ?_
        by_cases hk0 : a3 = (0 : Int32)
        · rw [if_pos hk0] at hf
          refine G_tIn (k := (0 : Int32)) (off := 26) (tgt := 48) C hk0 dX7_met_22 (by decide) (by decide) (by decide +kernel) (by decide) ?_
          refine G_aload_n (pc' := 49) C dX7_met_48 0 rfl rfl ?_
          refine G_get (pc' := 52) C wD_0 rfl 3 (by decide) rfl iu_X7_met_X7 lk_X7_met_33 dX7_met_49 rfl ?_
          refine G_iload_n (pc' := 53) C dX7_met_52 1 rfl rfl ?_
          refine G_iload_n (pc' := 54) C dX7_met_53 2 rfl rfl ?_
          refine G_callVp (pc' := 57) C [.int a1, .int a2] (c_X0_sharedBooks ω N σ a1 a2) sg_X0_sharedBooks gX7_met_X0_sharedBooks wD_11 rfl ⟨Nat.le_of_ble_eq_true rfl, Nat.le_of_ble_eq_true rfl⟩ rfl rfl (Nat.le_of_ble_eq_true rfl) dX7_met_54 rfl hf (fun v3 hf => ?_)
          refine G_callSp (pc' := 60) C [.int v3] (c_J6_bitCount_0f7a4 ω N σ v3) sg_J6_bitCount_0f7a4 gX7_met_J6_bitCount_0f7a4 ⟨Nat.le_of_ble_eq_true rfl, Nat.le_of_ble_eq_true rfl⟩ rfl rfl (Nat.le_of_ble_eq_true rfl) dX7_met_57 rfl hf (fun v4 hf => ?_)
          exact G_iret C hR dX7_met_60 ⟨Option.some.inj hf, rfl⟩
        rw [if_neg hk0] at hf
        by_cases hk1 : a3 = (1 : Int32)
        · rw [if_pos hk1] at hf
          refine G_tIn (k := (1 : Int32)) (off := 39) (tgt := 61) C hk1 dX7_met_22 (by decide) (by decide) (by decide +kernel) (by decide) ?_
          refine G_aload_n (pc' := 62) C dX7_met_61 0 rfl rfl ?_
          refine G_get (pc' := 65) C wD_0 rfl 3 (by decide) rfl iu_X7_met_X7 lk_X7_met_33 dX7_met_62 rfl ?_
          refine G_iload_n (pc' := 66) C dX7_met_65 1 rfl rfl ?_
          refine G_iload_n (pc' := 67) C dX7_met_66 2 rfl rfl ?_
          refine G_callVp (pc' := 70) C [.int a1, .int a2] (c_X0_sumAbove ω N σ a1 a2) sg_X0_sumAbove gX7_met_X0_sumAbove wD_11 rfl ⟨Nat.le_of_ble_eq_true rfl, Nat.le_of_ble_eq_true rfl⟩ rfl rfl (Nat.le_of_ble_eq_true rfl) dX7_met_67 rfl hf (fun v5 hf => ?_)
          exact G_iret C hR dX7_met_70 ⟨Option.some.inj hf, rfl⟩
        rw [if_neg hk1] at hf
        by_cases hk2 : a3 = (2 : Int32)
        · rw [if_pos hk2] at hf
          refine G_tIn (k := (2 : Int32)) (off := 49) (tgt := 71) C hk2 dX7_met_22 (by decide) (by decide) (by decide +kernel) (by decide) ?_
          refine G_aload_n (pc' := 72) C dX7_met_71 0 rfl rfl ?_
          refine G_get (pc' := 75) C wD_0 rfl 3 (by decide) rfl iu_X7_met_X7 lk_X7_met_33 dX7_met_72 rfl ?_
          refine G_iload_n (pc' := 76) C dX7_met_75 1 rfl rfl ?_
          refine G_iload_n (pc' := 77) C dX7_met_76 2 rfl rfl ?_
          refine G_callVp (pc' := 80) C [.int a1, .int a2] (c_X0_isApart ω N σ a1 a2) sg_X0_isApart gX7_met_X0_isApart wD_11 rfl ⟨Nat.le_of_ble_eq_true rfl, Nat.le_of_ble_eq_true rfl⟩ rfl rfl (Nat.le_of_ble_eq_true rfl) dX7_met_77 rfl hf (fun v6 hf => ?_)
          refine G_callSp (pc' := 83) C [.int v6] (c_X7_asInt ω N σ v6) sg_X7_asInt gX7_met_X7_asInt ⟨Nat.le_of_ble_eq_true rfl, Nat.le_of_ble_eq_true rfl⟩ rfl rfl (Nat.le_of_ble_eq_true rfl) dX7_met_80 rfl hf (fun v7 hf => ?_)
          exact G_iret C hR dX7_met_83 ⟨Option.some.inj hf, rfl⟩
        rw [if_neg hk2] at hf
        have gd : G ω wD κ 84 [(0, .ref (za ω 0)), (1, .int a1), (2, .int a2), (3, .int a3)] [] σ := by
          refine G_iconst (v := (-1 : Int32)) (pc' := 85) C dX7_met_84 (by decide) rfl ?_
          exact G_iret C hR dX7_met_85 ⟨Option.some.inj hf, rfl⟩
        have hn0 := lv_neT hk0 (show ((0 : Int32)).toInt = 0 by decide)
        have hn1 := lv_neT hk1 (show ((1 : Int32)).toInt = 1 by decide)
        have hn2 := lv_neT hk2 (show ((2 : Int32)).toInt = 2 by decide)
        exact G_tOut (tgt := 84) C dX7_met_22 (by omega) (by decide) gd
abbrev rm_X0_marksOn : Room := { frames := 2, cells := 0, slots := 0, locals := 43 }
theorem sg_X0_marksOn : ZG yX0_marksOn wsX0_marksOn cX0_marksOn 4 (some .int) RX0 1 rm_X0_marksOn := ⟨⟨_, rfl⟩, by decide +kernel, rfl, rfl⟩
set_option maxHeartbeats 4000000 in
set_option maxRecDepth 100000 in
theorem w_X0_marksOn_4 {ω : ZO} {κ : ZK} {N : Nat} {σ : ZS} {b1 : Int32} {K : Int32 → Int32 → Option (Int32)} {r0 : Int32} (C : CX ω wD κ cX0_marksOn wsX0_marksOn RX0 (some .int) 4 rm_X0_marksOn) (hR : zRI ω wD κ (fun v τ => v = r0 ∧ τ = σ)) (HK : ∀ (y2 : Int32) (y3 : Int32), K y2 y3 = some r0 → G ω wD κ 28 [(0, .ref (za ω 11)), (2, .int y2)] [] σ) : ∀ (n : Nat) (y2 : Int32) (y3 : Int32), L_X0_marksOn_4 N σ b1 K n y2 y3 = some r0 → G ω wD κ 4 [(0, .ref (za ω 11)), (1, .int b1), (2, .int y2), (3, .int y3)] [] σ := by
  intro n
  induction n with
  | zero => intro  y2 y3 hf; exact absurd (show none = some r0 from hf) (fun h => nomatch h)
  | succ n ih =>
    intro y2 y3 hf
    have hf : B_X0_marksOn_4 N σ b1 K (L_X0_marksOn_4 N σ b1 K n) y2 y3 = some r0 := hf
    unfold B_X0_marksOn_4 at hf
    refine G_iload_n (pc' := 5) C dX0_marksOn_4 3 rfl rfl ?_
    refine G_bipush (v := (7 : Int32)) (pc' := 7) C dX0_marksOn_5 (by decide) rfl ?_
    refine G_icmp_ge (tgt := 28) (pc' := 10) C dX0_marksOn_7 (by decide) rfl hf (fun hf => ?_) (fun hf => ?_)
    · refine G_sub (lv' := [(0, .ref (za ω 11)), (2, .int y2)]) C [0, 2] rfl ?_
      exact HK y2 y3 hf
    · refine G_aload_n (pc' := 11) C dX0_marksOn_10 0 rfl rfl ?_
      refine G_iload_n (pc' := 12) C dX0_marksOn_11 3 rfl rfl ?_
      refine G_iload_n (pc' := 13) C dX0_marksOn_12 1 rfl rfl ?_
      refine G_callVp (pc' := 16) C [.int y3, .int b1] (c_X0_hasMark ω N σ y3 b1) sg_X0_hasMark gX0_marksOn_X0_hasMark wD_11 rfl ⟨Nat.le_of_ble_eq_true rfl, Nat.le_of_ble_eq_true rfl⟩ rfl rfl (Nat.le_of_ble_eq_true rfl) dX0_marksOn_13 rfl hf (fun v1 hf => ?_)
      refine G_if_eq (tgt := 22) (pc' := 19) C dX0_marksOn_16 (by decide) rfl hf (fun hf => ?_) (fun hf => ?_)
      · refine G_iincL (v := y3 + (1 : Int32)) (pc' := 25) C dX0_marksOn_22 3 rfl rfl (by decide) [1, 2, 3, 0] (fun x2 => [(0, .ref (za ω 11)), (1, .int b1), (2, .int y2), (3, .int x2)]) (fun _ => rfl) rfl hf (fun x2 hf => ?_)
        refine G_goto (pc' := 4) C dX0_marksOn_25 (by decide) ?_
        exact ih y2 x2 hf
      · refine G_iincL (v := y2 + (1 : Int32)) (pc' := 22) C dX0_marksOn_19 2 rfl rfl (by decide) [1, 2, 0, 3] (fun x3 => [(0, .ref (za ω 11)), (1, .int b1), (2, .int x3), (3, .int y3)]) (fun _ => rfl) rfl hf (fun x3 hf => ?_)
        refine G_iincL (v := y3 + (1 : Int32)) (pc' := 25) C dX0_marksOn_22 3 rfl rfl (by decide) [1, 2, 3, 0] (fun x4 => [(0, .ref (za ω 11)), (1, .int b1), (2, .int x3), (3, .int x4)]) (fun _ => rfl) rfl hf (fun x4 hf => ?_)
        refine G_goto (pc' := 4) C dX0_marksOn_25 (by decide) ?_
        exact ih x3 x4 hf
set_option maxHeartbeats 4000000 in
set_option maxRecDepth 100000 in
theorem c_X0_marksOn (ω : ZO) (N : Nat) (σ : ZS) (a1 : Int32) : ZIp ω wD yX0_marksOn wsX0_marksOn rm_X0_marksOn [.ref (za ω 11), .int a1] σ (f_X0_marksOn N σ a1) := by
  intro r0 hf
  refine ZI.go (cc := cX0_marksOn) (maxL := 4) (ret := (some .int)) (own := RX0) (lv := [(0, .ref (za ω 11)), (1, .int a1)]) (by decide) rfl rfl (Nat.le_of_ble_eq_true rfl) rfl (fun κ C hR => ?_)
  unfold f_X0_marksOn at hf
  refine G_iconst (v := (0 : Int32)) (pc' := 1) C dX0_marksOn_0 (by decide) rfl ?_
  refine G_istore_n (lv' := [(0, .ref (za ω 11)), (1, .int a1), (2, .int (0 : Int32))]) (pc' := 2) C dX0_marksOn_1 (by decide) [1, 2, 0] rfl rfl ?_
  refine G_iconst (v := (0 : Int32)) (pc' := 3) C dX0_marksOn_2 (by decide) rfl ?_
  refine G_istore_n (lv' := [(0, .ref (za ω 11)), (1, .int a1), (2, .int (0 : Int32)), (3, .int (0 : Int32))]) (pc' := 4) C dX0_marksOn_3 (by decide) [1, 2, 3, 0] rfl rfl ?_
  refine w_X0_marksOn_4 C hR (fun y5 y6 hf => ?_) N (0 : Int32) (0 : Int32) hf
  refine G_iload_n (pc' := 29) C dX0_marksOn_28 1 rfl rfl ?_
  exact G_iret C hR dX0_marksOn_29 ⟨Option.some.inj hf, rfl⟩
theorem lk_X0_areTwoApart_61l : Cond.methodLink RX0 61 Lib.Math.min.name ∈ wsX0_areTwoApart := by decide +kernel
theorem lk_X0_areTwoApart_61s : Cond.static Lib.Math.min.name ∈ wsX0_areTwoApart := by decide +kernel
theorem lk_X0_areTwoApart_61i : Cond.initialized "java/lang/Math" ∈ wsX0_areTwoApart := by decide +kernel
theorem lk_X0_areTwoApart_61c : Cond.code Lib.Math.min.name Lib.Math.min.code 2 (some .int) ∈ wsX0_areTwoApart := by decide +kernel
theorem lk_X0_areTwoApart_56l : Cond.methodLink RX0 56 Lib.Math.max.name ∈ wsX0_areTwoApart := by decide +kernel
theorem lk_X0_areTwoApart_56s : Cond.static Lib.Math.max.name ∈ wsX0_areTwoApart := by decide +kernel
theorem lk_X0_areTwoApart_56i : Cond.initialized "java/lang/Math" ∈ wsX0_areTwoApart := by decide +kernel
theorem lk_X0_areTwoApart_56c : Cond.code Lib.Math.max.name Lib.Math.max.code 2 (some .int) ∈ wsX0_areTwoApart := by decide +kernel
abbrev rm_X0_areTwoApart : Room := { frames := 3, cells := 0, slots := 0, locals := 66 }
theorem sg_X0_areTwoApart : ZG yX0_areTwoApart wsX0_areTwoApart cX0_areTwoApart 6 (some .boolean) RX0 2 rm_X0_areTwoApart := ⟨⟨_, rfl⟩, by decide +kernel, rfl, rfl⟩
set_option maxHeartbeats 4000000 in
set_option maxRecDepth 100000 in
theorem w_X0_areTwoApart_9 {ω : ZO} {κ : ZK} {N : Nat} {σ : ZS} {b1 : Int32} {b2 : Int32} {K : Int32 → Int32 → Int32 → Option (Int32)} {r0 : Int32} (C : CX ω wD κ cX0_areTwoApart wsX0_areTwoApart RX0 (some .boolean) 6 rm_X0_areTwoApart) (hR : zRI ω wD κ (fun v τ => v = r0 ∧ τ = σ)) (HK : ∀ (y3 : Int32) (y4 : Int32) (y5 : Int32), K y3 y4 y5 = some r0 → G ω wD κ 58 [(0, .ref (za ω 11)), (1, .int b1), (2, .int b2), (3, .int y3), (4, .int y4)] [] σ) : ∀ (n : Nat) (y3 : Int32) (y4 : Int32) (y5 : Int32), L_X0_areTwoApart_9 N σ b1 b2 K n y3 y4 y5 = some r0 → G ω wD κ 9 [(0, .ref (za ω 11)), (1, .int b1), (2, .int b2), (3, .int y3), (4, .int y4), (5, .int y5)] [] σ := by
  intro n
  induction n with
  | zero => intro  y3 y4 y5 hf; exact absurd (show none = some r0 from hf) (fun h => nomatch h)
  | succ n ih =>
    intro y3 y4 y5 hf
    have hf : B_X0_areTwoApart_9 N σ b1 b2 K (L_X0_areTwoApart_9 N σ b1 b2 K n) y3 y4 y5 = some r0 := hf
    unfold B_X0_areTwoApart_9 at hf
    refine G_iload (pc' := 11) C dX0_areTwoApart_9 5 rfl rfl ?_
    refine G_bipush (v := (7 : Int32)) (pc' := 13) C dX0_areTwoApart_11 (by decide) rfl ?_
    refine G_icmp_ge (tgt := 58) (pc' := 16) C dX0_areTwoApart_13 (by decide) rfl hf (fun hf => ?_) (fun hf => ?_)
    · refine G_sub (lv' := [(0, .ref (za ω 11)), (1, .int b1), (2, .int b2), (3, .int y3), (4, .int y4)]) C [0, 1, 2, 3, 4] rfl ?_
      exact HK y3 y4 y5 hf
    · refine G_aload_n (pc' := 17) C dX0_areTwoApart_16 0 rfl rfl ?_
      refine G_iload (pc' := 19) C dX0_areTwoApart_17 5 rfl rfl ?_
      refine G_iload_n (pc' := 20) C dX0_areTwoApart_19 1 rfl rfl ?_
      refine G_callVp (pc' := 23) C [.int y5, .int b1] (c_X0_hasMark ω N σ y5 b1) sg_X0_hasMark gX0_areTwoApart_X0_hasMark wD_11 rfl ⟨Nat.le_of_ble_eq_true rfl, Nat.le_of_ble_eq_true rfl⟩ rfl rfl (Nat.le_of_ble_eq_true rfl) dX0_areTwoApart_20 rfl hf (fun v1 hf => ?_)
      refine G_if_eq (tgt := 52) (pc' := 26) C dX0_areTwoApart_23 (by decide) rfl hf (fun hf => ?_) (fun hf => ?_)
      · refine G_iincL (v := y5 + (1 : Int32)) (pc' := 55) C dX0_areTwoApart_52 5 rfl rfl (by decide) [1, 2, 3, 4, 5, 0] (fun x2 => [(0, .ref (za ω 11)), (1, .int b1), (2, .int b2), (3, .int y3), (4, .int y4), (5, .int x2)]) (fun _ => rfl) rfl hf (fun x2 hf => ?_)
        refine G_goto (pc' := 9) C dX0_areTwoApart_55 (by decide) ?_
        exact ih y3 y4 x2 hf
      · refine G_iload_n (pc' := 27) C dX0_areTwoApart_26 3 rfl rfl ?_
        refine G_aload_n (pc' := 28) C dX0_areTwoApart_27 0 rfl rfl ?_
        refine G_iload (pc' := 30) C dX0_areTwoApart_28 5 rfl rfl ?_
        refine G_iload_n (pc' := 31) C dX0_areTwoApart_30 1 rfl rfl ?_
        refine G_callVp (pc' := 34) C [.int y5, .int b1] (c_X0_markOf ω N σ y5 b1) sg_X0_markOf gX0_areTwoApart_X0_markOf wD_11 rfl ⟨Nat.le_of_ble_eq_true rfl, Nat.le_of_ble_eq_true rfl⟩ rfl rfl (Nat.le_of_ble_eq_true rfl) dX0_areTwoApart_31 rfl hf (fun v3 hf => ?_)
        refine G_mmin (pc' := 37) C lk_X0_areTwoApart_61l lk_X0_areTwoApart_61s lk_X0_areTwoApart_61i lk_X0_areTwoApart_61c (by decide) (Nat.le_of_ble_eq_true rfl) dX0_areTwoApart_34 rfl hf (fun v4 hf => ?_)
        refine G_istore_n (lv' := [(0, .ref (za ω 11)), (1, .int b1), (2, .int b2), (3, .int v4), (4, .int y4), (5, .int y5)]) (pc' := 38) C dX0_areTwoApart_37 (by decide) [1, 2, 3, 0, 4, 5] rfl rfl ?_
        refine G_iload (pc' := 40) C dX0_areTwoApart_38 4 rfl rfl ?_
        refine G_aload_n (pc' := 41) C dX0_areTwoApart_40 0 rfl rfl ?_
        refine G_iload (pc' := 43) C dX0_areTwoApart_41 5 rfl rfl ?_
        refine G_iload_n (pc' := 44) C dX0_areTwoApart_43 1 rfl rfl ?_
        refine G_callVp (pc' := 47) C [.int y5, .int b1] (c_X0_markOf ω N σ y5 b1) sg_X0_markOf gX0_areTwoApart_X0_markOf wD_11 rfl ⟨Nat.le_of_ble_eq_true rfl, Nat.le_of_ble_eq_true rfl⟩ rfl rfl (Nat.le_of_ble_eq_true rfl) dX0_areTwoApart_44 rfl hf (fun v5 hf => ?_)
        refine G_mmax (pc' := 50) C lk_X0_areTwoApart_56l lk_X0_areTwoApart_56s lk_X0_areTwoApart_56i lk_X0_areTwoApart_56c (by decide) (Nat.le_of_ble_eq_true rfl) dX0_areTwoApart_47 rfl hf (fun v6 hf => ?_)
        refine G_istore (lv' := [(0, .ref (za ω 11)), (1, .int b1), (2, .int b2), (3, .int v4), (4, .int v6), (5, .int y5)]) (pc' := 52) C dX0_areTwoApart_50 (by decide) [1, 2, 3, 4, 0, 5] rfl rfl ?_
        refine G_iincL (v := y5 + (1 : Int32)) (pc' := 55) C dX0_areTwoApart_52 5 rfl rfl (by decide) [1, 2, 3, 4, 5, 0] (fun x7 => [(0, .ref (za ω 11)), (1, .int b1), (2, .int b2), (3, .int v4), (4, .int v6), (5, .int x7)]) (fun _ => rfl) rfl hf (fun x7 hf => ?_)
        refine G_goto (pc' := 9) C dX0_areTwoApart_55 (by decide) ?_
        exact ih v4 v6 x7 hf
set_option maxHeartbeats 4000000 in
set_option maxRecDepth 100000 in
theorem c_X0_areTwoApart (ω : ZO) (N : Nat) (σ : ZS) (a1 : Int32) (a2 : Int32) : ZIp ω wD yX0_areTwoApart wsX0_areTwoApart rm_X0_areTwoApart [.ref (za ω 11), .int a1, .int a2] σ (f_X0_areTwoApart N σ a1 a2) := by
  intro r0 hf
  refine ZI.go (cc := cX0_areTwoApart) (maxL := 6) (ret := (some .boolean)) (own := RX0) (lv := [(0, .ref (za ω 11)), (1, .int a1), (2, .int a2)]) (by decide) rfl rfl (Nat.le_of_ble_eq_true rfl) rfl (fun κ C hR => ?_)
  unfold f_X0_areTwoApart at hf
  refine G_bipush (v := (100 : Int32)) (pc' := 2) C dX0_areTwoApart_0 (by decide) rfl ?_
  refine G_istore_n (lv' := [(0, .ref (za ω 11)), (1, .int a1), (2, .int a2), (3, .int (100 : Int32))]) (pc' := 3) C dX0_areTwoApart_2 (by decide) [1, 2, 3, 0] rfl rfl ?_
  refine G_iconst (v := (0 : Int32)) (pc' := 4) C dX0_areTwoApart_3 (by decide) rfl ?_
  refine G_istore (lv' := [(0, .ref (za ω 11)), (1, .int a1), (2, .int a2), (3, .int (100 : Int32)), (4, .int (0 : Int32))]) (pc' := 6) C dX0_areTwoApart_4 (by decide) [1, 2, 3, 4, 0] rfl rfl ?_
  refine G_iconst (v := (0 : Int32)) (pc' := 7) C dX0_areTwoApart_6 (by decide) rfl ?_
  refine G_istore (lv' := [(0, .ref (za ω 11)), (1, .int a1), (2, .int a2), (3, .int (100 : Int32)), (4, .int (0 : Int32)), (5, .int (0 : Int32))]) (pc' := 9) C dX0_areTwoApart_7 (by decide) [1, 2, 3, 4, 5, 0] rfl rfl ?_
  refine w_X0_areTwoApart_9 C hR (fun y8 y9 y10 hf => ?_) N (100 : Int32) (0 : Int32) (0 : Int32) hf
  refine G_aload_n (pc' := 59) C dX0_areTwoApart_58 0 rfl rfl ?_
  refine G_iload_n (pc' := 60) C dX0_areTwoApart_59 1 rfl rfl ?_
  refine G_callVp (pc' := 63) C [.int a1] (c_X0_marksOn ω N σ a1) sg_X0_marksOn gX0_areTwoApart_X0_marksOn wD_11 rfl ⟨Nat.le_of_ble_eq_true rfl, Nat.le_of_ble_eq_true rfl⟩ rfl rfl (Nat.le_of_ble_eq_true rfl) dX0_areTwoApart_60 rfl hf (fun v11 hf => ?_)
  refine G_iconst (v := (2 : Int32)) (pc' := 64) C dX0_areTwoApart_63 (by decide) rfl ?_
  refine G_icmp_ne (tgt := 79) (pc' := 67) C dX0_areTwoApart_64 (by decide) rfl hf (fun hf => ?_) (fun hf => ?_)
  · refine G_iload (pc' := 69) C dX0_areTwoApart_67 4 rfl rfl ?_
    refine G_iload_n (pc' := 70) C dX0_areTwoApart_69 3 rfl rfl ?_
    refine G_isub (pc' := 71) C dX0_areTwoApart_70 rfl ?_
    refine G_iload_n (pc' := 72) C dX0_areTwoApart_71 2 rfl rfl ?_
    refine G_icmp_le (tgt := 79) (pc' := 75) C dX0_areTwoApart_72 (by decide) rfl hf (fun hf => ?_) (fun hf => ?_)
    · refine G_iconst (v := (0 : Int32)) (pc' := 80) C dX0_areTwoApart_79 (by decide) rfl ?_
      exact G_zret C hR dX0_areTwoApart_80 (by decide) ⟨Option.some.inj hf, rfl⟩
    · refine G_iconst (v := (1 : Int32)) (pc' := 76) C dX0_areTwoApart_75 (by decide) rfl ?_
      refine G_goto (pc' := 80) C dX0_areTwoApart_76 (by decide) ?_
      exact G_zret C hR dX0_areTwoApart_80 (by decide) ⟨Option.some.inj hf, rfl⟩
  · refine G_iconst (v := (0 : Int32)) (pc' := 80) C dX0_areTwoApart_79 (by decide) rfl ?_
    exact G_zret C hR dX0_areTwoApart_80 (by decide) ⟨Option.some.inj hf, rfl⟩
theorem iu_X7_booksForThird_X7 : ∀ w ∈ wsX70, w ∈ wsX7_booksForThird := by decide +kernel
theorem lk_X7_booksForThird_19 : Cond.fieldLink RX7 19 "PrizeDesk" "ruleBook" "LPrizeDesk$Rules;" ∈ wsX7_booksForThird := by decide +kernel
theorem lk_X7_booksForThird_33 : Cond.fieldLink RX7 33 "PrizeDesk" "panel" "LPrizeDesk$Panel;" ∈ wsX7_booksForThird := by decide +kernel
theorem lk_X7_booksForThird_26 : Cond.fieldLink RX7 26 "PrizeDesk" "shelf" "LPrizeDesk$Shelf;" ∈ wsX7_booksForThird := by decide +kernel
abbrev rm_X7_booksForThird : Room := { frames := 4, cells := 0, slots := 0, locals := 91 }
theorem sg_X7_booksForThird : ZG yX7_booksForThird wsX7_booksForThird cX7_booksForThird 4 (some .int) RX7 0 rm_X7_booksForThird := ⟨⟨_, rfl⟩, by decide +kernel, rfl, rfl⟩
set_option maxHeartbeats 4000000 in
set_option maxRecDepth 100000 in
theorem w_X7_booksForThird_16 {ω : ZO} {κ : ZK} {N : Nat} {σ : ZS} {b1 : Int32} {K : Int32 → Int32 → Option (Int32 × ZS)} {r0 : Int32 × ZS} (C : CX ω wD κ cX7_booksForThird wsX7_booksForThird RX7 (some .int) 4 rm_X7_booksForThird) (hR : zRI ω wD κ (fun v τ => (v, τ) = r0)) (HK : ∀ (y2 : Int32) (y3 : Int32), K y2 y3 = some r0 → G ω wD κ 63 [(0, .ref (za ω 0)), (2, .int y2)] [] σ) : ∀ (n : Nat) (y2 : Int32) (y3 : Int32), L_X7_booksForThird_16 N σ b1 K n y2 y3 = some r0 → G ω wD κ 16 [(0, .ref (za ω 0)), (1, .int b1), (2, .int y2), (3, .int y3)] [] σ := by
  intro n
  induction n with
  | zero => intro  y2 y3 hf; exact absurd (show none = some r0 from hf) (fun h => nomatch h)
  | succ n ih =>
    intro y2 y3 hf
    have hf : B_X7_booksForThird_16 N σ b1 K (L_X7_booksForThird_16 N σ b1 K n) y2 y3 = some r0 := hf
    unfold B_X7_booksForThird_16 at hf
    refine G_iload_n (pc' := 17) C dX7_booksForThird_16 3 rfl rfl ?_
    refine G_bipush (v := (24 : Int32)) (pc' := 19) C dX7_booksForThird_17 (by decide) rfl ?_
    refine G_icmp_ge (tgt := 63) (pc' := 22) C dX7_booksForThird_19 (by decide) rfl hf (fun hf => ?_) (fun hf => ?_)
    · refine G_sub (lv' := [(0, .ref (za ω 0)), (2, .int y2)]) C [0, 2] rfl ?_
      exact HK y2 y3 hf
    · refine G_iload_n (pc' := 23) C dX7_booksForThird_22 1 rfl rfl ?_
      refine G_iload_n (pc' := 24) C dX7_booksForThird_23 3 rfl rfl ?_
      refine G_callSp (pc' := 27) C [.int b1, .int y3] (c_X7_contains ω N σ b1 y3) sg_X7_contains gX7_booksForThird_X7_contains ⟨Nat.le_of_ble_eq_true rfl, Nat.le_of_ble_eq_true rfl⟩ rfl rfl (Nat.le_of_ble_eq_true rfl) dX7_booksForThird_24 rfl hf (fun v3 hf => ?_)
      refine G_if_eq (tgt := 57) (pc' := 30) C dX7_booksForThird_27 (by decide) rfl hf (fun hf => ?_) (fun hf => ?_)
      · refine G_iincL (v := y3 + (1 : Int32)) (pc' := 60) C dX7_booksForThird_57 3 rfl rfl (by decide) [1, 2, 3, 0] (fun x4 => [(0, .ref (za ω 0)), (1, .int b1), (2, .int y2), (3, .int x4)]) (fun _ => rfl) rfl hf (fun x4 hf => ?_)
        refine G_goto (pc' := 16) C dX7_booksForThird_60 (by decide) ?_
        exact ih y2 x4 hf
      · refine G_aload_n (pc' := 31) C dX7_booksForThird_30 0 rfl rfl ?_
        refine G_get (pc' := 34) C wD_0 rfl 3 (by decide) rfl iu_X7_booksForThird_X7 lk_X7_booksForThird_33 dX7_booksForThird_31 rfl ?_
        refine G_iload_n (pc' := 35) C dX7_booksForThird_34 3 rfl rfl ?_
        refine G_aload_n (pc' := 36) C dX7_booksForThird_35 0 rfl rfl ?_
        refine G_get (pc' := 39) C wD_0 rfl 1 (by decide) rfl iu_X7_booksForThird_X7 lk_X7_booksForThird_19 dX7_booksForThird_36 rfl ?_
        refine G_bipush (v := (6 : Int32)) (pc' := 41) C dX7_booksForThird_39 (by decide) rfl ?_
        refine G_callVp (pc' := 44) C [.int (6 : Int32)] (c_X3_number ω N σ (6 : Int32)) sg_X3_number gX7_booksForThird_X3_number wD_3 rfl ⟨Nat.le_of_ble_eq_true rfl, Nat.le_of_ble_eq_true rfl⟩ rfl rfl (Nat.le_of_ble_eq_true rfl) dX7_booksForThird_41 rfl hf (fun v5 hf => ?_)
        refine G_callVp (pc' := 47) C [.int y3, .int v5] (c_X0_areTwoApart ω N σ y3 v5) sg_X0_areTwoApart gX7_booksForThird_X0_areTwoApart wD_11 rfl ⟨Nat.le_of_ble_eq_true rfl, Nat.le_of_ble_eq_true rfl⟩ rfl rfl (Nat.le_of_ble_eq_true rfl) dX7_booksForThird_44 rfl hf (fun v6 hf => ?_)
        refine G_if_eq (tgt := 57) (pc' := 50) C dX7_booksForThird_47 (by decide) rfl hf (fun hf => ?_) (fun hf => ?_)
        · refine G_iincL (v := y3 + (1 : Int32)) (pc' := 60) C dX7_booksForThird_57 3 rfl rfl (by decide) [1, 2, 3, 0] (fun x7 => [(0, .ref (za ω 0)), (1, .int b1), (2, .int y2), (3, .int x7)]) (fun _ => rfl) rfl hf (fun x7 hf => ?_)
          refine G_goto (pc' := 16) C dX7_booksForThird_60 (by decide) ?_
          exact ih y2 x7 hf
        · refine G_iload_n (pc' := 51) C dX7_booksForThird_50 2 rfl rfl ?_
          refine G_iload_n (pc' := 52) C dX7_booksForThird_51 3 rfl rfl ?_
          refine G_callSp (pc' := 55) C [.int y3] (c_X7_bit ω N σ y3) sg_X7_bit gX7_booksForThird_X7_bit ⟨Nat.le_of_ble_eq_true rfl, Nat.le_of_ble_eq_true rfl⟩ rfl rfl (Nat.le_of_ble_eq_true rfl) dX7_booksForThird_52 rfl hf (fun v8 hf => ?_)
          refine G_ior (pc' := 56) C dX7_booksForThird_55 rfl ?_
          refine G_nm hf (fun x9 hf => ?_)
          refine G_istore_n (lv' := [(0, .ref (za ω 0)), (1, .int b1), (2, .int x9), (3, .int y3)]) (pc' := 57) C dX7_booksForThird_56 (by decide) [1, 2, 0, 3] rfl rfl ?_
          refine G_iincL (v := y3 + (1 : Int32)) (pc' := 60) C dX7_booksForThird_57 3 rfl rfl (by decide) [1, 2, 3, 0] (fun x10 => [(0, .ref (za ω 0)), (1, .int b1), (2, .int x9), (3, .int x10)]) (fun _ => rfl) rfl hf (fun x10 hf => ?_)
          refine G_goto (pc' := 16) C dX7_booksForThird_60 (by decide) ?_
          exact ih x9 x10 hf
set_option maxHeartbeats 4000000 in
set_option maxRecDepth 100000 in
theorem c_X7_booksForThird (ω : ZO) (N : Nat) (σ : ZS) : ZIs ω wD yX7_booksForThird wsX7_booksForThird rm_X7_booksForThird [.ref (za ω 0)] σ (f_X7_booksForThird N σ) := by
  intro r0 hf
  refine ZI.go (cc := cX7_booksForThird) (maxL := 4) (ret := (some .int)) (own := RX7) (lv := [(0, .ref (za ω 0))]) (by decide) rfl rfl (Nat.le_of_ble_eq_true rfl) rfl (fun κ C hR => ?_)
  unfold f_X7_booksForThird at hf
  refine G_aload_n (pc' := 1) C dX7_booksForThird_0 0 rfl rfl ?_
  refine G_get (pc' := 4) C wD_0 rfl 2 (by decide) rfl iu_X7_booksForThird_X7 lk_X7_booksForThird_26 dX7_booksForThird_1 rfl ?_
  refine G_aload_n (pc' := 5) C dX7_booksForThird_4 0 rfl rfl ?_
  refine G_get (pc' := 8) C wD_0 rfl 1 (by decide) rfl iu_X7_booksForThird_X7 lk_X7_booksForThird_19 dX7_booksForThird_5 rfl ?_
  refine G_callVt (pc' := 11) C [.ref (za ω 3)] (c_X4_admitted ω N σ) sg_X4_admitted gX7_booksForThird_X4_admitted wD_6 rfl ⟨Nat.le_of_ble_eq_true rfl, Nat.le_of_ble_eq_true rfl⟩ rfl rfl (Nat.le_of_ble_eq_true rfl) dX7_booksForThird_8 rfl hf (fun v2 s1 hf => ?_)
  refine G_istore_n (lv' := [(0, .ref (za ω 0)), (1, .int v2)]) (pc' := 12) C dX7_booksForThird_11 (by decide) [1, 0] rfl rfl ?_
  refine G_iconst (v := (0 : Int32)) (pc' := 13) C dX7_booksForThird_12 (by decide) rfl ?_
  refine G_istore_n (lv' := [(0, .ref (za ω 0)), (1, .int v2), (2, .int (0 : Int32))]) (pc' := 14) C dX7_booksForThird_13 (by decide) [1, 2, 0] rfl rfl ?_
  refine G_iconst (v := (0 : Int32)) (pc' := 15) C dX7_booksForThird_14 (by decide) rfl ?_
  refine G_istore_n (lv' := [(0, .ref (za ω 0)), (1, .int v2), (2, .int (0 : Int32)), (3, .int (0 : Int32))]) (pc' := 16) C dX7_booksForThird_15 (by decide) [1, 2, 3, 0] rfl rfl ?_
  refine w_X7_booksForThird_16 C hR (fun y11 y12 hf => ?_) N (0 : Int32) (0 : Int32) hf
  refine G_iload_n (pc' := 64) C dX7_booksForThird_63 1 rfl rfl ?_
  exact G_iret C hR dX7_booksForThird_64 (Option.some.inj hf)
abbrev rm_X7_nthOf : Room := { frames := 1, cells := 0, slots := 0, locals := 21 }
theorem sg_X7_nthOf : ZG yX7_nthOf wsX7_nthOf cX7_nthOf 4 (some .int) RX7 2 rm_X7_nthOf := ⟨⟨_, rfl⟩, by decide +kernel, rfl, rfl⟩
set_option maxHeartbeats 4000000 in
set_option maxRecDepth 100000 in
theorem w_X7_nthOf_4 {ω : ZO} {κ : ZK} {N : Nat} {σ : ZS} {b0 : Int32} {b1 : Int32} {K : Int32 → Int32 → Option (Int32)} {r0 : Int32} (C : CX ω wD κ cX7_nthOf wsX7_nthOf RX7 (some .int) 4 rm_X7_nthOf) (hR : zRI ω wD κ (fun v τ => v = r0 ∧ τ = σ)) (HK : ∀ (y2 : Int32) (y3 : Int32), K y2 y3 = some r0 → G ω wD κ 34 [] [] σ) : ∀ (n : Nat) (y2 : Int32) (y3 : Int32), L_X7_nthOf_4 N σ b0 b1 K n y2 y3 = some r0 → G ω wD κ 4 [(0, .int b0), (1, .int b1), (2, .int y2), (3, .int y3)] [] σ := by
  intro n
  induction n with
  | zero => intro  y2 y3 hf; exact absurd (show none = some r0 from hf) (fun h => nomatch h)
  | succ n ih =>
    intro y2 y3 hf
    have hf : B_X7_nthOf_4 N σ b0 b1 K (L_X7_nthOf_4 N σ b0 b1 K n) y2 y3 = some r0 := hf
    unfold B_X7_nthOf_4 at hf
    refine G_iload_n (pc' := 5) C dX7_nthOf_4 3 rfl rfl ?_
    refine G_bipush (v := (24 : Int32)) (pc' := 7) C dX7_nthOf_5 (by decide) rfl ?_
    refine G_icmp_ge (tgt := 34) (pc' := 10) C dX7_nthOf_7 (by decide) rfl hf (fun hf => ?_) (fun hf => ?_)
    · refine G_sub (lv' := []) C [] rfl ?_
      exact HK y2 y3 hf
    · refine G_iload_n (pc' := 11) C dX7_nthOf_10 0 rfl rfl ?_
      refine G_iload_n (pc' := 12) C dX7_nthOf_11 3 rfl rfl ?_
      refine G_callSp (pc' := 15) C [.int b0, .int y3] (c_X7_contains ω N σ b0 y3) sg_X7_contains gX7_nthOf_X7_contains ⟨Nat.le_of_ble_eq_true rfl, Nat.le_of_ble_eq_true rfl⟩ rfl rfl (Nat.le_of_ble_eq_true rfl) dX7_nthOf_12 rfl hf (fun v1 hf => ?_)
      refine G_if_eq (tgt := 28) (pc' := 18) C dX7_nthOf_15 (by decide) rfl hf (fun hf => ?_) (fun hf => ?_)
      · refine G_iincL (v := y3 + (1 : Int32)) (pc' := 31) C dX7_nthOf_28 3 rfl rfl (by decide) [1, 2, 3, 0] (fun x2 => [(0, .int b0), (1, .int b1), (2, .int y2), (3, .int x2)]) (fun _ => rfl) rfl hf (fun x2 hf => ?_)
        refine G_goto (pc' := 4) C dX7_nthOf_31 (by decide) ?_
        exact ih y2 x2 hf
      · refine G_iload_n (pc' := 19) C dX7_nthOf_18 2 rfl rfl ?_
        refine G_iload_n (pc' := 20) C dX7_nthOf_19 1 rfl rfl ?_
        refine G_icmp_ne (tgt := 25) (pc' := 23) C dX7_nthOf_20 (by decide) rfl hf (fun hf => ?_) (fun hf => ?_)
        · refine G_iload_n (pc' := 24) C dX7_nthOf_23 3 rfl rfl ?_
          exact G_iret C hR dX7_nthOf_24 ⟨Option.some.inj hf, rfl⟩
        · refine G_iincL (v := y2 + (1 : Int32)) (pc' := 28) C dX7_nthOf_25 2 rfl rfl (by decide) [1, 2, 0, 3] (fun x3 => [(0, .int b0), (1, .int b1), (2, .int x3), (3, .int y3)]) (fun _ => rfl) rfl hf (fun x3 hf => ?_)
          refine G_iincL (v := y3 + (1 : Int32)) (pc' := 31) C dX7_nthOf_28 3 rfl rfl (by decide) [1, 2, 3, 0] (fun x4 => [(0, .int b0), (1, .int b1), (2, .int x3), (3, .int x4)]) (fun _ => rfl) rfl hf (fun x4 hf => ?_)
          refine G_goto (pc' := 4) C dX7_nthOf_31 (by decide) ?_
          exact ih x3 x4 hf
set_option maxHeartbeats 4000000 in
set_option maxRecDepth 100000 in
theorem c_X7_nthOf (ω : ZO) (N : Nat) (σ : ZS) (a0 : Int32) (a1 : Int32) : ZIp ω wD yX7_nthOf wsX7_nthOf rm_X7_nthOf [.int a0, .int a1] σ (f_X7_nthOf N σ a0 a1) := by
  intro r0 hf
  refine ZI.go (cc := cX7_nthOf) (maxL := 4) (ret := (some .int)) (own := RX7) (lv := [(0, .int a0), (1, .int a1)]) (by decide) rfl rfl (Nat.le_of_ble_eq_true rfl) rfl (fun κ C hR => ?_)
  unfold f_X7_nthOf at hf
  refine G_iconst (v := (0 : Int32)) (pc' := 1) C dX7_nthOf_0 (by decide) rfl ?_
  refine G_istore_n (lv' := [(0, .int a0), (1, .int a1), (2, .int (0 : Int32))]) (pc' := 2) C dX7_nthOf_1 (by decide) [1, 2, 0] rfl rfl ?_
  refine G_iconst (v := (0 : Int32)) (pc' := 3) C dX7_nthOf_2 (by decide) rfl ?_
  refine G_istore_n (lv' := [(0, .int a0), (1, .int a1), (2, .int (0 : Int32)), (3, .int (0 : Int32))]) (pc' := 4) C dX7_nthOf_3 (by decide) [1, 2, 3, 0] rfl rfl ?_
  refine w_X7_nthOf_4 C hR (fun y5 y6 hf => ?_) N (0 : Int32) (0 : Int32) hf
  refine G_iconst (v := (-1 : Int32)) (pc' := 35) C dX7_nthOf_34 (by decide) rfl ?_
  exact G_iret C hR dX7_nthOf_35 ⟨Option.some.inj hf, rfl⟩
abbrev rm_X7_third : Room := { frames := 5, cells := 0, slots := 0, locals := 114 }
theorem sg_X7_third : ZG yX7_third wsX7_third cX7_third 2 (some .int) RX7 1 rm_X7_third := ⟨⟨_, rfl⟩, by decide +kernel, rfl, rfl⟩
set_option maxHeartbeats 4000000 in
set_option maxRecDepth 100000 in
theorem c_X7_third (ω : ZO) (N : Nat) (σ : ZS) (a1 : Int32) : ZIs ω wD yX7_third wsX7_third rm_X7_third [.ref (za ω 0), .int a1] σ (f_X7_third N σ a1) := by
  intro r0 hf
  refine ZI.go (cc := cX7_third) (maxL := 2) (ret := (some .int)) (own := RX7) (lv := [(0, .ref (za ω 0)), (1, .int a1)]) (by decide) rfl rfl (Nat.le_of_ble_eq_true rfl) rfl (fun κ C hR => ?_)
  unfold f_X7_third at hf
  refine G_aload_n (pc' := 1) C dX7_third_0 0 rfl rfl ?_
  refine G_callVt (pc' := 4) C [] (c_X7_booksForThird ω N σ) sg_X7_booksForThird gX7_third_X7_booksForThird wD_0 rfl ⟨Nat.le_of_ble_eq_true rfl, Nat.le_of_ble_eq_true rfl⟩ rfl rfl (Nat.le_of_ble_eq_true rfl) dX7_third_1 rfl hf (fun v2 s1 hf => ?_)
  refine G_iload_n (pc' := 5) C dX7_third_4 1 rfl rfl ?_
  refine G_callSp (pc' := 8) C [.int v2, .int a1] (c_X7_nthOf ω N s1 v2 a1) sg_X7_nthOf gX7_third_X7_nthOf ⟨Nat.le_of_ble_eq_true rfl, Nat.le_of_ble_eq_true rfl⟩ rfl rfl (Nat.le_of_ble_eq_true rfl) dX7_third_5 rfl hf (fun v3 hf => ?_)
  exact G_iret C hR dX7_third_8 (Option.some.inj hf)
abbrev rm_X7_isStage : Room := { frames := 1, cells := 0, slots := 0, locals := 22 }
theorem sg_X7_isStage : ZG yX7_isStage wsX7_isStage cX7_isStage 1 (some .boolean) RX7 1 rm_X7_isStage := ⟨⟨_, rfl⟩, by decide +kernel, rfl, rfl⟩
set_option maxHeartbeats 4000000 in
set_option maxRecDepth 100000 in
theorem c_X7_isStage (ω : ZO) (N : Nat) (σ : ZS) (a0 : Int32) : ZIp ω wD yX7_isStage wsX7_isStage rm_X7_isStage [.int a0] σ (f_X7_isStage N σ a0) := by
  intro r0 hf
  refine ZI.go (cc := cX7_isStage) (maxL := 1) (ret := (some .boolean)) (own := RX7) (lv := [(0, .int a0)]) (by decide) rfl rfl (Nat.le_of_ble_eq_true rfl) rfl (fun κ C hR => ?_)
  unfold f_X7_isStage at hf
  refine G_iload_n (pc' := 1) C dX7_isStage_0 0 rfl rfl ?_
  refine G_iconst (v := (0 : Int32)) (pc' := 2) C dX7_isStage_1 (by decide) rfl ?_
  refine G_iconst (v := (1 : Int32)) (pc' := 3) C dX7_isStage_2 (by decide) rfl ?_
  refine G_callSp (pc' := 6) C [.int a0, .int (0 : Int32), .int (1 : Int32)] (c_X7_isWithin ω N σ a0 (0 : Int32) (1 : Int32)) sg_X7_isWithin gX7_isStage_X7_isWithin ⟨Nat.le_of_ble_eq_true rfl, Nat.le_of_ble_eq_true rfl⟩ rfl rfl (Nat.le_of_ble_eq_true rfl) dX7_isStage_3 rfl hf (fun v1 hf => ?_)
  exact G_zret C hR dX7_isStage_6 (g_zr_some hf).1 ⟨Option.some.inj (g_zr_some hf).2, rfl⟩
theorem iu_X7_tapeNamesBooksOnce_X7 : ∀ w ∈ wsX70, w ∈ wsX7_tapeNamesBooksOnce := by decide +kernel
theorem lk_X7_tapeNamesBooksOnce_26 : Cond.fieldLink RX7 26 "PrizeDesk" "shelf" "LPrizeDesk$Shelf;" ∈ wsX7_tapeNamesBooksOnce := by decide +kernel
theorem lk_X7_tapeNamesBooksOnce_10 : Cond.fieldLink RX7 10 "PrizeDesk" "tape" "LPrizeDesk$Tape;" ∈ wsX7_tapeNamesBooksOnce := by decide +kernel
abbrev rm_X7_tapeNamesBooksOnce : Room := { frames := 2, cells := 0, slots := 0, locals := 43 }
theorem sg_X7_tapeNamesBooksOnce : ZG yX7_tapeNamesBooksOnce wsX7_tapeNamesBooksOnce cX7_tapeNamesBooksOnce 4 (some .boolean) RX7 0 rm_X7_tapeNamesBooksOnce := ⟨⟨_, rfl⟩, by decide +kernel, rfl, rfl⟩
set_option maxHeartbeats 4000000 in
set_option maxRecDepth 100000 in
theorem w_X7_tapeNamesBooksOnce_4 {ω : ZO} {κ : ZK} {N : Nat} {σ : ZS} {K : Int32 → Int32 → Option (Int32)} {r0 : Int32} (C : CX ω wD κ cX7_tapeNamesBooksOnce wsX7_tapeNamesBooksOnce RX7 (some .boolean) 4 rm_X7_tapeNamesBooksOnce) (hR : zRI ω wD κ (fun v τ => v = r0 ∧ τ = σ)) (HK : ∀ (y1 : Int32) (y2 : Int32), K y1 y2 = some r0 → G ω wD κ 58 [(0, .ref (za ω 0))] [] σ) : ∀ (n : Nat) (y1 : Int32) (y2 : Int32), L_X7_tapeNamesBooksOnce_4 N σ K n y1 y2 = some r0 → G ω wD κ 4 [(0, .ref (za ω 0)), (1, .int y1), (2, .int y2)] [] σ := by
  intro n
  induction n with
  | zero => intro  y1 y2 hf; exact absurd (show none = some r0 from hf) (fun h => nomatch h)
  | succ n ih =>
    intro y1 y2 hf
    have hf : B_X7_tapeNamesBooksOnce_4 N σ K (L_X7_tapeNamesBooksOnce_4 N σ K n) y1 y2 = some r0 := hf
    unfold B_X7_tapeNamesBooksOnce_4 at hf
    refine G_iload_n (pc' := 5) C dX7_tapeNamesBooksOnce_4 2 rfl rfl ?_
    refine G_aload_n (pc' := 6) C dX7_tapeNamesBooksOnce_5 0 rfl rfl ?_
    refine G_get (pc' := 9) C wD_0 rfl 0 (by decide) rfl iu_X7_tapeNamesBooksOnce_X7 lk_X7_tapeNamesBooksOnce_10 dX7_tapeNamesBooksOnce_6 rfl ?_
    refine G_callVp (pc' := 12) C [] (c_X6_length ω N σ) sg_X6_length gX7_tapeNamesBooksOnce_X6_length wD_1 rfl ⟨Nat.le_of_ble_eq_true rfl, Nat.le_of_ble_eq_true rfl⟩ rfl rfl (Nat.le_of_ble_eq_true rfl) dX7_tapeNamesBooksOnce_9 rfl hf (fun v1 hf => ?_)
    refine G_icmp_ge (tgt := 58) (pc' := 15) C dX7_tapeNamesBooksOnce_12 (by decide) rfl hf (fun hf => ?_) (fun hf => ?_)
    · refine G_sub (lv' := [(0, .ref (za ω 0))]) C [0] rfl ?_
      exact HK y1 y2 hf
    · refine G_aload_n (pc' := 16) C dX7_tapeNamesBooksOnce_15 0 rfl rfl ?_
      refine G_get (pc' := 19) C wD_0 rfl 0 (by decide) rfl iu_X7_tapeNamesBooksOnce_X7 lk_X7_tapeNamesBooksOnce_10 dX7_tapeNamesBooksOnce_16 rfl ?_
      refine G_iload_n (pc' := 20) C dX7_tapeNamesBooksOnce_19 2 rfl rfl ?_
      refine G_callVp (pc' := 23) C [.int y2] (c_X6_byteAt ω N σ y2) sg_X6_byteAt gX7_tapeNamesBooksOnce_X6_byteAt wD_1 rfl ⟨Nat.le_of_ble_eq_true rfl, Nat.le_of_ble_eq_true rfl⟩ rfl rfl (Nat.le_of_ble_eq_true rfl) dX7_tapeNamesBooksOnce_20 rfl hf (fun v2 hf => ?_)
      refine G_istore_n (lv' := [(0, .ref (za ω 0)), (1, .int y1), (2, .int y2), (3, .int v2)]) (pc' := 24) C dX7_tapeNamesBooksOnce_23 (by decide) [1, 2, 3, 0] rfl rfl ?_
      refine G_aload_n (pc' := 25) C dX7_tapeNamesBooksOnce_24 0 rfl rfl ?_
      refine G_get (pc' := 28) C wD_0 rfl 2 (by decide) rfl iu_X7_tapeNamesBooksOnce_X7 lk_X7_tapeNamesBooksOnce_26 dX7_tapeNamesBooksOnce_25 rfl ?_
      refine G_iload_n (pc' := 29) C dX7_tapeNamesBooksOnce_28 3 rfl rfl ?_
      refine G_callVp (pc' := 32) C [.int v2] (c_X4_has ω N σ v2) sg_X4_has gX7_tapeNamesBooksOnce_X4_has wD_6 rfl ⟨Nat.le_of_ble_eq_true rfl, Nat.le_of_ble_eq_true rfl⟩ rfl rfl (Nat.le_of_ble_eq_true rfl) dX7_tapeNamesBooksOnce_29 rfl hf (fun v3 hf => ?_)
      refine G_if_eq (tgt := 43) (pc' := 35) C dX7_tapeNamesBooksOnce_32 (by decide) rfl hf (fun hf => ?_) (fun hf => ?_)
      · refine G_iconst (v := (0 : Int32)) (pc' := 44) C dX7_tapeNamesBooksOnce_43 (by decide) rfl ?_
        exact G_zret C hR dX7_tapeNamesBooksOnce_44 (by decide) ⟨Option.some.inj hf, rfl⟩
      · refine G_iload_n (pc' := 36) C dX7_tapeNamesBooksOnce_35 1 rfl rfl ?_
        refine G_iload_n (pc' := 37) C dX7_tapeNamesBooksOnce_36 3 rfl rfl ?_
        refine G_callSp (pc' := 40) C [.int y1, .int v2] (c_X7_contains ω N σ y1 v2) sg_X7_contains gX7_tapeNamesBooksOnce_X7_contains ⟨Nat.le_of_ble_eq_true rfl, Nat.le_of_ble_eq_true rfl⟩ rfl rfl (Nat.le_of_ble_eq_true rfl) dX7_tapeNamesBooksOnce_37 rfl hf (fun v4 hf => ?_)
        refine G_if_eq (tgt := 45) (pc' := 43) C dX7_tapeNamesBooksOnce_40 (by decide) rfl hf (fun hf => ?_) (fun hf => ?_)
        · refine G_iload_n (pc' := 46) C dX7_tapeNamesBooksOnce_45 1 rfl rfl ?_
          refine G_iload_n (pc' := 47) C dX7_tapeNamesBooksOnce_46 3 rfl rfl ?_
          refine G_callSp (pc' := 50) C [.int v2] (c_X7_bit ω N σ v2) sg_X7_bit gX7_tapeNamesBooksOnce_X7_bit ⟨Nat.le_of_ble_eq_true rfl, Nat.le_of_ble_eq_true rfl⟩ rfl rfl (Nat.le_of_ble_eq_true rfl) dX7_tapeNamesBooksOnce_47 rfl hf (fun v5 hf => ?_)
          refine G_ior (pc' := 51) C dX7_tapeNamesBooksOnce_50 rfl ?_
          refine G_nm hf (fun x6 hf => ?_)
          refine G_istore_n (lv' := [(0, .ref (za ω 0)), (1, .int x6), (2, .int y2)]) (pc' := 52) C dX7_tapeNamesBooksOnce_51 (by decide) [1, 0, 2] rfl rfl ?_
          refine G_iincL (v := y2 + (1 : Int32)) (pc' := 55) C dX7_tapeNamesBooksOnce_52 2 rfl rfl (by decide) [1, 2, 0] (fun x7 => [(0, .ref (za ω 0)), (1, .int x6), (2, .int x7)]) (fun _ => rfl) rfl hf (fun x7 hf => ?_)
          refine G_goto (pc' := 4) C dX7_tapeNamesBooksOnce_55 (by decide) ?_
          exact ih x6 x7 hf
        · refine G_iconst (v := (0 : Int32)) (pc' := 44) C dX7_tapeNamesBooksOnce_43 (by decide) rfl ?_
          exact G_zret C hR dX7_tapeNamesBooksOnce_44 (by decide) ⟨Option.some.inj hf, rfl⟩
set_option maxHeartbeats 4000000 in
set_option maxRecDepth 100000 in
theorem c_X7_tapeNamesBooksOnce (ω : ZO) (N : Nat) (σ : ZS) : ZIp ω wD yX7_tapeNamesBooksOnce wsX7_tapeNamesBooksOnce rm_X7_tapeNamesBooksOnce [.ref (za ω 0)] σ (f_X7_tapeNamesBooksOnce N σ) := by
  intro r0 hf
  refine ZI.go (cc := cX7_tapeNamesBooksOnce) (maxL := 4) (ret := (some .boolean)) (own := RX7) (lv := [(0, .ref (za ω 0))]) (by decide) rfl rfl (Nat.le_of_ble_eq_true rfl) rfl (fun κ C hR => ?_)
  unfold f_X7_tapeNamesBooksOnce at hf
  refine G_iconst (v := (0 : Int32)) (pc' := 1) C dX7_tapeNamesBooksOnce_0 (by decide) rfl ?_
  refine G_istore_n (lv' := [(0, .ref (za ω 0)), (1, .int (0 : Int32))]) (pc' := 2) C dX7_tapeNamesBooksOnce_1 (by decide) [1, 0] rfl rfl ?_
  refine G_iconst (v := (0 : Int32)) (pc' := 3) C dX7_tapeNamesBooksOnce_2 (by decide) rfl ?_
  refine G_istore_n (lv' := [(0, .ref (za ω 0)), (1, .int (0 : Int32)), (2, .int (0 : Int32))]) (pc' := 4) C dX7_tapeNamesBooksOnce_3 (by decide) [1, 2, 0] rfl rfl ?_
  refine w_X7_tapeNamesBooksOnce_4 C hR (fun y8 y9 hf => ?_) N (0 : Int32) (0 : Int32) hf
  refine G_iconst (v := (1 : Int32)) (pc' := 59) C dX7_tapeNamesBooksOnce_58 (by decide) rfl ?_
  exact G_zret C hR dX7_tapeNamesBooksOnce_59 (by decide) ⟨Option.some.inj hf, rfl⟩
theorem lk_X1_take_22n : Cond.methodLinkNest RX1 22 yX7_isJudge RX7 ∈ zNws := by decide +kernel
theorem lk_X1_take_22s : Cond.static yX7_isJudge ∈ wsX1_take := by decide +kernel
theorem lk_X1_take_22i : Cond.initialized yX7_isJudge.cls ∈ wsX1_take := by decide +kernel
theorem iu_X1_take_X1 : ∀ w ∈ wsX10, w ∈ wsX1_take := by decide +kernel
theorem lk_X1_take_15 : Cond.fieldLink RX1 15 "PrizeDesk$Poll" "books" "[I" ∈ wsX1_take := by decide +kernel
theorem lk_X1_take_9 : Cond.fieldLink RX1 9 "PrizeDesk$Poll" "days" "[I" ∈ wsX1_take := by decide +kernel
abbrev rm_X1_take_18_1 : Room := { frames := 2, cells := 0, slots := 0, locals := 43 }
theorem sg_X1_take_18_1 : ZG yX1_take wsX1_take cX1_take 5 none RX1 3 rm_X1_take_18_1 := ⟨⟨_, rfl⟩, by decide +kernel, rfl, rfl⟩
set_option maxHeartbeats 4000000 in
set_option maxRecDepth 100000 in
theorem w_X1_take_18_1_18 {ω : ZO} {κ : ZK} {N : Nat} {b1 : Int32} {K : Int32 → ZS → Option (ZS)} {r0 : ZS} (C : CX ω wD κ cX1_take wsX1_take RX1 none 5 rm_X1_take_18_1) (hR : zRV ω wD κ (fun τ => τ = r0)) (HK : ∀ (y4 : Int32) (τ : ZS), K y4 τ = some r0 → G ω wD κ 49 [(0, .ref (za ω 18)), (3, .ref (za ω 1))] [] τ) : ∀ (n : Nat) (y4 : Int32) (τ : ZS), L_X1_take_18_1_18 N b1 K n y4 τ = some r0 → G ω wD κ 18 [(0, .ref (za ω 18)), (1, .int b1), (3, .ref (za ω 1)), (4, .int y4)] [] τ := by
  intro n
  induction n with
  | zero => intro  y4 τ hf; exact absurd (show none = some r0 from hf) (fun h => nomatch h)
  | succ n ih =>
    intro y4 τ hf
    have hf : B_X1_take_18_1_18 N b1 K (L_X1_take_18_1_18 N b1 K n) y4 τ = some r0 := hf
    unfold B_X1_take_18_1_18 at hf
    refine G_iload (pc' := 20) C dX1_take_18 3 rfl rfl ?_
    refine G_bipush (v := (12 : Int32)) (pc' := 22) C dX1_take_20 (by decide) rfl ?_
    refine G_icmp_ge (tgt := 49) (pc' := 25) C dX1_take_22 (by decide) rfl hf (fun hf => ?_) (fun hf => ?_)
    · refine G_sub (lv' := [(0, .ref (za ω 18)), (3, .ref (za ω 1))]) C [0, 2] rfl ?_
      exact HK y4 τ hf
    · refine G_aload_n (pc' := 26) C dX1_take_25 0 rfl rfl ?_
      refine G_get (pc' := 29) C wD_18 rfl 1 (by decide) rfl iu_X1_take_X1 lk_X1_take_15 dX1_take_26 rfl ?_
      refine G_iload_n (pc' := 30) C dX1_take_29 1 rfl rfl ?_
      refine G_bipush (v := (12 : Int32)) (pc' := 32) C dX1_take_30 (by decide) rfl ?_
      refine G_imul (pc' := 33) C dX1_take_32 rfl ?_
      refine G_iload (pc' := 35) C dX1_take_33 3 rfl rfl ?_
      refine G_iadd (pc' := 36) C dX1_take_35 rfl ?_
      refine G_aload_n (pc' := 37) C dX1_take_36 2 rfl rfl ?_
      refine G_iload (pc' := 39) C dX1_take_37 3 rfl rfl ?_
      refine G_callVp (pc' := 42) C [.int y4] (c_X6_byteAt ω N τ y4) sg_X6_byteAt gX1_take_X6_byteAt wD_1 rfl ⟨Nat.le_of_ble_eq_true rfl, Nat.le_of_ble_eq_true rfl⟩ rfl rfl (Nat.le_of_ble_eq_true rfl) dX1_take_39 rfl hf (fun v3 hf => ?_)
      refine G_iast (pc' := 43) C wD_20 wD_s20 dX1_take_42 rfl hf (fun s4 hf => ?_)
      refine G_iincL (v := y4 + (1 : Int32)) (pc' := 46) C dX1_take_43 3 rfl rfl (by decide) [1, 2, 3, 0] (fun x5 => [(0, .ref (za ω 18)), (1, .int b1), (3, .ref (za ω 1)), (4, .int x5)]) (fun _ => rfl) rfl hf (fun x5 hf => ?_)
      refine G_goto (pc' := 18) C dX1_take_46 (by decide) ?_
      exact ih x5 s4 hf
set_option maxHeartbeats 4000000 in
set_option maxRecDepth 100000 in
theorem c_X1_take_18_1 (ω : ZO) (N : Nat) (σ : ZS) (a1 : Int32) (a2 : Int32) : ZVs ω wD yX1_take wsX1_take rm_X1_take_18_1 [.ref (za ω 18), .int a1, .int a2, .ref (za ω 1)] σ (f_X1_take_18_1 N σ a1 a2) := by
  intro r0 hf
  refine ZV.go (cc := cX1_take) (maxL := 5) (ret := none) (own := RX1) (lv := [(0, .ref (za ω 18)), (1, .int a1), (2, .int a2), (3, .ref (za ω 1))]) (by decide) rfl rfl (Nat.le_of_ble_eq_true rfl) rfl (fun κ C hR => ?_)
  unfold f_X1_take_18_1 at hf
  refine G_iload_n (pc' := 1) C dX1_take_0 1 rfl rfl ?_
  refine G_callNp (pc' := 4) C [.int a1] (c_X7_isJudge ω N σ a1) sg_X7_isJudge gX1_take_X7_isJudge_n22 lk_X1_take_22n lk_X1_take_22s lk_X1_take_22i ⟨Nat.le_of_ble_eq_true rfl, Nat.le_of_ble_eq_true rfl⟩ rfl rfl (Nat.le_of_ble_eq_true rfl) dX1_take_1 rfl hf (fun v1 hf => ?_)
  refine G_if_ne (tgt := 8) (pc' := 7) C dX1_take_4 (by decide) rfl hf (fun hf => ?_) (fun hf => ?_)
  · exact G_vret C hR dX1_take_7 (Option.some.inj hf)
  · refine G_aload_n (pc' := 9) C dX1_take_8 0 rfl rfl ?_
    refine G_get (pc' := 12) C wD_18 rfl 0 (by decide) rfl iu_X1_take_X1 lk_X1_take_9 dX1_take_9 rfl ?_
    refine G_iload_n (pc' := 13) C dX1_take_12 1 rfl rfl ?_
    refine G_iload_n (pc' := 14) C dX1_take_13 2 rfl rfl ?_
    refine G_iast (pc' := 15) C wD_19 wD_s19 dX1_take_14 rfl hf (fun s2 hf => ?_)
    refine G_iconst (v := (0 : Int32)) (pc' := 16) C dX1_take_15 (by decide) rfl ?_
    refine G_istore (lv' := [(0, .ref (za ω 18)), (1, .int a1), (3, .ref (za ω 1)), (4, .int (0 : Int32))]) (pc' := 18) C dX1_take_16 (by decide) [1, 2, 4, 0] rfl rfl ?_
    refine w_X1_take_18_1_18 C hR (fun y6 s7 hf => ?_) N (0 : Int32) s2 hf
    exact G_vret C hR dX1_take_49 (Option.some.inj hf)
abbrev rm_X1_take_21_1 : Room := { frames := 2, cells := 0, slots := 0, locals := 43 }
theorem sg_X1_take_21_1 : ZG yX1_take wsX1_take cX1_take 5 none RX1 3 rm_X1_take_21_1 := ⟨⟨_, rfl⟩, by decide +kernel, rfl, rfl⟩
set_option maxHeartbeats 4000000 in
set_option maxRecDepth 100000 in
theorem w_X1_take_21_1_18 {ω : ZO} {κ : ZK} {N : Nat} {b1 : Int32} {K : Int32 → ZS → Option (ZS)} {r0 : ZS} (C : CX ω wD κ cX1_take wsX1_take RX1 none 5 rm_X1_take_21_1) (hR : zRV ω wD κ (fun τ => τ = r0)) (HK : ∀ (y4 : Int32) (τ : ZS), K y4 τ = some r0 → G ω wD κ 49 [(0, .ref (za ω 21)), (3, .ref (za ω 1))] [] τ) : ∀ (n : Nat) (y4 : Int32) (τ : ZS), L_X1_take_21_1_18 N b1 K n y4 τ = some r0 → G ω wD κ 18 [(0, .ref (za ω 21)), (1, .int b1), (3, .ref (za ω 1)), (4, .int y4)] [] τ := by
  intro n
  induction n with
  | zero => intro  y4 τ hf; exact absurd (show none = some r0 from hf) (fun h => nomatch h)
  | succ n ih =>
    intro y4 τ hf
    have hf : B_X1_take_21_1_18 N b1 K (L_X1_take_21_1_18 N b1 K n) y4 τ = some r0 := hf
    unfold B_X1_take_21_1_18 at hf
    refine G_iload (pc' := 20) C dX1_take_18 3 rfl rfl ?_
    refine G_bipush (v := (12 : Int32)) (pc' := 22) C dX1_take_20 (by decide) rfl ?_
    refine G_icmp_ge (tgt := 49) (pc' := 25) C dX1_take_22 (by decide) rfl hf (fun hf => ?_) (fun hf => ?_)
    · refine G_sub (lv' := [(0, .ref (za ω 21)), (3, .ref (za ω 1))]) C [0, 2] rfl ?_
      exact HK y4 τ hf
    · refine G_aload_n (pc' := 26) C dX1_take_25 0 rfl rfl ?_
      refine G_get (pc' := 29) C wD_21 rfl 1 (by decide) rfl iu_X1_take_X1 lk_X1_take_15 dX1_take_26 rfl ?_
      refine G_iload_n (pc' := 30) C dX1_take_29 1 rfl rfl ?_
      refine G_bipush (v := (12 : Int32)) (pc' := 32) C dX1_take_30 (by decide) rfl ?_
      refine G_imul (pc' := 33) C dX1_take_32 rfl ?_
      refine G_iload (pc' := 35) C dX1_take_33 3 rfl rfl ?_
      refine G_iadd (pc' := 36) C dX1_take_35 rfl ?_
      refine G_aload_n (pc' := 37) C dX1_take_36 2 rfl rfl ?_
      refine G_iload (pc' := 39) C dX1_take_37 3 rfl rfl ?_
      refine G_callVp (pc' := 42) C [.int y4] (c_X6_byteAt ω N τ y4) sg_X6_byteAt gX1_take_X6_byteAt wD_1 rfl ⟨Nat.le_of_ble_eq_true rfl, Nat.le_of_ble_eq_true rfl⟩ rfl rfl (Nat.le_of_ble_eq_true rfl) dX1_take_39 rfl hf (fun v3 hf => ?_)
      refine G_iast (pc' := 43) C wD_23 wD_s23 dX1_take_42 rfl hf (fun s4 hf => ?_)
      refine G_iincL (v := y4 + (1 : Int32)) (pc' := 46) C dX1_take_43 3 rfl rfl (by decide) [1, 2, 3, 0] (fun x5 => [(0, .ref (za ω 21)), (1, .int b1), (3, .ref (za ω 1)), (4, .int x5)]) (fun _ => rfl) rfl hf (fun x5 hf => ?_)
      refine G_goto (pc' := 18) C dX1_take_46 (by decide) ?_
      exact ih x5 s4 hf
set_option maxHeartbeats 4000000 in
set_option maxRecDepth 100000 in
theorem c_X1_take_21_1 (ω : ZO) (N : Nat) (σ : ZS) (a1 : Int32) (a2 : Int32) : ZVs ω wD yX1_take wsX1_take rm_X1_take_21_1 [.ref (za ω 21), .int a1, .int a2, .ref (za ω 1)] σ (f_X1_take_21_1 N σ a1 a2) := by
  intro r0 hf
  refine ZV.go (cc := cX1_take) (maxL := 5) (ret := none) (own := RX1) (lv := [(0, .ref (za ω 21)), (1, .int a1), (2, .int a2), (3, .ref (za ω 1))]) (by decide) rfl rfl (Nat.le_of_ble_eq_true rfl) rfl (fun κ C hR => ?_)
  unfold f_X1_take_21_1 at hf
  refine G_iload_n (pc' := 1) C dX1_take_0 1 rfl rfl ?_
  refine G_callNp (pc' := 4) C [.int a1] (c_X7_isJudge ω N σ a1) sg_X7_isJudge gX1_take_X7_isJudge_n22 lk_X1_take_22n lk_X1_take_22s lk_X1_take_22i ⟨Nat.le_of_ble_eq_true rfl, Nat.le_of_ble_eq_true rfl⟩ rfl rfl (Nat.le_of_ble_eq_true rfl) dX1_take_1 rfl hf (fun v1 hf => ?_)
  refine G_if_ne (tgt := 8) (pc' := 7) C dX1_take_4 (by decide) rfl hf (fun hf => ?_) (fun hf => ?_)
  · exact G_vret C hR dX1_take_7 (Option.some.inj hf)
  · refine G_aload_n (pc' := 9) C dX1_take_8 0 rfl rfl ?_
    refine G_get (pc' := 12) C wD_21 rfl 0 (by decide) rfl iu_X1_take_X1 lk_X1_take_9 dX1_take_9 rfl ?_
    refine G_iload_n (pc' := 13) C dX1_take_12 1 rfl rfl ?_
    refine G_iload_n (pc' := 14) C dX1_take_13 2 rfl rfl ?_
    refine G_iast (pc' := 15) C wD_22 wD_s22 dX1_take_14 rfl hf (fun s2 hf => ?_)
    refine G_iconst (v := (0 : Int32)) (pc' := 16) C dX1_take_15 (by decide) rfl ?_
    refine G_istore (lv' := [(0, .ref (za ω 21)), (1, .int a1), (3, .ref (za ω 1)), (4, .int (0 : Int32))]) (pc' := 18) C dX1_take_16 (by decide) [1, 2, 4, 0] rfl rfl ?_
    refine w_X1_take_21_1_18 C hR (fun y6 s7 hf => ?_) N (0 : Int32) s2 hf
    exact G_vret C hR dX1_take_49 (Option.some.inj hf)
theorem iu_X7_ballot_X7 : ∀ w ∈ wsX70, w ∈ wsX7_ballot := by decide +kernel
theorem lk_X7_ballot_10 : Cond.fieldLink RX7 10 "PrizeDesk" "tape" "LPrizeDesk$Tape;" ∈ wsX7_ballot := by decide +kernel
abbrev rm_X7_ballot : Room := { frames := 3, cells := 0, slots := 0, locals := 67 }
theorem sg_X7_ballot : ZG yX7_ballot wsX7_ballot cX7_ballot 6 (some .boolean) RX7 4 rm_X7_ballot := ⟨⟨_, rfl⟩, by decide +kernel, rfl, rfl⟩
set_option maxHeartbeats 4000000 in
set_option maxRecDepth 100000 in
theorem c_X7_ballot (ω : ZO) (N : Nat) (σ : ZS) (a1 : Int32) (a2 : Int32) (a3 : Int32) (a4 : Int32) : ZIs ω wD yX7_ballot wsX7_ballot rm_X7_ballot [.ref (za ω 0), .int a1, .int a2, .int a3, .int a4] σ (f_X7_ballot N σ a1 a2 a3 a4) := by
  intro r0 hf
  refine ZI.go (cc := cX7_ballot) (maxL := 6) (ret := (some .boolean)) (own := RX7) (lv := [(0, .ref (za ω 0)), (1, .int a1), (2, .int a2), (3, .int a3), (4, .int a4)]) (by decide) rfl rfl (Nat.le_of_ble_eq_true rfl) rfl (fun κ C hR => ?_)
  unfold f_X7_ballot at hf
  refine G_iload_n (pc' := 1) C dX7_ballot_0 1 rfl rfl ?_
  refine G_callSp (pc' := 4) C [.int a1] (c_X7_isJudge ω N σ a1) sg_X7_isJudge gX7_ballot_X7_isJudge ⟨Nat.le_of_ble_eq_true rfl, Nat.le_of_ble_eq_true rfl⟩ rfl rfl (Nat.le_of_ble_eq_true rfl) dX7_ballot_1 rfl hf (fun v1 hf => ?_)
  refine G_if_eq (tgt := 21) (pc' := 7) C dX7_ballot_4 (by decide) rfl hf (fun hf => ?_) (fun hf => ?_)
  · refine G_iconst (v := (0 : Int32)) (pc' := 22) C dX7_ballot_21 (by decide) rfl ?_
    exact G_zret C hR dX7_ballot_22 (by decide) (Option.some.inj hf)
  · refine G_iload_n (pc' := 8) C dX7_ballot_7 2 rfl rfl ?_
    refine G_callSp (pc' := 11) C [.int a2] (c_X7_isStage ω N σ a2) sg_X7_isStage gX7_ballot_X7_isStage ⟨Nat.le_of_ble_eq_true rfl, Nat.le_of_ble_eq_true rfl⟩ rfl rfl (Nat.le_of_ble_eq_true rfl) dX7_ballot_8 rfl hf (fun v2 hf => ?_)
    refine G_if_eq (tgt := 21) (pc' := 14) C dX7_ballot_11 (by decide) rfl hf (fun hf => ?_) (fun hf => ?_)
    · refine G_iconst (v := (0 : Int32)) (pc' := 22) C dX7_ballot_21 (by decide) rfl ?_
      exact G_zret C hR dX7_ballot_22 (by decide) (Option.some.inj hf)
    · refine G_iload_n (pc' := 15) C dX7_ballot_14 3 rfl rfl ?_
      refine G_callSp (pc' := 18) C [.int a3] (c_X7_isDay ω N σ a3) sg_X7_isDay gX7_ballot_X7_isDay ⟨Nat.le_of_ble_eq_true rfl, Nat.le_of_ble_eq_true rfl⟩ rfl rfl (Nat.le_of_ble_eq_true rfl) dX7_ballot_15 rfl hf (fun v3 hf => ?_)
      refine G_if_ne (tgt := 23) (pc' := 21) C dX7_ballot_18 (by decide) rfl hf (fun hf => ?_) (fun hf => ?_)
      · refine G_iconst (v := (0 : Int32)) (pc' := 22) C dX7_ballot_21 (by decide) rfl ?_
        exact G_zret C hR dX7_ballot_22 (by decide) (Option.some.inj hf)
      · refine G_iload (pc' := 25) C dX7_ballot_23 4 rfl rfl ?_
        refine G_iconst (v := (0 : Int32)) (pc' := 26) C dX7_ballot_25 (by decide) rfl ?_
        refine G_bipush (v := (12 : Int32)) (pc' := 28) C dX7_ballot_26 (by decide) rfl ?_
        refine G_callSp (pc' := 31) C [.int a4, .int (0 : Int32), .int (12 : Int32)] (c_X7_isWithin ω N σ a4 (0 : Int32) (12 : Int32)) sg_X7_isWithin gX7_ballot_X7_isWithin ⟨Nat.le_of_ble_eq_true rfl, Nat.le_of_ble_eq_true rfl⟩ rfl rfl (Nat.le_of_ble_eq_true rfl) dX7_ballot_28 rfl hf (fun v4 hf => ?_)
        refine G_if_eq (tgt := 46) (pc' := 34) C dX7_ballot_31 (by decide) rfl hf (fun hf => ?_) (fun hf => ?_)
        · refine G_iconst (v := (0 : Int32)) (pc' := 47) C dX7_ballot_46 (by decide) rfl ?_
          exact G_zret C hR dX7_ballot_47 (by decide) (Option.some.inj hf)
        · refine G_aload_n (pc' := 35) C dX7_ballot_34 0 rfl rfl ?_
          refine G_get (pc' := 38) C wD_0 rfl 0 (by decide) rfl iu_X7_ballot_X7 lk_X7_ballot_10 dX7_ballot_35 rfl ?_
          refine G_iload (pc' := 40) C dX7_ballot_38 4 rfl rfl ?_
          refine G_callVp (pc' := 43) C [.int a4] (c_X6_holds ω N σ a4) sg_X6_holds gX7_ballot_X6_holds wD_1 rfl ⟨Nat.le_of_ble_eq_true rfl, Nat.le_of_ble_eq_true rfl⟩ rfl rfl (Nat.le_of_ble_eq_true rfl) dX7_ballot_40 rfl hf (fun v5 hf => ?_)
          refine G_if_ne (tgt := 48) (pc' := 46) C dX7_ballot_43 (by decide) rfl hf (fun hf => ?_) (fun hf => ?_)
          · refine G_iconst (v := (0 : Int32)) (pc' := 47) C dX7_ballot_46 (by decide) rfl ?_
            exact G_zret C hR dX7_ballot_47 (by decide) (Option.some.inj hf)
          · refine G_aload_n (pc' := 49) C dX7_ballot_48 0 rfl rfl ?_
            refine G_get (pc' := 52) C wD_0 rfl 0 (by decide) rfl iu_X7_ballot_X7 lk_X7_ballot_10 dX7_ballot_49 rfl ?_
            refine G_iload (pc' := 54) C dX7_ballot_52 4 rfl rfl ?_
            refine G_callVv (pc' := 57) C [.int a4] (c_X6_keep ω N σ a4) sg_X6_keep gX7_ballot_X6_keep wD_1 rfl ⟨Nat.le_of_ble_eq_true rfl, Nat.le_of_ble_eq_true rfl⟩ rfl rfl (Nat.le_of_ble_eq_true rfl) dX7_ballot_54 rfl hf (fun s6 hf => ?_)
            refine G_aload_n (pc' := 58) C dX7_ballot_57 0 rfl rfl ?_
            refine G_callVp (pc' := 61) C [] (c_X7_tapeNamesBooksOnce ω N s6) sg_X7_tapeNamesBooksOnce gX7_ballot_X7_tapeNamesBooksOnce wD_0 rfl ⟨Nat.le_of_ble_eq_true rfl, Nat.le_of_ble_eq_true rfl⟩ rfl rfl (Nat.le_of_ble_eq_true rfl) dX7_ballot_58 rfl hf (fun v7 hf => ?_)
            refine G_istore (lv' := [(0, .ref (za ω 0)), (1, .int a1), (2, .int a2), (3, .int a3), (5, .int v7)]) (pc' := 63) C dX7_ballot_61 (by decide) [1, 2, 3, 4, 0] rfl rfl ?_
            refine G_iload (pc' := 65) C dX7_ballot_63 4 rfl rfl ?_
            refine G_if_eq (tgt := 82) (pc' := 68) C dX7_ballot_65 (by decide) rfl hf (fun hf => ?_) (fun hf => ?_)
            · refine G_aload_n (pc' := 83) C dX7_ballot_82 0 rfl rfl ?_
              refine G_get (pc' := 86) C wD_0 rfl 0 (by decide) rfl iu_X7_ballot_X7 lk_X7_ballot_10 dX7_ballot_83 rfl ?_
              refine G_iconst (v := (0 : Int32)) (pc' := 87) C dX7_ballot_86 (by decide) rfl ?_
              refine G_callVv (pc' := 90) C [.int (0 : Int32)] (c_X6_keep ω N s6 (0 : Int32)) sg_X6_keep gX7_ballot_X6_keep wD_1 rfl ⟨Nat.le_of_ble_eq_true rfl, Nat.le_of_ble_eq_true rfl⟩ rfl rfl (Nat.le_of_ble_eq_true rfl) dX7_ballot_87 rfl hf (fun s8 hf => ?_)
              refine G_iload (pc' := 92) C dX7_ballot_90 4 rfl rfl ?_
              exact G_zret C hR dX7_ballot_92 (g_zr_some hf).1 (Option.some.inj (g_zr_some hf).2)
            · refine G_aload_n (pc' := 69) C dX7_ballot_68 0 rfl rfl ?_
              refine G_iload_n (pc' := 70) C dX7_ballot_69 2 rfl rfl ?_
              by_cases hq : a2 = 0
              · rw [if_pos hq] at hf
                refine G_callVr (pc' := 73) C [.int a2] (c_X7_pollOf_a ω s6 a2 hq) sg_X7_pollOf gX7_ballot_X7_pollOf wD_0 rfl ⟨Nat.le_of_ble_eq_true rfl, Nat.le_of_ble_eq_true rfl⟩ rfl rfl (Nat.le_of_ble_eq_true rfl) dX7_ballot_70 rfl ?_
                refine G_iload_n (pc' := 74) C dX7_ballot_73 1 rfl rfl ?_
                refine G_iload_n (pc' := 75) C dX7_ballot_74 3 rfl rfl ?_
                refine G_aload_n (pc' := 76) C dX7_ballot_75 0 rfl rfl ?_
                refine G_get (pc' := 79) C wD_0 rfl 0 (by decide) rfl iu_X7_ballot_X7 lk_X7_ballot_10 dX7_ballot_76 rfl ?_
                refine G_callVv (pc' := 82) C [.int a1, .int a3, .ref (za ω 1)] (c_X1_take_18_1 ω N s6 a1 a3) sg_X1_take_18_1 gX7_ballot_X1_take wD_18 rfl ⟨Nat.le_of_ble_eq_true rfl, Nat.le_of_ble_eq_true rfl⟩ rfl rfl (Nat.le_of_ble_eq_true rfl) dX7_ballot_79 rfl hf (fun s9 hf => ?_)
                refine G_aload_n (pc' := 83) C dX7_ballot_82 0 rfl rfl ?_
                refine G_get (pc' := 86) C wD_0 rfl 0 (by decide) rfl iu_X7_ballot_X7 lk_X7_ballot_10 dX7_ballot_83 rfl ?_
                refine G_iconst (v := (0 : Int32)) (pc' := 87) C dX7_ballot_86 (by decide) rfl ?_
                refine G_callVv (pc' := 90) C [.int (0 : Int32)] (c_X6_keep ω N s9 (0 : Int32)) sg_X6_keep gX7_ballot_X6_keep wD_1 rfl ⟨Nat.le_of_ble_eq_true rfl, Nat.le_of_ble_eq_true rfl⟩ rfl rfl (Nat.le_of_ble_eq_true rfl) dX7_ballot_87 rfl hf (fun s10 hf => ?_)
                refine G_iload (pc' := 92) C dX7_ballot_90 4 rfl rfl ?_
                exact G_zret C hR dX7_ballot_92 (g_zr_some hf).1 (Option.some.inj (g_zr_some hf).2)
              · rw [if_neg hq] at hf
                refine G_callVr (pc' := 73) C [.int a2] (c_X7_pollOf_b ω s6 a2 hq) sg_X7_pollOf gX7_ballot_X7_pollOf wD_0 rfl ⟨Nat.le_of_ble_eq_true rfl, Nat.le_of_ble_eq_true rfl⟩ rfl rfl (Nat.le_of_ble_eq_true rfl) dX7_ballot_70 rfl ?_
                refine G_iload_n (pc' := 74) C dX7_ballot_73 1 rfl rfl ?_
                refine G_iload_n (pc' := 75) C dX7_ballot_74 3 rfl rfl ?_
                refine G_aload_n (pc' := 76) C dX7_ballot_75 0 rfl rfl ?_
                refine G_get (pc' := 79) C wD_0 rfl 0 (by decide) rfl iu_X7_ballot_X7 lk_X7_ballot_10 dX7_ballot_76 rfl ?_
                refine G_callVv (pc' := 82) C [.int a1, .int a3, .ref (za ω 1)] (c_X1_take_21_1 ω N s6 a1 a3) sg_X1_take_21_1 gX7_ballot_X1_take wD_21 rfl ⟨Nat.le_of_ble_eq_true rfl, Nat.le_of_ble_eq_true rfl⟩ rfl rfl (Nat.le_of_ble_eq_true rfl) dX7_ballot_79 rfl hf (fun s11 hf => ?_)
                refine G_aload_n (pc' := 83) C dX7_ballot_82 0 rfl rfl ?_
                refine G_get (pc' := 86) C wD_0 rfl 0 (by decide) rfl iu_X7_ballot_X7 lk_X7_ballot_10 dX7_ballot_83 rfl ?_
                refine G_iconst (v := (0 : Int32)) (pc' := 87) C dX7_ballot_86 (by decide) rfl ?_
                refine G_callVv (pc' := 90) C [.int (0 : Int32)] (c_X6_keep ω N s11 (0 : Int32)) sg_X6_keep gX7_ballot_X6_keep wD_1 rfl ⟨Nat.le_of_ble_eq_true rfl, Nat.le_of_ble_eq_true rfl⟩ rfl rfl (Nat.le_of_ble_eq_true rfl) dX7_ballot_87 rfl hf (fun s12 hf => ?_)
                refine G_iload (pc' := 92) C dX7_ballot_90 4 rfl rfl ?_
                exact G_zret C hR dX7_ballot_92 (g_zr_some hf).1 (Option.some.inj (g_zr_some hf).2)
theorem iu_X1_endOn_X1 : ∀ w ∈ wsX10, w ∈ wsX1_endOn := by decide +kernel
theorem lk_X1_endOn_18 : Cond.fieldLink RX1 18 "PrizeDesk$Poll" "lastDay" "I" ∈ wsX1_endOn := by decide +kernel
abbrev rm_X1_endOn_18 : Room := { frames := 0, cells := 0, slots := 0, locals := 0 }
theorem sg_X1_endOn_18 : ZG yX1_endOn wsX1_endOn cX1_endOn 2 none RX1 1 rm_X1_endOn_18 := ⟨⟨_, rfl⟩, by decide +kernel, rfl, rfl⟩
set_option maxHeartbeats 4000000 in
set_option maxRecDepth 100000 in
theorem c_X1_endOn_18 (ω : ZO) (N : Nat) (σ : ZS) (a1 : Int32) : ZVs ω wD yX1_endOn wsX1_endOn rm_X1_endOn_18 [.ref (za ω 18), .int a1] σ (f_X1_endOn_18 N σ a1) := by
  intro r0 hf
  refine ZV.go (cc := cX1_endOn) (maxL := 2) (ret := none) (own := RX1) (lv := [(0, .ref (za ω 18)), (1, .int a1)]) (by decide) rfl rfl (Nat.le_of_ble_eq_true rfl) rfl (fun κ C hR => ?_)
  unfold f_X1_endOn_18 at hf
  refine G_aload_n (pc' := 1) C dX1_endOn_0 0 rfl rfl ?_
  refine G_iload_n (pc' := 2) C dX1_endOn_1 1 rfl rfl ?_
  refine G_put (pc' := 5) C tyX1 tyX1_ok nmX1 wD_18 rfl 2 (by decide) (Nat.le_of_ble_eq_true rfl) iu_X1_endOn_X1 lk_X1_endOn_18 rfl (by decide +kernel) wD_f18_2 dX1_endOn_2 rfl hf (fun s1 hf => ?_)
  exact G_vret C hR dX1_endOn_5 (Option.some.inj hf)
abbrev rm_X1_endOn_21 : Room := { frames := 0, cells := 0, slots := 0, locals := 0 }
theorem sg_X1_endOn_21 : ZG yX1_endOn wsX1_endOn cX1_endOn 2 none RX1 1 rm_X1_endOn_21 := ⟨⟨_, rfl⟩, by decide +kernel, rfl, rfl⟩
set_option maxHeartbeats 4000000 in
set_option maxRecDepth 100000 in
theorem c_X1_endOn_21 (ω : ZO) (N : Nat) (σ : ZS) (a1 : Int32) : ZVs ω wD yX1_endOn wsX1_endOn rm_X1_endOn_21 [.ref (za ω 21), .int a1] σ (f_X1_endOn_21 N σ a1) := by
  intro r0 hf
  refine ZV.go (cc := cX1_endOn) (maxL := 2) (ret := none) (own := RX1) (lv := [(0, .ref (za ω 21)), (1, .int a1)]) (by decide) rfl rfl (Nat.le_of_ble_eq_true rfl) rfl (fun κ C hR => ?_)
  unfold f_X1_endOn_21 at hf
  refine G_aload_n (pc' := 1) C dX1_endOn_0 0 rfl rfl ?_
  refine G_iload_n (pc' := 2) C dX1_endOn_1 1 rfl rfl ?_
  refine G_put (pc' := 5) C tyX1 tyX1_ok nmX1 wD_21 rfl 2 (by decide) (Nat.le_of_ble_eq_true rfl) iu_X1_endOn_X1 lk_X1_endOn_18 rfl (by decide +kernel) wD_f21_2 dX1_endOn_2 rfl hf (fun s1 hf => ?_)
  exact G_vret C hR dX1_endOn_5 (Option.some.inj hf)
abbrev rm_X7_close : Room := { frames := 2, cells := 0, slots := 0, locals := 42 }
theorem sg_X7_close : ZG yX7_close wsX7_close cX7_close 3 (some .boolean) RX7 2 rm_X7_close := ⟨⟨_, rfl⟩, by decide +kernel, rfl, rfl⟩
set_option maxHeartbeats 4000000 in
set_option maxRecDepth 100000 in
theorem c_X7_close (ω : ZO) (N : Nat) (σ : ZS) (a1 : Int32) (a2 : Int32) : ZIs ω wD yX7_close wsX7_close rm_X7_close [.ref (za ω 0), .int a1, .int a2] σ (f_X7_close N σ a1 a2) := by
  intro r0 hf
  refine ZI.go (cc := cX7_close) (maxL := 3) (ret := (some .boolean)) (own := RX7) (lv := [(0, .ref (za ω 0)), (1, .int a1), (2, .int a2)]) (by decide) rfl rfl (Nat.le_of_ble_eq_true rfl) rfl (fun κ C hR => ?_)
  unfold f_X7_close at hf
  refine G_iload_n (pc' := 1) C dX7_close_0 1 rfl rfl ?_
  refine G_callSp (pc' := 4) C [.int a1] (c_X7_isStage ω N σ a1) sg_X7_isStage gX7_close_X7_isStage ⟨Nat.le_of_ble_eq_true rfl, Nat.le_of_ble_eq_true rfl⟩ rfl rfl (Nat.le_of_ble_eq_true rfl) dX7_close_1 rfl hf (fun v1 hf => ?_)
  refine G_if_eq (tgt := 14) (pc' := 7) C dX7_close_4 (by decide) rfl hf (fun hf => ?_) (fun hf => ?_)
  · refine G_iconst (v := (0 : Int32)) (pc' := 15) C dX7_close_14 (by decide) rfl ?_
    exact G_zret C hR dX7_close_15 (by decide) (Option.some.inj hf)
  · refine G_iload_n (pc' := 8) C dX7_close_7 2 rfl rfl ?_
    refine G_callSp (pc' := 11) C [.int a2] (c_X7_isDay ω N σ a2) sg_X7_isDay gX7_close_X7_isDay ⟨Nat.le_of_ble_eq_true rfl, Nat.le_of_ble_eq_true rfl⟩ rfl rfl (Nat.le_of_ble_eq_true rfl) dX7_close_8 rfl hf (fun v2 hf => ?_)
    refine G_if_ne (tgt := 16) (pc' := 14) C dX7_close_11 (by decide) rfl hf (fun hf => ?_) (fun hf => ?_)
    · refine G_iconst (v := (0 : Int32)) (pc' := 15) C dX7_close_14 (by decide) rfl ?_
      exact G_zret C hR dX7_close_15 (by decide) (Option.some.inj hf)
    · refine G_aload_n (pc' := 17) C dX7_close_16 0 rfl rfl ?_
      refine G_iload_n (pc' := 18) C dX7_close_17 1 rfl rfl ?_
      by_cases hq : a1 = 0
      · rw [if_pos hq] at hf
        refine G_callVr (pc' := 21) C [.int a1] (c_X7_pollOf_a ω σ a1 hq) sg_X7_pollOf gX7_close_X7_pollOf wD_0 rfl ⟨Nat.le_of_ble_eq_true rfl, Nat.le_of_ble_eq_true rfl⟩ rfl rfl (Nat.le_of_ble_eq_true rfl) dX7_close_18 rfl ?_
        refine G_iload_n (pc' := 22) C dX7_close_21 2 rfl rfl ?_
        refine G_callVv (pc' := 25) C [.int a2] (c_X1_endOn_18 ω N σ a2) sg_X1_endOn_18 gX7_close_X1_endOn wD_18 rfl ⟨Nat.le_of_ble_eq_true rfl, Nat.le_of_ble_eq_true rfl⟩ rfl rfl (Nat.le_of_ble_eq_true rfl) dX7_close_22 rfl hf (fun s3 hf => ?_)
        refine G_iconst (v := (1 : Int32)) (pc' := 26) C dX7_close_25 (by decide) rfl ?_
        exact G_zret C hR dX7_close_26 (by decide) (Option.some.inj hf)
      · rw [if_neg hq] at hf
        refine G_callVr (pc' := 21) C [.int a1] (c_X7_pollOf_b ω σ a1 hq) sg_X7_pollOf gX7_close_X7_pollOf wD_0 rfl ⟨Nat.le_of_ble_eq_true rfl, Nat.le_of_ble_eq_true rfl⟩ rfl rfl (Nat.le_of_ble_eq_true rfl) dX7_close_18 rfl ?_
        refine G_iload_n (pc' := 22) C dX7_close_21 2 rfl rfl ?_
        refine G_callVv (pc' := 25) C [.int a2] (c_X1_endOn_21 ω N σ a2) sg_X1_endOn_21 gX7_close_X1_endOn wD_21 rfl ⟨Nat.le_of_ble_eq_true rfl, Nat.le_of_ble_eq_true rfl⟩ rfl rfl (Nat.le_of_ble_eq_true rfl) dX7_close_22 rfl hf (fun s4 hf => ?_)
        refine G_iconst (v := (1 : Int32)) (pc' := 26) C dX7_close_25 (by decide) rfl ?_
        exact G_zret C hR dX7_close_26 (by decide) (Option.some.inj hf)
abbrev rm_X7_isList : Room := { frames := 1, cells := 0, slots := 0, locals := 22 }
theorem sg_X7_isList : ZG yX7_isList wsX7_isList cX7_isList 1 (some .boolean) RX7 1 rm_X7_isList := ⟨⟨_, rfl⟩, by decide +kernel, rfl, rfl⟩
set_option maxHeartbeats 4000000 in
set_option maxRecDepth 100000 in
theorem c_X7_isList (ω : ZO) (N : Nat) (σ : ZS) (a0 : Int32) : ZIp ω wD yX7_isList wsX7_isList rm_X7_isList [.int a0] σ (f_X7_isList N σ a0) := by
  intro r0 hf
  refine ZI.go (cc := cX7_isList) (maxL := 1) (ret := (some .boolean)) (own := RX7) (lv := [(0, .int a0)]) (by decide) rfl rfl (Nat.le_of_ble_eq_true rfl) rfl (fun κ C hR => ?_)
  unfold f_X7_isList at hf
  refine G_iload_n (pc' := 1) C dX7_isList_0 0 rfl rfl ?_
  refine G_iconst (v := (0 : Int32)) (pc' := 2) C dX7_isList_1 (by decide) rfl ?_
  refine G_iconst (v := (2 : Int32)) (pc' := 3) C dX7_isList_2 (by decide) rfl ?_
  refine G_callSp (pc' := 6) C [.int a0, .int (0 : Int32), .int (2 : Int32)] (c_X7_isWithin ω N σ a0 (0 : Int32) (2 : Int32)) sg_X7_isWithin gX7_isList_X7_isWithin ⟨Nat.le_of_ble_eq_true rfl, Nat.le_of_ble_eq_true rfl⟩ rfl rfl (Nat.le_of_ble_eq_true rfl) dX7_isList_3 rfl hf (fun v1 hf => ?_)
  exact G_zret C hR dX7_isList_6 (g_zr_some hf).1 ⟨Option.some.inj (g_zr_some hf).2, rfl⟩
theorem iu_X7_telling_X7 : ∀ w ∈ wsX70, w ∈ wsX7_telling := by decide +kernel
theorem lk_X7_telling_61 : Cond.fieldLink RX7 61 "PrizeDesk" "tellingDays" "[I" ∈ wsX7_telling := by decide +kernel
abbrev rm_X7_telling : Room := { frames := 2, cells := 0, slots := 0, locals := 42 }
theorem sg_X7_telling : ZG yX7_telling wsX7_telling cX7_telling 3 (some .boolean) RX7 2 rm_X7_telling := ⟨⟨_, rfl⟩, by decide +kernel, rfl, rfl⟩
set_option maxHeartbeats 4000000 in
set_option maxRecDepth 100000 in
theorem c_X7_telling (ω : ZO) (N : Nat) (σ : ZS) (a1 : Int32) (a2 : Int32) : ZIs ω wD yX7_telling wsX7_telling rm_X7_telling [.ref (za ω 0), .int a1, .int a2] σ (f_X7_telling N σ a1 a2) := by
  intro r0 hf
  refine ZI.go (cc := cX7_telling) (maxL := 3) (ret := (some .boolean)) (own := RX7) (lv := [(0, .ref (za ω 0)), (1, .int a1), (2, .int a2)]) (by decide) rfl rfl (Nat.le_of_ble_eq_true rfl) rfl (fun κ C hR => ?_)
  unfold f_X7_telling at hf
  refine G_iload_n (pc' := 1) C dX7_telling_0 1 rfl rfl ?_
  refine G_callSp (pc' := 4) C [.int a1] (c_X7_isList ω N σ a1) sg_X7_isList gX7_telling_X7_isList ⟨Nat.le_of_ble_eq_true rfl, Nat.le_of_ble_eq_true rfl⟩ rfl rfl (Nat.le_of_ble_eq_true rfl) dX7_telling_1 rfl hf (fun v1 hf => ?_)
  refine G_if_eq (tgt := 14) (pc' := 7) C dX7_telling_4 (by decide) rfl hf (fun hf => ?_) (fun hf => ?_)
  · refine G_iconst (v := (0 : Int32)) (pc' := 15) C dX7_telling_14 (by decide) rfl ?_
    exact G_zret C hR dX7_telling_15 (by decide) (Option.some.inj hf)
  · refine G_iload_n (pc' := 8) C dX7_telling_7 2 rfl rfl ?_
    refine G_callSp (pc' := 11) C [.int a2] (c_X7_isDay ω N σ a2) sg_X7_isDay gX7_telling_X7_isDay ⟨Nat.le_of_ble_eq_true rfl, Nat.le_of_ble_eq_true rfl⟩ rfl rfl (Nat.le_of_ble_eq_true rfl) dX7_telling_8 rfl hf (fun v2 hf => ?_)
    refine G_if_ne (tgt := 16) (pc' := 14) C dX7_telling_11 (by decide) rfl hf (fun hf => ?_) (fun hf => ?_)
    · refine G_iconst (v := (0 : Int32)) (pc' := 15) C dX7_telling_14 (by decide) rfl ?_
      exact G_zret C hR dX7_telling_15 (by decide) (Option.some.inj hf)
    · refine G_aload_n (pc' := 17) C dX7_telling_16 0 rfl rfl ?_
      refine G_get (pc' := 20) C wD_0 rfl 8 (by decide) rfl iu_X7_telling_X7 lk_X7_telling_61 dX7_telling_17 rfl ?_
      refine G_iload_n (pc' := 21) C dX7_telling_20 1 rfl rfl ?_
      refine G_iload_n (pc' := 22) C dX7_telling_21 2 rfl rfl ?_
      refine G_iast (pc' := 23) C wD_35 wD_s35 dX7_telling_22 rfl hf (fun s3 hf => ?_)
      refine G_iconst (v := (1 : Int32)) (pc' := 24) C dX7_telling_23 (by decide) rfl ?_
      exact G_zret C hR dX7_telling_24 (by decide) (Option.some.inj hf)
theorem iu_X7_mayKnow_X7 : ∀ w ∈ wsX70, w ∈ wsX7_mayKnow := by decide +kernel
theorem lk_X7_mayKnow_61 : Cond.fieldLink RX7 61 "PrizeDesk" "tellingDays" "[I" ∈ wsX7_mayKnow := by decide +kernel
abbrev rm_X7_mayKnow : Room := { frames := 2, cells := 0, slots := 0, locals := 42 }
theorem sg_X7_mayKnow : ZG yX7_mayKnow wsX7_mayKnow cX7_mayKnow 4 (some .boolean) RX7 3 rm_X7_mayKnow := ⟨⟨_, rfl⟩, by decide +kernel, rfl, rfl⟩
set_option maxHeartbeats 4000000 in
set_option maxRecDepth 100000 in
theorem c_X7_mayKnow (ω : ZO) (N : Nat) (σ : ZS) (a1 : Int32) (a2 : Int32) (a3 : Int32) : ZIp ω wD yX7_mayKnow wsX7_mayKnow rm_X7_mayKnow [.ref (za ω 0), .int a1, .int a2, .int a3] σ (f_X7_mayKnow N σ a1 a2 a3) := by
  intro r0 hf
  refine ZI.go (cc := cX7_mayKnow) (maxL := 4) (ret := (some .boolean)) (own := RX7) (lv := [(0, .ref (za ω 0)), (1, .int a1), (2, .int a2), (3, .int a3)]) (by decide) rfl rfl (Nat.le_of_ble_eq_true rfl) rfl (fun κ C hR => ?_)
  unfold f_X7_mayKnow at hf
  refine G_iload_n (pc' := 1) C dX7_mayKnow_0 1 rfl rfl ?_
  refine G_if_eq (tgt := 15) (pc' := 4) C dX7_mayKnow_1 (by decide) rfl hf (fun hf => ?_) (fun hf => ?_)
  · refine G_iconst (v := (1 : Int32)) (pc' := 16) C dX7_mayKnow_15 (by decide) rfl ?_
    exact G_zret C hR dX7_mayKnow_16 (by decide) ⟨Option.some.inj hf, rfl⟩
  · refine G_iload_n (pc' := 5) C dX7_mayKnow_4 3 rfl rfl ?_
    refine G_if_ne (tgt := 17) (pc' := 8) C dX7_mayKnow_5 (by decide) rfl hf (fun hf => ?_) (fun hf => ?_)
    · refine G_iload_n (pc' := 9) C dX7_mayKnow_8 1 rfl rfl ?_
      refine G_callSp (pc' := 12) C [.int a1] (c_X7_isJudge ω N σ a1) sg_X7_isJudge gX7_mayKnow_X7_isJudge ⟨Nat.le_of_ble_eq_true rfl, Nat.le_of_ble_eq_true rfl⟩ rfl rfl (Nat.le_of_ble_eq_true rfl) dX7_mayKnow_9 rfl hf (fun v1 hf => ?_)
      refine G_if_eq (tgt := 17) (pc' := 15) C dX7_mayKnow_12 (by decide) rfl hf (fun hf => ?_) (fun hf => ?_)
      · refine G_iload_n (pc' := 18) C dX7_mayKnow_17 3 rfl rfl ?_
        refine G_callSp (pc' := 21) C [.int a3] (c_X7_isList ω N σ a3) sg_X7_isList gX7_mayKnow_X7_isList ⟨Nat.le_of_ble_eq_true rfl, Nat.le_of_ble_eq_true rfl⟩ rfl rfl (Nat.le_of_ble_eq_true rfl) dX7_mayKnow_18 rfl hf (fun v2 hf => ?_)
        refine G_if_eq (tgt := 38) (pc' := 24) C dX7_mayKnow_21 (by decide) rfl hf (fun hf => ?_) (fun hf => ?_)
        · refine G_iconst (v := (0 : Int32)) (pc' := 39) C dX7_mayKnow_38 (by decide) rfl ?_
          exact G_zret C hR dX7_mayKnow_39 (by decide) ⟨Option.some.inj hf, rfl⟩
        · refine G_iload_n (pc' := 25) C dX7_mayKnow_24 2 rfl rfl ?_
          refine G_aload_n (pc' := 26) C dX7_mayKnow_25 0 rfl rfl ?_
          refine G_get (pc' := 29) C wD_0 rfl 8 (by decide) rfl iu_X7_mayKnow_X7 lk_X7_mayKnow_61 dX7_mayKnow_26 rfl ?_
          refine G_iload_n (pc' := 30) C dX7_mayKnow_29 3 rfl rfl ?_
          refine G_iald (pc' := 31) C wD_35 dX7_mayKnow_30 rfl hf (fun v3 hf => ?_)
          refine G_icmp_lt (tgt := 38) (pc' := 34) C dX7_mayKnow_31 (by decide) rfl hf (fun hf => ?_) (fun hf => ?_)
          · refine G_iconst (v := (0 : Int32)) (pc' := 39) C dX7_mayKnow_38 (by decide) rfl ?_
            exact G_zret C hR dX7_mayKnow_39 (by decide) ⟨Option.some.inj hf, rfl⟩
          · refine G_iconst (v := (1 : Int32)) (pc' := 35) C dX7_mayKnow_34 (by decide) rfl ?_
            refine G_goto (pc' := 39) C dX7_mayKnow_35 (by decide) ?_
            exact G_zret C hR dX7_mayKnow_39 (by decide) ⟨Option.some.inj hf, rfl⟩
      · refine G_iconst (v := (1 : Int32)) (pc' := 16) C dX7_mayKnow_15 (by decide) rfl ?_
        exact G_zret C hR dX7_mayKnow_16 (by decide) ⟨Option.some.inj hf, rfl⟩
    · refine G_iload_n (pc' := 18) C dX7_mayKnow_17 3 rfl rfl ?_
      refine G_callSp (pc' := 21) C [.int a3] (c_X7_isList ω N σ a3) sg_X7_isList gX7_mayKnow_X7_isList ⟨Nat.le_of_ble_eq_true rfl, Nat.le_of_ble_eq_true rfl⟩ rfl rfl (Nat.le_of_ble_eq_true rfl) dX7_mayKnow_18 rfl hf (fun v4 hf => ?_)
      refine G_if_eq (tgt := 38) (pc' := 24) C dX7_mayKnow_21 (by decide) rfl hf (fun hf => ?_) (fun hf => ?_)
      · refine G_iconst (v := (0 : Int32)) (pc' := 39) C dX7_mayKnow_38 (by decide) rfl ?_
        exact G_zret C hR dX7_mayKnow_39 (by decide) ⟨Option.some.inj hf, rfl⟩
      · refine G_iload_n (pc' := 25) C dX7_mayKnow_24 2 rfl rfl ?_
        refine G_aload_n (pc' := 26) C dX7_mayKnow_25 0 rfl rfl ?_
        refine G_get (pc' := 29) C wD_0 rfl 8 (by decide) rfl iu_X7_mayKnow_X7 lk_X7_mayKnow_61 dX7_mayKnow_26 rfl ?_
        refine G_iload_n (pc' := 30) C dX7_mayKnow_29 3 rfl rfl ?_
        refine G_iald (pc' := 31) C wD_35 dX7_mayKnow_30 rfl hf (fun v5 hf => ?_)
        refine G_icmp_lt (tgt := 38) (pc' := 34) C dX7_mayKnow_31 (by decide) rfl hf (fun hf => ?_) (fun hf => ?_)
        · refine G_iconst (v := (0 : Int32)) (pc' := 39) C dX7_mayKnow_38 (by decide) rfl ?_
          exact G_zret C hR dX7_mayKnow_39 (by decide) ⟨Option.some.inj hf, rfl⟩
        · refine G_iconst (v := (1 : Int32)) (pc' := 35) C dX7_mayKnow_34 (by decide) rfl ?_
          refine G_goto (pc' := 39) C dX7_mayKnow_35 (by decide) ?_
          exact G_zret C hR dX7_mayKnow_39 (by decide) ⟨Option.some.inj hf, rfl⟩
theorem lk_X0_sumOn_56l : Cond.methodLink RX0 56 Lib.Math.max.name ∈ wsX0_sumOn := by decide +kernel
theorem lk_X0_sumOn_56s : Cond.static Lib.Math.max.name ∈ wsX0_sumOn := by decide +kernel
theorem lk_X0_sumOn_56i : Cond.initialized "java/lang/Math" ∈ wsX0_sumOn := by decide +kernel
theorem lk_X0_sumOn_56c : Cond.code Lib.Math.max.name Lib.Math.max.code 2 (some .int) ∈ wsX0_sumOn := by decide +kernel
abbrev rm_X0_sumOn : Room := { frames := 3, cells := 0, slots := 0, locals := 65 }
theorem sg_X0_sumOn : ZG yX0_sumOn wsX0_sumOn cX0_sumOn 4 (some .int) RX0 1 rm_X0_sumOn := ⟨⟨_, rfl⟩, by decide +kernel, rfl, rfl⟩
set_option maxHeartbeats 4000000 in
set_option maxRecDepth 100000 in
theorem w_X0_sumOn_4 {ω : ZO} {κ : ZK} {N : Nat} {σ : ZS} {b1 : Int32} {K : Int32 → Int32 → Option (Int32)} {r0 : Int32} (C : CX ω wD κ cX0_sumOn wsX0_sumOn RX0 (some .int) 4 rm_X0_sumOn) (hR : zRI ω wD κ (fun v τ => v = r0 ∧ τ = σ)) (HK : ∀ (y2 : Int32) (y3 : Int32), K y2 y3 = some r0 → G ω wD κ 29 [(0, .ref (za ω 11)), (2, .int y2)] [] σ) : ∀ (n : Nat) (y2 : Int32) (y3 : Int32), L_X0_sumOn_4 N σ b1 K n y2 y3 = some r0 → G ω wD κ 4 [(0, .ref (za ω 11)), (1, .int b1), (2, .int y2), (3, .int y3)] [] σ := by
  intro n
  induction n with
  | zero => intro  y2 y3 hf; exact absurd (show none = some r0 from hf) (fun h => nomatch h)
  | succ n ih =>
    intro y2 y3 hf
    have hf : B_X0_sumOn_4 N σ b1 K (L_X0_sumOn_4 N σ b1 K n) y2 y3 = some r0 := hf
    unfold B_X0_sumOn_4 at hf
    refine G_iload_n (pc' := 5) C dX0_sumOn_4 3 rfl rfl ?_
    refine G_bipush (v := (7 : Int32)) (pc' := 7) C dX0_sumOn_5 (by decide) rfl ?_
    refine G_icmp_ge (tgt := 29) (pc' := 10) C dX0_sumOn_7 (by decide) rfl hf (fun hf => ?_) (fun hf => ?_)
    · refine G_sub (lv' := [(0, .ref (za ω 11)), (2, .int y2)]) C [0, 2] rfl ?_
      exact HK y2 y3 hf
    · refine G_iload_n (pc' := 11) C dX0_sumOn_10 2 rfl rfl ?_
      refine G_iconst (v := (0 : Int32)) (pc' := 12) C dX0_sumOn_11 (by decide) rfl ?_
      refine G_aload_n (pc' := 13) C dX0_sumOn_12 0 rfl rfl ?_
      refine G_iload_n (pc' := 14) C dX0_sumOn_13 3 rfl rfl ?_
      refine G_iload_n (pc' := 15) C dX0_sumOn_14 1 rfl rfl ?_
      refine G_callVp (pc' := 18) C [.int y3, .int b1] (c_X0_markOf ω N σ y3 b1) sg_X0_markOf gX0_sumOn_X0_markOf wD_11 rfl ⟨Nat.le_of_ble_eq_true rfl, Nat.le_of_ble_eq_true rfl⟩ rfl rfl (Nat.le_of_ble_eq_true rfl) dX0_sumOn_15 rfl hf (fun v1 hf => ?_)
      refine G_mmax (pc' := 21) C lk_X0_sumOn_56l lk_X0_sumOn_56s lk_X0_sumOn_56i lk_X0_sumOn_56c (by decide) (Nat.le_of_ble_eq_true rfl) dX0_sumOn_18 rfl hf (fun v2 hf => ?_)
      refine G_iadd (pc' := 22) C dX0_sumOn_21 rfl ?_
      refine G_nm hf (fun x3 hf => ?_)
      refine G_istore_n (lv' := [(0, .ref (za ω 11)), (1, .int b1), (2, .int x3), (3, .int y3)]) (pc' := 23) C dX0_sumOn_22 (by decide) [1, 2, 0, 3] rfl rfl ?_
      refine G_iincL (v := y3 + (1 : Int32)) (pc' := 26) C dX0_sumOn_23 3 rfl rfl (by decide) [1, 2, 3, 0] (fun x4 => [(0, .ref (za ω 11)), (1, .int b1), (2, .int x3), (3, .int x4)]) (fun _ => rfl) rfl hf (fun x4 hf => ?_)
      refine G_goto (pc' := 4) C dX0_sumOn_26 (by decide) ?_
      exact ih x3 x4 hf
set_option maxHeartbeats 4000000 in
set_option maxRecDepth 100000 in
theorem c_X0_sumOn (ω : ZO) (N : Nat) (σ : ZS) (a1 : Int32) : ZIp ω wD yX0_sumOn wsX0_sumOn rm_X0_sumOn [.ref (za ω 11), .int a1] σ (f_X0_sumOn N σ a1) := by
  intro r0 hf
  refine ZI.go (cc := cX0_sumOn) (maxL := 4) (ret := (some .int)) (own := RX0) (lv := [(0, .ref (za ω 11)), (1, .int a1)]) (by decide) rfl rfl (Nat.le_of_ble_eq_true rfl) rfl (fun κ C hR => ?_)
  unfold f_X0_sumOn at hf
  refine G_iconst (v := (0 : Int32)) (pc' := 1) C dX0_sumOn_0 (by decide) rfl ?_
  refine G_istore_n (lv' := [(0, .ref (za ω 11)), (1, .int a1), (2, .int (0 : Int32))]) (pc' := 2) C dX0_sumOn_1 (by decide) [1, 2, 0] rfl rfl ?_
  refine G_iconst (v := (0 : Int32)) (pc' := 3) C dX0_sumOn_2 (by decide) rfl ?_
  refine G_istore_n (lv' := [(0, .ref (za ω 11)), (1, .int a1), (2, .int (0 : Int32)), (3, .int (0 : Int32))]) (pc' := 4) C dX0_sumOn_3 (by decide) [1, 2, 3, 0] rfl rfl ?_
  refine w_X0_sumOn_4 C hR (fun y5 y6 hf => ?_) N (0 : Int32) (0 : Int32) hf
  refine G_iload_n (pc' := 30) C dX0_sumOn_29 1 rfl rfl ?_
  exact G_iret C hR dX0_sumOn_30 ⟨Option.some.inj hf, rfl⟩
abbrev rm_X0_standing : Room := { frames := 0, cells := 0, slots := 0, locals := 0 }
theorem sg_X0_standing : ZG yX0_standing wsX0_standing cX0_standing 2 (some .int) RX0 2 rm_X0_standing := ⟨⟨_, rfl⟩, by decide +kernel, rfl, rfl⟩
set_option maxHeartbeats 4000000 in
set_option maxRecDepth 100000 in
theorem c_X0_standing (ω : ZO) (N : Nat) (σ : ZS) (a0 : Int32) (a1 : Int32) : ZIp ω wD yX0_standing wsX0_standing rm_X0_standing [.int a0, .int a1] σ (f_X0_standing N σ a0 a1) := by
  intro r0 hf
  refine ZI.go (cc := cX0_standing) (maxL := 2) (ret := (some .int)) (own := RX0) (lv := [(0, .int a0), (1, .int a1)]) (by decide) rfl rfl (Nat.le_of_ble_eq_true rfl) rfl (fun κ C hR => ?_)
  unfold f_X0_standing at hf
  refine G_iload_n (pc' := 1) C dX0_standing_0 1 rfl rfl ?_
  refine G_iconst (v := (1 : Int32)) (pc' := 2) C dX0_standing_1 (by decide) rfl ?_
  refine G_icmp_ge (tgt := 9) (pc' := 5) C dX0_standing_2 (by decide) rfl hf (fun hf => ?_) (fun hf => ?_)
  · refine G_bipush (v := (8 : Int32)) (pc' := 11) C dX0_standing_9 (by decide) rfl ?_
    refine G_iload_n (pc' := 12) C dX0_standing_11 0 rfl rfl ?_
    refine G_imul (pc' := 13) C dX0_standing_12 rfl ?_
    refine G_sipush (v := (420 : Int32)) (pc' := 16) C dX0_standing_13 (by decide) rfl ?_
    refine G_iload_n (pc' := 17) C dX0_standing_16 1 rfl rfl ?_
    refine G_idiv (pc' := 18) C dX0_standing_17 rfl hf (fun hf => ?_)
    refine G_imul (pc' := 19) C dX0_standing_18 rfl ?_
    refine G_iload_n (pc' := 20) C dX0_standing_19 1 rfl rfl ?_
    refine G_iadd (pc' := 21) C dX0_standing_20 rfl ?_
    exact G_iret C hR dX0_standing_21 ⟨Option.some.inj hf, rfl⟩
  · refine G_iconst (v := (0 : Int32)) (pc' := 6) C dX0_standing_5 (by decide) rfl ?_
    refine G_goto (pc' := 21) C dX0_standing_6 (by decide) ?_
    exact G_iret C hR dX0_standing_21 ⟨Option.some.inj hf, rfl⟩
theorem lk_X2_setKey_22n : Cond.methodLinkNest RX2 22 yX7_isBookNumber RX7 ∈ zNws := by decide +kernel
theorem lk_X2_setKey_22s : Cond.static yX7_isBookNumber ∈ wsX2_setKey := by decide +kernel
theorem lk_X2_setKey_22i : Cond.initialized yX7_isBookNumber.cls ∈ wsX2_setKey := by decide +kernel
theorem iu_X2_setKey_X2 : ∀ w ∈ wsX20, w ∈ wsX2_setKey := by decide +kernel
theorem lk_X2_setKey_9 : Cond.fieldLink RX2 9 "PrizeDesk$Ranking" "keys" "[I" ∈ wsX2_setKey := by decide +kernel
abbrev rm_X2_setKey : Room := { frames := 1, cells := 0, slots := 0, locals := 20 }
theorem sg_X2_setKey : ZG yX2_setKey wsX2_setKey cX2_setKey 3 none RX2 2 rm_X2_setKey := ⟨⟨_, rfl⟩, by decide +kernel, rfl, rfl⟩
set_option maxHeartbeats 4000000 in
set_option maxRecDepth 100000 in
theorem c_X2_setKey (ω : ZO) (N : Nat) (σ : ZS) (a1 : Int32) (a2 : Int32) : ZVs ω wD yX2_setKey wsX2_setKey rm_X2_setKey [.ref (za ω 32), .int a1, .int a2] σ (f_X2_setKey N σ a1 a2) := by
  intro r0 hf
  refine ZV.go (cc := cX2_setKey) (maxL := 3) (ret := none) (own := RX2) (lv := [(0, .ref (za ω 32)), (1, .int a1), (2, .int a2)]) (by decide) rfl rfl (Nat.le_of_ble_eq_true rfl) rfl (fun κ C hR => ?_)
  unfold f_X2_setKey at hf
  refine G_iload_n (pc' := 1) C dX2_setKey_0 1 rfl rfl ?_
  refine G_callNp (pc' := 4) C [.int a1] (c_X7_isBookNumber ω N σ a1) sg_X7_isBookNumber gX2_setKey_X7_isBookNumber_n22 lk_X2_setKey_22n lk_X2_setKey_22s lk_X2_setKey_22i ⟨Nat.le_of_ble_eq_true rfl, Nat.le_of_ble_eq_true rfl⟩ rfl rfl (Nat.le_of_ble_eq_true rfl) dX2_setKey_1 rfl hf (fun v1 hf => ?_)
  refine G_if_eq (tgt := 14) (pc' := 7) C dX2_setKey_4 (by decide) rfl hf (fun hf => ?_) (fun hf => ?_)
  · exact G_vret C hR dX2_setKey_14 (Option.some.inj hf)
  · refine G_aload_n (pc' := 8) C dX2_setKey_7 0 rfl rfl ?_
    refine G_get (pc' := 11) C wD_32 rfl 0 (by decide) rfl iu_X2_setKey_X2 lk_X2_setKey_9 dX2_setKey_8 rfl ?_
    refine G_iload_n (pc' := 12) C dX2_setKey_11 1 rfl rfl ?_
    refine G_iload_n (pc' := 13) C dX2_setKey_12 2 rfl rfl ?_
    refine G_iast (pc' := 14) C wD_33 wD_s33 dX2_setKey_13 rfl hf (fun s2 hf => ?_)
    exact G_vret C hR dX2_setKey_14 (Option.some.inj hf)
theorem lk_X2_firstOf_49n : Cond.methodLinkNest RX2 49 yX7_contains RX7 ∈ zNws := by decide +kernel
theorem lk_X2_firstOf_49s : Cond.static yX7_contains ∈ wsX2_firstOf := by decide +kernel
theorem lk_X2_firstOf_49i : Cond.initialized yX7_contains.cls ∈ wsX2_firstOf := by decide +kernel
theorem iu_X2_firstOf_X2 : ∀ w ∈ wsX20, w ∈ wsX2_firstOf := by decide +kernel
theorem lk_X2_firstOf_9 : Cond.fieldLink RX2 9 "PrizeDesk$Ranking" "keys" "[I" ∈ wsX2_firstOf := by decide +kernel
abbrev rm_X2_firstOf : Room := { frames := 1, cells := 0, slots := 0, locals := 21 }
theorem sg_X2_firstOf : ZG yX2_firstOf wsX2_firstOf cX2_firstOf 4 (some .int) RX2 1 rm_X2_firstOf := ⟨⟨_, rfl⟩, by decide +kernel, rfl, rfl⟩
set_option maxHeartbeats 4000000 in
set_option maxRecDepth 100000 in
theorem w_X2_firstOf_4 {ω : ZO} {κ : ZK} {N : Nat} {σ : ZS} {b1 : Int32} {K : Int32 → Int32 → Option (Int32)} {r0 : Int32} (C : CX ω wD κ cX2_firstOf wsX2_firstOf RX2 (some .int) 4 rm_X2_firstOf) (hR : zRI ω wD κ (fun v τ => v = r0 ∧ τ = σ)) (HK : ∀ (y2 : Int32) (y3 : Int32), K y2 y3 = some r0 → G ω wD κ 46 [(0, .ref (za ω 32)), (2, .int y2)] [] σ) : ∀ (n : Nat) (y2 : Int32) (y3 : Int32), L_X2_firstOf_4 N σ b1 K n y2 y3 = some r0 → G ω wD κ 4 [(0, .ref (za ω 32)), (1, .int b1), (2, .int y2), (3, .int y3)] [] σ := by
  intro n
  induction n with
  | zero => intro  y2 y3 hf; exact absurd (show none = some r0 from hf) (fun h => nomatch h)
  | succ n ih =>
    intro y2 y3 hf
    have hf : B_X2_firstOf_4 N σ b1 K (L_X2_firstOf_4 N σ b1 K n) y2 y3 = some r0 := hf
    unfold B_X2_firstOf_4 at hf
    refine G_iload_n (pc' := 5) C dX2_firstOf_4 3 rfl rfl ?_
    refine G_bipush (v := (24 : Int32)) (pc' := 7) C dX2_firstOf_5 (by decide) rfl ?_
    refine G_icmp_ge (tgt := 46) (pc' := 10) C dX2_firstOf_7 (by decide) rfl hf (fun hf => ?_) (fun hf => ?_)
    · refine G_sub (lv' := [(0, .ref (za ω 32)), (2, .int y2)]) C [0, 2] rfl ?_
      exact HK y2 y3 hf
    · refine G_iload_n (pc' := 11) C dX2_firstOf_10 1 rfl rfl ?_
      refine G_iload_n (pc' := 12) C dX2_firstOf_11 3 rfl rfl ?_
      refine G_callNp (pc' := 15) C [.int b1, .int y3] (c_X7_contains ω N σ b1 y3) sg_X7_contains gX2_firstOf_X7_contains_n49 lk_X2_firstOf_49n lk_X2_firstOf_49s lk_X2_firstOf_49i ⟨Nat.le_of_ble_eq_true rfl, Nat.le_of_ble_eq_true rfl⟩ rfl rfl (Nat.le_of_ble_eq_true rfl) dX2_firstOf_12 rfl hf (fun v1 hf => ?_)
      refine G_if_eq (tgt := 40) (pc' := 18) C dX2_firstOf_15 (by decide) rfl hf (fun hf => ?_) (fun hf => ?_)
      · refine G_iincL (v := y3 + (1 : Int32)) (pc' := 43) C dX2_firstOf_40 3 rfl rfl (by decide) [1, 2, 3, 0] (fun x2 => [(0, .ref (za ω 32)), (1, .int b1), (2, .int y2), (3, .int x2)]) (fun _ => rfl) rfl hf (fun x2 hf => ?_)
        refine G_goto (pc' := 4) C dX2_firstOf_43 (by decide) ?_
        exact ih y2 x2 hf
      · refine G_iload_n (pc' := 19) C dX2_firstOf_18 2 rfl rfl ?_
        refine G_iconst (v := (-1 : Int32)) (pc' := 20) C dX2_firstOf_19 (by decide) rfl ?_
        refine G_icmp_eq (tgt := 38) (pc' := 23) C dX2_firstOf_20 (by decide) rfl hf (fun hf => ?_) (fun hf => ?_)
        · refine G_iload_n (pc' := 39) C dX2_firstOf_38 3 rfl rfl ?_
          refine G_istore_n (lv' := [(0, .ref (za ω 32)), (1, .int b1), (2, .int y3), (3, .int y3)]) (pc' := 40) C dX2_firstOf_39 (by decide) [1, 2, 0, 3] rfl rfl ?_
          refine G_iincL (v := y3 + (1 : Int32)) (pc' := 43) C dX2_firstOf_40 3 rfl rfl (by decide) [1, 2, 3, 0] (fun x3 => [(0, .ref (za ω 32)), (1, .int b1), (2, .int y3), (3, .int x3)]) (fun _ => rfl) rfl hf (fun x3 hf => ?_)
          refine G_goto (pc' := 4) C dX2_firstOf_43 (by decide) ?_
          exact ih y3 x3 hf
        · refine G_aload_n (pc' := 24) C dX2_firstOf_23 0 rfl rfl ?_
          refine G_get (pc' := 27) C wD_32 rfl 0 (by decide) rfl iu_X2_firstOf_X2 lk_X2_firstOf_9 dX2_firstOf_24 rfl ?_
          refine G_iload_n (pc' := 28) C dX2_firstOf_27 3 rfl rfl ?_
          refine G_iald (pc' := 29) C wD_33 dX2_firstOf_28 rfl hf (fun v4 hf => ?_)
          refine G_aload_n (pc' := 30) C dX2_firstOf_29 0 rfl rfl ?_
          refine G_get (pc' := 33) C wD_32 rfl 0 (by decide) rfl iu_X2_firstOf_X2 lk_X2_firstOf_9 dX2_firstOf_30 rfl ?_
          refine G_iload_n (pc' := 34) C dX2_firstOf_33 2 rfl rfl ?_
          refine G_iald (pc' := 35) C wD_33 dX2_firstOf_34 rfl hf (fun v5 hf => ?_)
          refine G_icmp_le (tgt := 40) (pc' := 38) C dX2_firstOf_35 (by decide) rfl hf (fun hf => ?_) (fun hf => ?_)
          · refine G_iincL (v := y3 + (1 : Int32)) (pc' := 43) C dX2_firstOf_40 3 rfl rfl (by decide) [1, 2, 3, 0] (fun x6 => [(0, .ref (za ω 32)), (1, .int b1), (2, .int y2), (3, .int x6)]) (fun _ => rfl) rfl hf (fun x6 hf => ?_)
            refine G_goto (pc' := 4) C dX2_firstOf_43 (by decide) ?_
            exact ih y2 x6 hf
          · refine G_iload_n (pc' := 39) C dX2_firstOf_38 3 rfl rfl ?_
            refine G_istore_n (lv' := [(0, .ref (za ω 32)), (1, .int b1), (2, .int y3), (3, .int y3)]) (pc' := 40) C dX2_firstOf_39 (by decide) [1, 2, 0, 3] rfl rfl ?_
            refine G_iincL (v := y3 + (1 : Int32)) (pc' := 43) C dX2_firstOf_40 3 rfl rfl (by decide) [1, 2, 3, 0] (fun x7 => [(0, .ref (za ω 32)), (1, .int b1), (2, .int y3), (3, .int x7)]) (fun _ => rfl) rfl hf (fun x7 hf => ?_)
            refine G_goto (pc' := 4) C dX2_firstOf_43 (by decide) ?_
            exact ih y3 x7 hf
set_option maxHeartbeats 4000000 in
set_option maxRecDepth 100000 in
theorem c_X2_firstOf (ω : ZO) (N : Nat) (σ : ZS) (a1 : Int32) : ZIp ω wD yX2_firstOf wsX2_firstOf rm_X2_firstOf [.ref (za ω 32), .int a1] σ (f_X2_firstOf N σ a1) := by
  intro r0 hf
  refine ZI.go (cc := cX2_firstOf) (maxL := 4) (ret := (some .int)) (own := RX2) (lv := [(0, .ref (za ω 32)), (1, .int a1)]) (by decide) rfl rfl (Nat.le_of_ble_eq_true rfl) rfl (fun κ C hR => ?_)
  unfold f_X2_firstOf at hf
  refine G_iconst (v := (-1 : Int32)) (pc' := 1) C dX2_firstOf_0 (by decide) rfl ?_
  refine G_istore_n (lv' := [(0, .ref (za ω 32)), (1, .int a1), (2, .int (-1 : Int32))]) (pc' := 2) C dX2_firstOf_1 (by decide) [1, 2, 0] rfl rfl ?_
  refine G_iconst (v := (0 : Int32)) (pc' := 3) C dX2_firstOf_2 (by decide) rfl ?_
  refine G_istore_n (lv' := [(0, .ref (za ω 32)), (1, .int a1), (2, .int (-1 : Int32)), (3, .int (0 : Int32))]) (pc' := 4) C dX2_firstOf_3 (by decide) [1, 2, 3, 0] rfl rfl ?_
  refine w_X2_firstOf_4 C hR (fun y8 y9 hf => ?_) N (-1 : Int32) (0 : Int32) hf
  refine G_iload_n (pc' := 47) C dX2_firstOf_46 1 rfl rfl ?_
  exact G_iret C hR dX2_firstOf_47 ⟨Option.some.inj hf, rfl⟩
theorem lk_X2_draw_30n : Cond.methodLinkNest RX2 30 yX7_bit RX7 ∈ zNws := by decide +kernel
theorem lk_X2_draw_30s : Cond.static yX7_bit ∈ wsX2_draw := by decide +kernel
theorem lk_X2_draw_30i : Cond.initialized yX7_bit.cls ∈ wsX2_draw := by decide +kernel
theorem iu_X2_draw_X2 : ∀ w ∈ wsX20, w ∈ wsX2_draw := by decide +kernel
theorem lk_X2_draw_18 : Cond.fieldLink RX2 18 "PrizeDesk$Ranking" "size" "I" ∈ wsX2_draw := by decide +kernel
theorem lk_X2_draw_15 : Cond.fieldLink RX2 15 "PrizeDesk$Ranking" "order" "[I" ∈ wsX2_draw := by decide +kernel
abbrev rm_X2_draw : Room := { frames := 2, cells := 0, slots := 0, locals := 44 }
theorem sg_X2_draw : ZG yX2_draw wsX2_draw cX2_draw 6 none RX2 2 rm_X2_draw := ⟨⟨_, rfl⟩, by decide +kernel, rfl, rfl⟩
set_option maxHeartbeats 4000000 in
set_option maxRecDepth 100000 in
theorem w_X2_draw_10 {ω : ZO} {κ : ZK} {N : Nat} {b2 : Int32} {K : Int32 → Int32 → ZS → Option (ZS)} {r0 : ZS} (C : CX ω wD κ cX2_draw wsX2_draw RX2 none 6 rm_X2_draw) (hR : zRV ω wD κ (fun τ => τ = r0)) (HK : ∀ (y3 : Int32) (y4 : Int32) (τ : ZS), K y3 y4 τ = some r0 → G ω wD κ 67 [(0, .ref (za ω 32))] [] τ) : ∀ (n : Nat) (y3 : Int32) (y4 : Int32) (τ : ZS), L_X2_draw_10 N b2 K n y3 y4 τ = some r0 → G ω wD κ 10 [(0, .ref (za ω 32)), (2, .int b2), (3, .int y3), (4, .int y4)] [] τ := by
  intro n
  induction n with
  | zero => intro  y3 y4 τ hf; exact absurd (show none = some r0 from hf) (fun h => nomatch h)
  | succ n ih =>
    intro y3 y4 τ hf
    have hf : B_X2_draw_10 N b2 K (L_X2_draw_10 N b2 K n) y3 y4 τ = some r0 := hf
    unfold B_X2_draw_10 at hf
    refine G_iload (pc' := 12) C dX2_draw_10 3 rfl rfl ?_
    refine G_bipush (v := (24 : Int32)) (pc' := 14) C dX2_draw_12 (by decide) rfl ?_
    refine G_icmp_ge (tgt := 67) (pc' := 17) C dX2_draw_14 (by decide) rfl hf (fun hf => ?_) (fun hf => ?_)
    · refine G_sub (lv' := [(0, .ref (za ω 32))]) C [0] rfl ?_
      exact HK y3 y4 τ hf
    · refine G_iload (pc' := 19) C dX2_draw_17 3 rfl rfl ?_
      refine G_iload_n (pc' := 20) C dX2_draw_19 1 rfl rfl ?_
      refine G_icmp_ge (tgt := 67) (pc' := 23) C dX2_draw_20 (by decide) rfl hf (fun hf => ?_) (fun hf => ?_)
      · refine G_sub (lv' := [(0, .ref (za ω 32))]) C [0] rfl ?_
        exact HK y3 y4 τ hf
      · refine G_iload_n (pc' := 24) C dX2_draw_23 2 rfl rfl ?_
        refine G_if_eq (tgt := 67) (pc' := 27) C dX2_draw_24 (by decide) rfl hf (fun hf => ?_) (fun hf => ?_)
        · refine G_sub (lv' := [(0, .ref (za ω 32))]) C [0] rfl ?_
          exact HK y3 y4 τ hf
        · refine G_aload_n (pc' := 28) C dX2_draw_27 0 rfl rfl ?_
          refine G_iload_n (pc' := 29) C dX2_draw_28 2 rfl rfl ?_
          refine G_callVp (pc' := 32) C [.int y3] (c_X2_firstOf ω N τ y3) sg_X2_firstOf gX2_draw_X2_firstOf wD_32 rfl ⟨Nat.le_of_ble_eq_true rfl, Nat.le_of_ble_eq_true rfl⟩ rfl rfl (Nat.le_of_ble_eq_true rfl) dX2_draw_29 rfl hf (fun v2 hf => ?_)
          refine G_istore (lv' := [(0, .ref (za ω 32)), (2, .int b2), (3, .int y3), (4, .int y4), (5, .int v2)]) (pc' := 34) C dX2_draw_32 (by decide) [1, 2, 3, 4, 0] rfl rfl ?_
          refine G_aload_n (pc' := 35) C dX2_draw_34 0 rfl rfl ?_
          refine G_get (pc' := 38) C wD_32 rfl 1 (by decide) rfl iu_X2_draw_X2 lk_X2_draw_15 dX2_draw_35 rfl ?_
          refine G_iload (pc' := 40) C dX2_draw_38 3 rfl rfl ?_
          refine G_iload (pc' := 42) C dX2_draw_40 4 rfl rfl ?_
          refine G_iast (pc' := 43) C wD_34 wD_s34 dX2_draw_42 rfl hf (fun s3 hf => ?_)
          refine G_aload_n (pc' := 44) C dX2_draw_43 0 rfl rfl ?_
          refine G_iload (pc' := 46) C dX2_draw_44 3 rfl rfl ?_
          refine G_iconst (v := (1 : Int32)) (pc' := 47) C dX2_draw_46 (by decide) rfl ?_
          refine G_iadd (pc' := 48) C dX2_draw_47 rfl ?_
          refine G_put (pc' := 51) C tyX2 tyX2_ok nmX2 wD_32 rfl 2 (by decide) (Nat.le_of_ble_eq_true rfl) iu_X2_draw_X2 lk_X2_draw_18 rfl (by decide +kernel) wD_f32_2 dX2_draw_48 rfl hf (fun s4 hf => ?_)
          refine G_iload_n (pc' := 52) C dX2_draw_51 2 rfl rfl ?_
          refine G_iload (pc' := 54) C dX2_draw_52 4 rfl rfl ?_
          refine G_callNp (pc' := 57) C [.int v2] (c_X7_bit ω N s4 v2) sg_X7_bit gX2_draw_X7_bit_n30 lk_X2_draw_30n lk_X2_draw_30s lk_X2_draw_30i ⟨Nat.le_of_ble_eq_true rfl, Nat.le_of_ble_eq_true rfl⟩ rfl rfl (Nat.le_of_ble_eq_true rfl) dX2_draw_54 rfl hf (fun v5 hf => ?_)
          refine G_iconst (v := (-1 : Int32)) (pc' := 58) C dX2_draw_57 (by decide) rfl ?_
          refine G_ixor (pc' := 59) C dX2_draw_58 rfl ?_
          refine G_iand (pc' := 60) C dX2_draw_59 rfl ?_
          refine G_nm hf (fun x6 hf => ?_)
          refine G_istore_n (lv' := [(0, .ref (za ω 32)), (2, .int b2), (3, .int x6), (4, .int y4)]) (pc' := 61) C dX2_draw_60 (by decide) [1, 2, 0, 3] rfl rfl ?_
          refine G_iincL (v := y4 + (1 : Int32)) (pc' := 64) C dX2_draw_61 3 rfl rfl (by decide) [1, 2, 3, 0] (fun x7 => [(0, .ref (za ω 32)), (2, .int b2), (3, .int x6), (4, .int x7)]) (fun _ => rfl) rfl hf (fun x7 hf => ?_)
          refine G_goto (pc' := 10) C dX2_draw_64 (by decide) ?_
          exact ih x6 x7 s4 hf
set_option maxHeartbeats 4000000 in
set_option maxRecDepth 100000 in
theorem c_X2_draw (ω : ZO) (N : Nat) (σ : ZS) (a1 : Int32) (a2 : Int32) : ZVs ω wD yX2_draw wsX2_draw rm_X2_draw [.ref (za ω 32), .int a1, .int a2] σ (f_X2_draw N σ a1 a2) := by
  intro r0 hf
  refine ZV.go (cc := cX2_draw) (maxL := 6) (ret := none) (own := RX2) (lv := [(0, .ref (za ω 32)), (1, .int a1), (2, .int a2)]) (by decide) rfl rfl (Nat.le_of_ble_eq_true rfl) rfl (fun κ C hR => ?_)
  unfold f_X2_draw at hf
  refine G_iload_n (pc' := 1) C dX2_draw_0 1 rfl rfl ?_
  refine G_istore_n (lv' := [(0, .ref (za ω 32)), (2, .int a2), (3, .int a1)]) (pc' := 2) C dX2_draw_1 (by decide) [1, 3, 0] rfl rfl ?_
  refine G_aload_n (pc' := 3) C dX2_draw_2 0 rfl rfl ?_
  refine G_iconst (v := (0 : Int32)) (pc' := 4) C dX2_draw_3 (by decide) rfl ?_
  refine G_put (pc' := 7) C tyX2 tyX2_ok nmX2 wD_32 rfl 2 (by decide) (Nat.le_of_ble_eq_true rfl) iu_X2_draw_X2 lk_X2_draw_18 rfl (by decide +kernel) wD_f32_2 dX2_draw_4 rfl hf (fun s1 hf => ?_)
  refine G_iconst (v := (0 : Int32)) (pc' := 8) C dX2_draw_7 (by decide) rfl ?_
  refine G_istore (lv' := [(0, .ref (za ω 32)), (2, .int a2), (3, .int a1), (4, .int (0 : Int32))]) (pc' := 10) C dX2_draw_8 (by decide) [1, 2, 3, 0] rfl rfl ?_
  refine w_X2_draw_10 C hR (fun y8 y9 s10 hf => ?_) N a1 (0 : Int32) s1 hf
  exact G_vret C hR dX2_draw_67 (Option.some.inj hf)
