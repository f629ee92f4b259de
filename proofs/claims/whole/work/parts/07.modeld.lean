theorem iu_X8_firstPlaces_X8 : ∀ w ∈ wsX80, w ∈ wsX8_firstPlaces := by decide +kernel
theorem lk_X8_firstPlaces_72 : Cond.fieldLink RX8 72 "PrizeDeskModel" "list" "[I" ∈ wsX8_firstPlaces := by decide +kernel
theorem lk_X8_firstPlaces_84 : Cond.fieldLink RX8 84 "PrizeDeskModel" "round" "[I" ∈ wsX8_firstPlaces := by decide +kernel
theorem lk_X8_firstPlaces_167 : Cond.fieldLink RX8 167 "PrizeDeskModel" "listMany" "I" ∈ wsX8_firstPlaces := by decide +kernel
abbrev rm_X8_firstPlaces : Room := { frames := 2, cells := 0, slots := 0, locals := 50 }
theorem sg_X8_firstPlaces : ZG yX8_firstPlaces wsX8_firstPlaces cX8_firstPlaces 9 (some .int) RX8 2 rm_X8_firstPlaces := ⟨⟨_, rfl⟩, by decide +kernel, rfl, rfl⟩
set_option maxHeartbeats 4000000 in
set_option maxRecDepth 100000 in
theorem w_X8_firstPlaces_38 {ω : ZO} {κ : ZK} {N : Nat} {σ : ZS} {b1 : Int32} {b2 : Int32} {b3 : Int32} {b4 : Int32} {b5 : Int32} {K : Int32 → Int32 → Option (Int32)} {r0 : Int32} (C : CX ω wM κ cX8_firstPlaces wsX8_firstPlaces RX8 (some .int) 9 rm_X8_firstPlaces) (hR : zRI ω wM κ (fun v τ => v = r0 ∧ τ = σ)) (HK : ∀ (y6 : Int32) (y7 : Int32), K y6 y7 = some r0 → G ω wM κ 113 [(0, .ref (za ω 0)), (1, .int b1), (2, .int b2), (3, .int b3), (4, .int b4), (6, .int y6)] [] σ) : ∀ (n : Nat) (y6 : Int32) (y7 : Int32), L_X8_firstPlaces_38 N σ b1 b2 b3 b4 b5 K n y6 y7 = some r0 → G ω wM κ 38 [(0, .ref (za ω 0)), (1, .int b1), (2, .int b2), (3, .int b3), (4, .int b4), (5, .int b5), (6, .int y6), (7, .int y7)] [] σ := by
  intro n
  induction n with
  | zero => intro  y6 y7 hf; exact absurd (show none = some r0 from hf) (fun h => nomatch h)
  | succ n ih =>
    intro y6 y7 hf
    have hf : B_X8_firstPlaces_38 N σ b1 b2 b3 b4 b5 K (L_X8_firstPlaces_38 N σ b1 b2 b3 b4 b5 K n) y6 y7 = some r0 := hf
    unfold B_X8_firstPlaces_38 at hf
    refine G_iload (pc' := 40) C dX8_firstPlaces_38 7 rfl rfl ?_
    refine G_aload_n (pc' := 41) C dX8_firstPlaces_40 0 rfl rfl ?_
    refine G_get (pc' := 44) C wM_0 rfl 29 (by decide) rfl iu_X8_firstPlaces_X8 lk_X8_firstPlaces_167 dX8_firstPlaces_41 rfl ?_
    refine G_icmp_ge (tgt := 113) (pc' := 47) C dX8_firstPlaces_44 (by decide) rfl hf (fun hf => ?_) (fun hf => ?_)
    · refine G_sub (lv' := [(0, .ref (za ω 0)), (1, .int b1), (2, .int b2), (3, .int b3), (4, .int b4), (6, .int y6)]) C [0, 1, 2, 3, 4, 6] rfl ?_
      exact HK y6 y7 hf
    · refine G_iload (pc' := 49) C dX8_firstPlaces_47 6 rfl rfl ?_
      refine G_if_eq (tgt := 113) (pc' := 52) C dX8_firstPlaces_49 (by decide) rfl hf (fun hf => ?_) (fun hf => ?_)
      · refine G_sub (lv' := [(0, .ref (za ω 0)), (1, .int b1), (2, .int b2), (3, .int b3), (4, .int b4), (6, .int y6)]) C [0, 1, 2, 3, 4, 6] rfl ?_
        exact HK y6 y7 hf
      · refine G_aload_n (pc' := 53) C dX8_firstPlaces_52 0 rfl rfl ?_
        refine G_get (pc' := 56) C wM_0 rfl 28 (by decide) rfl iu_X8_firstPlaces_X8 lk_X8_firstPlaces_84 dX8_firstPlaces_53 rfl ?_
        refine G_aload_n (pc' := 57) C dX8_firstPlaces_56 0 rfl rfl ?_
        refine G_get (pc' := 60) C wM_0 rfl 24 (by decide) rfl iu_X8_firstPlaces_X8 lk_X8_firstPlaces_72 dX8_firstPlaces_57 rfl ?_
        refine G_iload (pc' := 62) C dX8_firstPlaces_60 7 rfl rfl ?_
        refine G_iald (pc' := 63) C wM_21 dX8_firstPlaces_62 rfl hf (fun v2 hf => ?_)
        refine G_iald (pc' := 64) C wM_25 dX8_firstPlaces_63 rfl hf (fun v3 hf => ?_)
        refine G_if_ne (tgt := 84) (pc' := 67) C dX8_firstPlaces_64 (by decide) rfl hf (fun hf => ?_) (fun hf => ?_)
        · refine G_aload_n (pc' := 68) C dX8_firstPlaces_67 0 rfl rfl ?_
          refine G_iload (pc' := 70) C dX8_firstPlaces_68 4 rfl rfl ?_
          refine G_iload_n (pc' := 71) C dX8_firstPlaces_70 1 rfl rfl ?_
          refine G_aload_n (pc' := 72) C dX8_firstPlaces_71 0 rfl rfl ?_
          refine G_get (pc' := 75) C wM_0 rfl 24 (by decide) rfl iu_X8_firstPlaces_X8 lk_X8_firstPlaces_72 dX8_firstPlaces_72 rfl ?_
          refine G_iload (pc' := 77) C dX8_firstPlaces_75 7 rfl rfl ?_
          refine G_iald (pc' := 78) C wM_21 dX8_firstPlaces_77 rfl hf (fun v4 hf => ?_)
          refine G_callVp (pc' := 81) C [.int b4, .int b1, .int v4] (c_X8_placeOn ω N σ b4 b1 v4) sg_X8_placeOn gX8_firstPlaces_X8_placeOn wM_0 rfl ⟨Nat.le_of_ble_eq_true rfl, Nat.le_of_ble_eq_true rfl⟩ rfl rfl (Nat.le_of_ble_eq_true rfl) dX8_firstPlaces_78 rfl hf (fun v5 hf => ?_)
          refine G_goto (pc' := 85) C dX8_firstPlaces_81 (by decide) ?_
          refine G_istore (lv' := [(0, .ref (za ω 0)), (1, .int b1), (2, .int b2), (3, .int b3), (4, .int b4), (5, .int b5), (7, .int y7), (8, .int v5)]) (pc' := 87) C dX8_firstPlaces_85 (by decide) [1, 2, 3, 4, 5, 6, 8, 0] rfl rfl ?_
          refine G_iload (pc' := 89) C dX8_firstPlaces_87 7 rfl rfl ?_
          refine G_iconst (v := (-1 : Int32)) (pc' := 90) C dX8_firstPlaces_89 (by decide) rfl ?_
          refine G_icmp_eq (tgt := 100) (pc' := 93) C dX8_firstPlaces_90 (by decide) rfl hf (fun hf => ?_) (fun hf => ?_)
          · refine G_iconst (v := (1 : Int32)) (pc' := 101) C dX8_firstPlaces_100 (by decide) rfl ?_
            refine G_goto (pc' := 105) C dX8_firstPlaces_101 (by decide) ?_
            refine G_istore (lv' := [(0, .ref (za ω 0)), (1, .int b1), (2, .int b2), (3, .int b3), (4, .int b4), (5, .int b5), (6, .int (1 : Int32)), (7, .int y7)]) (pc' := 107) C dX8_firstPlaces_105 (by decide) [1, 2, 3, 4, 5, 6, 0, 7] rfl rfl ?_
            refine G_iincL (v := y7 + (1 : Int32)) (pc' := 110) C dX8_firstPlaces_107 7 rfl rfl (by decide) [1, 2, 3, 4, 5, 6, 7, 0] (fun x6 => [(0, .ref (za ω 0)), (1, .int b1), (2, .int b2), (3, .int b3), (4, .int b4), (5, .int b5), (6, .int (1 : Int32)), (7, .int x6)]) (fun _ => rfl) rfl hf (fun x6 hf => ?_)
            refine G_goto (pc' := 38) C dX8_firstPlaces_110 (by decide) ?_
            exact ih (1 : Int32) x6 hf
          · refine G_iload (pc' := 95) C dX8_firstPlaces_93 7 rfl rfl ?_
            refine G_iload (pc' := 97) C dX8_firstPlaces_95 5 rfl rfl ?_
            refine G_icmp_lt (tgt := 104) (pc' := 100) C dX8_firstPlaces_97 (by decide) rfl hf (fun hf => ?_) (fun hf => ?_)
            · refine G_iconst (v := (0 : Int32)) (pc' := 105) C dX8_firstPlaces_104 (by decide) rfl ?_
              refine G_istore (lv' := [(0, .ref (za ω 0)), (1, .int b1), (2, .int b2), (3, .int b3), (4, .int b4), (5, .int b5), (6, .int (0 : Int32)), (7, .int y7)]) (pc' := 107) C dX8_firstPlaces_105 (by decide) [1, 2, 3, 4, 5, 6, 0, 7] rfl rfl ?_
              refine G_iincL (v := y7 + (1 : Int32)) (pc' := 110) C dX8_firstPlaces_107 7 rfl rfl (by decide) [1, 2, 3, 4, 5, 6, 7, 0] (fun x7 => [(0, .ref (za ω 0)), (1, .int b1), (2, .int b2), (3, .int b3), (4, .int b4), (5, .int b5), (6, .int (0 : Int32)), (7, .int x7)]) (fun _ => rfl) rfl hf (fun x7 hf => ?_)
              refine G_goto (pc' := 38) C dX8_firstPlaces_110 (by decide) ?_
              exact ih (0 : Int32) x7 hf
            · refine G_iconst (v := (1 : Int32)) (pc' := 101) C dX8_firstPlaces_100 (by decide) rfl ?_
              refine G_goto (pc' := 105) C dX8_firstPlaces_101 (by decide) ?_
              refine G_istore (lv' := [(0, .ref (za ω 0)), (1, .int b1), (2, .int b2), (3, .int b3), (4, .int b4), (5, .int b5), (6, .int (1 : Int32)), (7, .int y7)]) (pc' := 107) C dX8_firstPlaces_105 (by decide) [1, 2, 3, 4, 5, 6, 0, 7] rfl rfl ?_
              refine G_iincL (v := y7 + (1 : Int32)) (pc' := 110) C dX8_firstPlaces_107 7 rfl rfl (by decide) [1, 2, 3, 4, 5, 6, 7, 0] (fun x8 => [(0, .ref (za ω 0)), (1, .int b1), (2, .int b2), (3, .int b3), (4, .int b4), (5, .int b5), (6, .int (1 : Int32)), (7, .int x8)]) (fun _ => rfl) rfl hf (fun x8 hf => ?_)
              refine G_goto (pc' := 38) C dX8_firstPlaces_110 (by decide) ?_
              exact ih (1 : Int32) x8 hf
        · refine G_iconst (v := (-1 : Int32)) (pc' := 85) C dX8_firstPlaces_84 (by decide) rfl ?_
          refine G_istore (lv' := [(0, .ref (za ω 0)), (1, .int b1), (2, .int b2), (3, .int b3), (4, .int b4), (5, .int b5), (7, .int y7), (8, .int (-1 : Int32))]) (pc' := 87) C dX8_firstPlaces_85 (by decide) [1, 2, 3, 4, 5, 6, 8, 0] rfl rfl ?_
          refine G_iload (pc' := 89) C dX8_firstPlaces_87 7 rfl rfl ?_
          refine G_iconst (v := (-1 : Int32)) (pc' := 90) C dX8_firstPlaces_89 (by decide) rfl ?_
          refine G_icmp_eq (tgt := 100) (pc' := 93) C dX8_firstPlaces_90 (by decide) rfl hf (fun hf => ?_) (fun hf => ?_)
          · refine G_iconst (v := (1 : Int32)) (pc' := 101) C dX8_firstPlaces_100 (by decide) rfl ?_
            refine G_goto (pc' := 105) C dX8_firstPlaces_101 (by decide) ?_
            refine G_istore (lv' := [(0, .ref (za ω 0)), (1, .int b1), (2, .int b2), (3, .int b3), (4, .int b4), (5, .int b5), (6, .int (1 : Int32)), (7, .int y7)]) (pc' := 107) C dX8_firstPlaces_105 (by decide) [1, 2, 3, 4, 5, 6, 0, 7] rfl rfl ?_
            refine G_iincL (v := y7 + (1 : Int32)) (pc' := 110) C dX8_firstPlaces_107 7 rfl rfl (by decide) [1, 2, 3, 4, 5, 6, 7, 0] (fun x9 => [(0, .ref (za ω 0)), (1, .int b1), (2, .int b2), (3, .int b3), (4, .int b4), (5, .int b5), (6, .int (1 : Int32)), (7, .int x9)]) (fun _ => rfl) rfl hf (fun x9 hf => ?_)
            refine G_goto (pc' := 38) C dX8_firstPlaces_110 (by decide) ?_
            exact ih (1 : Int32) x9 hf
          · refine G_iload (pc' := 95) C dX8_firstPlaces_93 7 rfl rfl ?_
            refine G_iload (pc' := 97) C dX8_firstPlaces_95 5 rfl rfl ?_
            refine G_icmp_lt (tgt := 104) (pc' := 100) C dX8_firstPlaces_97 (by decide) rfl hf (fun hf => ?_) (fun hf => ?_)
            · refine G_iconst (v := (0 : Int32)) (pc' := 105) C dX8_firstPlaces_104 (by decide) rfl ?_
              refine G_istore (lv' := [(0, .ref (za ω 0)), (1, .int b1), (2, .int b2), (3, .int b3), (4, .int b4), (5, .int b5), (6, .int (0 : Int32)), (7, .int y7)]) (pc' := 107) C dX8_firstPlaces_105 (by decide) [1, 2, 3, 4, 5, 6, 0, 7] rfl rfl ?_
              refine G_iincL (v := y7 + (1 : Int32)) (pc' := 110) C dX8_firstPlaces_107 7 rfl rfl (by decide) [1, 2, 3, 4, 5, 6, 7, 0] (fun x10 => [(0, .ref (za ω 0)), (1, .int b1), (2, .int b2), (3, .int b3), (4, .int b4), (5, .int b5), (6, .int (0 : Int32)), (7, .int x10)]) (fun _ => rfl) rfl hf (fun x10 hf => ?_)
              refine G_goto (pc' := 38) C dX8_firstPlaces_110 (by decide) ?_
              exact ih (0 : Int32) x10 hf
            · refine G_iconst (v := (1 : Int32)) (pc' := 101) C dX8_firstPlaces_100 (by decide) rfl ?_
              refine G_goto (pc' := 105) C dX8_firstPlaces_101 (by decide) ?_
              refine G_istore (lv' := [(0, .ref (za ω 0)), (1, .int b1), (2, .int b2), (3, .int b3), (4, .int b4), (5, .int b5), (6, .int (1 : Int32)), (7, .int y7)]) (pc' := 107) C dX8_firstPlaces_105 (by decide) [1, 2, 3, 4, 5, 6, 0, 7] rfl rfl ?_
              refine G_iincL (v := y7 + (1 : Int32)) (pc' := 110) C dX8_firstPlaces_107 7 rfl rfl (by decide) [1, 2, 3, 4, 5, 6, 7, 0] (fun x11 => [(0, .ref (za ω 0)), (1, .int b1), (2, .int b2), (3, .int b3), (4, .int b4), (5, .int b5), (6, .int (1 : Int32)), (7, .int x11)]) (fun _ => rfl) rfl hf (fun x11 hf => ?_)
              refine G_goto (pc' := 38) C dX8_firstPlaces_110 (by decide) ?_
              exact ih (1 : Int32) x11 hf
set_option maxHeartbeats 4000000 in
set_option maxRecDepth 100000 in
theorem w_X8_firstPlaces_5 {ω : ZO} {κ : ZK} {N : Nat} {σ : ZS} {b1 : Int32} {b2 : Int32} {K : Int32 → Int32 → Option (Int32)} {r0 : Int32} (C : CX ω wM κ cX8_firstPlaces wsX8_firstPlaces RX8 (some .int) 9 rm_X8_firstPlaces) (hR : zRI ω wM κ (fun v τ => v = r0 ∧ τ = σ)) (HK : ∀ (y3 : Int32) (y4 : Int32), K y3 y4 = some r0 → G ω wM κ 132 [(0, .ref (za ω 0)), (3, .int y3)] [] σ) : ∀ (n : Nat) (y3 : Int32) (y4 : Int32), L_X8_firstPlaces_5 N σ b1 b2 K n y3 y4 = some r0 → G ω wM κ 5 [(0, .ref (za ω 0)), (1, .int b1), (2, .int b2), (3, .int y3), (4, .int y4)] [] σ := by
  intro n
  induction n with
  | zero => intro  y3 y4 hf; exact absurd (show none = some r0 from hf) (fun h => nomatch h)
  | succ n ih =>
    intro y3 y4 hf
    have hf : B_X8_firstPlaces_5 N σ b1 b2 K (L_X8_firstPlaces_5 N σ b1 b2 K n) y3 y4 = some r0 := hf
    unfold B_X8_firstPlaces_5 at hf
    refine G_iload (pc' := 7) C dX8_firstPlaces_5 4 rfl rfl ?_
    refine G_bipush (v := (7 : Int32)) (pc' := 9) C dX8_firstPlaces_7 (by decide) rfl ?_
    refine G_icmp_ge (tgt := 132) (pc' := 12) C dX8_firstPlaces_9 (by decide) rfl hf (fun hf => ?_) (fun hf => ?_)
    · refine G_sub (lv' := [(0, .ref (za ω 0)), (3, .int y3)]) C [0, 3] rfl ?_
      exact HK y3 y4 hf
    · refine G_aload_n (pc' := 13) C dX8_firstPlaces_12 0 rfl rfl ?_
      refine G_iload (pc' := 15) C dX8_firstPlaces_13 4 rfl rfl ?_
      refine G_iload_n (pc' := 16) C dX8_firstPlaces_15 1 rfl rfl ?_
      refine G_iload_n (pc' := 17) C dX8_firstPlaces_16 2 rfl rfl ?_
      refine G_callVp (pc' := 20) C [.int y4, .int b1, .int b2] (c_X8_placeOn ω N σ y4 b1 b2) sg_X8_placeOn gX8_firstPlaces_X8_placeOn wM_0 rfl ⟨Nat.le_of_ble_eq_true rfl, Nat.le_of_ble_eq_true rfl⟩ rfl rfl (Nat.le_of_ble_eq_true rfl) dX8_firstPlaces_17 rfl hf (fun v1 hf => ?_)
      refine G_istore (lv' := [(0, .ref (za ω 0)), (1, .int b1), (2, .int b2), (3, .int y3), (4, .int y4), (5, .int v1)]) (pc' := 22) C dX8_firstPlaces_20 (by decide) [1, 2, 3, 4, 5, 0] rfl rfl ?_
      refine G_iload (pc' := 24) C dX8_firstPlaces_22 5 rfl rfl ?_
      refine G_iconst (v := (-1 : Int32)) (pc' := 25) C dX8_firstPlaces_24 (by decide) rfl ?_
      refine G_icmp_eq (tgt := 32) (pc' := 28) C dX8_firstPlaces_25 (by decide) rfl hf (fun hf => ?_) (fun hf => ?_)
      · refine G_iconst (v := (0 : Int32)) (pc' := 33) C dX8_firstPlaces_32 (by decide) rfl ?_
        refine G_istore (lv' := [(0, .ref (za ω 0)), (1, .int b1), (2, .int b2), (3, .int y3), (4, .int y4), (5, .int v1), (6, .int (0 : Int32))]) (pc' := 35) C dX8_firstPlaces_33 (by decide) [1, 2, 3, 4, 5, 6, 0] rfl rfl ?_
        refine G_iconst (v := (0 : Int32)) (pc' := 36) C dX8_firstPlaces_35 (by decide) rfl ?_
        refine G_istore (lv' := [(0, .ref (za ω 0)), (1, .int b1), (2, .int b2), (3, .int y3), (4, .int y4), (5, .int v1), (6, .int (0 : Int32)), (7, .int (0 : Int32))]) (pc' := 38) C dX8_firstPlaces_36 (by decide) [1, 2, 3, 4, 5, 6, 7, 0] rfl rfl ?_
        refine w_X8_firstPlaces_38 C hR (fun y12 y13 hf => ?_) N (0 : Int32) (0 : Int32) hf
        refine G_iload_n (pc' := 114) C dX8_firstPlaces_113 3 rfl rfl ?_
        refine G_iload (pc' := 116) C dX8_firstPlaces_114 5 rfl rfl ?_
        refine G_if_eq (tgt := 123) (pc' := 119) C dX8_firstPlaces_116 (by decide) rfl hf (fun hf => ?_) (fun hf => ?_)
        · refine G_iconst (v := (0 : Int32)) (pc' := 124) C dX8_firstPlaces_123 (by decide) rfl ?_
          refine G_iadd (pc' := 125) C dX8_firstPlaces_124 rfl ?_
          refine G_nm hf (fun x14 hf => ?_)
          refine G_istore_n (lv' := [(0, .ref (za ω 0)), (1, .int b1), (2, .int b2), (3, .int x14), (4, .int y4)]) (pc' := 126) C dX8_firstPlaces_125 (by decide) [1, 2, 3, 0, 4] rfl rfl ?_
          refine G_iincL (v := y4 + (1 : Int32)) (pc' := 129) C dX8_firstPlaces_126 4 rfl rfl (by decide) [1, 2, 3, 4, 0] (fun x15 => [(0, .ref (za ω 0)), (1, .int b1), (2, .int b2), (3, .int x14), (4, .int x15)]) (fun _ => rfl) rfl hf (fun x15 hf => ?_)
          refine G_goto (pc' := 5) C dX8_firstPlaces_129 (by decide) ?_
          exact ih x14 x15 hf
        · refine G_iconst (v := (1 : Int32)) (pc' := 120) C dX8_firstPlaces_119 (by decide) rfl ?_
          refine G_goto (pc' := 124) C dX8_firstPlaces_120 (by decide) ?_
          refine G_iadd (pc' := 125) C dX8_firstPlaces_124 rfl ?_
          refine G_nm hf (fun x16 hf => ?_)
          refine G_istore_n (lv' := [(0, .ref (za ω 0)), (1, .int b1), (2, .int b2), (3, .int x16), (4, .int y4)]) (pc' := 126) C dX8_firstPlaces_125 (by decide) [1, 2, 3, 0, 4] rfl rfl ?_
          refine G_iincL (v := y4 + (1 : Int32)) (pc' := 129) C dX8_firstPlaces_126 4 rfl rfl (by decide) [1, 2, 3, 4, 0] (fun x17 => [(0, .ref (za ω 0)), (1, .int b1), (2, .int b2), (3, .int x16), (4, .int x17)]) (fun _ => rfl) rfl hf (fun x17 hf => ?_)
          refine G_goto (pc' := 5) C dX8_firstPlaces_129 (by decide) ?_
          exact ih x16 x17 hf
      · refine G_iconst (v := (1 : Int32)) (pc' := 29) C dX8_firstPlaces_28 (by decide) rfl ?_
        refine G_goto (pc' := 33) C dX8_firstPlaces_29 (by decide) ?_
        refine G_istore (lv' := [(0, .ref (za ω 0)), (1, .int b1), (2, .int b2), (3, .int y3), (4, .int y4), (5, .int v1), (6, .int (1 : Int32))]) (pc' := 35) C dX8_firstPlaces_33 (by decide) [1, 2, 3, 4, 5, 6, 0] rfl rfl ?_
        refine G_iconst (v := (0 : Int32)) (pc' := 36) C dX8_firstPlaces_35 (by decide) rfl ?_
        refine G_istore (lv' := [(0, .ref (za ω 0)), (1, .int b1), (2, .int b2), (3, .int y3), (4, .int y4), (5, .int v1), (6, .int (1 : Int32)), (7, .int (0 : Int32))]) (pc' := 38) C dX8_firstPlaces_36 (by decide) [1, 2, 3, 4, 5, 6, 7, 0] rfl rfl ?_
        refine w_X8_firstPlaces_38 C hR (fun y18 y19 hf => ?_) N (1 : Int32) (0 : Int32) hf
        refine G_iload_n (pc' := 114) C dX8_firstPlaces_113 3 rfl rfl ?_
        refine G_iload (pc' := 116) C dX8_firstPlaces_114 5 rfl rfl ?_
        refine G_if_eq (tgt := 123) (pc' := 119) C dX8_firstPlaces_116 (by decide) rfl hf (fun hf => ?_) (fun hf => ?_)
        · refine G_iconst (v := (0 : Int32)) (pc' := 124) C dX8_firstPlaces_123 (by decide) rfl ?_
          refine G_iadd (pc' := 125) C dX8_firstPlaces_124 rfl ?_
          refine G_nm hf (fun x20 hf => ?_)
          refine G_istore_n (lv' := [(0, .ref (za ω 0)), (1, .int b1), (2, .int b2), (3, .int x20), (4, .int y4)]) (pc' := 126) C dX8_firstPlaces_125 (by decide) [1, 2, 3, 0, 4] rfl rfl ?_
          refine G_iincL (v := y4 + (1 : Int32)) (pc' := 129) C dX8_firstPlaces_126 4 rfl rfl (by decide) [1, 2, 3, 4, 0] (fun x21 => [(0, .ref (za ω 0)), (1, .int b1), (2, .int b2), (3, .int x20), (4, .int x21)]) (fun _ => rfl) rfl hf (fun x21 hf => ?_)
          refine G_goto (pc' := 5) C dX8_firstPlaces_129 (by decide) ?_
          exact ih x20 x21 hf
        · refine G_iconst (v := (1 : Int32)) (pc' := 120) C dX8_firstPlaces_119 (by decide) rfl ?_
          refine G_goto (pc' := 124) C dX8_firstPlaces_120 (by decide) ?_
          refine G_iadd (pc' := 125) C dX8_firstPlaces_124 rfl ?_
          refine G_nm hf (fun x22 hf => ?_)
          refine G_istore_n (lv' := [(0, .ref (za ω 0)), (1, .int b1), (2, .int b2), (3, .int x22), (4, .int y4)]) (pc' := 126) C dX8_firstPlaces_125 (by decide) [1, 2, 3, 0, 4] rfl rfl ?_
          refine G_iincL (v := y4 + (1 : Int32)) (pc' := 129) C dX8_firstPlaces_126 4 rfl rfl (by decide) [1, 2, 3, 4, 0] (fun x23 => [(0, .ref (za ω 0)), (1, .int b1), (2, .int b2), (3, .int x22), (4, .int x23)]) (fun _ => rfl) rfl hf (fun x23 hf => ?_)
          refine G_goto (pc' := 5) C dX8_firstPlaces_129 (by decide) ?_
          exact ih x22 x23 hf
set_option maxHeartbeats 4000000 in
set_option maxRecDepth 100000 in
theorem c_X8_firstPlaces (ω : ZO) (N : Nat) (σ : ZS) (a1 : Int32) (a2 : Int32) : ZIp ω wM yX8_firstPlaces wsX8_firstPlaces rm_X8_firstPlaces [.ref (za ω 0), .int a1, .int a2] σ (f_X8_firstPlaces N σ a1 a2) := by
  intro r0 hf
  refine ZI.go (cc := cX8_firstPlaces) (maxL := 9) (ret := (some .int)) (own := RX8) (lv := [(0, .ref (za ω 0)), (1, .int a1), (2, .int a2)]) (by decide) rfl rfl (Nat.le_of_ble_eq_true rfl) rfl (fun κ C hR => ?_)
  unfold f_X8_firstPlaces at hf
  refine G_iconst (v := (0 : Int32)) (pc' := 1) C dX8_firstPlaces_0 (by decide) rfl ?_
  refine G_istore_n (lv' := [(0, .ref (za ω 0)), (1, .int a1), (2, .int a2), (3, .int (0 : Int32))]) (pc' := 2) C dX8_firstPlaces_1 (by decide) [1, 2, 3, 0] rfl rfl ?_
  refine G_iconst (v := (0 : Int32)) (pc' := 3) C dX8_firstPlaces_2 (by decide) rfl ?_
  refine G_istore (lv' := [(0, .ref (za ω 0)), (1, .int a1), (2, .int a2), (3, .int (0 : Int32)), (4, .int (0 : Int32))]) (pc' := 5) C dX8_firstPlaces_3 (by decide) [1, 2, 3, 4, 0] rfl rfl ?_
  refine w_X8_firstPlaces_5 C hR (fun y24 y25 hf => ?_) N (0 : Int32) (0 : Int32) hf
  refine G_iload_n (pc' := 133) C dX8_firstPlaces_132 1 rfl rfl ?_
  exact G_iret C hR dX8_firstPlaces_133 ⟨Option.some.inj hf, rfl⟩
theorem iu_X8_isFirst_X8 : ∀ w ∈ wsX80, w ∈ wsX8_isFirst := by decide +kernel
theorem lk_X8_isFirst_13 : Cond.fieldLink RX8 13 "PrizeDeskModel" "rule" "[I" ∈ wsX8_isFirst := by decide +kernel
abbrev rm_X8_isFirst : Room := { frames := 2, cells := 0, slots := 0, locals := 50 }
theorem sg_X8_isFirst : ZG yX8_isFirst wsX8_isFirst cX8_isFirst 6 (some .boolean) RX8 3 rm_X8_isFirst := ⟨⟨_, rfl⟩, by decide +kernel, rfl, rfl⟩
set_option maxHeartbeats 4000000 in
set_option maxRecDepth 100000 in
theorem c_X8_isFirst (ω : ZO) (N : Nat) (σ : ZS) (a1 : Int32) (a2 : Int32) (a3 : Int32) : ZIp ω wM yX8_isFirst wsX8_isFirst rm_X8_isFirst [.ref (za ω 0), .int a1, .int a2, .int a3] σ (f_X8_isFirst N σ a1 a2 a3) := by
  intro r0 hf
  refine ZI.go (cc := cX8_isFirst) (maxL := 6) (ret := (some .boolean)) (own := RX8) (lv := [(0, .ref (za ω 0)), (1, .int a1), (2, .int a2), (3, .int a3)]) (by decide) rfl rfl (Nat.le_of_ble_eq_true rfl) rfl (fun κ C hR => ?_)
  unfold f_X8_isFirst at hf
  refine G_aload_n (pc' := 1) C dX8_isFirst_0 0 rfl rfl ?_
  refine G_get (pc' := 4) C wM_0 rfl 2 (by decide) rfl iu_X8_isFirst_X8 lk_X8_isFirst_13 dX8_isFirst_1 rfl ?_
  refine G_bipush (v := (10 : Int32)) (pc' := 6) C dX8_isFirst_4 (by decide) rfl ?_
  refine G_iald (pc' := 7) C wM_2 dX8_isFirst_6 rfl hf (fun v1 hf => ?_)
  refine G_iconst (v := (1 : Int32)) (pc' := 8) C dX8_isFirst_7 (by decide) rfl ?_
  refine G_icmp_ne (tgt := 66) (pc' := 11) C dX8_isFirst_8 (by decide) rfl hf (fun hf => ?_) (fun hf => ?_)
  · refine G_aload_n (pc' := 12) C dX8_isFirst_11 0 rfl rfl ?_
    refine G_iconst (v := (0 : Int32)) (pc' := 13) C dX8_isFirst_12 (by decide) rfl ?_
    refine G_iload_n (pc' := 14) C dX8_isFirst_13 1 rfl rfl ?_
    refine G_iload_n (pc' := 15) C dX8_isFirst_14 2 rfl rfl ?_
    refine G_callVp (pc' := 18) C [.int (0 : Int32), .int a1, .int a2] (c_X8_placeOn ω N σ (0 : Int32) a1 a2) sg_X8_placeOn gX8_isFirst_X8_placeOn wM_0 rfl ⟨Nat.le_of_ble_eq_true rfl, Nat.le_of_ble_eq_true rfl⟩ rfl rfl (Nat.le_of_ble_eq_true rfl) dX8_isFirst_15 rfl hf (fun v2 hf => ?_)
    refine G_istore (lv' := [(0, .ref (za ω 0)), (1, .int a1), (2, .int a2), (3, .int a3), (4, .int v2)]) (pc' := 20) C dX8_isFirst_18 (by decide) [1, 2, 3, 4, 0] rfl rfl ?_
    refine G_aload_n (pc' := 21) C dX8_isFirst_20 0 rfl rfl ?_
    refine G_iconst (v := (0 : Int32)) (pc' := 22) C dX8_isFirst_21 (by decide) rfl ?_
    refine G_iload_n (pc' := 23) C dX8_isFirst_22 1 rfl rfl ?_
    refine G_iload_n (pc' := 24) C dX8_isFirst_23 3 rfl rfl ?_
    refine G_callVp (pc' := 27) C [.int (0 : Int32), .int a1, .int a3] (c_X8_placeOn ω N σ (0 : Int32) a1 a3) sg_X8_placeOn gX8_isFirst_X8_placeOn wM_0 rfl ⟨Nat.le_of_ble_eq_true rfl, Nat.le_of_ble_eq_true rfl⟩ rfl rfl (Nat.le_of_ble_eq_true rfl) dX8_isFirst_24 rfl hf (fun v3 hf => ?_)
    refine G_istore (lv' := [(0, .ref (za ω 0)), (2, .int a2), (3, .int a3), (4, .int v2), (5, .int v3)]) (pc' := 29) C dX8_isFirst_27 (by decide) [1, 3, 4, 5, 0] rfl rfl ?_
    refine G_iload (pc' := 31) C dX8_isFirst_29 3 rfl rfl ?_
    refine G_iconst (v := (-1 : Int32)) (pc' := 32) C dX8_isFirst_31 (by decide) rfl ?_
    refine G_icmp_ne (tgt := 41) (pc' := 35) C dX8_isFirst_32 (by decide) rfl hf (fun hf => ?_) (fun hf => ?_)
    · refine G_iload (pc' := 37) C dX8_isFirst_35 4 rfl rfl ?_
      refine G_iconst (v := (-1 : Int32)) (pc' := 38) C dX8_isFirst_37 (by decide) rfl ?_
      refine G_icmp_eq (tgt := 66) (pc' := 41) C dX8_isFirst_38 (by decide) rfl hf (fun hf => ?_) (fun hf => ?_)
      · refine G_iload_n (pc' := 67) C dX8_isFirst_66 1 rfl rfl ?_
        refine G_iload_n (pc' := 68) C dX8_isFirst_67 2 rfl rfl ?_
        refine G_icmp_ge (tgt := 75) (pc' := 71) C dX8_isFirst_68 (by decide) rfl hf (fun hf => ?_) (fun hf => ?_)
        · refine G_iconst (v := (0 : Int32)) (pc' := 76) C dX8_isFirst_75 (by decide) rfl ?_
          exact G_zret C hR dX8_isFirst_76 (by decide) ⟨Option.some.inj hf, rfl⟩
        · refine G_iconst (v := (1 : Int32)) (pc' := 72) C dX8_isFirst_71 (by decide) rfl ?_
          refine G_goto (pc' := 76) C dX8_isFirst_72 (by decide) ?_
          exact G_zret C hR dX8_isFirst_76 (by decide) ⟨Option.some.inj hf, rfl⟩
      · refine G_iload (pc' := 43) C dX8_isFirst_41 4 rfl rfl ?_
        refine G_iconst (v := (-1 : Int32)) (pc' := 44) C dX8_isFirst_43 (by decide) rfl ?_
        refine G_icmp_eq (tgt := 60) (pc' := 47) C dX8_isFirst_44 (by decide) rfl hf (fun hf => ?_) (fun hf => ?_)
        · refine G_iconst (v := (1 : Int32)) (pc' := 61) C dX8_isFirst_60 (by decide) rfl ?_
          refine G_goto (pc' := 65) C dX8_isFirst_61 (by decide) ?_
          exact G_zret C hR dX8_isFirst_65 (by decide) ⟨Option.some.inj hf, rfl⟩
        · refine G_iload (pc' := 49) C dX8_isFirst_47 3 rfl rfl ?_
          refine G_iconst (v := (-1 : Int32)) (pc' := 50) C dX8_isFirst_49 (by decide) rfl ?_
          refine G_icmp_eq (tgt := 64) (pc' := 53) C dX8_isFirst_50 (by decide) rfl hf (fun hf => ?_) (fun hf => ?_)
          · refine G_iconst (v := (0 : Int32)) (pc' := 65) C dX8_isFirst_64 (by decide) rfl ?_
            exact G_zret C hR dX8_isFirst_65 (by decide) ⟨Option.some.inj hf, rfl⟩
          · refine G_iload (pc' := 55) C dX8_isFirst_53 3 rfl rfl ?_
            refine G_iload (pc' := 57) C dX8_isFirst_55 4 rfl rfl ?_
            refine G_icmp_ge (tgt := 64) (pc' := 60) C dX8_isFirst_57 (by decide) rfl hf (fun hf => ?_) (fun hf => ?_)
            · refine G_iconst (v := (0 : Int32)) (pc' := 65) C dX8_isFirst_64 (by decide) rfl ?_
              exact G_zret C hR dX8_isFirst_65 (by decide) ⟨Option.some.inj hf, rfl⟩
            · refine G_iconst (v := (1 : Int32)) (pc' := 61) C dX8_isFirst_60 (by decide) rfl ?_
              refine G_goto (pc' := 65) C dX8_isFirst_61 (by decide) ?_
              exact G_zret C hR dX8_isFirst_65 (by decide) ⟨Option.some.inj hf, rfl⟩
    · refine G_iload (pc' := 43) C dX8_isFirst_41 4 rfl rfl ?_
      refine G_iconst (v := (-1 : Int32)) (pc' := 44) C dX8_isFirst_43 (by decide) rfl ?_
      refine G_icmp_eq (tgt := 60) (pc' := 47) C dX8_isFirst_44 (by decide) rfl hf (fun hf => ?_) (fun hf => ?_)
      · refine G_iconst (v := (1 : Int32)) (pc' := 61) C dX8_isFirst_60 (by decide) rfl ?_
        refine G_goto (pc' := 65) C dX8_isFirst_61 (by decide) ?_
        exact G_zret C hR dX8_isFirst_65 (by decide) ⟨Option.some.inj hf, rfl⟩
      · refine G_iload (pc' := 49) C dX8_isFirst_47 3 rfl rfl ?_
        refine G_iconst (v := (-1 : Int32)) (pc' := 50) C dX8_isFirst_49 (by decide) rfl ?_
        refine G_icmp_eq (tgt := 64) (pc' := 53) C dX8_isFirst_50 (by decide) rfl hf (fun hf => ?_) (fun hf => ?_)
        · refine G_iconst (v := (0 : Int32)) (pc' := 65) C dX8_isFirst_64 (by decide) rfl ?_
          exact G_zret C hR dX8_isFirst_65 (by decide) ⟨Option.some.inj hf, rfl⟩
        · refine G_iload (pc' := 55) C dX8_isFirst_53 3 rfl rfl ?_
          refine G_iload (pc' := 57) C dX8_isFirst_55 4 rfl rfl ?_
          refine G_icmp_ge (tgt := 64) (pc' := 60) C dX8_isFirst_57 (by decide) rfl hf (fun hf => ?_) (fun hf => ?_)
          · refine G_iconst (v := (0 : Int32)) (pc' := 65) C dX8_isFirst_64 (by decide) rfl ?_
            exact G_zret C hR dX8_isFirst_65 (by decide) ⟨Option.some.inj hf, rfl⟩
          · refine G_iconst (v := (1 : Int32)) (pc' := 61) C dX8_isFirst_60 (by decide) rfl ?_
            refine G_goto (pc' := 65) C dX8_isFirst_61 (by decide) ?_
            exact G_zret C hR dX8_isFirst_65 (by decide) ⟨Option.some.inj hf, rfl⟩
  · refine G_iload_n (pc' := 67) C dX8_isFirst_66 2 rfl rfl ?_
    refine G_iload_n (pc' := 68) C dX8_isFirst_67 3 rfl rfl ?_
    refine G_icmp_ge (tgt := 75) (pc' := 71) C dX8_isFirst_68 (by decide) rfl hf (fun hf => ?_) (fun hf => ?_)
    · refine G_iconst (v := (0 : Int32)) (pc' := 76) C dX8_isFirst_75 (by decide) rfl ?_
      exact G_zret C hR dX8_isFirst_76 (by decide) ⟨Option.some.inj hf, rfl⟩
    · refine G_iconst (v := (1 : Int32)) (pc' := 72) C dX8_isFirst_71 (by decide) rfl ?_
      refine G_goto (pc' := 76) C dX8_isFirst_72 (by decide) ?_
      exact G_zret C hR dX8_isFirst_76 (by decide) ⟨Option.some.inj hf, rfl⟩
theorem iu_X8_rounds_X8 : ∀ w ∈ wsX80, w ∈ wsX8_rounds := by decide +kernel
theorem lk_X8_rounds_72 : Cond.fieldLink RX8 72 "PrizeDeskModel" "list" "[I" ∈ wsX8_rounds := by decide +kernel
theorem lk_X8_rounds_84 : Cond.fieldLink RX8 84 "PrizeDeskModel" "round" "[I" ∈ wsX8_rounds := by decide +kernel
theorem lk_X8_rounds_167 : Cond.fieldLink RX8 167 "PrizeDeskModel" "listMany" "I" ∈ wsX8_rounds := by decide +kernel
abbrev rm_X8_rounds : Room := { frames := 3, cells := 0, slots := 0, locals := 78 }
theorem sg_X8_rounds : ZG yX8_rounds wsX8_rounds cX8_rounds 8 none RX8 1 rm_X8_rounds := ⟨⟨_, rfl⟩, by decide +kernel, rfl, rfl⟩
set_option maxHeartbeats 4000000 in
set_option maxRecDepth 100000 in
theorem w_X8_rounds_2 {ω : ZO} {κ : ZK} {N : Nat} {b1 : Int32} {K : Int32 → ZS → Option (ZS)} {r0 : ZS} (C : CX ω wM κ cX8_rounds wsX8_rounds RX8 none 8 rm_X8_rounds) (hR : zRV ω wM κ (fun τ => τ = r0)) (HK : ∀ (y2 : Int32) (τ : ZS), K y2 τ = some r0 → G ω wM κ 28 [(0, .ref (za ω 0)), (1, .int b1)] [] τ) : ∀ (n : Nat) (y2 : Int32) (τ : ZS), L_X8_rounds_2 N b1 K n y2 τ = some r0 → G ω wM κ 2 [(0, .ref (za ω 0)), (1, .int b1), (2, .int y2)] [] τ := by
  intro n
  induction n with
  | zero => intro  y2 τ hf; exact absurd (show none = some r0 from hf) (fun h => nomatch h)
  | succ n ih =>
    intro y2 τ hf
    have hf : B_X8_rounds_2 N b1 K (L_X8_rounds_2 N b1 K n) y2 τ = some r0 := hf
    unfold B_X8_rounds_2 at hf
    refine G_iload_n (pc' := 3) C dX8_rounds_2 2 rfl rfl ?_
    refine G_aload_n (pc' := 4) C dX8_rounds_3 0 rfl rfl ?_
    refine G_get (pc' := 7) C wM_0 rfl 29 (by decide) rfl iu_X8_rounds_X8 lk_X8_rounds_167 dX8_rounds_4 rfl ?_
    refine G_icmp_ge (tgt := 28) (pc' := 10) C dX8_rounds_7 (by decide) rfl hf (fun hf => ?_) (fun hf => ?_)
    · refine G_sub (lv' := [(0, .ref (za ω 0)), (1, .int b1)]) C [0, 1] rfl ?_
      exact HK y2 τ hf
    · refine G_aload_n (pc' := 11) C dX8_rounds_10 0 rfl rfl ?_
      refine G_get (pc' := 14) C wM_0 rfl 28 (by decide) rfl iu_X8_rounds_X8 lk_X8_rounds_84 dX8_rounds_11 rfl ?_
      refine G_aload_n (pc' := 15) C dX8_rounds_14 0 rfl rfl ?_
      refine G_get (pc' := 18) C wM_0 rfl 24 (by decide) rfl iu_X8_rounds_X8 lk_X8_rounds_72 dX8_rounds_15 rfl ?_
      refine G_iload_n (pc' := 19) C dX8_rounds_18 2 rfl rfl ?_
      refine G_iald (pc' := 20) C wM_21 dX8_rounds_19 rfl hf (fun v1 hf => ?_)
      refine G_iconst (v := (0 : Int32)) (pc' := 21) C dX8_rounds_20 (by decide) rfl ?_
      refine G_iast (pc' := 22) C wM_25 wM_s25 dX8_rounds_21 rfl hf (fun s2 hf => ?_)
      refine G_iincL (v := y2 + (1 : Int32)) (pc' := 25) C dX8_rounds_22 2 rfl rfl (by decide) [1, 2, 0] (fun x3 => [(0, .ref (za ω 0)), (1, .int b1), (2, .int x3)]) (fun _ => rfl) rfl hf (fun x3 hf => ?_)
      refine G_goto (pc' := 2) C dX8_rounds_25 (by decide) ?_
      exact ih x3 s2 hf
set_option maxHeartbeats 4000000 in
set_option maxRecDepth 100000 in
theorem w_X8_rounds_46 {ω : ZO} {κ : ZK} {N : Nat} {σ : ZS} {b1 : Int32} {b2 : Int32} {K : Int32 → Int32 → Int32 → Option (ZS)} {r0 : ZS} (C : CX ω wM κ cX8_rounds wsX8_rounds RX8 none 8 rm_X8_rounds) (hR : zRV ω wM κ (fun τ => τ = r0)) (HK : ∀ (y3 : Int32) (y4 : Int32) (y5 : Int32), K y3 y4 y5 = some r0 → G ω wM κ 132 [(0, .ref (za ω 0)), (1, .int b1), (2, .int b2), (3, .int y3)] [] σ) : ∀ (n : Nat) (y3 : Int32) (y4 : Int32) (y5 : Int32), L_X8_rounds_46 N σ b1 b2 K n y3 y4 y5 = some r0 → G ω wM κ 46 [(0, .ref (za ω 0)), (1, .int b1), (2, .int b2), (3, .int y3), (4, .int y4), (5, .int y5)] [] σ := by
  intro n
  induction n with
  | zero => intro  y3 y4 y5 hf; exact absurd (show none = some r0 from hf) (fun h => nomatch h)
  | succ n ih =>
    intro y3 y4 y5 hf
    have hf : B_X8_rounds_46 N σ b1 b2 K (L_X8_rounds_46 N σ b1 b2 K n) y3 y4 y5 = some r0 := hf
    unfold B_X8_rounds_46 at hf
    refine G_iload (pc' := 48) C dX8_rounds_46 5 rfl rfl ?_
    refine G_aload_n (pc' := 49) C dX8_rounds_48 0 rfl rfl ?_
    refine G_get (pc' := 52) C wM_0 rfl 29 (by decide) rfl iu_X8_rounds_X8 lk_X8_rounds_167 dX8_rounds_49 rfl ?_
    refine G_icmp_ge (tgt := 132) (pc' := 55) C dX8_rounds_52 (by decide) rfl hf (fun hf => ?_) (fun hf => ?_)
    · refine G_sub (lv' := [(0, .ref (za ω 0)), (1, .int b1), (2, .int b2), (3, .int y3)]) C [0, 1, 2, 3] rfl ?_
      exact HK y3 y4 y5 hf
    · refine G_aload_n (pc' := 56) C dX8_rounds_55 0 rfl rfl ?_
      refine G_get (pc' := 59) C wM_0 rfl 24 (by decide) rfl iu_X8_rounds_X8 lk_X8_rounds_72 dX8_rounds_56 rfl ?_
      refine G_iload (pc' := 61) C dX8_rounds_59 5 rfl rfl ?_
      refine G_iald (pc' := 62) C wM_21 dX8_rounds_61 rfl hf (fun v6 hf => ?_)
      refine G_istore (lv' := [(0, .ref (za ω 0)), (1, .int b1), (2, .int b2), (3, .int y3), (4, .int y4), (5, .int y5), (6, .int v6)]) (pc' := 64) C dX8_rounds_62 (by decide) [1, 2, 3, 4, 5, 6, 0] rfl rfl ?_
      refine G_aload_n (pc' := 65) C dX8_rounds_64 0 rfl rfl ?_
      refine G_get (pc' := 68) C wM_0 rfl 28 (by decide) rfl iu_X8_rounds_X8 lk_X8_rounds_84 dX8_rounds_65 rfl ?_
      refine G_iload (pc' := 70) C dX8_rounds_68 6 rfl rfl ?_
      refine G_iald (pc' := 71) C wM_25 dX8_rounds_70 rfl hf (fun v7 hf => ?_)
      refine G_if_eq (tgt := 77) (pc' := 74) C dX8_rounds_71 (by decide) rfl hf (fun hf => ?_) (fun hf => ?_)
      · refine G_aload_n (pc' := 78) C dX8_rounds_77 0 rfl rfl ?_
        refine G_iload_n (pc' := 79) C dX8_rounds_78 1 rfl rfl ?_
        refine G_iload (pc' := 81) C dX8_rounds_79 6 rfl rfl ?_
        refine G_callVp (pc' := 84) C [.int b1, .int v6] (c_X8_firstPlaces ω N σ b1 v6) sg_X8_firstPlaces gX8_rounds_X8_firstPlaces wM_0 rfl ⟨Nat.le_of_ble_eq_true rfl, Nat.le_of_ble_eq_true rfl⟩ rfl rfl (Nat.le_of_ble_eq_true rfl) dX8_rounds_81 rfl hf (fun v8 hf => ?_)
        refine G_istore (lv' := [(0, .ref (za ω 0)), (1, .int b1), (2, .int b2), (3, .int y3), (4, .int y4), (5, .int y5), (6, .int v6), (7, .int v8)]) (pc' := 86) C dX8_rounds_84 (by decide) [1, 2, 3, 4, 5, 6, 7, 0] rfl rfl ?_
        refine G_iload_n (pc' := 87) C dX8_rounds_86 3 rfl rfl ?_
        refine G_iconst (v := (-1 : Int32)) (pc' := 88) C dX8_rounds_87 (by decide) rfl ?_
        refine G_icmp_eq (tgt := 119) (pc' := 91) C dX8_rounds_88 (by decide) rfl hf (fun hf => ?_) (fun hf => ?_)
        · refine G_iload (pc' := 121) C dX8_rounds_119 6 rfl rfl ?_
          refine G_istore_n (lv' := [(0, .ref (za ω 0)), (1, .int b1), (2, .int b2), (3, .int v6), (5, .int y5), (7, .int v8)]) (pc' := 122) C dX8_rounds_121 (by decide) [1, 2, 3, 0, 5, 7] rfl rfl ?_
          refine G_iload (pc' := 124) C dX8_rounds_122 5 rfl rfl ?_
          refine G_istore (lv' := [(0, .ref (za ω 0)), (1, .int b1), (2, .int b2), (3, .int v6), (4, .int v8), (5, .int y5)]) (pc' := 126) C dX8_rounds_124 (by decide) [1, 2, 3, 4, 0, 5] rfl rfl ?_
          refine G_iincL (v := y5 + (1 : Int32)) (pc' := 129) C dX8_rounds_126 5 rfl rfl (by decide) [1, 2, 3, 4, 5, 0] (fun x9 => [(0, .ref (za ω 0)), (1, .int b1), (2, .int b2), (3, .int v6), (4, .int v8), (5, .int x9)]) (fun _ => rfl) rfl hf (fun x9 hf => ?_)
          refine G_goto (pc' := 46) C dX8_rounds_129 (by decide) ?_
          exact ih v6 v8 x9 hf
        · refine G_iload (pc' := 93) C dX8_rounds_91 7 rfl rfl ?_
          refine G_iload (pc' := 95) C dX8_rounds_93 4 rfl rfl ?_
          refine G_icmp_gt (tgt := 126) (pc' := 98) C dX8_rounds_95 (by decide) rfl hf (fun hf => ?_) (fun hf => ?_)
          · refine G_iincL (v := y5 + (1 : Int32)) (pc' := 129) C dX8_rounds_126 5 rfl rfl (by decide) [1, 2, 3, 4, 5, 0] (fun x10 => [(0, .ref (za ω 0)), (1, .int b1), (2, .int b2), (3, .int y3), (4, .int y4), (5, .int x10)]) (fun _ => rfl) rfl hf (fun x10 hf => ?_)
            refine G_goto (pc' := 46) C dX8_rounds_129 (by decide) ?_
            exact ih y3 y4 x10 hf
          · refine G_iload (pc' := 100) C dX8_rounds_98 7 rfl rfl ?_
            refine G_iload (pc' := 102) C dX8_rounds_100 4 rfl rfl ?_
            refine G_icmp_ne (tgt := 119) (pc' := 105) C dX8_rounds_102 (by decide) rfl hf (fun hf => ?_) (fun hf => ?_)
            · refine G_aload_n (pc' := 106) C dX8_rounds_105 0 rfl rfl ?_
              refine G_iload_n (pc' := 107) C dX8_rounds_106 1 rfl rfl ?_
              refine G_iload (pc' := 109) C dX8_rounds_107 6 rfl rfl ?_
              refine G_iload_n (pc' := 110) C dX8_rounds_109 3 rfl rfl ?_
              refine G_callVp (pc' := 113) C [.int b1, .int v6, .int y3] (c_X8_isFirst ω N σ b1 v6 y3) sg_X8_isFirst gX8_rounds_X8_isFirst wM_0 rfl ⟨Nat.le_of_ble_eq_true rfl, Nat.le_of_ble_eq_true rfl⟩ rfl rfl (Nat.le_of_ble_eq_true rfl) dX8_rounds_110 rfl hf (fun v11 hf => ?_)
              refine G_if_eq (tgt := 119) (pc' := 116) C dX8_rounds_113 (by decide) rfl hf (fun hf => ?_) (fun hf => ?_)
              · refine G_iload (pc' := 121) C dX8_rounds_119 6 rfl rfl ?_
                refine G_istore_n (lv' := [(0, .ref (za ω 0)), (1, .int b1), (2, .int b2), (3, .int v6), (5, .int y5), (7, .int v8)]) (pc' := 122) C dX8_rounds_121 (by decide) [1, 2, 3, 0, 5, 7] rfl rfl ?_
                refine G_iload (pc' := 124) C dX8_rounds_122 5 rfl rfl ?_
                refine G_istore (lv' := [(0, .ref (za ω 0)), (1, .int b1), (2, .int b2), (3, .int v6), (4, .int v8), (5, .int y5)]) (pc' := 126) C dX8_rounds_124 (by decide) [1, 2, 3, 4, 0, 5] rfl rfl ?_
                refine G_iincL (v := y5 + (1 : Int32)) (pc' := 129) C dX8_rounds_126 5 rfl rfl (by decide) [1, 2, 3, 4, 5, 0] (fun x12 => [(0, .ref (za ω 0)), (1, .int b1), (2, .int b2), (3, .int v6), (4, .int v8), (5, .int x12)]) (fun _ => rfl) rfl hf (fun x12 hf => ?_)
                refine G_goto (pc' := 46) C dX8_rounds_129 (by decide) ?_
                exact ih v6 v8 x12 hf
              · refine G_goto (pc' := 126) C dX8_rounds_116 (by decide) ?_
                refine G_iincL (v := y5 + (1 : Int32)) (pc' := 129) C dX8_rounds_126 5 rfl rfl (by decide) [1, 2, 3, 4, 5, 0] (fun x13 => [(0, .ref (za ω 0)), (1, .int b1), (2, .int b2), (3, .int y3), (4, .int y4), (5, .int x13)]) (fun _ => rfl) rfl hf (fun x13 hf => ?_)
                refine G_goto (pc' := 46) C dX8_rounds_129 (by decide) ?_
                exact ih y3 y4 x13 hf
            · refine G_iload (pc' := 121) C dX8_rounds_119 6 rfl rfl ?_
              refine G_istore_n (lv' := [(0, .ref (za ω 0)), (1, .int b1), (2, .int b2), (3, .int v6), (5, .int y5), (7, .int v8)]) (pc' := 122) C dX8_rounds_121 (by decide) [1, 2, 3, 0, 5, 7] rfl rfl ?_
              refine G_iload (pc' := 124) C dX8_rounds_122 5 rfl rfl ?_
              refine G_istore (lv' := [(0, .ref (za ω 0)), (1, .int b1), (2, .int b2), (3, .int v6), (4, .int v8), (5, .int y5)]) (pc' := 126) C dX8_rounds_124 (by decide) [1, 2, 3, 4, 0, 5] rfl rfl ?_
              refine G_iincL (v := y5 + (1 : Int32)) (pc' := 129) C dX8_rounds_126 5 rfl rfl (by decide) [1, 2, 3, 4, 5, 0] (fun x14 => [(0, .ref (za ω 0)), (1, .int b1), (2, .int b2), (3, .int v6), (4, .int v8), (5, .int x14)]) (fun _ => rfl) rfl hf (fun x14 hf => ?_)
              refine G_goto (pc' := 46) C dX8_rounds_129 (by decide) ?_
              exact ih v6 v8 x14 hf
      · refine G_goto (pc' := 126) C dX8_rounds_74 (by decide) ?_
        refine G_iincL (v := y5 + (1 : Int32)) (pc' := 129) C dX8_rounds_126 5 rfl rfl (by decide) [1, 2, 3, 4, 5, 0] (fun x15 => [(0, .ref (za ω 0)), (1, .int b1), (2, .int b2), (3, .int y3), (4, .int y4), (5, .int x15)]) (fun _ => rfl) rfl hf (fun x15 hf => ?_)
        refine G_goto (pc' := 46) C dX8_rounds_129 (by decide) ?_
        exact ih y3 y4 x15 hf
set_option maxHeartbeats 4000000 in
set_option maxRecDepth 100000 in
theorem w_X8_rounds_30 {ω : ZO} {κ : ZK} {N : Nat} {b1 : Int32} {K : Int32 → ZS → Option (ZS)} {r0 : ZS} (C : CX ω wM κ cX8_rounds wsX8_rounds RX8 none 8 rm_X8_rounds) (hR : zRV ω wM κ (fun τ => τ = r0)) (HK : ∀ (y2 : Int32) (τ : ZS), K y2 τ = some r0 → G ω wM κ 145 [(0, .ref (za ω 0))] [] τ) : ∀ (n : Nat) (y2 : Int32) (τ : ZS), L_X8_rounds_30 N b1 K n y2 τ = some r0 → G ω wM κ 30 [(0, .ref (za ω 0)), (1, .int b1), (2, .int y2)] [] τ := by
  intro n
  induction n with
  | zero => intro  y2 τ hf; exact absurd (show none = some r0 from hf) (fun h => nomatch h)
  | succ n ih =>
    intro y2 τ hf
    have hf : B_X8_rounds_30 N b1 K (L_X8_rounds_30 N b1 K n) y2 τ = some r0 := hf
    unfold B_X8_rounds_30 at hf
    refine G_iload_n (pc' := 31) C dX8_rounds_30 2 rfl rfl ?_
    refine G_aload_n (pc' := 32) C dX8_rounds_31 0 rfl rfl ?_
    refine G_get (pc' := 35) C wM_0 rfl 29 (by decide) rfl iu_X8_rounds_X8 lk_X8_rounds_167 dX8_rounds_32 rfl ?_
    refine G_icmp_ge (tgt := 145) (pc' := 38) C dX8_rounds_35 (by decide) rfl hf (fun hf => ?_) (fun hf => ?_)
    · refine G_sub (lv' := [(0, .ref (za ω 0))]) C [0] rfl ?_
      exact HK y2 τ hf
    · refine G_iconst (v := (-1 : Int32)) (pc' := 39) C dX8_rounds_38 (by decide) rfl ?_
      refine G_istore_n (lv' := [(0, .ref (za ω 0)), (1, .int b1), (2, .int y2), (3, .int (-1 : Int32))]) (pc' := 40) C dX8_rounds_39 (by decide) [1, 2, 3, 0] rfl rfl ?_
      refine G_iconst (v := (0 : Int32)) (pc' := 41) C dX8_rounds_40 (by decide) rfl ?_
      refine G_istore (lv' := [(0, .ref (za ω 0)), (1, .int b1), (2, .int y2), (3, .int (-1 : Int32)), (4, .int (0 : Int32))]) (pc' := 43) C dX8_rounds_41 (by decide) [1, 2, 3, 4, 0] rfl rfl ?_
      refine G_iconst (v := (0 : Int32)) (pc' := 44) C dX8_rounds_43 (by decide) rfl ?_
      refine G_istore (lv' := [(0, .ref (za ω 0)), (1, .int b1), (2, .int y2), (3, .int (-1 : Int32)), (4, .int (0 : Int32)), (5, .int (0 : Int32))]) (pc' := 46) C dX8_rounds_44 (by decide) [1, 2, 3, 4, 5, 0] rfl rfl ?_
      refine w_X8_rounds_46 C hR (fun y16 y17 y18 hf => ?_) N (-1 : Int32) (0 : Int32) (0 : Int32) hf
      refine G_aload_n (pc' := 133) C dX8_rounds_132 0 rfl rfl ?_
      refine G_get (pc' := 136) C wM_0 rfl 28 (by decide) rfl iu_X8_rounds_X8 lk_X8_rounds_84 dX8_rounds_133 rfl ?_
      refine G_iload_n (pc' := 137) C dX8_rounds_136 3 rfl rfl ?_
      refine G_iload_n (pc' := 138) C dX8_rounds_137 2 rfl rfl ?_
      refine G_iast (pc' := 139) C wM_25 wM_s25 dX8_rounds_138 rfl hf (fun s19 hf => ?_)
      refine G_iincL (v := y2 + (1 : Int32)) (pc' := 142) C dX8_rounds_139 2 rfl rfl (by decide) [1, 2, 0] (fun x20 => [(0, .ref (za ω 0)), (1, .int b1), (2, .int x20)]) (fun _ => rfl) rfl hf (fun x20 hf => ?_)
      refine G_goto (pc' := 30) C dX8_rounds_142 (by decide) ?_
      exact ih x20 s19 hf
set_option maxHeartbeats 4000000 in
set_option maxRecDepth 100000 in
theorem w_X8_rounds_147 {ω : ZO} {κ : ZK} {N : Nat} {K : Int32 → ZS → Option (ZS)} {r0 : ZS} (C : CX ω wM κ cX8_rounds wsX8_rounds RX8 none 8 rm_X8_rounds) (hR : zRV ω wM κ (fun τ => τ = r0)) (HK : ∀ (y2 : Int32) (τ : ZS), K y2 τ = some r0 → G ω wM κ 190 [(0, .ref (za ω 0))] [] τ) : ∀ (n : Nat) (y2 : Int32) (τ : ZS), L_X8_rounds_147 N K n y2 τ = some r0 → G ω wM κ 147 [(0, .ref (za ω 0)), (2, .int y2)] [] τ := by
  intro n
  induction n with
  | zero => intro  y2 τ hf; exact absurd (show none = some r0 from hf) (fun h => nomatch h)
  | succ n ih =>
    intro y2 τ hf
    have hf : B_X8_rounds_147 N K (L_X8_rounds_147 N K n) y2 τ = some r0 := hf
    unfold B_X8_rounds_147 at hf
    refine G_iload_n (pc' := 148) C dX8_rounds_147 1 rfl rfl ?_
    refine G_aload_n (pc' := 149) C dX8_rounds_148 0 rfl rfl ?_
    refine G_get (pc' := 152) C wM_0 rfl 29 (by decide) rfl iu_X8_rounds_X8 lk_X8_rounds_167 dX8_rounds_149 rfl ?_
    refine G_icmp_ge (tgt := 190) (pc' := 155) C dX8_rounds_152 (by decide) rfl hf (fun hf => ?_) (fun hf => ?_)
    · refine G_sub (lv' := [(0, .ref (za ω 0))]) C [0] rfl ?_
      exact HK y2 τ hf
    · refine G_aload_n (pc' := 156) C dX8_rounds_155 0 rfl rfl ?_
      refine G_get (pc' := 159) C wM_0 rfl 28 (by decide) rfl iu_X8_rounds_X8 lk_X8_rounds_84 dX8_rounds_156 rfl ?_
      refine G_aload_n (pc' := 160) C dX8_rounds_159 0 rfl rfl ?_
      refine G_get (pc' := 163) C wM_0 rfl 24 (by decide) rfl iu_X8_rounds_X8 lk_X8_rounds_72 dX8_rounds_160 rfl ?_
      refine G_iload_n (pc' := 164) C dX8_rounds_163 1 rfl rfl ?_
      refine G_iald (pc' := 165) C wM_21 dX8_rounds_164 rfl hf (fun v23 hf => ?_)
      refine G_iald (pc' := 166) C wM_25 dX8_rounds_165 rfl hf (fun v24 hf => ?_)
      refine G_if_ne (tgt := 184) (pc' := 169) C dX8_rounds_166 (by decide) rfl hf (fun hf => ?_) (fun hf => ?_)
      · refine G_aload_n (pc' := 170) C dX8_rounds_169 0 rfl rfl ?_
        refine G_get (pc' := 173) C wM_0 rfl 28 (by decide) rfl iu_X8_rounds_X8 lk_X8_rounds_84 dX8_rounds_170 rfl ?_
        refine G_aload_n (pc' := 174) C dX8_rounds_173 0 rfl rfl ?_
        refine G_get (pc' := 177) C wM_0 rfl 24 (by decide) rfl iu_X8_rounds_X8 lk_X8_rounds_72 dX8_rounds_174 rfl ?_
        refine G_iload_n (pc' := 178) C dX8_rounds_177 1 rfl rfl ?_
        refine G_iald (pc' := 179) C wM_21 dX8_rounds_178 rfl hf (fun v25 hf => ?_)
        refine G_aload_n (pc' := 180) C dX8_rounds_179 0 rfl rfl ?_
        refine G_get (pc' := 183) C wM_0 rfl 29 (by decide) rfl iu_X8_rounds_X8 lk_X8_rounds_167 dX8_rounds_180 rfl ?_
        refine G_iast (pc' := 184) C wM_25 wM_s25 dX8_rounds_183 rfl hf (fun s26 hf => ?_)
        refine G_iincL (v := y2 + (1 : Int32)) (pc' := 187) C dX8_rounds_184 1 rfl rfl (by decide) [1, 0] (fun x27 => [(0, .ref (za ω 0)), (2, .int x27)]) (fun _ => rfl) rfl hf (fun x27 hf => ?_)
        refine G_goto (pc' := 147) C dX8_rounds_187 (by decide) ?_
        exact ih x27 s26 hf
      · refine G_iincL (v := y2 + (1 : Int32)) (pc' := 187) C dX8_rounds_184 1 rfl rfl (by decide) [1, 0] (fun x28 => [(0, .ref (za ω 0)), (2, .int x28)]) (fun _ => rfl) rfl hf (fun x28 hf => ?_)
        refine G_goto (pc' := 147) C dX8_rounds_187 (by decide) ?_
        exact ih x28 τ hf
set_option maxHeartbeats 4000000 in
set_option maxRecDepth 100000 in
theorem c_X8_rounds (ω : ZO) (N : Nat) (σ : ZS) (a1 : Int32) : ZVs ω wM yX8_rounds wsX8_rounds rm_X8_rounds [.ref (za ω 0), .int a1] σ (f_X8_rounds N σ a1) := by
  intro r0 hf
  refine ZV.go (cc := cX8_rounds) (maxL := 8) (ret := none) (own := RX8) (lv := [(0, .ref (za ω 0)), (1, .int a1)]) (by decide) rfl rfl (Nat.le_of_ble_eq_true rfl) rfl (fun κ C hR => ?_)
  unfold f_X8_rounds at hf
  refine G_iconst (v := (0 : Int32)) (pc' := 1) C dX8_rounds_0 (by decide) rfl ?_
  refine G_istore_n (lv' := [(0, .ref (za ω 0)), (1, .int a1), (2, .int (0 : Int32))]) (pc' := 2) C dX8_rounds_1 (by decide) [1, 2, 0] rfl rfl ?_
  refine w_X8_rounds_2 C hR (fun y4 s5 hf => ?_) N (0 : Int32) σ hf
  refine G_iconst (v := (1 : Int32)) (pc' := 29) C dX8_rounds_28 (by decide) rfl ?_
  refine G_istore_n (lv' := [(0, .ref (za ω 0)), (1, .int a1), (2, .int (1 : Int32))]) (pc' := 30) C dX8_rounds_29 (by decide) [1, 2, 0] rfl rfl ?_
  refine w_X8_rounds_30 C hR (fun y21 s22 hf => ?_) N (1 : Int32) s5 hf
  refine G_iconst (v := (0 : Int32)) (pc' := 146) C dX8_rounds_145 (by decide) rfl ?_
  refine G_istore_n (lv' := [(0, .ref (za ω 0)), (2, .int (0 : Int32))]) (pc' := 147) C dX8_rounds_146 (by decide) [1, 0] rfl rfl ?_
  refine w_X8_rounds_147 C hR (fun y29 s30 hf => ?_) N (0 : Int32) s22 hf
  exact G_vret C hR dX8_rounds_190 (Option.some.inj hf)
theorem iu_X8_worthOf_X8 : ∀ w ∈ wsX80, w ∈ wsX8_worthOf := by decide +kernel
theorem lk_X8_worthOf_78 : Cond.fieldLink RX8 78 "PrizeDeskModel" "points" "[I" ∈ wsX8_worthOf := by decide +kernel
theorem lk_X8_worthOf_81 : Cond.fieldLink RX8 81 "PrizeDeskModel" "score" "[I" ∈ wsX8_worthOf := by decide +kernel
theorem lk_X8_worthOf_84 : Cond.fieldLink RX8 84 "PrizeDeskModel" "round" "[I" ∈ wsX8_worthOf := by decide +kernel
abbrev rm_X8_worthOf : Room := { frames := 0, cells := 0, slots := 0, locals := 0 }
theorem sg_X8_worthOf : ZG yX8_worthOf wsX8_worthOf cX8_worthOf 3 (some .int) RX8 2 rm_X8_worthOf := ⟨⟨_, rfl⟩, by decide +kernel, rfl, rfl⟩
set_option maxHeartbeats 4000000 in
set_option maxRecDepth 100000 in
theorem c_X8_worthOf (ω : ZO) (N : Nat) (σ : ZS) (a1 : Int32) (a2 : Int32) : ZIp ω wM yX8_worthOf wsX8_worthOf rm_X8_worthOf [.ref (za ω 0), .int a1, .int a2] σ (f_X8_worthOf N σ a1 a2) := by
  intro r0 hf
  refine ZI.go (cc := cX8_worthOf) (maxL := 3) (ret := (some .int)) (own := RX8) (lv := [(0, .ref (za ω 0)), (1, .int a1), (2, .int a2)]) (by decide) rfl rfl (Nat.le_of_ble_eq_true rfl) rfl (fun κ C hR => ?_)
  unfold f_X8_worthOf at hf
  refine G_iload_n (pc' := 1) C dX8_worthOf_0 1 rfl rfl ?_
  refine G_if_ne (tgt := 13) (pc' := 4) C dX8_worthOf_1 (by decide) rfl hf (fun hf => ?_) (fun hf => ?_)
  · refine G_aload_n (pc' := 5) C dX8_worthOf_4 0 rfl rfl ?_
    refine G_get (pc' := 8) C wM_0 rfl 26 (by decide) rfl iu_X8_worthOf_X8 lk_X8_worthOf_78 dX8_worthOf_5 rfl ?_
    refine G_iload_n (pc' := 9) C dX8_worthOf_8 2 rfl rfl ?_
    refine G_iald (pc' := 10) C wM_23 dX8_worthOf_9 rfl hf (fun v1 hf => ?_)
    refine G_goto (pc' := 37) C dX8_worthOf_10 (by decide) ?_
    exact G_iret C hR dX8_worthOf_37 ⟨Option.some.inj hf, rfl⟩
  · refine G_iload_n (pc' := 14) C dX8_worthOf_13 1 rfl rfl ?_
    refine G_iconst (v := (1 : Int32)) (pc' := 15) C dX8_worthOf_14 (by decide) rfl ?_
    refine G_icmp_ne (tgt := 31) (pc' := 18) C dX8_worthOf_15 (by decide) rfl hf (fun hf => ?_) (fun hf => ?_)
    · refine G_aload_n (pc' := 19) C dX8_worthOf_18 0 rfl rfl ?_
      refine G_get (pc' := 22) C wM_0 rfl 27 (by decide) rfl iu_X8_worthOf_X8 lk_X8_worthOf_81 dX8_worthOf_19 rfl ?_
      refine G_iload_n (pc' := 23) C dX8_worthOf_22 2 rfl rfl ?_
      refine G_iald (pc' := 24) C wM_24 dX8_worthOf_23 rfl hf (fun v2 hf => ?_)
      refine G_sipush (v := (1000 : Int32)) (pc' := 27) C dX8_worthOf_24 (by decide) rfl ?_
      refine G_iadd (pc' := 28) C dX8_worthOf_27 rfl ?_
      refine G_goto (pc' := 37) C dX8_worthOf_28 (by decide) ?_
      exact G_iret C hR dX8_worthOf_37 ⟨Option.some.inj hf, rfl⟩
    · refine G_aload_n (pc' := 32) C dX8_worthOf_31 0 rfl rfl ?_
      refine G_get (pc' := 35) C wM_0 rfl 28 (by decide) rfl iu_X8_worthOf_X8 lk_X8_worthOf_84 dX8_worthOf_32 rfl ?_
      refine G_iload_n (pc' := 36) C dX8_worthOf_35 2 rfl rfl ?_
      refine G_iald (pc' := 37) C wM_25 dX8_worthOf_36 rfl hf (fun v3 hf => ?_)
      exact G_iret C hR dX8_worthOf_37 ⟨Option.some.inj hf, rfl⟩
theorem iu_X8_orders_X8 : ∀ w ∈ wsX80, w ∈ wsX8_orders := by decide +kernel
theorem lk_X8_orders_75 : Cond.fieldLink RX8 75 "PrizeDeskModel" "order" "[I" ∈ wsX8_orders := by decide +kernel
theorem lk_X8_orders_72 : Cond.fieldLink RX8 72 "PrizeDeskModel" "list" "[I" ∈ wsX8_orders := by decide +kernel
theorem lk_X8_orders_167 : Cond.fieldLink RX8 167 "PrizeDeskModel" "listMany" "I" ∈ wsX8_orders := by decide +kernel
abbrev rm_X8_orders : Room := { frames := 4, cells := 0, slots := 0, locals := 105 }
theorem sg_X8_orders : ZG yX8_orders wsX8_orders cX8_orders 6 none RX8 2 rm_X8_orders := ⟨⟨_, rfl⟩, by decide +kernel, rfl, rfl⟩
set_option maxHeartbeats 4000000 in
set_option maxRecDepth 100000 in
theorem w_X8_orders_31 {ω : ZO} {κ : ZK} {N : Nat} {b1 : Int32} {b2 : Int32} {b3 : Int32} {b4 : Int32} {K : Int32 → ZS → Option (ZS)} {r0 : ZS} (C : CX ω wM κ cX8_orders wsX8_orders RX8 none 6 rm_X8_orders) (hR : zRV ω wM κ (fun τ => τ = r0)) (HK : ∀ (y5 : Int32) (τ : ZS), K y5 τ = some r0 → G ω wM κ 128 [(0, .ref (za ω 0)), (1, .int b1), (2, .int b2), (3, .int b3), (4, .int b4), (5, .int y5)] [] τ) : ∀ (n : Nat) (y5 : Int32) (τ : ZS), L_X8_orders_31 N b1 b2 b3 b4 K n y5 τ = some r0 → G ω wM κ 31 [(0, .ref (za ω 0)), (1, .int b1), (2, .int b2), (3, .int b3), (4, .int b4), (5, .int y5)] [] τ := by
  intro n
  induction n with
  | zero => intro  y5 τ hf; exact absurd (show none = some r0 from hf) (fun h => nomatch h)
  | succ n ih =>
    intro y5 τ hf
    have hf : B_X8_orders_31 N b1 b2 b3 b4 K (L_X8_orders_31 N b1 b2 b3 b4 K n) y5 τ = some r0 := hf
    unfold B_X8_orders_31 at hf
    refine G_iload (pc' := 33) C dX8_orders_31 5 rfl rfl ?_
    refine G_if_le (tgt := 128) (pc' := 36) C dX8_orders_33 (by decide) rfl hf (fun hf => ?_) (fun hf => ?_)
    · exact HK y5 τ hf
    · refine G_aload_n (pc' := 37) C dX8_orders_36 0 rfl rfl ?_
      refine G_iload_n (pc' := 38) C dX8_orders_37 2 rfl rfl ?_
      refine G_iload (pc' := 40) C dX8_orders_38 4 rfl rfl ?_
      refine G_callVp (pc' := 43) C [.int b2, .int b4] (c_X8_worthOf ω N τ b2 b4) sg_X8_worthOf gX8_orders_X8_worthOf wM_0 rfl ⟨Nat.le_of_ble_eq_true rfl, Nat.le_of_ble_eq_true rfl⟩ rfl rfl (Nat.le_of_ble_eq_true rfl) dX8_orders_40 rfl hf (fun v4 hf => ?_)
      refine G_aload_n (pc' := 44) C dX8_orders_43 0 rfl rfl ?_
      refine G_iload_n (pc' := 45) C dX8_orders_44 2 rfl rfl ?_
      refine G_aload_n (pc' := 46) C dX8_orders_45 0 rfl rfl ?_
      refine G_get (pc' := 49) C wM_0 rfl 25 (by decide) rfl iu_X8_orders_X8 lk_X8_orders_75 dX8_orders_46 rfl ?_
      refine G_iload (pc' := 51) C dX8_orders_49 5 rfl rfl ?_
      refine G_iconst (v := (1 : Int32)) (pc' := 52) C dX8_orders_51 (by decide) rfl ?_
      refine G_isub (pc' := 53) C dX8_orders_52 rfl ?_
      refine G_iald (pc' := 54) C wM_22 dX8_orders_53 rfl hf (fun v5 hf => ?_)
      refine G_callVp (pc' := 57) C [.int b2, .int v5] (c_X8_worthOf ω N τ b2 v5) sg_X8_worthOf gX8_orders_X8_worthOf wM_0 rfl ⟨Nat.le_of_ble_eq_true rfl, Nat.le_of_ble_eq_true rfl⟩ rfl rfl (Nat.le_of_ble_eq_true rfl) dX8_orders_54 rfl hf (fun v6 hf => ?_)
      refine G_icmp_gt (tgt := 103) (pc' := 60) C dX8_orders_57 (by decide) rfl hf (fun hf => ?_) (fun hf => ?_)
      · refine G_aload_n (pc' := 104) C dX8_orders_103 0 rfl rfl ?_
        refine G_get (pc' := 107) C wM_0 rfl 25 (by decide) rfl iu_X8_orders_X8 lk_X8_orders_75 dX8_orders_104 rfl ?_
        refine G_iload (pc' := 109) C dX8_orders_107 5 rfl rfl ?_
        refine G_aload_n (pc' := 110) C dX8_orders_109 0 rfl rfl ?_
        refine G_get (pc' := 113) C wM_0 rfl 25 (by decide) rfl iu_X8_orders_X8 lk_X8_orders_75 dX8_orders_110 rfl ?_
        refine G_iload (pc' := 115) C dX8_orders_113 5 rfl rfl ?_
        refine G_iconst (v := (1 : Int32)) (pc' := 116) C dX8_orders_115 (by decide) rfl ?_
        refine G_isub (pc' := 117) C dX8_orders_116 rfl ?_
        refine G_iald (pc' := 118) C wM_22 dX8_orders_117 rfl hf (fun v7 hf => ?_)
        refine G_iast (pc' := 119) C wM_22 wM_s22 dX8_orders_118 rfl hf (fun s8 hf => ?_)
        refine G_iload (pc' := 121) C dX8_orders_119 5 rfl rfl ?_
        refine G_iconst (v := (1 : Int32)) (pc' := 122) C dX8_orders_121 (by decide) rfl ?_
        refine G_isub (pc' := 123) C dX8_orders_122 rfl ?_
        refine G_nm hf (fun x9 hf => ?_)
        refine G_istore (lv' := [(0, .ref (za ω 0)), (1, .int b1), (2, .int b2), (3, .int b3), (4, .int b4), (5, .int x9)]) (pc' := 125) C dX8_orders_123 (by decide) [1, 2, 3, 4, 5, 0] rfl rfl ?_
        refine G_goto (pc' := 31) C dX8_orders_125 (by decide) ?_
        exact ih x9 s8 hf
      · refine G_aload_n (pc' := 61) C dX8_orders_60 0 rfl rfl ?_
        refine G_iload_n (pc' := 62) C dX8_orders_61 2 rfl rfl ?_
        refine G_iload (pc' := 64) C dX8_orders_62 4 rfl rfl ?_
        refine G_callVp (pc' := 67) C [.int b2, .int b4] (c_X8_worthOf ω N τ b2 b4) sg_X8_worthOf gX8_orders_X8_worthOf wM_0 rfl ⟨Nat.le_of_ble_eq_true rfl, Nat.le_of_ble_eq_true rfl⟩ rfl rfl (Nat.le_of_ble_eq_true rfl) dX8_orders_64 rfl hf (fun v10 hf => ?_)
        refine G_aload_n (pc' := 68) C dX8_orders_67 0 rfl rfl ?_
        refine G_iload_n (pc' := 69) C dX8_orders_68 2 rfl rfl ?_
        refine G_aload_n (pc' := 70) C dX8_orders_69 0 rfl rfl ?_
        refine G_get (pc' := 73) C wM_0 rfl 25 (by decide) rfl iu_X8_orders_X8 lk_X8_orders_75 dX8_orders_70 rfl ?_
        refine G_iload (pc' := 75) C dX8_orders_73 5 rfl rfl ?_
        refine G_iconst (v := (1 : Int32)) (pc' := 76) C dX8_orders_75 (by decide) rfl ?_
        refine G_isub (pc' := 77) C dX8_orders_76 rfl ?_
        refine G_iald (pc' := 78) C wM_22 dX8_orders_77 rfl hf (fun v11 hf => ?_)
        refine G_callVp (pc' := 81) C [.int b2, .int v11] (c_X8_worthOf ω N τ b2 v11) sg_X8_worthOf gX8_orders_X8_worthOf wM_0 rfl ⟨Nat.le_of_ble_eq_true rfl, Nat.le_of_ble_eq_true rfl⟩ rfl rfl (Nat.le_of_ble_eq_true rfl) dX8_orders_78 rfl hf (fun v12 hf => ?_)
        refine G_icmp_ne (tgt := 128) (pc' := 84) C dX8_orders_81 (by decide) rfl hf (fun hf => ?_) (fun hf => ?_)
        · refine G_aload_n (pc' := 85) C dX8_orders_84 0 rfl rfl ?_
          refine G_iload_n (pc' := 86) C dX8_orders_85 1 rfl rfl ?_
          refine G_iload (pc' := 88) C dX8_orders_86 4 rfl rfl ?_
          refine G_aload_n (pc' := 89) C dX8_orders_88 0 rfl rfl ?_
          refine G_get (pc' := 92) C wM_0 rfl 25 (by decide) rfl iu_X8_orders_X8 lk_X8_orders_75 dX8_orders_89 rfl ?_
          refine G_iload (pc' := 94) C dX8_orders_92 5 rfl rfl ?_
          refine G_iconst (v := (1 : Int32)) (pc' := 95) C dX8_orders_94 (by decide) rfl ?_
          refine G_isub (pc' := 96) C dX8_orders_95 rfl ?_
          refine G_iald (pc' := 97) C wM_22 dX8_orders_96 rfl hf (fun v13 hf => ?_)
          refine G_callVp (pc' := 100) C [.int b1, .int b4, .int v13] (c_X8_isFirst ω N τ b1 b4 v13) sg_X8_isFirst gX8_orders_X8_isFirst wM_0 rfl ⟨Nat.le_of_ble_eq_true rfl, Nat.le_of_ble_eq_true rfl⟩ rfl rfl (Nat.le_of_ble_eq_true rfl) dX8_orders_97 rfl hf (fun v14 hf => ?_)
          refine G_if_eq (tgt := 128) (pc' := 103) C dX8_orders_100 (by decide) rfl hf (fun hf => ?_) (fun hf => ?_)
          · exact HK y5 τ hf
          · refine G_aload_n (pc' := 104) C dX8_orders_103 0 rfl rfl ?_
            refine G_get (pc' := 107) C wM_0 rfl 25 (by decide) rfl iu_X8_orders_X8 lk_X8_orders_75 dX8_orders_104 rfl ?_
            refine G_iload (pc' := 109) C dX8_orders_107 5 rfl rfl ?_
            refine G_aload_n (pc' := 110) C dX8_orders_109 0 rfl rfl ?_
            refine G_get (pc' := 113) C wM_0 rfl 25 (by decide) rfl iu_X8_orders_X8 lk_X8_orders_75 dX8_orders_110 rfl ?_
            refine G_iload (pc' := 115) C dX8_orders_113 5 rfl rfl ?_
            refine G_iconst (v := (1 : Int32)) (pc' := 116) C dX8_orders_115 (by decide) rfl ?_
            refine G_isub (pc' := 117) C dX8_orders_116 rfl ?_
            refine G_iald (pc' := 118) C wM_22 dX8_orders_117 rfl hf (fun v15 hf => ?_)
            refine G_iast (pc' := 119) C wM_22 wM_s22 dX8_orders_118 rfl hf (fun s16 hf => ?_)
            refine G_iload (pc' := 121) C dX8_orders_119 5 rfl rfl ?_
            refine G_iconst (v := (1 : Int32)) (pc' := 122) C dX8_orders_121 (by decide) rfl ?_
            refine G_isub (pc' := 123) C dX8_orders_122 rfl ?_
            refine G_nm hf (fun x17 hf => ?_)
            refine G_istore (lv' := [(0, .ref (za ω 0)), (1, .int b1), (2, .int b2), (3, .int b3), (4, .int b4), (5, .int x17)]) (pc' := 125) C dX8_orders_123 (by decide) [1, 2, 3, 4, 5, 0] rfl rfl ?_
            refine G_goto (pc' := 31) C dX8_orders_125 (by decide) ?_
            exact ih x17 s16 hf
        · exact HK y5 τ hf
set_option maxHeartbeats 4000000 in
set_option maxRecDepth 100000 in
theorem w_X8_orders_12 {ω : ZO} {κ : ZK} {N : Nat} {b1 : Int32} {b2 : Int32} {K : Int32 → ZS → Option (ZS)} {r0 : ZS} (C : CX ω wM κ cX8_orders wsX8_orders RX8 none 6 rm_X8_orders) (hR : zRV ω wM κ (fun τ => τ = r0)) (HK : ∀ (y3 : Int32) (τ : ZS), K y3 τ = some r0 → G ω wM κ 143 [(0, .ref (za ω 0))] [] τ) : ∀ (n : Nat) (y3 : Int32) (τ : ZS), L_X8_orders_12 N b1 b2 K n y3 τ = some r0 → G ω wM κ 12 [(0, .ref (za ω 0)), (1, .int b1), (2, .int b2), (3, .int y3)] [] τ := by
  intro n
  induction n with
  | zero => intro  y3 τ hf; exact absurd (show none = some r0 from hf) (fun h => nomatch h)
  | succ n ih =>
    intro y3 τ hf
    have hf : B_X8_orders_12 N b1 b2 K (L_X8_orders_12 N b1 b2 K n) y3 τ = some r0 := hf
    unfold B_X8_orders_12 at hf
    refine G_iload_n (pc' := 13) C dX8_orders_12 3 rfl rfl ?_
    refine G_aload_n (pc' := 14) C dX8_orders_13 0 rfl rfl ?_
    refine G_get (pc' := 17) C wM_0 rfl 29 (by decide) rfl iu_X8_orders_X8 lk_X8_orders_167 dX8_orders_14 rfl ?_
    refine G_icmp_ge (tgt := 143) (pc' := 20) C dX8_orders_17 (by decide) rfl hf (fun hf => ?_) (fun hf => ?_)
    · refine G_sub (lv' := [(0, .ref (za ω 0))]) C [0] rfl ?_
      exact HK y3 τ hf
    · refine G_aload_n (pc' := 21) C dX8_orders_20 0 rfl rfl ?_
      refine G_get (pc' := 24) C wM_0 rfl 24 (by decide) rfl iu_X8_orders_X8 lk_X8_orders_72 dX8_orders_21 rfl ?_
      refine G_iload_n (pc' := 25) C dX8_orders_24 3 rfl rfl ?_
      refine G_iald (pc' := 26) C wM_21 dX8_orders_25 rfl hf (fun v3 hf => ?_)
      refine G_istore (lv' := [(0, .ref (za ω 0)), (1, .int b1), (2, .int b2), (3, .int y3), (4, .int v3)]) (pc' := 28) C dX8_orders_26 (by decide) [1, 2, 3, 4, 0] rfl rfl ?_
      refine G_iload_n (pc' := 29) C dX8_orders_28 3 rfl rfl ?_
      refine G_istore (lv' := [(0, .ref (za ω 0)), (1, .int b1), (2, .int b2), (3, .int y3), (4, .int v3), (5, .int y3)]) (pc' := 31) C dX8_orders_29 (by decide) [1, 2, 3, 4, 5, 0] rfl rfl ?_
      refine w_X8_orders_31 C hR (fun y18 s19 hf => ?_) N y3 τ hf
      refine G_aload_n (pc' := 129) C dX8_orders_128 0 rfl rfl ?_
      refine G_get (pc' := 132) C wM_0 rfl 25 (by decide) rfl iu_X8_orders_X8 lk_X8_orders_75 dX8_orders_129 rfl ?_
      refine G_iload (pc' := 134) C dX8_orders_132 5 rfl rfl ?_
      refine G_iload (pc' := 136) C dX8_orders_134 4 rfl rfl ?_
      refine G_iast (pc' := 137) C wM_22 wM_s22 dX8_orders_136 rfl hf (fun s20 hf => ?_)
      refine G_iincL (v := y3 + (1 : Int32)) (pc' := 140) C dX8_orders_137 3 rfl rfl (by decide) [1, 2, 3, 0] (fun x21 => [(0, .ref (za ω 0)), (1, .int b1), (2, .int b2), (3, .int x21)]) (fun _ => rfl) rfl hf (fun x21 hf => ?_)
      refine G_goto (pc' := 12) C dX8_orders_140 (by decide) ?_
      exact ih x21 s20 hf
set_option maxHeartbeats 4000000 in
set_option maxRecDepth 100000 in
theorem c_X8_orders (ω : ZO) (N : Nat) (σ : ZS) (a1 : Int32) (a2 : Int32) : ZVs ω wM yX8_orders wsX8_orders rm_X8_orders [.ref (za ω 0), .int a1, .int a2] σ (f_X8_orders N σ a1 a2) := by
  intro r0 hf
  refine ZV.go (cc := cX8_orders) (maxL := 6) (ret := none) (own := RX8) (lv := [(0, .ref (za ω 0)), (1, .int a1), (2, .int a2)]) (by decide) rfl rfl (Nat.le_of_ble_eq_true rfl) rfl (fun κ C hR => ?_)
  unfold f_X8_orders at hf
  refine G_aload_n (pc' := 1) C dX8_orders_0 0 rfl rfl ?_
  refine G_iload_n (pc' := 2) C dX8_orders_1 1 rfl rfl ?_
  refine G_callVv (pc' := 5) C [.int a1] (c_X8_weighs ω N σ a1) sg_X8_weighs gX8_orders_X8_weighs wM_0 rfl ⟨Nat.le_of_ble_eq_true rfl, Nat.le_of_ble_eq_true rfl⟩ rfl rfl (Nat.le_of_ble_eq_true rfl) dX8_orders_2 rfl hf (fun s1 hf => ?_)
  refine G_aload_n (pc' := 6) C dX8_orders_5 0 rfl rfl ?_
  refine G_iload_n (pc' := 7) C dX8_orders_6 1 rfl rfl ?_
  refine G_callVv (pc' := 10) C [.int a1] (c_X8_rounds ω N s1 a1) sg_X8_rounds gX8_orders_X8_rounds wM_0 rfl ⟨Nat.le_of_ble_eq_true rfl, Nat.le_of_ble_eq_true rfl⟩ rfl rfl (Nat.le_of_ble_eq_true rfl) dX8_orders_7 rfl hf (fun s2 hf => ?_)
  refine G_iconst (v := (0 : Int32)) (pc' := 11) C dX8_orders_10 (by decide) rfl ?_
  refine G_istore_n (lv' := [(0, .ref (za ω 0)), (1, .int a1), (2, .int a2), (3, .int (0 : Int32))]) (pc' := 12) C dX8_orders_11 (by decide) [1, 2, 3, 0] rfl rfl ?_
  refine w_X8_orders_12 C hR (fun y22 s23 hf => ?_) N (0 : Int32) s2 hf
  exact G_vret C hR dX8_orders_143 (Option.some.inj hf)
theorem iu_X8_makesShort_X8 : ∀ w ∈ wsX80, w ∈ wsX8_makesShort := by decide +kernel
theorem lk_X8_makesShort_66 : Cond.fieldLink RX8 66 "PrizeDeskModel" "longs" "[I" ∈ wsX8_makesShort := by decide +kernel
theorem lk_X8_makesShort_72 : Cond.fieldLink RX8 72 "PrizeDeskModel" "list" "[I" ∈ wsX8_makesShort := by decide +kernel
theorem lk_X8_makesShort_158 : Cond.fieldLink RX8 158 "PrizeDeskModel" "longMany" "I" ∈ wsX8_makesShort := by decide +kernel
theorem lk_X8_makesShort_75 : Cond.fieldLink RX8 75 "PrizeDeskModel" "order" "[I" ∈ wsX8_makesShort := by decide +kernel
theorem lk_X8_makesShort_69 : Cond.fieldLink RX8 69 "PrizeDeskModel" "shorts" "[I" ∈ wsX8_makesShort := by decide +kernel
theorem lk_X8_makesShort_174 : Cond.fieldLink RX8 174 "PrizeDeskModel" "shortMany" "I" ∈ wsX8_makesShort := by decide +kernel
theorem lk_X8_makesShort_13 : Cond.fieldLink RX8 13 "PrizeDeskModel" "rule" "[I" ∈ wsX8_makesShort := by decide +kernel
theorem lk_X8_makesShort_167 : Cond.fieldLink RX8 167 "PrizeDeskModel" "listMany" "I" ∈ wsX8_makesShort := by decide +kernel
abbrev rm_X8_makesShort : Room := { frames := 5, cells := 0, slots := 0, locals := 130 }
theorem sg_X8_makesShort : ZG yX8_makesShort wsX8_makesShort cX8_makesShort 2 none RX8 0 rm_X8_makesShort := ⟨⟨_, rfl⟩, by decide +kernel, rfl, rfl⟩
set_option maxHeartbeats 4000000 in
set_option maxRecDepth 100000 in
theorem w_X8_makesShort_6 {ω : ZO} {κ : ZK} {N : Nat} {K : Int32 → ZS → Option (ZS)} {r0 : ZS} (C : CX ω wM κ cX8_makesShort wsX8_makesShort RX8 none 2 rm_X8_makesShort) (hR : zRV ω wM κ (fun τ => τ = r0)) (HK : ∀ (y1 : Int32) (τ : ZS), K y1 τ = some r0 → G ω wM κ 32 [(0, .ref (za ω 0))] [] τ) : ∀ (n : Nat) (y1 : Int32) (τ : ZS), L_X8_makesShort_6 N K n y1 τ = some r0 → G ω wM κ 6 [(0, .ref (za ω 0)), (1, .int y1)] [] τ := by
  intro n
  induction n with
  | zero => intro  y1 τ hf; exact absurd (show none = some r0 from hf) (fun h => nomatch h)
  | succ n ih =>
    intro y1 τ hf
    have hf : B_X8_makesShort_6 N K (L_X8_makesShort_6 N K n) y1 τ = some r0 := hf
    unfold B_X8_makesShort_6 at hf
    refine G_iload_n (pc' := 7) C dX8_makesShort_6 1 rfl rfl ?_
    refine G_aload_n (pc' := 8) C dX8_makesShort_7 0 rfl rfl ?_
    refine G_get (pc' := 11) C wM_0 rfl 22 (by decide) rfl iu_X8_makesShort_X8 lk_X8_makesShort_158 dX8_makesShort_8 rfl ?_
    refine G_icmp_ge (tgt := 32) (pc' := 14) C dX8_makesShort_11 (by decide) rfl hf (fun hf => ?_) (fun hf => ?_)
    · refine G_sub (lv' := [(0, .ref (za ω 0))]) C [0] rfl ?_
      exact HK y1 τ hf
    · refine G_aload_n (pc' := 15) C dX8_makesShort_14 0 rfl rfl ?_
      refine G_get (pc' := 18) C wM_0 rfl 24 (by decide) rfl iu_X8_makesShort_X8 lk_X8_makesShort_72 dX8_makesShort_15 rfl ?_
      refine G_iload_n (pc' := 19) C dX8_makesShort_18 1 rfl rfl ?_
      refine G_aload_n (pc' := 20) C dX8_makesShort_19 0 rfl rfl ?_
      refine G_get (pc' := 23) C wM_0 rfl 20 (by decide) rfl iu_X8_makesShort_X8 lk_X8_makesShort_66 dX8_makesShort_20 rfl ?_
      refine G_iload_n (pc' := 24) C dX8_makesShort_23 1 rfl rfl ?_
      refine G_iald (pc' := 25) C wM_19 dX8_makesShort_24 rfl hf (fun v2 hf => ?_)
      refine G_iast (pc' := 26) C wM_21 wM_s21 dX8_makesShort_25 rfl hf (fun s3 hf => ?_)
      refine G_iincL (v := y1 + (1 : Int32)) (pc' := 29) C dX8_makesShort_26 1 rfl rfl (by decide) [1, 0] (fun x4 => [(0, .ref (za ω 0)), (1, .int x4)]) (fun _ => rfl) rfl hf (fun x4 hf => ?_)
      refine G_goto (pc' := 6) C dX8_makesShort_29 (by decide) ?_
      exact ih x4 s3 hf
set_option maxHeartbeats 4000000 in
set_option maxRecDepth 100000 in
theorem w_X8_makesShort_86 {ω : ZO} {κ : ZK} {N : Nat} {K : Int32 → ZS → Option (ZS)} {r0 : ZS} (C : CX ω wM κ cX8_makesShort wsX8_makesShort RX8 none 2 rm_X8_makesShort) (hR : zRV ω wM κ (fun τ => τ = r0)) (HK : ∀ (y1 : Int32) (τ : ZS), K y1 τ = some r0 → G ω wM κ 112 [(0, .ref (za ω 0))] [] τ) : ∀ (n : Nat) (y1 : Int32) (τ : ZS), L_X8_makesShort_86 N K n y1 τ = some r0 → G ω wM κ 86 [(0, .ref (za ω 0)), (1, .int y1)] [] τ := by
  intro n
  induction n with
  | zero => intro  y1 τ hf; exact absurd (show none = some r0 from hf) (fun h => nomatch h)
  | succ n ih =>
    intro y1 τ hf
    have hf : B_X8_makesShort_86 N K (L_X8_makesShort_86 N K n) y1 τ = some r0 := hf
    unfold B_X8_makesShort_86 at hf
    refine G_iload_n (pc' := 87) C dX8_makesShort_86 1 rfl rfl ?_
    refine G_aload_n (pc' := 88) C dX8_makesShort_87 0 rfl rfl ?_
    refine G_get (pc' := 91) C wM_0 rfl 23 (by decide) rfl iu_X8_makesShort_X8 lk_X8_makesShort_174 dX8_makesShort_88 rfl ?_
    refine G_icmp_ge (tgt := 112) (pc' := 94) C dX8_makesShort_91 (by decide) rfl hf (fun hf => ?_) (fun hf => ?_)
    · refine G_sub (lv' := [(0, .ref (za ω 0))]) C [0] rfl ?_
      exact HK y1 τ hf
    · refine G_aload_n (pc' := 95) C dX8_makesShort_94 0 rfl rfl ?_
      refine G_get (pc' := 98) C wM_0 rfl 21 (by decide) rfl iu_X8_makesShort_X8 lk_X8_makesShort_69 dX8_makesShort_95 rfl ?_
      refine G_iload_n (pc' := 99) C dX8_makesShort_98 1 rfl rfl ?_
      refine G_aload_n (pc' := 100) C dX8_makesShort_99 0 rfl rfl ?_
      refine G_get (pc' := 103) C wM_0 rfl 25 (by decide) rfl iu_X8_makesShort_X8 lk_X8_makesShort_75 dX8_makesShort_100 rfl ?_
      refine G_iload_n (pc' := 104) C dX8_makesShort_103 1 rfl rfl ?_
      refine G_iald (pc' := 105) C wM_22 dX8_makesShort_104 rfl hf (fun v13 hf => ?_)
      refine G_iast (pc' := 106) C wM_20 wM_s20 dX8_makesShort_105 rfl hf (fun s14 hf => ?_)
      refine G_iincL (v := y1 + (1 : Int32)) (pc' := 109) C dX8_makesShort_106 1 rfl rfl (by decide) [1, 0] (fun x15 => [(0, .ref (za ω 0)), (1, .int x15)]) (fun _ => rfl) rfl hf (fun x15 hf => ?_)
      refine G_goto (pc' := 86) C dX8_makesShort_109 (by decide) ?_
      exact ih x15 s14 hf
set_option maxHeartbeats 4000000 in
set_option maxRecDepth 100000 in
theorem c_X8_makesShort (ω : ZO) (N : Nat) (σ : ZS) : ZVs ω wM yX8_makesShort wsX8_makesShort rm_X8_makesShort [.ref (za ω 0)] σ (f_X8_makesShort N σ) := by
  intro r0 hf
  refine ZV.go (cc := cX8_makesShort) (maxL := 2) (ret := none) (own := RX8) (lv := [(0, .ref (za ω 0))]) (by decide) rfl rfl (Nat.le_of_ble_eq_true rfl) rfl (fun κ C hR => ?_)
  unfold f_X8_makesShort at hf
  refine G_aload_n (pc' := 1) C dX8_makesShort_0 0 rfl rfl ?_
  refine G_callVv (pc' := 4) C [] (c_X8_makesLong ω N σ) sg_X8_makesLong gX8_makesShort_X8_makesLong wM_0 rfl ⟨Nat.le_of_ble_eq_true rfl, Nat.le_of_ble_eq_true rfl⟩ rfl rfl (Nat.le_of_ble_eq_true rfl) dX8_makesShort_1 rfl hf (fun s1 hf => ?_)
  refine G_iconst (v := (0 : Int32)) (pc' := 5) C dX8_makesShort_4 (by decide) rfl ?_
  refine G_istore_n (lv' := [(0, .ref (za ω 0)), (1, .int (0 : Int32))]) (pc' := 6) C dX8_makesShort_5 (by decide) [1, 0] rfl rfl ?_
  refine w_X8_makesShort_6 C hR (fun y5 s6 hf => ?_) N (0 : Int32) s1 hf
  refine G_aload_n (pc' := 33) C dX8_makesShort_32 0 rfl rfl ?_
  refine G_aload_n (pc' := 34) C dX8_makesShort_33 0 rfl rfl ?_
  refine G_get (pc' := 37) C wM_0 rfl 22 (by decide) rfl iu_X8_makesShort_X8 lk_X8_makesShort_158 dX8_makesShort_34 rfl ?_
  refine G_put (pc' := 40) C tyX8 tyX8_ok nmX8 wM_0 rfl 29 (by decide) (Nat.le_of_ble_eq_true rfl) iu_X8_makesShort_X8 lk_X8_makesShort_167 rfl (by decide +kernel) wM_f0_29 dX8_makesShort_37 rfl hf (fun s7 hf => ?_)
  refine G_aload_n (pc' := 41) C dX8_makesShort_40 0 rfl rfl ?_
  refine G_iconst (v := (0 : Int32)) (pc' := 42) C dX8_makesShort_41 (by decide) rfl ?_
  refine G_aload_n (pc' := 43) C dX8_makesShort_42 0 rfl rfl ?_
  refine G_get (pc' := 46) C wM_0 rfl 2 (by decide) rfl iu_X8_makesShort_X8 lk_X8_makesShort_13 dX8_makesShort_43 rfl ?_
  refine G_bipush (v := (9 : Int32)) (pc' := 48) C dX8_makesShort_46 (by decide) rfl ?_
  refine G_iald (pc' := 49) C wM_2 dX8_makesShort_48 rfl hf (fun v8 hf => ?_)
  refine G_callVv (pc' := 52) C [.int (0 : Int32), .int v8] (c_X8_orders ω N s7 (0 : Int32) v8) sg_X8_orders gX8_makesShort_X8_orders wM_0 rfl ⟨Nat.le_of_ble_eq_true rfl, Nat.le_of_ble_eq_true rfl⟩ rfl rfl (Nat.le_of_ble_eq_true rfl) dX8_makesShort_49 rfl hf (fun s9 hf => ?_)
  refine G_aload_n (pc' := 53) C dX8_makesShort_52 0 rfl rfl ?_
  refine G_aload_n (pc' := 54) C dX8_makesShort_53 0 rfl rfl ?_
  refine G_get (pc' := 57) C wM_0 rfl 29 (by decide) rfl iu_X8_makesShort_X8 lk_X8_makesShort_167 dX8_makesShort_54 rfl ?_
  refine G_aload_n (pc' := 58) C dX8_makesShort_57 0 rfl rfl ?_
  refine G_get (pc' := 61) C wM_0 rfl 2 (by decide) rfl iu_X8_makesShort_X8 lk_X8_makesShort_13 dX8_makesShort_58 rfl ?_
  refine G_bipush (v := (8 : Int32)) (pc' := 63) C dX8_makesShort_61 (by decide) rfl ?_
  refine G_iald (pc' := 64) C wM_2 dX8_makesShort_63 rfl hf (fun v10 hf => ?_)
  refine G_icmp_ge (tgt := 74) (pc' := 67) C dX8_makesShort_64 (by decide) rfl hf (fun hf => ?_) (fun hf => ?_)
  · refine G_aload_n (pc' := 75) C dX8_makesShort_74 0 rfl rfl ?_
    refine G_get (pc' := 78) C wM_0 rfl 2 (by decide) rfl iu_X8_makesShort_X8 lk_X8_makesShort_13 dX8_makesShort_75 rfl ?_
    refine G_bipush (v := (8 : Int32)) (pc' := 80) C dX8_makesShort_78 (by decide) rfl ?_
    refine G_iald (pc' := 81) C wM_2 dX8_makesShort_80 rfl hf (fun v11 hf => ?_)
    refine G_put (pc' := 84) C tyX8 tyX8_ok nmX8 wM_0 rfl 23 (by decide) (Nat.le_of_ble_eq_true rfl) iu_X8_makesShort_X8 lk_X8_makesShort_174 rfl (by decide +kernel) wM_f0_23 dX8_makesShort_81 rfl hf (fun s12 hf => ?_)
    refine G_iconst (v := (0 : Int32)) (pc' := 85) C dX8_makesShort_84 (by decide) rfl ?_
    refine G_istore_n (lv' := [(0, .ref (za ω 0)), (1, .int (0 : Int32))]) (pc' := 86) C dX8_makesShort_85 (by decide) [1, 0] rfl rfl ?_
    refine w_X8_makesShort_86 C hR (fun y16 s17 hf => ?_) N (0 : Int32) s12 hf
    exact G_vret C hR dX8_makesShort_112 (Option.some.inj hf)
  · refine G_aload_n (pc' := 68) C dX8_makesShort_67 0 rfl rfl ?_
    refine G_get (pc' := 71) C wM_0 rfl 29 (by decide) rfl iu_X8_makesShort_X8 lk_X8_makesShort_167 dX8_makesShort_68 rfl ?_
    refine G_goto (pc' := 81) C dX8_makesShort_71 (by decide) ?_
    refine G_put (pc' := 84) C tyX8 tyX8_ok nmX8 wM_0 rfl 23 (by decide) (Nat.le_of_ble_eq_true rfl) iu_X8_makesShort_X8 lk_X8_makesShort_174 rfl (by decide +kernel) wM_f0_23 dX8_makesShort_81 rfl hf (fun s18 hf => ?_)
    refine G_iconst (v := (0 : Int32)) (pc' := 85) C dX8_makesShort_84 (by decide) rfl ?_
    refine G_istore_n (lv' := [(0, .ref (za ω 0)), (1, .int (0 : Int32))]) (pc' := 86) C dX8_makesShort_85 (by decide) [1, 0] rfl rfl ?_
    refine w_X8_makesShort_86 C hR (fun y19 s20 hf => ?_) N (0 : Int32) s18 hf
    exact G_vret C hR dX8_makesShort_112 (Option.some.inj hf)
abbrev rm_X8_isStage : Room := { frames := 0, cells := 0, slots := 0, locals := 0 }
theorem sg_X8_isStage : ZG yX8_isStage wsX8_isStage cX8_isStage 1 (some .boolean) RX8 1 rm_X8_isStage := ⟨⟨_, rfl⟩, by decide +kernel, rfl, rfl⟩
set_option maxHeartbeats 4000000 in
set_option maxRecDepth 100000 in
theorem c_X8_isStage (ω : ZO) (N : Nat) (σ : ZS) (a0 : Int32) : ZIp ω wM yX8_isStage wsX8_isStage rm_X8_isStage [.int a0] σ (f_X8_isStage N σ a0) := by
  intro r0 hf
  refine ZI.go (cc := cX8_isStage) (maxL := 1) (ret := (some .boolean)) (own := RX8) (lv := [(0, .int a0)]) (by decide) rfl rfl (Nat.le_of_ble_eq_true rfl) rfl (fun κ C hR => ?_)
  unfold f_X8_isStage at hf
  refine G_iload_n (pc' := 1) C dX8_isStage_0 0 rfl rfl ?_
  refine G_if_lt (tgt := 13) (pc' := 4) C dX8_isStage_1 (by decide) rfl hf (fun hf => ?_) (fun hf => ?_)
  · refine G_iconst (v := (0 : Int32)) (pc' := 14) C dX8_isStage_13 (by decide) rfl ?_
    exact G_zret C hR dX8_isStage_14 (by decide) ⟨Option.some.inj hf, rfl⟩
  · refine G_iload_n (pc' := 5) C dX8_isStage_4 0 rfl rfl ?_
    refine G_iconst (v := (2 : Int32)) (pc' := 6) C dX8_isStage_5 (by decide) rfl ?_
    refine G_icmp_ge (tgt := 13) (pc' := 9) C dX8_isStage_6 (by decide) rfl hf (fun hf => ?_) (fun hf => ?_)
    · refine G_iconst (v := (0 : Int32)) (pc' := 14) C dX8_isStage_13 (by decide) rfl ?_
      exact G_zret C hR dX8_isStage_14 (by decide) ⟨Option.some.inj hf, rfl⟩
    · refine G_iconst (v := (1 : Int32)) (pc' := 10) C dX8_isStage_9 (by decide) rfl ?_
      refine G_goto (pc' := 14) C dX8_isStage_10 (by decide) ?_
      exact G_zret C hR dX8_isStage_14 (by decide) ⟨Option.some.inj hf, rfl⟩
theorem iu_X8_lists_X8 : ∀ w ∈ wsX80, w ∈ wsX8_lists := by decide +kernel
theorem lk_X8_lists_66 : Cond.fieldLink RX8 66 "PrizeDeskModel" "longs" "[I" ∈ wsX8_lists := by decide +kernel
theorem lk_X8_lists_72 : Cond.fieldLink RX8 72 "PrizeDeskModel" "list" "[I" ∈ wsX8_lists := by decide +kernel
theorem lk_X8_lists_158 : Cond.fieldLink RX8 158 "PrizeDeskModel" "longMany" "I" ∈ wsX8_lists := by decide +kernel
theorem lk_X8_lists_167 : Cond.fieldLink RX8 167 "PrizeDeskModel" "listMany" "I" ∈ wsX8_lists := by decide +kernel
theorem lk_X8_lists_69 : Cond.fieldLink RX8 69 "PrizeDeskModel" "shorts" "[I" ∈ wsX8_lists := by decide +kernel
theorem lk_X8_lists_174 : Cond.fieldLink RX8 174 "PrizeDeskModel" "shortMany" "I" ∈ wsX8_lists := by decide +kernel
abbrev rm_X8_lists : Room := { frames := 6, cells := 0, slots := 0, locals := 151 }
theorem sg_X8_lists : ZG yX8_lists wsX8_lists cX8_lists 3 none RX8 1 rm_X8_lists := ⟨⟨_, rfl⟩, by decide +kernel, rfl, rfl⟩
set_option maxHeartbeats 4000000 in
set_option maxRecDepth 100000 in
theorem w_X8_lists_10 {ω : ZO} {κ : ZK} {N : Nat} {K : Int32 → ZS → Option (ZS)} {r0 : ZS} (C : CX ω wM κ cX8_lists wsX8_lists RX8 none 3 rm_X8_lists) (hR : zRV ω wM κ (fun τ => τ = r0)) (HK : ∀ (y2 : Int32) (τ : ZS), K y2 τ = some r0 → G ω wM κ 36 [(0, .ref (za ω 0))] [] τ) : ∀ (n : Nat) (y2 : Int32) (τ : ZS), L_X8_lists_10 N K n y2 τ = some r0 → G ω wM κ 10 [(0, .ref (za ω 0)), (2, .int y2)] [] τ := by
  intro n
  induction n with
  | zero => intro  y2 τ hf; exact absurd (show none = some r0 from hf) (fun h => nomatch h)
  | succ n ih =>
    intro y2 τ hf
    have hf : B_X8_lists_10 N K (L_X8_lists_10 N K n) y2 τ = some r0 := hf
    unfold B_X8_lists_10 at hf
    refine G_iload_n (pc' := 11) C dX8_lists_10 1 rfl rfl ?_
    refine G_aload_n (pc' := 12) C dX8_lists_11 0 rfl rfl ?_
    refine G_get (pc' := 15) C wM_0 rfl 22 (by decide) rfl iu_X8_lists_X8 lk_X8_lists_158 dX8_lists_12 rfl ?_
    refine G_icmp_ge (tgt := 36) (pc' := 18) C dX8_lists_15 (by decide) rfl hf (fun hf => ?_) (fun hf => ?_)
    · refine G_sub (lv' := [(0, .ref (za ω 0))]) C [0] rfl ?_
      exact HK y2 τ hf
    · refine G_aload_n (pc' := 19) C dX8_lists_18 0 rfl rfl ?_
      refine G_get (pc' := 22) C wM_0 rfl 24 (by decide) rfl iu_X8_lists_X8 lk_X8_lists_72 dX8_lists_19 rfl ?_
      refine G_iload_n (pc' := 23) C dX8_lists_22 1 rfl rfl ?_
      refine G_aload_n (pc' := 24) C dX8_lists_23 0 rfl rfl ?_
      refine G_get (pc' := 27) C wM_0 rfl 20 (by decide) rfl iu_X8_lists_X8 lk_X8_lists_66 dX8_lists_24 rfl ?_
      refine G_iload_n (pc' := 28) C dX8_lists_27 1 rfl rfl ?_
      refine G_iald (pc' := 29) C wM_19 dX8_lists_28 rfl hf (fun v2 hf => ?_)
      refine G_iast (pc' := 30) C wM_21 wM_s21 dX8_lists_29 rfl hf (fun s3 hf => ?_)
      refine G_iincL (v := y2 + (1 : Int32)) (pc' := 33) C dX8_lists_30 1 rfl rfl (by decide) [1, 0] (fun x4 => [(0, .ref (za ω 0)), (2, .int x4)]) (fun _ => rfl) rfl hf (fun x4 hf => ?_)
      refine G_goto (pc' := 10) C dX8_lists_33 (by decide) ?_
      exact ih x4 s3 hf
set_option maxHeartbeats 4000000 in
set_option maxRecDepth 100000 in
theorem w_X8_lists_53 {ω : ZO} {κ : ZK} {N : Nat} {K : Int32 → ZS → Option (ZS)} {r0 : ZS} (C : CX ω wM κ cX8_lists wsX8_lists RX8 none 3 rm_X8_lists) (hR : zRV ω wM κ (fun τ => τ = r0)) (HK : ∀ (y2 : Int32) (τ : ZS), K y2 τ = some r0 → G ω wM κ 79 [(0, .ref (za ω 0))] [] τ) : ∀ (n : Nat) (y2 : Int32) (τ : ZS), L_X8_lists_53 N K n y2 τ = some r0 → G ω wM κ 53 [(0, .ref (za ω 0)), (2, .int y2)] [] τ := by
  intro n
  induction n with
  | zero => intro  y2 τ hf; exact absurd (show none = some r0 from hf) (fun h => nomatch h)
  | succ n ih =>
    intro y2 τ hf
    have hf : B_X8_lists_53 N K (L_X8_lists_53 N K n) y2 τ = some r0 := hf
    unfold B_X8_lists_53 at hf
    refine G_iload_n (pc' := 54) C dX8_lists_53 1 rfl rfl ?_
    refine G_aload_n (pc' := 55) C dX8_lists_54 0 rfl rfl ?_
    refine G_get (pc' := 58) C wM_0 rfl 23 (by decide) rfl iu_X8_lists_X8 lk_X8_lists_174 dX8_lists_55 rfl ?_
    refine G_icmp_ge (tgt := 79) (pc' := 61) C dX8_lists_58 (by decide) rfl hf (fun hf => ?_) (fun hf => ?_)
    · refine G_sub (lv' := [(0, .ref (za ω 0))]) C [0] rfl ?_
      exact HK y2 τ hf
    · refine G_aload_n (pc' := 62) C dX8_lists_61 0 rfl rfl ?_
      refine G_get (pc' := 65) C wM_0 rfl 24 (by decide) rfl iu_X8_lists_X8 lk_X8_lists_72 dX8_lists_62 rfl ?_
      refine G_iload_n (pc' := 66) C dX8_lists_65 1 rfl rfl ?_
      refine G_aload_n (pc' := 67) C dX8_lists_66 0 rfl rfl ?_
      refine G_get (pc' := 70) C wM_0 rfl 21 (by decide) rfl iu_X8_lists_X8 lk_X8_lists_69 dX8_lists_67 rfl ?_
      refine G_iload_n (pc' := 71) C dX8_lists_70 1 rfl rfl ?_
      refine G_iald (pc' := 72) C wM_20 dX8_lists_71 rfl hf (fun v9 hf => ?_)
      refine G_iast (pc' := 73) C wM_21 wM_s21 dX8_lists_72 rfl hf (fun s10 hf => ?_)
      refine G_iincL (v := y2 + (1 : Int32)) (pc' := 76) C dX8_lists_73 1 rfl rfl (by decide) [1, 0] (fun x11 => [(0, .ref (za ω 0)), (2, .int x11)]) (fun _ => rfl) rfl hf (fun x11 hf => ?_)
      refine G_goto (pc' := 53) C dX8_lists_76 (by decide) ?_
      exact ih x11 s10 hf
set_option maxHeartbeats 4000000 in
set_option maxRecDepth 100000 in
theorem c_X8_lists (ω : ZO) (N : Nat) (σ : ZS) (a1 : Int32) : ZVs ω wM yX8_lists wsX8_lists rm_X8_lists [.ref (za ω 0), .int a1] σ (f_X8_lists N σ a1) := by
  intro r0 hf
  refine ZV.go (cc := cX8_lists) (maxL := 3) (ret := none) (own := RX8) (lv := [(0, .ref (za ω 0)), (1, .int a1)]) (by decide) rfl rfl (Nat.le_of_ble_eq_true rfl) rfl (fun κ C hR => ?_)
  unfold f_X8_lists at hf
  refine G_iload_n (pc' := 1) C dX8_lists_0 1 rfl rfl ?_
  refine G_if_ne (tgt := 47) (pc' := 4) C dX8_lists_1 (by decide) rfl hf (fun hf => ?_) (fun hf => ?_)
  · refine G_aload_n (pc' := 5) C dX8_lists_4 0 rfl rfl ?_
    refine G_callVv (pc' := 8) C [] (c_X8_makesLong ω N σ) sg_X8_makesLong gX8_lists_X8_makesLong wM_0 rfl ⟨Nat.le_of_ble_eq_true rfl, Nat.le_of_ble_eq_true rfl⟩ rfl rfl (Nat.le_of_ble_eq_true rfl) dX8_lists_5 rfl hf (fun s1 hf => ?_)
    refine G_iconst (v := (0 : Int32)) (pc' := 9) C dX8_lists_8 (by decide) rfl ?_
    refine G_istore_n (lv' := [(0, .ref (za ω 0)), (2, .int (0 : Int32))]) (pc' := 10) C dX8_lists_9 (by decide) [1, 0] rfl rfl ?_
    refine w_X8_lists_10 C hR (fun y5 s6 hf => ?_) N (0 : Int32) s1 hf
    refine G_aload_n (pc' := 37) C dX8_lists_36 0 rfl rfl ?_
    refine G_aload_n (pc' := 38) C dX8_lists_37 0 rfl rfl ?_
    refine G_get (pc' := 41) C wM_0 rfl 22 (by decide) rfl iu_X8_lists_X8 lk_X8_lists_158 dX8_lists_38 rfl ?_
    refine G_put (pc' := 44) C tyX8 tyX8_ok nmX8 wM_0 rfl 29 (by decide) (Nat.le_of_ble_eq_true rfl) iu_X8_lists_X8 lk_X8_lists_167 rfl (by decide +kernel) wM_f0_29 dX8_lists_41 rfl hf (fun s7 hf => ?_)
    refine G_goto (pc' := 87) C dX8_lists_44 (by decide) ?_
    exact G_vret C hR dX8_lists_87 (Option.some.inj hf)
  · refine G_aload_n (pc' := 48) C dX8_lists_47 0 rfl rfl ?_
    refine G_callVv (pc' := 51) C [] (c_X8_makesShort ω N σ) sg_X8_makesShort gX8_lists_X8_makesShort wM_0 rfl ⟨Nat.le_of_ble_eq_true rfl, Nat.le_of_ble_eq_true rfl⟩ rfl rfl (Nat.le_of_ble_eq_true rfl) dX8_lists_48 rfl hf (fun s8 hf => ?_)
    refine G_iconst (v := (0 : Int32)) (pc' := 52) C dX8_lists_51 (by decide) rfl ?_
    refine G_istore_n (lv' := [(0, .ref (za ω 0)), (2, .int (0 : Int32))]) (pc' := 53) C dX8_lists_52 (by decide) [1, 0] rfl rfl ?_
    refine w_X8_lists_53 C hR (fun y12 s13 hf => ?_) N (0 : Int32) s8 hf
    refine G_aload_n (pc' := 80) C dX8_lists_79 0 rfl rfl ?_
    refine G_aload_n (pc' := 81) C dX8_lists_80 0 rfl rfl ?_
    refine G_get (pc' := 84) C wM_0 rfl 23 (by decide) rfl iu_X8_lists_X8 lk_X8_lists_174 dX8_lists_81 rfl ?_
    refine G_put (pc' := 87) C tyX8 tyX8_ok nmX8 wM_0 rfl 29 (by decide) (Nat.le_of_ble_eq_true rfl) iu_X8_lists_X8 lk_X8_lists_167 rfl (by decide +kernel) wM_f0_29 dX8_lists_84 rfl hf (fun s14 hf => ?_)
    exact G_vret C hR dX8_lists_87 (Option.some.inj hf)
theorem iu_X8_counted_X8 : ∀ w ∈ wsX80, w ∈ wsX8_counted := by decide +kernel
theorem lk_X8_counted_75 : Cond.fieldLink RX8 75 "PrizeDeskModel" "order" "[I" ∈ wsX8_counted := by decide +kernel
theorem lk_X8_counted_167 : Cond.fieldLink RX8 167 "PrizeDeskModel" "listMany" "I" ∈ wsX8_counted := by decide +kernel
abbrev rm_X8_counted : Room := { frames := 7, cells := 0, slots := 0, locals := 173 }
theorem sg_X8_counted : ZG yX8_counted wsX8_counted cX8_counted 4 (some .int) RX8 3 rm_X8_counted := ⟨⟨_, rfl⟩, by decide +kernel, rfl, rfl⟩
set_option maxHeartbeats 4000000 in
set_option maxRecDepth 100000 in
theorem c_X8_counted (ω : ZO) (N : Nat) (σ : ZS) (a1 : Int32) (a2 : Int32) (a3 : Int32) : ZIs ω wM yX8_counted wsX8_counted rm_X8_counted [.ref (za ω 0), .int a1, .int a2, .int a3] σ (f_X8_counted N σ a1 a2 a3) := by
  intro r0 hf
  refine ZI.go (cc := cX8_counted) (maxL := 4) (ret := (some .int)) (own := RX8) (lv := [(0, .ref (za ω 0)), (1, .int a1), (2, .int a2), (3, .int a3)]) (by decide) rfl rfl (Nat.le_of_ble_eq_true rfl) rfl (fun κ C hR => ?_)
  unfold f_X8_counted at hf
  refine G_iload_n (pc' := 1) C dX8_counted_0 1 rfl rfl ?_
  refine G_callSp (pc' := 4) C [.int a1] (c_X8_isStage ω N σ a1) sg_X8_isStage gX8_counted_X8_isStage ⟨Nat.le_of_ble_eq_true rfl, Nat.le_of_ble_eq_true rfl⟩ rfl rfl (Nat.le_of_ble_eq_true rfl) dX8_counted_1 rfl hf (fun v1 hf => ?_)
  refine G_if_eq (tgt := 20) (pc' := 7) C dX8_counted_4 (by decide) rfl hf (fun hf => ?_) (fun hf => ?_)
  · refine G_iconst (v := (-1 : Int32)) (pc' := 21) C dX8_counted_20 (by decide) rfl ?_
    exact G_iret C hR dX8_counted_21 (Option.some.inj hf)
  · refine G_iload_n (pc' := 8) C dX8_counted_7 2 rfl rfl ?_
    refine G_if_lt (tgt := 20) (pc' := 11) C dX8_counted_8 (by decide) rfl hf (fun hf => ?_) (fun hf => ?_)
    · refine G_iconst (v := (-1 : Int32)) (pc' := 21) C dX8_counted_20 (by decide) rfl ?_
      exact G_iret C hR dX8_counted_21 (Option.some.inj hf)
    · refine G_iload_n (pc' := 12) C dX8_counted_11 2 rfl rfl ?_
      refine G_iconst (v := (2 : Int32)) (pc' := 13) C dX8_counted_12 (by decide) rfl ?_
      refine G_icmp_gt (tgt := 20) (pc' := 16) C dX8_counted_13 (by decide) rfl hf (fun hf => ?_) (fun hf => ?_)
      · refine G_iconst (v := (-1 : Int32)) (pc' := 21) C dX8_counted_20 (by decide) rfl ?_
        exact G_iret C hR dX8_counted_21 (Option.some.inj hf)
      · refine G_iload_n (pc' := 17) C dX8_counted_16 3 rfl rfl ?_
        refine G_if_ge (tgt := 22) (pc' := 20) C dX8_counted_17 (by decide) rfl hf (fun hf => ?_) (fun hf => ?_)
        · refine G_aload_n (pc' := 23) C dX8_counted_22 0 rfl rfl ?_
          refine G_iload_n (pc' := 24) C dX8_counted_23 1 rfl rfl ?_
          refine G_callVv (pc' := 27) C [.int a1] (c_X8_lists ω N σ a1) sg_X8_lists gX8_counted_X8_lists wM_0 rfl ⟨Nat.le_of_ble_eq_true rfl, Nat.le_of_ble_eq_true rfl⟩ rfl rfl (Nat.le_of_ble_eq_true rfl) dX8_counted_24 rfl hf (fun s2 hf => ?_)
          refine G_aload_n (pc' := 28) C dX8_counted_27 0 rfl rfl ?_
          refine G_iload_n (pc' := 29) C dX8_counted_28 1 rfl rfl ?_
          refine G_iload_n (pc' := 30) C dX8_counted_29 2 rfl rfl ?_
          refine G_callVv (pc' := 33) C [.int a1, .int a2] (c_X8_orders ω N s2 a1 a2) sg_X8_orders gX8_counted_X8_orders wM_0 rfl ⟨Nat.le_of_ble_eq_true rfl, Nat.le_of_ble_eq_true rfl⟩ rfl rfl (Nat.le_of_ble_eq_true rfl) dX8_counted_30 rfl hf (fun s3 hf => ?_)
          refine G_iload_n (pc' := 34) C dX8_counted_33 3 rfl rfl ?_
          refine G_aload_n (pc' := 35) C dX8_counted_34 0 rfl rfl ?_
          refine G_get (pc' := 38) C wM_0 rfl 29 (by decide) rfl iu_X8_counted_X8 lk_X8_counted_167 dX8_counted_35 rfl ?_
          refine G_icmp_ge (tgt := 50) (pc' := 41) C dX8_counted_38 (by decide) rfl hf (fun hf => ?_) (fun hf => ?_)
          · refine G_iconst (v := (-1 : Int32)) (pc' := 51) C dX8_counted_50 (by decide) rfl ?_
            exact G_iret C hR dX8_counted_51 (Option.some.inj hf)
          · refine G_aload_n (pc' := 42) C dX8_counted_41 0 rfl rfl ?_
            refine G_get (pc' := 45) C wM_0 rfl 25 (by decide) rfl iu_X8_counted_X8 lk_X8_counted_75 dX8_counted_42 rfl ?_
            refine G_iload_n (pc' := 46) C dX8_counted_45 3 rfl rfl ?_
            refine G_iald (pc' := 47) C wM_22 dX8_counted_46 rfl hf (fun v4 hf => ?_)
            refine G_goto (pc' := 51) C dX8_counted_47 (by decide) ?_
            exact G_iret C hR dX8_counted_51 (Option.some.inj hf)
        · refine G_iconst (v := (-1 : Int32)) (pc' := 21) C dX8_counted_20 (by decide) rfl ?_
          exact G_iret C hR dX8_counted_21 (Option.some.inj hf)
theorem iu_X8_listed_X8 : ∀ w ∈ wsX80, w ∈ wsX8_listed := by decide +kernel
theorem lk_X8_listed_66 : Cond.fieldLink RX8 66 "PrizeDeskModel" "longs" "[I" ∈ wsX8_listed := by decide +kernel
theorem lk_X8_listed_158 : Cond.fieldLink RX8 158 "PrizeDeskModel" "longMany" "I" ∈ wsX8_listed := by decide +kernel
theorem lk_X8_listed_69 : Cond.fieldLink RX8 69 "PrizeDeskModel" "shorts" "[I" ∈ wsX8_listed := by decide +kernel
theorem lk_X8_listed_174 : Cond.fieldLink RX8 174 "PrizeDeskModel" "shortMany" "I" ∈ wsX8_listed := by decide +kernel
theorem lk_X8_listed_13 : Cond.fieldLink RX8 13 "PrizeDeskModel" "rule" "[I" ∈ wsX8_listed := by decide +kernel
abbrev rm_X8_listed : Room := { frames := 8, cells := 0, slots := 0, locals := 196 }
theorem sg_X8_listed : ZG yX8_listed wsX8_listed cX8_listed 3 (some .int) RX8 2 rm_X8_listed := ⟨⟨_, rfl⟩, by decide +kernel, rfl, rfl⟩
set_option maxHeartbeats 4000000 in
set_option maxRecDepth 100000 in
theorem c_X8_listed (ω : ZO) (N : Nat) (σ : ZS) (a1 : Int32) (a2 : Int32) : ZIs ω wM yX8_listed wsX8_listed rm_X8_listed [.ref (za ω 0), .int a1, .int a2] σ (f_X8_listed N σ a1 a2) := by
  intro r0 hf
  refine ZI.go (cc := cX8_listed) (maxL := 3) (ret := (some .int)) (own := RX8) (lv := [(0, .ref (za ω 0)), (1, .int a1), (2, .int a2)]) (by decide) rfl rfl (Nat.le_of_ble_eq_true rfl) rfl (fun κ C hR => ?_)
  unfold f_X8_listed at hf
  refine G_iload_n (pc' := 1) C dX8_listed_0 1 rfl rfl ?_
  refine G_if_ne (tgt := 27) (pc' := 4) C dX8_listed_1 (by decide) rfl hf (fun hf => ?_) (fun hf => ?_)
  · refine G_aload_n (pc' := 5) C dX8_listed_4 0 rfl rfl ?_
    refine G_callVv (pc' := 8) C [] (c_X8_makesLong ω N σ) sg_X8_makesLong gX8_listed_X8_makesLong wM_0 rfl ⟨Nat.le_of_ble_eq_true rfl, Nat.le_of_ble_eq_true rfl⟩ rfl rfl (Nat.le_of_ble_eq_true rfl) dX8_listed_5 rfl hf (fun s1 hf => ?_)
    refine G_iload_n (pc' := 9) C dX8_listed_8 2 rfl rfl ?_
    refine G_aload_n (pc' := 10) C dX8_listed_9 0 rfl rfl ?_
    refine G_get (pc' := 13) C wM_0 rfl 22 (by decide) rfl iu_X8_listed_X8 lk_X8_listed_158 dX8_listed_10 rfl ?_
    refine G_icmp_ge (tgt := 25) (pc' := 16) C dX8_listed_13 (by decide) rfl hf (fun hf => ?_) (fun hf => ?_)
    · refine G_iconst (v := (-1 : Int32)) (pc' := 26) C dX8_listed_25 (by decide) rfl ?_
      exact G_iret C hR dX8_listed_26 (Option.some.inj hf)
    · refine G_aload_n (pc' := 17) C dX8_listed_16 0 rfl rfl ?_
      refine G_get (pc' := 20) C wM_0 rfl 20 (by decide) rfl iu_X8_listed_X8 lk_X8_listed_66 dX8_listed_17 rfl ?_
      refine G_iload_n (pc' := 21) C dX8_listed_20 2 rfl rfl ?_
      refine G_iald (pc' := 22) C wM_19 dX8_listed_21 rfl hf (fun v2 hf => ?_)
      refine G_goto (pc' := 26) C dX8_listed_22 (by decide) ?_
      exact G_iret C hR dX8_listed_26 (Option.some.inj hf)
  · refine G_iload_n (pc' := 28) C dX8_listed_27 1 rfl rfl ?_
    refine G_iconst (v := (1 : Int32)) (pc' := 29) C dX8_listed_28 (by decide) rfl ?_
    refine G_icmp_ne (tgt := 55) (pc' := 32) C dX8_listed_29 (by decide) rfl hf (fun hf => ?_) (fun hf => ?_)
    · refine G_aload_n (pc' := 33) C dX8_listed_32 0 rfl rfl ?_
      refine G_callVv (pc' := 36) C [] (c_X8_makesShort ω N σ) sg_X8_makesShort gX8_listed_X8_makesShort wM_0 rfl ⟨Nat.le_of_ble_eq_true rfl, Nat.le_of_ble_eq_true rfl⟩ rfl rfl (Nat.le_of_ble_eq_true rfl) dX8_listed_33 rfl hf (fun s3 hf => ?_)
      refine G_iload_n (pc' := 37) C dX8_listed_36 2 rfl rfl ?_
      refine G_aload_n (pc' := 38) C dX8_listed_37 0 rfl rfl ?_
      refine G_get (pc' := 41) C wM_0 rfl 23 (by decide) rfl iu_X8_listed_X8 lk_X8_listed_174 dX8_listed_38 rfl ?_
      refine G_icmp_ge (tgt := 53) (pc' := 44) C dX8_listed_41 (by decide) rfl hf (fun hf => ?_) (fun hf => ?_)
      · refine G_iconst (v := (-1 : Int32)) (pc' := 54) C dX8_listed_53 (by decide) rfl ?_
        exact G_iret C hR dX8_listed_54 (Option.some.inj hf)
      · refine G_aload_n (pc' := 45) C dX8_listed_44 0 rfl rfl ?_
        refine G_get (pc' := 48) C wM_0 rfl 21 (by decide) rfl iu_X8_listed_X8 lk_X8_listed_69 dX8_listed_45 rfl ?_
        refine G_iload_n (pc' := 49) C dX8_listed_48 2 rfl rfl ?_
        refine G_iald (pc' := 50) C wM_20 dX8_listed_49 rfl hf (fun v4 hf => ?_)
        refine G_goto (pc' := 54) C dX8_listed_50 (by decide) ?_
        exact G_iret C hR dX8_listed_54 (Option.some.inj hf)
    · refine G_iload_n (pc' := 56) C dX8_listed_55 2 rfl rfl ?_
      refine G_if_ne (tgt := 75) (pc' := 59) C dX8_listed_56 (by decide) rfl hf (fun hf => ?_) (fun hf => ?_)
      · refine G_aload_n (pc' := 60) C dX8_listed_59 0 rfl rfl ?_
        refine G_iconst (v := (1 : Int32)) (pc' := 61) C dX8_listed_60 (by decide) rfl ?_
        refine G_aload_n (pc' := 62) C dX8_listed_61 0 rfl rfl ?_
        refine G_get (pc' := 65) C wM_0 rfl 2 (by decide) rfl iu_X8_listed_X8 lk_X8_listed_13 dX8_listed_62 rfl ?_
        refine G_bipush (v := (9 : Int32)) (pc' := 67) C dX8_listed_65 (by decide) rfl ?_
        refine G_iald (pc' := 68) C wM_2 dX8_listed_67 rfl hf (fun v5 hf => ?_)
        refine G_iconst (v := (0 : Int32)) (pc' := 69) C dX8_listed_68 (by decide) rfl ?_
        refine G_callVt (pc' := 72) C [.int (1 : Int32), .int v5, .int (0 : Int32)] (c_X8_counted ω N σ (1 : Int32) v5 (0 : Int32)) sg_X8_counted gX8_listed_X8_counted wM_0 rfl ⟨Nat.le_of_ble_eq_true rfl, Nat.le_of_ble_eq_true rfl⟩ rfl rfl (Nat.le_of_ble_eq_true rfl) dX8_listed_69 rfl hf (fun v7 s6 hf => ?_)
        refine G_goto (pc' := 76) C dX8_listed_72 (by decide) ?_
        exact G_iret C hR dX8_listed_76 (Option.some.inj hf)
      · refine G_iconst (v := (-1 : Int32)) (pc' := 76) C dX8_listed_75 (by decide) rfl ?_
        exact G_iret C hR dX8_listed_76 (Option.some.inj hf)
theorem iu_X8_told_X8 : ∀ w ∈ wsX80, w ∈ wsX8_told := by decide +kernel
theorem lk_X8_told_48 : Cond.fieldLink RX8 48 "PrizeDeskModel" "telling" "[I" ∈ wsX8_told := by decide +kernel
abbrev rm_X8_told : Room := { frames := 9, cells := 0, slots := 0, locals := 218 }
theorem sg_X8_told : ZG yX8_told wsX8_told cX8_told 6 (some .int) RX8 4 rm_X8_told := ⟨⟨_, rfl⟩, by decide +kernel, rfl, rfl⟩
set_option maxHeartbeats 4000000 in
set_option maxRecDepth 100000 in
theorem c_X8_told (ω : ZO) (N : Nat) (σ : ZS) (a1 : Int32) (a2 : Int32) (a3 : Int32) (a4 : Int32) : ZIs ω wM yX8_told wsX8_told rm_X8_told [.ref (za ω 0), .int a1, .int a2, .int a3, .int a4] σ (f_X8_told N σ a1 a2 a3 a4) := by
  intro r0 hf
  refine ZI.go (cc := cX8_told) (maxL := 6) (ret := (some .int)) (own := RX8) (lv := [(0, .ref (za ω 0)), (1, .int a1), (2, .int a2), (3, .int a3), (4, .int a4)]) (by decide) rfl rfl (Nat.le_of_ble_eq_true rfl) rfl (fun κ C hR => ?_)
  unfold f_X8_told at hf
  refine G_iload_n (pc' := 1) C dX8_told_0 1 rfl rfl ?_
  refine G_if_lt (tgt := 30) (pc' := 4) C dX8_told_1 (by decide) rfl hf (fun hf => ?_) (fun hf => ?_)
  · refine G_bipush (v := (-2 : Int32)) (pc' := 32) C dX8_told_30 (by decide) rfl ?_
    exact G_iret C hR dX8_told_32 (Option.some.inj hf)
  · refine G_iload_n (pc' := 5) C dX8_told_4 1 rfl rfl ?_
    refine G_bipush (v := (7 : Int32)) (pc' := 7) C dX8_told_5 (by decide) rfl ?_
    refine G_icmp_gt (tgt := 30) (pc' := 10) C dX8_told_7 (by decide) rfl hf (fun hf => ?_) (fun hf => ?_)
    · refine G_bipush (v := (-2 : Int32)) (pc' := 32) C dX8_told_30 (by decide) rfl ?_
      exact G_iret C hR dX8_told_32 (Option.some.inj hf)
    · refine G_iload_n (pc' := 11) C dX8_told_10 2 rfl rfl ?_
      refine G_if_lt (tgt := 30) (pc' := 14) C dX8_told_11 (by decide) rfl hf (fun hf => ?_) (fun hf => ?_)
      · refine G_bipush (v := (-2 : Int32)) (pc' := 32) C dX8_told_30 (by decide) rfl ?_
        exact G_iret C hR dX8_told_32 (Option.some.inj hf)
      · refine G_iload_n (pc' := 15) C dX8_told_14 2 rfl rfl ?_
        refine G_sipush (v := (400 : Int32)) (pc' := 18) C dX8_told_15 (by decide) rfl ?_
        refine G_icmp_gt (tgt := 30) (pc' := 21) C dX8_told_18 (by decide) rfl hf (fun hf => ?_) (fun hf => ?_)
        · refine G_bipush (v := (-2 : Int32)) (pc' := 32) C dX8_told_30 (by decide) rfl ?_
          exact G_iret C hR dX8_told_32 (Option.some.inj hf)
        · refine G_iload_n (pc' := 22) C dX8_told_21 3 rfl rfl ?_
          refine G_if_lt (tgt := 30) (pc' := 25) C dX8_told_22 (by decide) rfl hf (fun hf => ?_) (fun hf => ?_)
          · refine G_bipush (v := (-2 : Int32)) (pc' := 32) C dX8_told_30 (by decide) rfl ?_
            exact G_iret C hR dX8_told_32 (Option.some.inj hf)
          · refine G_iload_n (pc' := 26) C dX8_told_25 3 rfl rfl ?_
            refine G_iconst (v := (2 : Int32)) (pc' := 27) C dX8_told_26 (by decide) rfl ?_
            refine G_icmp_le (tgt := 33) (pc' := 30) C dX8_told_27 (by decide) rfl hf (fun hf => ?_) (fun hf => ?_)
            · refine G_iload_n (pc' := 34) C dX8_told_33 1 rfl rfl ?_
              refine G_if_eq (tgt := 57) (pc' := 37) C dX8_told_34 (by decide) rfl hf (fun hf => ?_) (fun hf => ?_)
              · refine G_iconst (v := (1 : Int32)) (pc' := 58) C dX8_told_57 (by decide) rfl ?_
                refine G_goto (pc' := 62) C dX8_told_58 (by decide) ?_
                refine G_istore (lv' := [(0, .ref (za ω 0)), (3, .int a3), (4, .int a4), (5, .int (1 : Int32))]) (pc' := 64) C dX8_told_62 (by decide) [1, 4, 5, 0] rfl rfl ?_
                refine G_iload (pc' := 66) C dX8_told_64 3 rfl rfl ?_
                refine G_if_ne (tgt := 72) (pc' := 69) C dX8_told_66 (by decide) rfl hf (fun hf => ?_) (fun hf => ?_)
                · refine G_bipush (v := (-2 : Int32)) (pc' := 71) C dX8_told_69 (by decide) rfl ?_
                  exact G_iret C hR dX8_told_71 (Option.some.inj hf)
                · refine G_iload (pc' := 74) C dX8_told_72 2 rfl rfl ?_
                  refine G_if_ge (tgt := 81) (pc' := 77) C dX8_told_74 (by decide) rfl hf (fun hf => ?_) (fun hf => ?_)
                  · refine G_aload_n (pc' := 82) C dX8_told_81 0 rfl rfl ?_
                    refine G_iload_n (pc' := 83) C dX8_told_82 1 rfl rfl ?_
                    refine G_iload (pc' := 85) C dX8_told_83 2 rfl rfl ?_
                    refine G_callVt (pc' := 88) C [.int a3, .int a4] (c_X8_listed ω N σ a3 a4) sg_X8_listed gX8_told_X8_listed wM_0 rfl ⟨Nat.le_of_ble_eq_true rfl, Nat.le_of_ble_eq_true rfl⟩ rfl rfl (Nat.le_of_ble_eq_true rfl) dX8_told_85 rfl hf (fun v2 s1 hf => ?_)
                    exact G_iret C hR dX8_told_88 (Option.some.inj hf)
                  · refine G_iconst (v := (-1 : Int32)) (pc' := 78) C dX8_told_77 (by decide) rfl ?_
                    refine G_goto (pc' := 88) C dX8_told_78 (by decide) ?_
                    exact G_iret C hR dX8_told_88 (Option.some.inj hf)
              · refine G_iload_n (pc' := 38) C dX8_told_37 1 rfl rfl ?_
                refine G_bipush (v := (7 : Int32)) (pc' := 40) C dX8_told_38 (by decide) rfl ?_
                refine G_icmp_ge (tgt := 47) (pc' := 43) C dX8_told_40 (by decide) rfl hf (fun hf => ?_) (fun hf => ?_)
                · refine G_iload_n (pc' := 48) C dX8_told_47 2 rfl rfl ?_
                  refine G_aload_n (pc' := 49) C dX8_told_48 0 rfl rfl ?_
                  refine G_get (pc' := 52) C wM_0 rfl 14 (by decide) rfl iu_X8_told_X8 lk_X8_told_48 dX8_told_49 rfl ?_
                  refine G_iload_n (pc' := 53) C dX8_told_52 3 rfl rfl ?_
                  refine G_iald (pc' := 54) C wM_13 dX8_told_53 rfl hf (fun v3 hf => ?_)
                  refine G_icmp_lt (tgt := 61) (pc' := 57) C dX8_told_54 (by decide) rfl hf (fun hf => ?_) (fun hf => ?_)
                  · refine G_iconst (v := (0 : Int32)) (pc' := 62) C dX8_told_61 (by decide) rfl ?_
                    refine G_istore (lv' := [(0, .ref (za ω 0)), (3, .int a3), (4, .int a4), (5, .int (0 : Int32))]) (pc' := 64) C dX8_told_62 (by decide) [1, 4, 5, 0] rfl rfl ?_
                    refine G_iload (pc' := 66) C dX8_told_64 3 rfl rfl ?_
                    refine G_if_ne (tgt := 72) (pc' := 69) C dX8_told_66 (by decide) rfl hf (fun hf => ?_) (fun hf => ?_)
                    · refine G_bipush (v := (-2 : Int32)) (pc' := 71) C dX8_told_69 (by decide) rfl ?_
                      exact G_iret C hR dX8_told_71 (Option.some.inj hf)
                    · refine G_iload (pc' := 74) C dX8_told_72 2 rfl rfl ?_
                      refine G_if_ge (tgt := 81) (pc' := 77) C dX8_told_74 (by decide) rfl hf (fun hf => ?_) (fun hf => ?_)
                      · refine G_aload_n (pc' := 82) C dX8_told_81 0 rfl rfl ?_
                        refine G_iload_n (pc' := 83) C dX8_told_82 1 rfl rfl ?_
                        refine G_iload (pc' := 85) C dX8_told_83 2 rfl rfl ?_
                        refine G_callVt (pc' := 88) C [.int a3, .int a4] (c_X8_listed ω N σ a3 a4) sg_X8_listed gX8_told_X8_listed wM_0 rfl ⟨Nat.le_of_ble_eq_true rfl, Nat.le_of_ble_eq_true rfl⟩ rfl rfl (Nat.le_of_ble_eq_true rfl) dX8_told_85 rfl hf (fun v5 s4 hf => ?_)
                        exact G_iret C hR dX8_told_88 (Option.some.inj hf)
                      · refine G_iconst (v := (-1 : Int32)) (pc' := 78) C dX8_told_77 (by decide) rfl ?_
                        refine G_goto (pc' := 88) C dX8_told_78 (by decide) ?_
                        exact G_iret C hR dX8_told_88 (Option.some.inj hf)
                  · refine G_iconst (v := (1 : Int32)) (pc' := 58) C dX8_told_57 (by decide) rfl ?_
                    refine G_goto (pc' := 62) C dX8_told_58 (by decide) ?_
                    refine G_istore (lv' := [(0, .ref (za ω 0)), (3, .int a3), (4, .int a4), (5, .int (1 : Int32))]) (pc' := 64) C dX8_told_62 (by decide) [1, 4, 5, 0] rfl rfl ?_
                    refine G_iload (pc' := 66) C dX8_told_64 3 rfl rfl ?_
                    refine G_if_ne (tgt := 72) (pc' := 69) C dX8_told_66 (by decide) rfl hf (fun hf => ?_) (fun hf => ?_)
                    · refine G_bipush (v := (-2 : Int32)) (pc' := 71) C dX8_told_69 (by decide) rfl ?_
                      exact G_iret C hR dX8_told_71 (Option.some.inj hf)
                    · refine G_iload (pc' := 74) C dX8_told_72 2 rfl rfl ?_
                      refine G_if_ge (tgt := 81) (pc' := 77) C dX8_told_74 (by decide) rfl hf (fun hf => ?_) (fun hf => ?_)
                      · refine G_aload_n (pc' := 82) C dX8_told_81 0 rfl rfl ?_
                        refine G_iload_n (pc' := 83) C dX8_told_82 1 rfl rfl ?_
                        refine G_iload (pc' := 85) C dX8_told_83 2 rfl rfl ?_
                        refine G_callVt (pc' := 88) C [.int a3, .int a4] (c_X8_listed ω N σ a3 a4) sg_X8_listed gX8_told_X8_listed wM_0 rfl ⟨Nat.le_of_ble_eq_true rfl, Nat.le_of_ble_eq_true rfl⟩ rfl rfl (Nat.le_of_ble_eq_true rfl) dX8_told_85 rfl hf (fun v7 s6 hf => ?_)
                        exact G_iret C hR dX8_told_88 (Option.some.inj hf)
                      · refine G_iconst (v := (-1 : Int32)) (pc' := 78) C dX8_told_77 (by decide) rfl ?_
                        refine G_goto (pc' := 88) C dX8_told_78 (by decide) ?_
                        exact G_iret C hR dX8_told_88 (Option.some.inj hf)
                · refine G_iload_n (pc' := 44) C dX8_told_43 3 rfl rfl ?_
                  refine G_if_eq (tgt := 57) (pc' := 47) C dX8_told_44 (by decide) rfl hf (fun hf => ?_) (fun hf => ?_)
                  · refine G_iconst (v := (1 : Int32)) (pc' := 58) C dX8_told_57 (by decide) rfl ?_
                    refine G_goto (pc' := 62) C dX8_told_58 (by decide) ?_
                    refine G_istore (lv' := [(0, .ref (za ω 0)), (3, .int a3), (4, .int a4), (5, .int (1 : Int32))]) (pc' := 64) C dX8_told_62 (by decide) [1, 4, 5, 0] rfl rfl ?_
                    refine G_iload (pc' := 66) C dX8_told_64 3 rfl rfl ?_
                    refine G_if_ne (tgt := 72) (pc' := 69) C dX8_told_66 (by decide) rfl hf (fun hf => ?_) (fun hf => ?_)
                    · refine G_bipush (v := (-2 : Int32)) (pc' := 71) C dX8_told_69 (by decide) rfl ?_
                      exact G_iret C hR dX8_told_71 (Option.some.inj hf)
                    · refine G_iload (pc' := 74) C dX8_told_72 2 rfl rfl ?_
                      refine G_if_ge (tgt := 81) (pc' := 77) C dX8_told_74 (by decide) rfl hf (fun hf => ?_) (fun hf => ?_)
                      · refine G_aload_n (pc' := 82) C dX8_told_81 0 rfl rfl ?_
                        refine G_iload_n (pc' := 83) C dX8_told_82 1 rfl rfl ?_
                        refine G_iload (pc' := 85) C dX8_told_83 2 rfl rfl ?_
                        refine G_callVt (pc' := 88) C [.int a3, .int a4] (c_X8_listed ω N σ a3 a4) sg_X8_listed gX8_told_X8_listed wM_0 rfl ⟨Nat.le_of_ble_eq_true rfl, Nat.le_of_ble_eq_true rfl⟩ rfl rfl (Nat.le_of_ble_eq_true rfl) dX8_told_85 rfl hf (fun v9 s8 hf => ?_)
                        exact G_iret C hR dX8_told_88 (Option.some.inj hf)
                      · refine G_iconst (v := (-1 : Int32)) (pc' := 78) C dX8_told_77 (by decide) rfl ?_
                        refine G_goto (pc' := 88) C dX8_told_78 (by decide) ?_
                        exact G_iret C hR dX8_told_88 (Option.some.inj hf)
                  · refine G_iload_n (pc' := 48) C dX8_told_47 2 rfl rfl ?_
                    refine G_aload_n (pc' := 49) C dX8_told_48 0 rfl rfl ?_
                    refine G_get (pc' := 52) C wM_0 rfl 14 (by decide) rfl iu_X8_told_X8 lk_X8_told_48 dX8_told_49 rfl ?_
                    refine G_iload_n (pc' := 53) C dX8_told_52 3 rfl rfl ?_
                    refine G_iald (pc' := 54) C wM_13 dX8_told_53 rfl hf (fun v10 hf => ?_)
                    refine G_icmp_lt (tgt := 61) (pc' := 57) C dX8_told_54 (by decide) rfl hf (fun hf => ?_) (fun hf => ?_)
                    · refine G_iconst (v := (0 : Int32)) (pc' := 62) C dX8_told_61 (by decide) rfl ?_
                      refine G_istore (lv' := [(0, .ref (za ω 0)), (3, .int a3), (4, .int a4), (5, .int (0 : Int32))]) (pc' := 64) C dX8_told_62 (by decide) [1, 4, 5, 0] rfl rfl ?_
                      refine G_iload (pc' := 66) C dX8_told_64 3 rfl rfl ?_
                      refine G_if_ne (tgt := 72) (pc' := 69) C dX8_told_66 (by decide) rfl hf (fun hf => ?_) (fun hf => ?_)
                      · refine G_bipush (v := (-2 : Int32)) (pc' := 71) C dX8_told_69 (by decide) rfl ?_
                        exact G_iret C hR dX8_told_71 (Option.some.inj hf)
                      · refine G_iload (pc' := 74) C dX8_told_72 2 rfl rfl ?_
                        refine G_if_ge (tgt := 81) (pc' := 77) C dX8_told_74 (by decide) rfl hf (fun hf => ?_) (fun hf => ?_)
                        · refine G_aload_n (pc' := 82) C dX8_told_81 0 rfl rfl ?_
                          refine G_iload_n (pc' := 83) C dX8_told_82 1 rfl rfl ?_
                          refine G_iload (pc' := 85) C dX8_told_83 2 rfl rfl ?_
                          refine G_callVt (pc' := 88) C [.int a3, .int a4] (c_X8_listed ω N σ a3 a4) sg_X8_listed gX8_told_X8_listed wM_0 rfl ⟨Nat.le_of_ble_eq_true rfl, Nat.le_of_ble_eq_true rfl⟩ rfl rfl (Nat.le_of_ble_eq_true rfl) dX8_told_85 rfl hf (fun v12 s11 hf => ?_)
                          exact G_iret C hR dX8_told_88 (Option.some.inj hf)
                        · refine G_iconst (v := (-1 : Int32)) (pc' := 78) C dX8_told_77 (by decide) rfl ?_
                          refine G_goto (pc' := 88) C dX8_told_78 (by decide) ?_
                          exact G_iret C hR dX8_told_88 (Option.some.inj hf)
                    · refine G_iconst (v := (1 : Int32)) (pc' := 58) C dX8_told_57 (by decide) rfl ?_
                      refine G_goto (pc' := 62) C dX8_told_58 (by decide) ?_
                      refine G_istore (lv' := [(0, .ref (za ω 0)), (3, .int a3), (4, .int a4), (5, .int (1 : Int32))]) (pc' := 64) C dX8_told_62 (by decide) [1, 4, 5, 0] rfl rfl ?_
                      refine G_iload (pc' := 66) C dX8_told_64 3 rfl rfl ?_
                      refine G_if_ne (tgt := 72) (pc' := 69) C dX8_told_66 (by decide) rfl hf (fun hf => ?_) (fun hf => ?_)
                      · refine G_bipush (v := (-2 : Int32)) (pc' := 71) C dX8_told_69 (by decide) rfl ?_
                        exact G_iret C hR dX8_told_71 (Option.some.inj hf)
                      · refine G_iload (pc' := 74) C dX8_told_72 2 rfl rfl ?_
                        refine G_if_ge (tgt := 81) (pc' := 77) C dX8_told_74 (by decide) rfl hf (fun hf => ?_) (fun hf => ?_)
                        · refine G_aload_n (pc' := 82) C dX8_told_81 0 rfl rfl ?_
                          refine G_iload_n (pc' := 83) C dX8_told_82 1 rfl rfl ?_
                          refine G_iload (pc' := 85) C dX8_told_83 2 rfl rfl ?_
                          refine G_callVt (pc' := 88) C [.int a3, .int a4] (c_X8_listed ω N σ a3 a4) sg_X8_listed gX8_told_X8_listed wM_0 rfl ⟨Nat.le_of_ble_eq_true rfl, Nat.le_of_ble_eq_true rfl⟩ rfl rfl (Nat.le_of_ble_eq_true rfl) dX8_told_85 rfl hf (fun v14 s13 hf => ?_)
                          exact G_iret C hR dX8_told_88 (Option.some.inj hf)
                        · refine G_iconst (v := (-1 : Int32)) (pc' := 78) C dX8_told_77 (by decide) rfl ?_
                          refine G_goto (pc' := 88) C dX8_told_78 (by decide) ?_
                          exact G_iret C hR dX8_told_88 (Option.some.inj hf)
            · refine G_bipush (v := (-2 : Int32)) (pc' := 32) C dX8_told_30 (by decide) rfl ?_
              exact G_iret C hR dX8_told_32 (Option.some.inj hf)
