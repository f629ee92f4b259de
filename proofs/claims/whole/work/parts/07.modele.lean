abbrev rm_X8_worth : Room := { frames := 7, cells := 0, slots := 0, locals := 173 }
theorem sg_X8_worth : ZG yX8_worth wsX8_worth cX8_worth 4 (some .int) RX8 3 rm_X8_worth := ⟨⟨_, rfl⟩, by decide +kernel, rfl, rfl⟩
set_option maxHeartbeats 4000000 in
set_option maxRecDepth 100000 in
theorem c_X8_worth (ω : ZO) (N : Nat) (σ : ZS) (a1 : Int32) (a2 : Int32) (a3 : Int32) : ZIs ω wM yX8_worth wsX8_worth rm_X8_worth [.ref (za ω 0), .int a1, .int a2, .int a3] σ (f_X8_worth N σ a1 a2 a3) := by
  intro r0 hf
  refine ZI.go (cc := cX8_worth) (maxL := 4) (ret := (some .int)) (own := RX8) (lv := [(0, .ref (za ω 0)), (1, .int a1), (2, .int a2), (3, .int a3)]) (by decide) rfl rfl (Nat.le_of_ble_eq_true rfl) rfl (fun κ C hR => ?_)
  unfold f_X8_worth at hf
  refine G_iload_n (pc' := 1) C dX8_worth_0 1 rfl rfl ?_
  refine G_callSp (pc' := 4) C [.int a1] (c_X8_isStage ω N σ a1) sg_X8_isStage gX8_worth_X8_isStage ⟨Nat.le_of_ble_eq_true rfl, Nat.le_of_ble_eq_true rfl⟩ rfl rfl (Nat.le_of_ble_eq_true rfl) dX8_worth_1 rfl hf (fun v1 hf => ?_)
  refine G_if_eq (tgt := 24) (pc' := 7) C dX8_worth_4 (by decide) rfl hf (fun hf => ?_) (fun hf => ?_)
  · refine G_iconst (v := (-1 : Int32)) (pc' := 25) C dX8_worth_24 (by decide) rfl ?_
    exact G_iret C hR dX8_worth_25 (Option.some.inj hf)
  · refine G_iload_n (pc' := 8) C dX8_worth_7 2 rfl rfl ?_
    refine G_if_lt (tgt := 24) (pc' := 11) C dX8_worth_8 (by decide) rfl hf (fun hf => ?_) (fun hf => ?_)
    · refine G_iconst (v := (-1 : Int32)) (pc' := 25) C dX8_worth_24 (by decide) rfl ?_
      exact G_iret C hR dX8_worth_25 (Option.some.inj hf)
    · refine G_iload_n (pc' := 12) C dX8_worth_11 2 rfl rfl ?_
      refine G_iconst (v := (2 : Int32)) (pc' := 13) C dX8_worth_12 (by decide) rfl ?_
      refine G_icmp_gt (tgt := 24) (pc' := 16) C dX8_worth_13 (by decide) rfl hf (fun hf => ?_) (fun hf => ?_)
      · refine G_iconst (v := (-1 : Int32)) (pc' := 25) C dX8_worth_24 (by decide) rfl ?_
        exact G_iret C hR dX8_worth_25 (Option.some.inj hf)
      · refine G_aload_n (pc' := 17) C dX8_worth_16 0 rfl rfl ?_
        refine G_iload_n (pc' := 18) C dX8_worth_17 3 rfl rfl ?_
        refine G_callVp (pc' := 21) C [.int a3] (c_X8_isBook ω N σ a3) sg_X8_isBook gX8_worth_X8_isBook wM_0 rfl ⟨Nat.le_of_ble_eq_true rfl, Nat.le_of_ble_eq_true rfl⟩ rfl rfl (Nat.le_of_ble_eq_true rfl) dX8_worth_18 rfl hf (fun v2 hf => ?_)
        refine G_if_ne (tgt := 26) (pc' := 24) C dX8_worth_21 (by decide) rfl hf (fun hf => ?_) (fun hf => ?_)
        · refine G_iconst (v := (-1 : Int32)) (pc' := 25) C dX8_worth_24 (by decide) rfl ?_
          exact G_iret C hR dX8_worth_25 (Option.some.inj hf)
        · refine G_aload_n (pc' := 27) C dX8_worth_26 0 rfl rfl ?_
          refine G_iload_n (pc' := 28) C dX8_worth_27 1 rfl rfl ?_
          refine G_callVv (pc' := 31) C [.int a1] (c_X8_lists ω N σ a1) sg_X8_lists gX8_worth_X8_lists wM_0 rfl ⟨Nat.le_of_ble_eq_true rfl, Nat.le_of_ble_eq_true rfl⟩ rfl rfl (Nat.le_of_ble_eq_true rfl) dX8_worth_28 rfl hf (fun s3 hf => ?_)
          refine G_aload_n (pc' := 32) C dX8_worth_31 0 rfl rfl ?_
          refine G_iload_n (pc' := 33) C dX8_worth_32 3 rfl rfl ?_
          refine G_callVp (pc' := 36) C [.int a3] (c_X8_isListed ω N s3 a3) sg_X8_isListed gX8_worth_X8_isListed wM_0 rfl ⟨Nat.le_of_ble_eq_true rfl, Nat.le_of_ble_eq_true rfl⟩ rfl rfl (Nat.le_of_ble_eq_true rfl) dX8_worth_33 rfl hf (fun v4 hf => ?_)
          refine G_if_ne (tgt := 41) (pc' := 39) C dX8_worth_36 (by decide) rfl hf (fun hf => ?_) (fun hf => ?_)
          · refine G_iconst (v := (-1 : Int32)) (pc' := 40) C dX8_worth_39 (by decide) rfl ?_
            exact G_iret C hR dX8_worth_40 (Option.some.inj hf)
          · refine G_aload_n (pc' := 42) C dX8_worth_41 0 rfl rfl ?_
            refine G_iload_n (pc' := 43) C dX8_worth_42 1 rfl rfl ?_
            refine G_iload_n (pc' := 44) C dX8_worth_43 2 rfl rfl ?_
            refine G_callVv (pc' := 47) C [.int a1, .int a2] (c_X8_orders ω N s3 a1 a2) sg_X8_orders gX8_worth_X8_orders wM_0 rfl ⟨Nat.le_of_ble_eq_true rfl, Nat.le_of_ble_eq_true rfl⟩ rfl rfl (Nat.le_of_ble_eq_true rfl) dX8_worth_44 rfl hf (fun s5 hf => ?_)
            refine G_aload_n (pc' := 48) C dX8_worth_47 0 rfl rfl ?_
            refine G_iload_n (pc' := 49) C dX8_worth_48 2 rfl rfl ?_
            refine G_iload_n (pc' := 50) C dX8_worth_49 3 rfl rfl ?_
            refine G_callVp (pc' := 53) C [.int a2, .int a3] (c_X8_worthOf ω N s5 a2 a3) sg_X8_worthOf gX8_worth_X8_worthOf wM_0 rfl ⟨Nat.le_of_ble_eq_true rfl, Nat.le_of_ble_eq_true rfl⟩ rfl rfl (Nat.le_of_ble_eq_true rfl) dX8_worth_50 rfl hf (fun v6 hf => ?_)
            exact G_iret C hR dX8_worth_53 (Option.some.inj hf)
theorem iu_X8_paradox_X8 : ∀ w ∈ wsX80, w ∈ wsX8_paradox := by decide +kernel
theorem lk_X8_paradox_113 : Cond.fieldLink RX8 113 "PrizeDeskModel" "books" "I" ∈ wsX8_paradox := by decide +kernel
abbrev rm_X8_paradox : Room := { frames := 7, cells := 0, slots := 0, locals := 173 }
theorem sg_X8_paradox : ZG yX8_paradox wsX8_paradox cX8_paradox 6 (some .int) RX8 2 rm_X8_paradox := ⟨⟨_, rfl⟩, by decide +kernel, rfl, rfl⟩
set_option maxHeartbeats 4000000 in
set_option maxRecDepth 100000 in
theorem w_X8_paradox_48 {ω : ZO} {κ : ZK} {N : Nat} {σ : ZS} {b1 : Int32} {b2 : Int32} {b3 : Int32} {b4 : Int32} {K : Int32 → Option (Int32 × ZS)} {r0 : Int32 × ZS} (C : CX ω wM κ cX8_paradox wsX8_paradox RX8 (some .int) 6 rm_X8_paradox) (hR : zRI ω wM κ (fun v τ => (v, τ) = r0)) (HK : ∀ (y5 : Int32), K y5 = some r0 → G ω wM κ 166 [(0, .ref (za ω 0)), (1, .int b1), (2, .int b2), (3, .int b3), (4, .int b4)] [] σ) : ∀ (n : Nat) (y5 : Int32), L_X8_paradox_48 N σ b1 b2 b3 b4 K n y5 = some r0 → G ω wM κ 48 [(0, .ref (za ω 0)), (1, .int b1), (2, .int b2), (3, .int b3), (4, .int b4), (5, .int y5)] [] σ := by
  intro n
  induction n with
  | zero => intro  y5 hf; exact absurd (show none = some r0 from hf) (fun h => nomatch h)
  | succ n ih =>
    intro y5 hf
    have hf : B_X8_paradox_48 N σ b1 b2 b3 b4 K (L_X8_paradox_48 N σ b1 b2 b3 b4 K n) y5 = some r0 := hf
    unfold B_X8_paradox_48 at hf
    refine G_iload (pc' := 50) C dX8_paradox_48 5 rfl rfl ?_
    refine G_aload_n (pc' := 51) C dX8_paradox_50 0 rfl rfl ?_
    refine G_get (pc' := 54) C wM_0 rfl 4 (by decide) rfl iu_X8_paradox_X8 lk_X8_paradox_113 dX8_paradox_51 rfl ?_
    refine G_icmp_ge (tgt := 166) (pc' := 57) C dX8_paradox_54 (by decide) rfl hf (fun hf => ?_) (fun hf => ?_)
    · refine G_sub (lv' := [(0, .ref (za ω 0)), (1, .int b1), (2, .int b2), (3, .int b3), (4, .int b4)]) C [0, 1, 2, 3, 4] rfl ?_
      exact HK y5 hf
    · refine G_iload_n (pc' := 58) C dX8_paradox_57 3 rfl rfl ?_
      refine G_iload (pc' := 60) C dX8_paradox_58 4 rfl rfl ?_
      refine G_icmp_eq (tgt := 160) (pc' := 63) C dX8_paradox_60 (by decide) rfl hf (fun hf => ?_) (fun hf => ?_)
      · refine G_iincL (v := y5 + (1 : Int32)) (pc' := 163) C dX8_paradox_160 5 rfl rfl (by decide) [1, 2, 3, 4, 5, 0] (fun x3 => [(0, .ref (za ω 0)), (1, .int b1), (2, .int b2), (3, .int b3), (4, .int b4), (5, .int x3)]) (fun _ => rfl) rfl hf (fun x3 hf => ?_)
        refine G_goto (pc' := 48) C dX8_paradox_163 (by decide) ?_
        exact ih x3 hf
      · refine G_iload (pc' := 65) C dX8_paradox_63 4 rfl rfl ?_
        refine G_iload (pc' := 67) C dX8_paradox_65 5 rfl rfl ?_
        refine G_icmp_eq (tgt := 160) (pc' := 70) C dX8_paradox_67 (by decide) rfl hf (fun hf => ?_) (fun hf => ?_)
        · refine G_iincL (v := y5 + (1 : Int32)) (pc' := 163) C dX8_paradox_160 5 rfl rfl (by decide) [1, 2, 3, 4, 5, 0] (fun x4 => [(0, .ref (za ω 0)), (1, .int b1), (2, .int b2), (3, .int b3), (4, .int b4), (5, .int x4)]) (fun _ => rfl) rfl hf (fun x4 hf => ?_)
          refine G_goto (pc' := 48) C dX8_paradox_163 (by decide) ?_
          exact ih x4 hf
        · refine G_iload_n (pc' := 71) C dX8_paradox_70 3 rfl rfl ?_
          refine G_iload (pc' := 73) C dX8_paradox_71 5 rfl rfl ?_
          refine G_icmp_eq (tgt := 160) (pc' := 76) C dX8_paradox_73 (by decide) rfl hf (fun hf => ?_) (fun hf => ?_)
          · refine G_iincL (v := y5 + (1 : Int32)) (pc' := 163) C dX8_paradox_160 5 rfl rfl (by decide) [1, 2, 3, 4, 5, 0] (fun x5 => [(0, .ref (za ω 0)), (1, .int b1), (2, .int b2), (3, .int b3), (4, .int b4), (5, .int x5)]) (fun _ => rfl) rfl hf (fun x5 hf => ?_)
            refine G_goto (pc' := 48) C dX8_paradox_163 (by decide) ?_
            exact ih x5 hf
          · refine G_aload_n (pc' := 77) C dX8_paradox_76 0 rfl rfl ?_
            refine G_iload_n (pc' := 78) C dX8_paradox_77 3 rfl rfl ?_
            refine G_callVp (pc' := 81) C [.int b3] (c_X8_isListed ω N σ b3) sg_X8_isListed gX8_paradox_X8_isListed wM_0 rfl ⟨Nat.le_of_ble_eq_true rfl, Nat.le_of_ble_eq_true rfl⟩ rfl rfl (Nat.le_of_ble_eq_true rfl) dX8_paradox_78 rfl hf (fun v6 hf => ?_)
            refine G_if_eq (tgt := 160) (pc' := 84) C dX8_paradox_81 (by decide) rfl hf (fun hf => ?_) (fun hf => ?_)
            · refine G_iincL (v := y5 + (1 : Int32)) (pc' := 163) C dX8_paradox_160 5 rfl rfl (by decide) [1, 2, 3, 4, 5, 0] (fun x7 => [(0, .ref (za ω 0)), (1, .int b1), (2, .int b2), (3, .int b3), (4, .int b4), (5, .int x7)]) (fun _ => rfl) rfl hf (fun x7 hf => ?_)
              refine G_goto (pc' := 48) C dX8_paradox_163 (by decide) ?_
              exact ih x7 hf
            · refine G_aload_n (pc' := 85) C dX8_paradox_84 0 rfl rfl ?_
              refine G_iload (pc' := 87) C dX8_paradox_85 4 rfl rfl ?_
              refine G_callVp (pc' := 90) C [.int b4] (c_X8_isListed ω N σ b4) sg_X8_isListed gX8_paradox_X8_isListed wM_0 rfl ⟨Nat.le_of_ble_eq_true rfl, Nat.le_of_ble_eq_true rfl⟩ rfl rfl (Nat.le_of_ble_eq_true rfl) dX8_paradox_87 rfl hf (fun v8 hf => ?_)
              refine G_if_eq (tgt := 160) (pc' := 93) C dX8_paradox_90 (by decide) rfl hf (fun hf => ?_) (fun hf => ?_)
              · refine G_iincL (v := y5 + (1 : Int32)) (pc' := 163) C dX8_paradox_160 5 rfl rfl (by decide) [1, 2, 3, 4, 5, 0] (fun x9 => [(0, .ref (za ω 0)), (1, .int b1), (2, .int b2), (3, .int b3), (4, .int b4), (5, .int x9)]) (fun _ => rfl) rfl hf (fun x9 hf => ?_)
                refine G_goto (pc' := 48) C dX8_paradox_163 (by decide) ?_
                exact ih x9 hf
              · refine G_aload_n (pc' := 94) C dX8_paradox_93 0 rfl rfl ?_
                refine G_iload (pc' := 96) C dX8_paradox_94 5 rfl rfl ?_
                refine G_callVp (pc' := 99) C [.int y5] (c_X8_isListed ω N σ y5) sg_X8_isListed gX8_paradox_X8_isListed wM_0 rfl ⟨Nat.le_of_ble_eq_true rfl, Nat.le_of_ble_eq_true rfl⟩ rfl rfl (Nat.le_of_ble_eq_true rfl) dX8_paradox_96 rfl hf (fun v10 hf => ?_)
                refine G_if_ne (tgt := 105) (pc' := 102) C dX8_paradox_99 (by decide) rfl hf (fun hf => ?_) (fun hf => ?_)
                · refine G_goto (pc' := 160) C dX8_paradox_102 (by decide) ?_
                  refine G_iincL (v := y5 + (1 : Int32)) (pc' := 163) C dX8_paradox_160 5 rfl rfl (by decide) [1, 2, 3, 4, 5, 0] (fun x11 => [(0, .ref (za ω 0)), (1, .int b1), (2, .int b2), (3, .int b3), (4, .int b4), (5, .int x11)]) (fun _ => rfl) rfl hf (fun x11 hf => ?_)
                  refine G_goto (pc' := 48) C dX8_paradox_163 (by decide) ?_
                  exact ih x11 hf
                · refine G_aload_n (pc' := 106) C dX8_paradox_105 0 rfl rfl ?_
                  refine G_iload_n (pc' := 107) C dX8_paradox_106 1 rfl rfl ?_
                  refine G_iload_n (pc' := 108) C dX8_paradox_107 3 rfl rfl ?_
                  refine G_iload (pc' := 110) C dX8_paradox_108 4 rfl rfl ?_
                  refine G_callVp (pc' := 113) C [.int b1, .int b3, .int b4] (c_X8_more ω N σ b1 b3 b4) sg_X8_more gX8_paradox_X8_more wM_0 rfl ⟨Nat.le_of_ble_eq_true rfl, Nat.le_of_ble_eq_true rfl⟩ rfl rfl (Nat.le_of_ble_eq_true rfl) dX8_paradox_110 rfl hf (fun v12 hf => ?_)
                  refine G_if_le (tgt := 160) (pc' := 116) C dX8_paradox_113 (by decide) rfl hf (fun hf => ?_) (fun hf => ?_)
                  · refine G_iincL (v := y5 + (1 : Int32)) (pc' := 163) C dX8_paradox_160 5 rfl rfl (by decide) [1, 2, 3, 4, 5, 0] (fun x13 => [(0, .ref (za ω 0)), (1, .int b1), (2, .int b2), (3, .int b3), (4, .int b4), (5, .int x13)]) (fun _ => rfl) rfl hf (fun x13 hf => ?_)
                    refine G_goto (pc' := 48) C dX8_paradox_163 (by decide) ?_
                    exact ih x13 hf
                  · refine G_aload_n (pc' := 117) C dX8_paradox_116 0 rfl rfl ?_
                    refine G_iload_n (pc' := 118) C dX8_paradox_117 1 rfl rfl ?_
                    refine G_iload (pc' := 120) C dX8_paradox_118 4 rfl rfl ?_
                    refine G_iload (pc' := 122) C dX8_paradox_120 5 rfl rfl ?_
                    refine G_callVp (pc' := 125) C [.int b1, .int b4, .int y5] (c_X8_more ω N σ b1 b4 y5) sg_X8_more gX8_paradox_X8_more wM_0 rfl ⟨Nat.le_of_ble_eq_true rfl, Nat.le_of_ble_eq_true rfl⟩ rfl rfl (Nat.le_of_ble_eq_true rfl) dX8_paradox_122 rfl hf (fun v14 hf => ?_)
                    refine G_if_le (tgt := 160) (pc' := 128) C dX8_paradox_125 (by decide) rfl hf (fun hf => ?_) (fun hf => ?_)
                    · refine G_iincL (v := y5 + (1 : Int32)) (pc' := 163) C dX8_paradox_160 5 rfl rfl (by decide) [1, 2, 3, 4, 5, 0] (fun x15 => [(0, .ref (za ω 0)), (1, .int b1), (2, .int b2), (3, .int b3), (4, .int b4), (5, .int x15)]) (fun _ => rfl) rfl hf (fun x15 hf => ?_)
                      refine G_goto (pc' := 48) C dX8_paradox_163 (by decide) ?_
                      exact ih x15 hf
                    · refine G_aload_n (pc' := 129) C dX8_paradox_128 0 rfl rfl ?_
                      refine G_iload_n (pc' := 130) C dX8_paradox_129 1 rfl rfl ?_
                      refine G_iload (pc' := 132) C dX8_paradox_130 5 rfl rfl ?_
                      refine G_iload_n (pc' := 133) C dX8_paradox_132 3 rfl rfl ?_
                      refine G_callVp (pc' := 136) C [.int b1, .int y5, .int b3] (c_X8_more ω N σ b1 y5 b3) sg_X8_more gX8_paradox_X8_more wM_0 rfl ⟨Nat.le_of_ble_eq_true rfl, Nat.le_of_ble_eq_true rfl⟩ rfl rfl (Nat.le_of_ble_eq_true rfl) dX8_paradox_133 rfl hf (fun v16 hf => ?_)
                      refine G_if_le (tgt := 160) (pc' := 139) C dX8_paradox_136 (by decide) rfl hf (fun hf => ?_) (fun hf => ?_)
                      · refine G_iincL (v := y5 + (1 : Int32)) (pc' := 163) C dX8_paradox_160 5 rfl rfl (by decide) [1, 2, 3, 4, 5, 0] (fun x17 => [(0, .ref (za ω 0)), (1, .int b1), (2, .int b2), (3, .int b3), (4, .int b4), (5, .int x17)]) (fun _ => rfl) rfl hf (fun x17 hf => ?_)
                        refine G_goto (pc' := 48) C dX8_paradox_163 (by decide) ?_
                        exact ih x17 hf
                      · refine G_iload_n (pc' := 140) C dX8_paradox_139 2 rfl rfl ?_
                        refine G_if_ne (tgt := 147) (pc' := 143) C dX8_paradox_140 (by decide) rfl hf (fun hf => ?_) (fun hf => ?_)
                        · refine G_iload_n (pc' := 144) C dX8_paradox_143 3 rfl rfl ?_
                          refine G_goto (pc' := 159) C dX8_paradox_144 (by decide) ?_
                          exact G_iret C hR dX8_paradox_159 (Option.some.inj hf)
                        · refine G_iload_n (pc' := 148) C dX8_paradox_147 2 rfl rfl ?_
                          refine G_iconst (v := (1 : Int32)) (pc' := 149) C dX8_paradox_148 (by decide) rfl ?_
                          refine G_icmp_ne (tgt := 157) (pc' := 152) C dX8_paradox_149 (by decide) rfl hf (fun hf => ?_) (fun hf => ?_)
                          · refine G_iload (pc' := 154) C dX8_paradox_152 4 rfl rfl ?_
                            refine G_goto (pc' := 159) C dX8_paradox_154 (by decide) ?_
                            exact G_iret C hR dX8_paradox_159 (Option.some.inj hf)
                          · refine G_iload (pc' := 159) C dX8_paradox_157 5 rfl rfl ?_
                            exact G_iret C hR dX8_paradox_159 (Option.some.inj hf)
set_option maxHeartbeats 4000000 in
set_option maxRecDepth 100000 in
theorem w_X8_paradox_36 {ω : ZO} {κ : ZK} {N : Nat} {σ : ZS} {b1 : Int32} {b2 : Int32} {b3 : Int32} {K : Int32 → Option (Int32 × ZS)} {r0 : Int32 × ZS} (C : CX ω wM κ cX8_paradox wsX8_paradox RX8 (some .int) 6 rm_X8_paradox) (hR : zRI ω wM κ (fun v τ => (v, τ) = r0)) (HK : ∀ (y4 : Int32), K y4 = some r0 → G ω wM κ 172 [(0, .ref (za ω 0)), (1, .int b1), (2, .int b2), (3, .int b3)] [] σ) : ∀ (n : Nat) (y4 : Int32), L_X8_paradox_36 N σ b1 b2 b3 K n y4 = some r0 → G ω wM κ 36 [(0, .ref (za ω 0)), (1, .int b1), (2, .int b2), (3, .int b3), (4, .int y4)] [] σ := by
  intro n
  induction n with
  | zero => intro  y4 hf; exact absurd (show none = some r0 from hf) (fun h => nomatch h)
  | succ n ih =>
    intro y4 hf
    have hf : B_X8_paradox_36 N σ b1 b2 b3 K (L_X8_paradox_36 N σ b1 b2 b3 K n) y4 = some r0 := hf
    unfold B_X8_paradox_36 at hf
    refine G_iload (pc' := 38) C dX8_paradox_36 4 rfl rfl ?_
    refine G_aload_n (pc' := 39) C dX8_paradox_38 0 rfl rfl ?_
    refine G_get (pc' := 42) C wM_0 rfl 4 (by decide) rfl iu_X8_paradox_X8 lk_X8_paradox_113 dX8_paradox_39 rfl ?_
    refine G_icmp_ge (tgt := 172) (pc' := 45) C dX8_paradox_42 (by decide) rfl hf (fun hf => ?_) (fun hf => ?_)
    · refine G_sub (lv' := [(0, .ref (za ω 0)), (1, .int b1), (2, .int b2), (3, .int b3)]) C [0, 1, 2, 3] rfl ?_
      exact HK y4 hf
    · refine G_iconst (v := (0 : Int32)) (pc' := 46) C dX8_paradox_45 (by decide) rfl ?_
      refine G_istore (lv' := [(0, .ref (za ω 0)), (1, .int b1), (2, .int b2), (3, .int b3), (4, .int y4), (5, .int (0 : Int32))]) (pc' := 48) C dX8_paradox_46 (by decide) [1, 2, 3, 4, 5, 0] rfl rfl ?_
      refine w_X8_paradox_48 C hR (fun y18 hf => ?_) N (0 : Int32) hf
      refine G_iincL (v := y4 + (1 : Int32)) (pc' := 169) C dX8_paradox_166 4 rfl rfl (by decide) [1, 2, 3, 4, 0] (fun x19 => [(0, .ref (za ω 0)), (1, .int b1), (2, .int b2), (3, .int b3), (4, .int x19)]) (fun _ => rfl) rfl hf (fun x19 hf => ?_)
      refine G_goto (pc' := 36) C dX8_paradox_169 (by decide) ?_
      exact ih x19 hf
set_option maxHeartbeats 4000000 in
set_option maxRecDepth 100000 in
theorem w_X8_paradox_25 {ω : ZO} {κ : ZK} {N : Nat} {σ : ZS} {b1 : Int32} {b2 : Int32} {K : Int32 → Option (Int32 × ZS)} {r0 : Int32 × ZS} (C : CX ω wM κ cX8_paradox wsX8_paradox RX8 (some .int) 6 rm_X8_paradox) (hR : zRI ω wM κ (fun v τ => (v, τ) = r0)) (HK : ∀ (y3 : Int32), K y3 = some r0 → G ω wM κ 178 [(0, .ref (za ω 0))] [] σ) : ∀ (n : Nat) (y3 : Int32), L_X8_paradox_25 N σ b1 b2 K n y3 = some r0 → G ω wM κ 25 [(0, .ref (za ω 0)), (1, .int b1), (2, .int b2), (3, .int y3)] [] σ := by
  intro n
  induction n with
  | zero => intro  y3 hf; exact absurd (show none = some r0 from hf) (fun h => nomatch h)
  | succ n ih =>
    intro y3 hf
    have hf : B_X8_paradox_25 N σ b1 b2 K (L_X8_paradox_25 N σ b1 b2 K n) y3 = some r0 := hf
    unfold B_X8_paradox_25 at hf
    refine G_iload_n (pc' := 26) C dX8_paradox_25 3 rfl rfl ?_
    refine G_aload_n (pc' := 27) C dX8_paradox_26 0 rfl rfl ?_
    refine G_get (pc' := 30) C wM_0 rfl 4 (by decide) rfl iu_X8_paradox_X8 lk_X8_paradox_113 dX8_paradox_27 rfl ?_
    refine G_icmp_ge (tgt := 178) (pc' := 33) C dX8_paradox_30 (by decide) rfl hf (fun hf => ?_) (fun hf => ?_)
    · refine G_sub (lv' := [(0, .ref (za ω 0))]) C [0] rfl ?_
      exact HK y3 hf
    · refine G_iconst (v := (0 : Int32)) (pc' := 34) C dX8_paradox_33 (by decide) rfl ?_
      refine G_istore (lv' := [(0, .ref (za ω 0)), (1, .int b1), (2, .int b2), (3, .int y3), (4, .int (0 : Int32))]) (pc' := 36) C dX8_paradox_34 (by decide) [1, 2, 3, 4, 0] rfl rfl ?_
      refine w_X8_paradox_36 C hR (fun y20 hf => ?_) N (0 : Int32) hf
      refine G_iincL (v := y3 + (1 : Int32)) (pc' := 175) C dX8_paradox_172 3 rfl rfl (by decide) [1, 2, 3, 0] (fun x21 => [(0, .ref (za ω 0)), (1, .int b1), (2, .int b2), (3, .int x21)]) (fun _ => rfl) rfl hf (fun x21 hf => ?_)
      refine G_goto (pc' := 25) C dX8_paradox_175 (by decide) ?_
      exact ih x21 hf
set_option maxHeartbeats 4000000 in
set_option maxRecDepth 100000 in
theorem c_X8_paradox (ω : ZO) (N : Nat) (σ : ZS) (a1 : Int32) (a2 : Int32) : ZIs ω wM yX8_paradox wsX8_paradox rm_X8_paradox [.ref (za ω 0), .int a1, .int a2] σ (f_X8_paradox N σ a1 a2) := by
  intro r0 hf
  refine ZI.go (cc := cX8_paradox) (maxL := 6) (ret := (some .int)) (own := RX8) (lv := [(0, .ref (za ω 0)), (1, .int a1), (2, .int a2)]) (by decide) rfl rfl (Nat.le_of_ble_eq_true rfl) rfl (fun κ C hR => ?_)
  unfold f_X8_paradox at hf
  refine G_iload_n (pc' := 1) C dX8_paradox_0 1 rfl rfl ?_
  refine G_callSp (pc' := 4) C [.int a1] (c_X8_isStage ω N σ a1) sg_X8_isStage gX8_paradox_X8_isStage ⟨Nat.le_of_ble_eq_true rfl, Nat.le_of_ble_eq_true rfl⟩ rfl rfl (Nat.le_of_ble_eq_true rfl) dX8_paradox_1 rfl hf (fun v1 hf => ?_)
  refine G_if_eq (tgt := 16) (pc' := 7) C dX8_paradox_4 (by decide) rfl hf (fun hf => ?_) (fun hf => ?_)
  · refine G_iconst (v := (-1 : Int32)) (pc' := 17) C dX8_paradox_16 (by decide) rfl ?_
    exact G_iret C hR dX8_paradox_17 (Option.some.inj hf)
  · refine G_iload_n (pc' := 8) C dX8_paradox_7 2 rfl rfl ?_
    refine G_if_lt (tgt := 16) (pc' := 11) C dX8_paradox_8 (by decide) rfl hf (fun hf => ?_) (fun hf => ?_)
    · refine G_iconst (v := (-1 : Int32)) (pc' := 17) C dX8_paradox_16 (by decide) rfl ?_
      exact G_iret C hR dX8_paradox_17 (Option.some.inj hf)
    · refine G_iload_n (pc' := 12) C dX8_paradox_11 2 rfl rfl ?_
      refine G_iconst (v := (2 : Int32)) (pc' := 13) C dX8_paradox_12 (by decide) rfl ?_
      refine G_icmp_le (tgt := 18) (pc' := 16) C dX8_paradox_13 (by decide) rfl hf (fun hf => ?_) (fun hf => ?_)
      · refine G_aload_n (pc' := 19) C dX8_paradox_18 0 rfl rfl ?_
        refine G_iload_n (pc' := 20) C dX8_paradox_19 1 rfl rfl ?_
        refine G_callVv (pc' := 23) C [.int a1] (c_X8_lists ω N σ a1) sg_X8_lists gX8_paradox_X8_lists wM_0 rfl ⟨Nat.le_of_ble_eq_true rfl, Nat.le_of_ble_eq_true rfl⟩ rfl rfl (Nat.le_of_ble_eq_true rfl) dX8_paradox_20 rfl hf (fun s2 hf => ?_)
        refine G_iconst (v := (0 : Int32)) (pc' := 24) C dX8_paradox_23 (by decide) rfl ?_
        refine G_istore_n (lv' := [(0, .ref (za ω 0)), (1, .int a1), (2, .int a2), (3, .int (0 : Int32))]) (pc' := 25) C dX8_paradox_24 (by decide) [1, 2, 3, 0] rfl rfl ?_
        refine w_X8_paradox_25 C hR (fun y22 hf => ?_) N (0 : Int32) hf
        refine G_iconst (v := (-1 : Int32)) (pc' := 179) C dX8_paradox_178 (by decide) rfl ?_
        exact G_iret C hR dX8_paradox_179 (Option.some.inj hf)
      · refine G_iconst (v := (-1 : Int32)) (pc' := 17) C dX8_paradox_16 (by decide) rfl ?_
        exact G_iret C hR dX8_paradox_17 (Option.some.inj hf)
theorem iu_X8_look_X8 : ∀ w ∈ wsX80, w ∈ wsX8_look := by decide +kernel
theorem lk_X8_look_29 : Cond.fieldLink RX8 29 "PrizeDeskModel" "isCalled" "[Z" ∈ wsX8_look := by decide +kernel
theorem lk_X8_look_33 : Cond.fieldLink RX8 33 "PrizeDeskModel" "isWithdrawn" "[Z" ∈ wsX8_look := by decide +kernel
theorem lk_X8_look_20 : Cond.fieldLink RX8 20 "PrizeDeskModel" "publisher" "[I" ∈ wsX8_look := by decide +kernel
theorem lk_X8_look_23 : Cond.fieldLink RX8 23 "PrizeDeskModel" "pages" "[I" ∈ wsX8_look := by decide +kernel
theorem lk_X8_look_26 : Cond.fieldLink RX8 26 "PrizeDeskModel" "came" "[I" ∈ wsX8_look := by decide +kernel
theorem lk_X8_look_42 : Cond.fieldLink RX8 42 "PrizeDeskModel" "mark" "[I" ∈ wsX8_look := by decide +kernel
abbrev rm_X8_look : Room := { frames := 2, cells := 0, slots := 0, locals := 44 }
theorem sg_X8_look : ZG yX8_look wsX8_look cX8_look 3 (some .int) RX8 2 rm_X8_look := ⟨⟨_, rfl⟩, by decide +kernel, rfl, rfl⟩
set_option maxHeartbeats 4000000 in
set_option maxRecDepth 100000 in
theorem c_X8_look (ω : ZO) (N : Nat) (σ : ZS) (a1 : Int32) (a2 : Int32) : ZIp ω wM yX8_look wsX8_look rm_X8_look [.ref (za ω 0), .int a1, .int a2] σ (f_X8_look N σ a1 a2) := by
  intro r0 hf
  refine ZI.go (cc := cX8_look) (maxL := 3) (ret := (some .int)) (own := RX8) (lv := [(0, .ref (za ω 0)), (1, .int a1), (2, .int a2)]) (by decide) rfl rfl (Nat.le_of_ble_eq_true rfl) rfl (fun κ C hR => ?_)
  unfold f_X8_look at hf
  refine G_aload_n (pc' := 1) C dX8_look_0 0 rfl rfl ?_
  refine G_iload_n (pc' := 2) C dX8_look_1 1 rfl rfl ?_
  refine G_callVp (pc' := 5) C [.int a1] (c_X8_isBook ω N σ a1) sg_X8_isBook gX8_look_X8_isBook wM_0 rfl ⟨Nat.le_of_ble_eq_true rfl, Nat.le_of_ble_eq_true rfl⟩ rfl rfl (Nat.le_of_ble_eq_true rfl) dX8_look_2 rfl hf (fun v1 hf => ?_)
  refine G_if_ne (tgt := 10) (pc' := 8) C dX8_look_5 (by decide) rfl hf (fun hf => ?_) (fun hf => ?_)
  · refine G_iconst (v := (-1 : Int32)) (pc' := 9) C dX8_look_8 (by decide) rfl ?_
    exact G_iret C hR dX8_look_9 ⟨Option.some.inj hf, rfl⟩
  · refine G_iload_n (pc' := 11) C dX8_look_10 2 rfl rfl ?_
    by_cases hk0 : a2 = (0 : Int32)
    · rw [if_pos hk0] at hf
      refine G_tIn (k := (0 : Int32)) (off := 45) (tgt := 56) C hk0 dX8_look_11 (by decide) (by decide) (by decide +kernel) (by decide) ?_
      refine G_aload_n (pc' := 57) C dX8_look_56 0 rfl rfl ?_
      refine G_iload_n (pc' := 58) C dX8_look_57 1 rfl rfl ?_
      refine G_callVp (pc' := 61) C [.int a1] (c_X8_isIn ω N σ a1) sg_X8_isIn gX8_look_X8_isIn wM_0 rfl ⟨Nat.le_of_ble_eq_true rfl, Nat.le_of_ble_eq_true rfl⟩ rfl rfl (Nat.le_of_ble_eq_true rfl) dX8_look_58 rfl hf (fun v2 hf => ?_)
      refine G_if_eq (tgt := 68) (pc' := 64) C dX8_look_61 (by decide) rfl hf (fun hf => ?_) (fun hf => ?_)
      · refine G_iconst (v := (0 : Int32)) (pc' := 69) C dX8_look_68 (by decide) rfl ?_
        exact G_iret C hR dX8_look_69 ⟨Option.some.inj hf, rfl⟩
      · refine G_iconst (v := (1 : Int32)) (pc' := 65) C dX8_look_64 (by decide) rfl ?_
        refine G_goto (pc' := 69) C dX8_look_65 (by decide) ?_
        exact G_iret C hR dX8_look_69 ⟨Option.some.inj hf, rfl⟩
    rw [if_neg hk0] at hf
    by_cases hk1 : a2 = (1 : Int32)
    · rw [if_pos hk1] at hf
      refine G_tIn (k := (1 : Int32)) (off := 59) (tgt := 70) C hk1 dX8_look_11 (by decide) (by decide) (by decide +kernel) (by decide) ?_
      refine G_aload_n (pc' := 71) C dX8_look_70 0 rfl rfl ?_
      refine G_iload_n (pc' := 72) C dX8_look_71 1 rfl rfl ?_
      refine G_callVp (pc' := 75) C [.int a1] (c_X8_marks ω N σ a1) sg_X8_marks gX8_look_X8_marks wM_0 rfl ⟨Nat.le_of_ble_eq_true rfl, Nat.le_of_ble_eq_true rfl⟩ rfl rfl (Nat.le_of_ble_eq_true rfl) dX8_look_72 rfl hf (fun v3 hf => ?_)
      exact G_iret C hR dX8_look_75 ⟨Option.some.inj hf, rfl⟩
    rw [if_neg hk1] at hf
    by_cases hk2 : a2 = (2 : Int32)
    · rw [if_pos hk2] at hf
      refine G_tIn (k := (2 : Int32)) (off := 65) (tgt := 76) C hk2 dX8_look_11 (by decide) (by decide) (by decide +kernel) (by decide) ?_
      refine G_aload_n (pc' := 77) C dX8_look_76 0 rfl rfl ?_
      refine G_iload_n (pc' := 78) C dX8_look_77 1 rfl rfl ?_
      refine G_callVp (pc' := 81) C [.int a1] (c_X8_sum ω N σ a1) sg_X8_sum gX8_look_X8_sum wM_0 rfl ⟨Nat.le_of_ble_eq_true rfl, Nat.le_of_ble_eq_true rfl⟩ rfl rfl (Nat.le_of_ble_eq_true rfl) dX8_look_78 rfl hf (fun v4 hf => ?_)
      exact G_iret C hR dX8_look_81 ⟨Option.some.inj hf, rfl⟩
    rw [if_neg hk2] at hf
    by_cases hk3 : a2 = (3 : Int32)
    · rw [if_pos hk3] at hf
      refine G_tIn (k := (3 : Int32)) (off := 71) (tgt := 82) C hk3 dX8_look_11 (by decide) (by decide) (by decide +kernel) (by decide) ?_
      refine G_aload_n (pc' := 83) C dX8_look_82 0 rfl rfl ?_
      refine G_get (pc' := 86) C wM_0 rfl 8 (by decide) rfl iu_X8_look_X8 lk_X8_look_29 dX8_look_83 rfl ?_
      refine G_iload_n (pc' := 87) C dX8_look_86 1 rfl rfl ?_
      refine G_zald (pc' := 88) C wM_7 dX8_look_87 rfl hf (fun v5 hf => ?_)
      refine G_if_eq (tgt := 95) (pc' := 91) C dX8_look_88 (by decide) rfl hf (fun hf => ?_) (fun hf => ?_)
      · refine G_iconst (v := (0 : Int32)) (pc' := 96) C dX8_look_95 (by decide) rfl ?_
        exact G_iret C hR dX8_look_96 ⟨Option.some.inj hf, rfl⟩
      · refine G_iconst (v := (1 : Int32)) (pc' := 92) C dX8_look_91 (by decide) rfl ?_
        refine G_goto (pc' := 96) C dX8_look_92 (by decide) ?_
        exact G_iret C hR dX8_look_96 ⟨Option.some.inj hf, rfl⟩
    rw [if_neg hk3] at hf
    by_cases hk4 : a2 = (4 : Int32)
    · rw [if_pos hk4] at hf
      refine G_tIn (k := (4 : Int32)) (off := 86) (tgt := 97) C hk4 dX8_look_11 (by decide) (by decide) (by decide +kernel) (by decide) ?_
      refine G_aload_n (pc' := 98) C dX8_look_97 0 rfl rfl ?_
      refine G_get (pc' := 101) C wM_0 rfl 9 (by decide) rfl iu_X8_look_X8 lk_X8_look_33 dX8_look_98 rfl ?_
      refine G_iload_n (pc' := 102) C dX8_look_101 1 rfl rfl ?_
      refine G_zald (pc' := 103) C wM_8 dX8_look_102 rfl hf (fun v6 hf => ?_)
      refine G_if_eq (tgt := 110) (pc' := 106) C dX8_look_103 (by decide) rfl hf (fun hf => ?_) (fun hf => ?_)
      · refine G_iconst (v := (0 : Int32)) (pc' := 111) C dX8_look_110 (by decide) rfl ?_
        exact G_iret C hR dX8_look_111 ⟨Option.some.inj hf, rfl⟩
      · refine G_iconst (v := (1 : Int32)) (pc' := 107) C dX8_look_106 (by decide) rfl ?_
        refine G_goto (pc' := 111) C dX8_look_107 (by decide) ?_
        exact G_iret C hR dX8_look_111 ⟨Option.some.inj hf, rfl⟩
    rw [if_neg hk4] at hf
    by_cases hk5 : a2 = (5 : Int32)
    · rw [if_pos hk5] at hf
      refine G_tIn (k := (5 : Int32)) (off := 101) (tgt := 112) C hk5 dX8_look_11 (by decide) (by decide) (by decide +kernel) (by decide) ?_
      refine G_aload_n (pc' := 113) C dX8_look_112 0 rfl rfl ?_
      refine G_get (pc' := 116) C wM_0 rfl 5 (by decide) rfl iu_X8_look_X8 lk_X8_look_20 dX8_look_113 rfl ?_
      refine G_iload_n (pc' := 117) C dX8_look_116 1 rfl rfl ?_
      refine G_iald (pc' := 118) C wM_4 dX8_look_117 rfl hf (fun v7 hf => ?_)
      exact G_iret C hR dX8_look_118 ⟨Option.some.inj hf, rfl⟩
    rw [if_neg hk5] at hf
    by_cases hk6 : a2 = (6 : Int32)
    · rw [if_pos hk6] at hf
      refine G_tIn (k := (6 : Int32)) (off := 108) (tgt := 119) C hk6 dX8_look_11 (by decide) (by decide) (by decide +kernel) (by decide) ?_
      refine G_aload_n (pc' := 120) C dX8_look_119 0 rfl rfl ?_
      refine G_get (pc' := 123) C wM_0 rfl 6 (by decide) rfl iu_X8_look_X8 lk_X8_look_23 dX8_look_120 rfl ?_
      refine G_iload_n (pc' := 124) C dX8_look_123 1 rfl rfl ?_
      refine G_iald (pc' := 125) C wM_5 dX8_look_124 rfl hf (fun v8 hf => ?_)
      exact G_iret C hR dX8_look_125 ⟨Option.some.inj hf, rfl⟩
    rw [if_neg hk6] at hf
    by_cases hk7 : a2 = (7 : Int32)
    · rw [if_pos hk7] at hf
      refine G_tIn (k := (7 : Int32)) (off := 115) (tgt := 126) C hk7 dX8_look_11 (by decide) (by decide) (by decide +kernel) (by decide) ?_
      refine G_aload_n (pc' := 127) C dX8_look_126 0 rfl rfl ?_
      refine G_get (pc' := 130) C wM_0 rfl 7 (by decide) rfl iu_X8_look_X8 lk_X8_look_26 dX8_look_127 rfl ?_
      refine G_iload_n (pc' := 131) C dX8_look_130 1 rfl rfl ?_
      refine G_iald (pc' := 132) C wM_6 dX8_look_131 rfl hf (fun v9 hf => ?_)
      exact G_iret C hR dX8_look_132 ⟨Option.some.inj hf, rfl⟩
    rw [if_neg hk7] at hf
    have gd : G ω wM κ 133 [(0, .ref (za ω 0)), (1, .int a1), (2, .int a2)] [] σ := by
      refine G_iload_n (pc' := 134) C dX8_look_133 2 rfl rfl ?_
      refine G_bipush (v := (10 : Int32)) (pc' := 136) C dX8_look_134 (by decide) rfl ?_
      refine G_icmp_lt (tgt := 160) (pc' := 139) C dX8_look_136 (by decide) rfl hf (fun hf => ?_) (fun hf => ?_)
      · refine G_iload_n (pc' := 161) C dX8_look_160 2 rfl rfl ?_
        refine G_bipush (v := (20 : Int32)) (pc' := 163) C dX8_look_161 (by decide) rfl ?_
        refine G_icmp_lt (tgt := 192) (pc' := 166) C dX8_look_163 (by decide) rfl hf (fun hf => ?_) (fun hf => ?_)
        · refine G_iconst (v := (-1 : Int32)) (pc' := 193) C dX8_look_192 (by decide) rfl ?_
          exact G_iret C hR dX8_look_193 ⟨Option.some.inj hf, rfl⟩
        · refine G_iload_n (pc' := 167) C dX8_look_166 2 rfl rfl ?_
          refine G_bipush (v := (27 : Int32)) (pc' := 169) C dX8_look_167 (by decide) rfl ?_
          refine G_icmp_ge (tgt := 192) (pc' := 172) C dX8_look_169 (by decide) rfl hf (fun hf => ?_) (fun hf => ?_)
          · refine G_iconst (v := (-1 : Int32)) (pc' := 193) C dX8_look_192 (by decide) rfl ?_
            exact G_iret C hR dX8_look_193 ⟨Option.some.inj hf, rfl⟩
          · refine G_aload_n (pc' := 173) C dX8_look_172 0 rfl rfl ?_
            refine G_iload_n (pc' := 174) C dX8_look_173 2 rfl rfl ?_
            refine G_bipush (v := (20 : Int32)) (pc' := 176) C dX8_look_174 (by decide) rfl ?_
            refine G_isub (pc' := 177) C dX8_look_176 rfl ?_
            refine G_iload_n (pc' := 178) C dX8_look_177 1 rfl rfl ?_
            refine G_callVp (pc' := 181) C [.int (a2 - (20 : Int32)), .int a1] (c_X8_isBarred ω N σ (a2 - (20 : Int32)) a1) sg_X8_isBarred gX8_look_X8_isBarred wM_0 rfl ⟨Nat.le_of_ble_eq_true rfl, Nat.le_of_ble_eq_true rfl⟩ rfl rfl (Nat.le_of_ble_eq_true rfl) dX8_look_178 rfl hf (fun v10 hf => ?_)
            refine G_if_eq (tgt := 188) (pc' := 184) C dX8_look_181 (by decide) rfl hf (fun hf => ?_) (fun hf => ?_)
            · refine G_iconst (v := (0 : Int32)) (pc' := 189) C dX8_look_188 (by decide) rfl ?_
              refine G_goto (pc' := 193) C dX8_look_189 (by decide) ?_
              exact G_iret C hR dX8_look_193 ⟨Option.some.inj hf, rfl⟩
            · refine G_iconst (v := (1 : Int32)) (pc' := 185) C dX8_look_184 (by decide) rfl ?_
              refine G_goto (pc' := 193) C dX8_look_185 (by decide) ?_
              exact G_iret C hR dX8_look_193 ⟨Option.some.inj hf, rfl⟩
      · refine G_iload_n (pc' := 140) C dX8_look_139 2 rfl rfl ?_
        refine G_bipush (v := (17 : Int32)) (pc' := 142) C dX8_look_140 (by decide) rfl ?_
        refine G_icmp_ge (tgt := 160) (pc' := 145) C dX8_look_142 (by decide) rfl hf (fun hf => ?_) (fun hf => ?_)
        · refine G_iload_n (pc' := 161) C dX8_look_160 2 rfl rfl ?_
          refine G_bipush (v := (20 : Int32)) (pc' := 163) C dX8_look_161 (by decide) rfl ?_
          refine G_icmp_lt (tgt := 192) (pc' := 166) C dX8_look_163 (by decide) rfl hf (fun hf => ?_) (fun hf => ?_)
          · refine G_iconst (v := (-1 : Int32)) (pc' := 193) C dX8_look_192 (by decide) rfl ?_
            exact G_iret C hR dX8_look_193 ⟨Option.some.inj hf, rfl⟩
          · refine G_iload_n (pc' := 167) C dX8_look_166 2 rfl rfl ?_
            refine G_bipush (v := (27 : Int32)) (pc' := 169) C dX8_look_167 (by decide) rfl ?_
            refine G_icmp_ge (tgt := 192) (pc' := 172) C dX8_look_169 (by decide) rfl hf (fun hf => ?_) (fun hf => ?_)
            · refine G_iconst (v := (-1 : Int32)) (pc' := 193) C dX8_look_192 (by decide) rfl ?_
              exact G_iret C hR dX8_look_193 ⟨Option.some.inj hf, rfl⟩
            · refine G_aload_n (pc' := 173) C dX8_look_172 0 rfl rfl ?_
              refine G_iload_n (pc' := 174) C dX8_look_173 2 rfl rfl ?_
              refine G_bipush (v := (20 : Int32)) (pc' := 176) C dX8_look_174 (by decide) rfl ?_
              refine G_isub (pc' := 177) C dX8_look_176 rfl ?_
              refine G_iload_n (pc' := 178) C dX8_look_177 1 rfl rfl ?_
              refine G_callVp (pc' := 181) C [.int (a2 - (20 : Int32)), .int a1] (c_X8_isBarred ω N σ (a2 - (20 : Int32)) a1) sg_X8_isBarred gX8_look_X8_isBarred wM_0 rfl ⟨Nat.le_of_ble_eq_true rfl, Nat.le_of_ble_eq_true rfl⟩ rfl rfl (Nat.le_of_ble_eq_true rfl) dX8_look_178 rfl hf (fun v11 hf => ?_)
              refine G_if_eq (tgt := 188) (pc' := 184) C dX8_look_181 (by decide) rfl hf (fun hf => ?_) (fun hf => ?_)
              · refine G_iconst (v := (0 : Int32)) (pc' := 189) C dX8_look_188 (by decide) rfl ?_
                refine G_goto (pc' := 193) C dX8_look_189 (by decide) ?_
                exact G_iret C hR dX8_look_193 ⟨Option.some.inj hf, rfl⟩
              · refine G_iconst (v := (1 : Int32)) (pc' := 185) C dX8_look_184 (by decide) rfl ?_
                refine G_goto (pc' := 193) C dX8_look_185 (by decide) ?_
                exact G_iret C hR dX8_look_193 ⟨Option.some.inj hf, rfl⟩
        · refine G_aload_n (pc' := 146) C dX8_look_145 0 rfl rfl ?_
          refine G_get (pc' := 149) C wM_0 rfl 12 (by decide) rfl iu_X8_look_X8 lk_X8_look_42 dX8_look_146 rfl ?_
          refine G_bipush (v := (24 : Int32)) (pc' := 151) C dX8_look_149 (by decide) rfl ?_
          refine G_iload_n (pc' := 152) C dX8_look_151 2 rfl rfl ?_
          refine G_bipush (v := (10 : Int32)) (pc' := 154) C dX8_look_152 (by decide) rfl ?_
          refine G_isub (pc' := 155) C dX8_look_154 rfl ?_
          refine G_imul (pc' := 156) C dX8_look_155 rfl ?_
          refine G_iload_n (pc' := 157) C dX8_look_156 1 rfl rfl ?_
          refine G_iadd (pc' := 158) C dX8_look_157 rfl ?_
          refine G_iald (pc' := 159) C wM_11 dX8_look_158 rfl hf (fun v12 hf => ?_)
          exact G_iret C hR dX8_look_159 ⟨Option.some.inj hf, rfl⟩
    have hn0 := lv_neT hk0 (show ((0 : Int32)).toInt = 0 by decide)
    have hn1 := lv_neT hk1 (show ((1 : Int32)).toInt = 1 by decide)
    have hn2 := lv_neT hk2 (show ((2 : Int32)).toInt = 2 by decide)
    have hn3 := lv_neT hk3 (show ((3 : Int32)).toInt = 3 by decide)
    have hn4 := lv_neT hk4 (show ((4 : Int32)).toInt = 4 by decide)
    have hn5 := lv_neT hk5 (show ((5 : Int32)).toInt = 5 by decide)
    have hn6 := lv_neT hk6 (show ((6 : Int32)).toInt = 6 by decide)
    have hn7 := lv_neT hk7 (show ((7 : Int32)).toInt = 7 by decide)
    exact G_tOut (tgt := 133) C dX8_look_11 (by omega) (by decide) gd
theorem iu_X8_count_X8 : ∀ w ∈ wsX80, w ∈ wsX8_count := by decide +kernel
theorem lk_X8_count_113 : Cond.fieldLink RX8 113 "PrizeDeskModel" "books" "I" ∈ wsX8_count := by decide +kernel
theorem lk_X8_count_158 : Cond.fieldLink RX8 158 "PrizeDeskModel" "longMany" "I" ∈ wsX8_count := by decide +kernel
theorem lk_X8_count_174 : Cond.fieldLink RX8 174 "PrizeDeskModel" "shortMany" "I" ∈ wsX8_count := by decide +kernel
theorem lk_X8_count_91 : Cond.fieldLink RX8 91 "PrizeDeskModel" "taped" "I" ∈ wsX8_count := by decide +kernel
abbrev rm_X8_count : Room := { frames := 6, cells := 0, slots := 0, locals := 151 }
theorem sg_X8_count : ZG yX8_count wsX8_count cX8_count 4 (some .int) RX8 1 rm_X8_count := ⟨⟨_, rfl⟩, by decide +kernel, rfl, rfl⟩
set_option maxHeartbeats 4000000 in
set_option maxRecDepth 100000 in
theorem w_X8_count_71 {ω : ZO} {κ : ZK} {N : Nat} {σ : ZS} {K : Int32 → Int32 → Option (Int32 × ZS)} {r0 : Int32 × ZS} (C : CX ω wM κ cX8_count wsX8_count RX8 (some .int) 4 rm_X8_count) (hR : zRI ω wM κ (fun v τ => (v, τ) = r0)) (HK : ∀ (y2 : Int32) (y3 : Int32), K y2 y3 = some r0 → G ω wM κ 101 [(0, .ref (za ω 0)), (2, .int y2)] [] σ) : ∀ (n : Nat) (y2 : Int32) (y3 : Int32), L_X8_count_71 N σ K n y2 y3 = some r0 → G ω wM κ 71 [(0, .ref (za ω 0)), (2, .int y2), (3, .int y3)] [] σ := by
  intro n
  induction n with
  | zero => intro  y2 y3 hf; exact absurd (show none = some r0 from hf) (fun h => nomatch h)
  | succ n ih =>
    intro y2 y3 hf
    have hf : B_X8_count_71 N σ K (L_X8_count_71 N σ K n) y2 y3 = some r0 := hf
    unfold B_X8_count_71 at hf
    refine G_iload_n (pc' := 72) C dX8_count_71 2 rfl rfl ?_
    refine G_aload_n (pc' := 73) C dX8_count_72 0 rfl rfl ?_
    refine G_get (pc' := 76) C wM_0 rfl 4 (by decide) rfl iu_X8_count_X8 lk_X8_count_113 dX8_count_73 rfl ?_
    refine G_icmp_ge (tgt := 101) (pc' := 79) C dX8_count_76 (by decide) rfl hf (fun hf => ?_) (fun hf => ?_)
    · refine G_sub (lv' := [(0, .ref (za ω 0)), (2, .int y2)]) C [0, 1] rfl ?_
      exact HK y2 y3 hf
    · refine G_iload_n (pc' := 80) C dX8_count_79 1 rfl rfl ?_
      refine G_aload_n (pc' := 81) C dX8_count_80 0 rfl rfl ?_
      refine G_iload_n (pc' := 82) C dX8_count_81 2 rfl rfl ?_
      refine G_callVp (pc' := 85) C [.int y3] (c_X8_isIn ω N σ y3) sg_X8_isIn gX8_count_X8_isIn wM_0 rfl ⟨Nat.le_of_ble_eq_true rfl, Nat.le_of_ble_eq_true rfl⟩ rfl rfl (Nat.le_of_ble_eq_true rfl) dX8_count_82 rfl hf (fun v1 hf => ?_)
      refine G_if_eq (tgt := 92) (pc' := 88) C dX8_count_85 (by decide) rfl hf (fun hf => ?_) (fun hf => ?_)
      · refine G_iconst (v := (0 : Int32)) (pc' := 93) C dX8_count_92 (by decide) rfl ?_
        refine G_iadd (pc' := 94) C dX8_count_93 rfl ?_
        refine G_nm hf (fun x2 hf => ?_)
        refine G_istore_n (lv' := [(0, .ref (za ω 0)), (2, .int x2), (3, .int y3)]) (pc' := 95) C dX8_count_94 (by decide) [1, 0, 2] rfl rfl ?_
        refine G_iincL (v := y3 + (1 : Int32)) (pc' := 98) C dX8_count_95 2 rfl rfl (by decide) [1, 2, 0] (fun x3 => [(0, .ref (za ω 0)), (2, .int x2), (3, .int x3)]) (fun _ => rfl) rfl hf (fun x3 hf => ?_)
        refine G_goto (pc' := 71) C dX8_count_98 (by decide) ?_
        exact ih x2 x3 hf
      · refine G_iconst (v := (1 : Int32)) (pc' := 89) C dX8_count_88 (by decide) rfl ?_
        refine G_goto (pc' := 93) C dX8_count_89 (by decide) ?_
        refine G_iadd (pc' := 94) C dX8_count_93 rfl ?_
        refine G_nm hf (fun x4 hf => ?_)
        refine G_istore_n (lv' := [(0, .ref (za ω 0)), (2, .int x4), (3, .int y3)]) (pc' := 95) C dX8_count_94 (by decide) [1, 0, 2] rfl rfl ?_
        refine G_iincL (v := y3 + (1 : Int32)) (pc' := 98) C dX8_count_95 2 rfl rfl (by decide) [1, 2, 0] (fun x5 => [(0, .ref (za ω 0)), (2, .int x4), (3, .int x5)]) (fun _ => rfl) rfl hf (fun x5 hf => ?_)
        refine G_goto (pc' := 71) C dX8_count_98 (by decide) ?_
        exact ih x4 x5 hf
set_option maxHeartbeats 4000000 in
set_option maxRecDepth 100000 in
theorem w_X8_count_134 {ω : ZO} {κ : ZK} {N : Nat} {σ : ZS} {b1 : Int32} {K : Int32 → Int32 → Option (Int32 × ZS)} {r0 : Int32 × ZS} (C : CX ω wM κ cX8_count wsX8_count RX8 (some .int) 4 rm_X8_count) (hR : zRI ω wM κ (fun v τ => (v, τ) = r0)) (HK : ∀ (y2 : Int32) (y3 : Int32), K y2 y3 = some r0 → G ω wM κ 166 [(0, .ref (za ω 0)), (2, .int y2)] [] σ) : ∀ (n : Nat) (y2 : Int32) (y3 : Int32), L_X8_count_134 N σ b1 K n y2 y3 = some r0 → G ω wM κ 134 [(0, .ref (za ω 0)), (1, .int b1), (2, .int y2), (3, .int y3)] [] σ := by
  intro n
  induction n with
  | zero => intro  y2 y3 hf; exact absurd (show none = some r0 from hf) (fun h => nomatch h)
  | succ n ih =>
    intro y2 y3 hf
    have hf : B_X8_count_134 N σ b1 K (L_X8_count_134 N σ b1 K n) y2 y3 = some r0 := hf
    unfold B_X8_count_134 at hf
    refine G_iload_n (pc' := 135) C dX8_count_134 3 rfl rfl ?_
    refine G_bipush (v := (7 : Int32)) (pc' := 137) C dX8_count_135 (by decide) rfl ?_
    refine G_icmp_ge (tgt := 166) (pc' := 140) C dX8_count_137 (by decide) rfl hf (fun hf => ?_) (fun hf => ?_)
    · refine G_sub (lv' := [(0, .ref (za ω 0)), (2, .int y2)]) C [0, 2] rfl ?_
      exact HK y2 y3 hf
    · refine G_iload_n (pc' := 141) C dX8_count_140 2 rfl rfl ?_
      refine G_aload_n (pc' := 142) C dX8_count_141 0 rfl rfl ?_
      refine G_iload_n (pc' := 143) C dX8_count_142 3 rfl rfl ?_
      refine G_iload_n (pc' := 144) C dX8_count_143 1 rfl rfl ?_
      refine G_bipush (v := (10 : Int32)) (pc' := 146) C dX8_count_144 (by decide) rfl ?_
      refine G_isub (pc' := 147) C dX8_count_146 rfl ?_
      refine G_callVp (pc' := 150) C [.int y3, .int (b1 - (10 : Int32))] (c_X8_counts ω N σ y3 (b1 - (10 : Int32))) sg_X8_counts gX8_count_X8_counts wM_0 rfl ⟨Nat.le_of_ble_eq_true rfl, Nat.le_of_ble_eq_true rfl⟩ rfl rfl (Nat.le_of_ble_eq_true rfl) dX8_count_147 rfl hf (fun v11 hf => ?_)
      refine G_if_eq (tgt := 157) (pc' := 153) C dX8_count_150 (by decide) rfl hf (fun hf => ?_) (fun hf => ?_)
      · refine G_iconst (v := (0 : Int32)) (pc' := 158) C dX8_count_157 (by decide) rfl ?_
        refine G_iadd (pc' := 159) C dX8_count_158 rfl ?_
        refine G_nm hf (fun x12 hf => ?_)
        refine G_istore_n (lv' := [(0, .ref (za ω 0)), (1, .int b1), (2, .int x12), (3, .int y3)]) (pc' := 160) C dX8_count_159 (by decide) [1, 2, 0, 3] rfl rfl ?_
        refine G_iincL (v := y3 + (1 : Int32)) (pc' := 163) C dX8_count_160 3 rfl rfl (by decide) [1, 2, 3, 0] (fun x13 => [(0, .ref (za ω 0)), (1, .int b1), (2, .int x12), (3, .int x13)]) (fun _ => rfl) rfl hf (fun x13 hf => ?_)
        refine G_goto (pc' := 134) C dX8_count_163 (by decide) ?_
        exact ih x12 x13 hf
      · refine G_iconst (v := (1 : Int32)) (pc' := 154) C dX8_count_153 (by decide) rfl ?_
        refine G_goto (pc' := 158) C dX8_count_154 (by decide) ?_
        refine G_iadd (pc' := 159) C dX8_count_158 rfl ?_
        refine G_nm hf (fun x14 hf => ?_)
        refine G_istore_n (lv' := [(0, .ref (za ω 0)), (1, .int b1), (2, .int x14), (3, .int y3)]) (pc' := 160) C dX8_count_159 (by decide) [1, 2, 0, 3] rfl rfl ?_
        refine G_iincL (v := y3 + (1 : Int32)) (pc' := 163) C dX8_count_160 3 rfl rfl (by decide) [1, 2, 3, 0] (fun x15 => [(0, .ref (za ω 0)), (1, .int b1), (2, .int x14), (3, .int x15)]) (fun _ => rfl) rfl hf (fun x15 hf => ?_)
        refine G_goto (pc' := 134) C dX8_count_163 (by decide) ?_
        exact ih x14 x15 hf
set_option maxHeartbeats 4000000 in
set_option maxRecDepth 100000 in
theorem c_X8_count (ω : ZO) (N : Nat) (σ : ZS) (a1 : Int32) : ZIs ω wM yX8_count wsX8_count rm_X8_count [.ref (za ω 0), .int a1] σ (f_X8_count N σ a1) := by
  intro r0 hf
  refine ZI.go (cc := cX8_count) (maxL := 4) (ret := (some .int)) (own := RX8) (lv := [(0, .ref (za ω 0)), (1, .int a1)]) (by decide) rfl rfl (Nat.le_of_ble_eq_true rfl) rfl (fun κ C hR => ?_)
  unfold f_X8_count at hf
  refine G_iconst (v := (0 : Int32)) (pc' := 1) C dX8_count_0 (by decide) rfl ?_
  refine G_istore_n (lv' := [(0, .ref (za ω 0)), (1, .int a1), (2, .int (0 : Int32))]) (pc' := 2) C dX8_count_1 (by decide) [1, 2, 0] rfl rfl ?_
  refine G_iload_n (pc' := 3) C dX8_count_2 1 rfl rfl ?_
  by_cases hk0 : a1 = (0 : Int32)
  · rw [if_pos hk0] at hf
    refine G_tIn (k := (0 : Int32)) (off := 61) (tgt := 64) C hk0 dX8_count_3 (by decide) (by decide) (by decide +kernel) (by decide) ?_
    refine G_aload_n (pc' := 65) C dX8_count_64 0 rfl rfl ?_
    refine G_get (pc' := 68) C wM_0 rfl 4 (by decide) rfl iu_X8_count_X8 lk_X8_count_113 dX8_count_65 rfl ?_
    exact G_iret C hR dX8_count_68 (Option.some.inj hf)
  rw [if_neg hk0] at hf
  by_cases hk1 : a1 = (1 : Int32)
  · rw [if_pos hk1] at hf
    refine G_tIn (k := (1 : Int32)) (off := 66) (tgt := 69) C hk1 dX8_count_3 (by decide) (by decide) (by decide +kernel) (by decide) ?_
    refine G_iconst (v := (0 : Int32)) (pc' := 70) C dX8_count_69 (by decide) rfl ?_
    refine G_istore_n (lv' := [(0, .ref (za ω 0)), (2, .int (0 : Int32)), (3, .int (0 : Int32))]) (pc' := 71) C dX8_count_70 (by decide) [1, 3, 0] rfl rfl ?_
    refine w_X8_count_71 C hR (fun y6 y7 hf => ?_) N (0 : Int32) (0 : Int32) hf
    refine G_iload_n (pc' := 102) C dX8_count_101 1 rfl rfl ?_
    exact G_iret C hR dX8_count_102 (Option.some.inj hf)
  rw [if_neg hk1] at hf
  by_cases hk2 : a1 = (2 : Int32)
  · rw [if_pos hk2] at hf
    refine G_tIn (k := (2 : Int32)) (off := 100) (tgt := 103) C hk2 dX8_count_3 (by decide) (by decide) (by decide +kernel) (by decide) ?_
    refine G_aload_n (pc' := 104) C dX8_count_103 0 rfl rfl ?_
    refine G_iconst (v := (-1 : Int32)) (pc' := 105) C dX8_count_104 (by decide) rfl ?_
    refine G_callVp (pc' := 108) C [.int (-1 : Int32)] (c_X8_thirds ω N σ (-1 : Int32)) sg_X8_thirds gX8_count_X8_thirds wM_0 rfl ⟨Nat.le_of_ble_eq_true rfl, Nat.le_of_ble_eq_true rfl⟩ rfl rfl (Nat.le_of_ble_eq_true rfl) dX8_count_105 rfl hf (fun v8 hf => ?_)
    exact G_iret C hR dX8_count_108 (Option.some.inj hf)
  rw [if_neg hk2] at hf
  by_cases hk3 : a1 = (3 : Int32)
  · rw [if_pos hk3] at hf
    refine G_tIn (k := (3 : Int32)) (off := 106) (tgt := 109) C hk3 dX8_count_3 (by decide) (by decide) (by decide +kernel) (by decide) ?_
    refine G_aload_n (pc' := 110) C dX8_count_109 0 rfl rfl ?_
    refine G_callVv (pc' := 113) C [] (c_X8_makesLong ω N σ) sg_X8_makesLong gX8_count_X8_makesLong wM_0 rfl ⟨Nat.le_of_ble_eq_true rfl, Nat.le_of_ble_eq_true rfl⟩ rfl rfl (Nat.le_of_ble_eq_true rfl) dX8_count_110 rfl hf (fun s9 hf => ?_)
    refine G_aload_n (pc' := 114) C dX8_count_113 0 rfl rfl ?_
    refine G_get (pc' := 117) C wM_0 rfl 22 (by decide) rfl iu_X8_count_X8 lk_X8_count_158 dX8_count_114 rfl ?_
    exact G_iret C hR dX8_count_117 (Option.some.inj hf)
  rw [if_neg hk3] at hf
  by_cases hk4 : a1 = (4 : Int32)
  · rw [if_pos hk4] at hf
    refine G_tIn (k := (4 : Int32)) (off := 115) (tgt := 118) C hk4 dX8_count_3 (by decide) (by decide) (by decide +kernel) (by decide) ?_
    refine G_aload_n (pc' := 119) C dX8_count_118 0 rfl rfl ?_
    refine G_callVv (pc' := 122) C [] (c_X8_makesShort ω N σ) sg_X8_makesShort gX8_count_X8_makesShort wM_0 rfl ⟨Nat.le_of_ble_eq_true rfl, Nat.le_of_ble_eq_true rfl⟩ rfl rfl (Nat.le_of_ble_eq_true rfl) dX8_count_119 rfl hf (fun s10 hf => ?_)
    refine G_aload_n (pc' := 123) C dX8_count_122 0 rfl rfl ?_
    refine G_get (pc' := 126) C wM_0 rfl 23 (by decide) rfl iu_X8_count_X8 lk_X8_count_174 dX8_count_123 rfl ?_
    exact G_iret C hR dX8_count_126 (Option.some.inj hf)
  rw [if_neg hk4] at hf
  by_cases hk5 : a1 = (5 : Int32)
  · rw [if_pos hk5] at hf
    refine G_tIn (k := (5 : Int32)) (off := 124) (tgt := 127) C hk5 dX8_count_3 (by decide) (by decide) (by decide +kernel) (by decide) ?_
    refine G_aload_n (pc' := 128) C dX8_count_127 0 rfl rfl ?_
    refine G_get (pc' := 131) C wM_0 rfl 1 (by decide) rfl iu_X8_count_X8 lk_X8_count_91 dX8_count_128 rfl ?_
    exact G_iret C hR dX8_count_131 (Option.some.inj hf)
  rw [if_neg hk5] at hf
  by_cases hk10 : a1 = (10 : Int32)
  · rw [if_pos hk10] at hf
    refine G_tIn (k := (10 : Int32)) (off := 129) (tgt := 132) C hk10 dX8_count_3 (by decide) (by decide) (by decide +kernel) (by decide) ?_
    refine G_iconst (v := (0 : Int32)) (pc' := 133) C dX8_count_132 (by decide) rfl ?_
    refine G_istore_n (lv' := [(0, .ref (za ω 0)), (1, .int a1), (2, .int (0 : Int32)), (3, .int (0 : Int32))]) (pc' := 134) C dX8_count_133 (by decide) [1, 2, 3, 0] rfl rfl ?_
    refine w_X8_count_134 C hR (fun y16 y17 hf => ?_) N (0 : Int32) (0 : Int32) hf
    refine G_iload_n (pc' := 167) C dX8_count_166 1 rfl rfl ?_
    exact G_iret C hR dX8_count_167 (Option.some.inj hf)
  rw [if_neg hk10] at hf
  by_cases hk11 : a1 = (11 : Int32)
  · rw [if_pos hk11] at hf
    refine G_tIn (k := (11 : Int32)) (off := 129) (tgt := 132) C hk11 dX8_count_3 (by decide) (by decide) (by decide +kernel) (by decide) ?_
    refine G_iconst (v := (0 : Int32)) (pc' := 133) C dX8_count_132 (by decide) rfl ?_
    refine G_istore_n (lv' := [(0, .ref (za ω 0)), (1, .int a1), (2, .int (0 : Int32)), (3, .int (0 : Int32))]) (pc' := 134) C dX8_count_133 (by decide) [1, 2, 3, 0] rfl rfl ?_
    refine w_X8_count_134 C hR (fun y18 y19 hf => ?_) N (0 : Int32) (0 : Int32) hf
    refine G_iload_n (pc' := 167) C dX8_count_166 1 rfl rfl ?_
    exact G_iret C hR dX8_count_167 (Option.some.inj hf)
  rw [if_neg hk11] at hf
  have gd : G ω wM κ 168 [(0, .ref (za ω 0)), (1, .int a1), (2, .int (0 : Int32))] [] σ := by
    refine G_iconst (v := (-1 : Int32)) (pc' := 169) C dX8_count_168 (by decide) rfl ?_
    exact G_iret C hR dX8_count_169 (Option.some.inj hf)
  have hn0 := lv_neT hk0 (show ((0 : Int32)).toInt = 0 by decide)
  have hn1 := lv_neT hk1 (show ((1 : Int32)).toInt = 1 by decide)
  have hn2 := lv_neT hk2 (show ((2 : Int32)).toInt = 2 by decide)
  have hn3 := lv_neT hk3 (show ((3 : Int32)).toInt = 3 by decide)
  have hn4 := lv_neT hk4 (show ((4 : Int32)).toInt = 4 by decide)
  have hn5 := lv_neT hk5 (show ((5 : Int32)).toInt = 5 by decide)
  have hn10 := lv_neT hk10 (show ((10 : Int32)).toInt = 10 by decide)
  have hn11 := lv_neT hk11 (show ((11 : Int32)).toInt = 11 by decide)
  rcases (show (a1).toInt < 0 ∨ 11 < (a1).toInt ∨ (a1).toInt = 6 ∨ (a1).toInt = 7 ∨ (a1).toInt = 8 ∨ (a1).toInt = 9 by omega) with ho | ho | ho | ho | ho | ho
  · exact G_tOut (tgt := 168) C dX8_count_3 (Or.inl ho) (by decide) gd
  · exact G_tOut (tgt := 168) C dX8_count_3 (Or.inr ho) (by decide) gd
  · exact G_tIn (k := (6 : Int32)) (off := 165) (tgt := 168) C (Int32.toInt_inj.mp (ho.trans (by decide))) dX8_count_3 (by decide) (by decide) (by decide +kernel) (by decide) gd
  · exact G_tIn (k := (7 : Int32)) (off := 165) (tgt := 168) C (Int32.toInt_inj.mp (ho.trans (by decide))) dX8_count_3 (by decide) (by decide) (by decide +kernel) (by decide) gd
  · exact G_tIn (k := (8 : Int32)) (off := 165) (tgt := 168) C (Int32.toInt_inj.mp (ho.trans (by decide))) dX8_count_3 (by decide) (by decide) (by decide +kernel) (by decide) gd
  · exact G_tIn (k := (9 : Int32)) (off := 165) (tgt := 168) C (Int32.toInt_inj.mp (ho.trans (by decide))) dX8_count_3 (by decide) (by decide) (by decide +kernel) (by decide) gd
