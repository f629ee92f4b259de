theorem iu_X8_ballot_X8 : ∀ w ∈ wsX80, w ∈ wsX8_ballot := by decide +kernel
theorem lk_X8_ballot_7 : Cond.fieldLink RX8 7 "PrizeDeskModel" "tape" "[B" ∈ wsX8_ballot := by decide +kernel
theorem lk_X8_ballot_63 : Cond.fieldLink RX8 63 "PrizeDeskModel" "taken" "[I" ∈ wsX8_ballot := by decide +kernel
theorem lk_X8_ballot_60 : Cond.fieldLink RX8 60 "PrizeDeskModel" "choice" "[I" ∈ wsX8_ballot := by decide +kernel
theorem lk_X8_ballot_57 : Cond.fieldLink RX8 57 "PrizeDeskModel" "many" "[I" ∈ wsX8_ballot := by decide +kernel
theorem lk_X8_ballot_54 : Cond.fieldLink RX8 54 "PrizeDeskModel" "on" "[I" ∈ wsX8_ballot := by decide +kernel
theorem lk_X8_ballot_51 : Cond.fieldLink RX8 51 "PrizeDeskModel" "isTold" "[Z" ∈ wsX8_ballot := by decide +kernel
theorem lk_X8_ballot_91 : Cond.fieldLink RX8 91 "PrizeDeskModel" "taped" "I" ∈ wsX8_ballot := by decide +kernel
abbrev rm_X8_ballot : Room := { frames := 1, cells := 0, slots := 0, locals := 21 }
theorem sg_X8_ballot : ZG yX8_ballot wsX8_ballot cX8_ballot 7 (some .boolean) RX8 4 rm_X8_ballot := ⟨⟨_, rfl⟩, by decide +kernel, rfl, rfl⟩
set_option maxHeartbeats 4000000 in
set_option maxRecDepth 100000 in
theorem w_X8_ballot_53 {ω : ZO} {κ : ZK} {N : Nat} {b1 : Int32} {b2 : Int32} {b3 : Int32} {b4 : Int32} {K : Int32 → ZS → Option (Int32 × ZS)} {r0 : Int32 × ZS} (C : CX ω wM κ cX8_ballot wsX8_ballot RX8 (some .boolean) 7 rm_X8_ballot) (hR : zRI ω wM κ (fun v τ => (v, τ) = r0)) (HK : ∀ (y5 : Int32) (τ : ZS), K y5 τ = some r0 → G ω wM κ 80 [(0, .ref (za ω 0)), (1, .int b1), (2, .int b2), (3, .int b3), (4, .int b4)] [] τ) : ∀ (n : Nat) (y5 : Int32) (τ : ZS), L_X8_ballot_53 N b1 b2 b3 b4 K n y5 τ = some r0 → G ω wM κ 53 [(0, .ref (za ω 0)), (1, .int b1), (2, .int b2), (3, .int b3), (4, .int b4), (5, .int y5)] [] τ := by
  intro n
  induction n with
  | zero => intro  y5 τ hf; exact absurd (show none = some r0 from hf) (fun h => nomatch h)
  | succ n ih =>
    intro y5 τ hf
    have hf : B_X8_ballot_53 N b1 b2 b3 b4 K (L_X8_ballot_53 N b1 b2 b3 b4 K n) y5 τ = some r0 := hf
    unfold B_X8_ballot_53 at hf
    refine G_iload (pc' := 55) C dX8_ballot_53 5 rfl rfl ?_
    refine G_iload (pc' := 57) C dX8_ballot_55 4 rfl rfl ?_
    refine G_icmp_ge (tgt := 80) (pc' := 60) C dX8_ballot_57 (by decide) rfl hf (fun hf => ?_) (fun hf => ?_)
    · refine G_sub (lv' := [(0, .ref (za ω 0)), (1, .int b1), (2, .int b2), (3, .int b3), (4, .int b4)]) C [0, 1, 2, 3, 4] rfl ?_
      exact HK y5 τ hf
    · refine G_aload_n (pc' := 61) C dX8_ballot_60 0 rfl rfl ?_
      refine G_get (pc' := 64) C wM_0 rfl 19 (by decide) rfl iu_X8_ballot_X8 lk_X8_ballot_63 dX8_ballot_61 rfl ?_
      refine G_iload (pc' := 66) C dX8_ballot_64 5 rfl rfl ?_
      refine G_aload_n (pc' := 67) C dX8_ballot_66 0 rfl rfl ?_
      refine G_get (pc' := 70) C wM_0 rfl 0 (by decide) rfl iu_X8_ballot_X8 lk_X8_ballot_7 dX8_ballot_67 rfl ?_
      refine G_iload (pc' := 72) C dX8_ballot_70 5 rfl rfl ?_
      refine G_bald (pc' := 73) C wM_1 dX8_ballot_72 rfl hf (fun v2 hf => ?_)
      refine G_iast (pc' := 74) C wM_18 wM_s18 dX8_ballot_73 rfl hf (fun s3 hf => ?_)
      refine G_iincL (v := y5 + (1 : Int32)) (pc' := 77) C dX8_ballot_74 5 rfl rfl (by decide) [1, 2, 3, 4, 5, 0] (fun x4 => [(0, .ref (za ω 0)), (1, .int b1), (2, .int b2), (3, .int b3), (4, .int b4), (5, .int x4)]) (fun _ => rfl) rfl hf (fun x4 hf => ?_)
      refine G_goto (pc' := 53) C dX8_ballot_77 (by decide) ?_
      exact ih x4 s3 hf
set_option maxHeartbeats 4000000 in
set_option maxRecDepth 100000 in
theorem w_X8_ballot_114 {ω : ZO} {κ : ZK} {N : Nat} {σ : ZS} {b1 : Int32} {b2 : Int32} {b3 : Int32} {b4 : Int32} {b5 : Int32} {K : Int32 → Option (Int32 × ZS)} {r0 : Int32 × ZS} (C : CX ω wM κ cX8_ballot wsX8_ballot RX8 (some .boolean) 7 rm_X8_ballot) (hR : zRI ω wM κ (fun v τ => (v, τ) = r0)) (HK : ∀ (y6 : Int32), K y6 = some r0 → G ω wM κ 146 [(0, .ref (za ω 0)), (1, .int b1), (2, .int b2), (3, .int b3), (4, .int b4), (5, .int b5)] [] σ) : ∀ (n : Nat) (y6 : Int32), L_X8_ballot_114 N σ b1 b2 b3 b4 b5 K n y6 = some r0 → G ω wM κ 114 [(0, .ref (za ω 0)), (1, .int b1), (2, .int b2), (3, .int b3), (4, .int b4), (5, .int b5), (6, .int y6)] [] σ := by
  intro n
  induction n with
  | zero => intro  y6 hf; exact absurd (show none = some r0 from hf) (fun h => nomatch h)
  | succ n ih =>
    intro y6 hf
    have hf : B_X8_ballot_114 N σ b1 b2 b3 b4 b5 K (L_X8_ballot_114 N σ b1 b2 b3 b4 b5 K n) y6 = some r0 := hf
    unfold B_X8_ballot_114 at hf
    refine G_iload (pc' := 116) C dX8_ballot_114 6 rfl rfl ?_
    refine G_iload (pc' := 118) C dX8_ballot_116 5 rfl rfl ?_
    refine G_icmp_ge (tgt := 146) (pc' := 121) C dX8_ballot_118 (by decide) rfl hf (fun hf => ?_) (fun hf => ?_)
    · refine G_sub (lv' := [(0, .ref (za ω 0)), (1, .int b1), (2, .int b2), (3, .int b3), (4, .int b4), (5, .int b5)]) C [0, 1, 2, 3, 4, 5] rfl ?_
      exact HK y6 hf
    · refine G_aload_n (pc' := 122) C dX8_ballot_121 0 rfl rfl ?_
      refine G_get (pc' := 125) C wM_0 rfl 19 (by decide) rfl iu_X8_ballot_X8 lk_X8_ballot_63 dX8_ballot_122 rfl ?_
      refine G_iload (pc' := 127) C dX8_ballot_125 6 rfl rfl ?_
      refine G_iald (pc' := 128) C wM_18 dX8_ballot_127 rfl hf (fun v10 hf => ?_)
      refine G_aload_n (pc' := 129) C dX8_ballot_128 0 rfl rfl ?_
      refine G_get (pc' := 132) C wM_0 rfl 19 (by decide) rfl iu_X8_ballot_X8 lk_X8_ballot_63 dX8_ballot_129 rfl ?_
      refine G_iload (pc' := 134) C dX8_ballot_132 5 rfl rfl ?_
      refine G_iald (pc' := 135) C wM_18 dX8_ballot_134 rfl hf (fun v11 hf => ?_)
      refine G_icmp_ne (tgt := 140) (pc' := 138) C dX8_ballot_135 (by decide) rfl hf (fun hf => ?_) (fun hf => ?_)
      · refine G_iconst (v := (0 : Int32)) (pc' := 139) C dX8_ballot_138 (by decide) rfl ?_
        exact G_zret C hR dX8_ballot_139 (by decide) (Option.some.inj hf)
      · refine G_iincL (v := y6 + (1 : Int32)) (pc' := 143) C dX8_ballot_140 6 rfl rfl (by decide) [1, 2, 3, 4, 5, 6, 0] (fun x12 => [(0, .ref (za ω 0)), (1, .int b1), (2, .int b2), (3, .int b3), (4, .int b4), (5, .int b5), (6, .int x12)]) (fun _ => rfl) rfl hf (fun x12 hf => ?_)
        refine G_goto (pc' := 114) C dX8_ballot_143 (by decide) ?_
        exact ih x12 hf
set_option maxHeartbeats 4000000 in
set_option maxRecDepth 100000 in
theorem w_X8_ballot_88 {ω : ZO} {κ : ZK} {N : Nat} {σ : ZS} {b1 : Int32} {b2 : Int32} {b3 : Int32} {b4 : Int32} {K : Int32 → Option (Int32 × ZS)} {r0 : Int32 × ZS} (C : CX ω wM κ cX8_ballot wsX8_ballot RX8 (some .boolean) 7 rm_X8_ballot) (hR : zRI ω wM κ (fun v τ => (v, τ) = r0)) (HK : ∀ (y5 : Int32), K y5 = some r0 → G ω wM κ 152 [(0, .ref (za ω 0)), (1, .int b1), (2, .int b2), (3, .int b3), (4, .int b4)] [] σ) : ∀ (n : Nat) (y5 : Int32), L_X8_ballot_88 N σ b1 b2 b3 b4 K n y5 = some r0 → G ω wM κ 88 [(0, .ref (za ω 0)), (1, .int b1), (2, .int b2), (3, .int b3), (4, .int b4), (5, .int y5)] [] σ := by
  intro n
  induction n with
  | zero => intro  y5 hf; exact absurd (show none = some r0 from hf) (fun h => nomatch h)
  | succ n ih =>
    intro y5 hf
    have hf : B_X8_ballot_88 N σ b1 b2 b3 b4 K (L_X8_ballot_88 N σ b1 b2 b3 b4 K n) y5 = some r0 := hf
    unfold B_X8_ballot_88 at hf
    refine G_iload (pc' := 90) C dX8_ballot_88 5 rfl rfl ?_
    refine G_iload (pc' := 92) C dX8_ballot_90 4 rfl rfl ?_
    refine G_icmp_ge (tgt := 152) (pc' := 95) C dX8_ballot_92 (by decide) rfl hf (fun hf => ?_) (fun hf => ?_)
    · refine G_sub (lv' := [(0, .ref (za ω 0)), (1, .int b1), (2, .int b2), (3, .int b3), (4, .int b4)]) C [0, 1, 2, 3, 4] rfl ?_
      exact HK y5 hf
    · refine G_aload_n (pc' := 96) C dX8_ballot_95 0 rfl rfl ?_
      refine G_aload_n (pc' := 97) C dX8_ballot_96 0 rfl rfl ?_
      refine G_get (pc' := 100) C wM_0 rfl 19 (by decide) rfl iu_X8_ballot_X8 lk_X8_ballot_63 dX8_ballot_97 rfl ?_
      refine G_iload (pc' := 102) C dX8_ballot_100 5 rfl rfl ?_
      refine G_iald (pc' := 103) C wM_18 dX8_ballot_102 rfl hf (fun v8 hf => ?_)
      refine G_callVp (pc' := 106) C [.int v8] (c_X8_isBook ω N σ v8) sg_X8_isBook gX8_ballot_X8_isBook wM_0 rfl ⟨Nat.le_of_ble_eq_true rfl, Nat.le_of_ble_eq_true rfl⟩ rfl rfl (Nat.le_of_ble_eq_true rfl) dX8_ballot_103 rfl hf (fun v9 hf => ?_)
      refine G_if_ne (tgt := 111) (pc' := 109) C dX8_ballot_106 (by decide) rfl hf (fun hf => ?_) (fun hf => ?_)
      · refine G_iconst (v := (0 : Int32)) (pc' := 110) C dX8_ballot_109 (by decide) rfl ?_
        exact G_zret C hR dX8_ballot_110 (by decide) (Option.some.inj hf)
      · refine G_iconst (v := (0 : Int32)) (pc' := 112) C dX8_ballot_111 (by decide) rfl ?_
        refine G_istore (lv' := [(0, .ref (za ω 0)), (1, .int b1), (2, .int b2), (3, .int b3), (4, .int b4), (5, .int y5), (6, .int (0 : Int32))]) (pc' := 114) C dX8_ballot_112 (by decide) [1, 2, 3, 4, 5, 6, 0] rfl rfl ?_
        refine w_X8_ballot_114 C hR (fun y13 hf => ?_) N (0 : Int32) hf
        refine G_iincL (v := y5 + (1 : Int32)) (pc' := 149) C dX8_ballot_146 5 rfl rfl (by decide) [1, 2, 3, 4, 5, 0] (fun x14 => [(0, .ref (za ω 0)), (1, .int b1), (2, .int b2), (3, .int b3), (4, .int b4), (5, .int x14)]) (fun _ => rfl) rfl hf (fun x14 hf => ?_)
        refine G_goto (pc' := 88) C dX8_ballot_149 (by decide) ?_
        exact ih x14 hf
set_option maxHeartbeats 4000000 in
set_option maxRecDepth 100000 in
theorem w_X8_ballot_187 {ω : ZO} {κ : ZK} {N : Nat} {b4 : Int32} {b5 : Int32} {K : Int32 → ZS → Option (Int32 × ZS)} {r0 : Int32 × ZS} (C : CX ω wM κ cX8_ballot wsX8_ballot RX8 (some .boolean) 7 rm_X8_ballot) (hR : zRI ω wM κ (fun v τ => (v, τ) = r0)) (HK : ∀ (y6 : Int32) (τ : ZS), K y6 τ = some r0 → G ω wM κ 220 [(0, .ref (za ω 0))] [] τ) : ∀ (n : Nat) (y6 : Int32) (τ : ZS), L_X8_ballot_187 N b4 b5 K n y6 τ = some r0 → G ω wM κ 187 [(0, .ref (za ω 0)), (4, .int b4), (5, .int b5), (6, .int y6)] [] τ := by
  intro n
  induction n with
  | zero => intro  y6 τ hf; exact absurd (show none = some r0 from hf) (fun h => nomatch h)
  | succ n ih =>
    intro y6 τ hf
    have hf : B_X8_ballot_187 N b4 b5 K (L_X8_ballot_187 N b4 b5 K n) y6 τ = some r0 := hf
    unfold B_X8_ballot_187 at hf
    refine G_iload (pc' := 189) C dX8_ballot_187 3 rfl rfl ?_
    refine G_iload (pc' := 191) C dX8_ballot_189 1 rfl rfl ?_
    refine G_icmp_ge (tgt := 220) (pc' := 194) C dX8_ballot_191 (by decide) rfl hf (fun hf => ?_) (fun hf => ?_)
    · refine G_sub (lv' := [(0, .ref (za ω 0))]) C [0] rfl ?_
      exact HK y6 τ hf
    · refine G_aload_n (pc' := 195) C dX8_ballot_194 0 rfl rfl ?_
      refine G_get (pc' := 198) C wM_0 rfl 18 (by decide) rfl iu_X8_ballot_X8 lk_X8_ballot_60 dX8_ballot_195 rfl ?_
      refine G_bipush (v := (12 : Int32)) (pc' := 200) C dX8_ballot_198 (by decide) rfl ?_
      refine G_iload (pc' := 202) C dX8_ballot_200 2 rfl rfl ?_
      refine G_imul (pc' := 203) C dX8_ballot_202 rfl ?_
      refine G_iload (pc' := 205) C dX8_ballot_203 3 rfl rfl ?_
      refine G_iadd (pc' := 206) C dX8_ballot_205 rfl ?_
      refine G_aload_n (pc' := 207) C dX8_ballot_206 0 rfl rfl ?_
      refine G_get (pc' := 210) C wM_0 rfl 19 (by decide) rfl iu_X8_ballot_X8 lk_X8_ballot_63 dX8_ballot_207 rfl ?_
      refine G_iload (pc' := 212) C dX8_ballot_210 3 rfl rfl ?_
      refine G_iald (pc' := 213) C wM_18 dX8_ballot_212 rfl hf (fun v20 hf => ?_)
      refine G_iast (pc' := 214) C wM_17 wM_s17 dX8_ballot_213 rfl hf (fun s21 hf => ?_)
      refine G_iincL (v := y6 + (1 : Int32)) (pc' := 217) C dX8_ballot_214 3 rfl rfl (by decide) [1, 2, 3, 0] (fun x22 => [(0, .ref (za ω 0)), (4, .int b4), (5, .int b5), (6, .int x22)]) (fun _ => rfl) rfl hf (fun x22 hf => ?_)
      refine G_goto (pc' := 187) C dX8_ballot_217 (by decide) ?_
      exact ih x22 s21 hf
set_option maxHeartbeats 4000000 in
set_option maxRecDepth 100000 in
theorem c_X8_ballot (ω : ZO) (N : Nat) (σ : ZS) (a1 : Int32) (a2 : Int32) (a3 : Int32) (a4 : Int32) : ZIs ω wM yX8_ballot wsX8_ballot rm_X8_ballot [.ref (za ω 0), .int a1, .int a2, .int a3, .int a4] σ (f_X8_ballot N σ a1 a2 a3 a4) := by
  intro r0 hf
  refine ZI.go (cc := cX8_ballot) (maxL := 7) (ret := (some .boolean)) (own := RX8) (lv := [(0, .ref (za ω 0)), (1, .int a1), (2, .int a2), (3, .int a3), (4, .int a4)]) (by decide) rfl rfl (Nat.le_of_ble_eq_true rfl) rfl (fun κ C hR => ?_)
  unfold f_X8_ballot at hf
  refine G_iload_n (pc' := 1) C dX8_ballot_0 1 rfl rfl ?_
  refine G_callSp (pc' := 4) C [.int a1] (c_X8_isJudge ω N σ a1) sg_X8_isJudge gX8_ballot_X8_isJudge ⟨Nat.le_of_ble_eq_true rfl, Nat.le_of_ble_eq_true rfl⟩ rfl rfl (Nat.le_of_ble_eq_true rfl) dX8_ballot_1 rfl hf (fun v1 hf => ?_)
  refine G_if_eq (tgt := 48) (pc' := 7) C dX8_ballot_4 (by decide) rfl hf (fun hf => ?_) (fun hf => ?_)
  · refine G_iconst (v := (0 : Int32)) (pc' := 49) C dX8_ballot_48 (by decide) rfl ?_
    exact G_zret C hR dX8_ballot_49 (by decide) (Option.some.inj hf)
  · refine G_iload_n (pc' := 8) C dX8_ballot_7 2 rfl rfl ?_
    refine G_if_lt (tgt := 48) (pc' := 11) C dX8_ballot_8 (by decide) rfl hf (fun hf => ?_) (fun hf => ?_)
    · refine G_iconst (v := (0 : Int32)) (pc' := 49) C dX8_ballot_48 (by decide) rfl ?_
      exact G_zret C hR dX8_ballot_49 (by decide) (Option.some.inj hf)
    · refine G_iload_n (pc' := 12) C dX8_ballot_11 2 rfl rfl ?_
      refine G_iconst (v := (2 : Int32)) (pc' := 13) C dX8_ballot_12 (by decide) rfl ?_
      refine G_icmp_ge (tgt := 48) (pc' := 16) C dX8_ballot_13 (by decide) rfl hf (fun hf => ?_) (fun hf => ?_)
      · refine G_iconst (v := (0 : Int32)) (pc' := 49) C dX8_ballot_48 (by decide) rfl ?_
        exact G_zret C hR dX8_ballot_49 (by decide) (Option.some.inj hf)
      · refine G_iload_n (pc' := 17) C dX8_ballot_16 3 rfl rfl ?_
        refine G_if_lt (tgt := 48) (pc' := 20) C dX8_ballot_17 (by decide) rfl hf (fun hf => ?_) (fun hf => ?_)
        · refine G_iconst (v := (0 : Int32)) (pc' := 49) C dX8_ballot_48 (by decide) rfl ?_
          exact G_zret C hR dX8_ballot_49 (by decide) (Option.some.inj hf)
        · refine G_iload_n (pc' := 21) C dX8_ballot_20 3 rfl rfl ?_
          refine G_sipush (v := (400 : Int32)) (pc' := 24) C dX8_ballot_21 (by decide) rfl ?_
          refine G_icmp_gt (tgt := 48) (pc' := 27) C dX8_ballot_24 (by decide) rfl hf (fun hf => ?_) (fun hf => ?_)
          · refine G_iconst (v := (0 : Int32)) (pc' := 49) C dX8_ballot_48 (by decide) rfl ?_
            exact G_zret C hR dX8_ballot_49 (by decide) (Option.some.inj hf)
          · refine G_iload (pc' := 29) C dX8_ballot_27 4 rfl rfl ?_
            refine G_if_lt (tgt := 48) (pc' := 32) C dX8_ballot_29 (by decide) rfl hf (fun hf => ?_) (fun hf => ?_)
            · refine G_iconst (v := (0 : Int32)) (pc' := 49) C dX8_ballot_48 (by decide) rfl ?_
              exact G_zret C hR dX8_ballot_49 (by decide) (Option.some.inj hf)
            · refine G_iload (pc' := 34) C dX8_ballot_32 4 rfl rfl ?_
              refine G_bipush (v := (12 : Int32)) (pc' := 36) C dX8_ballot_34 (by decide) rfl ?_
              refine G_icmp_gt (tgt := 48) (pc' := 39) C dX8_ballot_36 (by decide) rfl hf (fun hf => ?_) (fun hf => ?_)
              · refine G_iconst (v := (0 : Int32)) (pc' := 49) C dX8_ballot_48 (by decide) rfl ?_
                exact G_zret C hR dX8_ballot_49 (by decide) (Option.some.inj hf)
              · refine G_iload (pc' := 41) C dX8_ballot_39 4 rfl rfl ?_
                refine G_aload_n (pc' := 42) C dX8_ballot_41 0 rfl rfl ?_
                refine G_get (pc' := 45) C wM_0 rfl 1 (by decide) rfl iu_X8_ballot_X8 lk_X8_ballot_91 dX8_ballot_42 rfl ?_
                refine G_icmp_le (tgt := 50) (pc' := 48) C dX8_ballot_45 (by decide) rfl hf (fun hf => ?_) (fun hf => ?_)
                · refine G_iconst (v := (0 : Int32)) (pc' := 51) C dX8_ballot_50 (by decide) rfl ?_
                  refine G_istore (lv' := [(0, .ref (za ω 0)), (1, .int a1), (2, .int a2), (3, .int a3), (4, .int a4), (5, .int (0 : Int32))]) (pc' := 53) C dX8_ballot_51 (by decide) [1, 2, 3, 4, 5, 0] rfl rfl ?_
                  refine w_X8_ballot_53 C hR (fun y5 s6 hf => ?_) N (0 : Int32) σ hf
                  refine G_aload_n (pc' := 81) C dX8_ballot_80 0 rfl rfl ?_
                  refine G_iconst (v := (0 : Int32)) (pc' := 82) C dX8_ballot_81 (by decide) rfl ?_
                  refine G_put (pc' := 85) C tyX8 tyX8_ok nmX8 wM_0 rfl 1 (by decide) (Nat.le_of_ble_eq_true rfl) iu_X8_ballot_X8 lk_X8_ballot_91 rfl (by decide +kernel) wM_f0_1 dX8_ballot_82 rfl hf (fun s7 hf => ?_)
                  refine G_iconst (v := (0 : Int32)) (pc' := 86) C dX8_ballot_85 (by decide) rfl ?_
                  refine G_istore (lv' := [(0, .ref (za ω 0)), (1, .int a1), (2, .int a2), (3, .int a3), (4, .int a4), (5, .int (0 : Int32))]) (pc' := 88) C dX8_ballot_86 (by decide) [1, 2, 3, 4, 5, 0] rfl rfl ?_
                  refine w_X8_ballot_88 C hR (fun y15 hf => ?_) N (0 : Int32) hf
                  refine G_iconst (v := (2 : Int32)) (pc' := 153) C dX8_ballot_152 (by decide) rfl ?_
                  refine G_iload_n (pc' := 154) C dX8_ballot_153 1 rfl rfl ?_
                  refine G_imul (pc' := 155) C dX8_ballot_154 rfl ?_
                  refine G_iload_n (pc' := 156) C dX8_ballot_155 2 rfl rfl ?_
                  refine G_iadd (pc' := 157) C dX8_ballot_156 rfl ?_
                  refine G_nm hf (fun x16 hf => ?_)
                  refine G_istore (lv' := [(0, .ref (za ω 0)), (3, .int a3), (4, .int a4), (5, .int x16)]) (pc' := 159) C dX8_ballot_157 (by decide) [1, 4, 5, 0] rfl rfl ?_
                  refine G_aload_n (pc' := 160) C dX8_ballot_159 0 rfl rfl ?_
                  refine G_get (pc' := 163) C wM_0 rfl 15 (by decide) rfl iu_X8_ballot_X8 lk_X8_ballot_51 dX8_ballot_160 rfl ?_
                  refine G_iload (pc' := 165) C dX8_ballot_163 3 rfl rfl ?_
                  refine G_iconst (v := (1 : Int32)) (pc' := 166) C dX8_ballot_165 (by decide) rfl ?_
                  refine G_zast (pc' := 167) C wM_14 wM_s14 dX8_ballot_166 rfl hf (fun s17 hf => ?_)
                  refine G_aload_n (pc' := 168) C dX8_ballot_167 0 rfl rfl ?_
                  refine G_get (pc' := 171) C wM_0 rfl 16 (by decide) rfl iu_X8_ballot_X8 lk_X8_ballot_54 dX8_ballot_168 rfl ?_
                  refine G_iload (pc' := 173) C dX8_ballot_171 3 rfl rfl ?_
                  refine G_iload_n (pc' := 174) C dX8_ballot_173 1 rfl rfl ?_
                  refine G_iast (pc' := 175) C wM_15 wM_s15 dX8_ballot_174 rfl hf (fun s18 hf => ?_)
                  refine G_aload_n (pc' := 176) C dX8_ballot_175 0 rfl rfl ?_
                  refine G_get (pc' := 179) C wM_0 rfl 17 (by decide) rfl iu_X8_ballot_X8 lk_X8_ballot_57 dX8_ballot_176 rfl ?_
                  refine G_iload (pc' := 181) C dX8_ballot_179 3 rfl rfl ?_
                  refine G_iload (pc' := 183) C dX8_ballot_181 2 rfl rfl ?_
                  refine G_iast (pc' := 184) C wM_16 wM_s16 dX8_ballot_183 rfl hf (fun s19 hf => ?_)
                  refine G_iconst (v := (0 : Int32)) (pc' := 185) C dX8_ballot_184 (by decide) rfl ?_
                  refine G_istore (lv' := [(0, .ref (za ω 0)), (4, .int a4), (5, .int x16), (6, .int (0 : Int32))]) (pc' := 187) C dX8_ballot_185 (by decide) [1, 3, 4, 0] rfl rfl ?_
                  refine w_X8_ballot_187 C hR (fun y23 s24 hf => ?_) N (0 : Int32) s19 hf
                  refine G_iconst (v := (1 : Int32)) (pc' := 221) C dX8_ballot_220 (by decide) rfl ?_
                  exact G_zret C hR dX8_ballot_221 (by decide) (Option.some.inj hf)
                · refine G_iconst (v := (0 : Int32)) (pc' := 49) C dX8_ballot_48 (by decide) rfl ?_
                  exact G_zret C hR dX8_ballot_49 (by decide) (Option.some.inj hf)
theorem iu_X8_close_X8 : ∀ w ∈ wsX80, w ∈ wsX8_close := by decide +kernel
theorem lk_X8_close_45 : Cond.fieldLink RX8 45 "PrizeDeskModel" "close" "[I" ∈ wsX8_close := by decide +kernel
abbrev rm_X8_close : Room := { frames := 0, cells := 0, slots := 0, locals := 0 }
theorem sg_X8_close : ZG yX8_close wsX8_close cX8_close 3 (some .boolean) RX8 2 rm_X8_close := ⟨⟨_, rfl⟩, by decide +kernel, rfl, rfl⟩
set_option maxHeartbeats 4000000 in
set_option maxRecDepth 100000 in
theorem c_X8_close (ω : ZO) (N : Nat) (σ : ZS) (a1 : Int32) (a2 : Int32) : ZIs ω wM yX8_close wsX8_close rm_X8_close [.ref (za ω 0), .int a1, .int a2] σ (f_X8_close N σ a1 a2) := by
  intro r0 hf
  refine ZI.go (cc := cX8_close) (maxL := 3) (ret := (some .boolean)) (own := RX8) (lv := [(0, .ref (za ω 0)), (1, .int a1), (2, .int a2)]) (by decide) rfl rfl (Nat.le_of_ble_eq_true rfl) rfl (fun κ C hR => ?_)
  unfold f_X8_close at hf
  refine G_iload_n (pc' := 1) C dX8_close_0 1 rfl rfl ?_
  refine G_if_lt (tgt := 20) (pc' := 4) C dX8_close_1 (by decide) rfl hf (fun hf => ?_) (fun hf => ?_)
  · refine G_iconst (v := (0 : Int32)) (pc' := 21) C dX8_close_20 (by decide) rfl ?_
    exact G_zret C hR dX8_close_21 (by decide) (Option.some.inj hf)
  · refine G_iload_n (pc' := 5) C dX8_close_4 1 rfl rfl ?_
    refine G_iconst (v := (2 : Int32)) (pc' := 6) C dX8_close_5 (by decide) rfl ?_
    refine G_icmp_ge (tgt := 20) (pc' := 9) C dX8_close_6 (by decide) rfl hf (fun hf => ?_) (fun hf => ?_)
    · refine G_iconst (v := (0 : Int32)) (pc' := 21) C dX8_close_20 (by decide) rfl ?_
      exact G_zret C hR dX8_close_21 (by decide) (Option.some.inj hf)
    · refine G_iload_n (pc' := 10) C dX8_close_9 2 rfl rfl ?_
      refine G_if_lt (tgt := 20) (pc' := 13) C dX8_close_10 (by decide) rfl hf (fun hf => ?_) (fun hf => ?_)
      · refine G_iconst (v := (0 : Int32)) (pc' := 21) C dX8_close_20 (by decide) rfl ?_
        exact G_zret C hR dX8_close_21 (by decide) (Option.some.inj hf)
      · refine G_iload_n (pc' := 14) C dX8_close_13 2 rfl rfl ?_
        refine G_sipush (v := (400 : Int32)) (pc' := 17) C dX8_close_14 (by decide) rfl ?_
        refine G_icmp_le (tgt := 22) (pc' := 20) C dX8_close_17 (by decide) rfl hf (fun hf => ?_) (fun hf => ?_)
        · refine G_aload_n (pc' := 23) C dX8_close_22 0 rfl rfl ?_
          refine G_get (pc' := 26) C wM_0 rfl 13 (by decide) rfl iu_X8_close_X8 lk_X8_close_45 dX8_close_23 rfl ?_
          refine G_iload_n (pc' := 27) C dX8_close_26 1 rfl rfl ?_
          refine G_iload_n (pc' := 28) C dX8_close_27 2 rfl rfl ?_
          refine G_iast (pc' := 29) C wM_12 wM_s12 dX8_close_28 rfl hf (fun s1 hf => ?_)
          refine G_iconst (v := (1 : Int32)) (pc' := 30) C dX8_close_29 (by decide) rfl ?_
          exact G_zret C hR dX8_close_30 (by decide) (Option.some.inj hf)
        · refine G_iconst (v := (0 : Int32)) (pc' := 21) C dX8_close_20 (by decide) rfl ?_
          exact G_zret C hR dX8_close_21 (by decide) (Option.some.inj hf)
theorem iu_X8_telling_X8 : ∀ w ∈ wsX80, w ∈ wsX8_telling := by decide +kernel
theorem lk_X8_telling_48 : Cond.fieldLink RX8 48 "PrizeDeskModel" "telling" "[I" ∈ wsX8_telling := by decide +kernel
abbrev rm_X8_telling : Room := { frames := 0, cells := 0, slots := 0, locals := 0 }
theorem sg_X8_telling : ZG yX8_telling wsX8_telling cX8_telling 3 (some .boolean) RX8 2 rm_X8_telling := ⟨⟨_, rfl⟩, by decide +kernel, rfl, rfl⟩
set_option maxHeartbeats 4000000 in
set_option maxRecDepth 100000 in
theorem c_X8_telling (ω : ZO) (N : Nat) (σ : ZS) (a1 : Int32) (a2 : Int32) : ZIs ω wM yX8_telling wsX8_telling rm_X8_telling [.ref (za ω 0), .int a1, .int a2] σ (f_X8_telling N σ a1 a2) := by
  intro r0 hf
  refine ZI.go (cc := cX8_telling) (maxL := 3) (ret := (some .boolean)) (own := RX8) (lv := [(0, .ref (za ω 0)), (1, .int a1), (2, .int a2)]) (by decide) rfl rfl (Nat.le_of_ble_eq_true rfl) rfl (fun κ C hR => ?_)
  unfold f_X8_telling at hf
  refine G_iload_n (pc' := 1) C dX8_telling_0 1 rfl rfl ?_
  refine G_if_lt (tgt := 20) (pc' := 4) C dX8_telling_1 (by decide) rfl hf (fun hf => ?_) (fun hf => ?_)
  · refine G_iconst (v := (0 : Int32)) (pc' := 21) C dX8_telling_20 (by decide) rfl ?_
    exact G_zret C hR dX8_telling_21 (by decide) (Option.some.inj hf)
  · refine G_iload_n (pc' := 5) C dX8_telling_4 1 rfl rfl ?_
    refine G_iconst (v := (2 : Int32)) (pc' := 6) C dX8_telling_5 (by decide) rfl ?_
    refine G_icmp_gt (tgt := 20) (pc' := 9) C dX8_telling_6 (by decide) rfl hf (fun hf => ?_) (fun hf => ?_)
    · refine G_iconst (v := (0 : Int32)) (pc' := 21) C dX8_telling_20 (by decide) rfl ?_
      exact G_zret C hR dX8_telling_21 (by decide) (Option.some.inj hf)
    · refine G_iload_n (pc' := 10) C dX8_telling_9 2 rfl rfl ?_
      refine G_if_lt (tgt := 20) (pc' := 13) C dX8_telling_10 (by decide) rfl hf (fun hf => ?_) (fun hf => ?_)
      · refine G_iconst (v := (0 : Int32)) (pc' := 21) C dX8_telling_20 (by decide) rfl ?_
        exact G_zret C hR dX8_telling_21 (by decide) (Option.some.inj hf)
      · refine G_iload_n (pc' := 14) C dX8_telling_13 2 rfl rfl ?_
        refine G_sipush (v := (400 : Int32)) (pc' := 17) C dX8_telling_14 (by decide) rfl ?_
        refine G_icmp_le (tgt := 22) (pc' := 20) C dX8_telling_17 (by decide) rfl hf (fun hf => ?_) (fun hf => ?_)
        · refine G_aload_n (pc' := 23) C dX8_telling_22 0 rfl rfl ?_
          refine G_get (pc' := 26) C wM_0 rfl 14 (by decide) rfl iu_X8_telling_X8 lk_X8_telling_48 dX8_telling_23 rfl ?_
          refine G_iload_n (pc' := 27) C dX8_telling_26 1 rfl rfl ?_
          refine G_iload_n (pc' := 28) C dX8_telling_27 2 rfl rfl ?_
          refine G_iast (pc' := 29) C wM_13 wM_s13 dX8_telling_28 rfl hf (fun s1 hf => ?_)
          refine G_iconst (v := (1 : Int32)) (pc' := 30) C dX8_telling_29 (by decide) rfl ?_
          exact G_zret C hR dX8_telling_30 (by decide) (Option.some.inj hf)
        · refine G_iconst (v := (0 : Int32)) (pc' := 21) C dX8_telling_20 (by decide) rfl ?_
          exact G_zret C hR dX8_telling_21 (by decide) (Option.some.inj hf)
theorem iu_X8_sum_X8 : ∀ w ∈ wsX80, w ∈ wsX8_sum := by decide +kernel
theorem lk_X8_sum_42 : Cond.fieldLink RX8 42 "PrizeDeskModel" "mark" "[I" ∈ wsX8_sum := by decide +kernel
abbrev rm_X8_sum : Room := { frames := 0, cells := 0, slots := 0, locals := 0 }
theorem sg_X8_sum : ZG yX8_sum wsX8_sum cX8_sum 4 (some .int) RX8 1 rm_X8_sum := ⟨⟨_, rfl⟩, by decide +kernel, rfl, rfl⟩
set_option maxHeartbeats 4000000 in
set_option maxRecDepth 100000 in
theorem w_X8_sum_4 {ω : ZO} {κ : ZK} {N : Nat} {σ : ZS} {b1 : Int32} {K : Int32 → Int32 → Option (Int32)} {r0 : Int32} (C : CX ω wM κ cX8_sum wsX8_sum RX8 (some .int) 4 rm_X8_sum) (hR : zRI ω wM κ (fun v τ => v = r0 ∧ τ = σ)) (HK : ∀ (y2 : Int32) (y3 : Int32), K y2 y3 = some r0 → G ω wM κ 49 [(0, .ref (za ω 0)), (2, .int y2)] [] σ) : ∀ (n : Nat) (y2 : Int32) (y3 : Int32), L_X8_sum_4 N σ b1 K n y2 y3 = some r0 → G ω wM κ 4 [(0, .ref (za ω 0)), (1, .int b1), (2, .int y2), (3, .int y3)] [] σ := by
  intro n
  induction n with
  | zero => intro  y2 y3 hf; exact absurd (show none = some r0 from hf) (fun h => nomatch h)
  | succ n ih =>
    intro y2 y3 hf
    have hf : B_X8_sum_4 N σ b1 K (L_X8_sum_4 N σ b1 K n) y2 y3 = some r0 := hf
    unfold B_X8_sum_4 at hf
    refine G_iload_n (pc' := 5) C dX8_sum_4 3 rfl rfl ?_
    refine G_bipush (v := (7 : Int32)) (pc' := 7) C dX8_sum_5 (by decide) rfl ?_
    refine G_icmp_ge (tgt := 49) (pc' := 10) C dX8_sum_7 (by decide) rfl hf (fun hf => ?_) (fun hf => ?_)
    · refine G_sub (lv' := [(0, .ref (za ω 0)), (2, .int y2)]) C [0, 2] rfl ?_
      exact HK y2 y3 hf
    · refine G_iload_n (pc' := 11) C dX8_sum_10 2 rfl rfl ?_
      refine G_aload_n (pc' := 12) C dX8_sum_11 0 rfl rfl ?_
      refine G_get (pc' := 15) C wM_0 rfl 12 (by decide) rfl iu_X8_sum_X8 lk_X8_sum_42 dX8_sum_12 rfl ?_
      refine G_bipush (v := (24 : Int32)) (pc' := 17) C dX8_sum_15 (by decide) rfl ?_
      refine G_iload_n (pc' := 18) C dX8_sum_17 3 rfl rfl ?_
      refine G_imul (pc' := 19) C dX8_sum_18 rfl ?_
      refine G_iload_n (pc' := 20) C dX8_sum_19 1 rfl rfl ?_
      refine G_iadd (pc' := 21) C dX8_sum_20 rfl ?_
      refine G_iald (pc' := 22) C wM_11 dX8_sum_21 rfl hf (fun v1 hf => ?_)
      refine G_iconst (v := (-1 : Int32)) (pc' := 23) C dX8_sum_22 (by decide) rfl ?_
      refine G_icmp_ne (tgt := 30) (pc' := 26) C dX8_sum_23 (by decide) rfl hf (fun hf => ?_) (fun hf => ?_)
      · refine G_iconst (v := (0 : Int32)) (pc' := 27) C dX8_sum_26 (by decide) rfl ?_
        refine G_goto (pc' := 41) C dX8_sum_27 (by decide) ?_
        refine G_iadd (pc' := 42) C dX8_sum_41 rfl ?_
        refine G_nm hf (fun x2 hf => ?_)
        refine G_istore_n (lv' := [(0, .ref (za ω 0)), (1, .int b1), (2, .int x2), (3, .int y3)]) (pc' := 43) C dX8_sum_42 (by decide) [1, 2, 0, 3] rfl rfl ?_
        refine G_iincL (v := y3 + (1 : Int32)) (pc' := 46) C dX8_sum_43 3 rfl rfl (by decide) [1, 2, 3, 0] (fun x3 => [(0, .ref (za ω 0)), (1, .int b1), (2, .int x2), (3, .int x3)]) (fun _ => rfl) rfl hf (fun x3 hf => ?_)
        refine G_goto (pc' := 4) C dX8_sum_46 (by decide) ?_
        exact ih x2 x3 hf
      · refine G_aload_n (pc' := 31) C dX8_sum_30 0 rfl rfl ?_
        refine G_get (pc' := 34) C wM_0 rfl 12 (by decide) rfl iu_X8_sum_X8 lk_X8_sum_42 dX8_sum_31 rfl ?_
        refine G_bipush (v := (24 : Int32)) (pc' := 36) C dX8_sum_34 (by decide) rfl ?_
        refine G_iload_n (pc' := 37) C dX8_sum_36 3 rfl rfl ?_
        refine G_imul (pc' := 38) C dX8_sum_37 rfl ?_
        refine G_iload_n (pc' := 39) C dX8_sum_38 1 rfl rfl ?_
        refine G_iadd (pc' := 40) C dX8_sum_39 rfl ?_
        refine G_iald (pc' := 41) C wM_11 dX8_sum_40 rfl hf (fun v4 hf => ?_)
        refine G_iadd (pc' := 42) C dX8_sum_41 rfl ?_
        refine G_nm hf (fun x5 hf => ?_)
        refine G_istore_n (lv' := [(0, .ref (za ω 0)), (1, .int b1), (2, .int x5), (3, .int y3)]) (pc' := 43) C dX8_sum_42 (by decide) [1, 2, 0, 3] rfl rfl ?_
        refine G_iincL (v := y3 + (1 : Int32)) (pc' := 46) C dX8_sum_43 3 rfl rfl (by decide) [1, 2, 3, 0] (fun x6 => [(0, .ref (za ω 0)), (1, .int b1), (2, .int x5), (3, .int x6)]) (fun _ => rfl) rfl hf (fun x6 hf => ?_)
        refine G_goto (pc' := 4) C dX8_sum_46 (by decide) ?_
        exact ih x5 x6 hf
set_option maxHeartbeats 4000000 in
set_option maxRecDepth 100000 in
theorem c_X8_sum (ω : ZO) (N : Nat) (σ : ZS) (a1 : Int32) : ZIp ω wM yX8_sum wsX8_sum rm_X8_sum [.ref (za ω 0), .int a1] σ (f_X8_sum N σ a1) := by
  intro r0 hf
  refine ZI.go (cc := cX8_sum) (maxL := 4) (ret := (some .int)) (own := RX8) (lv := [(0, .ref (za ω 0)), (1, .int a1)]) (by decide) rfl rfl (Nat.le_of_ble_eq_true rfl) rfl (fun κ C hR => ?_)
  unfold f_X8_sum at hf
  refine G_iconst (v := (0 : Int32)) (pc' := 1) C dX8_sum_0 (by decide) rfl ?_
  refine G_istore_n (lv' := [(0, .ref (za ω 0)), (1, .int a1), (2, .int (0 : Int32))]) (pc' := 2) C dX8_sum_1 (by decide) [1, 2, 0] rfl rfl ?_
  refine G_iconst (v := (0 : Int32)) (pc' := 3) C dX8_sum_2 (by decide) rfl ?_
  refine G_istore_n (lv' := [(0, .ref (za ω 0)), (1, .int a1), (2, .int (0 : Int32)), (3, .int (0 : Int32))]) (pc' := 4) C dX8_sum_3 (by decide) [1, 2, 3, 0] rfl rfl ?_
  refine w_X8_sum_4 C hR (fun y7 y8 hf => ?_) N (0 : Int32) (0 : Int32) hf
  refine G_iload_n (pc' := 50) C dX8_sum_49 1 rfl rfl ?_
  exact G_iret C hR dX8_sum_50 ⟨Option.some.inj hf, rfl⟩
abbrev rm_X8_isAhead : Room := { frames := 1, cells := 0, slots := 0, locals := 23 }
theorem sg_X8_isAhead : ZG yX8_isAhead wsX8_isAhead cX8_isAhead 5 (some .boolean) RX8 2 rm_X8_isAhead := ⟨⟨_, rfl⟩, by decide +kernel, rfl, rfl⟩
set_option maxHeartbeats 4000000 in
set_option maxRecDepth 100000 in
theorem c_X8_isAhead (ω : ZO) (N : Nat) (σ : ZS) (a1 : Int32) (a2 : Int32) : ZIp ω wM yX8_isAhead wsX8_isAhead rm_X8_isAhead [.ref (za ω 0), .int a1, .int a2] σ (f_X8_isAhead N σ a1 a2) := by
  intro r0 hf
  refine ZI.go (cc := cX8_isAhead) (maxL := 5) (ret := (some .boolean)) (own := RX8) (lv := [(0, .ref (za ω 0)), (1, .int a1), (2, .int a2)]) (by decide) rfl rfl (Nat.le_of_ble_eq_true rfl) rfl (fun κ C hR => ?_)
  unfold f_X8_isAhead at hf
  refine G_aload_n (pc' := 1) C dX8_isAhead_0 0 rfl rfl ?_
  refine G_iload_n (pc' := 2) C dX8_isAhead_1 1 rfl rfl ?_
  refine G_callVp (pc' := 5) C [.int a1] (c_X8_sum ω N σ a1) sg_X8_sum gX8_isAhead_X8_sum wM_0 rfl ⟨Nat.le_of_ble_eq_true rfl, Nat.le_of_ble_eq_true rfl⟩ rfl rfl (Nat.le_of_ble_eq_true rfl) dX8_isAhead_2 rfl hf (fun v1 hf => ?_)
  refine G_aload_n (pc' := 6) C dX8_isAhead_5 0 rfl rfl ?_
  refine G_iload_n (pc' := 7) C dX8_isAhead_6 2 rfl rfl ?_
  refine G_callVp (pc' := 10) C [.int a2] (c_X8_marks ω N σ a2) sg_X8_marks gX8_isAhead_X8_marks wM_0 rfl ⟨Nat.le_of_ble_eq_true rfl, Nat.le_of_ble_eq_true rfl⟩ rfl rfl (Nat.le_of_ble_eq_true rfl) dX8_isAhead_7 rfl hf (fun v2 hf => ?_)
  refine G_imul (pc' := 11) C dX8_isAhead_10 rfl ?_
  refine G_nm hf (fun x3 hf => ?_)
  refine G_istore_n (lv' := [(0, .ref (za ω 0)), (1, .int a1), (2, .int a2), (3, .int x3)]) (pc' := 12) C dX8_isAhead_11 (by decide) [1, 2, 3, 0] rfl rfl ?_
  refine G_aload_n (pc' := 13) C dX8_isAhead_12 0 rfl rfl ?_
  refine G_iload_n (pc' := 14) C dX8_isAhead_13 2 rfl rfl ?_
  refine G_callVp (pc' := 17) C [.int a2] (c_X8_sum ω N σ a2) sg_X8_sum gX8_isAhead_X8_sum wM_0 rfl ⟨Nat.le_of_ble_eq_true rfl, Nat.le_of_ble_eq_true rfl⟩ rfl rfl (Nat.le_of_ble_eq_true rfl) dX8_isAhead_14 rfl hf (fun v4 hf => ?_)
  refine G_aload_n (pc' := 18) C dX8_isAhead_17 0 rfl rfl ?_
  refine G_iload_n (pc' := 19) C dX8_isAhead_18 1 rfl rfl ?_
  refine G_callVp (pc' := 22) C [.int a1] (c_X8_marks ω N σ a1) sg_X8_marks gX8_isAhead_X8_marks wM_0 rfl ⟨Nat.le_of_ble_eq_true rfl, Nat.le_of_ble_eq_true rfl⟩ rfl rfl (Nat.le_of_ble_eq_true rfl) dX8_isAhead_19 rfl hf (fun v5 hf => ?_)
  refine G_imul (pc' := 23) C dX8_isAhead_22 rfl ?_
  refine G_nm hf (fun x6 hf => ?_)
  refine G_istore (lv' := [(0, .ref (za ω 0)), (1, .int a1), (2, .int a2), (3, .int x3), (4, .int x6)]) (pc' := 25) C dX8_isAhead_23 (by decide) [1, 2, 3, 4, 0] rfl rfl ?_
  refine G_iload_n (pc' := 26) C dX8_isAhead_25 3 rfl rfl ?_
  refine G_iload (pc' := 28) C dX8_isAhead_26 4 rfl rfl ?_
  refine G_icmp_gt (tgt := 50) (pc' := 31) C dX8_isAhead_28 (by decide) rfl hf (fun hf => ?_) (fun hf => ?_)
  · refine G_iconst (v := (1 : Int32)) (pc' := 51) C dX8_isAhead_50 (by decide) rfl ?_
    refine G_goto (pc' := 55) C dX8_isAhead_51 (by decide) ?_
    exact G_zret C hR dX8_isAhead_55 (by decide) ⟨Option.some.inj hf, rfl⟩
  · refine G_iload_n (pc' := 32) C dX8_isAhead_31 3 rfl rfl ?_
    refine G_iload (pc' := 34) C dX8_isAhead_32 4 rfl rfl ?_
    refine G_icmp_ne (tgt := 54) (pc' := 37) C dX8_isAhead_34 (by decide) rfl hf (fun hf => ?_) (fun hf => ?_)
    · refine G_aload_n (pc' := 38) C dX8_isAhead_37 0 rfl rfl ?_
      refine G_iload_n (pc' := 39) C dX8_isAhead_38 1 rfl rfl ?_
      refine G_callVp (pc' := 42) C [.int a1] (c_X8_marks ω N σ a1) sg_X8_marks gX8_isAhead_X8_marks wM_0 rfl ⟨Nat.le_of_ble_eq_true rfl, Nat.le_of_ble_eq_true rfl⟩ rfl rfl (Nat.le_of_ble_eq_true rfl) dX8_isAhead_39 rfl hf (fun v7 hf => ?_)
      refine G_aload_n (pc' := 43) C dX8_isAhead_42 0 rfl rfl ?_
      refine G_iload_n (pc' := 44) C dX8_isAhead_43 2 rfl rfl ?_
      refine G_callVp (pc' := 47) C [.int a2] (c_X8_marks ω N σ a2) sg_X8_marks gX8_isAhead_X8_marks wM_0 rfl ⟨Nat.le_of_ble_eq_true rfl, Nat.le_of_ble_eq_true rfl⟩ rfl rfl (Nat.le_of_ble_eq_true rfl) dX8_isAhead_44 rfl hf (fun v8 hf => ?_)
      refine G_icmp_le (tgt := 54) (pc' := 50) C dX8_isAhead_47 (by decide) rfl hf (fun hf => ?_) (fun hf => ?_)
      · refine G_iconst (v := (0 : Int32)) (pc' := 55) C dX8_isAhead_54 (by decide) rfl ?_
        exact G_zret C hR dX8_isAhead_55 (by decide) ⟨Option.some.inj hf, rfl⟩
      · refine G_iconst (v := (1 : Int32)) (pc' := 51) C dX8_isAhead_50 (by decide) rfl ?_
        refine G_goto (pc' := 55) C dX8_isAhead_51 (by decide) ?_
        exact G_zret C hR dX8_isAhead_55 (by decide) ⟨Option.some.inj hf, rfl⟩
    · refine G_iconst (v := (0 : Int32)) (pc' := 55) C dX8_isAhead_54 (by decide) rfl ?_
      exact G_zret C hR dX8_isAhead_55 (by decide) ⟨Option.some.inj hf, rfl⟩
theorem iu_X8_makesLong_X8 : ∀ w ∈ wsX80, w ∈ wsX8_makesLong := by decide +kernel
theorem lk_X8_makesLong_66 : Cond.fieldLink RX8 66 "PrizeDeskModel" "longs" "[I" ∈ wsX8_makesLong := by decide +kernel
theorem lk_X8_makesLong_158 : Cond.fieldLink RX8 158 "PrizeDeskModel" "longMany" "I" ∈ wsX8_makesLong := by decide +kernel
theorem lk_X8_makesLong_113 : Cond.fieldLink RX8 113 "PrizeDeskModel" "books" "I" ∈ wsX8_makesLong := by decide +kernel
theorem lk_X8_makesLong_13 : Cond.fieldLink RX8 13 "PrizeDeskModel" "rule" "[I" ∈ wsX8_makesLong := by decide +kernel
abbrev rm_X8_makesLong : Room := { frames := 2, cells := 0, slots := 0, locals := 47 }
theorem sg_X8_makesLong : ZG yX8_makesLong wsX8_makesLong cX8_makesLong 3 none RX8 0 rm_X8_makesLong := ⟨⟨_, rfl⟩, by decide +kernel, rfl, rfl⟩
set_option maxHeartbeats 4000000 in
set_option maxRecDepth 100000 in
theorem w_X8_makesLong_39 {ω : ZO} {κ : ZK} {N : Nat} {b1 : Int32} {K : Int32 → ZS → Option (ZS)} {r0 : ZS} (C : CX ω wM κ cX8_makesLong wsX8_makesLong RX8 none 3 rm_X8_makesLong) (hR : zRV ω wM κ (fun τ => τ = r0)) (HK : ∀ (y2 : Int32) (τ : ZS), K y2 τ = some r0 → G ω wM κ 80 [(0, .ref (za ω 0)), (1, .int b1), (2, .int y2)] [] τ) : ∀ (n : Nat) (y2 : Int32) (τ : ZS), L_X8_makesLong_39 N b1 K n y2 τ = some r0 → G ω wM κ 39 [(0, .ref (za ω 0)), (1, .int b1), (2, .int y2)] [] τ := by
  intro n
  induction n with
  | zero => intro  y2 τ hf; exact absurd (show none = some r0 from hf) (fun h => nomatch h)
  | succ n ih =>
    intro y2 τ hf
    have hf : B_X8_makesLong_39 N b1 K (L_X8_makesLong_39 N b1 K n) y2 τ = some r0 := hf
    unfold B_X8_makesLong_39 at hf
    refine G_iload_n (pc' := 40) C dX8_makesLong_39 2 rfl rfl ?_
    refine G_if_le (tgt := 80) (pc' := 43) C dX8_makesLong_40 (by decide) rfl hf (fun hf => ?_) (fun hf => ?_)
    · exact HK y2 τ hf
    · refine G_aload_n (pc' := 44) C dX8_makesLong_43 0 rfl rfl ?_
      refine G_iload_n (pc' := 45) C dX8_makesLong_44 1 rfl rfl ?_
      refine G_aload_n (pc' := 46) C dX8_makesLong_45 0 rfl rfl ?_
      refine G_get (pc' := 49) C wM_0 rfl 20 (by decide) rfl iu_X8_makesLong_X8 lk_X8_makesLong_66 dX8_makesLong_46 rfl ?_
      refine G_iload_n (pc' := 50) C dX8_makesLong_49 2 rfl rfl ?_
      refine G_iconst (v := (1 : Int32)) (pc' := 51) C dX8_makesLong_50 (by decide) rfl ?_
      refine G_isub (pc' := 52) C dX8_makesLong_51 rfl ?_
      refine G_iald (pc' := 53) C wM_19 dX8_makesLong_52 rfl hf (fun v6 hf => ?_)
      refine G_callVp (pc' := 56) C [.int b1, .int v6] (c_X8_isAhead ω N τ b1 v6) sg_X8_isAhead gX8_makesLong_X8_isAhead wM_0 rfl ⟨Nat.le_of_ble_eq_true rfl, Nat.le_of_ble_eq_true rfl⟩ rfl rfl (Nat.le_of_ble_eq_true rfl) dX8_makesLong_53 rfl hf (fun v7 hf => ?_)
      refine G_if_eq (tgt := 80) (pc' := 59) C dX8_makesLong_56 (by decide) rfl hf (fun hf => ?_) (fun hf => ?_)
      · exact HK y2 τ hf
      · refine G_aload_n (pc' := 60) C dX8_makesLong_59 0 rfl rfl ?_
        refine G_get (pc' := 63) C wM_0 rfl 20 (by decide) rfl iu_X8_makesLong_X8 lk_X8_makesLong_66 dX8_makesLong_60 rfl ?_
        refine G_iload_n (pc' := 64) C dX8_makesLong_63 2 rfl rfl ?_
        refine G_aload_n (pc' := 65) C dX8_makesLong_64 0 rfl rfl ?_
        refine G_get (pc' := 68) C wM_0 rfl 20 (by decide) rfl iu_X8_makesLong_X8 lk_X8_makesLong_66 dX8_makesLong_65 rfl ?_
        refine G_iload_n (pc' := 69) C dX8_makesLong_68 2 rfl rfl ?_
        refine G_iconst (v := (1 : Int32)) (pc' := 70) C dX8_makesLong_69 (by decide) rfl ?_
        refine G_isub (pc' := 71) C dX8_makesLong_70 rfl ?_
        refine G_iald (pc' := 72) C wM_19 dX8_makesLong_71 rfl hf (fun v8 hf => ?_)
        refine G_iast (pc' := 73) C wM_19 wM_s19 dX8_makesLong_72 rfl hf (fun s9 hf => ?_)
        refine G_iload_n (pc' := 74) C dX8_makesLong_73 2 rfl rfl ?_
        refine G_iconst (v := (1 : Int32)) (pc' := 75) C dX8_makesLong_74 (by decide) rfl ?_
        refine G_isub (pc' := 76) C dX8_makesLong_75 rfl ?_
        refine G_nm hf (fun x10 hf => ?_)
        refine G_istore_n (lv' := [(0, .ref (za ω 0)), (1, .int b1), (2, .int x10)]) (pc' := 77) C dX8_makesLong_76 (by decide) [1, 2, 0] rfl rfl ?_
        refine G_goto (pc' := 39) C dX8_makesLong_77 (by decide) ?_
        exact ih x10 s9 hf
set_option maxHeartbeats 4000000 in
set_option maxRecDepth 100000 in
theorem w_X8_makesLong_7 {ω : ZO} {κ : ZK} {N : Nat} {K : Int32 → ZS → Option (ZS)} {r0 : ZS} (C : CX ω wM κ cX8_makesLong wsX8_makesLong RX8 none 3 rm_X8_makesLong) (hR : zRV ω wM κ (fun τ => τ = r0)) (HK : ∀ (y1 : Int32) (τ : ZS), K y1 τ = some r0 → G ω wM κ 103 [(0, .ref (za ω 0))] [] τ) : ∀ (n : Nat) (y1 : Int32) (τ : ZS), L_X8_makesLong_7 N K n y1 τ = some r0 → G ω wM κ 7 [(0, .ref (za ω 0)), (1, .int y1)] [] τ := by
  intro n
  induction n with
  | zero => intro  y1 τ hf; exact absurd (show none = some r0 from hf) (fun h => nomatch h)
  | succ n ih =>
    intro y1 τ hf
    have hf : B_X8_makesLong_7 N K (L_X8_makesLong_7 N K n) y1 τ = some r0 := hf
    unfold B_X8_makesLong_7 at hf
    refine G_iload_n (pc' := 8) C dX8_makesLong_7 1 rfl rfl ?_
    refine G_aload_n (pc' := 9) C dX8_makesLong_8 0 rfl rfl ?_
    refine G_get (pc' := 12) C wM_0 rfl 4 (by decide) rfl iu_X8_makesLong_X8 lk_X8_makesLong_113 dX8_makesLong_9 rfl ?_
    refine G_icmp_ge (tgt := 103) (pc' := 15) C dX8_makesLong_12 (by decide) rfl hf (fun hf => ?_) (fun hf => ?_)
    · refine G_sub (lv' := [(0, .ref (za ω 0))]) C [0] rfl ?_
      exact HK y1 τ hf
    · refine G_aload_n (pc' := 16) C dX8_makesLong_15 0 rfl rfl ?_
      refine G_iload_n (pc' := 17) C dX8_makesLong_16 1 rfl rfl ?_
      refine G_callVp (pc' := 20) C [.int y1] (c_X8_isIn ω N τ y1) sg_X8_isIn gX8_makesLong_X8_isIn wM_0 rfl ⟨Nat.le_of_ble_eq_true rfl, Nat.le_of_ble_eq_true rfl⟩ rfl rfl (Nat.le_of_ble_eq_true rfl) dX8_makesLong_17 rfl hf (fun v2 hf => ?_)
      refine G_if_eq (tgt := 97) (pc' := 23) C dX8_makesLong_20 (by decide) rfl hf (fun hf => ?_) (fun hf => ?_)
      · refine G_iincL (v := y1 + (1 : Int32)) (pc' := 100) C dX8_makesLong_97 1 rfl rfl (by decide) [1, 0] (fun x3 => [(0, .ref (za ω 0)), (1, .int x3)]) (fun _ => rfl) rfl hf (fun x3 hf => ?_)
        refine G_goto (pc' := 7) C dX8_makesLong_100 (by decide) ?_
        exact ih x3 τ hf
      · refine G_aload_n (pc' := 24) C dX8_makesLong_23 0 rfl rfl ?_
        refine G_iload_n (pc' := 25) C dX8_makesLong_24 1 rfl rfl ?_
        refine G_callVp (pc' := 28) C [.int y1] (c_X8_marks ω N τ y1) sg_X8_marks gX8_makesLong_X8_marks wM_0 rfl ⟨Nat.le_of_ble_eq_true rfl, Nat.le_of_ble_eq_true rfl⟩ rfl rfl (Nat.le_of_ble_eq_true rfl) dX8_makesLong_25 rfl hf (fun v4 hf => ?_)
        refine G_if_ne (tgt := 34) (pc' := 31) C dX8_makesLong_28 (by decide) rfl hf (fun hf => ?_) (fun hf => ?_)
        · refine G_goto (pc' := 97) C dX8_makesLong_31 (by decide) ?_
          refine G_iincL (v := y1 + (1 : Int32)) (pc' := 100) C dX8_makesLong_97 1 rfl rfl (by decide) [1, 0] (fun x5 => [(0, .ref (za ω 0)), (1, .int x5)]) (fun _ => rfl) rfl hf (fun x5 hf => ?_)
          refine G_goto (pc' := 7) C dX8_makesLong_100 (by decide) ?_
          exact ih x5 τ hf
        · refine G_aload_n (pc' := 35) C dX8_makesLong_34 0 rfl rfl ?_
          refine G_get (pc' := 38) C wM_0 rfl 22 (by decide) rfl iu_X8_makesLong_X8 lk_X8_makesLong_158 dX8_makesLong_35 rfl ?_
          refine G_istore_n (lv' := [(0, .ref (za ω 0)), (1, .int y1), (2, .int (τ 0 22))]) (pc' := 39) C dX8_makesLong_38 (by decide) [1, 2, 0] rfl rfl ?_
          refine w_X8_makesLong_39 C hR (fun y11 s12 hf => ?_) N (τ 0 22) τ hf
          refine G_aload_n (pc' := 81) C dX8_makesLong_80 0 rfl rfl ?_
          refine G_get (pc' := 84) C wM_0 rfl 20 (by decide) rfl iu_X8_makesLong_X8 lk_X8_makesLong_66 dX8_makesLong_81 rfl ?_
          refine G_iload_n (pc' := 85) C dX8_makesLong_84 2 rfl rfl ?_
          refine G_iload_n (pc' := 86) C dX8_makesLong_85 1 rfl rfl ?_
          refine G_iast (pc' := 87) C wM_19 wM_s19 dX8_makesLong_86 rfl hf (fun s13 hf => ?_)
          refine G_aload_n (pc' := 88) C dX8_makesLong_87 0 rfl rfl ?_
          refine G_aload_n (pc' := 89) C dX8_makesLong_88 0 rfl rfl ?_
          refine G_get (pc' := 92) C wM_0 rfl 22 (by decide) rfl iu_X8_makesLong_X8 lk_X8_makesLong_158 dX8_makesLong_89 rfl ?_
          refine G_iconst (v := (1 : Int32)) (pc' := 93) C dX8_makesLong_92 (by decide) rfl ?_
          refine G_iadd (pc' := 94) C dX8_makesLong_93 rfl ?_
          refine G_put (pc' := 97) C tyX8 tyX8_ok nmX8 wM_0 rfl 22 (by decide) (Nat.le_of_ble_eq_true rfl) iu_X8_makesLong_X8 lk_X8_makesLong_158 rfl (by decide +kernel) wM_f0_22 dX8_makesLong_94 rfl hf (fun s14 hf => ?_)
          refine G_iincL (v := y1 + (1 : Int32)) (pc' := 100) C dX8_makesLong_97 1 rfl rfl (by decide) [1, 0] (fun x15 => [(0, .ref (za ω 0)), (1, .int x15)]) (fun _ => rfl) rfl hf (fun x15 hf => ?_)
          refine G_goto (pc' := 7) C dX8_makesLong_100 (by decide) ?_
          exact ih x15 s14 hf
set_option maxHeartbeats 4000000 in
set_option maxRecDepth 100000 in
theorem c_X8_makesLong (ω : ZO) (N : Nat) (σ : ZS) : ZVs ω wM yX8_makesLong wsX8_makesLong rm_X8_makesLong [.ref (za ω 0)] σ (f_X8_makesLong N σ) := by
  intro r0 hf
  refine ZV.go (cc := cX8_makesLong) (maxL := 3) (ret := none) (own := RX8) (lv := [(0, .ref (za ω 0))]) (by decide) rfl rfl (Nat.le_of_ble_eq_true rfl) rfl (fun κ C hR => ?_)
  unfold f_X8_makesLong at hf
  refine G_aload_n (pc' := 1) C dX8_makesLong_0 0 rfl rfl ?_
  refine G_iconst (v := (0 : Int32)) (pc' := 2) C dX8_makesLong_1 (by decide) rfl ?_
  refine G_put (pc' := 5) C tyX8 tyX8_ok nmX8 wM_0 rfl 22 (by decide) (Nat.le_of_ble_eq_true rfl) iu_X8_makesLong_X8 lk_X8_makesLong_158 rfl (by decide +kernel) wM_f0_22 dX8_makesLong_2 rfl hf (fun s1 hf => ?_)
  refine G_iconst (v := (0 : Int32)) (pc' := 6) C dX8_makesLong_5 (by decide) rfl ?_
  refine G_istore_n (lv' := [(0, .ref (za ω 0)), (1, .int (0 : Int32))]) (pc' := 7) C dX8_makesLong_6 (by decide) [1, 0] rfl rfl ?_
  refine w_X8_makesLong_7 C hR (fun y16 s17 hf => ?_) N (0 : Int32) s1 hf
  refine G_aload_n (pc' := 104) C dX8_makesLong_103 0 rfl rfl ?_
  refine G_get (pc' := 107) C wM_0 rfl 22 (by decide) rfl iu_X8_makesLong_X8 lk_X8_makesLong_158 dX8_makesLong_104 rfl ?_
  refine G_aload_n (pc' := 108) C dX8_makesLong_107 0 rfl rfl ?_
  refine G_get (pc' := 111) C wM_0 rfl 2 (by decide) rfl iu_X8_makesLong_X8 lk_X8_makesLong_13 dX8_makesLong_108 rfl ?_
  refine G_bipush (v := (7 : Int32)) (pc' := 113) C dX8_makesLong_111 (by decide) rfl ?_
  refine G_iald (pc' := 114) C wM_2 dX8_makesLong_113 rfl hf (fun v18 hf => ?_)
  refine G_icmp_le (tgt := 128) (pc' := 117) C dX8_makesLong_114 (by decide) rfl hf (fun hf => ?_) (fun hf => ?_)
  · exact G_vret C hR dX8_makesLong_128 (Option.some.inj hf)
  · refine G_aload_n (pc' := 118) C dX8_makesLong_117 0 rfl rfl ?_
    refine G_aload_n (pc' := 119) C dX8_makesLong_118 0 rfl rfl ?_
    refine G_get (pc' := 122) C wM_0 rfl 2 (by decide) rfl iu_X8_makesLong_X8 lk_X8_makesLong_13 dX8_makesLong_119 rfl ?_
    refine G_bipush (v := (7 : Int32)) (pc' := 124) C dX8_makesLong_122 (by decide) rfl ?_
    refine G_iald (pc' := 125) C wM_2 dX8_makesLong_124 rfl hf (fun v19 hf => ?_)
    refine G_put (pc' := 128) C tyX8 tyX8_ok nmX8 wM_0 rfl 22 (by decide) (Nat.le_of_ble_eq_true rfl) iu_X8_makesLong_X8 lk_X8_makesLong_158 rfl (by decide +kernel) wM_f0_22 dX8_makesLong_125 rfl hf (fun s20 hf => ?_)
    exact G_vret C hR dX8_makesLong_128 (Option.some.inj hf)
theorem iu_X8_counts_X8 : ∀ w ∈ wsX80, w ∈ wsX8_counts := by decide +kernel
theorem lk_X8_counts_45 : Cond.fieldLink RX8 45 "PrizeDeskModel" "close" "[I" ∈ wsX8_counts := by decide +kernel
theorem lk_X8_counts_54 : Cond.fieldLink RX8 54 "PrizeDeskModel" "on" "[I" ∈ wsX8_counts := by decide +kernel
theorem lk_X8_counts_51 : Cond.fieldLink RX8 51 "PrizeDeskModel" "isTold" "[Z" ∈ wsX8_counts := by decide +kernel
abbrev rm_X8_counts : Room := { frames := 0, cells := 0, slots := 0, locals := 0 }
theorem sg_X8_counts : ZG yX8_counts wsX8_counts cX8_counts 3 (some .boolean) RX8 2 rm_X8_counts := ⟨⟨_, rfl⟩, by decide +kernel, rfl, rfl⟩
set_option maxHeartbeats 4000000 in
set_option maxRecDepth 100000 in
theorem c_X8_counts (ω : ZO) (N : Nat) (σ : ZS) (a1 : Int32) (a2 : Int32) : ZIp ω wM yX8_counts wsX8_counts rm_X8_counts [.ref (za ω 0), .int a1, .int a2] σ (f_X8_counts N σ a1 a2) := by
  intro r0 hf
  refine ZI.go (cc := cX8_counts) (maxL := 3) (ret := (some .boolean)) (own := RX8) (lv := [(0, .ref (za ω 0)), (1, .int a1), (2, .int a2)]) (by decide) rfl rfl (Nat.le_of_ble_eq_true rfl) rfl (fun κ C hR => ?_)
  unfold f_X8_counts at hf
  refine G_aload_n (pc' := 1) C dX8_counts_0 0 rfl rfl ?_
  refine G_get (pc' := 4) C wM_0 rfl 15 (by decide) rfl iu_X8_counts_X8 lk_X8_counts_51 dX8_counts_1 rfl ?_
  refine G_iconst (v := (2 : Int32)) (pc' := 5) C dX8_counts_4 (by decide) rfl ?_
  refine G_iload_n (pc' := 6) C dX8_counts_5 1 rfl rfl ?_
  refine G_imul (pc' := 7) C dX8_counts_6 rfl ?_
  refine G_iload_n (pc' := 8) C dX8_counts_7 2 rfl rfl ?_
  refine G_iadd (pc' := 9) C dX8_counts_8 rfl ?_
  refine G_zald (pc' := 10) C wM_14 dX8_counts_9 rfl hf (fun v1 hf => ?_)
  refine G_if_eq (tgt := 36) (pc' := 13) C dX8_counts_10 (by decide) rfl hf (fun hf => ?_) (fun hf => ?_)
  · refine G_iconst (v := (0 : Int32)) (pc' := 37) C dX8_counts_36 (by decide) rfl ?_
    exact G_zret C hR dX8_counts_37 (by decide) ⟨Option.some.inj hf, rfl⟩
  · refine G_aload_n (pc' := 14) C dX8_counts_13 0 rfl rfl ?_
    refine G_get (pc' := 17) C wM_0 rfl 16 (by decide) rfl iu_X8_counts_X8 lk_X8_counts_54 dX8_counts_14 rfl ?_
    refine G_iconst (v := (2 : Int32)) (pc' := 18) C dX8_counts_17 (by decide) rfl ?_
    refine G_iload_n (pc' := 19) C dX8_counts_18 1 rfl rfl ?_
    refine G_imul (pc' := 20) C dX8_counts_19 rfl ?_
    refine G_iload_n (pc' := 21) C dX8_counts_20 2 rfl rfl ?_
    refine G_iadd (pc' := 22) C dX8_counts_21 rfl ?_
    refine G_iald (pc' := 23) C wM_15 dX8_counts_22 rfl hf (fun v2 hf => ?_)
    refine G_aload_n (pc' := 24) C dX8_counts_23 0 rfl rfl ?_
    refine G_get (pc' := 27) C wM_0 rfl 13 (by decide) rfl iu_X8_counts_X8 lk_X8_counts_45 dX8_counts_24 rfl ?_
    refine G_iload_n (pc' := 28) C dX8_counts_27 2 rfl rfl ?_
    refine G_iald (pc' := 29) C wM_12 dX8_counts_28 rfl hf (fun v3 hf => ?_)
    refine G_icmp_gt (tgt := 36) (pc' := 32) C dX8_counts_29 (by decide) rfl hf (fun hf => ?_) (fun hf => ?_)
    · refine G_iconst (v := (0 : Int32)) (pc' := 37) C dX8_counts_36 (by decide) rfl ?_
      exact G_zret C hR dX8_counts_37 (by decide) ⟨Option.some.inj hf, rfl⟩
    · refine G_iconst (v := (1 : Int32)) (pc' := 33) C dX8_counts_32 (by decide) rfl ?_
      refine G_goto (pc' := 37) C dX8_counts_33 (by decide) ?_
      exact G_zret C hR dX8_counts_37 (by decide) ⟨Option.some.inj hf, rfl⟩
theorem iu_X8_isListed_X8 : ∀ w ∈ wsX80, w ∈ wsX8_isListed := by decide +kernel
theorem lk_X8_isListed_72 : Cond.fieldLink RX8 72 "PrizeDeskModel" "list" "[I" ∈ wsX8_isListed := by decide +kernel
theorem lk_X8_isListed_167 : Cond.fieldLink RX8 167 "PrizeDeskModel" "listMany" "I" ∈ wsX8_isListed := by decide +kernel
abbrev rm_X8_isListed : Room := { frames := 0, cells := 0, slots := 0, locals := 0 }
theorem sg_X8_isListed : ZG yX8_isListed wsX8_isListed cX8_isListed 4 (some .boolean) RX8 1 rm_X8_isListed := ⟨⟨_, rfl⟩, by decide +kernel, rfl, rfl⟩
set_option maxHeartbeats 4000000 in
set_option maxRecDepth 100000 in
theorem w_X8_isListed_4 {ω : ZO} {κ : ZK} {N : Nat} {σ : ZS} {b1 : Int32} {K : Int32 → Int32 → Option (Int32)} {r0 : Int32} (C : CX ω wM κ cX8_isListed wsX8_isListed RX8 (some .boolean) 4 rm_X8_isListed) (hR : zRI ω wM κ (fun v τ => v = r0 ∧ τ = σ)) (HK : ∀ (y2 : Int32) (y3 : Int32), K y2 y3 = some r0 → G ω wM κ 38 [(0, .ref (za ω 0)), (2, .int y2)] [] σ) : ∀ (n : Nat) (y2 : Int32) (y3 : Int32), L_X8_isListed_4 N σ b1 K n y2 y3 = some r0 → G ω wM κ 4 [(0, .ref (za ω 0)), (1, .int b1), (2, .int y2), (3, .int y3)] [] σ := by
  intro n
  induction n with
  | zero => intro  y2 y3 hf; exact absurd (show none = some r0 from hf) (fun h => nomatch h)
  | succ n ih =>
    intro y2 y3 hf
    have hf : B_X8_isListed_4 N σ b1 K (L_X8_isListed_4 N σ b1 K n) y2 y3 = some r0 := hf
    unfold B_X8_isListed_4 at hf
    refine G_iload_n (pc' := 5) C dX8_isListed_4 3 rfl rfl ?_
    refine G_aload_n (pc' := 6) C dX8_isListed_5 0 rfl rfl ?_
    refine G_get (pc' := 9) C wM_0 rfl 29 (by decide) rfl iu_X8_isListed_X8 lk_X8_isListed_167 dX8_isListed_6 rfl ?_
    refine G_icmp_ge (tgt := 38) (pc' := 12) C dX8_isListed_9 (by decide) rfl hf (fun hf => ?_) (fun hf => ?_)
    · refine G_sub (lv' := [(0, .ref (za ω 0)), (2, .int y2)]) C [0, 2] rfl ?_
      exact HK y2 y3 hf
    · refine G_iload_n (pc' := 13) C dX8_isListed_12 2 rfl rfl ?_
      refine G_if_ne (tgt := 26) (pc' := 16) C dX8_isListed_13 (by decide) rfl hf (fun hf => ?_) (fun hf => ?_)
      · refine G_aload_n (pc' := 17) C dX8_isListed_16 0 rfl rfl ?_
        refine G_get (pc' := 20) C wM_0 rfl 24 (by decide) rfl iu_X8_isListed_X8 lk_X8_isListed_72 dX8_isListed_17 rfl ?_
        refine G_iload_n (pc' := 21) C dX8_isListed_20 3 rfl rfl ?_
        refine G_iald (pc' := 22) C wM_21 dX8_isListed_21 rfl hf (fun v1 hf => ?_)
        refine G_iload_n (pc' := 23) C dX8_isListed_22 1 rfl rfl ?_
        refine G_icmp_ne (tgt := 30) (pc' := 26) C dX8_isListed_23 (by decide) rfl hf (fun hf => ?_) (fun hf => ?_)
        · refine G_iconst (v := (1 : Int32)) (pc' := 27) C dX8_isListed_26 (by decide) rfl ?_
          refine G_goto (pc' := 31) C dX8_isListed_27 (by decide) ?_
          refine G_istore_n (lv' := [(0, .ref (za ω 0)), (1, .int b1), (2, .int (1 : Int32)), (3, .int y3)]) (pc' := 32) C dX8_isListed_31 (by decide) [1, 2, 0, 3] rfl rfl ?_
          refine G_iincL (v := y3 + (1 : Int32)) (pc' := 35) C dX8_isListed_32 3 rfl rfl (by decide) [1, 2, 3, 0] (fun x2 => [(0, .ref (za ω 0)), (1, .int b1), (2, .int (1 : Int32)), (3, .int x2)]) (fun _ => rfl) rfl hf (fun x2 hf => ?_)
          refine G_goto (pc' := 4) C dX8_isListed_35 (by decide) ?_
          exact ih (1 : Int32) x2 hf
        · refine G_iconst (v := (0 : Int32)) (pc' := 31) C dX8_isListed_30 (by decide) rfl ?_
          refine G_istore_n (lv' := [(0, .ref (za ω 0)), (1, .int b1), (2, .int (0 : Int32)), (3, .int y3)]) (pc' := 32) C dX8_isListed_31 (by decide) [1, 2, 0, 3] rfl rfl ?_
          refine G_iincL (v := y3 + (1 : Int32)) (pc' := 35) C dX8_isListed_32 3 rfl rfl (by decide) [1, 2, 3, 0] (fun x3 => [(0, .ref (za ω 0)), (1, .int b1), (2, .int (0 : Int32)), (3, .int x3)]) (fun _ => rfl) rfl hf (fun x3 hf => ?_)
          refine G_goto (pc' := 4) C dX8_isListed_35 (by decide) ?_
          exact ih (0 : Int32) x3 hf
      · refine G_iconst (v := (1 : Int32)) (pc' := 27) C dX8_isListed_26 (by decide) rfl ?_
        refine G_goto (pc' := 31) C dX8_isListed_27 (by decide) ?_
        refine G_istore_n (lv' := [(0, .ref (za ω 0)), (1, .int b1), (2, .int (1 : Int32)), (3, .int y3)]) (pc' := 32) C dX8_isListed_31 (by decide) [1, 2, 0, 3] rfl rfl ?_
        refine G_iincL (v := y3 + (1 : Int32)) (pc' := 35) C dX8_isListed_32 3 rfl rfl (by decide) [1, 2, 3, 0] (fun x4 => [(0, .ref (za ω 0)), (1, .int b1), (2, .int (1 : Int32)), (3, .int x4)]) (fun _ => rfl) rfl hf (fun x4 hf => ?_)
        refine G_goto (pc' := 4) C dX8_isListed_35 (by decide) ?_
        exact ih (1 : Int32) x4 hf
set_option maxHeartbeats 4000000 in
set_option maxRecDepth 100000 in
theorem c_X8_isListed (ω : ZO) (N : Nat) (σ : ZS) (a1 : Int32) : ZIp ω wM yX8_isListed wsX8_isListed rm_X8_isListed [.ref (za ω 0), .int a1] σ (f_X8_isListed N σ a1) := by
  intro r0 hf
  refine ZI.go (cc := cX8_isListed) (maxL := 4) (ret := (some .boolean)) (own := RX8) (lv := [(0, .ref (za ω 0)), (1, .int a1)]) (by decide) rfl rfl (Nat.le_of_ble_eq_true rfl) rfl (fun κ C hR => ?_)
  unfold f_X8_isListed at hf
  refine G_iconst (v := (0 : Int32)) (pc' := 1) C dX8_isListed_0 (by decide) rfl ?_
  refine G_istore_n (lv' := [(0, .ref (za ω 0)), (1, .int a1), (2, .int (0 : Int32))]) (pc' := 2) C dX8_isListed_1 (by decide) [1, 2, 0] rfl rfl ?_
  refine G_iconst (v := (0 : Int32)) (pc' := 3) C dX8_isListed_2 (by decide) rfl ?_
  refine G_istore_n (lv' := [(0, .ref (za ω 0)), (1, .int a1), (2, .int (0 : Int32)), (3, .int (0 : Int32))]) (pc' := 4) C dX8_isListed_3 (by decide) [1, 2, 3, 0] rfl rfl ?_
  refine w_X8_isListed_4 C hR (fun y5 y6 hf => ?_) N (0 : Int32) (0 : Int32) hf
  refine G_iload_n (pc' := 39) C dX8_isListed_38 1 rfl rfl ?_
  exact G_zret C hR dX8_isListed_39 (g_zr_some hf).1 ⟨Option.some.inj (g_zr_some hf).2, rfl⟩
theorem iu_X8_placeOn_X8 : ∀ w ∈ wsX80, w ∈ wsX8_placeOn := by decide +kernel
theorem lk_X8_placeOn_60 : Cond.fieldLink RX8 60 "PrizeDeskModel" "choice" "[I" ∈ wsX8_placeOn := by decide +kernel
theorem lk_X8_placeOn_57 : Cond.fieldLink RX8 57 "PrizeDeskModel" "many" "[I" ∈ wsX8_placeOn := by decide +kernel
abbrev rm_X8_placeOn : Room := { frames := 1, cells := 0, slots := 0, locals := 23 }
theorem sg_X8_placeOn : ZG yX8_placeOn wsX8_placeOn cX8_placeOn 8 (some .int) RX8 3 rm_X8_placeOn := ⟨⟨_, rfl⟩, by decide +kernel, rfl, rfl⟩
set_option maxHeartbeats 4000000 in
set_option maxRecDepth 100000 in
theorem w_X8_placeOn_24 {ω : ZO} {κ : ZK} {N : Nat} {σ : ZS} {b1 : Int32} {b3 : Int32} {b4 : Int32} {K : Int32 → Int32 → Option (Int32)} {r0 : Int32} (C : CX ω wM κ cX8_placeOn wsX8_placeOn RX8 (some .int) 8 rm_X8_placeOn) (hR : zRI ω wM κ (fun v τ => v = r0 ∧ τ = σ)) (HK : ∀ (y5 : Int32) (y6 : Int32), K y5 y6 = some r0 → G ω wM κ 94 [(0, .ref (za ω 0))] [] σ) : ∀ (n : Nat) (y5 : Int32) (y6 : Int32), L_X8_placeOn_24 N σ b1 b3 b4 K n y5 y6 = some r0 → G ω wM κ 24 [(0, .ref (za ω 0)), (1, .int b1), (3, .int b3), (4, .int b4), (5, .int y5), (6, .int y6)] [] σ := by
  intro n
  induction n with
  | zero => intro  y5 y6 hf; exact absurd (show none = some r0 from hf) (fun h => nomatch h)
  | succ n ih =>
    intro y5 y6 hf
    have hf : B_X8_placeOn_24 N σ b1 b3 b4 K (L_X8_placeOn_24 N σ b1 b3 b4 K n) y5 y6 = some r0 := hf
    unfold B_X8_placeOn_24 at hf
    refine G_iload (pc' := 26) C dX8_placeOn_24 5 rfl rfl ?_
    refine G_aload_n (pc' := 27) C dX8_placeOn_26 0 rfl rfl ?_
    refine G_get (pc' := 30) C wM_0 rfl 17 (by decide) rfl iu_X8_placeOn_X8 lk_X8_placeOn_57 dX8_placeOn_27 rfl ?_
    refine G_iload (pc' := 32) C dX8_placeOn_30 3 rfl rfl ?_
    refine G_iald (pc' := 33) C wM_16 dX8_placeOn_32 rfl hf (fun v3 hf => ?_)
    refine G_icmp_ge (tgt := 94) (pc' := 36) C dX8_placeOn_33 (by decide) rfl hf (fun hf => ?_) (fun hf => ?_)
    · refine G_sub (lv' := [(0, .ref (za ω 0))]) C [0] rfl ?_
      exact HK y5 y6 hf
    · refine G_aload_n (pc' := 37) C dX8_placeOn_36 0 rfl rfl ?_
      refine G_get (pc' := 40) C wM_0 rfl 18 (by decide) rfl iu_X8_placeOn_X8 lk_X8_placeOn_60 dX8_placeOn_37 rfl ?_
      refine G_bipush (v := (12 : Int32)) (pc' := 42) C dX8_placeOn_40 (by decide) rfl ?_
      refine G_iload (pc' := 44) C dX8_placeOn_42 3 rfl rfl ?_
      refine G_imul (pc' := 45) C dX8_placeOn_44 rfl ?_
      refine G_iload (pc' := 47) C dX8_placeOn_45 5 rfl rfl ?_
      refine G_iadd (pc' := 48) C dX8_placeOn_47 rfl ?_
      refine G_iald (pc' := 49) C wM_17 dX8_placeOn_48 rfl hf (fun v4 hf => ?_)
      refine G_istore (lv' := [(0, .ref (za ω 0)), (1, .int b1), (3, .int b3), (4, .int b4), (5, .int y5), (6, .int y6), (7, .int v4)]) (pc' := 51) C dX8_placeOn_49 (by decide) [1, 2, 3, 4, 5, 6, 0] rfl rfl ?_
      refine G_aload_n (pc' := 52) C dX8_placeOn_51 0 rfl rfl ?_
      refine G_iload (pc' := 54) C dX8_placeOn_52 6 rfl rfl ?_
      refine G_callVp (pc' := 57) C [.int v4] (c_X8_isListed ω N σ v4) sg_X8_isListed gX8_placeOn_X8_isListed wM_0 rfl ⟨Nat.le_of_ble_eq_true rfl, Nat.le_of_ble_eq_true rfl⟩ rfl rfl (Nat.le_of_ble_eq_true rfl) dX8_placeOn_54 rfl hf (fun v5 hf => ?_)
      refine G_if_eq (tgt := 88) (pc' := 60) C dX8_placeOn_57 (by decide) rfl hf (fun hf => ?_) (fun hf => ?_)
      · refine G_iincL (v := y6 + (1 : Int32)) (pc' := 91) C dX8_placeOn_88 5 rfl rfl (by decide) [1, 2, 3, 4, 5, 0] (fun x6 => [(0, .ref (za ω 0)), (1, .int b1), (3, .int b3), (4, .int b4), (5, .int y5), (6, .int x6)]) (fun _ => rfl) rfl hf (fun x6 hf => ?_)
        refine G_goto (pc' := 24) C dX8_placeOn_91 (by decide) ?_
        exact ih y5 x6 hf
      · refine G_aload_n (pc' := 61) C dX8_placeOn_60 0 rfl rfl ?_
        refine G_iload_n (pc' := 62) C dX8_placeOn_61 1 rfl rfl ?_
        refine G_iload (pc' := 64) C dX8_placeOn_62 6 rfl rfl ?_
        refine G_callVp (pc' := 67) C [.int b1, .int v4] (c_X8_isBarred ω N σ b1 v4) sg_X8_isBarred gX8_placeOn_X8_isBarred wM_0 rfl ⟨Nat.le_of_ble_eq_true rfl, Nat.le_of_ble_eq_true rfl⟩ rfl rfl (Nat.le_of_ble_eq_true rfl) dX8_placeOn_64 rfl hf (fun v7 hf => ?_)
        refine G_if_eq (tgt := 73) (pc' := 70) C dX8_placeOn_67 (by decide) rfl hf (fun hf => ?_) (fun hf => ?_)
        · refine G_iload (pc' := 75) C dX8_placeOn_73 6 rfl rfl ?_
          refine G_iload_n (pc' := 76) C dX8_placeOn_75 2 rfl rfl ?_
          refine G_icmp_ne (tgt := 82) (pc' := 79) C dX8_placeOn_76 (by decide) rfl hf (fun hf => ?_) (fun hf => ?_)
          · refine G_iload (pc' := 81) C dX8_placeOn_79 4 rfl rfl ?_
            exact G_iret C hR dX8_placeOn_81 ⟨Option.some.inj hf, rfl⟩
          · refine G_iload (pc' := 84) C dX8_placeOn_82 4 rfl rfl ?_
            refine G_iconst (v := (1 : Int32)) (pc' := 85) C dX8_placeOn_84 (by decide) rfl ?_
            refine G_iadd (pc' := 86) C dX8_placeOn_85 rfl ?_
            refine G_nm hf (fun x8 hf => ?_)
            refine G_istore (lv' := [(0, .ref (za ω 0)), (1, .int b1), (3, .int b3), (4, .int b4), (5, .int x8), (6, .int y6)]) (pc' := 88) C dX8_placeOn_86 (by decide) [1, 2, 3, 4, 0, 5] rfl rfl ?_
            refine G_iincL (v := y6 + (1 : Int32)) (pc' := 91) C dX8_placeOn_88 5 rfl rfl (by decide) [1, 2, 3, 4, 5, 0] (fun x9 => [(0, .ref (za ω 0)), (1, .int b1), (3, .int b3), (4, .int b4), (5, .int x8), (6, .int x9)]) (fun _ => rfl) rfl hf (fun x9 hf => ?_)
            refine G_goto (pc' := 24) C dX8_placeOn_91 (by decide) ?_
            exact ih x8 x9 hf
        · refine G_goto (pc' := 88) C dX8_placeOn_70 (by decide) ?_
          refine G_iincL (v := y6 + (1 : Int32)) (pc' := 91) C dX8_placeOn_88 5 rfl rfl (by decide) [1, 2, 3, 4, 5, 0] (fun x10 => [(0, .ref (za ω 0)), (1, .int b1), (3, .int b3), (4, .int b4), (5, .int y5), (6, .int x10)]) (fun _ => rfl) rfl hf (fun x10 hf => ?_)
          refine G_goto (pc' := 24) C dX8_placeOn_91 (by decide) ?_
          exact ih y5 x10 hf
set_option maxHeartbeats 4000000 in
set_option maxRecDepth 100000 in
theorem c_X8_placeOn (ω : ZO) (N : Nat) (σ : ZS) (a1 : Int32) (a2 : Int32) (a3 : Int32) : ZIp ω wM yX8_placeOn wsX8_placeOn rm_X8_placeOn [.ref (za ω 0), .int a1, .int a2, .int a3] σ (f_X8_placeOn N σ a1 a2 a3) := by
  intro r0 hf
  refine ZI.go (cc := cX8_placeOn) (maxL := 8) (ret := (some .int)) (own := RX8) (lv := [(0, .ref (za ω 0)), (1, .int a1), (2, .int a2), (3, .int a3)]) (by decide) rfl rfl (Nat.le_of_ble_eq_true rfl) rfl (fun κ C hR => ?_)
  unfold f_X8_placeOn at hf
  refine G_aload_n (pc' := 1) C dX8_placeOn_0 0 rfl rfl ?_
  refine G_iload_n (pc' := 2) C dX8_placeOn_1 1 rfl rfl ?_
  refine G_iload_n (pc' := 3) C dX8_placeOn_2 2 rfl rfl ?_
  refine G_callVp (pc' := 6) C [.int a1, .int a2] (c_X8_counts ω N σ a1 a2) sg_X8_counts gX8_placeOn_X8_counts wM_0 rfl ⟨Nat.le_of_ble_eq_true rfl, Nat.le_of_ble_eq_true rfl⟩ rfl rfl (Nat.le_of_ble_eq_true rfl) dX8_placeOn_3 rfl hf (fun v1 hf => ?_)
  refine G_if_ne (tgt := 11) (pc' := 9) C dX8_placeOn_6 (by decide) rfl hf (fun hf => ?_) (fun hf => ?_)
  · refine G_iconst (v := (-1 : Int32)) (pc' := 10) C dX8_placeOn_9 (by decide) rfl ?_
    exact G_iret C hR dX8_placeOn_10 ⟨Option.some.inj hf, rfl⟩
  · refine G_iconst (v := (2 : Int32)) (pc' := 12) C dX8_placeOn_11 (by decide) rfl ?_
    refine G_iload_n (pc' := 13) C dX8_placeOn_12 1 rfl rfl ?_
    refine G_imul (pc' := 14) C dX8_placeOn_13 rfl ?_
    refine G_iload_n (pc' := 15) C dX8_placeOn_14 2 rfl rfl ?_
    refine G_iadd (pc' := 16) C dX8_placeOn_15 rfl ?_
    refine G_nm hf (fun x2 hf => ?_)
    refine G_istore (lv' := [(0, .ref (za ω 0)), (1, .int a1), (3, .int a3), (4, .int x2)]) (pc' := 18) C dX8_placeOn_16 (by decide) [1, 2, 4, 0] rfl rfl ?_
    refine G_iconst (v := (0 : Int32)) (pc' := 19) C dX8_placeOn_18 (by decide) rfl ?_
    refine G_istore (lv' := [(0, .ref (za ω 0)), (1, .int a1), (3, .int a3), (4, .int x2), (5, .int (0 : Int32))]) (pc' := 21) C dX8_placeOn_19 (by decide) [1, 2, 3, 4, 0] rfl rfl ?_
    refine G_iconst (v := (0 : Int32)) (pc' := 22) C dX8_placeOn_21 (by decide) rfl ?_
    refine G_istore (lv' := [(0, .ref (za ω 0)), (1, .int a1), (3, .int a3), (4, .int x2), (5, .int (0 : Int32)), (6, .int (0 : Int32))]) (pc' := 24) C dX8_placeOn_22 (by decide) [1, 2, 3, 4, 5, 0] rfl rfl ?_
    refine w_X8_placeOn_24 C hR (fun y11 y12 hf => ?_) N (0 : Int32) (0 : Int32) hf
    refine G_iconst (v := (-1 : Int32)) (pc' := 95) C dX8_placeOn_94 (by decide) rfl ?_
    exact G_iret C hR dX8_placeOn_95 ⟨Option.some.inj hf, rfl⟩
abbrev rm_X8_more : Room := { frames := 2, cells := 0, slots := 0, locals := 50 }
theorem sg_X8_more : ZG yX8_more wsX8_more cX8_more 8 (some .int) RX8 3 rm_X8_more := ⟨⟨_, rfl⟩, by decide +kernel, rfl, rfl⟩
set_option maxHeartbeats 4000000 in
set_option maxRecDepth 100000 in
theorem w_X8_more_6 {ω : ZO} {κ : ZK} {N : Nat} {σ : ZS} {b1 : Int32} {b2 : Int32} {b3 : Int32} {K : Int32 → Int32 → Option (Int32)} {r0 : Int32} (C : CX ω wM κ cX8_more wsX8_more RX8 (some .int) 8 rm_X8_more) (hR : zRI ω wM κ (fun v τ => v = r0 ∧ τ = σ)) (HK : ∀ (y4 : Int32) (y5 : Int32), K y4 y5 = some r0 → G ω wM κ 89 [(0, .ref (za ω 0)), (4, .int y4)] [] σ) : ∀ (n : Nat) (y4 : Int32) (y5 : Int32), L_X8_more_6 N σ b1 b2 b3 K n y4 y5 = some r0 → G ω wM κ 6 [(0, .ref (za ω 0)), (1, .int b1), (2, .int b2), (3, .int b3), (4, .int y4), (5, .int y5)] [] σ := by
  intro n
  induction n with
  | zero => intro  y4 y5 hf; exact absurd (show none = some r0 from hf) (fun h => nomatch h)
  | succ n ih =>
    intro y4 y5 hf
    have hf : B_X8_more_6 N σ b1 b2 b3 K (L_X8_more_6 N σ b1 b2 b3 K n) y4 y5 = some r0 := hf
    unfold B_X8_more_6 at hf
    refine G_iload (pc' := 8) C dX8_more_6 5 rfl rfl ?_
    refine G_bipush (v := (7 : Int32)) (pc' := 10) C dX8_more_8 (by decide) rfl ?_
    refine G_icmp_ge (tgt := 89) (pc' := 13) C dX8_more_10 (by decide) rfl hf (fun hf => ?_) (fun hf => ?_)
    · refine G_sub (lv' := [(0, .ref (za ω 0)), (4, .int y4)]) C [0, 4] rfl ?_
      exact HK y4 y5 hf
    · refine G_aload_n (pc' := 14) C dX8_more_13 0 rfl rfl ?_
      refine G_iload (pc' := 16) C dX8_more_14 5 rfl rfl ?_
      refine G_iload_n (pc' := 17) C dX8_more_16 1 rfl rfl ?_
      refine G_iload_n (pc' := 18) C dX8_more_17 2 rfl rfl ?_
      refine G_callVp (pc' := 21) C [.int y5, .int b1, .int b2] (c_X8_placeOn ω N σ y5 b1 b2) sg_X8_placeOn gX8_more_X8_placeOn wM_0 rfl ⟨Nat.le_of_ble_eq_true rfl, Nat.le_of_ble_eq_true rfl⟩ rfl rfl (Nat.le_of_ble_eq_true rfl) dX8_more_18 rfl hf (fun v1 hf => ?_)
      refine G_istore (lv' := [(0, .ref (za ω 0)), (1, .int b1), (2, .int b2), (3, .int b3), (4, .int y4), (5, .int y5), (6, .int v1)]) (pc' := 23) C dX8_more_21 (by decide) [1, 2, 3, 4, 5, 6, 0] rfl rfl ?_
      refine G_aload_n (pc' := 24) C dX8_more_23 0 rfl rfl ?_
      refine G_iload (pc' := 26) C dX8_more_24 5 rfl rfl ?_
      refine G_iload_n (pc' := 27) C dX8_more_26 1 rfl rfl ?_
      refine G_iload_n (pc' := 28) C dX8_more_27 3 rfl rfl ?_
      refine G_callVp (pc' := 31) C [.int y5, .int b1, .int b3] (c_X8_placeOn ω N σ y5 b1 b3) sg_X8_placeOn gX8_more_X8_placeOn wM_0 rfl ⟨Nat.le_of_ble_eq_true rfl, Nat.le_of_ble_eq_true rfl⟩ rfl rfl (Nat.le_of_ble_eq_true rfl) dX8_more_28 rfl hf (fun v2 hf => ?_)
      refine G_istore (lv' := [(0, .ref (za ω 0)), (1, .int b1), (2, .int b2), (3, .int b3), (4, .int y4), (5, .int y5), (6, .int v1), (7, .int v2)]) (pc' := 33) C dX8_more_31 (by decide) [1, 2, 3, 4, 5, 6, 7, 0] rfl rfl ?_
      refine G_iload (pc' := 35) C dX8_more_33 6 rfl rfl ?_
      refine G_iconst (v := (-1 : Int32)) (pc' := 36) C dX8_more_35 (by decide) rfl ?_
      refine G_icmp_eq (tgt := 58) (pc' := 39) C dX8_more_36 (by decide) rfl hf (fun hf => ?_) (fun hf => ?_)
      · refine G_iload (pc' := 60) C dX8_more_58 7 rfl rfl ?_
        refine G_iconst (v := (-1 : Int32)) (pc' := 61) C dX8_more_60 (by decide) rfl ?_
        refine G_icmp_eq (tgt := 83) (pc' := 64) C dX8_more_61 (by decide) rfl hf (fun hf => ?_) (fun hf => ?_)
        · refine G_iincL (v := y5 + (1 : Int32)) (pc' := 86) C dX8_more_83 5 rfl rfl (by decide) [1, 2, 3, 4, 5, 0] (fun x3 => [(0, .ref (za ω 0)), (1, .int b1), (2, .int b2), (3, .int b3), (4, .int y4), (5, .int x3)]) (fun _ => rfl) rfl hf (fun x3 hf => ?_)
          refine G_goto (pc' := 6) C dX8_more_86 (by decide) ?_
          exact ih y4 x3 hf
        · refine G_iload (pc' := 66) C dX8_more_64 6 rfl rfl ?_
          refine G_iconst (v := (-1 : Int32)) (pc' := 67) C dX8_more_66 (by decide) rfl ?_
          refine G_icmp_eq (tgt := 77) (pc' := 70) C dX8_more_67 (by decide) rfl hf (fun hf => ?_) (fun hf => ?_)
          · refine G_iload (pc' := 79) C dX8_more_77 4 rfl rfl ?_
            refine G_iconst (v := (1 : Int32)) (pc' := 80) C dX8_more_79 (by decide) rfl ?_
            refine G_isub (pc' := 81) C dX8_more_80 rfl ?_
            refine G_nm hf (fun x4 hf => ?_)
            refine G_istore (lv' := [(0, .ref (za ω 0)), (1, .int b1), (2, .int b2), (3, .int b3), (4, .int x4), (5, .int y5)]) (pc' := 83) C dX8_more_81 (by decide) [1, 2, 3, 4, 0, 5] rfl rfl ?_
            refine G_iincL (v := y5 + (1 : Int32)) (pc' := 86) C dX8_more_83 5 rfl rfl (by decide) [1, 2, 3, 4, 5, 0] (fun x5 => [(0, .ref (za ω 0)), (1, .int b1), (2, .int b2), (3, .int b3), (4, .int x4), (5, .int x5)]) (fun _ => rfl) rfl hf (fun x5 hf => ?_)
            refine G_goto (pc' := 6) C dX8_more_86 (by decide) ?_
            exact ih x4 x5 hf
          · refine G_iload (pc' := 72) C dX8_more_70 7 rfl rfl ?_
            refine G_iload (pc' := 74) C dX8_more_72 6 rfl rfl ?_
            refine G_icmp_ge (tgt := 83) (pc' := 77) C dX8_more_74 (by decide) rfl hf (fun hf => ?_) (fun hf => ?_)
            · refine G_iincL (v := y5 + (1 : Int32)) (pc' := 86) C dX8_more_83 5 rfl rfl (by decide) [1, 2, 3, 4, 5, 0] (fun x6 => [(0, .ref (za ω 0)), (1, .int b1), (2, .int b2), (3, .int b3), (4, .int y4), (5, .int x6)]) (fun _ => rfl) rfl hf (fun x6 hf => ?_)
              refine G_goto (pc' := 6) C dX8_more_86 (by decide) ?_
              exact ih y4 x6 hf
            · refine G_iload (pc' := 79) C dX8_more_77 4 rfl rfl ?_
              refine G_iconst (v := (1 : Int32)) (pc' := 80) C dX8_more_79 (by decide) rfl ?_
              refine G_isub (pc' := 81) C dX8_more_80 rfl ?_
              refine G_nm hf (fun x7 hf => ?_)
              refine G_istore (lv' := [(0, .ref (za ω 0)), (1, .int b1), (2, .int b2), (3, .int b3), (4, .int x7), (5, .int y5)]) (pc' := 83) C dX8_more_81 (by decide) [1, 2, 3, 4, 0, 5] rfl rfl ?_
              refine G_iincL (v := y5 + (1 : Int32)) (pc' := 86) C dX8_more_83 5 rfl rfl (by decide) [1, 2, 3, 4, 5, 0] (fun x8 => [(0, .ref (za ω 0)), (1, .int b1), (2, .int b2), (3, .int b3), (4, .int x7), (5, .int x8)]) (fun _ => rfl) rfl hf (fun x8 hf => ?_)
              refine G_goto (pc' := 6) C dX8_more_86 (by decide) ?_
              exact ih x7 x8 hf
      · refine G_iload (pc' := 41) C dX8_more_39 7 rfl rfl ?_
        refine G_iconst (v := (-1 : Int32)) (pc' := 42) C dX8_more_41 (by decide) rfl ?_
        refine G_icmp_eq (tgt := 52) (pc' := 45) C dX8_more_42 (by decide) rfl hf (fun hf => ?_) (fun hf => ?_)
        · refine G_iload (pc' := 54) C dX8_more_52 4 rfl rfl ?_
          refine G_iconst (v := (1 : Int32)) (pc' := 55) C dX8_more_54 (by decide) rfl ?_
          refine G_iadd (pc' := 56) C dX8_more_55 rfl ?_
          refine G_nm hf (fun x9 hf => ?_)
          refine G_istore (lv' := [(0, .ref (za ω 0)), (1, .int b1), (2, .int b2), (3, .int b3), (4, .int x9), (5, .int y5), (6, .int v1), (7, .int v2)]) (pc' := 58) C dX8_more_56 (by decide) [1, 2, 3, 4, 0, 5, 6, 7] rfl rfl ?_
          refine G_iload (pc' := 60) C dX8_more_58 7 rfl rfl ?_
          refine G_iconst (v := (-1 : Int32)) (pc' := 61) C dX8_more_60 (by decide) rfl ?_
          refine G_icmp_eq (tgt := 83) (pc' := 64) C dX8_more_61 (by decide) rfl hf (fun hf => ?_) (fun hf => ?_)
          · refine G_iincL (v := y5 + (1 : Int32)) (pc' := 86) C dX8_more_83 5 rfl rfl (by decide) [1, 2, 3, 4, 5, 0] (fun x10 => [(0, .ref (za ω 0)), (1, .int b1), (2, .int b2), (3, .int b3), (4, .int x9), (5, .int x10)]) (fun _ => rfl) rfl hf (fun x10 hf => ?_)
            refine G_goto (pc' := 6) C dX8_more_86 (by decide) ?_
            exact ih x9 x10 hf
          · refine G_iload (pc' := 66) C dX8_more_64 6 rfl rfl ?_
            refine G_iconst (v := (-1 : Int32)) (pc' := 67) C dX8_more_66 (by decide) rfl ?_
            refine G_icmp_eq (tgt := 77) (pc' := 70) C dX8_more_67 (by decide) rfl hf (fun hf => ?_) (fun hf => ?_)
            · refine G_iload (pc' := 79) C dX8_more_77 4 rfl rfl ?_
              refine G_iconst (v := (1 : Int32)) (pc' := 80) C dX8_more_79 (by decide) rfl ?_
              refine G_isub (pc' := 81) C dX8_more_80 rfl ?_
              refine G_nm hf (fun x11 hf => ?_)
              refine G_istore (lv' := [(0, .ref (za ω 0)), (1, .int b1), (2, .int b2), (3, .int b3), (4, .int x11), (5, .int y5)]) (pc' := 83) C dX8_more_81 (by decide) [1, 2, 3, 4, 0, 5] rfl rfl ?_
              refine G_iincL (v := y5 + (1 : Int32)) (pc' := 86) C dX8_more_83 5 rfl rfl (by decide) [1, 2, 3, 4, 5, 0] (fun x12 => [(0, .ref (za ω 0)), (1, .int b1), (2, .int b2), (3, .int b3), (4, .int x11), (5, .int x12)]) (fun _ => rfl) rfl hf (fun x12 hf => ?_)
              refine G_goto (pc' := 6) C dX8_more_86 (by decide) ?_
              exact ih x11 x12 hf
            · refine G_iload (pc' := 72) C dX8_more_70 7 rfl rfl ?_
              refine G_iload (pc' := 74) C dX8_more_72 6 rfl rfl ?_
              refine G_icmp_ge (tgt := 83) (pc' := 77) C dX8_more_74 (by decide) rfl hf (fun hf => ?_) (fun hf => ?_)
              · refine G_iincL (v := y5 + (1 : Int32)) (pc' := 86) C dX8_more_83 5 rfl rfl (by decide) [1, 2, 3, 4, 5, 0] (fun x13 => [(0, .ref (za ω 0)), (1, .int b1), (2, .int b2), (3, .int b3), (4, .int x9), (5, .int x13)]) (fun _ => rfl) rfl hf (fun x13 hf => ?_)
                refine G_goto (pc' := 6) C dX8_more_86 (by decide) ?_
                exact ih x9 x13 hf
              · refine G_iload (pc' := 79) C dX8_more_77 4 rfl rfl ?_
                refine G_iconst (v := (1 : Int32)) (pc' := 80) C dX8_more_79 (by decide) rfl ?_
                refine G_isub (pc' := 81) C dX8_more_80 rfl ?_
                refine G_nm hf (fun x14 hf => ?_)
                refine G_istore (lv' := [(0, .ref (za ω 0)), (1, .int b1), (2, .int b2), (3, .int b3), (4, .int x14), (5, .int y5)]) (pc' := 83) C dX8_more_81 (by decide) [1, 2, 3, 4, 0, 5] rfl rfl ?_
                refine G_iincL (v := y5 + (1 : Int32)) (pc' := 86) C dX8_more_83 5 rfl rfl (by decide) [1, 2, 3, 4, 5, 0] (fun x15 => [(0, .ref (za ω 0)), (1, .int b1), (2, .int b2), (3, .int b3), (4, .int x14), (5, .int x15)]) (fun _ => rfl) rfl hf (fun x15 hf => ?_)
                refine G_goto (pc' := 6) C dX8_more_86 (by decide) ?_
                exact ih x14 x15 hf
        · refine G_iload (pc' := 47) C dX8_more_45 6 rfl rfl ?_
          refine G_iload (pc' := 49) C dX8_more_47 7 rfl rfl ?_
          refine G_icmp_ge (tgt := 58) (pc' := 52) C dX8_more_49 (by decide) rfl hf (fun hf => ?_) (fun hf => ?_)
          · refine G_iload (pc' := 60) C dX8_more_58 7 rfl rfl ?_
            refine G_iconst (v := (-1 : Int32)) (pc' := 61) C dX8_more_60 (by decide) rfl ?_
            refine G_icmp_eq (tgt := 83) (pc' := 64) C dX8_more_61 (by decide) rfl hf (fun hf => ?_) (fun hf => ?_)
            · refine G_iincL (v := y5 + (1 : Int32)) (pc' := 86) C dX8_more_83 5 rfl rfl (by decide) [1, 2, 3, 4, 5, 0] (fun x16 => [(0, .ref (za ω 0)), (1, .int b1), (2, .int b2), (3, .int b3), (4, .int y4), (5, .int x16)]) (fun _ => rfl) rfl hf (fun x16 hf => ?_)
              refine G_goto (pc' := 6) C dX8_more_86 (by decide) ?_
              exact ih y4 x16 hf
            · refine G_iload (pc' := 66) C dX8_more_64 6 rfl rfl ?_
              refine G_iconst (v := (-1 : Int32)) (pc' := 67) C dX8_more_66 (by decide) rfl ?_
              refine G_icmp_eq (tgt := 77) (pc' := 70) C dX8_more_67 (by decide) rfl hf (fun hf => ?_) (fun hf => ?_)
              · refine G_iload (pc' := 79) C dX8_more_77 4 rfl rfl ?_
                refine G_iconst (v := (1 : Int32)) (pc' := 80) C dX8_more_79 (by decide) rfl ?_
                refine G_isub (pc' := 81) C dX8_more_80 rfl ?_
                refine G_nm hf (fun x17 hf => ?_)
                refine G_istore (lv' := [(0, .ref (za ω 0)), (1, .int b1), (2, .int b2), (3, .int b3), (4, .int x17), (5, .int y5)]) (pc' := 83) C dX8_more_81 (by decide) [1, 2, 3, 4, 0, 5] rfl rfl ?_
                refine G_iincL (v := y5 + (1 : Int32)) (pc' := 86) C dX8_more_83 5 rfl rfl (by decide) [1, 2, 3, 4, 5, 0] (fun x18 => [(0, .ref (za ω 0)), (1, .int b1), (2, .int b2), (3, .int b3), (4, .int x17), (5, .int x18)]) (fun _ => rfl) rfl hf (fun x18 hf => ?_)
                refine G_goto (pc' := 6) C dX8_more_86 (by decide) ?_
                exact ih x17 x18 hf
              · refine G_iload (pc' := 72) C dX8_more_70 7 rfl rfl ?_
                refine G_iload (pc' := 74) C dX8_more_72 6 rfl rfl ?_
                refine G_icmp_ge (tgt := 83) (pc' := 77) C dX8_more_74 (by decide) rfl hf (fun hf => ?_) (fun hf => ?_)
                · refine G_iincL (v := y5 + (1 : Int32)) (pc' := 86) C dX8_more_83 5 rfl rfl (by decide) [1, 2, 3, 4, 5, 0] (fun x19 => [(0, .ref (za ω 0)), (1, .int b1), (2, .int b2), (3, .int b3), (4, .int y4), (5, .int x19)]) (fun _ => rfl) rfl hf (fun x19 hf => ?_)
                  refine G_goto (pc' := 6) C dX8_more_86 (by decide) ?_
                  exact ih y4 x19 hf
                · refine G_iload (pc' := 79) C dX8_more_77 4 rfl rfl ?_
                  refine G_iconst (v := (1 : Int32)) (pc' := 80) C dX8_more_79 (by decide) rfl ?_
                  refine G_isub (pc' := 81) C dX8_more_80 rfl ?_
                  refine G_nm hf (fun x20 hf => ?_)
                  refine G_istore (lv' := [(0, .ref (za ω 0)), (1, .int b1), (2, .int b2), (3, .int b3), (4, .int x20), (5, .int y5)]) (pc' := 83) C dX8_more_81 (by decide) [1, 2, 3, 4, 0, 5] rfl rfl ?_
                  refine G_iincL (v := y5 + (1 : Int32)) (pc' := 86) C dX8_more_83 5 rfl rfl (by decide) [1, 2, 3, 4, 5, 0] (fun x21 => [(0, .ref (za ω 0)), (1, .int b1), (2, .int b2), (3, .int b3), (4, .int x20), (5, .int x21)]) (fun _ => rfl) rfl hf (fun x21 hf => ?_)
                  refine G_goto (pc' := 6) C dX8_more_86 (by decide) ?_
                  exact ih x20 x21 hf
          · refine G_iload (pc' := 54) C dX8_more_52 4 rfl rfl ?_
            refine G_iconst (v := (1 : Int32)) (pc' := 55) C dX8_more_54 (by decide) rfl ?_
            refine G_iadd (pc' := 56) C dX8_more_55 rfl ?_
            refine G_nm hf (fun x22 hf => ?_)
            refine G_istore (lv' := [(0, .ref (za ω 0)), (1, .int b1), (2, .int b2), (3, .int b3), (4, .int x22), (5, .int y5), (6, .int v1), (7, .int v2)]) (pc' := 58) C dX8_more_56 (by decide) [1, 2, 3, 4, 0, 5, 6, 7] rfl rfl ?_
            refine G_iload (pc' := 60) C dX8_more_58 7 rfl rfl ?_
            refine G_iconst (v := (-1 : Int32)) (pc' := 61) C dX8_more_60 (by decide) rfl ?_
            refine G_icmp_eq (tgt := 83) (pc' := 64) C dX8_more_61 (by decide) rfl hf (fun hf => ?_) (fun hf => ?_)
            · refine G_iincL (v := y5 + (1 : Int32)) (pc' := 86) C dX8_more_83 5 rfl rfl (by decide) [1, 2, 3, 4, 5, 0] (fun x23 => [(0, .ref (za ω 0)), (1, .int b1), (2, .int b2), (3, .int b3), (4, .int x22), (5, .int x23)]) (fun _ => rfl) rfl hf (fun x23 hf => ?_)
              refine G_goto (pc' := 6) C dX8_more_86 (by decide) ?_
              exact ih x22 x23 hf
            · refine G_iload (pc' := 66) C dX8_more_64 6 rfl rfl ?_
              refine G_iconst (v := (-1 : Int32)) (pc' := 67) C dX8_more_66 (by decide) rfl ?_
              refine G_icmp_eq (tgt := 77) (pc' := 70) C dX8_more_67 (by decide) rfl hf (fun hf => ?_) (fun hf => ?_)
              · refine G_iload (pc' := 79) C dX8_more_77 4 rfl rfl ?_
                refine G_iconst (v := (1 : Int32)) (pc' := 80) C dX8_more_79 (by decide) rfl ?_
                refine G_isub (pc' := 81) C dX8_more_80 rfl ?_
                refine G_nm hf (fun x24 hf => ?_)
                refine G_istore (lv' := [(0, .ref (za ω 0)), (1, .int b1), (2, .int b2), (3, .int b3), (4, .int x24), (5, .int y5)]) (pc' := 83) C dX8_more_81 (by decide) [1, 2, 3, 4, 0, 5] rfl rfl ?_
                refine G_iincL (v := y5 + (1 : Int32)) (pc' := 86) C dX8_more_83 5 rfl rfl (by decide) [1, 2, 3, 4, 5, 0] (fun x25 => [(0, .ref (za ω 0)), (1, .int b1), (2, .int b2), (3, .int b3), (4, .int x24), (5, .int x25)]) (fun _ => rfl) rfl hf (fun x25 hf => ?_)
                refine G_goto (pc' := 6) C dX8_more_86 (by decide) ?_
                exact ih x24 x25 hf
              · refine G_iload (pc' := 72) C dX8_more_70 7 rfl rfl ?_
                refine G_iload (pc' := 74) C dX8_more_72 6 rfl rfl ?_
                refine G_icmp_ge (tgt := 83) (pc' := 77) C dX8_more_74 (by decide) rfl hf (fun hf => ?_) (fun hf => ?_)
                · refine G_iincL (v := y5 + (1 : Int32)) (pc' := 86) C dX8_more_83 5 rfl rfl (by decide) [1, 2, 3, 4, 5, 0] (fun x26 => [(0, .ref (za ω 0)), (1, .int b1), (2, .int b2), (3, .int b3), (4, .int x22), (5, .int x26)]) (fun _ => rfl) rfl hf (fun x26 hf => ?_)
                  refine G_goto (pc' := 6) C dX8_more_86 (by decide) ?_
                  exact ih x22 x26 hf
                · refine G_iload (pc' := 79) C dX8_more_77 4 rfl rfl ?_
                  refine G_iconst (v := (1 : Int32)) (pc' := 80) C dX8_more_79 (by decide) rfl ?_
                  refine G_isub (pc' := 81) C dX8_more_80 rfl ?_
                  refine G_nm hf (fun x27 hf => ?_)
                  refine G_istore (lv' := [(0, .ref (za ω 0)), (1, .int b1), (2, .int b2), (3, .int b3), (4, .int x27), (5, .int y5)]) (pc' := 83) C dX8_more_81 (by decide) [1, 2, 3, 4, 0, 5] rfl rfl ?_
                  refine G_iincL (v := y5 + (1 : Int32)) (pc' := 86) C dX8_more_83 5 rfl rfl (by decide) [1, 2, 3, 4, 5, 0] (fun x28 => [(0, .ref (za ω 0)), (1, .int b1), (2, .int b2), (3, .int b3), (4, .int x27), (5, .int x28)]) (fun _ => rfl) rfl hf (fun x28 hf => ?_)
                  refine G_goto (pc' := 6) C dX8_more_86 (by decide) ?_
                  exact ih x27 x28 hf
set_option maxHeartbeats 4000000 in
set_option maxRecDepth 100000 in
theorem c_X8_more (ω : ZO) (N : Nat) (σ : ZS) (a1 : Int32) (a2 : Int32) (a3 : Int32) : ZIp ω wM yX8_more wsX8_more rm_X8_more [.ref (za ω 0), .int a1, .int a2, .int a3] σ (f_X8_more N σ a1 a2 a3) := by
  intro r0 hf
  refine ZI.go (cc := cX8_more) (maxL := 8) (ret := (some .int)) (own := RX8) (lv := [(0, .ref (za ω 0)), (1, .int a1), (2, .int a2), (3, .int a3)]) (by decide) rfl rfl (Nat.le_of_ble_eq_true rfl) rfl (fun κ C hR => ?_)
  unfold f_X8_more at hf
  refine G_iconst (v := (0 : Int32)) (pc' := 1) C dX8_more_0 (by decide) rfl ?_
  refine G_istore (lv' := [(0, .ref (za ω 0)), (1, .int a1), (2, .int a2), (3, .int a3), (4, .int (0 : Int32))]) (pc' := 3) C dX8_more_1 (by decide) [1, 2, 3, 4, 0] rfl rfl ?_
  refine G_iconst (v := (0 : Int32)) (pc' := 4) C dX8_more_3 (by decide) rfl ?_
  refine G_istore (lv' := [(0, .ref (za ω 0)), (1, .int a1), (2, .int a2), (3, .int a3), (4, .int (0 : Int32)), (5, .int (0 : Int32))]) (pc' := 6) C dX8_more_4 (by decide) [1, 2, 3, 4, 5, 0] rfl rfl ?_
  refine w_X8_more_6 C hR (fun y29 y30 hf => ?_) N (0 : Int32) (0 : Int32) hf
  refine G_iload (pc' := 91) C dX8_more_89 1 rfl rfl ?_
  exact G_iret C hR dX8_more_91 ⟨Option.some.inj hf, rfl⟩
theorem iu_X8_weighs_X8 : ∀ w ∈ wsX80, w ∈ wsX8_weighs := by decide +kernel
theorem lk_X8_weighs_167 : Cond.fieldLink RX8 167 "PrizeDeskModel" "listMany" "I" ∈ wsX8_weighs := by decide +kernel
theorem lk_X8_weighs_78 : Cond.fieldLink RX8 78 "PrizeDeskModel" "points" "[I" ∈ wsX8_weighs := by decide +kernel
theorem lk_X8_weighs_81 : Cond.fieldLink RX8 81 "PrizeDeskModel" "score" "[I" ∈ wsX8_weighs := by decide +kernel
theorem lk_X8_weighs_72 : Cond.fieldLink RX8 72 "PrizeDeskModel" "list" "[I" ∈ wsX8_weighs := by decide +kernel
abbrev rm_X8_weighs : Room := { frames := 3, cells := 0, slots := 0, locals := 77 }
theorem sg_X8_weighs : ZG yX8_weighs wsX8_weighs cX8_weighs 6 none RX8 1 rm_X8_weighs := ⟨⟨_, rfl⟩, by decide +kernel, rfl, rfl⟩
set_option maxHeartbeats 4000000 in
set_option maxRecDepth 100000 in
theorem w_X8_weighs_34 {ω : ZO} {κ : ZK} {N : Nat} {b1 : Int32} {b2 : Int32} {b3 : Int32} {K : Int32 → ZS → Option (ZS)} {r0 : ZS} (C : CX ω wM κ cX8_weighs wsX8_weighs RX8 none 6 rm_X8_weighs) (hR : zRV ω wM κ (fun τ => τ = r0)) (HK : ∀ (y4 : Int32) (τ : ZS), K y4 τ = some r0 → G ω wM κ 87 [(0, .ref (za ω 0)), (1, .int b1), (2, .int b2), (3, .int b3)] [] τ) : ∀ (n : Nat) (y4 : Int32) (τ : ZS), L_X8_weighs_34 N b1 b2 b3 K n y4 τ = some r0 → G ω wM κ 34 [(0, .ref (za ω 0)), (1, .int b1), (2, .int b2), (3, .int b3), (4, .int y4)] [] τ := by
  intro n
  induction n with
  | zero => intro  y4 τ hf; exact absurd (show none = some r0 from hf) (fun h => nomatch h)
  | succ n ih =>
    intro y4 τ hf
    have hf : B_X8_weighs_34 N b1 b2 b3 K (L_X8_weighs_34 N b1 b2 b3 K n) y4 τ = some r0 := hf
    unfold B_X8_weighs_34 at hf
    refine G_iload (pc' := 36) C dX8_weighs_34 4 rfl rfl ?_
    refine G_bipush (v := (7 : Int32)) (pc' := 38) C dX8_weighs_36 (by decide) rfl ?_
    refine G_icmp_ge (tgt := 87) (pc' := 41) C dX8_weighs_38 (by decide) rfl hf (fun hf => ?_) (fun hf => ?_)
    · refine G_sub (lv' := [(0, .ref (za ω 0)), (1, .int b1), (2, .int b2), (3, .int b3)]) C [0, 1, 2, 3] rfl ?_
      exact HK y4 τ hf
    · refine G_aload_n (pc' := 42) C dX8_weighs_41 0 rfl rfl ?_
      refine G_iload (pc' := 44) C dX8_weighs_42 4 rfl rfl ?_
      refine G_iload_n (pc' := 45) C dX8_weighs_44 1 rfl rfl ?_
      refine G_iload_n (pc' := 46) C dX8_weighs_45 3 rfl rfl ?_
      refine G_callVp (pc' := 49) C [.int y4, .int b1, .int b3] (c_X8_placeOn ω N τ y4 b1 b3) sg_X8_placeOn gX8_weighs_X8_placeOn wM_0 rfl ⟨Nat.le_of_ble_eq_true rfl, Nat.le_of_ble_eq_true rfl⟩ rfl rfl (Nat.le_of_ble_eq_true rfl) dX8_weighs_46 rfl hf (fun v4 hf => ?_)
      refine G_istore (lv' := [(0, .ref (za ω 0)), (1, .int b1), (2, .int b2), (3, .int b3), (4, .int y4), (5, .int v4)]) (pc' := 51) C dX8_weighs_49 (by decide) [1, 2, 3, 4, 5, 0] rfl rfl ?_
      refine G_aload_n (pc' := 52) C dX8_weighs_51 0 rfl rfl ?_
      refine G_get (pc' := 55) C wM_0 rfl 26 (by decide) rfl iu_X8_weighs_X8 lk_X8_weighs_78 dX8_weighs_52 rfl ?_
      refine G_iload_n (pc' := 56) C dX8_weighs_55 3 rfl rfl ?_
      refine G_aload_n (pc' := 57) C dX8_weighs_56 0 rfl rfl ?_
      refine G_get (pc' := 60) C wM_0 rfl 26 (by decide) rfl iu_X8_weighs_X8 lk_X8_weighs_78 dX8_weighs_57 rfl ?_
      refine G_iload_n (pc' := 61) C dX8_weighs_60 3 rfl rfl ?_
      refine G_iald (pc' := 62) C wM_23 dX8_weighs_61 rfl hf (fun v5 hf => ?_)
      refine G_iload (pc' := 64) C dX8_weighs_62 5 rfl rfl ?_
      refine G_iconst (v := (-1 : Int32)) (pc' := 65) C dX8_weighs_64 (by decide) rfl ?_
      refine G_icmp_ne (tgt := 72) (pc' := 68) C dX8_weighs_65 (by decide) rfl hf (fun hf => ?_) (fun hf => ?_)
      · refine G_iconst (v := (0 : Int32)) (pc' := 69) C dX8_weighs_68 (by decide) rfl ?_
        refine G_goto (pc' := 79) C dX8_weighs_69 (by decide) ?_
        refine G_iadd (pc' := 80) C dX8_weighs_79 rfl ?_
        refine G_iast (pc' := 81) C wM_23 wM_s23 dX8_weighs_80 rfl hf (fun s6 hf => ?_)
        refine G_iincL (v := y4 + (1 : Int32)) (pc' := 84) C dX8_weighs_81 4 rfl rfl (by decide) [1, 2, 3, 4, 0] (fun x7 => [(0, .ref (za ω 0)), (1, .int b1), (2, .int b2), (3, .int b3), (4, .int x7)]) (fun _ => rfl) rfl hf (fun x7 hf => ?_)
        refine G_goto (pc' := 34) C dX8_weighs_84 (by decide) ?_
        exact ih x7 s6 hf
      · refine G_aload_n (pc' := 73) C dX8_weighs_72 0 rfl rfl ?_
        refine G_get (pc' := 76) C wM_0 rfl 29 (by decide) rfl iu_X8_weighs_X8 lk_X8_weighs_167 dX8_weighs_73 rfl ?_
        refine G_iload (pc' := 78) C dX8_weighs_76 5 rfl rfl ?_
        refine G_isub (pc' := 79) C dX8_weighs_78 rfl ?_
        refine G_iadd (pc' := 80) C dX8_weighs_79 rfl ?_
        refine G_iast (pc' := 81) C wM_23 wM_s23 dX8_weighs_80 rfl hf (fun s8 hf => ?_)
        refine G_iincL (v := y4 + (1 : Int32)) (pc' := 84) C dX8_weighs_81 4 rfl rfl (by decide) [1, 2, 3, 4, 0] (fun x9 => [(0, .ref (za ω 0)), (1, .int b1), (2, .int b2), (3, .int b3), (4, .int x9)]) (fun _ => rfl) rfl hf (fun x9 hf => ?_)
        refine G_goto (pc' := 34) C dX8_weighs_84 (by decide) ?_
        exact ih x9 s8 hf
set_option maxHeartbeats 4000000 in
set_option maxRecDepth 100000 in
theorem w_X8_weighs_90 {ω : ZO} {κ : ZK} {N : Nat} {b1 : Int32} {b2 : Int32} {b3 : Int32} {K : Int32 → ZS → Option (ZS)} {r0 : ZS} (C : CX ω wM κ cX8_weighs wsX8_weighs RX8 none 6 rm_X8_weighs) (hR : zRV ω wM κ (fun τ => τ = r0)) (HK : ∀ (y4 : Int32) (τ : ZS), K y4 τ = some r0 → G ω wM κ 167 [(0, .ref (za ω 0)), (1, .int b1), (2, .int b2)] [] τ) : ∀ (n : Nat) (y4 : Int32) (τ : ZS), L_X8_weighs_90 N b1 b2 b3 K n y4 τ = some r0 → G ω wM κ 90 [(0, .ref (za ω 0)), (1, .int b1), (2, .int b2), (3, .int b3), (4, .int y4)] [] τ := by
  intro n
  induction n with
  | zero => intro  y4 τ hf; exact absurd (show none = some r0 from hf) (fun h => nomatch h)
  | succ n ih =>
    intro y4 τ hf
    have hf : B_X8_weighs_90 N b1 b2 b3 K (L_X8_weighs_90 N b1 b2 b3 K n) y4 τ = some r0 := hf
    unfold B_X8_weighs_90 at hf
    refine G_iload (pc' := 92) C dX8_weighs_90 4 rfl rfl ?_
    refine G_aload_n (pc' := 93) C dX8_weighs_92 0 rfl rfl ?_
    refine G_get (pc' := 96) C wM_0 rfl 29 (by decide) rfl iu_X8_weighs_X8 lk_X8_weighs_167 dX8_weighs_93 rfl ?_
    refine G_icmp_ge (tgt := 167) (pc' := 99) C dX8_weighs_96 (by decide) rfl hf (fun hf => ?_) (fun hf => ?_)
    · refine G_sub (lv' := [(0, .ref (za ω 0)), (1, .int b1), (2, .int b2)]) C [0, 1, 2] rfl ?_
      exact HK y4 τ hf
    · refine G_aload_n (pc' := 100) C dX8_weighs_99 0 rfl rfl ?_
      refine G_get (pc' := 103) C wM_0 rfl 24 (by decide) rfl iu_X8_weighs_X8 lk_X8_weighs_72 dX8_weighs_100 rfl ?_
      refine G_iload (pc' := 105) C dX8_weighs_103 4 rfl rfl ?_
      refine G_iald (pc' := 106) C wM_21 dX8_weighs_105 rfl hf (fun v12 hf => ?_)
      refine G_iload_n (pc' := 107) C dX8_weighs_106 3 rfl rfl ?_
      refine G_icmp_ne (tgt := 114) (pc' := 110) C dX8_weighs_107 (by decide) rfl hf (fun hf => ?_) (fun hf => ?_)
      · refine G_iconst (v := (0 : Int32)) (pc' := 111) C dX8_weighs_110 (by decide) rfl ?_
        refine G_goto (pc' := 127) C dX8_weighs_111 (by decide) ?_
        refine G_istore (lv' := [(0, .ref (za ω 0)), (1, .int b1), (2, .int b2), (3, .int b3), (4, .int y4), (5, .int (0 : Int32))]) (pc' := 129) C dX8_weighs_127 (by decide) [1, 2, 3, 4, 5, 0] rfl rfl ?_
        refine G_aload_n (pc' := 130) C dX8_weighs_129 0 rfl rfl ?_
        refine G_get (pc' := 133) C wM_0 rfl 27 (by decide) rfl iu_X8_weighs_X8 lk_X8_weighs_81 dX8_weighs_130 rfl ?_
        refine G_iload_n (pc' := 134) C dX8_weighs_133 3 rfl rfl ?_
        refine G_aload_n (pc' := 135) C dX8_weighs_134 0 rfl rfl ?_
        refine G_get (pc' := 138) C wM_0 rfl 27 (by decide) rfl iu_X8_weighs_X8 lk_X8_weighs_81 dX8_weighs_135 rfl ?_
        refine G_iload_n (pc' := 139) C dX8_weighs_138 3 rfl rfl ?_
        refine G_iald (pc' := 140) C wM_24 dX8_weighs_139 rfl hf (fun v13 hf => ?_)
        refine G_iload (pc' := 142) C dX8_weighs_140 5 rfl rfl ?_
        refine G_if_le (tgt := 149) (pc' := 145) C dX8_weighs_142 (by decide) rfl hf (fun hf => ?_) (fun hf => ?_)
        · refine G_iload (pc' := 151) C dX8_weighs_149 5 rfl rfl ?_
          refine G_if_ge (tgt := 158) (pc' := 154) C dX8_weighs_151 (by decide) rfl hf (fun hf => ?_) (fun hf => ?_)
          · refine G_iconst (v := (0 : Int32)) (pc' := 159) C dX8_weighs_158 (by decide) rfl ?_
            refine G_iadd (pc' := 160) C dX8_weighs_159 rfl ?_
            refine G_iast (pc' := 161) C wM_24 wM_s24 dX8_weighs_160 rfl hf (fun s14 hf => ?_)
            refine G_iincL (v := y4 + (1 : Int32)) (pc' := 164) C dX8_weighs_161 4 rfl rfl (by decide) [1, 2, 3, 4, 0] (fun x15 => [(0, .ref (za ω 0)), (1, .int b1), (2, .int b2), (3, .int b3), (4, .int x15)]) (fun _ => rfl) rfl hf (fun x15 hf => ?_)
            refine G_goto (pc' := 90) C dX8_weighs_164 (by decide) ?_
            exact ih x15 s14 hf
          · refine G_iconst (v := (-1 : Int32)) (pc' := 155) C dX8_weighs_154 (by decide) rfl ?_
            refine G_goto (pc' := 159) C dX8_weighs_155 (by decide) ?_
            refine G_iadd (pc' := 160) C dX8_weighs_159 rfl ?_
            refine G_iast (pc' := 161) C wM_24 wM_s24 dX8_weighs_160 rfl hf (fun s16 hf => ?_)
            refine G_iincL (v := y4 + (1 : Int32)) (pc' := 164) C dX8_weighs_161 4 rfl rfl (by decide) [1, 2, 3, 4, 0] (fun x17 => [(0, .ref (za ω 0)), (1, .int b1), (2, .int b2), (3, .int b3), (4, .int x17)]) (fun _ => rfl) rfl hf (fun x17 hf => ?_)
            refine G_goto (pc' := 90) C dX8_weighs_164 (by decide) ?_
            exact ih x17 s16 hf
        · refine G_iconst (v := (1 : Int32)) (pc' := 146) C dX8_weighs_145 (by decide) rfl ?_
          refine G_goto (pc' := 159) C dX8_weighs_146 (by decide) ?_
          refine G_iadd (pc' := 160) C dX8_weighs_159 rfl ?_
          refine G_iast (pc' := 161) C wM_24 wM_s24 dX8_weighs_160 rfl hf (fun s18 hf => ?_)
          refine G_iincL (v := y4 + (1 : Int32)) (pc' := 164) C dX8_weighs_161 4 rfl rfl (by decide) [1, 2, 3, 4, 0] (fun x19 => [(0, .ref (za ω 0)), (1, .int b1), (2, .int b2), (3, .int b3), (4, .int x19)]) (fun _ => rfl) rfl hf (fun x19 hf => ?_)
          refine G_goto (pc' := 90) C dX8_weighs_164 (by decide) ?_
          exact ih x19 s18 hf
      · refine G_aload_n (pc' := 115) C dX8_weighs_114 0 rfl rfl ?_
        refine G_iload_n (pc' := 116) C dX8_weighs_115 1 rfl rfl ?_
        refine G_iload_n (pc' := 117) C dX8_weighs_116 3 rfl rfl ?_
        refine G_aload_n (pc' := 118) C dX8_weighs_117 0 rfl rfl ?_
        refine G_get (pc' := 121) C wM_0 rfl 24 (by decide) rfl iu_X8_weighs_X8 lk_X8_weighs_72 dX8_weighs_118 rfl ?_
        refine G_iload (pc' := 123) C dX8_weighs_121 4 rfl rfl ?_
        refine G_iald (pc' := 124) C wM_21 dX8_weighs_123 rfl hf (fun v20 hf => ?_)
        refine G_callVp (pc' := 127) C [.int b1, .int b3, .int v20] (c_X8_more ω N τ b1 b3 v20) sg_X8_more gX8_weighs_X8_more wM_0 rfl ⟨Nat.le_of_ble_eq_true rfl, Nat.le_of_ble_eq_true rfl⟩ rfl rfl (Nat.le_of_ble_eq_true rfl) dX8_weighs_124 rfl hf (fun v21 hf => ?_)
        refine G_istore (lv' := [(0, .ref (za ω 0)), (1, .int b1), (2, .int b2), (3, .int b3), (4, .int y4), (5, .int v21)]) (pc' := 129) C dX8_weighs_127 (by decide) [1, 2, 3, 4, 5, 0] rfl rfl ?_
        refine G_aload_n (pc' := 130) C dX8_weighs_129 0 rfl rfl ?_
        refine G_get (pc' := 133) C wM_0 rfl 27 (by decide) rfl iu_X8_weighs_X8 lk_X8_weighs_81 dX8_weighs_130 rfl ?_
        refine G_iload_n (pc' := 134) C dX8_weighs_133 3 rfl rfl ?_
        refine G_aload_n (pc' := 135) C dX8_weighs_134 0 rfl rfl ?_
        refine G_get (pc' := 138) C wM_0 rfl 27 (by decide) rfl iu_X8_weighs_X8 lk_X8_weighs_81 dX8_weighs_135 rfl ?_
        refine G_iload_n (pc' := 139) C dX8_weighs_138 3 rfl rfl ?_
        refine G_iald (pc' := 140) C wM_24 dX8_weighs_139 rfl hf (fun v22 hf => ?_)
        refine G_iload (pc' := 142) C dX8_weighs_140 5 rfl rfl ?_
        refine G_if_le (tgt := 149) (pc' := 145) C dX8_weighs_142 (by decide) rfl hf (fun hf => ?_) (fun hf => ?_)
        · refine G_iload (pc' := 151) C dX8_weighs_149 5 rfl rfl ?_
          refine G_if_ge (tgt := 158) (pc' := 154) C dX8_weighs_151 (by decide) rfl hf (fun hf => ?_) (fun hf => ?_)
          · refine G_iconst (v := (0 : Int32)) (pc' := 159) C dX8_weighs_158 (by decide) rfl ?_
            refine G_iadd (pc' := 160) C dX8_weighs_159 rfl ?_
            refine G_iast (pc' := 161) C wM_24 wM_s24 dX8_weighs_160 rfl hf (fun s23 hf => ?_)
            refine G_iincL (v := y4 + (1 : Int32)) (pc' := 164) C dX8_weighs_161 4 rfl rfl (by decide) [1, 2, 3, 4, 0] (fun x24 => [(0, .ref (za ω 0)), (1, .int b1), (2, .int b2), (3, .int b3), (4, .int x24)]) (fun _ => rfl) rfl hf (fun x24 hf => ?_)
            refine G_goto (pc' := 90) C dX8_weighs_164 (by decide) ?_
            exact ih x24 s23 hf
          · refine G_iconst (v := (-1 : Int32)) (pc' := 155) C dX8_weighs_154 (by decide) rfl ?_
            refine G_goto (pc' := 159) C dX8_weighs_155 (by decide) ?_
            refine G_iadd (pc' := 160) C dX8_weighs_159 rfl ?_
            refine G_iast (pc' := 161) C wM_24 wM_s24 dX8_weighs_160 rfl hf (fun s25 hf => ?_)
            refine G_iincL (v := y4 + (1 : Int32)) (pc' := 164) C dX8_weighs_161 4 rfl rfl (by decide) [1, 2, 3, 4, 0] (fun x26 => [(0, .ref (za ω 0)), (1, .int b1), (2, .int b2), (3, .int b3), (4, .int x26)]) (fun _ => rfl) rfl hf (fun x26 hf => ?_)
            refine G_goto (pc' := 90) C dX8_weighs_164 (by decide) ?_
            exact ih x26 s25 hf
        · refine G_iconst (v := (1 : Int32)) (pc' := 146) C dX8_weighs_145 (by decide) rfl ?_
          refine G_goto (pc' := 159) C dX8_weighs_146 (by decide) ?_
          refine G_iadd (pc' := 160) C dX8_weighs_159 rfl ?_
          refine G_iast (pc' := 161) C wM_24 wM_s24 dX8_weighs_160 rfl hf (fun s27 hf => ?_)
          refine G_iincL (v := y4 + (1 : Int32)) (pc' := 164) C dX8_weighs_161 4 rfl rfl (by decide) [1, 2, 3, 4, 0] (fun x28 => [(0, .ref (za ω 0)), (1, .int b1), (2, .int b2), (3, .int b3), (4, .int x28)]) (fun _ => rfl) rfl hf (fun x28 hf => ?_)
          refine G_goto (pc' := 90) C dX8_weighs_164 (by decide) ?_
          exact ih x28 s27 hf
set_option maxHeartbeats 4000000 in
set_option maxRecDepth 100000 in
theorem w_X8_weighs_2 {ω : ZO} {κ : ZK} {N : Nat} {b1 : Int32} {K : Int32 → ZS → Option (ZS)} {r0 : ZS} (C : CX ω wM κ cX8_weighs wsX8_weighs RX8 none 6 rm_X8_weighs) (hR : zRV ω wM κ (fun τ => τ = r0)) (HK : ∀ (y2 : Int32) (τ : ZS), K y2 τ = some r0 → G ω wM κ 173 [(0, .ref (za ω 0))] [] τ) : ∀ (n : Nat) (y2 : Int32) (τ : ZS), L_X8_weighs_2 N b1 K n y2 τ = some r0 → G ω wM κ 2 [(0, .ref (za ω 0)), (1, .int b1), (2, .int y2)] [] τ := by
  intro n
  induction n with
  | zero => intro  y2 τ hf; exact absurd (show none = some r0 from hf) (fun h => nomatch h)
  | succ n ih =>
    intro y2 τ hf
    have hf : B_X8_weighs_2 N b1 K (L_X8_weighs_2 N b1 K n) y2 τ = some r0 := hf
    unfold B_X8_weighs_2 at hf
    refine G_iload_n (pc' := 3) C dX8_weighs_2 2 rfl rfl ?_
    refine G_aload_n (pc' := 4) C dX8_weighs_3 0 rfl rfl ?_
    refine G_get (pc' := 7) C wM_0 rfl 29 (by decide) rfl iu_X8_weighs_X8 lk_X8_weighs_167 dX8_weighs_4 rfl ?_
    refine G_icmp_ge (tgt := 173) (pc' := 10) C dX8_weighs_7 (by decide) rfl hf (fun hf => ?_) (fun hf => ?_)
    · refine G_sub (lv' := [(0, .ref (za ω 0))]) C [0] rfl ?_
      exact HK y2 τ hf
    · refine G_aload_n (pc' := 11) C dX8_weighs_10 0 rfl rfl ?_
      refine G_get (pc' := 14) C wM_0 rfl 24 (by decide) rfl iu_X8_weighs_X8 lk_X8_weighs_72 dX8_weighs_11 rfl ?_
      refine G_iload_n (pc' := 15) C dX8_weighs_14 2 rfl rfl ?_
      refine G_iald (pc' := 16) C wM_21 dX8_weighs_15 rfl hf (fun v1 hf => ?_)
      refine G_istore_n (lv' := [(0, .ref (za ω 0)), (1, .int b1), (2, .int y2), (3, .int v1)]) (pc' := 17) C dX8_weighs_16 (by decide) [1, 2, 3, 0] rfl rfl ?_
      refine G_aload_n (pc' := 18) C dX8_weighs_17 0 rfl rfl ?_
      refine G_get (pc' := 21) C wM_0 rfl 26 (by decide) rfl iu_X8_weighs_X8 lk_X8_weighs_78 dX8_weighs_18 rfl ?_
      refine G_iload_n (pc' := 22) C dX8_weighs_21 3 rfl rfl ?_
      refine G_iconst (v := (0 : Int32)) (pc' := 23) C dX8_weighs_22 (by decide) rfl ?_
      refine G_iast (pc' := 24) C wM_23 wM_s23 dX8_weighs_23 rfl hf (fun s2 hf => ?_)
      refine G_aload_n (pc' := 25) C dX8_weighs_24 0 rfl rfl ?_
      refine G_get (pc' := 28) C wM_0 rfl 27 (by decide) rfl iu_X8_weighs_X8 lk_X8_weighs_81 dX8_weighs_25 rfl ?_
      refine G_iload_n (pc' := 29) C dX8_weighs_28 3 rfl rfl ?_
      refine G_iconst (v := (0 : Int32)) (pc' := 30) C dX8_weighs_29 (by decide) rfl ?_
      refine G_iast (pc' := 31) C wM_24 wM_s24 dX8_weighs_30 rfl hf (fun s3 hf => ?_)
      refine G_iconst (v := (0 : Int32)) (pc' := 32) C dX8_weighs_31 (by decide) rfl ?_
      refine G_istore (lv' := [(0, .ref (za ω 0)), (1, .int b1), (2, .int y2), (3, .int v1), (4, .int (0 : Int32))]) (pc' := 34) C dX8_weighs_32 (by decide) [1, 2, 3, 4, 0] rfl rfl ?_
      refine w_X8_weighs_34 C hR (fun y10 s11 hf => ?_) N (0 : Int32) s3 hf
      refine G_iconst (v := (0 : Int32)) (pc' := 88) C dX8_weighs_87 (by decide) rfl ?_
      refine G_istore (lv' := [(0, .ref (za ω 0)), (1, .int b1), (2, .int y2), (3, .int v1), (4, .int (0 : Int32))]) (pc' := 90) C dX8_weighs_88 (by decide) [1, 2, 3, 4, 0] rfl rfl ?_
      refine w_X8_weighs_90 C hR (fun y29 s30 hf => ?_) N (0 : Int32) s11 hf
      refine G_iincL (v := y2 + (1 : Int32)) (pc' := 170) C dX8_weighs_167 2 rfl rfl (by decide) [1, 2, 0] (fun x31 => [(0, .ref (za ω 0)), (1, .int b1), (2, .int x31)]) (fun _ => rfl) rfl hf (fun x31 hf => ?_)
      refine G_goto (pc' := 2) C dX8_weighs_170 (by decide) ?_
      exact ih x31 s30 hf
set_option maxHeartbeats 4000000 in
set_option maxRecDepth 100000 in
theorem c_X8_weighs (ω : ZO) (N : Nat) (σ : ZS) (a1 : Int32) : ZVs ω wM yX8_weighs wsX8_weighs rm_X8_weighs [.ref (za ω 0), .int a1] σ (f_X8_weighs N σ a1) := by
  intro r0 hf
  refine ZV.go (cc := cX8_weighs) (maxL := 6) (ret := none) (own := RX8) (lv := [(0, .ref (za ω 0)), (1, .int a1)]) (by decide) rfl rfl (Nat.le_of_ble_eq_true rfl) rfl (fun κ C hR => ?_)
  unfold f_X8_weighs at hf
  refine G_iconst (v := (0 : Int32)) (pc' := 1) C dX8_weighs_0 (by decide) rfl ?_
  refine G_istore_n (lv' := [(0, .ref (za ω 0)), (1, .int a1), (2, .int (0 : Int32))]) (pc' := 2) C dX8_weighs_1 (by decide) [1, 2, 0] rfl rfl ?_
  refine w_X8_weighs_2 C hR (fun y32 s33 hf => ?_) N (0 : Int32) σ hf
  exact G_vret C hR dX8_weighs_173 (Option.some.inj hf)
