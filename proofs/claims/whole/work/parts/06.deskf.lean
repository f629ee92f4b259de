theorem iu_X7_look_X7 : ∀ w ∈ wsX70, w ∈ wsX7_look := by decide +kernel
theorem lk_X7_look_19 : Cond.fieldLink RX7 19 "PrizeDesk" "ruleBook" "LPrizeDesk$Rules;" ∈ wsX7_look := by decide +kernel
theorem lk_X7_look_26 : Cond.fieldLink RX7 26 "PrizeDesk" "shelf" "LPrizeDesk$Shelf;" ∈ wsX7_look := by decide +kernel
theorem lk_X7_look_33 : Cond.fieldLink RX7 33 "PrizeDesk" "panel" "LPrizeDesk$Panel;" ∈ wsX7_look := by decide +kernel
abbrev rm_X7_look : Room := { frames := 4, cells := 0, slots := 0, locals := 89 }
theorem sg_X7_look : ZG yX7_look wsX7_look cX7_look 3 (some .int) RX7 2 rm_X7_look := ⟨⟨_, rfl⟩, by decide +kernel, rfl, rfl⟩
set_option maxHeartbeats 4000000 in
set_option maxRecDepth 100000 in
theorem c_X7_look (ω : ZO) (N : Nat) (σ : ZS) (a1 : Int32) (a2 : Int32) : ZIs ω wD yX7_look wsX7_look rm_X7_look [.ref (za ω 0), .int a1, .int a2] σ (f_X7_look N σ a1 a2) := by
  intro r0 hf
  refine ZI.go (cc := cX7_look) (maxL := 3) (ret := (some .int)) (own := RX7) (lv := [(0, .ref (za ω 0)), (1, .int a1), (2, .int a2)]) (by decide) rfl rfl (Nat.le_of_ble_eq_true rfl) rfl (fun κ C hR => ?_)
  unfold f_X7_look at hf
  refine G_aload_n (pc' := 1) C dX7_look_0 0 rfl rfl ?_
  refine G_get (pc' := 4) C wD_0 rfl 2 (by decide) rfl iu_X7_look_X7 lk_X7_look_26 dX7_look_1 rfl ?_
  refine G_iload_n (pc' := 5) C dX7_look_4 1 rfl rfl ?_
  refine G_callVp (pc' := 8) C [.int a1] (c_X4_has ω N σ a1) sg_X4_has gX7_look_X4_has wD_6 rfl ⟨Nat.le_of_ble_eq_true rfl, Nat.le_of_ble_eq_true rfl⟩ rfl rfl (Nat.le_of_ble_eq_true rfl) dX7_look_5 rfl hf (fun v1 hf => ?_)
  refine G_if_ne (tgt := 13) (pc' := 11) C dX7_look_8 (by decide) rfl hf (fun hf => ?_) (fun hf => ?_)
  · refine G_iconst (v := (-1 : Int32)) (pc' := 12) C dX7_look_11 (by decide) rfl ?_
    exact G_iret C hR dX7_look_12 (Option.some.inj hf)
  · refine G_iload_n (pc' := 14) C dX7_look_13 2 rfl rfl ?_
    refine G_bipush (v := (10 : Int32)) (pc' := 16) C dX7_look_14 (by decide) rfl ?_
    refine G_isub (pc' := 17) C dX7_look_16 rfl ?_
    refine G_callSp (pc' := 20) C [.int (a2 - (10 : Int32))] (c_X7_isJudge ω N σ (a2 - (10 : Int32))) sg_X7_isJudge gX7_look_X7_isJudge ⟨Nat.le_of_ble_eq_true rfl, Nat.le_of_ble_eq_true rfl⟩ rfl rfl (Nat.le_of_ble_eq_true rfl) dX7_look_17 rfl hf (fun v2 hf => ?_)
    refine G_if_eq (tgt := 36) (pc' := 23) C dX7_look_20 (by decide) rfl hf (fun hf => ?_) (fun hf => ?_)
    · refine G_iload_n (pc' := 37) C dX7_look_36 2 rfl rfl ?_
      refine G_bipush (v := (20 : Int32)) (pc' := 39) C dX7_look_37 (by decide) rfl ?_
      refine G_isub (pc' := 40) C dX7_look_39 rfl ?_
      refine G_callSp (pc' := 43) C [.int (a2 - (20 : Int32))] (c_X7_isJudge ω N σ (a2 - (20 : Int32))) sg_X7_isJudge gX7_look_X7_isJudge ⟨Nat.le_of_ble_eq_true rfl, Nat.le_of_ble_eq_true rfl⟩ rfl rfl (Nat.le_of_ble_eq_true rfl) dX7_look_40 rfl hf (fun v3 hf => ?_)
      refine G_if_eq (tgt := 62) (pc' := 46) C dX7_look_43 (by decide) rfl hf (fun hf => ?_) (fun hf => ?_)
      · refine G_iload_n (pc' := 63) C dX7_look_62 2 rfl rfl ?_
        by_cases hk0 : a2 = (0 : Int32)
        · rw [if_pos hk0] at hf
          refine G_tIn (k := (0 : Int32)) (off := 45) (tgt := 108) C hk0 dX7_look_63 (by decide) (by decide) (by decide +kernel) (by decide) ?_
          refine G_aload_n (pc' := 109) C dX7_look_108 0 rfl rfl ?_
          refine G_get (pc' := 112) C wD_0 rfl 2 (by decide) rfl iu_X7_look_X7 lk_X7_look_26 dX7_look_109 rfl ?_
          refine G_aload_n (pc' := 113) C dX7_look_112 0 rfl rfl ?_
          refine G_get (pc' := 116) C wD_0 rfl 1 (by decide) rfl iu_X7_look_X7 lk_X7_look_19 dX7_look_113 rfl ?_
          refine G_callVt (pc' := 119) C [.ref (za ω 3)] (c_X4_admitted ω N σ) sg_X4_admitted gX7_look_X4_admitted wD_6 rfl ⟨Nat.le_of_ble_eq_true rfl, Nat.le_of_ble_eq_true rfl⟩ rfl rfl (Nat.le_of_ble_eq_true rfl) dX7_look_116 rfl hf (fun v5 s4 hf => ?_)
          refine G_iload_n (pc' := 120) C dX7_look_119 1 rfl rfl ?_
          refine G_callSp (pc' := 123) C [.int v5, .int a1] (c_X7_contains ω N s4 v5 a1) sg_X7_contains gX7_look_X7_contains ⟨Nat.le_of_ble_eq_true rfl, Nat.le_of_ble_eq_true rfl⟩ rfl rfl (Nat.le_of_ble_eq_true rfl) dX7_look_120 rfl hf (fun v6 hf => ?_)
          refine G_callSp (pc' := 126) C [.int v6] (c_X7_asInt ω N s4 v6) sg_X7_asInt gX7_look_X7_asInt ⟨Nat.le_of_ble_eq_true rfl, Nat.le_of_ble_eq_true rfl⟩ rfl rfl (Nat.le_of_ble_eq_true rfl) dX7_look_123 rfl hf (fun v7 hf => ?_)
          exact G_iret C hR dX7_look_126 (Option.some.inj hf)
        rw [if_neg hk0] at hf
        by_cases hk1 : a2 = (1 : Int32)
        · rw [if_pos hk1] at hf
          refine G_tIn (k := (1 : Int32)) (off := 64) (tgt := 127) C hk1 dX7_look_63 (by decide) (by decide) (by decide +kernel) (by decide) ?_
          refine G_aload_n (pc' := 128) C dX7_look_127 0 rfl rfl ?_
          refine G_get (pc' := 131) C wD_0 rfl 3 (by decide) rfl iu_X7_look_X7 lk_X7_look_33 dX7_look_128 rfl ?_
          refine G_iload_n (pc' := 132) C dX7_look_131 1 rfl rfl ?_
          refine G_callVp (pc' := 135) C [.int a1] (c_X0_marksOn ω N σ a1) sg_X0_marksOn gX7_look_X0_marksOn wD_11 rfl ⟨Nat.le_of_ble_eq_true rfl, Nat.le_of_ble_eq_true rfl⟩ rfl rfl (Nat.le_of_ble_eq_true rfl) dX7_look_132 rfl hf (fun v8 hf => ?_)
          exact G_iret C hR dX7_look_135 (Option.some.inj hf)
        rw [if_neg hk1] at hf
        by_cases hk2 : a2 = (2 : Int32)
        · rw [if_pos hk2] at hf
          refine G_tIn (k := (2 : Int32)) (off := 73) (tgt := 136) C hk2 dX7_look_63 (by decide) (by decide) (by decide +kernel) (by decide) ?_
          refine G_aload_n (pc' := 137) C dX7_look_136 0 rfl rfl ?_
          refine G_get (pc' := 140) C wD_0 rfl 3 (by decide) rfl iu_X7_look_X7 lk_X7_look_33 dX7_look_137 rfl ?_
          refine G_iload_n (pc' := 141) C dX7_look_140 1 rfl rfl ?_
          refine G_callVp (pc' := 144) C [.int a1] (c_X0_sumOn ω N σ a1) sg_X0_sumOn gX7_look_X0_sumOn wD_11 rfl ⟨Nat.le_of_ble_eq_true rfl, Nat.le_of_ble_eq_true rfl⟩ rfl rfl (Nat.le_of_ble_eq_true rfl) dX7_look_141 rfl hf (fun v9 hf => ?_)
          exact G_iret C hR dX7_look_144 (Option.some.inj hf)
        rw [if_neg hk2] at hf
        by_cases hk3 : a2 = (3 : Int32)
        · rw [if_pos hk3] at hf
          refine G_tIn (k := (3 : Int32)) (off := 82) (tgt := 145) C hk3 dX7_look_63 (by decide) (by decide) (by decide +kernel) (by decide) ?_
          refine G_aload_n (pc' := 146) C dX7_look_145 0 rfl rfl ?_
          refine G_get (pc' := 149) C wD_0 rfl 2 (by decide) rfl iu_X7_look_X7 lk_X7_look_26 dX7_look_146 rfl ?_
          refine G_iload_n (pc' := 150) C dX7_look_149 1 rfl rfl ?_
          refine G_callVp (pc' := 153) C [.int a1] (c_X4_isCalledIn ω N σ a1) sg_X4_isCalledIn gX7_look_X4_isCalledIn wD_6 rfl ⟨Nat.le_of_ble_eq_true rfl, Nat.le_of_ble_eq_true rfl⟩ rfl rfl (Nat.le_of_ble_eq_true rfl) dX7_look_150 rfl hf (fun v10 hf => ?_)
          refine G_callSp (pc' := 156) C [.int v10] (c_X7_asInt ω N σ v10) sg_X7_asInt gX7_look_X7_asInt ⟨Nat.le_of_ble_eq_true rfl, Nat.le_of_ble_eq_true rfl⟩ rfl rfl (Nat.le_of_ble_eq_true rfl) dX7_look_153 rfl hf (fun v11 hf => ?_)
          exact G_iret C hR dX7_look_156 (Option.some.inj hf)
        rw [if_neg hk3] at hf
        by_cases hk4 : a2 = (4 : Int32)
        · rw [if_pos hk4] at hf
          refine G_tIn (k := (4 : Int32)) (off := 94) (tgt := 157) C hk4 dX7_look_63 (by decide) (by decide) (by decide +kernel) (by decide) ?_
          refine G_aload_n (pc' := 158) C dX7_look_157 0 rfl rfl ?_
          refine G_get (pc' := 161) C wD_0 rfl 2 (by decide) rfl iu_X7_look_X7 lk_X7_look_26 dX7_look_158 rfl ?_
          refine G_iload_n (pc' := 162) C dX7_look_161 1 rfl rfl ?_
          refine G_callVp (pc' := 165) C [.int a1] (c_X4_isTakenOut ω N σ a1) sg_X4_isTakenOut gX7_look_X4_isTakenOut wD_6 rfl ⟨Nat.le_of_ble_eq_true rfl, Nat.le_of_ble_eq_true rfl⟩ rfl rfl (Nat.le_of_ble_eq_true rfl) dX7_look_162 rfl hf (fun v12 hf => ?_)
          refine G_callSp (pc' := 168) C [.int v12] (c_X7_asInt ω N σ v12) sg_X7_asInt gX7_look_X7_asInt ⟨Nat.le_of_ble_eq_true rfl, Nat.le_of_ble_eq_true rfl⟩ rfl rfl (Nat.le_of_ble_eq_true rfl) dX7_look_165 rfl hf (fun v13 hf => ?_)
          exact G_iret C hR dX7_look_168 (Option.some.inj hf)
        rw [if_neg hk4] at hf
        by_cases hk5 : a2 = (5 : Int32)
        · rw [if_pos hk5] at hf
          refine G_tIn (k := (5 : Int32)) (off := 106) (tgt := 169) C hk5 dX7_look_63 (by decide) (by decide) (by decide +kernel) (by decide) ?_
          refine G_aload_n (pc' := 170) C dX7_look_169 0 rfl rfl ?_
          refine G_get (pc' := 173) C wD_0 rfl 2 (by decide) rfl iu_X7_look_X7 lk_X7_look_26 dX7_look_170 rfl ?_
          refine G_iload_n (pc' := 174) C dX7_look_173 1 rfl rfl ?_
          refine G_callVp (pc' := 177) C [.int a1] (c_X4_publisherOf ω N σ a1) sg_X4_publisherOf gX7_look_X4_publisherOf wD_6 rfl ⟨Nat.le_of_ble_eq_true rfl, Nat.le_of_ble_eq_true rfl⟩ rfl rfl (Nat.le_of_ble_eq_true rfl) dX7_look_174 rfl hf (fun v14 hf => ?_)
          exact G_iret C hR dX7_look_177 (Option.some.inj hf)
        rw [if_neg hk5] at hf
        by_cases hk6 : a2 = (6 : Int32)
        · rw [if_pos hk6] at hf
          refine G_tIn (k := (6 : Int32)) (off := 115) (tgt := 178) C hk6 dX7_look_63 (by decide) (by decide) (by decide +kernel) (by decide) ?_
          refine G_aload_n (pc' := 179) C dX7_look_178 0 rfl rfl ?_
          refine G_get (pc' := 182) C wD_0 rfl 2 (by decide) rfl iu_X7_look_X7 lk_X7_look_26 dX7_look_179 rfl ?_
          refine G_iload_n (pc' := 183) C dX7_look_182 1 rfl rfl ?_
          refine G_callVp (pc' := 186) C [.int a1] (c_X4_pagesOf ω N σ a1) sg_X4_pagesOf gX7_look_X4_pagesOf wD_6 rfl ⟨Nat.le_of_ble_eq_true rfl, Nat.le_of_ble_eq_true rfl⟩ rfl rfl (Nat.le_of_ble_eq_true rfl) dX7_look_183 rfl hf (fun v15 hf => ?_)
          exact G_iret C hR dX7_look_186 (Option.some.inj hf)
        rw [if_neg hk6] at hf
        by_cases hk7 : a2 = (7 : Int32)
        · rw [if_pos hk7] at hf
          refine G_tIn (k := (7 : Int32)) (off := 124) (tgt := 187) C hk7 dX7_look_63 (by decide) (by decide) (by decide +kernel) (by decide) ?_
          refine G_aload_n (pc' := 188) C dX7_look_187 0 rfl rfl ?_
          refine G_get (pc' := 191) C wD_0 rfl 2 (by decide) rfl iu_X7_look_X7 lk_X7_look_26 dX7_look_188 rfl ?_
          refine G_iload_n (pc' := 192) C dX7_look_191 1 rfl rfl ?_
          refine G_callVp (pc' := 195) C [.int a1] (c_X4_dayOf ω N σ a1) sg_X4_dayOf gX7_look_X4_dayOf wD_6 rfl ⟨Nat.le_of_ble_eq_true rfl, Nat.le_of_ble_eq_true rfl⟩ rfl rfl (Nat.le_of_ble_eq_true rfl) dX7_look_192 rfl hf (fun v16 hf => ?_)
          exact G_iret C hR dX7_look_195 (Option.some.inj hf)
        rw [if_neg hk7] at hf
        have gd : G ω wD κ 196 [(0, .ref (za ω 0)), (1, .int a1), (2, .int a2)] [] σ := by
          refine G_iconst (v := (-1 : Int32)) (pc' := 197) C dX7_look_196 (by decide) rfl ?_
          exact G_iret C hR dX7_look_197 (Option.some.inj hf)
        have hn0 := lv_neT hk0 (show ((0 : Int32)).toInt = 0 by decide)
        have hn1 := lv_neT hk1 (show ((1 : Int32)).toInt = 1 by decide)
        have hn2 := lv_neT hk2 (show ((2 : Int32)).toInt = 2 by decide)
        have hn3 := lv_neT hk3 (show ((3 : Int32)).toInt = 3 by decide)
        have hn4 := lv_neT hk4 (show ((4 : Int32)).toInt = 4 by decide)
        have hn5 := lv_neT hk5 (show ((5 : Int32)).toInt = 5 by decide)
        have hn6 := lv_neT hk6 (show ((6 : Int32)).toInt = 6 by decide)
        have hn7 := lv_neT hk7 (show ((7 : Int32)).toInt = 7 by decide)
        exact G_tOut (tgt := 196) C dX7_look_63 (by omega) (by decide) gd
      · refine G_aload_n (pc' := 47) C dX7_look_46 0 rfl rfl ?_
        refine G_get (pc' := 50) C wD_0 rfl 3 (by decide) rfl iu_X7_look_X7 lk_X7_look_33 dX7_look_47 rfl ?_
        refine G_iload_n (pc' := 51) C dX7_look_50 2 rfl rfl ?_
        refine G_bipush (v := (20 : Int32)) (pc' := 53) C dX7_look_51 (by decide) rfl ?_
        refine G_isub (pc' := 54) C dX7_look_53 rfl ?_
        refine G_iload_n (pc' := 55) C dX7_look_54 1 rfl rfl ?_
        refine G_callVp (pc' := 58) C [.int (a2 - (20 : Int32)), .int a1] (c_X0_isBarred ω N σ (a2 - (20 : Int32)) a1) sg_X0_isBarred gX7_look_X0_isBarred wD_11 rfl ⟨Nat.le_of_ble_eq_true rfl, Nat.le_of_ble_eq_true rfl⟩ rfl rfl (Nat.le_of_ble_eq_true rfl) dX7_look_55 rfl hf (fun v17 hf => ?_)
        refine G_callSp (pc' := 61) C [.int v17] (c_X7_asInt ω N σ v17) sg_X7_asInt gX7_look_X7_asInt ⟨Nat.le_of_ble_eq_true rfl, Nat.le_of_ble_eq_true rfl⟩ rfl rfl (Nat.le_of_ble_eq_true rfl) dX7_look_58 rfl hf (fun v18 hf => ?_)
        exact G_iret C hR dX7_look_61 (Option.some.inj hf)
    · refine G_aload_n (pc' := 24) C dX7_look_23 0 rfl rfl ?_
      refine G_get (pc' := 27) C wD_0 rfl 3 (by decide) rfl iu_X7_look_X7 lk_X7_look_33 dX7_look_24 rfl ?_
      refine G_iload_n (pc' := 28) C dX7_look_27 2 rfl rfl ?_
      refine G_bipush (v := (10 : Int32)) (pc' := 30) C dX7_look_28 (by decide) rfl ?_
      refine G_isub (pc' := 31) C dX7_look_30 rfl ?_
      refine G_iload_n (pc' := 32) C dX7_look_31 1 rfl rfl ?_
      refine G_callVp (pc' := 35) C [.int (a2 - (10 : Int32)), .int a1] (c_X0_markOf ω N σ (a2 - (10 : Int32)) a1) sg_X0_markOf gX7_look_X0_markOf wD_11 rfl ⟨Nat.le_of_ble_eq_true rfl, Nat.le_of_ble_eq_true rfl⟩ rfl rfl (Nat.le_of_ble_eq_true rfl) dX7_look_32 rfl hf (fun v19 hf => ?_)
      exact G_iret C hR dX7_look_35 (Option.some.inj hf)
theorem iu_X4_books_X4 : ∀ w ∈ wsX40, w ∈ wsX4_books := by decide +kernel
theorem lk_X4_books_24 : Cond.fieldLink RX4 24 "PrizeDesk$Shelf" "size" "I" ∈ wsX4_books := by decide +kernel
abbrev rm_X4_books : Room := { frames := 0, cells := 0, slots := 0, locals := 0 }
theorem sg_X4_books : ZG yX4_books wsX4_books cX4_books 1 (some .int) RX4 0 rm_X4_books := ⟨⟨_, rfl⟩, by decide +kernel, rfl, rfl⟩
set_option maxHeartbeats 4000000 in
set_option maxRecDepth 100000 in
theorem c_X4_books (ω : ZO) (N : Nat) (σ : ZS) : ZIp ω wD yX4_books wsX4_books rm_X4_books [.ref (za ω 6)] σ (f_X4_books N σ) := by
  intro r0 hf
  refine ZI.go (cc := cX4_books) (maxL := 1) (ret := (some .int)) (own := RX4) (lv := [(0, .ref (za ω 6))]) (by decide) rfl rfl (Nat.le_of_ble_eq_true rfl) rfl (fun κ C hR => ?_)
  unfold f_X4_books at hf
  refine G_aload_n (pc' := 1) C dX4_books_0 0 rfl rfl ?_
  refine G_get (pc' := 4) C wD_6 rfl 4 (by decide) rfl iu_X4_books_X4 lk_X4_books_24 dX4_books_1 rfl ?_
  exact G_iret C hR dX4_books_4 ⟨Option.some.inj hf, rfl⟩
theorem iu_X2_length_X2 : ∀ w ∈ wsX20, w ∈ wsX2_length := by decide +kernel
theorem lk_X2_length_18 : Cond.fieldLink RX2 18 "PrizeDesk$Ranking" "size" "I" ∈ wsX2_length := by decide +kernel
abbrev rm_X2_length : Room := { frames := 0, cells := 0, slots := 0, locals := 0 }
theorem sg_X2_length : ZG yX2_length wsX2_length cX2_length 1 (some .int) RX2 0 rm_X2_length := ⟨⟨_, rfl⟩, by decide +kernel, rfl, rfl⟩
set_option maxHeartbeats 4000000 in
set_option maxRecDepth 100000 in
theorem c_X2_length (ω : ZO) (N : Nat) (σ : ZS) : ZIp ω wD yX2_length wsX2_length rm_X2_length [.ref (za ω 32)] σ (f_X2_length N σ) := by
  intro r0 hf
  refine ZI.go (cc := cX2_length) (maxL := 1) (ret := (some .int)) (own := RX2) (lv := [(0, .ref (za ω 32))]) (by decide) rfl rfl (Nat.le_of_ble_eq_true rfl) rfl (fun κ C hR => ?_)
  unfold f_X2_length at hf
  refine G_aload_n (pc' := 1) C dX2_length_0 0 rfl rfl ?_
  refine G_get (pc' := 4) C wD_32 rfl 2 (by decide) rfl iu_X2_length_X2 lk_X2_length_18 dX2_length_1 rfl ?_
  exact G_iret C hR dX2_length_4 ⟨Option.some.inj hf, rfl⟩
abbrev rm_X1_ballotsThatCount_18 : Room := { frames := 1, cells := 0, slots := 0, locals := 21 }
theorem sg_X1_ballotsThatCount_18 : ZG yX1_ballotsThatCount wsX1_ballotsThatCount cX1_ballotsThatCount 3 (some .int) RX1 0 rm_X1_ballotsThatCount_18 := ⟨⟨_, rfl⟩, by decide +kernel, rfl, rfl⟩
set_option maxHeartbeats 4000000 in
set_option maxRecDepth 100000 in
theorem w_X1_ballotsThatCount_18_4 {ω : ZO} {κ : ZK} {N : Nat} {σ : ZS} {K : Int32 → Int32 → Option (Int32)} {r0 : Int32} (C : CX ω wD κ cX1_ballotsThatCount wsX1_ballotsThatCount RX1 (some .int) 3 rm_X1_ballotsThatCount_18) (hR : zRI ω wD κ (fun v τ => v = r0 ∧ τ = σ)) (HK : ∀ (y1 : Int32) (y2 : Int32), K y1 y2 = some r0 → G ω wD κ 27 [(0, .ref (za ω 18)), (1, .int y1)] [] σ) : ∀ (n : Nat) (y1 : Int32) (y2 : Int32), L_X1_ballotsThatCount_18_4 N σ K n y1 y2 = some r0 → G ω wD κ 4 [(0, .ref (za ω 18)), (1, .int y1), (2, .int y2)] [] σ := by
  intro n
  induction n with
  | zero => intro  y1 y2 hf; exact absurd (show none = some r0 from hf) (fun h => nomatch h)
  | succ n ih =>
    intro y1 y2 hf
    have hf : B_X1_ballotsThatCount_18_4 N σ K (L_X1_ballotsThatCount_18_4 N σ K n) y1 y2 = some r0 := hf
    unfold B_X1_ballotsThatCount_18_4 at hf
    refine G_iload_n (pc' := 5) C dX1_ballotsThatCount_4 2 rfl rfl ?_
    refine G_bipush (v := (7 : Int32)) (pc' := 7) C dX1_ballotsThatCount_5 (by decide) rfl ?_
    refine G_icmp_ge (tgt := 27) (pc' := 10) C dX1_ballotsThatCount_7 (by decide) rfl hf (fun hf => ?_) (fun hf => ?_)
    · refine G_sub (lv' := [(0, .ref (za ω 18)), (1, .int y1)]) C [0, 1] rfl ?_
      exact HK y1 y2 hf
    · refine G_aload_n (pc' := 11) C dX1_ballotsThatCount_10 0 rfl rfl ?_
      refine G_iload_n (pc' := 12) C dX1_ballotsThatCount_11 2 rfl rfl ?_
      refine G_callVp (pc' := 15) C [.int y2] (c_X1_isCounting_18 ω N σ y2) sg_X1_isCounting_18 gX1_ballotsThatCount_X1_isCounting wD_18 rfl ⟨Nat.le_of_ble_eq_true rfl, Nat.le_of_ble_eq_true rfl⟩ rfl rfl (Nat.le_of_ble_eq_true rfl) dX1_ballotsThatCount_12 rfl hf (fun v1 hf => ?_)
      refine G_if_eq (tgt := 21) (pc' := 18) C dX1_ballotsThatCount_15 (by decide) rfl hf (fun hf => ?_) (fun hf => ?_)
      · refine G_iincL (v := y2 + (1 : Int32)) (pc' := 24) C dX1_ballotsThatCount_21 2 rfl rfl (by decide) [1, 2, 0] (fun x2 => [(0, .ref (za ω 18)), (1, .int y1), (2, .int x2)]) (fun _ => rfl) rfl hf (fun x2 hf => ?_)
        refine G_goto (pc' := 4) C dX1_ballotsThatCount_24 (by decide) ?_
        exact ih y1 x2 hf
      · refine G_iincL (v := y1 + (1 : Int32)) (pc' := 21) C dX1_ballotsThatCount_18 1 rfl rfl (by decide) [1, 0, 2] (fun x3 => [(0, .ref (za ω 18)), (1, .int x3), (2, .int y2)]) (fun _ => rfl) rfl hf (fun x3 hf => ?_)
        refine G_iincL (v := y2 + (1 : Int32)) (pc' := 24) C dX1_ballotsThatCount_21 2 rfl rfl (by decide) [1, 2, 0] (fun x4 => [(0, .ref (za ω 18)), (1, .int x3), (2, .int x4)]) (fun _ => rfl) rfl hf (fun x4 hf => ?_)
        refine G_goto (pc' := 4) C dX1_ballotsThatCount_24 (by decide) ?_
        exact ih x3 x4 hf
set_option maxHeartbeats 4000000 in
set_option maxRecDepth 100000 in
theorem c_X1_ballotsThatCount_18 (ω : ZO) (N : Nat) (σ : ZS) : ZIp ω wD yX1_ballotsThatCount wsX1_ballotsThatCount rm_X1_ballotsThatCount_18 [.ref (za ω 18)] σ (f_X1_ballotsThatCount_18 N σ) := by
  intro r0 hf
  refine ZI.go (cc := cX1_ballotsThatCount) (maxL := 3) (ret := (some .int)) (own := RX1) (lv := [(0, .ref (za ω 18))]) (by decide) rfl rfl (Nat.le_of_ble_eq_true rfl) rfl (fun κ C hR => ?_)
  unfold f_X1_ballotsThatCount_18 at hf
  refine G_iconst (v := (0 : Int32)) (pc' := 1) C dX1_ballotsThatCount_0 (by decide) rfl ?_
  refine G_istore_n (lv' := [(0, .ref (za ω 18)), (1, .int (0 : Int32))]) (pc' := 2) C dX1_ballotsThatCount_1 (by decide) [1, 0] rfl rfl ?_
  refine G_iconst (v := (0 : Int32)) (pc' := 3) C dX1_ballotsThatCount_2 (by decide) rfl ?_
  refine G_istore_n (lv' := [(0, .ref (za ω 18)), (1, .int (0 : Int32)), (2, .int (0 : Int32))]) (pc' := 4) C dX1_ballotsThatCount_3 (by decide) [1, 2, 0] rfl rfl ?_
  refine w_X1_ballotsThatCount_18_4 C hR (fun y5 y6 hf => ?_) N (0 : Int32) (0 : Int32) hf
  refine G_iload_n (pc' := 28) C dX1_ballotsThatCount_27 1 rfl rfl ?_
  exact G_iret C hR dX1_ballotsThatCount_28 ⟨Option.some.inj hf, rfl⟩
abbrev rm_X1_ballotsThatCount_21 : Room := { frames := 1, cells := 0, slots := 0, locals := 21 }
theorem sg_X1_ballotsThatCount_21 : ZG yX1_ballotsThatCount wsX1_ballotsThatCount cX1_ballotsThatCount 3 (some .int) RX1 0 rm_X1_ballotsThatCount_21 := ⟨⟨_, rfl⟩, by decide +kernel, rfl, rfl⟩
set_option maxHeartbeats 4000000 in
set_option maxRecDepth 100000 in
theorem w_X1_ballotsThatCount_21_4 {ω : ZO} {κ : ZK} {N : Nat} {σ : ZS} {K : Int32 → Int32 → Option (Int32)} {r0 : Int32} (C : CX ω wD κ cX1_ballotsThatCount wsX1_ballotsThatCount RX1 (some .int) 3 rm_X1_ballotsThatCount_21) (hR : zRI ω wD κ (fun v τ => v = r0 ∧ τ = σ)) (HK : ∀ (y1 : Int32) (y2 : Int32), K y1 y2 = some r0 → G ω wD κ 27 [(0, .ref (za ω 21)), (1, .int y1)] [] σ) : ∀ (n : Nat) (y1 : Int32) (y2 : Int32), L_X1_ballotsThatCount_21_4 N σ K n y1 y2 = some r0 → G ω wD κ 4 [(0, .ref (za ω 21)), (1, .int y1), (2, .int y2)] [] σ := by
  intro n
  induction n with
  | zero => intro  y1 y2 hf; exact absurd (show none = some r0 from hf) (fun h => nomatch h)
  | succ n ih =>
    intro y1 y2 hf
    have hf : B_X1_ballotsThatCount_21_4 N σ K (L_X1_ballotsThatCount_21_4 N σ K n) y1 y2 = some r0 := hf
    unfold B_X1_ballotsThatCount_21_4 at hf
    refine G_iload_n (pc' := 5) C dX1_ballotsThatCount_4 2 rfl rfl ?_
    refine G_bipush (v := (7 : Int32)) (pc' := 7) C dX1_ballotsThatCount_5 (by decide) rfl ?_
    refine G_icmp_ge (tgt := 27) (pc' := 10) C dX1_ballotsThatCount_7 (by decide) rfl hf (fun hf => ?_) (fun hf => ?_)
    · refine G_sub (lv' := [(0, .ref (za ω 21)), (1, .int y1)]) C [0, 1] rfl ?_
      exact HK y1 y2 hf
    · refine G_aload_n (pc' := 11) C dX1_ballotsThatCount_10 0 rfl rfl ?_
      refine G_iload_n (pc' := 12) C dX1_ballotsThatCount_11 2 rfl rfl ?_
      refine G_callVp (pc' := 15) C [.int y2] (c_X1_isCounting_21 ω N σ y2) sg_X1_isCounting_21 gX1_ballotsThatCount_X1_isCounting wD_21 rfl ⟨Nat.le_of_ble_eq_true rfl, Nat.le_of_ble_eq_true rfl⟩ rfl rfl (Nat.le_of_ble_eq_true rfl) dX1_ballotsThatCount_12 rfl hf (fun v1 hf => ?_)
      refine G_if_eq (tgt := 21) (pc' := 18) C dX1_ballotsThatCount_15 (by decide) rfl hf (fun hf => ?_) (fun hf => ?_)
      · refine G_iincL (v := y2 + (1 : Int32)) (pc' := 24) C dX1_ballotsThatCount_21 2 rfl rfl (by decide) [1, 2, 0] (fun x2 => [(0, .ref (za ω 21)), (1, .int y1), (2, .int x2)]) (fun _ => rfl) rfl hf (fun x2 hf => ?_)
        refine G_goto (pc' := 4) C dX1_ballotsThatCount_24 (by decide) ?_
        exact ih y1 x2 hf
      · refine G_iincL (v := y1 + (1 : Int32)) (pc' := 21) C dX1_ballotsThatCount_18 1 rfl rfl (by decide) [1, 0, 2] (fun x3 => [(0, .ref (za ω 21)), (1, .int x3), (2, .int y2)]) (fun _ => rfl) rfl hf (fun x3 hf => ?_)
        refine G_iincL (v := y2 + (1 : Int32)) (pc' := 24) C dX1_ballotsThatCount_21 2 rfl rfl (by decide) [1, 2, 0] (fun x4 => [(0, .ref (za ω 21)), (1, .int x3), (2, .int x4)]) (fun _ => rfl) rfl hf (fun x4 hf => ?_)
        refine G_goto (pc' := 4) C dX1_ballotsThatCount_24 (by decide) ?_
        exact ih x3 x4 hf
set_option maxHeartbeats 4000000 in
set_option maxRecDepth 100000 in
theorem c_X1_ballotsThatCount_21 (ω : ZO) (N : Nat) (σ : ZS) : ZIp ω wD yX1_ballotsThatCount wsX1_ballotsThatCount rm_X1_ballotsThatCount_21 [.ref (za ω 21)] σ (f_X1_ballotsThatCount_21 N σ) := by
  intro r0 hf
  refine ZI.go (cc := cX1_ballotsThatCount) (maxL := 3) (ret := (some .int)) (own := RX1) (lv := [(0, .ref (za ω 21))]) (by decide) rfl rfl (Nat.le_of_ble_eq_true rfl) rfl (fun κ C hR => ?_)
  unfold f_X1_ballotsThatCount_21 at hf
  refine G_iconst (v := (0 : Int32)) (pc' := 1) C dX1_ballotsThatCount_0 (by decide) rfl ?_
  refine G_istore_n (lv' := [(0, .ref (za ω 21)), (1, .int (0 : Int32))]) (pc' := 2) C dX1_ballotsThatCount_1 (by decide) [1, 0] rfl rfl ?_
  refine G_iconst (v := (0 : Int32)) (pc' := 3) C dX1_ballotsThatCount_2 (by decide) rfl ?_
  refine G_istore_n (lv' := [(0, .ref (za ω 21)), (1, .int (0 : Int32)), (2, .int (0 : Int32))]) (pc' := 4) C dX1_ballotsThatCount_3 (by decide) [1, 2, 0] rfl rfl ?_
  refine w_X1_ballotsThatCount_21_4 C hR (fun y5 y6 hf => ?_) N (0 : Int32) (0 : Int32) hf
  refine G_iload_n (pc' := 28) C dX1_ballotsThatCount_27 1 rfl rfl ?_
  exact G_iret C hR dX1_ballotsThatCount_28 ⟨Option.some.inj hf, rfl⟩
theorem iu_X7_count_X7 : ∀ w ∈ wsX70, w ∈ wsX7_count := by decide +kernel
theorem lk_X7_count_26 : Cond.fieldLink RX7 26 "PrizeDesk" "shelf" "LPrizeDesk$Shelf;" ∈ wsX7_count := by decide +kernel
theorem lk_X7_count_19 : Cond.fieldLink RX7 19 "PrizeDesk" "ruleBook" "LPrizeDesk$Rules;" ∈ wsX7_count := by decide +kernel
theorem lk_X7_count_57 : Cond.fieldLink RX7 57 "PrizeDesk" "ranking" "LPrizeDesk$Ranking;" ∈ wsX7_count := by decide +kernel
theorem lk_X7_count_10 : Cond.fieldLink RX7 10 "PrizeDesk" "tape" "LPrizeDesk$Tape;" ∈ wsX7_count := by decide +kernel
theorem lk_X7_count_40 : Cond.fieldLink RX7 40 "PrizeDesk" "shortlistPoll" "LPrizeDesk$Poll;" ∈ wsX7_count := by decide +kernel
theorem lk_X7_count_44 : Cond.fieldLink RX7 44 "PrizeDesk" "winnerPoll" "LPrizeDesk$Poll;" ∈ wsX7_count := by decide +kernel
abbrev rm_X7_count : Room := { frames := 6, cells := 0, slots := 0, locals := 138 }
theorem sg_X7_count : ZG yX7_count wsX7_count cX7_count 2 (some .int) RX7 1 rm_X7_count := ⟨⟨_, rfl⟩, by decide +kernel, rfl, rfl⟩
set_option maxHeartbeats 4000000 in
set_option maxRecDepth 100000 in
theorem c_X7_count (ω : ZO) (N : Nat) (σ : ZS) (a1 : Int32) : ZIs ω wD yX7_count wsX7_count rm_X7_count [.ref (za ω 0), .int a1] σ (f_X7_count N σ a1) := by
  intro r0 hf
  refine ZI.go (cc := cX7_count) (maxL := 2) (ret := (some .int)) (own := RX7) (lv := [(0, .ref (za ω 0)), (1, .int a1)]) (by decide) rfl rfl (Nat.le_of_ble_eq_true rfl) rfl (fun κ C hR => ?_)
  unfold f_X7_count at hf
  refine G_iload_n (pc' := 1) C dX7_count_0 1 rfl rfl ?_
  by_cases hk0 : a1 = (0 : Int32)
  · rw [if_pos hk0] at hf
    refine G_tIn (k := (0 : Int32)) (off := 63) (tgt := 64) C hk0 dX7_count_1 (by decide) (by decide) (by decide +kernel) (by decide) ?_
    refine G_aload_n (pc' := 65) C dX7_count_64 0 rfl rfl ?_
    refine G_get (pc' := 68) C wD_0 rfl 2 (by decide) rfl iu_X7_count_X7 lk_X7_count_26 dX7_count_65 rfl ?_
    refine G_callVp (pc' := 71) C [] (c_X4_books ω N σ) sg_X4_books gX7_count_X4_books wD_6 rfl ⟨Nat.le_of_ble_eq_true rfl, Nat.le_of_ble_eq_true rfl⟩ rfl rfl (Nat.le_of_ble_eq_true rfl) dX7_count_68 rfl hf (fun v1 hf => ?_)
    exact G_iret C hR dX7_count_71 (Option.some.inj hf)
  rw [if_neg hk0] at hf
  by_cases hk1 : a1 = (1 : Int32)
  · rw [if_pos hk1] at hf
    refine G_tIn (k := (1 : Int32)) (off := 71) (tgt := 72) C hk1 dX7_count_1 (by decide) (by decide) (by decide +kernel) (by decide) ?_
    refine G_aload_n (pc' := 73) C dX7_count_72 0 rfl rfl ?_
    refine G_get (pc' := 76) C wD_0 rfl 2 (by decide) rfl iu_X7_count_X7 lk_X7_count_26 dX7_count_73 rfl ?_
    refine G_aload_n (pc' := 77) C dX7_count_76 0 rfl rfl ?_
    refine G_get (pc' := 80) C wD_0 rfl 1 (by decide) rfl iu_X7_count_X7 lk_X7_count_19 dX7_count_77 rfl ?_
    refine G_callVt (pc' := 83) C [.ref (za ω 3)] (c_X4_admitted ω N σ) sg_X4_admitted gX7_count_X4_admitted wD_6 rfl ⟨Nat.le_of_ble_eq_true rfl, Nat.le_of_ble_eq_true rfl⟩ rfl rfl (Nat.le_of_ble_eq_true rfl) dX7_count_80 rfl hf (fun v3 s2 hf => ?_)
    refine G_callSp (pc' := 86) C [.int v3] (c_J6_bitCount_0f7a4 ω N s2 v3) sg_J6_bitCount_0f7a4 gX7_count_J6_bitCount_0f7a4 ⟨Nat.le_of_ble_eq_true rfl, Nat.le_of_ble_eq_true rfl⟩ rfl rfl (Nat.le_of_ble_eq_true rfl) dX7_count_83 rfl hf (fun v4 hf => ?_)
    exact G_iret C hR dX7_count_86 (Option.some.inj hf)
  rw [if_neg hk1] at hf
  by_cases hk2 : a1 = (2 : Int32)
  · rw [if_pos hk2] at hf
    refine G_tIn (k := (2 : Int32)) (off := 86) (tgt := 87) C hk2 dX7_count_1 (by decide) (by decide) (by decide +kernel) (by decide) ?_
    refine G_aload_n (pc' := 88) C dX7_count_87 0 rfl rfl ?_
    refine G_callVt (pc' := 91) C [] (c_X7_booksForThird ω N σ) sg_X7_booksForThird gX7_count_X7_booksForThird wD_0 rfl ⟨Nat.le_of_ble_eq_true rfl, Nat.le_of_ble_eq_true rfl⟩ rfl rfl (Nat.le_of_ble_eq_true rfl) dX7_count_88 rfl hf (fun v6 s5 hf => ?_)
    refine G_callSp (pc' := 94) C [.int v6] (c_J6_bitCount_0f7a4 ω N s5 v6) sg_J6_bitCount_0f7a4 gX7_count_J6_bitCount_0f7a4 ⟨Nat.le_of_ble_eq_true rfl, Nat.le_of_ble_eq_true rfl⟩ rfl rfl (Nat.le_of_ble_eq_true rfl) dX7_count_91 rfl hf (fun v7 hf => ?_)
    exact G_iret C hR dX7_count_94 (Option.some.inj hf)
  rw [if_neg hk2] at hf
  by_cases hk3 : a1 = (3 : Int32)
  · rw [if_pos hk3] at hf
    refine G_tIn (k := (3 : Int32)) (off := 94) (tgt := 95) C hk3 dX7_count_1 (by decide) (by decide) (by decide +kernel) (by decide) ?_
    refine G_aload_n (pc' := 96) C dX7_count_95 0 rfl rfl ?_
    refine G_iconst (v := (0 : Int32)) (pc' := 97) C dX7_count_96 (by decide) rfl ?_
    refine G_callVv (pc' := 100) C [.int (0 : Int32)] (c_X7_rankList ω N σ (0 : Int32)) sg_X7_rankList gX7_count_X7_rankList wD_0 rfl ⟨Nat.le_of_ble_eq_true rfl, Nat.le_of_ble_eq_true rfl⟩ rfl rfl (Nat.le_of_ble_eq_true rfl) dX7_count_97 rfl hf (fun s8 hf => ?_)
    refine G_aload_n (pc' := 101) C dX7_count_100 0 rfl rfl ?_
    refine G_get (pc' := 104) C wD_0 rfl 7 (by decide) rfl iu_X7_count_X7 lk_X7_count_57 dX7_count_101 rfl ?_
    refine G_callVp (pc' := 107) C [] (c_X2_length ω N s8) sg_X2_length gX7_count_X2_length wD_32 rfl ⟨Nat.le_of_ble_eq_true rfl, Nat.le_of_ble_eq_true rfl⟩ rfl rfl (Nat.le_of_ble_eq_true rfl) dX7_count_104 rfl hf (fun v9 hf => ?_)
    exact G_iret C hR dX7_count_107 (Option.some.inj hf)
  rw [if_neg hk3] at hf
  by_cases hk4 : a1 = (4 : Int32)
  · rw [if_pos hk4] at hf
    refine G_tIn (k := (4 : Int32)) (off := 107) (tgt := 108) C hk4 dX7_count_1 (by decide) (by decide) (by decide +kernel) (by decide) ?_
    refine G_aload_n (pc' := 109) C dX7_count_108 0 rfl rfl ?_
    refine G_iconst (v := (1 : Int32)) (pc' := 110) C dX7_count_109 (by decide) rfl ?_
    refine G_callVv (pc' := 113) C [.int (1 : Int32)] (c_X7_rankList ω N σ (1 : Int32)) sg_X7_rankList gX7_count_X7_rankList wD_0 rfl ⟨Nat.le_of_ble_eq_true rfl, Nat.le_of_ble_eq_true rfl⟩ rfl rfl (Nat.le_of_ble_eq_true rfl) dX7_count_110 rfl hf (fun s10 hf => ?_)
    refine G_aload_n (pc' := 114) C dX7_count_113 0 rfl rfl ?_
    refine G_get (pc' := 117) C wD_0 rfl 7 (by decide) rfl iu_X7_count_X7 lk_X7_count_57 dX7_count_114 rfl ?_
    refine G_callVp (pc' := 120) C [] (c_X2_length ω N s10) sg_X2_length gX7_count_X2_length wD_32 rfl ⟨Nat.le_of_ble_eq_true rfl, Nat.le_of_ble_eq_true rfl⟩ rfl rfl (Nat.le_of_ble_eq_true rfl) dX7_count_117 rfl hf (fun v11 hf => ?_)
    exact G_iret C hR dX7_count_120 (Option.some.inj hf)
  rw [if_neg hk4] at hf
  by_cases hk5 : a1 = (5 : Int32)
  · rw [if_pos hk5] at hf
    refine G_tIn (k := (5 : Int32)) (off := 120) (tgt := 121) C hk5 dX7_count_1 (by decide) (by decide) (by decide +kernel) (by decide) ?_
    refine G_aload_n (pc' := 122) C dX7_count_121 0 rfl rfl ?_
    refine G_get (pc' := 125) C wD_0 rfl 0 (by decide) rfl iu_X7_count_X7 lk_X7_count_10 dX7_count_122 rfl ?_
    refine G_callVp (pc' := 128) C [] (c_X6_length ω N σ) sg_X6_length gX7_count_X6_length wD_1 rfl ⟨Nat.le_of_ble_eq_true rfl, Nat.le_of_ble_eq_true rfl⟩ rfl rfl (Nat.le_of_ble_eq_true rfl) dX7_count_125 rfl hf (fun v12 hf => ?_)
    exact G_iret C hR dX7_count_128 (Option.some.inj hf)
  rw [if_neg hk5] at hf
  by_cases hk10 : a1 = (10 : Int32)
  · rw [if_pos hk10] at hf
    refine G_tIn (k := (10 : Int32)) (off := 128) (tgt := 129) C hk10 dX7_count_1 (by decide) (by decide) (by decide +kernel) (by decide) ?_
    refine G_aload_n (pc' := 130) C dX7_count_129 0 rfl rfl ?_
    refine G_get (pc' := 133) C wD_0 rfl 4 (by decide) rfl iu_X7_count_X7 lk_X7_count_40 dX7_count_130 rfl ?_
    refine G_callVp (pc' := 136) C [] (c_X1_ballotsThatCount_18 ω N σ) sg_X1_ballotsThatCount_18 gX7_count_X1_ballotsThatCount wD_18 rfl ⟨Nat.le_of_ble_eq_true rfl, Nat.le_of_ble_eq_true rfl⟩ rfl rfl (Nat.le_of_ble_eq_true rfl) dX7_count_133 rfl hf (fun v13 hf => ?_)
    exact G_iret C hR dX7_count_136 (Option.some.inj hf)
  rw [if_neg hk10] at hf
  by_cases hk11 : a1 = (11 : Int32)
  · rw [if_pos hk11] at hf
    refine G_tIn (k := (11 : Int32)) (off := 136) (tgt := 137) C hk11 dX7_count_1 (by decide) (by decide) (by decide +kernel) (by decide) ?_
    refine G_aload_n (pc' := 138) C dX7_count_137 0 rfl rfl ?_
    refine G_get (pc' := 141) C wD_0 rfl 5 (by decide) rfl iu_X7_count_X7 lk_X7_count_44 dX7_count_138 rfl ?_
    refine G_callVp (pc' := 144) C [] (c_X1_ballotsThatCount_21 ω N σ) sg_X1_ballotsThatCount_21 gX7_count_X1_ballotsThatCount wD_21 rfl ⟨Nat.le_of_ble_eq_true rfl, Nat.le_of_ble_eq_true rfl⟩ rfl rfl (Nat.le_of_ble_eq_true rfl) dX7_count_141 rfl hf (fun v14 hf => ?_)
    exact G_iret C hR dX7_count_144 (Option.some.inj hf)
  rw [if_neg hk11] at hf
  have gd : G ω wD κ 145 [(0, .ref (za ω 0)), (1, .int a1)] [] σ := by
    refine G_iconst (v := (-1 : Int32)) (pc' := 146) C dX7_count_145 (by decide) rfl ?_
    exact G_iret C hR dX7_count_146 (Option.some.inj hf)
  have hn0 := lv_neT hk0 (show ((0 : Int32)).toInt = 0 by decide)
  have hn1 := lv_neT hk1 (show ((1 : Int32)).toInt = 1 by decide)
  have hn2 := lv_neT hk2 (show ((2 : Int32)).toInt = 2 by decide)
  have hn3 := lv_neT hk3 (show ((3 : Int32)).toInt = 3 by decide)
  have hn4 := lv_neT hk4 (show ((4 : Int32)).toInt = 4 by decide)
  have hn5 := lv_neT hk5 (show ((5 : Int32)).toInt = 5 by decide)
  have hn10 := lv_neT hk10 (show ((10 : Int32)).toInt = 10 by decide)
  have hn11 := lv_neT hk11 (show ((11 : Int32)).toInt = 11 by decide)
  rcases (show (a1).toInt < 0 ∨ 11 < (a1).toInt ∨ (a1).toInt = 6 ∨ (a1).toInt = 7 ∨ (a1).toInt = 8 ∨ (a1).toInt = 9 by omega) with ho | ho | ho | ho | ho | ho
  · exact G_tOut (tgt := 145) C dX7_count_1 (Or.inl ho) (by decide) gd
  · exact G_tOut (tgt := 145) C dX7_count_1 (Or.inr ho) (by decide) gd
  · exact G_tIn (k := (6 : Int32)) (off := 144) (tgt := 145) C (Int32.toInt_inj.mp (ho.trans (by decide))) dX7_count_1 (by decide) (by decide) (by decide +kernel) (by decide) gd
  · exact G_tIn (k := (7 : Int32)) (off := 144) (tgt := 145) C (Int32.toInt_inj.mp (ho.trans (by decide))) dX7_count_1 (by decide) (by decide) (by decide +kernel) (by decide) gd
  · exact G_tIn (k := (8 : Int32)) (off := 144) (tgt := 145) C (Int32.toInt_inj.mp (ho.trans (by decide))) dX7_count_1 (by decide) (by decide) (by decide +kernel) (by decide) gd
  · exact G_tIn (k := (9 : Int32)) (off := 144) (tgt := 145) C (Int32.toInt_inj.mp (ho.trans (by decide))) dX7_count_1 (by decide) (by decide) (by decide +kernel) (by decide) gd
