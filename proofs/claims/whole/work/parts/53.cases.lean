/-! ===== the law, case by case ===== -/
abbrev lvL (b : Nat) (ad am : Nat → Nat) (i : Int32) : List (Nat × Value) := [(0, .ref b), (1, .ref (ad 0)), (2, .ref (am 0)), (3, .int i)]
abbrev wL (ω : ZO) (ad am : Nat → Nat) (σ τ : ZS) : va_W := wD (zwd ω ad 36) σ ++ (wM (zwd ω am 26) τ ++ [])
theorem adrD (ω : ZO) (ad : Nat → Nat) : ∀ τ : ZS, (wD (zwd ω ad 36) τ).map (·.1) = (List.range 36).map ad := fun _ => rfl
theorem adrM (ω : ZO) (am : Nat → Nat) : ∀ τ : ZS, (wM (zwd ω am 26) τ).map (·.1) = (List.range 26).map am := fun _ => rfl
section LCases
variable {ω : ZO} {κ : ZK} {A : Nat → Prop} {b L : Nat} {xs : Nat → Int32} {ad am : Nat → Nat} {i : Int32} {B : AS} {σ τ : ZS}
set_option maxHeartbeats 4000000 in
set_option maxRecDepth 100000 in
theorem cs_feed (C : CN ω κ A code wsL_law RL 4 room_1) (hX : zX κ A b L xs) (h : RD B σ) (h2 : RM B τ) (hw : WF B) (v1 : vp_in (i + 1) L) (v2 : vp_in (i + 2) L) (v3 : vp_in (i + 3) L) (v4 : vp_in (i + 4) L) (v5 : vp_in (i + 5) L) (g : ∀ σ' τ', RD (nxFeed B (xs (i + 1).toNatClampNeg) (xs (i + 2).toNatClampNeg) (xs (i + 3).toNatClampNeg) (xs (i + 4).toNatClampNeg) (xs (i + 5).toNatClampNeg)) σ' → RM (nxFeed B (xs (i + 1).toNatClampNeg) (xs (i + 2).toNatClampNeg) (xs (i + 3).toNatClampNeg) (xs (i + 4).toNatClampNeg) (xs (i + 5).toNatClampNeg)) τ' → GN ω κ A 865 (lvL b ad am i) [] (wL ω ad am σ' τ') 62 2058) : GN ω κ A 132 (lvL b ad am i) [] (wL ω ad am σ τ) 62 2058 := by
  obtain ⟨σ', eD, rD⟩ := qD_feed h hw (xs (i + 1).toNatClampNeg) (xs (i + 2).toNatClampNeg) (xs (i + 3).toNatClampNeg) (xs (i + 4).toNatClampNeg) (xs (i + 5).toNatClampNeg)
  obtain ⟨τ', eM, rM⟩ := qM_feed h2 hw (xs (i + 1).toNatClampNeg) (xs (i + 2).toNatClampNeg) (xs (i + 3).toNatClampNeg) (xs (i + 4).toNatClampNeg) (xs (i + 5).toNatClampNeg)
  refine N_aload_n (pc' := 133) C dL_law_132 1 rfl rfl ?_
  refine N_aload_n (pc' := 134) C dL_law_133 0 rfl rfl ?_
  refine N_iload_n (pc' := 135) C dL_law_134 3 rfl rfl ?_
  refine N_iconst (pc' := 136) (v := (1 : Int32)) C dL_law_135 (by decide) rfl ?_
  refine N_iadd (pc' := 137) C dL_law_136 rfl ?_
  refine N_sald (pc' := 138) C hX v1 dL_law_137 rfl ?_
  refine N_aload_n (pc' := 139) C dL_law_138 0 rfl rfl ?_
  refine N_iload_n (pc' := 140) C dL_law_139 3 rfl rfl ?_
  refine N_iconst (pc' := 141) (v := (2 : Int32)) C dL_law_140 (by decide) rfl ?_
  refine N_iadd (pc' := 142) C dL_law_141 rfl ?_
  refine N_sald (pc' := 143) C hX v2 dL_law_142 rfl ?_
  refine N_aload_n (pc' := 144) C dL_law_143 0 rfl rfl ?_
  refine N_iload_n (pc' := 145) C dL_law_144 3 rfl rfl ?_
  refine N_iconst (pc' := 146) (v := (3 : Int32)) C dL_law_145 (by decide) rfl ?_
  refine N_iadd (pc' := 147) C dL_law_146 rfl ?_
  refine N_sald (pc' := 148) C hX v3 dL_law_147 rfl ?_
  refine N_aload_n (pc' := 149) C dL_law_148 0 rfl rfl ?_
  refine N_iload_n (pc' := 150) C dL_law_149 3 rfl rfl ?_
  refine N_iconst (pc' := 151) (v := (4 : Int32)) C dL_law_150 (by decide) rfl ?_
  refine N_iadd (pc' := 152) C dL_law_151 rfl ?_
  refine N_sald (pc' := 153) C hX v4 dL_law_152 rfl ?_
  refine N_aload_n (pc' := 154) C dL_law_153 0 rfl rfl ?_
  refine N_iload_n (pc' := 155) C dL_law_154 3 rfl rfl ?_
  refine N_iconst (pc' := 156) (v := (5 : Int32)) C dL_law_155 (by decide) rfl ?_
  refine N_iadd (pc' := 157) C dL_law_156 rfl ?_
  refine N_sald (pc' := 158) C hX v5 dL_law_157 rfl ?_
  refine L_call (pc' := 161) (σ' := σ') (v := anFeed B) C [] (wM (zwd ω am 26) τ ++ []) [.int (xs (i + 1).toNatClampNeg), .int (xs (i + 2).toNatClampNeg), .int (xs (i + 3).toNatClampNeg), .int (xs (i + 4).toNatClampNeg), .int (xs (i + 5).toNatClampNeg)] (adrD ω ad) (c_X7_feed (zwd ω ad 36) 200 σ (xs (i + 1).toNatClampNeg) (xs (i + 2).toNatClampNeg) (xs (i + 3).toNatClampNeg) (xs (i + 4).toNatClampNeg) (xs (i + 5).toNatClampNeg) _ eD) (fun _ _ h => ⟨congrArg Prod.fst h, congrArg Prod.snd h⟩) sg_X7_feed gL_law_X7_feed wD_0 rfl ⟨Nat.le_of_ble_eq_true rfl, Nat.le_of_ble_eq_true rfl⟩ rfl rfl (Nat.le_of_ble_eq_true rfl) ⟨Nat.le_of_ble_eq_true rfl, Nat.le_of_ble_eq_true rfl⟩ dL_law_158 rfl ?_
  refine N_aload_n (pc' := 162) C dL_law_161 2 rfl rfl ?_
  refine N_aload_n (pc' := 163) C dL_law_162 0 rfl rfl ?_
  refine N_iload_n (pc' := 164) C dL_law_163 3 rfl rfl ?_
  refine N_iconst (pc' := 165) (v := (1 : Int32)) C dL_law_164 (by decide) rfl ?_
  refine N_iadd (pc' := 166) C dL_law_165 rfl ?_
  refine N_sald (pc' := 167) C hX v1 dL_law_166 rfl ?_
  refine N_aload_n (pc' := 168) C dL_law_167 0 rfl rfl ?_
  refine N_iload_n (pc' := 169) C dL_law_168 3 rfl rfl ?_
  refine N_iconst (pc' := 170) (v := (2 : Int32)) C dL_law_169 (by decide) rfl ?_
  refine N_iadd (pc' := 171) C dL_law_170 rfl ?_
  refine N_sald (pc' := 172) C hX v2 dL_law_171 rfl ?_
  refine N_aload_n (pc' := 173) C dL_law_172 0 rfl rfl ?_
  refine N_iload_n (pc' := 174) C dL_law_173 3 rfl rfl ?_
  refine N_iconst (pc' := 175) (v := (3 : Int32)) C dL_law_174 (by decide) rfl ?_
  refine N_iadd (pc' := 176) C dL_law_175 rfl ?_
  refine N_sald (pc' := 177) C hX v3 dL_law_176 rfl ?_
  refine N_aload_n (pc' := 178) C dL_law_177 0 rfl rfl ?_
  refine N_iload_n (pc' := 179) C dL_law_178 3 rfl rfl ?_
  refine N_iconst (pc' := 180) (v := (4 : Int32)) C dL_law_179 (by decide) rfl ?_
  refine N_iadd (pc' := 181) C dL_law_180 rfl ?_
  refine N_sald (pc' := 182) C hX v4 dL_law_181 rfl ?_
  refine N_aload_n (pc' := 183) C dL_law_182 0 rfl rfl ?_
  refine N_iload_n (pc' := 184) C dL_law_183 3 rfl rfl ?_
  refine N_iconst (pc' := 185) (v := (5 : Int32)) C dL_law_184 (by decide) rfl ?_
  refine N_iadd (pc' := 186) C dL_law_185 rfl ?_
  refine N_sald (pc' := 187) C hX v5 dL_law_186 rfl ?_
  refine L_call (pc' := 190) (σ' := τ') (v := anFeed B) C (wD (zwd ω ad 36) σ') [] [.int (xs (i + 1).toNatClampNeg), .int (xs (i + 2).toNatClampNeg), .int (xs (i + 3).toNatClampNeg), .int (xs (i + 4).toNatClampNeg), .int (xs (i + 5).toNatClampNeg)] (adrM ω am) (c_X8_feed (zwd ω am 26) 200 τ (xs (i + 1).toNatClampNeg) (xs (i + 2).toNatClampNeg) (xs (i + 3).toNatClampNeg) (xs (i + 4).toNatClampNeg) (xs (i + 5).toNatClampNeg) _ eM) (fun _ _ h => ⟨congrArg Prod.fst h, congrArg Prod.snd h⟩) sg_X8_feed gL_law_X8_feed wM_0 rfl ⟨Nat.le_of_ble_eq_true rfl, Nat.le_of_ble_eq_true rfl⟩ rfl rfl (Nat.le_of_ble_eq_true rfl) ⟨Nat.le_of_ble_eq_true rfl, Nat.le_of_ble_eq_true rfl⟩ dL_law_187 rfl ?_
  refine N_eq_t (tgt := 865) C dL_law_190 (by decide) rfl ?_
  exact g _ _ rD rM
set_option maxHeartbeats 4000000 in
set_option maxRecDepth 100000 in
theorem cs_rules (C : CN ω κ A code wsL_law RL 4 room_1) (hX : zX κ A b L xs) (h : RD B σ) (h2 : RM B τ) (hw : WF B) (v1 : vp_in (i + 1) L) (g : ∀ σ' τ', RD (nxRules B (xs (i + 1).toNatClampNeg)) σ' → RM (nxRules B (xs (i + 1).toNatClampNeg)) τ' → GN ω κ A 865 (lvL b ad am i) [] (wL ω ad am σ' τ') 62 2058) : GN ω κ A 195 (lvL b ad am i) [] (wL ω ad am σ τ) 62 2058 := by
  obtain ⟨σ', eD, rD⟩ := qD_rules h hw (xs (i + 1).toNatClampNeg)
  obtain ⟨τ', eM, rM⟩ := qM_rules h2 hw (xs (i + 1).toNatClampNeg)
  refine N_aload_n (pc' := 196) C dL_law_195 1 rfl rfl ?_
  refine N_aload_n (pc' := 197) C dL_law_196 0 rfl rfl ?_
  refine N_iload_n (pc' := 198) C dL_law_197 3 rfl rfl ?_
  refine N_iconst (pc' := 199) (v := (1 : Int32)) C dL_law_198 (by decide) rfl ?_
  refine N_iadd (pc' := 200) C dL_law_199 rfl ?_
  refine N_sald (pc' := 201) C hX v1 dL_law_200 rfl ?_
  refine L_call (pc' := 204) (σ' := σ') (v := anRules B (xs (i + 1).toNatClampNeg)) C [] (wM (zwd ω am 26) τ ++ []) [.int (xs (i + 1).toNatClampNeg)] (adrD ω ad) (c_X7_rules (zwd ω ad 36) 200 σ (xs (i + 1).toNatClampNeg) _ eD) (fun _ _ h => ⟨congrArg Prod.fst h, congrArg Prod.snd h⟩) sg_X7_rules gL_law_X7_rules wD_0 rfl ⟨Nat.le_of_ble_eq_true rfl, Nat.le_of_ble_eq_true rfl⟩ rfl rfl (Nat.le_of_ble_eq_true rfl) ⟨Nat.le_of_ble_eq_true rfl, Nat.le_of_ble_eq_true rfl⟩ dL_law_201 rfl ?_
  refine N_aload_n (pc' := 205) C dL_law_204 2 rfl rfl ?_
  refine N_aload_n (pc' := 206) C dL_law_205 0 rfl rfl ?_
  refine N_iload_n (pc' := 207) C dL_law_206 3 rfl rfl ?_
  refine N_iconst (pc' := 208) (v := (1 : Int32)) C dL_law_207 (by decide) rfl ?_
  refine N_iadd (pc' := 209) C dL_law_208 rfl ?_
  refine N_sald (pc' := 210) C hX v1 dL_law_209 rfl ?_
  refine L_call (pc' := 213) (σ' := τ') (v := anRules B (xs (i + 1).toNatClampNeg)) C (wD (zwd ω ad 36) σ') [] [.int (xs (i + 1).toNatClampNeg)] (adrM ω am) (c_X8_rules (zwd ω am 26) 200 τ (xs (i + 1).toNatClampNeg) _ eM) (fun _ _ h => ⟨congrArg Prod.fst h, congrArg Prod.snd h⟩) sg_X8_rules gL_law_X8_rules wM_0 rfl ⟨Nat.le_of_ble_eq_true rfl, Nat.le_of_ble_eq_true rfl⟩ rfl rfl (Nat.le_of_ble_eq_true rfl) ⟨Nat.le_of_ble_eq_true rfl, Nat.le_of_ble_eq_true rfl⟩ dL_law_210 rfl ?_
  refine N_eq_t (tgt := 865) C dL_law_213 (by decide) rfl ?_
  exact g _ _ rD rM
set_option maxHeartbeats 4000000 in
set_option maxRecDepth 100000 in
theorem cs_rule (C : CN ω κ A code wsL_law RL 4 room_1) (hX : zX κ A b L xs) (h : RD B σ) (h2 : RM B τ) (hw : WF B) (v1 : vp_in (i + 1) L) (g : ∀ σ' τ', RD (B) σ' → RM (B) τ' → GN ω κ A 865 (lvL b ad am i) [] (wL ω ad am σ' τ') 62 2058) : GN ω κ A 218 (lvL b ad am i) [] (wL ω ad am σ τ) 62 2058 := by
  have eD := qD_rule h hw (xs (i + 1).toNatClampNeg)
  have eM := qM_rule h2 hw (xs (i + 1).toNatClampNeg)
  refine N_aload_n (pc' := 219) C dL_law_218 1 rfl rfl ?_
  refine N_aload_n (pc' := 220) C dL_law_219 0 rfl rfl ?_
  refine N_iload_n (pc' := 221) C dL_law_220 3 rfl rfl ?_
  refine N_iconst (pc' := 222) (v := (1 : Int32)) C dL_law_221 (by decide) rfl ?_
  refine N_iadd (pc' := 223) C dL_law_222 rfl ?_
  refine N_sald (pc' := 224) C hX v1 dL_law_223 rfl ?_
  refine L_call (pc' := 227) (σ' := σ) (v := anRule B (xs (i + 1).toNatClampNeg)) C [] (wM (zwd ω am 26) τ ++ []) [.int (xs (i + 1).toNatClampNeg)] (adrD ω ad) (c_X7_rule (zwd ω ad 36) 200 σ (xs (i + 1).toNatClampNeg) _ eD) (fun _ _ h => h) sg_X7_rule gL_law_X7_rule wD_0 rfl ⟨Nat.le_of_ble_eq_true rfl, Nat.le_of_ble_eq_true rfl⟩ rfl rfl (Nat.le_of_ble_eq_true rfl) ⟨Nat.le_of_ble_eq_true rfl, Nat.le_of_ble_eq_true rfl⟩ dL_law_224 rfl ?_
  refine N_aload_n (pc' := 228) C dL_law_227 2 rfl rfl ?_
  refine N_aload_n (pc' := 229) C dL_law_228 0 rfl rfl ?_
  refine N_iload_n (pc' := 230) C dL_law_229 3 rfl rfl ?_
  refine N_iconst (pc' := 231) (v := (1 : Int32)) C dL_law_230 (by decide) rfl ?_
  refine N_iadd (pc' := 232) C dL_law_231 rfl ?_
  refine N_sald (pc' := 233) C hX v1 dL_law_232 rfl ?_
  refine L_call (pc' := 236) (σ' := τ) (v := anRule B (xs (i + 1).toNatClampNeg)) C (wD (zwd ω ad 36) σ) [] [.int (xs (i + 1).toNatClampNeg)] (adrM ω am) (c_X8_rule (zwd ω am 26) 200 τ (xs (i + 1).toNatClampNeg) _ eM) (fun _ _ h => h) sg_X8_rule gL_law_X8_rule wM_0 rfl ⟨Nat.le_of_ble_eq_true rfl, Nat.le_of_ble_eq_true rfl⟩ rfl rfl (Nat.le_of_ble_eq_true rfl) ⟨Nat.le_of_ble_eq_true rfl, Nat.le_of_ble_eq_true rfl⟩ dL_law_233 rfl ?_
  refine N_eq_t (tgt := 865) C dL_law_236 (by decide) rfl ?_
  exact g _ _ h h2
set_option maxHeartbeats 4000000 in
set_option maxRecDepth 100000 in
theorem cs_book (C : CN ω κ A code wsL_law RL 4 room_1) (hX : zX κ A b L xs) (h : RD B σ) (h2 : RM B τ) (hw : WF B) (v1 : vp_in (i + 1) L) (v2 : vp_in (i + 2) L) (v3 : vp_in (i + 3) L) (g : ∀ σ' τ', RD (nxBook B (xs (i + 1).toNatClampNeg) (xs (i + 2).toNatClampNeg) (xs (i + 3).toNatClampNeg)) σ' → RM (nxBook B (xs (i + 1).toNatClampNeg) (xs (i + 2).toNatClampNeg) (xs (i + 3).toNatClampNeg)) τ' → GN ω κ A 865 (lvL b ad am i) [] (wL ω ad am σ' τ') 62 2058) : GN ω κ A 241 (lvL b ad am i) [] (wL ω ad am σ τ) 62 2058 := by
  obtain ⟨σ', eD, rD⟩ := qD_book h hw (xs (i + 1).toNatClampNeg) (xs (i + 2).toNatClampNeg) (xs (i + 3).toNatClampNeg)
  obtain ⟨τ', eM, rM⟩ := qM_book h2 hw (xs (i + 1).toNatClampNeg) (xs (i + 2).toNatClampNeg) (xs (i + 3).toNatClampNeg)
  refine N_aload_n (pc' := 242) C dL_law_241 1 rfl rfl ?_
  refine N_aload_n (pc' := 243) C dL_law_242 0 rfl rfl ?_
  refine N_iload_n (pc' := 244) C dL_law_243 3 rfl rfl ?_
  refine N_iconst (pc' := 245) (v := (1 : Int32)) C dL_law_244 (by decide) rfl ?_
  refine N_iadd (pc' := 246) C dL_law_245 rfl ?_
  refine N_sald (pc' := 247) C hX v1 dL_law_246 rfl ?_
  refine N_aload_n (pc' := 248) C dL_law_247 0 rfl rfl ?_
  refine N_iload_n (pc' := 249) C dL_law_248 3 rfl rfl ?_
  refine N_iconst (pc' := 250) (v := (2 : Int32)) C dL_law_249 (by decide) rfl ?_
  refine N_iadd (pc' := 251) C dL_law_250 rfl ?_
  refine N_sald (pc' := 252) C hX v2 dL_law_251 rfl ?_
  refine N_aload_n (pc' := 253) C dL_law_252 0 rfl rfl ?_
  refine N_iload_n (pc' := 254) C dL_law_253 3 rfl rfl ?_
  refine N_iconst (pc' := 255) (v := (3 : Int32)) C dL_law_254 (by decide) rfl ?_
  refine N_iadd (pc' := 256) C dL_law_255 rfl ?_
  refine N_sald (pc' := 257) C hX v3 dL_law_256 rfl ?_
  refine L_call (pc' := 260) (σ' := σ') (v := anBook B (xs (i + 1).toNatClampNeg) (xs (i + 2).toNatClampNeg) (xs (i + 3).toNatClampNeg)) C [] (wM (zwd ω am 26) τ ++ []) [.int (xs (i + 1).toNatClampNeg), .int (xs (i + 2).toNatClampNeg), .int (xs (i + 3).toNatClampNeg)] (adrD ω ad) (c_X7_book (zwd ω ad 36) 200 σ (xs (i + 1).toNatClampNeg) (xs (i + 2).toNatClampNeg) (xs (i + 3).toNatClampNeg) _ eD) (fun _ _ h => ⟨congrArg Prod.fst h, congrArg Prod.snd h⟩) sg_X7_book gL_law_X7_book wD_0 rfl ⟨Nat.le_of_ble_eq_true rfl, Nat.le_of_ble_eq_true rfl⟩ rfl rfl (Nat.le_of_ble_eq_true rfl) ⟨Nat.le_of_ble_eq_true rfl, Nat.le_of_ble_eq_true rfl⟩ dL_law_257 rfl ?_
  refine N_aload_n (pc' := 261) C dL_law_260 2 rfl rfl ?_
  refine N_aload_n (pc' := 262) C dL_law_261 0 rfl rfl ?_
  refine N_iload_n (pc' := 263) C dL_law_262 3 rfl rfl ?_
  refine N_iconst (pc' := 264) (v := (1 : Int32)) C dL_law_263 (by decide) rfl ?_
  refine N_iadd (pc' := 265) C dL_law_264 rfl ?_
  refine N_sald (pc' := 266) C hX v1 dL_law_265 rfl ?_
  refine N_aload_n (pc' := 267) C dL_law_266 0 rfl rfl ?_
  refine N_iload_n (pc' := 268) C dL_law_267 3 rfl rfl ?_
  refine N_iconst (pc' := 269) (v := (2 : Int32)) C dL_law_268 (by decide) rfl ?_
  refine N_iadd (pc' := 270) C dL_law_269 rfl ?_
  refine N_sald (pc' := 271) C hX v2 dL_law_270 rfl ?_
  refine N_aload_n (pc' := 272) C dL_law_271 0 rfl rfl ?_
  refine N_iload_n (pc' := 273) C dL_law_272 3 rfl rfl ?_
  refine N_iconst (pc' := 274) (v := (3 : Int32)) C dL_law_273 (by decide) rfl ?_
  refine N_iadd (pc' := 275) C dL_law_274 rfl ?_
  refine N_sald (pc' := 276) C hX v3 dL_law_275 rfl ?_
  refine L_call (pc' := 279) (σ' := τ') (v := anBook B (xs (i + 1).toNatClampNeg) (xs (i + 2).toNatClampNeg) (xs (i + 3).toNatClampNeg)) C (wD (zwd ω ad 36) σ') [] [.int (xs (i + 1).toNatClampNeg), .int (xs (i + 2).toNatClampNeg), .int (xs (i + 3).toNatClampNeg)] (adrM ω am) (c_X8_book (zwd ω am 26) 200 τ (xs (i + 1).toNatClampNeg) (xs (i + 2).toNatClampNeg) (xs (i + 3).toNatClampNeg) _ eM) (fun _ _ h => ⟨congrArg Prod.fst h, congrArg Prod.snd h⟩) sg_X8_book gL_law_X8_book wM_0 rfl ⟨Nat.le_of_ble_eq_true rfl, Nat.le_of_ble_eq_true rfl⟩ rfl rfl (Nat.le_of_ble_eq_true rfl) ⟨Nat.le_of_ble_eq_true rfl, Nat.le_of_ble_eq_true rfl⟩ dL_law_276 rfl ?_
  refine N_eq_t (tgt := 865) C dL_law_279 (by decide) rfl ?_
  exact g _ _ rD rM
set_option maxHeartbeats 4000000 in
set_option maxRecDepth 100000 in
theorem cs_call (C : CN ω κ A code wsL_law RL 4 room_1) (hX : zX κ A b L xs) (h : RD B σ) (h2 : RM B τ) (hw : WF B) (v1 : vp_in (i + 1) L) (g : ∀ σ' τ', RD (nxCall B (xs (i + 1).toNatClampNeg)) σ' → RM (nxCall B (xs (i + 1).toNatClampNeg)) τ' → GN ω κ A 865 (lvL b ad am i) [] (wL ω ad am σ' τ') 62 2058) : GN ω κ A 284 (lvL b ad am i) [] (wL ω ad am σ τ) 62 2058 := by
  obtain ⟨σ', eD, rD⟩ := qD_call h hw (xs (i + 1).toNatClampNeg)
  obtain ⟨τ', eM, rM⟩ := qM_call h2 hw (xs (i + 1).toNatClampNeg)
  refine N_aload_n (pc' := 285) C dL_law_284 1 rfl rfl ?_
  refine N_aload_n (pc' := 286) C dL_law_285 0 rfl rfl ?_
  refine N_iload_n (pc' := 287) C dL_law_286 3 rfl rfl ?_
  refine N_iconst (pc' := 288) (v := (1 : Int32)) C dL_law_287 (by decide) rfl ?_
  refine N_iadd (pc' := 289) C dL_law_288 rfl ?_
  refine N_sald (pc' := 290) C hX v1 dL_law_289 rfl ?_
  refine L_call (pc' := 293) (σ' := σ') (v := anCall B (xs (i + 1).toNatClampNeg)) C [] (wM (zwd ω am 26) τ ++ []) [.int (xs (i + 1).toNatClampNeg)] (adrD ω ad) (c_X7_call (zwd ω ad 36) 200 σ (xs (i + 1).toNatClampNeg) _ eD) (fun _ _ h => ⟨congrArg Prod.fst h, congrArg Prod.snd h⟩) sg_X7_call gL_law_X7_call wD_0 rfl ⟨Nat.le_of_ble_eq_true rfl, Nat.le_of_ble_eq_true rfl⟩ rfl rfl (Nat.le_of_ble_eq_true rfl) ⟨Nat.le_of_ble_eq_true rfl, Nat.le_of_ble_eq_true rfl⟩ dL_law_290 rfl ?_
  refine N_aload_n (pc' := 294) C dL_law_293 2 rfl rfl ?_
  refine N_aload_n (pc' := 295) C dL_law_294 0 rfl rfl ?_
  refine N_iload_n (pc' := 296) C dL_law_295 3 rfl rfl ?_
  refine N_iconst (pc' := 297) (v := (1 : Int32)) C dL_law_296 (by decide) rfl ?_
  refine N_iadd (pc' := 298) C dL_law_297 rfl ?_
  refine N_sald (pc' := 299) C hX v1 dL_law_298 rfl ?_
  refine L_call (pc' := 302) (σ' := τ') (v := anCall B (xs (i + 1).toNatClampNeg)) C (wD (zwd ω ad 36) σ') [] [.int (xs (i + 1).toNatClampNeg)] (adrM ω am) (c_X8_call (zwd ω am 26) 200 τ (xs (i + 1).toNatClampNeg) _ eM) (fun _ _ h => ⟨congrArg Prod.fst h, congrArg Prod.snd h⟩) sg_X8_call gL_law_X8_call wM_0 rfl ⟨Nat.le_of_ble_eq_true rfl, Nat.le_of_ble_eq_true rfl⟩ rfl rfl (Nat.le_of_ble_eq_true rfl) ⟨Nat.le_of_ble_eq_true rfl, Nat.le_of_ble_eq_true rfl⟩ dL_law_299 rfl ?_
  refine N_eq_t (tgt := 865) C dL_law_302 (by decide) rfl ?_
  exact g _ _ rD rM
set_option maxHeartbeats 4000000 in
set_option maxRecDepth 100000 in
theorem cs_withdraw (C : CN ω κ A code wsL_law RL 4 room_1) (hX : zX κ A b L xs) (h : RD B σ) (h2 : RM B τ) (hw : WF B) (v1 : vp_in (i + 1) L) (g : ∀ σ' τ', RD (nxWithdraw B (xs (i + 1).toNatClampNeg)) σ' → RM (nxWithdraw B (xs (i + 1).toNatClampNeg)) τ' → GN ω κ A 865 (lvL b ad am i) [] (wL ω ad am σ' τ') 62 2058) : GN ω κ A 307 (lvL b ad am i) [] (wL ω ad am σ τ) 62 2058 := by
  obtain ⟨σ', eD, rD⟩ := qD_withdraw h hw (xs (i + 1).toNatClampNeg)
  obtain ⟨τ', eM, rM⟩ := qM_withdraw h2 hw (xs (i + 1).toNatClampNeg)
  refine N_aload_n (pc' := 308) C dL_law_307 1 rfl rfl ?_
  refine N_aload_n (pc' := 309) C dL_law_308 0 rfl rfl ?_
  refine N_iload_n (pc' := 310) C dL_law_309 3 rfl rfl ?_
  refine N_iconst (pc' := 311) (v := (1 : Int32)) C dL_law_310 (by decide) rfl ?_
  refine N_iadd (pc' := 312) C dL_law_311 rfl ?_
  refine N_sald (pc' := 313) C hX v1 dL_law_312 rfl ?_
  refine L_call (pc' := 316) (σ' := σ') (v := anWithdraw B (xs (i + 1).toNatClampNeg)) C [] (wM (zwd ω am 26) τ ++ []) [.int (xs (i + 1).toNatClampNeg)] (adrD ω ad) (c_X7_withdraw (zwd ω ad 36) 200 σ (xs (i + 1).toNatClampNeg) _ eD) (fun _ _ h => ⟨congrArg Prod.fst h, congrArg Prod.snd h⟩) sg_X7_withdraw gL_law_X7_withdraw wD_0 rfl ⟨Nat.le_of_ble_eq_true rfl, Nat.le_of_ble_eq_true rfl⟩ rfl rfl (Nat.le_of_ble_eq_true rfl) ⟨Nat.le_of_ble_eq_true rfl, Nat.le_of_ble_eq_true rfl⟩ dL_law_313 rfl ?_
  refine N_aload_n (pc' := 317) C dL_law_316 2 rfl rfl ?_
  refine N_aload_n (pc' := 318) C dL_law_317 0 rfl rfl ?_
  refine N_iload_n (pc' := 319) C dL_law_318 3 rfl rfl ?_
  refine N_iconst (pc' := 320) (v := (1 : Int32)) C dL_law_319 (by decide) rfl ?_
  refine N_iadd (pc' := 321) C dL_law_320 rfl ?_
  refine N_sald (pc' := 322) C hX v1 dL_law_321 rfl ?_
  refine L_call (pc' := 325) (σ' := τ') (v := anWithdraw B (xs (i + 1).toNatClampNeg)) C (wD (zwd ω ad 36) σ') [] [.int (xs (i + 1).toNatClampNeg)] (adrM ω am) (c_X8_withdraw (zwd ω am 26) 200 τ (xs (i + 1).toNatClampNeg) _ eM) (fun _ _ h => ⟨congrArg Prod.fst h, congrArg Prod.snd h⟩) sg_X8_withdraw gL_law_X8_withdraw wM_0 rfl ⟨Nat.le_of_ble_eq_true rfl, Nat.le_of_ble_eq_true rfl⟩ rfl rfl (Nat.le_of_ble_eq_true rfl) ⟨Nat.le_of_ble_eq_true rfl, Nat.le_of_ble_eq_true rfl⟩ dL_law_322 rfl ?_
  refine N_eq_t (tgt := 865) C dL_law_325 (by decide) rfl ?_
  exact g _ _ rD rM
set_option maxHeartbeats 4000000 in
set_option maxRecDepth 100000 in
theorem cs_kin (C : CN ω κ A code wsL_law RL 4 room_1) (hX : zX κ A b L xs) (h : RD B σ) (h2 : RM B τ) (hw : WF B) (v1 : vp_in (i + 1) L) (v2 : vp_in (i + 2) L) (g : ∀ σ' τ', RD (nxKin B (xs (i + 1).toNatClampNeg) (xs (i + 2).toNatClampNeg)) σ' → RM (nxKin B (xs (i + 1).toNatClampNeg) (xs (i + 2).toNatClampNeg)) τ' → GN ω κ A 865 (lvL b ad am i) [] (wL ω ad am σ' τ') 62 2058) : GN ω κ A 330 (lvL b ad am i) [] (wL ω ad am σ τ) 62 2058 := by
  obtain ⟨σ', eD, rD⟩ := qD_kin h hw (xs (i + 1).toNatClampNeg) (xs (i + 2).toNatClampNeg)
  obtain ⟨τ', eM, rM⟩ := qM_kin h2 hw (xs (i + 1).toNatClampNeg) (xs (i + 2).toNatClampNeg)
  refine N_aload_n (pc' := 331) C dL_law_330 1 rfl rfl ?_
  refine N_aload_n (pc' := 332) C dL_law_331 0 rfl rfl ?_
  refine N_iload_n (pc' := 333) C dL_law_332 3 rfl rfl ?_
  refine N_iconst (pc' := 334) (v := (1 : Int32)) C dL_law_333 (by decide) rfl ?_
  refine N_iadd (pc' := 335) C dL_law_334 rfl ?_
  refine N_sald (pc' := 336) C hX v1 dL_law_335 rfl ?_
  refine N_aload_n (pc' := 337) C dL_law_336 0 rfl rfl ?_
  refine N_iload_n (pc' := 338) C dL_law_337 3 rfl rfl ?_
  refine N_iconst (pc' := 339) (v := (2 : Int32)) C dL_law_338 (by decide) rfl ?_
  refine N_iadd (pc' := 340) C dL_law_339 rfl ?_
  refine N_sald (pc' := 341) C hX v2 dL_law_340 rfl ?_
  refine L_call (pc' := 344) (σ' := σ') (v := anKin B (xs (i + 1).toNatClampNeg) (xs (i + 2).toNatClampNeg)) C [] (wM (zwd ω am 26) τ ++ []) [.int (xs (i + 1).toNatClampNeg), .int (xs (i + 2).toNatClampNeg)] (adrD ω ad) (c_X7_kin (zwd ω ad 36) 200 σ (xs (i + 1).toNatClampNeg) (xs (i + 2).toNatClampNeg) _ eD) (fun _ _ h => ⟨congrArg Prod.fst h, congrArg Prod.snd h⟩) sg_X7_kin gL_law_X7_kin wD_0 rfl ⟨Nat.le_of_ble_eq_true rfl, Nat.le_of_ble_eq_true rfl⟩ rfl rfl (Nat.le_of_ble_eq_true rfl) ⟨Nat.le_of_ble_eq_true rfl, Nat.le_of_ble_eq_true rfl⟩ dL_law_341 rfl ?_
  refine N_aload_n (pc' := 345) C dL_law_344 2 rfl rfl ?_
  refine N_aload_n (pc' := 346) C dL_law_345 0 rfl rfl ?_
  refine N_iload_n (pc' := 347) C dL_law_346 3 rfl rfl ?_
  refine N_iconst (pc' := 348) (v := (1 : Int32)) C dL_law_347 (by decide) rfl ?_
  refine N_iadd (pc' := 349) C dL_law_348 rfl ?_
  refine N_sald (pc' := 350) C hX v1 dL_law_349 rfl ?_
  refine N_aload_n (pc' := 351) C dL_law_350 0 rfl rfl ?_
  refine N_iload_n (pc' := 352) C dL_law_351 3 rfl rfl ?_
  refine N_iconst (pc' := 353) (v := (2 : Int32)) C dL_law_352 (by decide) rfl ?_
  refine N_iadd (pc' := 354) C dL_law_353 rfl ?_
  refine N_sald (pc' := 355) C hX v2 dL_law_354 rfl ?_
  refine L_call (pc' := 358) (σ' := τ') (v := anKin B (xs (i + 1).toNatClampNeg) (xs (i + 2).toNatClampNeg)) C (wD (zwd ω ad 36) σ') [] [.int (xs (i + 1).toNatClampNeg), .int (xs (i + 2).toNatClampNeg)] (adrM ω am) (c_X8_kin (zwd ω am 26) 200 τ (xs (i + 1).toNatClampNeg) (xs (i + 2).toNatClampNeg) _ eM) (fun _ _ h => ⟨congrArg Prod.fst h, congrArg Prod.snd h⟩) sg_X8_kin gL_law_X8_kin wM_0 rfl ⟨Nat.le_of_ble_eq_true rfl, Nat.le_of_ble_eq_true rfl⟩ rfl rfl (Nat.le_of_ble_eq_true rfl) ⟨Nat.le_of_ble_eq_true rfl, Nat.le_of_ble_eq_true rfl⟩ dL_law_355 rfl ?_
  refine N_eq_t (tgt := 865) C dL_law_358 (by decide) rfl ?_
  exact g _ _ rD rM
set_option maxHeartbeats 4000000 in
set_option maxRecDepth 100000 in
theorem cs_friend (C : CN ω κ A code wsL_law RL 4 room_1) (hX : zX κ A b L xs) (h : RD B σ) (h2 : RM B τ) (hw : WF B) (v1 : vp_in (i + 1) L) (v2 : vp_in (i + 2) L) (g : ∀ σ' τ', RD (nxFriend B (xs (i + 1).toNatClampNeg) (xs (i + 2).toNatClampNeg)) σ' → RM (nxFriend B (xs (i + 1).toNatClampNeg) (xs (i + 2).toNatClampNeg)) τ' → GN ω κ A 865 (lvL b ad am i) [] (wL ω ad am σ' τ') 62 2058) : GN ω κ A 363 (lvL b ad am i) [] (wL ω ad am σ τ) 62 2058 := by
  obtain ⟨σ', eD, rD⟩ := qD_friend h hw (xs (i + 1).toNatClampNeg) (xs (i + 2).toNatClampNeg)
  obtain ⟨τ', eM, rM⟩ := qM_friend h2 hw (xs (i + 1).toNatClampNeg) (xs (i + 2).toNatClampNeg)
  refine N_aload_n (pc' := 364) C dL_law_363 1 rfl rfl ?_
  refine N_aload_n (pc' := 365) C dL_law_364 0 rfl rfl ?_
  refine N_iload_n (pc' := 366) C dL_law_365 3 rfl rfl ?_
  refine N_iconst (pc' := 367) (v := (1 : Int32)) C dL_law_366 (by decide) rfl ?_
  refine N_iadd (pc' := 368) C dL_law_367 rfl ?_
  refine N_sald (pc' := 369) C hX v1 dL_law_368 rfl ?_
  refine N_aload_n (pc' := 370) C dL_law_369 0 rfl rfl ?_
  refine N_iload_n (pc' := 371) C dL_law_370 3 rfl rfl ?_
  refine N_iconst (pc' := 372) (v := (2 : Int32)) C dL_law_371 (by decide) rfl ?_
  refine N_iadd (pc' := 373) C dL_law_372 rfl ?_
  refine N_sald (pc' := 374) C hX v2 dL_law_373 rfl ?_
  refine L_call (pc' := 377) (σ' := σ') (v := anFriend B (xs (i + 1).toNatClampNeg) (xs (i + 2).toNatClampNeg)) C [] (wM (zwd ω am 26) τ ++ []) [.int (xs (i + 1).toNatClampNeg), .int (xs (i + 2).toNatClampNeg)] (adrD ω ad) (c_X7_friend (zwd ω ad 36) 200 σ (xs (i + 1).toNatClampNeg) (xs (i + 2).toNatClampNeg) _ eD) (fun _ _ h => ⟨congrArg Prod.fst h, congrArg Prod.snd h⟩) sg_X7_friend gL_law_X7_friend wD_0 rfl ⟨Nat.le_of_ble_eq_true rfl, Nat.le_of_ble_eq_true rfl⟩ rfl rfl (Nat.le_of_ble_eq_true rfl) ⟨Nat.le_of_ble_eq_true rfl, Nat.le_of_ble_eq_true rfl⟩ dL_law_374 rfl ?_
  refine N_aload_n (pc' := 378) C dL_law_377 2 rfl rfl ?_
  refine N_aload_n (pc' := 379) C dL_law_378 0 rfl rfl ?_
  refine N_iload_n (pc' := 380) C dL_law_379 3 rfl rfl ?_
  refine N_iconst (pc' := 381) (v := (1 : Int32)) C dL_law_380 (by decide) rfl ?_
  refine N_iadd (pc' := 382) C dL_law_381 rfl ?_
  refine N_sald (pc' := 383) C hX v1 dL_law_382 rfl ?_
  refine N_aload_n (pc' := 384) C dL_law_383 0 rfl rfl ?_
  refine N_iload_n (pc' := 385) C dL_law_384 3 rfl rfl ?_
  refine N_iconst (pc' := 386) (v := (2 : Int32)) C dL_law_385 (by decide) rfl ?_
  refine N_iadd (pc' := 387) C dL_law_386 rfl ?_
  refine N_sald (pc' := 388) C hX v2 dL_law_387 rfl ?_
  refine L_call (pc' := 391) (σ' := τ') (v := anFriend B (xs (i + 1).toNatClampNeg) (xs (i + 2).toNatClampNeg)) C (wD (zwd ω ad 36) σ') [] [.int (xs (i + 1).toNatClampNeg), .int (xs (i + 2).toNatClampNeg)] (adrM ω am) (c_X8_friend (zwd ω am 26) 200 τ (xs (i + 1).toNatClampNeg) (xs (i + 2).toNatClampNeg) _ eM) (fun _ _ h => ⟨congrArg Prod.fst h, congrArg Prod.snd h⟩) sg_X8_friend gL_law_X8_friend wM_0 rfl ⟨Nat.le_of_ble_eq_true rfl, Nat.le_of_ble_eq_true rfl⟩ rfl rfl (Nat.le_of_ble_eq_true rfl) ⟨Nat.le_of_ble_eq_true rfl, Nat.le_of_ble_eq_true rfl⟩ dL_law_388 rfl ?_
  refine N_eq_t (tgt := 865) C dL_law_391 (by decide) rfl ?_
  exact g _ _ rD rM
set_option maxHeartbeats 4000000 in
set_option maxRecDepth 100000 in
theorem cs_load (C : CN ω κ A code wsL_law RL 4 room_1) (hX : zX κ A b L xs) (h : RD B σ) (h2 : RM B τ) (hw : WF B)  (g : ∀ σ' τ', RD (B) σ' → RM (B) τ' → GN ω κ A 865 (lvL b ad am i) [] (wL ω ad am σ' τ') 62 2058) : GN ω κ A 396 (lvL b ad am i) [] (wL ω ad am σ τ) 62 2058 := by
  obtain ⟨σ', eD, rD⟩ := qD_load h hw 
  have eM := qM_load h2 hw 
  refine N_aload_n (pc' := 397) C dL_law_396 1 rfl rfl ?_
  refine L_call (pc' := 400) (σ' := σ') (v := anLoad B) C [] (wM (zwd ω am 26) τ ++ []) [] (adrD ω ad) (c_X7_load (zwd ω ad 36) 200 σ  _ eD) (fun _ _ h => ⟨congrArg Prod.fst h, congrArg Prod.snd h⟩) sg_X7_load gL_law_X7_load wD_0 rfl ⟨Nat.le_of_ble_eq_true rfl, Nat.le_of_ble_eq_true rfl⟩ rfl rfl (Nat.le_of_ble_eq_true rfl) ⟨Nat.le_of_ble_eq_true rfl, Nat.le_of_ble_eq_true rfl⟩ dL_law_397 rfl ?_
  refine N_aload_n (pc' := 401) C dL_law_400 2 rfl rfl ?_
  refine L_call (pc' := 404) (σ' := τ) (v := anLoad B) C (wD (zwd ω ad 36) σ') [] [] (adrM ω am) (c_X8_load (zwd ω am 26) 200 τ  _ eM) (fun _ _ h => h) sg_X8_load gL_law_X8_load wM_0 rfl ⟨Nat.le_of_ble_eq_true rfl, Nat.le_of_ble_eq_true rfl⟩ rfl rfl (Nat.le_of_ble_eq_true rfl) ⟨Nat.le_of_ble_eq_true rfl, Nat.le_of_ble_eq_true rfl⟩ dL_law_401 rfl ?_
  refine N_eq_t (tgt := 865) C dL_law_404 (by decide) rfl ?_
  exact g _ _ rD h2
set_option maxHeartbeats 4000000 in
set_option maxRecDepth 100000 in
theorem cs_mark (C : CN ω κ A code wsL_law RL 4 room_1) (hX : zX κ A b L xs) (h : RD B σ) (h2 : RM B τ) (hw : WF B) (v1 : vp_in (i + 1) L) (v2 : vp_in (i + 2) L) (v3 : vp_in (i + 3) L) (g : ∀ σ' τ', RD (nxMark B (xs (i + 1).toNatClampNeg) (xs (i + 2).toNatClampNeg) (xs (i + 3).toNatClampNeg)) σ' → RM (nxMark B (xs (i + 1).toNatClampNeg) (xs (i + 2).toNatClampNeg) (xs (i + 3).toNatClampNeg)) τ' → GN ω κ A 865 (lvL b ad am i) [] (wL ω ad am σ' τ') 62 2058) : GN ω κ A 409 (lvL b ad am i) [] (wL ω ad am σ τ) 62 2058 := by
  obtain ⟨σ', eD, rD⟩ := qD_mark h hw (xs (i + 1).toNatClampNeg) (xs (i + 2).toNatClampNeg) (xs (i + 3).toNatClampNeg)
  obtain ⟨τ', eM, rM⟩ := qM_mark h2 hw (xs (i + 1).toNatClampNeg) (xs (i + 2).toNatClampNeg) (xs (i + 3).toNatClampNeg)
  refine N_aload_n (pc' := 410) C dL_law_409 1 rfl rfl ?_
  refine N_aload_n (pc' := 411) C dL_law_410 0 rfl rfl ?_
  refine N_iload_n (pc' := 412) C dL_law_411 3 rfl rfl ?_
  refine N_iconst (pc' := 413) (v := (1 : Int32)) C dL_law_412 (by decide) rfl ?_
  refine N_iadd (pc' := 414) C dL_law_413 rfl ?_
  refine N_sald (pc' := 415) C hX v1 dL_law_414 rfl ?_
  refine N_aload_n (pc' := 416) C dL_law_415 0 rfl rfl ?_
  refine N_iload_n (pc' := 417) C dL_law_416 3 rfl rfl ?_
  refine N_iconst (pc' := 418) (v := (2 : Int32)) C dL_law_417 (by decide) rfl ?_
  refine N_iadd (pc' := 419) C dL_law_418 rfl ?_
  refine N_sald (pc' := 420) C hX v2 dL_law_419 rfl ?_
  refine N_aload_n (pc' := 421) C dL_law_420 0 rfl rfl ?_
  refine N_iload_n (pc' := 422) C dL_law_421 3 rfl rfl ?_
  refine N_iconst (pc' := 423) (v := (3 : Int32)) C dL_law_422 (by decide) rfl ?_
  refine N_iadd (pc' := 424) C dL_law_423 rfl ?_
  refine N_sald (pc' := 425) C hX v3 dL_law_424 rfl ?_
  refine L_call (pc' := 428) (σ' := σ') (v := anMark B (xs (i + 1).toNatClampNeg) (xs (i + 2).toNatClampNeg) (xs (i + 3).toNatClampNeg)) C [] (wM (zwd ω am 26) τ ++ []) [.int (xs (i + 1).toNatClampNeg), .int (xs (i + 2).toNatClampNeg), .int (xs (i + 3).toNatClampNeg)] (adrD ω ad) (c_X7_mark (zwd ω ad 36) 200 σ (xs (i + 1).toNatClampNeg) (xs (i + 2).toNatClampNeg) (xs (i + 3).toNatClampNeg) _ eD) (fun _ _ h => ⟨congrArg Prod.fst h, congrArg Prod.snd h⟩) sg_X7_mark gL_law_X7_mark wD_0 rfl ⟨Nat.le_of_ble_eq_true rfl, Nat.le_of_ble_eq_true rfl⟩ rfl rfl (Nat.le_of_ble_eq_true rfl) ⟨Nat.le_of_ble_eq_true rfl, Nat.le_of_ble_eq_true rfl⟩ dL_law_425 rfl ?_
  refine N_aload_n (pc' := 429) C dL_law_428 2 rfl rfl ?_
  refine N_aload_n (pc' := 430) C dL_law_429 0 rfl rfl ?_
  refine N_iload_n (pc' := 431) C dL_law_430 3 rfl rfl ?_
  refine N_iconst (pc' := 432) (v := (1 : Int32)) C dL_law_431 (by decide) rfl ?_
  refine N_iadd (pc' := 433) C dL_law_432 rfl ?_
  refine N_sald (pc' := 434) C hX v1 dL_law_433 rfl ?_
  refine N_aload_n (pc' := 435) C dL_law_434 0 rfl rfl ?_
  refine N_iload_n (pc' := 436) C dL_law_435 3 rfl rfl ?_
  refine N_iconst (pc' := 437) (v := (2 : Int32)) C dL_law_436 (by decide) rfl ?_
  refine N_iadd (pc' := 438) C dL_law_437 rfl ?_
  refine N_sald (pc' := 439) C hX v2 dL_law_438 rfl ?_
  refine N_aload_n (pc' := 440) C dL_law_439 0 rfl rfl ?_
  refine N_iload_n (pc' := 441) C dL_law_440 3 rfl rfl ?_
  refine N_iconst (pc' := 442) (v := (3 : Int32)) C dL_law_441 (by decide) rfl ?_
  refine N_iadd (pc' := 443) C dL_law_442 rfl ?_
  refine N_sald (pc' := 444) C hX v3 dL_law_443 rfl ?_
  refine L_call (pc' := 447) (σ' := τ') (v := anMark B (xs (i + 1).toNatClampNeg) (xs (i + 2).toNatClampNeg) (xs (i + 3).toNatClampNeg)) C (wD (zwd ω ad 36) σ') [] [.int (xs (i + 1).toNatClampNeg), .int (xs (i + 2).toNatClampNeg), .int (xs (i + 3).toNatClampNeg)] (adrM ω am) (c_X8_mark (zwd ω am 26) 200 τ (xs (i + 1).toNatClampNeg) (xs (i + 2).toNatClampNeg) (xs (i + 3).toNatClampNeg) _ eM) (fun _ _ h => ⟨congrArg Prod.fst h, congrArg Prod.snd h⟩) sg_X8_mark gL_law_X8_mark wM_0 rfl ⟨Nat.le_of_ble_eq_true rfl, Nat.le_of_ble_eq_true rfl⟩ rfl rfl (Nat.le_of_ble_eq_true rfl) ⟨Nat.le_of_ble_eq_true rfl, Nat.le_of_ble_eq_true rfl⟩ dL_law_444 rfl ?_
  refine N_eq_t (tgt := 865) C dL_law_447 (by decide) rfl ?_
  exact g _ _ rD rM
set_option maxHeartbeats 4000000 in
set_option maxRecDepth 100000 in
theorem cs_met (C : CN ω κ A code wsL_law RL 4 room_1) (hX : zX κ A b L xs) (h : RD B σ) (h2 : RM B τ) (hw : WF B) (v1 : vp_in (i + 1) L) (v2 : vp_in (i + 2) L) (v3 : vp_in (i + 3) L) (g : ∀ σ' τ', RD (B) σ' → RM (B) τ' → GN ω κ A 865 (lvL b ad am i) [] (wL ω ad am σ' τ') 62 2058) : GN ω κ A 452 (lvL b ad am i) [] (wL ω ad am σ τ) 62 2058 := by
  have eD := qD_met h hw (xs (i + 1).toNatClampNeg) (xs (i + 2).toNatClampNeg) (xs (i + 3).toNatClampNeg)
  have eM := qM_met h2 hw (xs (i + 1).toNatClampNeg) (xs (i + 2).toNatClampNeg) (xs (i + 3).toNatClampNeg)
  refine N_aload_n (pc' := 453) C dL_law_452 1 rfl rfl ?_
  refine N_aload_n (pc' := 454) C dL_law_453 0 rfl rfl ?_
  refine N_iload_n (pc' := 455) C dL_law_454 3 rfl rfl ?_
  refine N_iconst (pc' := 456) (v := (1 : Int32)) C dL_law_455 (by decide) rfl ?_
  refine N_iadd (pc' := 457) C dL_law_456 rfl ?_
  refine N_sald (pc' := 458) C hX v1 dL_law_457 rfl ?_
  refine N_aload_n (pc' := 459) C dL_law_458 0 rfl rfl ?_
  refine N_iload_n (pc' := 460) C dL_law_459 3 rfl rfl ?_
  refine N_iconst (pc' := 461) (v := (2 : Int32)) C dL_law_460 (by decide) rfl ?_
  refine N_iadd (pc' := 462) C dL_law_461 rfl ?_
  refine N_sald (pc' := 463) C hX v2 dL_law_462 rfl ?_
  refine N_aload_n (pc' := 464) C dL_law_463 0 rfl rfl ?_
  refine N_iload_n (pc' := 465) C dL_law_464 3 rfl rfl ?_
  refine N_iconst (pc' := 466) (v := (3 : Int32)) C dL_law_465 (by decide) rfl ?_
  refine N_iadd (pc' := 467) C dL_law_466 rfl ?_
  refine N_sald (pc' := 468) C hX v3 dL_law_467 rfl ?_
  refine L_call (pc' := 471) (σ' := σ) (v := anMet B (xs (i + 1).toNatClampNeg) (xs (i + 2).toNatClampNeg) (xs (i + 3).toNatClampNeg)) C [] (wM (zwd ω am 26) τ ++ []) [.int (xs (i + 1).toNatClampNeg), .int (xs (i + 2).toNatClampNeg), .int (xs (i + 3).toNatClampNeg)] (adrD ω ad) (c_X7_met (zwd ω ad 36) 200 σ (xs (i + 1).toNatClampNeg) (xs (i + 2).toNatClampNeg) (xs (i + 3).toNatClampNeg) _ eD) (fun _ _ h => h) sg_X7_met gL_law_X7_met wD_0 rfl ⟨Nat.le_of_ble_eq_true rfl, Nat.le_of_ble_eq_true rfl⟩ rfl rfl (Nat.le_of_ble_eq_true rfl) ⟨Nat.le_of_ble_eq_true rfl, Nat.le_of_ble_eq_true rfl⟩ dL_law_468 rfl ?_
  refine N_aload_n (pc' := 472) C dL_law_471 2 rfl rfl ?_
  refine N_aload_n (pc' := 473) C dL_law_472 0 rfl rfl ?_
  refine N_iload_n (pc' := 474) C dL_law_473 3 rfl rfl ?_
  refine N_iconst (pc' := 475) (v := (1 : Int32)) C dL_law_474 (by decide) rfl ?_
  refine N_iadd (pc' := 476) C dL_law_475 rfl ?_
  refine N_sald (pc' := 477) C hX v1 dL_law_476 rfl ?_
  refine N_aload_n (pc' := 478) C dL_law_477 0 rfl rfl ?_
  refine N_iload_n (pc' := 479) C dL_law_478 3 rfl rfl ?_
  refine N_iconst (pc' := 480) (v := (2 : Int32)) C dL_law_479 (by decide) rfl ?_
  refine N_iadd (pc' := 481) C dL_law_480 rfl ?_
  refine N_sald (pc' := 482) C hX v2 dL_law_481 rfl ?_
  refine N_aload_n (pc' := 483) C dL_law_482 0 rfl rfl ?_
  refine N_iload_n (pc' := 484) C dL_law_483 3 rfl rfl ?_
  refine N_iconst (pc' := 485) (v := (3 : Int32)) C dL_law_484 (by decide) rfl ?_
  refine N_iadd (pc' := 486) C dL_law_485 rfl ?_
  refine N_sald (pc' := 487) C hX v3 dL_law_486 rfl ?_
  refine L_call (pc' := 490) (σ' := τ) (v := anMet B (xs (i + 1).toNatClampNeg) (xs (i + 2).toNatClampNeg) (xs (i + 3).toNatClampNeg)) C (wD (zwd ω ad 36) σ) [] [.int (xs (i + 1).toNatClampNeg), .int (xs (i + 2).toNatClampNeg), .int (xs (i + 3).toNatClampNeg)] (adrM ω am) (c_X8_met (zwd ω am 26) 200 τ (xs (i + 1).toNatClampNeg) (xs (i + 2).toNatClampNeg) (xs (i + 3).toNatClampNeg) _ eM) (fun _ _ h => h) sg_X8_met gL_law_X8_met wM_0 rfl ⟨Nat.le_of_ble_eq_true rfl, Nat.le_of_ble_eq_true rfl⟩ rfl rfl (Nat.le_of_ble_eq_true rfl) ⟨Nat.le_of_ble_eq_true rfl, Nat.le_of_ble_eq_true rfl⟩ dL_law_487 rfl ?_
  refine N_eq_t (tgt := 865) C dL_law_490 (by decide) rfl ?_
  exact g _ _ h h2
set_option maxHeartbeats 4000000 in
set_option maxRecDepth 100000 in
theorem cs_third (C : CN ω κ A code wsL_law RL 4 room_1) (hX : zX κ A b L xs) (h : RD B σ) (h2 : RM B τ) (hw : WF B) (v1 : vp_in (i + 1) L) (g : ∀ σ' τ', RD (B) σ' → RM (B) τ' → GN ω κ A 865 (lvL b ad am i) [] (wL ω ad am σ' τ') 62 2058) : GN ω κ A 495 (lvL b ad am i) [] (wL ω ad am σ τ) 62 2058 := by
  obtain ⟨σ', eD, rD⟩ := qD_third h hw (xs (i + 1).toNatClampNeg)
  have eM := qM_third h2 hw (xs (i + 1).toNatClampNeg)
  refine N_aload_n (pc' := 496) C dL_law_495 1 rfl rfl ?_
  refine N_aload_n (pc' := 497) C dL_law_496 0 rfl rfl ?_
  refine N_iload_n (pc' := 498) C dL_law_497 3 rfl rfl ?_
  refine N_iconst (pc' := 499) (v := (1 : Int32)) C dL_law_498 (by decide) rfl ?_
  refine N_iadd (pc' := 500) C dL_law_499 rfl ?_
  refine N_sald (pc' := 501) C hX v1 dL_law_500 rfl ?_
  refine L_call (pc' := 504) (σ' := σ') (v := nthI (wth B) (xs (i + 1).toNatClampNeg)) C [] (wM (zwd ω am 26) τ ++ []) [.int (xs (i + 1).toNatClampNeg)] (adrD ω ad) (c_X7_third (zwd ω ad 36) 200 σ (xs (i + 1).toNatClampNeg) _ eD) (fun _ _ h => ⟨congrArg Prod.fst h, congrArg Prod.snd h⟩) sg_X7_third gL_law_X7_third wD_0 rfl ⟨Nat.le_of_ble_eq_true rfl, Nat.le_of_ble_eq_true rfl⟩ rfl rfl (Nat.le_of_ble_eq_true rfl) ⟨Nat.le_of_ble_eq_true rfl, Nat.le_of_ble_eq_true rfl⟩ dL_law_501 rfl ?_
  refine N_aload_n (pc' := 505) C dL_law_504 2 rfl rfl ?_
  refine N_aload_n (pc' := 506) C dL_law_505 0 rfl rfl ?_
  refine N_iload_n (pc' := 507) C dL_law_506 3 rfl rfl ?_
  refine N_iconst (pc' := 508) (v := (1 : Int32)) C dL_law_507 (by decide) rfl ?_
  refine N_iadd (pc' := 509) C dL_law_508 rfl ?_
  refine N_sald (pc' := 510) C hX v1 dL_law_509 rfl ?_
  refine L_call (pc' := 513) (σ' := τ) (v := nthI (wth B) (xs (i + 1).toNatClampNeg)) C (wD (zwd ω ad 36) σ') [] [.int (xs (i + 1).toNatClampNeg)] (adrM ω am) (c_X8_third (zwd ω am 26) 200 τ (xs (i + 1).toNatClampNeg) _ eM) (fun _ _ h => h) sg_X8_third gL_law_X8_third wM_0 rfl ⟨Nat.le_of_ble_eq_true rfl, Nat.le_of_ble_eq_true rfl⟩ rfl rfl (Nat.le_of_ble_eq_true rfl) ⟨Nat.le_of_ble_eq_true rfl, Nat.le_of_ble_eq_true rfl⟩ dL_law_510 rfl ?_
  refine N_eq_t (tgt := 865) C dL_law_513 (by decide) rfl ?_
  exact g _ _ rD h2
set_option maxHeartbeats 4000000 in
set_option maxRecDepth 100000 in
theorem cs_ballot (C : CN ω κ A code wsL_law RL 4 room_1) (hX : zX κ A b L xs) (h : RD B σ) (h2 : RM B τ) (hw : WF B) (v1 : vp_in (i + 1) L) (v2 : vp_in (i + 2) L) (v3 : vp_in (i + 3) L) (v4 : vp_in (i + 4) L) (g : ∀ σ' τ', RD (nxBallot B (xs (i + 1).toNatClampNeg) (xs (i + 2).toNatClampNeg) (xs (i + 3).toNatClampNeg) (xs (i + 4).toNatClampNeg)) σ' → RM (nxBallot B (xs (i + 1).toNatClampNeg) (xs (i + 2).toNatClampNeg) (xs (i + 3).toNatClampNeg) (xs (i + 4).toNatClampNeg)) τ' → GN ω κ A 865 (lvL b ad am i) [] (wL ω ad am σ' τ') 62 2058) : GN ω κ A 518 (lvL b ad am i) [] (wL ω ad am σ τ) 62 2058 := by
  obtain ⟨σ', eD, rD⟩ := qD_ballot h hw (xs (i + 1).toNatClampNeg) (xs (i + 2).toNatClampNeg) (xs (i + 3).toNatClampNeg) (xs (i + 4).toNatClampNeg)
  obtain ⟨τ', eM, rM⟩ := qM_ballot h2 hw (xs (i + 1).toNatClampNeg) (xs (i + 2).toNatClampNeg) (xs (i + 3).toNatClampNeg) (xs (i + 4).toNatClampNeg)
  refine N_aload_n (pc' := 519) C dL_law_518 1 rfl rfl ?_
  refine N_aload_n (pc' := 520) C dL_law_519 0 rfl rfl ?_
  refine N_iload_n (pc' := 521) C dL_law_520 3 rfl rfl ?_
  refine N_iconst (pc' := 522) (v := (1 : Int32)) C dL_law_521 (by decide) rfl ?_
  refine N_iadd (pc' := 523) C dL_law_522 rfl ?_
  refine N_sald (pc' := 524) C hX v1 dL_law_523 rfl ?_
  refine N_aload_n (pc' := 525) C dL_law_524 0 rfl rfl ?_
  refine N_iload_n (pc' := 526) C dL_law_525 3 rfl rfl ?_
  refine N_iconst (pc' := 527) (v := (2 : Int32)) C dL_law_526 (by decide) rfl ?_
  refine N_iadd (pc' := 528) C dL_law_527 rfl ?_
  refine N_sald (pc' := 529) C hX v2 dL_law_528 rfl ?_
  refine N_aload_n (pc' := 530) C dL_law_529 0 rfl rfl ?_
  refine N_iload_n (pc' := 531) C dL_law_530 3 rfl rfl ?_
  refine N_iconst (pc' := 532) (v := (3 : Int32)) C dL_law_531 (by decide) rfl ?_
  refine N_iadd (pc' := 533) C dL_law_532 rfl ?_
  refine N_sald (pc' := 534) C hX v3 dL_law_533 rfl ?_
  refine N_aload_n (pc' := 535) C dL_law_534 0 rfl rfl ?_
  refine N_iload_n (pc' := 536) C dL_law_535 3 rfl rfl ?_
  refine N_iconst (pc' := 537) (v := (4 : Int32)) C dL_law_536 (by decide) rfl ?_
  refine N_iadd (pc' := 538) C dL_law_537 rfl ?_
  refine N_sald (pc' := 539) C hX v4 dL_law_538 rfl ?_
  refine L_call (pc' := 542) (σ' := σ') (v := anBallot B (xs (i + 1).toNatClampNeg) (xs (i + 2).toNatClampNeg) (xs (i + 3).toNatClampNeg) (xs (i + 4).toNatClampNeg)) C [] (wM (zwd ω am 26) τ ++ []) [.int (xs (i + 1).toNatClampNeg), .int (xs (i + 2).toNatClampNeg), .int (xs (i + 3).toNatClampNeg), .int (xs (i + 4).toNatClampNeg)] (adrD ω ad) (c_X7_ballot (zwd ω ad 36) 200 σ (xs (i + 1).toNatClampNeg) (xs (i + 2).toNatClampNeg) (xs (i + 3).toNatClampNeg) (xs (i + 4).toNatClampNeg) _ eD) (fun _ _ h => ⟨congrArg Prod.fst h, congrArg Prod.snd h⟩) sg_X7_ballot gL_law_X7_ballot wD_0 rfl ⟨Nat.le_of_ble_eq_true rfl, Nat.le_of_ble_eq_true rfl⟩ rfl rfl (Nat.le_of_ble_eq_true rfl) ⟨Nat.le_of_ble_eq_true rfl, Nat.le_of_ble_eq_true rfl⟩ dL_law_539 rfl ?_
  refine N_aload_n (pc' := 543) C dL_law_542 2 rfl rfl ?_
  refine N_aload_n (pc' := 544) C dL_law_543 0 rfl rfl ?_
  refine N_iload_n (pc' := 545) C dL_law_544 3 rfl rfl ?_
  refine N_iconst (pc' := 546) (v := (1 : Int32)) C dL_law_545 (by decide) rfl ?_
  refine N_iadd (pc' := 547) C dL_law_546 rfl ?_
  refine N_sald (pc' := 548) C hX v1 dL_law_547 rfl ?_
  refine N_aload_n (pc' := 549) C dL_law_548 0 rfl rfl ?_
  refine N_iload_n (pc' := 550) C dL_law_549 3 rfl rfl ?_
  refine N_iconst (pc' := 551) (v := (2 : Int32)) C dL_law_550 (by decide) rfl ?_
  refine N_iadd (pc' := 552) C dL_law_551 rfl ?_
  refine N_sald (pc' := 553) C hX v2 dL_law_552 rfl ?_
  refine N_aload_n (pc' := 554) C dL_law_553 0 rfl rfl ?_
  refine N_iload_n (pc' := 555) C dL_law_554 3 rfl rfl ?_
  refine N_iconst (pc' := 556) (v := (3 : Int32)) C dL_law_555 (by decide) rfl ?_
  refine N_iadd (pc' := 557) C dL_law_556 rfl ?_
  refine N_sald (pc' := 558) C hX v3 dL_law_557 rfl ?_
  refine N_aload_n (pc' := 559) C dL_law_558 0 rfl rfl ?_
  refine N_iload_n (pc' := 560) C dL_law_559 3 rfl rfl ?_
  refine N_iconst (pc' := 561) (v := (4 : Int32)) C dL_law_560 (by decide) rfl ?_
  refine N_iadd (pc' := 562) C dL_law_561 rfl ?_
  refine N_sald (pc' := 563) C hX v4 dL_law_562 rfl ?_
  refine L_call (pc' := 566) (σ' := τ') (v := anBallot B (xs (i + 1).toNatClampNeg) (xs (i + 2).toNatClampNeg) (xs (i + 3).toNatClampNeg) (xs (i + 4).toNatClampNeg)) C (wD (zwd ω ad 36) σ') [] [.int (xs (i + 1).toNatClampNeg), .int (xs (i + 2).toNatClampNeg), .int (xs (i + 3).toNatClampNeg), .int (xs (i + 4).toNatClampNeg)] (adrM ω am) (c_X8_ballot (zwd ω am 26) 200 τ (xs (i + 1).toNatClampNeg) (xs (i + 2).toNatClampNeg) (xs (i + 3).toNatClampNeg) (xs (i + 4).toNatClampNeg) _ eM) (fun _ _ h => ⟨congrArg Prod.fst h, congrArg Prod.snd h⟩) sg_X8_ballot gL_law_X8_ballot wM_0 rfl ⟨Nat.le_of_ble_eq_true rfl, Nat.le_of_ble_eq_true rfl⟩ rfl rfl (Nat.le_of_ble_eq_true rfl) ⟨Nat.le_of_ble_eq_true rfl, Nat.le_of_ble_eq_true rfl⟩ dL_law_563 rfl ?_
  refine N_eq_t (tgt := 865) C dL_law_566 (by decide) rfl ?_
  exact g _ _ rD rM
set_option maxHeartbeats 4000000 in
set_option maxRecDepth 100000 in
theorem cs_close (C : CN ω κ A code wsL_law RL 4 room_1) (hX : zX κ A b L xs) (h : RD B σ) (h2 : RM B τ) (hw : WF B) (v1 : vp_in (i + 1) L) (v2 : vp_in (i + 2) L) (g : ∀ σ' τ', RD (nxClose B (xs (i + 1).toNatClampNeg) (xs (i + 2).toNatClampNeg)) σ' → RM (nxClose B (xs (i + 1).toNatClampNeg) (xs (i + 2).toNatClampNeg)) τ' → GN ω κ A 865 (lvL b ad am i) [] (wL ω ad am σ' τ') 62 2058) : GN ω κ A 571 (lvL b ad am i) [] (wL ω ad am σ τ) 62 2058 := by
  obtain ⟨σ', eD, rD⟩ := qD_close h hw (xs (i + 1).toNatClampNeg) (xs (i + 2).toNatClampNeg)
  obtain ⟨τ', eM, rM⟩ := qM_close h2 hw (xs (i + 1).toNatClampNeg) (xs (i + 2).toNatClampNeg)
  refine N_aload_n (pc' := 572) C dL_law_571 1 rfl rfl ?_
  refine N_aload_n (pc' := 573) C dL_law_572 0 rfl rfl ?_
  refine N_iload_n (pc' := 574) C dL_law_573 3 rfl rfl ?_
  refine N_iconst (pc' := 575) (v := (1 : Int32)) C dL_law_574 (by decide) rfl ?_
  refine N_iadd (pc' := 576) C dL_law_575 rfl ?_
  refine N_sald (pc' := 577) C hX v1 dL_law_576 rfl ?_
  refine N_aload_n (pc' := 578) C dL_law_577 0 rfl rfl ?_
  refine N_iload_n (pc' := 579) C dL_law_578 3 rfl rfl ?_
  refine N_iconst (pc' := 580) (v := (2 : Int32)) C dL_law_579 (by decide) rfl ?_
  refine N_iadd (pc' := 581) C dL_law_580 rfl ?_
  refine N_sald (pc' := 582) C hX v2 dL_law_581 rfl ?_
  refine L_call (pc' := 585) (σ' := σ') (v := anClose (xs (i + 1).toNatClampNeg) (xs (i + 2).toNatClampNeg)) C [] (wM (zwd ω am 26) τ ++ []) [.int (xs (i + 1).toNatClampNeg), .int (xs (i + 2).toNatClampNeg)] (adrD ω ad) (c_X7_close (zwd ω ad 36) 200 σ (xs (i + 1).toNatClampNeg) (xs (i + 2).toNatClampNeg) _ eD) (fun _ _ h => ⟨congrArg Prod.fst h, congrArg Prod.snd h⟩) sg_X7_close gL_law_X7_close wD_0 rfl ⟨Nat.le_of_ble_eq_true rfl, Nat.le_of_ble_eq_true rfl⟩ rfl rfl (Nat.le_of_ble_eq_true rfl) ⟨Nat.le_of_ble_eq_true rfl, Nat.le_of_ble_eq_true rfl⟩ dL_law_582 rfl ?_
  refine N_aload_n (pc' := 586) C dL_law_585 2 rfl rfl ?_
  refine N_aload_n (pc' := 587) C dL_law_586 0 rfl rfl ?_
  refine N_iload_n (pc' := 588) C dL_law_587 3 rfl rfl ?_
  refine N_iconst (pc' := 589) (v := (1 : Int32)) C dL_law_588 (by decide) rfl ?_
  refine N_iadd (pc' := 590) C dL_law_589 rfl ?_
  refine N_sald (pc' := 591) C hX v1 dL_law_590 rfl ?_
  refine N_aload_n (pc' := 592) C dL_law_591 0 rfl rfl ?_
  refine N_iload_n (pc' := 593) C dL_law_592 3 rfl rfl ?_
  refine N_iconst (pc' := 594) (v := (2 : Int32)) C dL_law_593 (by decide) rfl ?_
  refine N_iadd (pc' := 595) C dL_law_594 rfl ?_
  refine N_sald (pc' := 596) C hX v2 dL_law_595 rfl ?_
  refine L_call (pc' := 599) (σ' := τ') (v := anClose (xs (i + 1).toNatClampNeg) (xs (i + 2).toNatClampNeg)) C (wD (zwd ω ad 36) σ') [] [.int (xs (i + 1).toNatClampNeg), .int (xs (i + 2).toNatClampNeg)] (adrM ω am) (c_X8_close (zwd ω am 26) 200 τ (xs (i + 1).toNatClampNeg) (xs (i + 2).toNatClampNeg) _ eM) (fun _ _ h => ⟨congrArg Prod.fst h, congrArg Prod.snd h⟩) sg_X8_close gL_law_X8_close wM_0 rfl ⟨Nat.le_of_ble_eq_true rfl, Nat.le_of_ble_eq_true rfl⟩ rfl rfl (Nat.le_of_ble_eq_true rfl) ⟨Nat.le_of_ble_eq_true rfl, Nat.le_of_ble_eq_true rfl⟩ dL_law_596 rfl ?_
  refine N_eq_t (tgt := 865) C dL_law_599 (by decide) rfl ?_
  exact g _ _ rD rM
set_option maxHeartbeats 4000000 in
set_option maxRecDepth 100000 in
theorem cs_telling (C : CN ω κ A code wsL_law RL 4 room_1) (hX : zX κ A b L xs) (h : RD B σ) (h2 : RM B τ) (hw : WF B) (v1 : vp_in (i + 1) L) (v2 : vp_in (i + 2) L) (g : ∀ σ' τ', RD (nxTelling B (xs (i + 1).toNatClampNeg) (xs (i + 2).toNatClampNeg)) σ' → RM (nxTelling B (xs (i + 1).toNatClampNeg) (xs (i + 2).toNatClampNeg)) τ' → GN ω κ A 865 (lvL b ad am i) [] (wL ω ad am σ' τ') 62 2058) : GN ω κ A 604 (lvL b ad am i) [] (wL ω ad am σ τ) 62 2058 := by
  obtain ⟨σ', eD, rD⟩ := qD_telling h hw (xs (i + 1).toNatClampNeg) (xs (i + 2).toNatClampNeg)
  obtain ⟨τ', eM, rM⟩ := qM_telling h2 hw (xs (i + 1).toNatClampNeg) (xs (i + 2).toNatClampNeg)
  refine N_aload_n (pc' := 605) C dL_law_604 1 rfl rfl ?_
  refine N_aload_n (pc' := 606) C dL_law_605 0 rfl rfl ?_
  refine N_iload_n (pc' := 607) C dL_law_606 3 rfl rfl ?_
  refine N_iconst (pc' := 608) (v := (1 : Int32)) C dL_law_607 (by decide) rfl ?_
  refine N_iadd (pc' := 609) C dL_law_608 rfl ?_
  refine N_sald (pc' := 610) C hX v1 dL_law_609 rfl ?_
  refine N_aload_n (pc' := 611) C dL_law_610 0 rfl rfl ?_
  refine N_iload_n (pc' := 612) C dL_law_611 3 rfl rfl ?_
  refine N_iconst (pc' := 613) (v := (2 : Int32)) C dL_law_612 (by decide) rfl ?_
  refine N_iadd (pc' := 614) C dL_law_613 rfl ?_
  refine N_sald (pc' := 615) C hX v2 dL_law_614 rfl ?_
  refine L_call (pc' := 618) (σ' := σ') (v := anTelling (xs (i + 1).toNatClampNeg) (xs (i + 2).toNatClampNeg)) C [] (wM (zwd ω am 26) τ ++ []) [.int (xs (i + 1).toNatClampNeg), .int (xs (i + 2).toNatClampNeg)] (adrD ω ad) (c_X7_telling (zwd ω ad 36) 200 σ (xs (i + 1).toNatClampNeg) (xs (i + 2).toNatClampNeg) _ eD) (fun _ _ h => ⟨congrArg Prod.fst h, congrArg Prod.snd h⟩) sg_X7_telling gL_law_X7_telling wD_0 rfl ⟨Nat.le_of_ble_eq_true rfl, Nat.le_of_ble_eq_true rfl⟩ rfl rfl (Nat.le_of_ble_eq_true rfl) ⟨Nat.le_of_ble_eq_true rfl, Nat.le_of_ble_eq_true rfl⟩ dL_law_615 rfl ?_
  refine N_aload_n (pc' := 619) C dL_law_618 2 rfl rfl ?_
  refine N_aload_n (pc' := 620) C dL_law_619 0 rfl rfl ?_
  refine N_iload_n (pc' := 621) C dL_law_620 3 rfl rfl ?_
  refine N_iconst (pc' := 622) (v := (1 : Int32)) C dL_law_621 (by decide) rfl ?_
  refine N_iadd (pc' := 623) C dL_law_622 rfl ?_
  refine N_sald (pc' := 624) C hX v1 dL_law_623 rfl ?_
  refine N_aload_n (pc' := 625) C dL_law_624 0 rfl rfl ?_
  refine N_iload_n (pc' := 626) C dL_law_625 3 rfl rfl ?_
  refine N_iconst (pc' := 627) (v := (2 : Int32)) C dL_law_626 (by decide) rfl ?_
  refine N_iadd (pc' := 628) C dL_law_627 rfl ?_
  refine N_sald (pc' := 629) C hX v2 dL_law_628 rfl ?_
  refine L_call (pc' := 632) (σ' := τ') (v := anTelling (xs (i + 1).toNatClampNeg) (xs (i + 2).toNatClampNeg)) C (wD (zwd ω ad 36) σ') [] [.int (xs (i + 1).toNatClampNeg), .int (xs (i + 2).toNatClampNeg)] (adrM ω am) (c_X8_telling (zwd ω am 26) 200 τ (xs (i + 1).toNatClampNeg) (xs (i + 2).toNatClampNeg) _ eM) (fun _ _ h => ⟨congrArg Prod.fst h, congrArg Prod.snd h⟩) sg_X8_telling gL_law_X8_telling wM_0 rfl ⟨Nat.le_of_ble_eq_true rfl, Nat.le_of_ble_eq_true rfl⟩ rfl rfl (Nat.le_of_ble_eq_true rfl) ⟨Nat.le_of_ble_eq_true rfl, Nat.le_of_ble_eq_true rfl⟩ dL_law_629 rfl ?_
  refine N_eq_t (tgt := 865) C dL_law_632 (by decide) rfl ?_
  exact g _ _ rD rM
set_option maxHeartbeats 4000000 in
set_option maxRecDepth 100000 in
theorem cs_told (C : CN ω κ A code wsL_law RL 4 room_1) (hX : zX κ A b L xs) (h : RD B σ) (h2 : RM B τ) (hw : WF B) (v1 : vp_in (i + 1) L) (v2 : vp_in (i + 2) L) (v3 : vp_in (i + 3) L) (v4 : vp_in (i + 4) L) (g : ∀ σ' τ', RD (B) σ' → RM (B) τ' → GN ω κ A 865 (lvL b ad am i) [] (wL ω ad am σ' τ') 62 2058) : GN ω κ A 637 (lvL b ad am i) [] (wL ω ad am σ τ) 62 2058 := by
  obtain ⟨σ', eD, rD⟩ := qD_told h hw (xs (i + 1).toNatClampNeg) (xs (i + 2).toNatClampNeg) (xs (i + 3).toNatClampNeg) (xs (i + 4).toNatClampNeg)
  obtain ⟨τ', eM, rM⟩ := qM_told h2 hw (xs (i + 1).toNatClampNeg) (xs (i + 2).toNatClampNeg) (xs (i + 3).toNatClampNeg) (xs (i + 4).toNatClampNeg)
  refine N_aload_n (pc' := 638) C dL_law_637 1 rfl rfl ?_
  refine N_aload_n (pc' := 639) C dL_law_638 0 rfl rfl ?_
  refine N_iload_n (pc' := 640) C dL_law_639 3 rfl rfl ?_
  refine N_iconst (pc' := 641) (v := (1 : Int32)) C dL_law_640 (by decide) rfl ?_
  refine N_iadd (pc' := 642) C dL_law_641 rfl ?_
  refine N_sald (pc' := 643) C hX v1 dL_law_642 rfl ?_
  refine N_aload_n (pc' := 644) C dL_law_643 0 rfl rfl ?_
  refine N_iload_n (pc' := 645) C dL_law_644 3 rfl rfl ?_
  refine N_iconst (pc' := 646) (v := (2 : Int32)) C dL_law_645 (by decide) rfl ?_
  refine N_iadd (pc' := 647) C dL_law_646 rfl ?_
  refine N_sald (pc' := 648) C hX v2 dL_law_647 rfl ?_
  refine N_aload_n (pc' := 649) C dL_law_648 0 rfl rfl ?_
  refine N_iload_n (pc' := 650) C dL_law_649 3 rfl rfl ?_
  refine N_iconst (pc' := 651) (v := (3 : Int32)) C dL_law_650 (by decide) rfl ?_
  refine N_iadd (pc' := 652) C dL_law_651 rfl ?_
  refine N_sald (pc' := 653) C hX v3 dL_law_652 rfl ?_
  refine N_aload_n (pc' := 654) C dL_law_653 0 rfl rfl ?_
  refine N_iload_n (pc' := 655) C dL_law_654 3 rfl rfl ?_
  refine N_iconst (pc' := 656) (v := (4 : Int32)) C dL_law_655 (by decide) rfl ?_
  refine N_iadd (pc' := 657) C dL_law_656 rfl ?_
  refine N_sald (pc' := 658) C hX v4 dL_law_657 rfl ?_
  refine L_call (pc' := 661) (σ' := σ') (v := anTold B (xs (i + 1).toNatClampNeg) (xs (i + 2).toNatClampNeg) (xs (i + 3).toNatClampNeg) (xs (i + 4).toNatClampNeg)) C [] (wM (zwd ω am 26) τ ++ []) [.int (xs (i + 1).toNatClampNeg), .int (xs (i + 2).toNatClampNeg), .int (xs (i + 3).toNatClampNeg), .int (xs (i + 4).toNatClampNeg)] (adrD ω ad) (c_X7_told (zwd ω ad 36) 200 σ (xs (i + 1).toNatClampNeg) (xs (i + 2).toNatClampNeg) (xs (i + 3).toNatClampNeg) (xs (i + 4).toNatClampNeg) _ eD) (fun _ _ h => ⟨congrArg Prod.fst h, congrArg Prod.snd h⟩) sg_X7_told gL_law_X7_told wD_0 rfl ⟨Nat.le_of_ble_eq_true rfl, Nat.le_of_ble_eq_true rfl⟩ rfl rfl (Nat.le_of_ble_eq_true rfl) ⟨Nat.le_of_ble_eq_true rfl, Nat.le_of_ble_eq_true rfl⟩ dL_law_658 rfl ?_
  refine N_aload_n (pc' := 662) C dL_law_661 2 rfl rfl ?_
  refine N_aload_n (pc' := 663) C dL_law_662 0 rfl rfl ?_
  refine N_iload_n (pc' := 664) C dL_law_663 3 rfl rfl ?_
  refine N_iconst (pc' := 665) (v := (1 : Int32)) C dL_law_664 (by decide) rfl ?_
  refine N_iadd (pc' := 666) C dL_law_665 rfl ?_
  refine N_sald (pc' := 667) C hX v1 dL_law_666 rfl ?_
  refine N_aload_n (pc' := 668) C dL_law_667 0 rfl rfl ?_
  refine N_iload_n (pc' := 669) C dL_law_668 3 rfl rfl ?_
  refine N_iconst (pc' := 670) (v := (2 : Int32)) C dL_law_669 (by decide) rfl ?_
  refine N_iadd (pc' := 671) C dL_law_670 rfl ?_
  refine N_sald (pc' := 672) C hX v2 dL_law_671 rfl ?_
  refine N_aload_n (pc' := 673) C dL_law_672 0 rfl rfl ?_
  refine N_iload_n (pc' := 674) C dL_law_673 3 rfl rfl ?_
  refine N_iconst (pc' := 675) (v := (3 : Int32)) C dL_law_674 (by decide) rfl ?_
  refine N_iadd (pc' := 676) C dL_law_675 rfl ?_
  refine N_sald (pc' := 677) C hX v3 dL_law_676 rfl ?_
  refine N_aload_n (pc' := 678) C dL_law_677 0 rfl rfl ?_
  refine N_iload_n (pc' := 679) C dL_law_678 3 rfl rfl ?_
  refine N_iconst (pc' := 680) (v := (4 : Int32)) C dL_law_679 (by decide) rfl ?_
  refine N_iadd (pc' := 681) C dL_law_680 rfl ?_
  refine N_sald (pc' := 682) C hX v4 dL_law_681 rfl ?_
  refine L_call (pc' := 685) (σ' := τ') (v := anTold B (xs (i + 1).toNatClampNeg) (xs (i + 2).toNatClampNeg) (xs (i + 3).toNatClampNeg) (xs (i + 4).toNatClampNeg)) C (wD (zwd ω ad 36) σ') [] [.int (xs (i + 1).toNatClampNeg), .int (xs (i + 2).toNatClampNeg), .int (xs (i + 3).toNatClampNeg), .int (xs (i + 4).toNatClampNeg)] (adrM ω am) (c_X8_told (zwd ω am 26) 200 τ (xs (i + 1).toNatClampNeg) (xs (i + 2).toNatClampNeg) (xs (i + 3).toNatClampNeg) (xs (i + 4).toNatClampNeg) _ eM) (fun _ _ h => ⟨congrArg Prod.fst h, congrArg Prod.snd h⟩) sg_X8_told gL_law_X8_told wM_0 rfl ⟨Nat.le_of_ble_eq_true rfl, Nat.le_of_ble_eq_true rfl⟩ rfl rfl (Nat.le_of_ble_eq_true rfl) ⟨Nat.le_of_ble_eq_true rfl, Nat.le_of_ble_eq_true rfl⟩ dL_law_682 rfl ?_
  refine N_eq_t (tgt := 865) C dL_law_685 (by decide) rfl ?_
  exact g _ _ rD rM
set_option maxHeartbeats 4000000 in
set_option maxRecDepth 100000 in
theorem cs_counted (C : CN ω κ A code wsL_law RL 4 room_1) (hX : zX κ A b L xs) (h : RD B σ) (h2 : RM B τ) (hw : WF B) (v1 : vp_in (i + 1) L) (v2 : vp_in (i + 2) L) (v3 : vp_in (i + 3) L) (g : ∀ σ' τ', RD (B) σ' → RM (B) τ' → GN ω κ A 865 (lvL b ad am i) [] (wL ω ad am σ' τ') 62 2058) : GN ω κ A 690 (lvL b ad am i) [] (wL ω ad am σ τ) 62 2058 := by
  obtain ⟨σ', eD, rD⟩ := qD_counted h hw (xs (i + 1).toNatClampNeg) (xs (i + 2).toNatClampNeg) (xs (i + 3).toNatClampNeg)
  obtain ⟨τ', eM, rM⟩ := qM_counted h2 hw (xs (i + 1).toNatClampNeg) (xs (i + 2).toNatClampNeg) (xs (i + 3).toNatClampNeg)
  refine N_aload_n (pc' := 691) C dL_law_690 1 rfl rfl ?_
  refine N_aload_n (pc' := 692) C dL_law_691 0 rfl rfl ?_
  refine N_iload_n (pc' := 693) C dL_law_692 3 rfl rfl ?_
  refine N_iconst (pc' := 694) (v := (1 : Int32)) C dL_law_693 (by decide) rfl ?_
  refine N_iadd (pc' := 695) C dL_law_694 rfl ?_
  refine N_sald (pc' := 696) C hX v1 dL_law_695 rfl ?_
  refine N_aload_n (pc' := 697) C dL_law_696 0 rfl rfl ?_
  refine N_iload_n (pc' := 698) C dL_law_697 3 rfl rfl ?_
  refine N_iconst (pc' := 699) (v := (2 : Int32)) C dL_law_698 (by decide) rfl ?_
  refine N_iadd (pc' := 700) C dL_law_699 rfl ?_
  refine N_sald (pc' := 701) C hX v2 dL_law_700 rfl ?_
  refine N_aload_n (pc' := 702) C dL_law_701 0 rfl rfl ?_
  refine N_iload_n (pc' := 703) C dL_law_702 3 rfl rfl ?_
  refine N_iconst (pc' := 704) (v := (3 : Int32)) C dL_law_703 (by decide) rfl ?_
  refine N_iadd (pc' := 705) C dL_law_704 rfl ?_
  refine N_sald (pc' := 706) C hX v3 dL_law_705 rfl ?_
  refine L_call (pc' := 709) (σ' := σ') (v := anCounted B (xs (i + 1).toNatClampNeg) (xs (i + 2).toNatClampNeg) (xs (i + 3).toNatClampNeg)) C [] (wM (zwd ω am 26) τ ++ []) [.int (xs (i + 1).toNatClampNeg), .int (xs (i + 2).toNatClampNeg), .int (xs (i + 3).toNatClampNeg)] (adrD ω ad) (c_X7_counted (zwd ω ad 36) 200 σ (xs (i + 1).toNatClampNeg) (xs (i + 2).toNatClampNeg) (xs (i + 3).toNatClampNeg) _ eD) (fun _ _ h => ⟨congrArg Prod.fst h, congrArg Prod.snd h⟩) sg_X7_counted gL_law_X7_counted wD_0 rfl ⟨Nat.le_of_ble_eq_true rfl, Nat.le_of_ble_eq_true rfl⟩ rfl rfl (Nat.le_of_ble_eq_true rfl) ⟨Nat.le_of_ble_eq_true rfl, Nat.le_of_ble_eq_true rfl⟩ dL_law_706 rfl ?_
  refine N_aload_n (pc' := 710) C dL_law_709 2 rfl rfl ?_
  refine N_aload_n (pc' := 711) C dL_law_710 0 rfl rfl ?_
  refine N_iload_n (pc' := 712) C dL_law_711 3 rfl rfl ?_
  refine N_iconst (pc' := 713) (v := (1 : Int32)) C dL_law_712 (by decide) rfl ?_
  refine N_iadd (pc' := 714) C dL_law_713 rfl ?_
  refine N_sald (pc' := 715) C hX v1 dL_law_714 rfl ?_
  refine N_aload_n (pc' := 716) C dL_law_715 0 rfl rfl ?_
  refine N_iload_n (pc' := 717) C dL_law_716 3 rfl rfl ?_
  refine N_iconst (pc' := 718) (v := (2 : Int32)) C dL_law_717 (by decide) rfl ?_
  refine N_iadd (pc' := 719) C dL_law_718 rfl ?_
  refine N_sald (pc' := 720) C hX v2 dL_law_719 rfl ?_
  refine N_aload_n (pc' := 721) C dL_law_720 0 rfl rfl ?_
  refine N_iload_n (pc' := 722) C dL_law_721 3 rfl rfl ?_
  refine N_iconst (pc' := 723) (v := (3 : Int32)) C dL_law_722 (by decide) rfl ?_
  refine N_iadd (pc' := 724) C dL_law_723 rfl ?_
  refine N_sald (pc' := 725) C hX v3 dL_law_724 rfl ?_
  refine L_call (pc' := 728) (σ' := τ') (v := anCounted B (xs (i + 1).toNatClampNeg) (xs (i + 2).toNatClampNeg) (xs (i + 3).toNatClampNeg)) C (wD (zwd ω ad 36) σ') [] [.int (xs (i + 1).toNatClampNeg), .int (xs (i + 2).toNatClampNeg), .int (xs (i + 3).toNatClampNeg)] (adrM ω am) (c_X8_counted (zwd ω am 26) 200 τ (xs (i + 1).toNatClampNeg) (xs (i + 2).toNatClampNeg) (xs (i + 3).toNatClampNeg) _ eM) (fun _ _ h => ⟨congrArg Prod.fst h, congrArg Prod.snd h⟩) sg_X8_counted gL_law_X8_counted wM_0 rfl ⟨Nat.le_of_ble_eq_true rfl, Nat.le_of_ble_eq_true rfl⟩ rfl rfl (Nat.le_of_ble_eq_true rfl) ⟨Nat.le_of_ble_eq_true rfl, Nat.le_of_ble_eq_true rfl⟩ dL_law_725 rfl ?_
  refine N_eq_t (tgt := 865) C dL_law_728 (by decide) rfl ?_
  exact g _ _ rD rM
set_option maxHeartbeats 4000000 in
set_option maxRecDepth 100000 in
theorem cs_worth (C : CN ω κ A code wsL_law RL 4 room_1) (hX : zX κ A b L xs) (h : RD B σ) (h2 : RM B τ) (hw : WF B) (v1 : vp_in (i + 1) L) (v2 : vp_in (i + 2) L) (v3 : vp_in (i + 3) L) (g : ∀ σ' τ', RD (B) σ' → RM (B) τ' → GN ω κ A 865 (lvL b ad am i) [] (wL ω ad am σ' τ') 62 2058) : GN ω κ A 733 (lvL b ad am i) [] (wL ω ad am σ τ) 62 2058 := by
  obtain ⟨σ', eD, rD⟩ := qD_worth h hw (xs (i + 1).toNatClampNeg) (xs (i + 2).toNatClampNeg) (xs (i + 3).toNatClampNeg)
  obtain ⟨τ', eM, rM⟩ := qM_worth h2 hw (xs (i + 1).toNatClampNeg) (xs (i + 2).toNatClampNeg) (xs (i + 3).toNatClampNeg)
  refine N_aload_n (pc' := 734) C dL_law_733 1 rfl rfl ?_
  refine N_aload_n (pc' := 735) C dL_law_734 0 rfl rfl ?_
  refine N_iload_n (pc' := 736) C dL_law_735 3 rfl rfl ?_
  refine N_iconst (pc' := 737) (v := (1 : Int32)) C dL_law_736 (by decide) rfl ?_
  refine N_iadd (pc' := 738) C dL_law_737 rfl ?_
  refine N_sald (pc' := 739) C hX v1 dL_law_738 rfl ?_
  refine N_aload_n (pc' := 740) C dL_law_739 0 rfl rfl ?_
  refine N_iload_n (pc' := 741) C dL_law_740 3 rfl rfl ?_
  refine N_iconst (pc' := 742) (v := (2 : Int32)) C dL_law_741 (by decide) rfl ?_
  refine N_iadd (pc' := 743) C dL_law_742 rfl ?_
  refine N_sald (pc' := 744) C hX v2 dL_law_743 rfl ?_
  refine N_aload_n (pc' := 745) C dL_law_744 0 rfl rfl ?_
  refine N_iload_n (pc' := 746) C dL_law_745 3 rfl rfl ?_
  refine N_iconst (pc' := 747) (v := (3 : Int32)) C dL_law_746 (by decide) rfl ?_
  refine N_iadd (pc' := 748) C dL_law_747 rfl ?_
  refine N_sald (pc' := 749) C hX v3 dL_law_748 rfl ?_
  refine L_call (pc' := 752) (σ' := σ') (v := anWorth B (xs (i + 1).toNatClampNeg) (xs (i + 2).toNatClampNeg) (xs (i + 3).toNatClampNeg)) C [] (wM (zwd ω am 26) τ ++ []) [.int (xs (i + 1).toNatClampNeg), .int (xs (i + 2).toNatClampNeg), .int (xs (i + 3).toNatClampNeg)] (adrD ω ad) (c_X7_worth (zwd ω ad 36) 200 σ (xs (i + 1).toNatClampNeg) (xs (i + 2).toNatClampNeg) (xs (i + 3).toNatClampNeg) _ eD) (fun _ _ h => ⟨congrArg Prod.fst h, congrArg Prod.snd h⟩) sg_X7_worth gL_law_X7_worth wD_0 rfl ⟨Nat.le_of_ble_eq_true rfl, Nat.le_of_ble_eq_true rfl⟩ rfl rfl (Nat.le_of_ble_eq_true rfl) ⟨Nat.le_of_ble_eq_true rfl, Nat.le_of_ble_eq_true rfl⟩ dL_law_749 rfl ?_
  refine N_aload_n (pc' := 753) C dL_law_752 2 rfl rfl ?_
  refine N_aload_n (pc' := 754) C dL_law_753 0 rfl rfl ?_
  refine N_iload_n (pc' := 755) C dL_law_754 3 rfl rfl ?_
  refine N_iconst (pc' := 756) (v := (1 : Int32)) C dL_law_755 (by decide) rfl ?_
  refine N_iadd (pc' := 757) C dL_law_756 rfl ?_
  refine N_sald (pc' := 758) C hX v1 dL_law_757 rfl ?_
  refine N_aload_n (pc' := 759) C dL_law_758 0 rfl rfl ?_
  refine N_iload_n (pc' := 760) C dL_law_759 3 rfl rfl ?_
  refine N_iconst (pc' := 761) (v := (2 : Int32)) C dL_law_760 (by decide) rfl ?_
  refine N_iadd (pc' := 762) C dL_law_761 rfl ?_
  refine N_sald (pc' := 763) C hX v2 dL_law_762 rfl ?_
  refine N_aload_n (pc' := 764) C dL_law_763 0 rfl rfl ?_
  refine N_iload_n (pc' := 765) C dL_law_764 3 rfl rfl ?_
  refine N_iconst (pc' := 766) (v := (3 : Int32)) C dL_law_765 (by decide) rfl ?_
  refine N_iadd (pc' := 767) C dL_law_766 rfl ?_
  refine N_sald (pc' := 768) C hX v3 dL_law_767 rfl ?_
  refine L_call (pc' := 771) (σ' := τ') (v := anWorth B (xs (i + 1).toNatClampNeg) (xs (i + 2).toNatClampNeg) (xs (i + 3).toNatClampNeg)) C (wD (zwd ω ad 36) σ') [] [.int (xs (i + 1).toNatClampNeg), .int (xs (i + 2).toNatClampNeg), .int (xs (i + 3).toNatClampNeg)] (adrM ω am) (c_X8_worth (zwd ω am 26) 200 τ (xs (i + 1).toNatClampNeg) (xs (i + 2).toNatClampNeg) (xs (i + 3).toNatClampNeg) _ eM) (fun _ _ h => ⟨congrArg Prod.fst h, congrArg Prod.snd h⟩) sg_X8_worth gL_law_X8_worth wM_0 rfl ⟨Nat.le_of_ble_eq_true rfl, Nat.le_of_ble_eq_true rfl⟩ rfl rfl (Nat.le_of_ble_eq_true rfl) ⟨Nat.le_of_ble_eq_true rfl, Nat.le_of_ble_eq_true rfl⟩ dL_law_768 rfl ?_
  refine N_eq_t (tgt := 865) C dL_law_771 (by decide) rfl ?_
  exact g _ _ rD rM
set_option maxHeartbeats 4000000 in
set_option maxRecDepth 100000 in
theorem cs_paradox (C : CN ω κ A code wsL_law RL 4 room_1) (hX : zX κ A b L xs) (h : RD B σ) (h2 : RM B τ) (hw : WF B) (v1 : vp_in (i + 1) L) (v2 : vp_in (i + 2) L) (g : ∀ σ' τ', RD (B) σ' → RM (B) τ' → GN ω κ A 865 (lvL b ad am i) [] (wL ω ad am σ' τ') 62 2058) : GN ω κ A 776 (lvL b ad am i) [] (wL ω ad am σ τ) 62 2058 := by
  obtain ⟨σ', eD, rD⟩ := qD_paradox h hw (xs (i + 1).toNatClampNeg) (xs (i + 2).toNatClampNeg)
  obtain ⟨τ', eM, rM⟩ := qM_paradox h2 hw (xs (i + 1).toNatClampNeg) (xs (i + 2).toNatClampNeg)
  refine N_aload_n (pc' := 777) C dL_law_776 1 rfl rfl ?_
  refine N_aload_n (pc' := 778) C dL_law_777 0 rfl rfl ?_
  refine N_iload_n (pc' := 779) C dL_law_778 3 rfl rfl ?_
  refine N_iconst (pc' := 780) (v := (1 : Int32)) C dL_law_779 (by decide) rfl ?_
  refine N_iadd (pc' := 781) C dL_law_780 rfl ?_
  refine N_sald (pc' := 782) C hX v1 dL_law_781 rfl ?_
  refine N_aload_n (pc' := 783) C dL_law_782 0 rfl rfl ?_
  refine N_iload_n (pc' := 784) C dL_law_783 3 rfl rfl ?_
  refine N_iconst (pc' := 785) (v := (2 : Int32)) C dL_law_784 (by decide) rfl ?_
  refine N_iadd (pc' := 786) C dL_law_785 rfl ?_
  refine N_sald (pc' := 787) C hX v2 dL_law_786 rfl ?_
  refine L_call (pc' := 790) (σ' := σ') (v := anParadox B (xs (i + 1).toNatClampNeg) (xs (i + 2).toNatClampNeg)) C [] (wM (zwd ω am 26) τ ++ []) [.int (xs (i + 1).toNatClampNeg), .int (xs (i + 2).toNatClampNeg)] (adrD ω ad) (c_X7_paradox (zwd ω ad 36) 200 σ (xs (i + 1).toNatClampNeg) (xs (i + 2).toNatClampNeg) _ eD) (fun _ _ h => ⟨congrArg Prod.fst h, congrArg Prod.snd h⟩) sg_X7_paradox gL_law_X7_paradox wD_0 rfl ⟨Nat.le_of_ble_eq_true rfl, Nat.le_of_ble_eq_true rfl⟩ rfl rfl (Nat.le_of_ble_eq_true rfl) ⟨Nat.le_of_ble_eq_true rfl, Nat.le_of_ble_eq_true rfl⟩ dL_law_787 rfl ?_
  refine N_aload_n (pc' := 791) C dL_law_790 2 rfl rfl ?_
  refine N_aload_n (pc' := 792) C dL_law_791 0 rfl rfl ?_
  refine N_iload_n (pc' := 793) C dL_law_792 3 rfl rfl ?_
  refine N_iconst (pc' := 794) (v := (1 : Int32)) C dL_law_793 (by decide) rfl ?_
  refine N_iadd (pc' := 795) C dL_law_794 rfl ?_
  refine N_sald (pc' := 796) C hX v1 dL_law_795 rfl ?_
  refine N_aload_n (pc' := 797) C dL_law_796 0 rfl rfl ?_
  refine N_iload_n (pc' := 798) C dL_law_797 3 rfl rfl ?_
  refine N_iconst (pc' := 799) (v := (2 : Int32)) C dL_law_798 (by decide) rfl ?_
  refine N_iadd (pc' := 800) C dL_law_799 rfl ?_
  refine N_sald (pc' := 801) C hX v2 dL_law_800 rfl ?_
  refine L_call (pc' := 804) (σ' := τ') (v := anParadox B (xs (i + 1).toNatClampNeg) (xs (i + 2).toNatClampNeg)) C (wD (zwd ω ad 36) σ') [] [.int (xs (i + 1).toNatClampNeg), .int (xs (i + 2).toNatClampNeg)] (adrM ω am) (c_X8_paradox (zwd ω am 26) 200 τ (xs (i + 1).toNatClampNeg) (xs (i + 2).toNatClampNeg) _ eM) (fun _ _ h => ⟨congrArg Prod.fst h, congrArg Prod.snd h⟩) sg_X8_paradox gL_law_X8_paradox wM_0 rfl ⟨Nat.le_of_ble_eq_true rfl, Nat.le_of_ble_eq_true rfl⟩ rfl rfl (Nat.le_of_ble_eq_true rfl) ⟨Nat.le_of_ble_eq_true rfl, Nat.le_of_ble_eq_true rfl⟩ dL_law_801 rfl ?_
  refine N_eq_t (tgt := 865) C dL_law_804 (by decide) rfl ?_
  exact g _ _ rD rM
set_option maxHeartbeats 4000000 in
set_option maxRecDepth 100000 in
theorem cs_look (C : CN ω κ A code wsL_law RL 4 room_1) (hX : zX κ A b L xs) (h : RD B σ) (h2 : RM B τ) (hw : WF B) (v1 : vp_in (i + 1) L) (v2 : vp_in (i + 2) L) (g : ∀ σ' τ', RD (B) σ' → RM (B) τ' → GN ω κ A 865 (lvL b ad am i) [] (wL ω ad am σ' τ') 62 2058) : GN ω κ A 809 (lvL b ad am i) [] (wL ω ad am σ τ) 62 2058 := by
  obtain ⟨σ', eD, rD⟩ := qD_look h hw (xs (i + 1).toNatClampNeg) (xs (i + 2).toNatClampNeg)
  have eM := qM_look h2 hw (xs (i + 1).toNatClampNeg) (xs (i + 2).toNatClampNeg)
  refine N_aload_n (pc' := 810) C dL_law_809 1 rfl rfl ?_
  refine N_aload_n (pc' := 811) C dL_law_810 0 rfl rfl ?_
  refine N_iload_n (pc' := 812) C dL_law_811 3 rfl rfl ?_
  refine N_iconst (pc' := 813) (v := (1 : Int32)) C dL_law_812 (by decide) rfl ?_
  refine N_iadd (pc' := 814) C dL_law_813 rfl ?_
  refine N_sald (pc' := 815) C hX v1 dL_law_814 rfl ?_
  refine N_aload_n (pc' := 816) C dL_law_815 0 rfl rfl ?_
  refine N_iload_n (pc' := 817) C dL_law_816 3 rfl rfl ?_
  refine N_iconst (pc' := 818) (v := (2 : Int32)) C dL_law_817 (by decide) rfl ?_
  refine N_iadd (pc' := 819) C dL_law_818 rfl ?_
  refine N_sald (pc' := 820) C hX v2 dL_law_819 rfl ?_
  refine L_call (pc' := 823) (σ' := σ') (v := anLook B (xs (i + 1).toNatClampNeg) (xs (i + 2).toNatClampNeg)) C [] (wM (zwd ω am 26) τ ++ []) [.int (xs (i + 1).toNatClampNeg), .int (xs (i + 2).toNatClampNeg)] (adrD ω ad) (c_X7_look (zwd ω ad 36) 200 σ (xs (i + 1).toNatClampNeg) (xs (i + 2).toNatClampNeg) _ eD) (fun _ _ h => ⟨congrArg Prod.fst h, congrArg Prod.snd h⟩) sg_X7_look gL_law_X7_look wD_0 rfl ⟨Nat.le_of_ble_eq_true rfl, Nat.le_of_ble_eq_true rfl⟩ rfl rfl (Nat.le_of_ble_eq_true rfl) ⟨Nat.le_of_ble_eq_true rfl, Nat.le_of_ble_eq_true rfl⟩ dL_law_820 rfl ?_
  refine N_aload_n (pc' := 824) C dL_law_823 2 rfl rfl ?_
  refine N_aload_n (pc' := 825) C dL_law_824 0 rfl rfl ?_
  refine N_iload_n (pc' := 826) C dL_law_825 3 rfl rfl ?_
  refine N_iconst (pc' := 827) (v := (1 : Int32)) C dL_law_826 (by decide) rfl ?_
  refine N_iadd (pc' := 828) C dL_law_827 rfl ?_
  refine N_sald (pc' := 829) C hX v1 dL_law_828 rfl ?_
  refine N_aload_n (pc' := 830) C dL_law_829 0 rfl rfl ?_
  refine N_iload_n (pc' := 831) C dL_law_830 3 rfl rfl ?_
  refine N_iconst (pc' := 832) (v := (2 : Int32)) C dL_law_831 (by decide) rfl ?_
  refine N_iadd (pc' := 833) C dL_law_832 rfl ?_
  refine N_sald (pc' := 834) C hX v2 dL_law_833 rfl ?_
  refine L_call (pc' := 837) (σ' := τ) (v := anLook B (xs (i + 1).toNatClampNeg) (xs (i + 2).toNatClampNeg)) C (wD (zwd ω ad 36) σ') [] [.int (xs (i + 1).toNatClampNeg), .int (xs (i + 2).toNatClampNeg)] (adrM ω am) (c_X8_look (zwd ω am 26) 200 τ (xs (i + 1).toNatClampNeg) (xs (i + 2).toNatClampNeg) _ eM) (fun _ _ h => h) sg_X8_look gL_law_X8_look wM_0 rfl ⟨Nat.le_of_ble_eq_true rfl, Nat.le_of_ble_eq_true rfl⟩ rfl rfl (Nat.le_of_ble_eq_true rfl) ⟨Nat.le_of_ble_eq_true rfl, Nat.le_of_ble_eq_true rfl⟩ dL_law_834 rfl ?_
  refine N_eq_t (tgt := 865) C dL_law_837 (by decide) rfl ?_
  exact g _ _ rD h2
set_option maxHeartbeats 4000000 in
set_option maxRecDepth 100000 in
theorem cs_count (C : CN ω κ A code wsL_law RL 4 room_1) (hX : zX κ A b L xs) (h : RD B σ) (h2 : RM B τ) (hw : WF B) (v1 : vp_in (i + 1) L) (g : ∀ σ' τ', RD (B) σ' → RM (B) τ' → GN ω κ A 865 (lvL b ad am i) [] (wL ω ad am σ' τ') 62 2058) : GN ω κ A 842 (lvL b ad am i) [] (wL ω ad am σ τ) 62 2058 := by
  obtain ⟨σ', eD, rD⟩ := qD_count h hw (xs (i + 1).toNatClampNeg)
  obtain ⟨τ', eM, rM⟩ := qM_count h2 hw (xs (i + 1).toNatClampNeg)
  refine N_aload_n (pc' := 843) C dL_law_842 1 rfl rfl ?_
  refine N_aload_n (pc' := 844) C dL_law_843 0 rfl rfl ?_
  refine N_iload_n (pc' := 845) C dL_law_844 3 rfl rfl ?_
  refine N_iconst (pc' := 846) (v := (1 : Int32)) C dL_law_845 (by decide) rfl ?_
  refine N_iadd (pc' := 847) C dL_law_846 rfl ?_
  refine N_sald (pc' := 848) C hX v1 dL_law_847 rfl ?_
  refine L_call (pc' := 851) (σ' := σ') (v := anCount B (xs (i + 1).toNatClampNeg)) C [] (wM (zwd ω am 26) τ ++ []) [.int (xs (i + 1).toNatClampNeg)] (adrD ω ad) (c_X7_count (zwd ω ad 36) 200 σ (xs (i + 1).toNatClampNeg) _ eD) (fun _ _ h => ⟨congrArg Prod.fst h, congrArg Prod.snd h⟩) sg_X7_count gL_law_X7_count wD_0 rfl ⟨Nat.le_of_ble_eq_true rfl, Nat.le_of_ble_eq_true rfl⟩ rfl rfl (Nat.le_of_ble_eq_true rfl) ⟨Nat.le_of_ble_eq_true rfl, Nat.le_of_ble_eq_true rfl⟩ dL_law_848 rfl ?_
  refine N_aload_n (pc' := 852) C dL_law_851 2 rfl rfl ?_
  refine N_aload_n (pc' := 853) C dL_law_852 0 rfl rfl ?_
  refine N_iload_n (pc' := 854) C dL_law_853 3 rfl rfl ?_
  refine N_iconst (pc' := 855) (v := (1 : Int32)) C dL_law_854 (by decide) rfl ?_
  refine N_iadd (pc' := 856) C dL_law_855 rfl ?_
  refine N_sald (pc' := 857) C hX v1 dL_law_856 rfl ?_
  refine L_call (pc' := 860) (σ' := τ') (v := anCount B (xs (i + 1).toNatClampNeg)) C (wD (zwd ω ad 36) σ') [] [.int (xs (i + 1).toNatClampNeg)] (adrM ω am) (c_X8_count (zwd ω am 26) 200 τ (xs (i + 1).toNatClampNeg) _ eM) (fun _ _ h => ⟨congrArg Prod.fst h, congrArg Prod.snd h⟩) sg_X8_count gL_law_X8_count wM_0 rfl ⟨Nat.le_of_ble_eq_true rfl, Nat.le_of_ble_eq_true rfl⟩ rfl rfl (Nat.le_of_ble_eq_true rfl) ⟨Nat.le_of_ble_eq_true rfl, Nat.le_of_ble_eq_true rfl⟩ dL_law_857 rfl ?_
  refine N_eq_t (tgt := 865) C dL_law_860 (by decide) rfl ?_
  exact g _ _ rD rM
end LCases
