section GRows2
variable {ω : ZO} {w : ZW} {κ : ZK} {cc : ByteArray} {Ts : List Cond} {own : String} {ret : Option FieldType} {nL : Nat} {rm : Room} {pc pc' : Nat} {lv lv' : List (Nat × Value)} {st : List Value} {σ : ZS}
theorem G_aret {o : String} (C : CX ω w κ cc Ts own (some (.object o)) nL rm) {r : Nat} (hR : zRR ω w κ σ r) (d : decode cc pc = .ok (.areturn, 1)) : G ω w κ pc lv [.ref r] σ := by
  obtain ⟨p, e, R, s, m, args, below, meth, c, Q, n⟩ := κ
  obtain ⟨⟨hx, hb, hml, hown, hts⟩, hK, hD, hM, hlk, hrt, hRm, hnn⟩ := C
  subst hRm; subst hnn
  have hR : Q = _ := hR
  subst hR
  intro H locs ls hP hS hl
  exact W.aret (v := .ref r) hx hb hrt (Or.inl ⟨_, rfl⟩) (Or.inr ⟨_, rfl⟩) (fun t ht hW => ⟨⟨σ, r, rfl, rfl, rfl, by rw [ht]; exact hP⟩, hS.F ht⟩) hS.2.2 d hlk
theorem G_callVr (C : CX ω w κ cc Ts own ret nL rm) {y : MethodName} {ws : List Cond} {bytes : ByteArray} {maxL : Nat} {rt : Option FieldType} {Cn : String} {na idx : Nat} {rm2 : Room} {rest : List Value} {b q0 ci N r : Nat} {fs : List Value} {T : u_T} (As : List Value) (hC : ZR ω w y ws rm2 (.ref b :: As) σ r) (hg : ZG y ws bytes maxL rt Cn na rm2) (hG : GoodIn Ts (wsV own idx Cn y ws)) (he : (w ω σ)[q0]? = some (b, .inr (ci, fs))) (hc : vwCl[ci]? = some (Cn, T, N)) (hr : rm2.frames + 1 ≤ rm.frames ∧ 8 + (maxL + 11) + rm2.locals ≤ rm.locals) (hn : As.length = na) (hst : st = As.reverse ++ .ref b :: rest) (hsm : (rest.map fun v => v.category).sum ≤ 8) (d : decode cc pc = .ok (.invokevirtual idx, 3)) (hp : pc + 3 = pc') (g : G ω w κ pc' lv (.ref r :: rest) σ) : G ω w κ pc lv st σ := by
  obtain ⟨p, e, R, s, m, args, below, meth, c, Q, n⟩ := κ
  obtain ⟨⟨hx, hb, hml, hown, hts⟩, hK, hD, hM, hlk, hrt, hRm, hnn⟩ := C
  subst hRm; subst hnn; subst hp
  intro H locs ls hP hS hl
  obtain ⟨⟨ws9, hw⟩, hd, hrc, hrs⟩ := hg
  have hU : ∀ U : State, U.heap = H → s.WarmedH U.vm → va_Pc (.ref b :: As) (zP ω w σ) (.ref b :: As).toArray U := fun U hU hW => ⟨rfl, by rw [hU]; exact hP, va_K.moved hW.alike hK, hD, by rw [hU]; exact zM.warm hW hS.2.1 hM⟩
  refine va_callr (va_runV (As := As) (rest := rest) ⟨hx, hb, hml, hown, hts⟩ hC (cwV na hts hG hw hrc hrs hd hr) ⟨zP.blind, va_recv hK hP hc he, hU⟩ rfl hn hl.1 hst (lv_room hsm) d ⟨Nat.zero_le _, Nat.zero_le _⟩) hS (fun q _ h => h) (fun q h => h) (fun τ a t H1 locs1 ht hvm hw9 hB hz1 hk1 hS1 => ?_)
  obtain ⟨rfl, hB⟩ := hB
  rw [ht] at hB
  rw [hw9] at hB
  exact g H1 locs1 ls hB hS1 hl
end GRows2
def g_b2 {R0 : Type} (o : Option (Int32 × ZS)) (K : Int32 → ZS → Option R0) : Option R0 := o.bind (fun q => K q.1 q.2)
section GRows3
variable {ω : ZO} {w : ZW} {κ : ZK} {cc : ByteArray} {Ts : List Cond} {own : String} {ret : Option FieldType} {nL : Nat} {rm : Room} {pc pc' : Nat} {lv lv' : List (Nat × Value)} {st : List Value} {σ : ZS} {R0 : Type} {r0 : R0}
theorem G_callVt (C : CX ω w κ cc Ts own ret nL rm) {y : MethodName} {ws : List Cond} {bytes : ByteArray} {maxL : Nat} {rt : Option FieldType} {Cn : String} {na idx : Nat} {rm2 : Room} {rest : List Value} {b q0 ci N : Nat} {fs : List Value} {T : u_T} {o : Option (Int32 × ZS)} {K : Int32 → ZS → Option R0} (As : List Value) (hC : ZIs ω w y ws rm2 (.ref b :: As) σ o) (hg : ZG y ws bytes maxL rt Cn na rm2) (hG : GoodIn Ts (wsV own idx Cn y ws)) (he : (w ω σ)[q0]? = some (b, .inr (ci, fs))) (hc : vwCl[ci]? = some (Cn, T, N)) (hr : rm2.frames + 1 ≤ rm.frames ∧ 8 + (maxL + 11) + rm2.locals ≤ rm.locals) (hn : As.length = na) (hst : st = As.reverse ++ .ref b :: rest) (hsm : (rest.map fun v => v.category).sum ≤ 8) (d : decode cc pc = .ok (.invokevirtual idx, 3)) (hp : pc + 3 = pc') (hf : g_b2 o K = some r0) (g : ∀ (v : Int32) (τ : ZS), K v τ = some r0 → G ω w κ pc' lv (.int v :: rest) τ) : G ω w κ pc lv st σ := G_callVs (K := fun q => K q.1 q.2) C As hC hg hG he hc hr hn hst hsm d hp hf g
theorem G_callSt (C : CX ω w κ cc Ts own ret nL rm) {y : MethodName} {ws : List Cond} {bytes : ByteArray} {maxL : Nat} {rt : Option FieldType} {Cn : String} {na idx : Nat} {rm2 : Room} {rest : List Value} {o : Option (Int32 × ZS)} {K : Int32 → ZS → Option R0} (As : List Value) (hC : ZIs ω w y ws rm2 As σ o) (hg : ZG y ws bytes maxL rt Cn na rm2) (hG : GoodIn Ts (va_wsS own idx y ws)) (hr : rm2.frames + 1 ≤ rm.frames ∧ 8 + (maxL + 11) + rm2.locals ≤ rm.locals) (hn : As.length = na) (hst : st = As.reverse ++ rest) (hsm : (rest.map fun v => v.category).sum ≤ 8) (d : decode cc pc = .ok (.invokestatic idx, 3)) (hp : pc + 3 = pc') (hf : g_b2 o K = some r0) (g : ∀ (v : Int32) (τ : ZS), K v τ = some r0 → G ω w κ pc' lv (.int v :: rest) τ) : G ω w κ pc lv st σ := G_callSs (K := fun q => K q.1 q.2) C As hC hg hG hr hn hst hsm d hp hf g
theorem G_callNt (C : CX ω w κ cc Ts own ret nL rm) {y : MethodName} {ws : List Cond} {bytes : ByteArray} {maxL : Nat} {rt : Option FieldType} {Cn : String} {na idx : Nat} {rm2 : Room} {rest : List Value} {o : Option (Int32 × ZS)} {K : Int32 → ZS → Option R0} (As : List Value) (hC : ZIs ω w y ws rm2 As σ o) (hg : ZG y ws bytes maxL rt Cn na rm2) (hG : GoodIn Ts ws) (hnw : Cond.methodLinkNest own idx y Cn ∈ zNws) (hsw : Cond.static y ∈ Ts) (hiw : Cond.initialized y.cls ∈ Ts) (hr : rm2.frames + 1 ≤ rm.frames ∧ 8 + (maxL + 11) + rm2.locals ≤ rm.locals) (hn : As.length = na) (hst : st = As.reverse ++ rest) (hsm : (rest.map fun v => v.category).sum ≤ 8) (d : decode cc pc = .ok (.invokestatic idx, 3)) (hp : pc + 3 = pc') (hf : g_b2 o K = some r0) (g : ∀ (v : Int32) (τ : ZS), K v τ = some r0 → G ω w κ pc' lv (.int v :: rest) τ) : G ω w κ pc lv st σ := G_callNs (K := fun q => K q.1 q.2) C As hC hg hG hnw hsw hiw hr hn hst hsm d hp hf g
end GRows3
def wD (ω : ZO) (σ : ZS) : va_W := [(za ω 0, .inr (7, [.ref (za ω 1), .ref (za ω 3), .ref (za ω 6), .ref (za ω 11), .ref (za ω 18), .ref (za ω 21), .ref (za ω 24), .ref (za ω 32), .ref (za ω 35)])), (za ω 1, .inr (6, [.ref (za ω 2), .int (σ 1 1)])), (za ω 2, .inl (zI ω, 80, .inl (σ 2))), (za ω 3, .inr (3, [.ref (za ω 4), .ref (za ω 5), .int (σ 3 2), .int (σ 3 3)])), (za ω 4, .inl (zI ω, 11, .inl (σ 4))), (za ω 5, .inl (zI ω, 11, .inl (σ 5))), (za ω 6, .inr (4, [.ref (za ω 7), .ref (za ω 8), .ref (za ω 9), .ref (za ω 10), .int (σ 6 4), .int (σ 6 5), .int (σ 6 6)])), (za ω 7, .inl (zI ω, 24, .inl (σ 7))), (za ω 8, .inl (zI ω, 24, .inl (σ 8))), (za ω 9, .inl (zI ω, 24, .inl (σ 9))), (za ω 10, .inl (zI ω, 8, .inl (σ 10))), (za ω 11, .inr (0, [.ref (za ω 12), .ref (za ω 13), .ref (za ω 14), .ref (za ω 15), .ref (za ω 16), .ref (za ω 17)])), (za ω 12, .inl (zI ω, 7, .inl (σ 12))), (za ω 13, .inl (zI ω, 7, .inl (σ 13))), (za ω 14, .inl (zI ω, 7, .inl (σ 14))), (za ω 15, .inl (zI ω, 7, .inl (σ 15))), (za ω 16, .inl (zI ω, 168, .inl (σ 16))), (za ω 17, .inl (zI ω, 24, .inl (σ 17))), (za ω 18, .inr (1, [.ref (za ω 19), .ref (za ω 20), .int (σ 18 2)])), (za ω 19, .inl (zI ω, 7, .inl (σ 19))), (za ω 20, .inl (zI ω, 84, .inl (σ 20))), (za ω 21, .inr (1, [.ref (za ω 22), .ref (za ω 23), .int (σ 21 2)])), (za ω 22, .inl (zI ω, 7, .inl (σ 22))), (za ω 23, .inl (zI ω, 84, .inl (σ 23))), (za ω 24, .inr (5, [.ref (za ω 25), .ref (za ω 26), .ref (za ω 27), .ref (za ω 28), .ref (za ω 29), .ref (za ω 30), .ref (za ω 31), .int (σ 24 7)])), (za ω 25, .inl (zI ω, 84, .inl (σ 25))), (za ω 26, .inl (zI ω, 168, .inl (σ 26))), (za ω 27, .inl (zI ω, 24, .inl (σ 27))), (za ω 28, .inl (zI ω, 24, .inl (σ 28))), (za ω 29, .inl (zI ω, 24, .inl (σ 29))), (za ω 30, .inl (zI ω, 24, .inl (σ 30))), (za ω 31, .inl (zI ω, 3, .inl (σ 31))), (za ω 32, .inr (2, [.ref (za ω 33), .ref (za ω 34), .int (σ 32 2)])), (za ω 33, .inl (zI ω, 24, .inl (σ 33))), (za ω 34, .inl (zI ω, 24, .inl (σ 34))), (za ω 35, .inl (zI ω, 3, .inl (σ 35)))]
theorem wD_0 {ω : ZO} {σ : ZS} : (wD ω σ)[0]? = some (za ω 0, .inr (7, [.ref (za ω 1), .ref (za ω 3), .ref (za ω 6), .ref (za ω 11), .ref (za ω 18), .ref (za ω 21), .ref (za ω 24), .ref (za ω 32), .ref (za ω 35)])) := rfl
theorem wD_1 {ω : ZO} {σ : ZS} : (wD ω σ)[1]? = some (za ω 1, .inr (6, [.ref (za ω 2), .int (σ 1 1)])) := rfl
theorem wD_f1_1 {ω : ZO} {σ : ZS} (x : Int32) : (wD ω σ).set 1 (za ω 1, .inr (6, ([.ref (za ω 2), .int (σ 1 1)] : List Value).set 1 (.int x))) = wD ω (zu σ 1 1 x) := rfl
theorem wD_2 {ω : ZO} {σ : ZS} : (wD ω σ)[2]? = some (za ω 2, .inl (zI ω, 80, .inl (σ 2))) := rfl
theorem wD_s2 {ω : ZO} {σ : ZS} (j : Nat) (x : Int32) : (wD ω σ).set 2 (za ω 2, .inl (zI ω, 80, .inl (upd (σ 2) j x))) = wD ω (zu σ 2 j x) := rfl
theorem wD_3 {ω : ZO} {σ : ZS} : (wD ω σ)[3]? = some (za ω 3, .inr (3, [.ref (za ω 4), .ref (za ω 5), .int (σ 3 2), .int (σ 3 3)])) := rfl
theorem wD_f3_2 {ω : ZO} {σ : ZS} (x : Int32) : (wD ω σ).set 3 (za ω 3, .inr (3, ([.ref (za ω 4), .ref (za ω 5), .int (σ 3 2), .int (σ 3 3)] : List Value).set 2 (.int x))) = wD ω (zu σ 3 2 x) := rfl
theorem wD_f3_3 {ω : ZO} {σ : ZS} (x : Int32) : (wD ω σ).set 3 (za ω 3, .inr (3, ([.ref (za ω 4), .ref (za ω 5), .int (σ 3 2), .int (σ 3 3)] : List Value).set 3 (.int x))) = wD ω (zu σ 3 3 x) := rfl
theorem wD_4 {ω : ZO} {σ : ZS} : (wD ω σ)[4]? = some (za ω 4, .inl (zI ω, 11, .inl (σ 4))) := rfl
theorem wD_s4 {ω : ZO} {σ : ZS} (j : Nat) (x : Int32) : (wD ω σ).set 4 (za ω 4, .inl (zI ω, 11, .inl (upd (σ 4) j x))) = wD ω (zu σ 4 j x) := rfl
theorem wD_5 {ω : ZO} {σ : ZS} : (wD ω σ)[5]? = some (za ω 5, .inl (zI ω, 11, .inl (σ 5))) := rfl
theorem wD_s5 {ω : ZO} {σ : ZS} (j : Nat) (x : Int32) : (wD ω σ).set 5 (za ω 5, .inl (zI ω, 11, .inl (upd (σ 5) j x))) = wD ω (zu σ 5 j x) := rfl
theorem wD_6 {ω : ZO} {σ : ZS} : (wD ω σ)[6]? = some (za ω 6, .inr (4, [.ref (za ω 7), .ref (za ω 8), .ref (za ω 9), .ref (za ω 10), .int (σ 6 4), .int (σ 6 5), .int (σ 6 6)])) := rfl
theorem wD_f6_4 {ω : ZO} {σ : ZS} (x : Int32) : (wD ω σ).set 6 (za ω 6, .inr (4, ([.ref (za ω 7), .ref (za ω 8), .ref (za ω 9), .ref (za ω 10), .int (σ 6 4), .int (σ 6 5), .int (σ 6 6)] : List Value).set 4 (.int x))) = wD ω (zu σ 6 4 x) := rfl
theorem wD_f6_5 {ω : ZO} {σ : ZS} (x : Int32) : (wD ω σ).set 6 (za ω 6, .inr (4, ([.ref (za ω 7), .ref (za ω 8), .ref (za ω 9), .ref (za ω 10), .int (σ 6 4), .int (σ 6 5), .int (σ 6 6)] : List Value).set 5 (.int x))) = wD ω (zu σ 6 5 x) := rfl
theorem wD_f6_6 {ω : ZO} {σ : ZS} (x : Int32) : (wD ω σ).set 6 (za ω 6, .inr (4, ([.ref (za ω 7), .ref (za ω 8), .ref (za ω 9), .ref (za ω 10), .int (σ 6 4), .int (σ 6 5), .int (σ 6 6)] : List Value).set 6 (.int x))) = wD ω (zu σ 6 6 x) := rfl
theorem wD_7 {ω : ZO} {σ : ZS} : (wD ω σ)[7]? = some (za ω 7, .inl (zI ω, 24, .inl (σ 7))) := rfl
theorem wD_s7 {ω : ZO} {σ : ZS} (j : Nat) (x : Int32) : (wD ω σ).set 7 (za ω 7, .inl (zI ω, 24, .inl (upd (σ 7) j x))) = wD ω (zu σ 7 j x) := rfl
theorem wD_8 {ω : ZO} {σ : ZS} : (wD ω σ)[8]? = some (za ω 8, .inl (zI ω, 24, .inl (σ 8))) := rfl
theorem wD_s8 {ω : ZO} {σ : ZS} (j : Nat) (x : Int32) : (wD ω σ).set 8 (za ω 8, .inl (zI ω, 24, .inl (upd (σ 8) j x))) = wD ω (zu σ 8 j x) := rfl
theorem wD_9 {ω : ZO} {σ : ZS} : (wD ω σ)[9]? = some (za ω 9, .inl (zI ω, 24, .inl (σ 9))) := rfl
theorem wD_s9 {ω : ZO} {σ : ZS} (j : Nat) (x : Int32) : (wD ω σ).set 9 (za ω 9, .inl (zI ω, 24, .inl (upd (σ 9) j x))) = wD ω (zu σ 9 j x) := rfl
theorem wD_10 {ω : ZO} {σ : ZS} : (wD ω σ)[10]? = some (za ω 10, .inl (zI ω, 8, .inl (σ 10))) := rfl
theorem wD_s10 {ω : ZO} {σ : ZS} (j : Nat) (x : Int32) : (wD ω σ).set 10 (za ω 10, .inl (zI ω, 8, .inl (upd (σ 10) j x))) = wD ω (zu σ 10 j x) := rfl
theorem wD_11 {ω : ZO} {σ : ZS} : (wD ω σ)[11]? = some (za ω 11, .inr (0, [.ref (za ω 12), .ref (za ω 13), .ref (za ω 14), .ref (za ω 15), .ref (za ω 16), .ref (za ω 17)])) := rfl
theorem wD_12 {ω : ZO} {σ : ZS} : (wD ω σ)[12]? = some (za ω 12, .inl (zI ω, 7, .inl (σ 12))) := rfl
theorem wD_s12 {ω : ZO} {σ : ZS} (j : Nat) (x : Int32) : (wD ω σ).set 12 (za ω 12, .inl (zI ω, 7, .inl (upd (σ 12) j x))) = wD ω (zu σ 12 j x) := rfl
theorem wD_13 {ω : ZO} {σ : ZS} : (wD ω σ)[13]? = some (za ω 13, .inl (zI ω, 7, .inl (σ 13))) := rfl
theorem wD_s13 {ω : ZO} {σ : ZS} (j : Nat) (x : Int32) : (wD ω σ).set 13 (za ω 13, .inl (zI ω, 7, .inl (upd (σ 13) j x))) = wD ω (zu σ 13 j x) := rfl
theorem wD_14 {ω : ZO} {σ : ZS} : (wD ω σ)[14]? = some (za ω 14, .inl (zI ω, 7, .inl (σ 14))) := rfl
theorem wD_s14 {ω : ZO} {σ : ZS} (j : Nat) (x : Int32) : (wD ω σ).set 14 (za ω 14, .inl (zI ω, 7, .inl (upd (σ 14) j x))) = wD ω (zu σ 14 j x) := rfl
theorem wD_15 {ω : ZO} {σ : ZS} : (wD ω σ)[15]? = some (za ω 15, .inl (zI ω, 7, .inl (σ 15))) := rfl
theorem wD_s15 {ω : ZO} {σ : ZS} (j : Nat) (x : Int32) : (wD ω σ).set 15 (za ω 15, .inl (zI ω, 7, .inl (upd (σ 15) j x))) = wD ω (zu σ 15 j x) := rfl
theorem wD_16 {ω : ZO} {σ : ZS} : (wD ω σ)[16]? = some (za ω 16, .inl (zI ω, 168, .inl (σ 16))) := rfl
theorem wD_s16 {ω : ZO} {σ : ZS} (j : Nat) (x : Int32) : (wD ω σ).set 16 (za ω 16, .inl (zI ω, 168, .inl (upd (σ 16) j x))) = wD ω (zu σ 16 j x) := rfl
theorem wD_17 {ω : ZO} {σ : ZS} : (wD ω σ)[17]? = some (za ω 17, .inl (zI ω, 24, .inl (σ 17))) := rfl
theorem wD_s17 {ω : ZO} {σ : ZS} (j : Nat) (x : Int32) : (wD ω σ).set 17 (za ω 17, .inl (zI ω, 24, .inl (upd (σ 17) j x))) = wD ω (zu σ 17 j x) := rfl
theorem wD_18 {ω : ZO} {σ : ZS} : (wD ω σ)[18]? = some (za ω 18, .inr (1, [.ref (za ω 19), .ref (za ω 20), .int (σ 18 2)])) := rfl
theorem wD_f18_2 {ω : ZO} {σ : ZS} (x : Int32) : (wD ω σ).set 18 (za ω 18, .inr (1, ([.ref (za ω 19), .ref (za ω 20), .int (σ 18 2)] : List Value).set 2 (.int x))) = wD ω (zu σ 18 2 x) := rfl
theorem wD_19 {ω : ZO} {σ : ZS} : (wD ω σ)[19]? = some (za ω 19, .inl (zI ω, 7, .inl (σ 19))) := rfl
theorem wD_s19 {ω : ZO} {σ : ZS} (j : Nat) (x : Int32) : (wD ω σ).set 19 (za ω 19, .inl (zI ω, 7, .inl (upd (σ 19) j x))) = wD ω (zu σ 19 j x) := rfl
theorem wD_20 {ω : ZO} {σ : ZS} : (wD ω σ)[20]? = some (za ω 20, .inl (zI ω, 84, .inl (σ 20))) := rfl
theorem wD_s20 {ω : ZO} {σ : ZS} (j : Nat) (x : Int32) : (wD ω σ).set 20 (za ω 20, .inl (zI ω, 84, .inl (upd (σ 20) j x))) = wD ω (zu σ 20 j x) := rfl
theorem wD_21 {ω : ZO} {σ : ZS} : (wD ω σ)[21]? = some (za ω 21, .inr (1, [.ref (za ω 22), .ref (za ω 23), .int (σ 21 2)])) := rfl
theorem wD_f21_2 {ω : ZO} {σ : ZS} (x : Int32) : (wD ω σ).set 21 (za ω 21, .inr (1, ([.ref (za ω 22), .ref (za ω 23), .int (σ 21 2)] : List Value).set 2 (.int x))) = wD ω (zu σ 21 2 x) := rfl
theorem wD_22 {ω : ZO} {σ : ZS} : (wD ω σ)[22]? = some (za ω 22, .inl (zI ω, 7, .inl (σ 22))) := rfl
theorem wD_s22 {ω : ZO} {σ : ZS} (j : Nat) (x : Int32) : (wD ω σ).set 22 (za ω 22, .inl (zI ω, 7, .inl (upd (σ 22) j x))) = wD ω (zu σ 22 j x) := rfl
theorem wD_23 {ω : ZO} {σ : ZS} : (wD ω σ)[23]? = some (za ω 23, .inl (zI ω, 84, .inl (σ 23))) := rfl
theorem wD_s23 {ω : ZO} {σ : ZS} (j : Nat) (x : Int32) : (wD ω σ).set 23 (za ω 23, .inl (zI ω, 84, .inl (upd (σ 23) j x))) = wD ω (zu σ 23 j x) := rfl
theorem wD_24 {ω : ZO} {σ : ZS} : (wD ω σ)[24]? = some (za ω 24, .inr (5, [.ref (za ω 25), .ref (za ω 26), .ref (za ω 27), .ref (za ω 28), .ref (za ω 29), .ref (za ω 30), .ref (za ω 31), .int (σ 24 7)])) := rfl
theorem wD_f24_7 {ω : ZO} {σ : ZS} (x : Int32) : (wD ω σ).set 24 (za ω 24, .inr (5, ([.ref (za ω 25), .ref (za ω 26), .ref (za ω 27), .ref (za ω 28), .ref (za ω 29), .ref (za ω 30), .ref (za ω 31), .int (σ 24 7)] : List Value).set 7 (.int x))) = wD ω (zu σ 24 7 x) := rfl
theorem wD_25 {ω : ZO} {σ : ZS} : (wD ω σ)[25]? = some (za ω 25, .inl (zI ω, 84, .inl (σ 25))) := rfl
theorem wD_s25 {ω : ZO} {σ : ZS} (j : Nat) (x : Int32) : (wD ω σ).set 25 (za ω 25, .inl (zI ω, 84, .inl (upd (σ 25) j x))) = wD ω (zu σ 25 j x) := rfl
theorem wD_26 {ω : ZO} {σ : ZS} : (wD ω σ)[26]? = some (za ω 26, .inl (zI ω, 168, .inl (σ 26))) := rfl
theorem wD_s26 {ω : ZO} {σ : ZS} (j : Nat) (x : Int32) : (wD ω σ).set 26 (za ω 26, .inl (zI ω, 168, .inl (upd (σ 26) j x))) = wD ω (zu σ 26 j x) := rfl
theorem wD_27 {ω : ZO} {σ : ZS} : (wD ω σ)[27]? = some (za ω 27, .inl (zI ω, 24, .inl (σ 27))) := rfl
theorem wD_s27 {ω : ZO} {σ : ZS} (j : Nat) (x : Int32) : (wD ω σ).set 27 (za ω 27, .inl (zI ω, 24, .inl (upd (σ 27) j x))) = wD ω (zu σ 27 j x) := rfl
theorem wD_28 {ω : ZO} {σ : ZS} : (wD ω σ)[28]? = some (za ω 28, .inl (zI ω, 24, .inl (σ 28))) := rfl
theorem wD_s28 {ω : ZO} {σ : ZS} (j : Nat) (x : Int32) : (wD ω σ).set 28 (za ω 28, .inl (zI ω, 24, .inl (upd (σ 28) j x))) = wD ω (zu σ 28 j x) := rfl
theorem wD_29 {ω : ZO} {σ : ZS} : (wD ω σ)[29]? = some (za ω 29, .inl (zI ω, 24, .inl (σ 29))) := rfl
theorem wD_s29 {ω : ZO} {σ : ZS} (j : Nat) (x : Int32) : (wD ω σ).set 29 (za ω 29, .inl (zI ω, 24, .inl (upd (σ 29) j x))) = wD ω (zu σ 29 j x) := rfl
theorem wD_30 {ω : ZO} {σ : ZS} : (wD ω σ)[30]? = some (za ω 30, .inl (zI ω, 24, .inl (σ 30))) := rfl
theorem wD_s30 {ω : ZO} {σ : ZS} (j : Nat) (x : Int32) : (wD ω σ).set 30 (za ω 30, .inl (zI ω, 24, .inl (upd (σ 30) j x))) = wD ω (zu σ 30 j x) := rfl
theorem wD_31 {ω : ZO} {σ : ZS} : (wD ω σ)[31]? = some (za ω 31, .inl (zI ω, 3, .inl (σ 31))) := rfl
theorem wD_s31 {ω : ZO} {σ : ZS} (j : Nat) (x : Int32) : (wD ω σ).set 31 (za ω 31, .inl (zI ω, 3, .inl (upd (σ 31) j x))) = wD ω (zu σ 31 j x) := rfl
theorem wD_32 {ω : ZO} {σ : ZS} : (wD ω σ)[32]? = some (za ω 32, .inr (2, [.ref (za ω 33), .ref (za ω 34), .int (σ 32 2)])) := rfl
theorem wD_f32_2 {ω : ZO} {σ : ZS} (x : Int32) : (wD ω σ).set 32 (za ω 32, .inr (2, ([.ref (za ω 33), .ref (za ω 34), .int (σ 32 2)] : List Value).set 2 (.int x))) = wD ω (zu σ 32 2 x) := rfl
theorem wD_33 {ω : ZO} {σ : ZS} : (wD ω σ)[33]? = some (za ω 33, .inl (zI ω, 24, .inl (σ 33))) := rfl
theorem wD_s33 {ω : ZO} {σ : ZS} (j : Nat) (x : Int32) : (wD ω σ).set 33 (za ω 33, .inl (zI ω, 24, .inl (upd (σ 33) j x))) = wD ω (zu σ 33 j x) := rfl
theorem wD_34 {ω : ZO} {σ : ZS} : (wD ω σ)[34]? = some (za ω 34, .inl (zI ω, 24, .inl (σ 34))) := rfl
theorem wD_s34 {ω : ZO} {σ : ZS} (j : Nat) (x : Int32) : (wD ω σ).set 34 (za ω 34, .inl (zI ω, 24, .inl (upd (σ 34) j x))) = wD ω (zu σ 34 j x) := rfl
theorem wD_35 {ω : ZO} {σ : ZS} : (wD ω σ)[35]? = some (za ω 35, .inl (zI ω, 3, .inl (σ 35))) := rfl
theorem wD_s35 {ω : ZO} {σ : ZS} (j : Nat) (x : Int32) : (wD ω σ).set 35 (za ω 35, .inl (zI ω, 3, .inl (upd (σ 35) j x))) = wD ω (zu σ 35 j x) := rfl
def wM (ω : ZO) (σ : ZS) : va_W := [(za ω 0, .inr (8, [.ref (za ω 1), .int (σ 0 1), .ref (za ω 2), .ref (za ω 3), .int (σ 0 4), .ref (za ω 4), .ref (za ω 5), .ref (za ω 6), .ref (za ω 7), .ref (za ω 8), .ref (za ω 9), .ref (za ω 10), .ref (za ω 11), .ref (za ω 12), .ref (za ω 13), .ref (za ω 14), .ref (za ω 15), .ref (za ω 16), .ref (za ω 17), .ref (za ω 18), .ref (za ω 19), .ref (za ω 20), .int (σ 0 22), .int (σ 0 23), .ref (za ω 21), .ref (za ω 22), .ref (za ω 23), .ref (za ω 24), .ref (za ω 25), .int (σ 0 29)])), (za ω 1, .inl (zB ω, 80, .inl (σ 1))), (za ω 2, .inl (zI ω, 11, .inl (σ 2))), (za ω 3, .inl (zI ω, 11, .inl (σ 3))), (za ω 4, .inl (zI ω, 24, .inl (σ 4))), (za ω 5, .inl (zI ω, 24, .inl (σ 5))), (za ω 6, .inl (zI ω, 24, .inl (σ 6))), (za ω 7, .inl (zZ ω, 24, .inl (σ 7))), (za ω 8, .inl (zZ ω, 24, .inl (σ 8))), (za ω 9, .inl (zZ ω, 168, .inl (σ 9))), (za ω 10, .inl (zZ ω, 56, .inl (σ 10))), (za ω 11, .inl (zI ω, 168, .inl (σ 11))), (za ω 12, .inl (zI ω, 2, .inl (σ 12))), (za ω 13, .inl (zI ω, 3, .inl (σ 13))), (za ω 14, .inl (zZ ω, 14, .inl (σ 14))), (za ω 15, .inl (zI ω, 14, .inl (σ 15))), (za ω 16, .inl (zI ω, 14, .inl (σ 16))), (za ω 17, .inl (zI ω, 168, .inl (σ 17))), (za ω 18, .inl (zI ω, 12, .inl (σ 18))), (za ω 19, .inl (zI ω, 24, .inl (σ 19))), (za ω 20, .inl (zI ω, 12, .inl (σ 20))), (za ω 21, .inl (zI ω, 24, .inl (σ 21))), (za ω 22, .inl (zI ω, 24, .inl (σ 22))), (za ω 23, .inl (zI ω, 24, .inl (σ 23))), (za ω 24, .inl (zI ω, 24, .inl (σ 24))), (za ω 25, .inl (zI ω, 24, .inl (σ 25)))]
theorem wM_0 {ω : ZO} {σ : ZS} : (wM ω σ)[0]? = some (za ω 0, .inr (8, [.ref (za ω 1), .int (σ 0 1), .ref (za ω 2), .ref (za ω 3), .int (σ 0 4), .ref (za ω 4), .ref (za ω 5), .ref (za ω 6), .ref (za ω 7), .ref (za ω 8), .ref (za ω 9), .ref (za ω 10), .ref (za ω 11), .ref (za ω 12), .ref (za ω 13), .ref (za ω 14), .ref (za ω 15), .ref (za ω 16), .ref (za ω 17), .ref (za ω 18), .ref (za ω 19), .ref (za ω 20), .int (σ 0 22), .int (σ 0 23), .ref (za ω 21), .ref (za ω 22), .ref (za ω 23), .ref (za ω 24), .ref (za ω 25), .int (σ 0 29)])) := rfl
theorem wM_f0_1 {ω : ZO} {σ : ZS} (x : Int32) : (wM ω σ).set 0 (za ω 0, .inr (8, ([.ref (za ω 1), .int (σ 0 1), .ref (za ω 2), .ref (za ω 3), .int (σ 0 4), .ref (za ω 4), .ref (za ω 5), .ref (za ω 6), .ref (za ω 7), .ref (za ω 8), .ref (za ω 9), .ref (za ω 10), .ref (za ω 11), .ref (za ω 12), .ref (za ω 13), .ref (za ω 14), .ref (za ω 15), .ref (za ω 16), .ref (za ω 17), .ref (za ω 18), .ref (za ω 19), .ref (za ω 20), .int (σ 0 22), .int (σ 0 23), .ref (za ω 21), .ref (za ω 22), .ref (za ω 23), .ref (za ω 24), .ref (za ω 25), .int (σ 0 29)] : List Value).set 1 (.int x))) = wM ω (zu σ 0 1 x) := rfl
theorem wM_f0_4 {ω : ZO} {σ : ZS} (x : Int32) : (wM ω σ).set 0 (za ω 0, .inr (8, ([.ref (za ω 1), .int (σ 0 1), .ref (za ω 2), .ref (za ω 3), .int (σ 0 4), .ref (za ω 4), .ref (za ω 5), .ref (za ω 6), .ref (za ω 7), .ref (za ω 8), .ref (za ω 9), .ref (za ω 10), .ref (za ω 11), .ref (za ω 12), .ref (za ω 13), .ref (za ω 14), .ref (za ω 15), .ref (za ω 16), .ref (za ω 17), .ref (za ω 18), .ref (za ω 19), .ref (za ω 20), .int (σ 0 22), .int (σ 0 23), .ref (za ω 21), .ref (za ω 22), .ref (za ω 23), .ref (za ω 24), .ref (za ω 25), .int (σ 0 29)] : List Value).set 4 (.int x))) = wM ω (zu σ 0 4 x) := rfl
theorem wM_f0_22 {ω : ZO} {σ : ZS} (x : Int32) : (wM ω σ).set 0 (za ω 0, .inr (8, ([.ref (za ω 1), .int (σ 0 1), .ref (za ω 2), .ref (za ω 3), .int (σ 0 4), .ref (za ω 4), .ref (za ω 5), .ref (za ω 6), .ref (za ω 7), .ref (za ω 8), .ref (za ω 9), .ref (za ω 10), .ref (za ω 11), .ref (za ω 12), .ref (za ω 13), .ref (za ω 14), .ref (za ω 15), .ref (za ω 16), .ref (za ω 17), .ref (za ω 18), .ref (za ω 19), .ref (za ω 20), .int (σ 0 22), .int (σ 0 23), .ref (za ω 21), .ref (za ω 22), .ref (za ω 23), .ref (za ω 24), .ref (za ω 25), .int (σ 0 29)] : List Value).set 22 (.int x))) = wM ω (zu σ 0 22 x) := rfl
theorem wM_f0_23 {ω : ZO} {σ : ZS} (x : Int32) : (wM ω σ).set 0 (za ω 0, .inr (8, ([.ref (za ω 1), .int (σ 0 1), .ref (za ω 2), .ref (za ω 3), .int (σ 0 4), .ref (za ω 4), .ref (za ω 5), .ref (za ω 6), .ref (za ω 7), .ref (za ω 8), .ref (za ω 9), .ref (za ω 10), .ref (za ω 11), .ref (za ω 12), .ref (za ω 13), .ref (za ω 14), .ref (za ω 15), .ref (za ω 16), .ref (za ω 17), .ref (za ω 18), .ref (za ω 19), .ref (za ω 20), .int (σ 0 22), .int (σ 0 23), .ref (za ω 21), .ref (za ω 22), .ref (za ω 23), .ref (za ω 24), .ref (za ω 25), .int (σ 0 29)] : List Value).set 23 (.int x))) = wM ω (zu σ 0 23 x) := rfl
theorem wM_f0_29 {ω : ZO} {σ : ZS} (x : Int32) : (wM ω σ).set 0 (za ω 0, .inr (8, ([.ref (za ω 1), .int (σ 0 1), .ref (za ω 2), .ref (za ω 3), .int (σ 0 4), .ref (za ω 4), .ref (za ω 5), .ref (za ω 6), .ref (za ω 7), .ref (za ω 8), .ref (za ω 9), .ref (za ω 10), .ref (za ω 11), .ref (za ω 12), .ref (za ω 13), .ref (za ω 14), .ref (za ω 15), .ref (za ω 16), .ref (za ω 17), .ref (za ω 18), .ref (za ω 19), .ref (za ω 20), .int (σ 0 22), .int (σ 0 23), .ref (za ω 21), .ref (za ω 22), .ref (za ω 23), .ref (za ω 24), .ref (za ω 25), .int (σ 0 29)] : List Value).set 29 (.int x))) = wM ω (zu σ 0 29 x) := rfl
theorem wM_1 {ω : ZO} {σ : ZS} : (wM ω σ)[1]? = some (za ω 1, .inl (zB ω, 80, .inl (σ 1))) := rfl
theorem wM_s1 {ω : ZO} {σ : ZS} (j : Nat) (x : Int32) : (wM ω σ).set 1 (za ω 1, .inl (zB ω, 80, .inl (upd (σ 1) j x))) = wM ω (zu σ 1 j x) := rfl
theorem wM_2 {ω : ZO} {σ : ZS} : (wM ω σ)[2]? = some (za ω 2, .inl (zI ω, 11, .inl (σ 2))) := rfl
theorem wM_s2 {ω : ZO} {σ : ZS} (j : Nat) (x : Int32) : (wM ω σ).set 2 (za ω 2, .inl (zI ω, 11, .inl (upd (σ 2) j x))) = wM ω (zu σ 2 j x) := rfl
theorem wM_3 {ω : ZO} {σ : ZS} : (wM ω σ)[3]? = some (za ω 3, .inl (zI ω, 11, .inl (σ 3))) := rfl
theorem wM_s3 {ω : ZO} {σ : ZS} (j : Nat) (x : Int32) : (wM ω σ).set 3 (za ω 3, .inl (zI ω, 11, .inl (upd (σ 3) j x))) = wM ω (zu σ 3 j x) := rfl
theorem wM_4 {ω : ZO} {σ : ZS} : (wM ω σ)[4]? = some (za ω 4, .inl (zI ω, 24, .inl (σ 4))) := rfl
theorem wM_s4 {ω : ZO} {σ : ZS} (j : Nat) (x : Int32) : (wM ω σ).set 4 (za ω 4, .inl (zI ω, 24, .inl (upd (σ 4) j x))) = wM ω (zu σ 4 j x) := rfl
theorem wM_5 {ω : ZO} {σ : ZS} : (wM ω σ)[5]? = some (za ω 5, .inl (zI ω, 24, .inl (σ 5))) := rfl
theorem wM_s5 {ω : ZO} {σ : ZS} (j : Nat) (x : Int32) : (wM ω σ).set 5 (za ω 5, .inl (zI ω, 24, .inl (upd (σ 5) j x))) = wM ω (zu σ 5 j x) := rfl
theorem wM_6 {ω : ZO} {σ : ZS} : (wM ω σ)[6]? = some (za ω 6, .inl (zI ω, 24, .inl (σ 6))) := rfl
theorem wM_s6 {ω : ZO} {σ : ZS} (j : Nat) (x : Int32) : (wM ω σ).set 6 (za ω 6, .inl (zI ω, 24, .inl (upd (σ 6) j x))) = wM ω (zu σ 6 j x) := rfl
theorem wM_7 {ω : ZO} {σ : ZS} : (wM ω σ)[7]? = some (za ω 7, .inl (zZ ω, 24, .inl (σ 7))) := rfl
theorem wM_s7 {ω : ZO} {σ : ZS} (j : Nat) (x : Int32) : (wM ω σ).set 7 (za ω 7, .inl (zZ ω, 24, .inl (upd (σ 7) j x))) = wM ω (zu σ 7 j x) := rfl
theorem wM_8 {ω : ZO} {σ : ZS} : (wM ω σ)[8]? = some (za ω 8, .inl (zZ ω, 24, .inl (σ 8))) := rfl
theorem wM_s8 {ω : ZO} {σ : ZS} (j : Nat) (x : Int32) : (wM ω σ).set 8 (za ω 8, .inl (zZ ω, 24, .inl (upd (σ 8) j x))) = wM ω (zu σ 8 j x) := rfl
theorem wM_9 {ω : ZO} {σ : ZS} : (wM ω σ)[9]? = some (za ω 9, .inl (zZ ω, 168, .inl (σ 9))) := rfl
theorem wM_s9 {ω : ZO} {σ : ZS} (j : Nat) (x : Int32) : (wM ω σ).set 9 (za ω 9, .inl (zZ ω, 168, .inl (upd (σ 9) j x))) = wM ω (zu σ 9 j x) := rfl
theorem wM_10 {ω : ZO} {σ : ZS} : (wM ω σ)[10]? = some (za ω 10, .inl (zZ ω, 56, .inl (σ 10))) := rfl
theorem wM_s10 {ω : ZO} {σ : ZS} (j : Nat) (x : Int32) : (wM ω σ).set 10 (za ω 10, .inl (zZ ω, 56, .inl (upd (σ 10) j x))) = wM ω (zu σ 10 j x) := rfl
theorem wM_11 {ω : ZO} {σ : ZS} : (wM ω σ)[11]? = some (za ω 11, .inl (zI ω, 168, .inl (σ 11))) := rfl
theorem wM_s11 {ω : ZO} {σ : ZS} (j : Nat) (x : Int32) : (wM ω σ).set 11 (za ω 11, .inl (zI ω, 168, .inl (upd (σ 11) j x))) = wM ω (zu σ 11 j x) := rfl
theorem wM_12 {ω : ZO} {σ : ZS} : (wM ω σ)[12]? = some (za ω 12, .inl (zI ω, 2, .inl (σ 12))) := rfl
theorem wM_s12 {ω : ZO} {σ : ZS} (j : Nat) (x : Int32) : (wM ω σ).set 12 (za ω 12, .inl (zI ω, 2, .inl (upd (σ 12) j x))) = wM ω (zu σ 12 j x) := rfl
theorem wM_13 {ω : ZO} {σ : ZS} : (wM ω σ)[13]? = some (za ω 13, .inl (zI ω, 3, .inl (σ 13))) := rfl
theorem wM_s13 {ω : ZO} {σ : ZS} (j : Nat) (x : Int32) : (wM ω σ).set 13 (za ω 13, .inl (zI ω, 3, .inl (upd (σ 13) j x))) = wM ω (zu σ 13 j x) := rfl
theorem wM_14 {ω : ZO} {σ : ZS} : (wM ω σ)[14]? = some (za ω 14, .inl (zZ ω, 14, .inl (σ 14))) := rfl
theorem wM_s14 {ω : ZO} {σ : ZS} (j : Nat) (x : Int32) : (wM ω σ).set 14 (za ω 14, .inl (zZ ω, 14, .inl (upd (σ 14) j x))) = wM ω (zu σ 14 j x) := rfl
theorem wM_15 {ω : ZO} {σ : ZS} : (wM ω σ)[15]? = some (za ω 15, .inl (zI ω, 14, .inl (σ 15))) := rfl
theorem wM_s15 {ω : ZO} {σ : ZS} (j : Nat) (x : Int32) : (wM ω σ).set 15 (za ω 15, .inl (zI ω, 14, .inl (upd (σ 15) j x))) = wM ω (zu σ 15 j x) := rfl
theorem wM_16 {ω : ZO} {σ : ZS} : (wM ω σ)[16]? = some (za ω 16, .inl (zI ω, 14, .inl (σ 16))) := rfl
theorem wM_s16 {ω : ZO} {σ : ZS} (j : Nat) (x : Int32) : (wM ω σ).set 16 (za ω 16, .inl (zI ω, 14, .inl (upd (σ 16) j x))) = wM ω (zu σ 16 j x) := rfl
theorem wM_17 {ω : ZO} {σ : ZS} : (wM ω σ)[17]? = some (za ω 17, .inl (zI ω, 168, .inl (σ 17))) := rfl
theorem wM_s17 {ω : ZO} {σ : ZS} (j : Nat) (x : Int32) : (wM ω σ).set 17 (za ω 17, .inl (zI ω, 168, .inl (upd (σ 17) j x))) = wM ω (zu σ 17 j x) := rfl
theorem wM_18 {ω : ZO} {σ : ZS} : (wM ω σ)[18]? = some (za ω 18, .inl (zI ω, 12, .inl (σ 18))) := rfl
theorem wM_s18 {ω : ZO} {σ : ZS} (j : Nat) (x : Int32) : (wM ω σ).set 18 (za ω 18, .inl (zI ω, 12, .inl (upd (σ 18) j x))) = wM ω (zu σ 18 j x) := rfl
theorem wM_19 {ω : ZO} {σ : ZS} : (wM ω σ)[19]? = some (za ω 19, .inl (zI ω, 24, .inl (σ 19))) := rfl
theorem wM_s19 {ω : ZO} {σ : ZS} (j : Nat) (x : Int32) : (wM ω σ).set 19 (za ω 19, .inl (zI ω, 24, .inl (upd (σ 19) j x))) = wM ω (zu σ 19 j x) := rfl
theorem wM_20 {ω : ZO} {σ : ZS} : (wM ω σ)[20]? = some (za ω 20, .inl (zI ω, 12, .inl (σ 20))) := rfl
theorem wM_s20 {ω : ZO} {σ : ZS} (j : Nat) (x : Int32) : (wM ω σ).set 20 (za ω 20, .inl (zI ω, 12, .inl (upd (σ 20) j x))) = wM ω (zu σ 20 j x) := rfl
theorem wM_21 {ω : ZO} {σ : ZS} : (wM ω σ)[21]? = some (za ω 21, .inl (zI ω, 24, .inl (σ 21))) := rfl
theorem wM_s21 {ω : ZO} {σ : ZS} (j : Nat) (x : Int32) : (wM ω σ).set 21 (za ω 21, .inl (zI ω, 24, .inl (upd (σ 21) j x))) = wM ω (zu σ 21 j x) := rfl
theorem wM_22 {ω : ZO} {σ : ZS} : (wM ω σ)[22]? = some (za ω 22, .inl (zI ω, 24, .inl (σ 22))) := rfl
theorem wM_s22 {ω : ZO} {σ : ZS} (j : Nat) (x : Int32) : (wM ω σ).set 22 (za ω 22, .inl (zI ω, 24, .inl (upd (σ 22) j x))) = wM ω (zu σ 22 j x) := rfl
theorem wM_23 {ω : ZO} {σ : ZS} : (wM ω σ)[23]? = some (za ω 23, .inl (zI ω, 24, .inl (σ 23))) := rfl
theorem wM_s23 {ω : ZO} {σ : ZS} (j : Nat) (x : Int32) : (wM ω σ).set 23 (za ω 23, .inl (zI ω, 24, .inl (upd (σ 23) j x))) = wM ω (zu σ 23 j x) := rfl
theorem wM_24 {ω : ZO} {σ : ZS} : (wM ω σ)[24]? = some (za ω 24, .inl (zI ω, 24, .inl (σ 24))) := rfl
theorem wM_s24 {ω : ZO} {σ : ZS} (j : Nat) (x : Int32) : (wM ω σ).set 24 (za ω 24, .inl (zI ω, 24, .inl (upd (σ 24) j x))) = wM ω (zu σ 24 j x) := rfl
theorem wM_25 {ω : ZO} {σ : ZS} : (wM ω σ)[25]? = some (za ω 25, .inl (zI ω, 24, .inl (σ 25))) := rfl
theorem wM_s25 {ω : ZO} {σ : ZS} (j : Nat) (x : Int32) : (wM ω σ).set 25 (za ω 25, .inl (zI ω, 24, .inl (upd (σ 25) j x))) = wM ω (zu σ 25 j x) := rfl
abbrev rm_X7_pollOf : Room := { frames := 0, cells := 0, slots := 0, locals := 0 }
theorem sg_X7_pollOf : ZG yX7_pollOf wsX7_pollOf cX7_pollOf 2 (some (.object "PrizeDesk$Poll")) RX7 1 rm_X7_pollOf := ⟨⟨_, rfl⟩, by decide +kernel, rfl, rfl⟩
theorem iu_X7_pollOf_X7 : ∀ w ∈ wsX70, w ∈ wsX7_pollOf := by decide +kernel
theorem lk_X7_pollOf_40 : Cond.fieldLink RX7 40 "PrizeDesk" "shortlistPoll" "LPrizeDesk$Poll;" ∈ wsX7_pollOf := by decide +kernel
theorem lk_X7_pollOf_44 : Cond.fieldLink RX7 44 "PrizeDesk" "winnerPoll" "LPrizeDesk$Poll;" ∈ wsX7_pollOf := by decide +kernel
theorem c_X7_pollOf_a (ω : ZO) (σ : ZS) (a1 : Int32) (h : a1 = 0) : ZR ω wD yX7_pollOf wsX7_pollOf rm_X7_pollOf [.ref (za ω 0), .int a1] σ (za ω 18) := by
  refine ZR.go (cc := cX7_pollOf) (maxL := 2) (ret := (some (.object "PrizeDesk$Poll"))) (own := RX7) (lv := [(0, .ref (za ω 0)), (1, .int a1)]) (by decide) rfl rfl (Nat.le_of_ble_eq_true rfl) rfl (fun κ C hR => ?_)
  have hf : (if a1 = 0 then some (0 : Nat) else none) = some 0 := if_pos h
  refine G_iload_n (pc' := 1) C dX7_pollOf_0 1 rfl rfl ?_
  refine G_if_ne (tgt := 11) (pc' := 4) C dX7_pollOf_1 (by decide) rfl hf (fun hf => ?_) (fun hf => nomatch hf)
  refine G_aload_n (pc' := 5) C dX7_pollOf_4 0 rfl rfl ?_
  refine G_get (pc' := 8) C wD_0 rfl 4 (by decide) rfl iu_X7_pollOf_X7 lk_X7_pollOf_40 dX7_pollOf_5 rfl ?_
  refine G_goto (pc' := 15) C dX7_pollOf_8 (by decide) ?_
  exact G_aret C hR dX7_pollOf_15
theorem c_X7_pollOf_b (ω : ZO) (σ : ZS) (a1 : Int32) (h : ¬ a1 = 0) : ZR ω wD yX7_pollOf wsX7_pollOf rm_X7_pollOf [.ref (za ω 0), .int a1] σ (za ω 21) := by
  refine ZR.go (cc := cX7_pollOf) (maxL := 2) (ret := (some (.object "PrizeDesk$Poll"))) (own := RX7) (lv := [(0, .ref (za ω 0)), (1, .int a1)]) (by decide) rfl rfl (Nat.le_of_ble_eq_true rfl) rfl (fun κ C hR => ?_)
  have hf : (if a1 = 0 then none else some (0 : Nat)) = some 0 := if_neg h
  refine G_iload_n (pc' := 1) C dX7_pollOf_0 1 rfl rfl ?_
  refine G_if_ne (tgt := 11) (pc' := 4) C dX7_pollOf_1 (by decide) rfl hf (fun hf => nomatch hf) (fun hf => ?_)
  refine G_aload_n (pc' := 12) C dX7_pollOf_11 0 rfl rfl ?_
  refine G_get (pc' := 15) C wD_0 rfl 5 (by decide) rfl iu_X7_pollOf_X7 lk_X7_pollOf_44 dX7_pollOf_12 rfl ?_
  exact G_aret C hR dX7_pollOf_15
