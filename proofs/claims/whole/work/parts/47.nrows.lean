/-! ===== making: a world that grows, and a row an instruction ===== -/
def zwA (ω : ZO) (A : Nat → Prop) : ZO := (zL ω, zD ω, zI ω, zB ω, zZ ω, A, zS ω, za ω)
def GN (ω : ZO) (κ : ZK) (A : Nat → Prop) (pc : Nat) (lv : List (Nat × Value)) (st : List Value) (ws : va_W) (k n : Nat) : Prop := match κ with
  | (p, e, R, s, m, args, below, meth, c, Q, nL) => ∀ (H : Heap) (locs : List Loc) (ls : Array Slot), va_P (zD ω) vwCl ws H → va_D A ws → va_S A s.heap H locs → lv_has ls nL lv → W p (zL ω) e R s m args below meth c H locs k n Q (F0 m pc ls st)
def CN (ω : ZO) (κ : ZK) (A : Nat → Prop) (cc : ByteArray) (Ts : List Cond) (own : String) (nL : Nat) (rm : Room) : Prop := match κ with
  | (p, _, R, s, m, args, _, meth, c, _, n) => CallFix p m c cc nL s args Ts own ∧ va_K (zD ω) vwCl (ztys ω) s ∧ (∀ q, s.heap.size ≤ q → A q) ∧ zM (zwA ω A) s s.heap ∧ meth.locks = false ∧ R = rm ∧ n = nL
def zN0 (ω : ZO) (ws0 : va_W) (sz : Nat) (U : State) : Prop := U.heap.size = sz ∧ va_P (zD ω) vwCl ws0 U.heap ∧ va_K (zD ω) vwCl (ztys ω) U ∧ va_D (fun _ => True) ws0 ∧ zM (zwA ω (va_A ws0 sz)) U U.heap
def zNB (ω : ZO) (ws0 : va_W) (sz : Nat) (R : (Nat → Nat) → va_W) : (Nat → Nat) → State → Prop := fun a t => va_P (zD ω) vwCl (R a) t.heap ∧ va_D (va_A ws0 sz) (R a)
def zIn (κ : ZK) : Prop := match κ with
  | (_, _, _, _, _, _, _, meth, _, _, _) => meth.name = "<init>"
def ZN (ω : ZO) (y : MethodName) (ws : List Cond) (rm : Room) (av : List Value) (ws0 : va_W) (mc ms : Nat) (R : (Nat → Nat) → va_W) : Prop := ∀ sz, Met (zL ω) y ws rm (va_Pc av (zN0 ω ws0 sz)) (va_Qv (fun _ : Nat → Nat => True) (zNB ω ws0 sz R) (va_A ws0 sz)) mc ms (va_A ws0 sz)
def zRN (ω : ZO) (κ : ZK) (A : Nat → Prop) (ws0 : va_W) (mc ms : Nat) (R : (Nat → Nat) → va_W) : Prop := match κ with
  | (_, _, _, s, _, args, below, meth, _, Q, _) => A = va_A ws0 s.heap.size ∧ meth.sig.returnType = none ∧ Q = MQ below (va_Qv (fun _ : Nat → Nat => True) (zNB ω ws0 s.heap.size R) A) args s mc ms A
theorem ZN.go {ω : ZO} {y : MethodName} {ws ws' : List Cond} {rm : Room} {cc : ByteArray} {maxL : Nat} {own : String} {av : List Value} {lv : List (Nat × Value)} {ws0 : va_W} {mc ms : Nat} {R : (Nat → Nat) → va_W} (hy : plainName y.cls = true) (hw : ws = Cond.code y cc maxL none :: ws') (ho : y.cls = own) (hn : (lg_sl av).length ≤ maxL) (hlv : lv_args 0 av = lv)
    (body : ∀ (κ : ZK) (A : Nat → Prop), CN ω κ A cc ws own maxL rm → zRN ω κ A ws0 mc ms R → (y.name = "<init>" → zIn κ) → GN ω κ A 0 lv [] ws0 0 0) : ZN ω y ws rm av ws0 mc ms R := by
  intro sz
  refine Met.ofW (cc := cc) (maxL := maxL) (ret := none) hy hw ?_
  intro p e s m args below meth c s₁ B hml hv
  obtain ⟨rfl, rfl, hP, hK, hD, hM⟩ := hv
  have hts := atoms_spec (ws := ws) B.pre
  have hown : s.vm.findClass own = some m.cls := by rw [← ho]; exact findClass_of_methodNamed B.named
  have hl := lv_entry av (n := maxL) hn
  rw [lg_entry_eq]
  rw [hlv] at hl
  exact body (p, e, (headSpec ws rm).room, s, m, av.toArray, below, meth, c, _, maxL) (va_A ws0 s.heap.size) ⟨⟨B.exec, B.bytes, hml, hown, hts⟩, hK, fun q h => Or.inr h, hM, B.notSynchronized, rfl, rfl⟩ ⟨rfl, B.returns, rfl⟩ (fun hyi => by show meth.name = _; rw [(name_of_methodNamed B.named B.method).1]; exact hyi) s.heap [] _ hP (hD.self) va_S.rf hl
section NRows
variable {ω : ZO} {κ : ZK} {A : Nat → Prop} {cc : ByteArray} {Ts : List Cond} {own : String} {nL : Nat} {rm : Room} {pc pc' : Nat} {lv lv' : List (Nat × Value)} {st : List Value} {ws : va_W} {kc ks : Nat}
theorem N_aload_n (C : CN ω κ A cc Ts own nL rm) {k : Fin 4} {x : Nat} (d : decode cc pc = .ok (.aload_n k, 1)) (q : Nat) (h : lv[q]? = some ((k : Nat), .ref x)) (hp : pc + 1 = pc') (g : GN ω κ A pc' lv (.ref x :: st) ws kc ks) : GN ω κ A pc lv st ws kc ks := by
  obtain ⟨p, e, R, s, m, args, below, meth, c, Q, n⟩ := κ
  obtain ⟨⟨hx, hb, hml, hown, hts⟩, hK, hA, hM, hlk, hRm, hnn⟩ := C
  subst hRm; subst hnn; subst hp
  intro H locs ls hP hD hS hl
  exact lv_aload_n hx hb d rfl (lv_at hl q h) (g H locs ls hP hD hS hl)
theorem N_iload_n (C : CN ω κ A cc Ts own nL rm) {k : Fin 4} {x : Int32} (d : decode cc pc = .ok (.iload_n k, 1)) (q : Nat) (h : lv[q]? = some ((k : Nat), .int x)) (hp : pc + 1 = pc') (g : GN ω κ A pc' lv (.int x :: st) ws kc ks) : GN ω κ A pc lv st ws kc ks := by
  obtain ⟨p, e, R, s, m, args, below, meth, c, Q, n⟩ := κ
  obtain ⟨⟨hx, hb, hml, hown, hts⟩, hK, hA, hM, hlk, hRm, hnn⟩ := C
  subst hRm; subst hnn; subst hp
  intro H locs ls hP hD hS hl
  exact lv_iload_n hx hb d rfl (lv_at hl q h) (g H locs ls hP hD hS hl)
theorem N_iconst (C : CN ω κ A cc Ts own nL rm) {k : Int} {v : Int32} (d : decode cc pc = .ok (.iconst k, 1)) (hv : Int32.ofInt k = v) (hp : pc + 1 = pc') (g : GN ω κ A pc' lv (.int v :: st) ws kc ks) : GN ω κ A pc lv st ws kc ks := by
  obtain ⟨p, e, R, s, m, args, below, meth, c, Q, n⟩ := κ
  obtain ⟨⟨hx, hb, hml, hown, hts⟩, hK, hA, hM, hlk, hRm, hnn⟩ := C
  subst hRm; subst hnn; subst hp
  intro H locs ls hP hD hS hl
  exact lv_iconst hx hb d hv (g H locs ls hP hD hS hl)
theorem N_bipush (C : CN ω κ A cc Ts own nL rm) {k : Int} {v : Int32} (d : decode cc pc = .ok (.bipush k, 2)) (hv : (Int8.ofInt k).toInt32 = v) (hp : pc + 2 = pc') (g : GN ω κ A pc' lv (.int v :: st) ws kc ks) : GN ω κ A pc lv st ws kc ks := by
  obtain ⟨p, e, R, s, m, args, below, meth, c, Q, n⟩ := κ
  obtain ⟨⟨hx, hb, hml, hown, hts⟩, hK, hA, hM, hlk, hRm, hnn⟩ := C
  subst hRm; subst hnn; subst hp
  intro H locs ls hP hD hS hl
  exact lv_bipush hx hb d hv (g H locs ls hP hD hS hl)
theorem N_sipush (C : CN ω κ A cc Ts own nL rm) {k : Int} {v : Int32} (d : decode cc pc = .ok (.sipush k, 3)) (hv : (Int16.ofInt k).toInt32 = v) (hp : pc + 3 = pc') (g : GN ω κ A pc' lv (.int v :: st) ws kc ks) : GN ω κ A pc lv st ws kc ks := by
  obtain ⟨p, e, R, s, m, args, below, meth, c, Q, n⟩ := κ
  obtain ⟨⟨hx, hb, hml, hown, hts⟩, hK, hA, hM, hlk, hRm, hnn⟩ := C
  subst hRm; subst hnn; subst hp
  intro H locs ls hP hD hS hl
  exact lv_sipush hx hb d hv (g H locs ls hP hD hS hl)
theorem N_dup (C : CN ω κ A cc Ts own nL rm) {v : Value} (d : decode cc pc = .ok (.dup, 1)) (hv : v.category = 1) (hp : pc + 1 = pc') (g : GN ω κ A pc' lv (v :: v :: st) ws kc ks) : GN ω κ A pc lv (v :: st) ws kc ks := by
  obtain ⟨p, e, R, s, m, args, below, meth, c, Q, n⟩ := κ
  obtain ⟨⟨hx, hb, hml, hown, hts⟩, hK, hA, hM, hlk, hRm, hnn⟩ := C
  subst hRm; subst hnn; subst hp
  intro H locs ls hP hD hS hl
  exact lv_dup hx hb d hv (g H locs ls hP hD hS hl)
theorem N_istore_n (C : CN ω κ A cc Ts own nL rm) {k : Fin 4} {x : Int32} (d : decode cc pc = .ok (.istore_n k, 1)) (hk : (k : Nat) < nL) (qs : List Nat) (h : lv_pick (((k : Nat), .int x) :: lv.filter (fun q => !(q.1 == (k : Nat)) && !(q.1 + 1 == (k : Nat) && q.2.category == 2))) qs = lv') (hp : pc + 1 = pc') (g : GN ω κ A pc' lv' st ws kc ks) : GN ω κ A pc lv (.int x :: st) ws kc ks := by
  obtain ⟨p, e, R, s, m, args, below, meth, c, Q, n⟩ := κ
  obtain ⟨⟨hx, hb, hml, hown, hts⟩, hK, hA, hM, hlk, hRm, hnn⟩ := C
  subst hRm; subst hnn; subst hp
  intro H locs ls hP hD hS hl
  exact lv_istore_n hx hb d rfl hl hk rfl (fun ls2 hl2 => g H locs ls2 hP hD hS (lv_sub hl2 qs h))
theorem N_iinc (C : CN ω κ A cc Ts own nL rm) {k : Nat} {z : Int} {x v : Int32} (d : decode cc pc = .ok (.iinc k z, 3)) (q : Nat) (hq : lv[q]? = some (k, .int x)) (hv : x + Int32.ofInt z = v) (hk : k < nL) (qs : List Nat) (h : lv_pick ((k, .int v) :: lv.filter (fun q => !(q.1 == k) && !(q.1 + 1 == k && q.2.category == 2))) qs = lv') (hp : pc + 3 = pc') (g : GN ω κ A pc' lv' st ws kc ks) : GN ω κ A pc lv st ws kc ks := by
  obtain ⟨p, e, R, s, m, args, below, meth, c, Q, n⟩ := κ
  obtain ⟨⟨hx, hb, hml, hown, hts⟩, hK, hA, hM, hlk, hRm, hnn⟩ := C
  subst hRm; subst hnn; subst hp
  intro H locs ls hP hD hS hl
  exact lv_iinc hx hb d hl hq hv hk rfl (fun ls2 hl2 => g H locs ls2 hP hD hS (lv_sub hl2 qs h))
theorem N_goto (C : CN ω κ A cc Ts own nL rm) {off : Int} (d : decode cc pc = .ok (.goto off, 3)) (ht : (pc : Int) + off = (pc' : Int)) (g : GN ω κ A pc' lv st ws kc ks) : GN ω κ A pc lv st ws kc ks := by
  obtain ⟨p, e, R, s, m, args, below, meth, c, Q, n⟩ := κ
  obtain ⟨⟨hx, hb, hml, hown, hts⟩, hK, hA, hM, hlk, hRm, hnn⟩ := C
  subst hRm; subst hnn
  intro H locs ls hP hD hS hl
  exact lv_goto hx hb d ht (g H locs ls hP hD hS hl)
theorem N_ge_t (C : CN ω κ A cc Ts own nL rm) {x y : Int32} {off : Int} {tgt : Nat} (d : decode cc pc = .ok (.if_icmp .ge off, 3)) (ht : (pc : Int) + off = (tgt : Int)) (h0 : y ≤ x) (g : GN ω κ A tgt lv st ws kc ks) : GN ω κ A pc lv (.int y :: .int x :: st) ws kc ks := by
  obtain ⟨p, e, R, s, m, args, below, meth, c, Q, n⟩ := κ
  obtain ⟨⟨hx, hb, hml, hown, hts⟩, hK, hA, hM, hlk, hRm, hnn⟩ := C
  subst hRm; subst hnn
  intro H locs ls hP hD hS hl
  exact lv_icmp_ge hx hb d ht (fun _ => g H locs ls hP hD hS hl) (fun h => absurd h0 h)
theorem N_ge_f (C : CN ω κ A cc Ts own nL rm) {x y : Int32} {off : Int} {tgt : Nat} (d : decode cc pc = .ok (.if_icmp .ge off, 3)) (ht : (pc : Int) + off = (tgt : Int)) (hp : pc + 3 = pc') (h0 : ¬ y ≤ x) (g : GN ω κ A pc' lv st ws kc ks) : GN ω κ A pc lv (.int y :: .int x :: st) ws kc ks := by
  obtain ⟨p, e, R, s, m, args, below, meth, c, Q, n⟩ := κ
  obtain ⟨⟨hx, hb, hml, hown, hts⟩, hK, hA, hM, hlk, hRm, hnn⟩ := C
  subst hRm; subst hnn; subst hp
  intro H locs ls hP hD hS hl
  exact lv_icmp_ge hx hb d ht (fun h => absurd h h0) (fun _ => g H locs ls hP hD hS hl)
theorem N_get (C : CN ω κ A cc Ts own nL rm) {Cn : String} {T : u_T} {N ci idx a : Nat} {fs : List Value} {v : Value} (q0 : Nat) (he : ws[q0]? = some (a, .inr (ci, fs))) (hc : vwCl[ci]? = some (Cn, T, N)) (k : Nat) (hk : k < N) (hv : fs[k]? = some v) (hin : ∀ w ∈ u_ws Cn T N, w ∈ Ts) (hlink : Cond.fieldLink own idx (T k).1 (T k).2.1 (T k).2.2.1 ∈ Ts) (d : decode cc pc = .ok (.getfield idx, 3)) (hp : pc + 3 = pc') (g : GN ω κ A pc' lv (v :: st) ws kc ks) : GN ω κ A pc lv (.ref a :: st) ws kc ks := by
  obtain ⟨p, e, R, s, m, args, below, meth, c, Q, n⟩ := κ
  obtain ⟨⟨hx, hb, hml, hown, hts⟩, hK, hA, hM, hlk, hRm, hnn⟩ := C
  subst hRm; subst hnn; subst hp
  intro H locs ls hP hD hS hl
  exact va_get hx hb hts hin hown hK hP q0 he hc k hk (hts _ hlink) (fun _ h9 => h9) hv d (g H locs ls hP hD hS hl)
theorem N_putI (C : CN ω κ A cc Ts own nL rm) {Cn : String} {T : u_T} {N ci idx a : Nat} {fs : List Value} {x : Int32} (ty0 : Nat → FieldType) (hty : ∀ k, k < N → parseFieldDescriptor (T k).2.2.1 = some (ty0 k)) (hnm : ∀ a, a < N → ∀ b, b < N → a ≠ b → (T a).2.1 ≠ (T b).2.1) (q0 : Nat) (he : ws[q0]? = some (a, .inr (ci, fs))) (hc : vwCl[ci]? = some (Cn, T, N)) (k : Nat) (hk : k < N) (hl9 : k < fs.length) (hin : ∀ w ∈ u_ws Cn T N, w ∈ Ts) (hlink : Cond.fieldLink own idx (T k).1 (T k).2.1 (T k).2.2.1 ∈ Ts) (hfin : (T k).2.2.2 = false) (hdp : parseFieldDescriptor (T k).2.2.1 = some .int) {ws2 : va_W} (hs : ws.set q0 (a, .inr (ci, fs.set k (.int x))) = ws2) (d : decode cc pc = .ok (.putfield idx, 3)) (hp : pc + 3 = pc') (g : GN ω κ A pc' lv st ws2 kc ks) : GN ω κ A pc lv (.int x :: .ref a :: st) ws kc ks := by
  obtain ⟨p, e, R, s, m, args, below, meth, c, Q, n⟩ := κ
  obtain ⟨⟨hx, hb, hml, hown, hts⟩, hK, hA, hM, hlk, hRm, hnn⟩ := C
  subst hRm; subst hnn; subst hp
  intro H locs ls hP hD hS hl
  refine va_put hx hb hts hin ty0 hty hnm hown hK hP hD hS q0 he hc k hk (hts _ hlink) (fun _ h9 => h9) hfin hdp rfl rfl hl9 d (fun H1 locs1 hP1 hD1 hS1 => ?_)
  rw [hs] at hP1 hD1
  exact g H1 locs1 ls hP1 hD1 hS1 hl
theorem N_putR (C : CN ω κ A cc Ts own nL rm) (hi : zIn κ) {Cn : String} {T : u_T} {N ci idx a b : Nat} {fs : List Value} (ty0 : Nat → FieldType) (hty : ∀ k, k < N → parseFieldDescriptor (T k).2.2.1 = some (ty0 k)) (hnm : ∀ a, a < N → ∀ b, b < N → a ≠ b → (T a).2.1 ≠ (T b).2.1) (q0 : Nat) (he : ws[q0]? = some (a, .inr (ci, fs))) (hc : vwCl[ci]? = some (Cn, T, N)) (k : Nat) (hk : k < N) (hl9 : k < fs.length) (hin : ∀ w ∈ u_ws Cn T N, w ∈ Ts) (hlink : Cond.fieldLink own idx (T k).1 (T k).2.1 (T k).2.2.1 ∈ Ts) (hfin : (T k).2.2.2 = true) (hdc : (T k).1 = own) (hnr : narrow (ty0 k) (.ref b) = .ref b) (hft : fits (ty0 k) (.ref b) = true) {ws2 : va_W} (hs : ws.set q0 (a, .inr (ci, fs.set k (.ref b))) = ws2) (d : decode cc pc = .ok (.putfield idx, 3)) (hp : pc + 3 = pc') (g : GN ω κ A pc' lv st ws2 kc ks) : GN ω κ A pc lv (.ref b :: .ref a :: st) ws kc ks := by
  obtain ⟨p, e, R, s, m, args, below, meth, c, Q, n⟩ := κ
  obtain ⟨⟨hx, hb, hml, hown, hts⟩, hK, hA, hM, hlk, hRm, hnn⟩ := C
  subst hRm; subst hnn; subst hp
  have hi : meth.name = "<init>" := hi
  intro H locs ls hP hD hS hl
  refine va_putF hx hb hts hin ty0 hty hnm hown hK hP hD hS q0 he hc k hk (hts _ hlink) (fun _ h9 => h9) hfin hi hdc (hty k hk) hnr hft hl9 d (fun H1 locs1 hP1 hD1 hS1 => ?_)
  rw [hs] at hP1 hD1
  exact g H1 locs1 ls hP1 hD1 hS1 hl
theorem zT_eq {D : va_G} {cl : List vw_C} {tys : List (ClassId × FieldType)} {U : State} {i j : Nat} {c1 c2 : ClassId} {ty : FieldType} (h : va_K D cl tys U) (h1 : tys[i]? = some (c1, ty)) (h2 : tys[j]? = some (c2, ty)) (ho : ∀ c, va_RA U c ty → U.vm.findClass ("[" ++ ty.toString) = some c) : c2 = c1 := by
  have e1 := ho _ (h.2 i _ h1).2
  have e2 := ho _ (h.2 j _ h2).2
  rw [e1] at e2
  exact (Option.some.inj e2).symm
theorem N_newa (C : CN ω κ A cc Ts own nL rm) {at0 : ArrayType} {ty : FieldType} {cA0 : ClassId} (t0 : Nat) (ht0 : (ztys ω)[t0]? = some (cA0, ty)) (hra : ∀ (U : State) (c : ClassId), va_RA U c ty → U.vm.findClass ("[" ++ ty.toString) = some c) (hty : newarray.typeOf at0 = ty) (hac : Cond.arrayClass (newarray.typeOf at0) ∈ Ts) {n9 : Int32} {N9 : Nat} (ha : ∀ cA : ClassId, vp_cell cA (N9, .inl (fun _ => 0)) = arrV cA N9 (fun _ => defaultValue ty)) (hn : ¬ n9 < 0) (hN : n9.toNatClampNeg = N9) (hby : N9 * componentBytes ty ≤ 536870912) (hce : kc + 1 ≤ rm.cells) (hsl : ks + N9 ≤ rm.slots) (d : decode cc pc = .ok (.newarray at0, 2)) (hp : pc + 2 = pc') {kc2 ks2 : Nat} (e1 : kc + 1 = kc2) (e2 : ks + N9 = ks2) (g : ∀ q : Nat, GN ω κ A pc' lv (.ref q :: st) (ws ++ [(q, .inl (cA0, N9, .inl (fun _ => 0)))]) kc2 ks2) : GN ω κ A pc lv (.int n9 :: st) ws kc ks := by
  obtain ⟨p, e, R, s, m, args, below, meth, c, Q, n⟩ := κ
  obtain ⟨⟨hx, hb, hml, hown, hts⟩, hK, hA, hM, hlk, hRm, hnn⟩ := C
  subst hRm; subst hnn; subst hp; subst e1; subst e2
  intro H locs ls hP hD hS hl
  refine va_newa hx hb (hts _ hac) hty hK hP hD hS hA ha hn hN hby hce hsl d (fun q cA H1 hK1 hP1 hD1 hS1 => ?_)
  have ec : cA = cA0 := zT_eq (i := t0) (j := (ztys ω).length) hK1 (by rw [List.getElem?_append_left (List.getElem?_eq_some_iff.mp ht0).1]; exact ht0) (by rw [List.getElem?_append_right (Nat.le_refl _), Nat.sub_self]; rfl) (hra s)
  subst ec
  exact g q H1 locs ls hP1 hD1 hS1 hl
theorem N_iast (C : CN ω κ A cc Ts own nL rm) {a len : Nat} {f : Nat → Int32} {i x : Int32} (q0 : Nat) (he : ws[q0]? = some (a, .inl (zI ω, len, .inl f))) (hv : vp_in i len) {ws2 : va_W} (hs : ws.set q0 (a, .inl (zI ω, len, .inl (upd f i.toNatClampNeg x))) = ws2) (d : decode cc pc = .ok (.iastore, 1)) (hp : pc + 1 = pc') (g : GN ω κ A pc' lv st ws2 kc ks) : GN ω κ A pc lv (.int x :: .int i :: .ref a :: st) ws kc ks := by
  obtain ⟨p, e, R, s, m, args, below, meth, c, Q, n⟩ := κ
  obtain ⟨⟨hx, hb, hml, hown, hts⟩, hK, hA, hM, hlk, hRm, hnn⟩ := C
  subst hRm; subst hnn; subst hp
  intro H locs ls hP hD hS hl
  refine va_iast hx hb hK hP hD hS q0 0 he rfl hv d (fun H1 locs1 hP1 hD1 hS1 => ?_)
  rw [hs] at hP1 hD1
  exact g H1 locs1 ls hP1 hD1 hS1 hl
theorem N_gets (C : CN ω κ A cc Ts own nL rm) {idx : Nat} (k : Nat) (hk : k < 4) (hlink : Cond.fieldLink own idx RX3 (zNm k) "[I" ∈ Ts) (d : decode cc pc = .ok (.getstatic idx, 3)) (hp : pc + 3 = pc') (g : GN ω κ A pc' lv (.ref (zS ω k) :: st) ws kc ks) : GN ω κ A pc lv st ws kc ks := by
  obtain ⟨p, e, R, s, m, args, below, meth, c, Q, n⟩ := κ
  obtain ⟨⟨hx, hb, hml, hown, hts⟩, hK, hA, hM, hlk, hRm, hnn⟩ := C
  subst hRm; subst hnn; subst hp
  intro H locs ls hP hD hS hl
  exact va_gets hx hb (hM.2 k hk).1 hS hown (hts _ hlink) (fun _ h9 => h9) d (g H locs ls hP hD hS hl)
theorem N_tald (C : CN ω κ A cc Ts own nL rm) {i v : Int32} (k : Nat) (hk : k < 4) (hi : vp_in i 11) (hv : zTb k i.toNatClampNeg = v) (d : decode cc pc = .ok (.iaload, 1)) (hp : pc + 1 = pc') (g : GN ω κ A pc' lv (.int v :: st) ws kc ks) : GN ω κ A pc lv (.int i :: .ref (zS ω k) :: st) ws kc ks := by
  obtain ⟨p, e, R, s, m, args, below, meth, c, Q, n⟩ := κ
  obtain ⟨⟨hx, hb, hml, hown, hts⟩, hK, hA, hM, hlk, hRm, hnn⟩ := C
  subst hRm; subst hnn; subst hp
  intro H locs ls hP hD hS hl
  exact va_ti hx hb (hM.2 k hk).2 hS hi (by rw [hv]) d (g H locs ls hP hD hS hl)
theorem N_obj (C : CN ω κ A cc Ts own nL rm) {idx a : Nat} (h1 : Cond.methodLink own idx objectInit ∈ Ts) (h2 : Cond.instanceMethod objectInit ∈ Ts) (h3 : Cond.code objectInit ⟨#[0xb1]⟩ 1 none ∈ Ts) (d : decode cc pc = .ok (.invokespecial idx, 3)) (hp : pc + 3 = pc') (hf : 1 ≤ rm.frames) (hlo : 12 ≤ rm.locals) (g : GN ω κ A pc' lv [] ws kc ks) : GN ω κ A pc lv [.ref a] ws kc ks := by
  obtain ⟨p, e, R, s, m, args, below, meth, c, Q, n⟩ := κ
  obtain ⟨⟨hx, hb, hml, hown, hts⟩, hK, hA, hM, hlk, hRm, hnn⟩ := C
  subst hRm; subst hnn; subst hp
  intro H locs ls hP hD hS hl
  refine W.objInit hx hb hown (hts _ h1) (hts _ h2) (hts _ h3) rfl (by rw [hml]; exact hl.1) rfl d hf (by simpa [F0] using hlo) ?_
  exact W.eq (g2 := F0 m (pc + 3) ls []) rfl (g H locs ls hP hD hS hl)
theorem N_new (C : CN ω κ A cc Ts own nL rm) {Cn : String} {T : u_T} {N ci idx : Nat} (ty0 : Nat → FieldType) (hty : ∀ k, k < N → parseFieldDescriptor (T k).2.2.1 = some (ty0 k)) (hin : ∀ w ∈ u_ws Cn T N, w ∈ Ts) (h1 : Cond.classLink own idx Cn ∈ Ts) (h2 : Cond.instantiable Cn N ∈ Ts) (h3 : Cond.initialized Cn ∈ Ts) (hc : vwCl[ci]? = some (Cn, T, N)) {fs : List Value} (hfs : ∀ j, j < N → defaultValue (ty0 j) = vp_V fs j) (hce : kc + 1 ≤ rm.cells) (hsl : ks + N ≤ rm.slots) (d : decode cc pc = .ok (.new idx, 3)) (hp : pc + 3 = pc') {kc2 ks2 : Nat} (e1 : kc + 1 = kc2) (e2 : ks + N = ks2) (g : ∀ q : Nat, GN ω κ A pc' lv (.ref q :: st) (ws ++ [(q, .inr (ci, fs))]) kc2 ks2) : GN ω κ A pc lv st ws kc ks := by
  obtain ⟨p, e, R, s, m, args, below, meth, c, Q, n⟩ := κ
  obtain ⟨⟨hx, hb, hml, hown, hts⟩, hK, hA, hM, hlk, hRm, hnn⟩ := C
  subst hRm; subst hnn; subst hp; subst e1; subst e2
  intro H locs ls hP hD hS hl
  exact va_new hx hb hts hin ty0 hty hown (hts _ h1) (hts _ h2) (hts _ h3) hK hP hD hS hA hc hfs hce hsl d (fun q H1 hP1 hD1 hS1 => g q H1 locs ls hP1 hD1 hS1 hl)
theorem zM.sub {A1 : Nat → Prop} {s U : State} {H : Heap} (hM : zM (zwA ω A) s s.heap) (hW : s.WarmedH U.vm) (hq : ∀ q : Nat, q < s.heap.size → ¬ A q → H[q]? = s.heap[q]?) (hU : U.heap = H) (hF : ∀ q, A1 q → A q) : zM (zwA ω A1) U U.heap := by
  have h1 : zM (zwA ω A) U H := zM.warm (ω := zwA ω A) hW hq hM
  rw [hU]
  exact ⟨h1.1, fun k hk => ⟨va_Z.narrow (h1.2 k hk).1 hF, va_T.narrow (h1.2 k hk).2 hF⟩⟩
theorem zN0.blind {ws0 : va_W} {sz : Nat} {av : List Value} : FrameBlind (va_Pc av (zN0 ω ws0 sz)) := by
  intro a U g mk h
  obtain ⟨h0, h1, h2, h3, h4, h5⟩ := h
  exact ⟨h0, h1, h2, va_K.moved (u := U) (U := U.calling g mk a) (Vm.Alike.refl U.vm) h3, h4, zM.same (s := U) (U := U.calling g mk a) rfl h5⟩
theorem N_callI (C : CN ω κ A cc Ts own nL rm) {y : MethodName} {wy : List Cond} {bytes : ByteArray} {maxL idx : Nat} {wy' : List Cond} {rm2 : Room} {q mc ms : Nat} {e0 : va_E} {rest : List Value} {R : (Nat → Nat) → va_W} (wr : va_W) (isC isR : List Nat) (hC : ZN ω y wy rm2 [.ref q] [(q, e0)] mc ms R) (hwy : wy = Cond.code y bytes maxL none :: wy') (hG : GoodIn Ts wy) (hrc : rm2.cells = mc) (hrs : rm2.slots = ms) (h3 : Cond.initialized y.cls ∈ Ts) (h1 : Cond.methodLink own idx y ∈ Ts) (h2 : Cond.instanceMethod y ∈ Ts) (hyn : y.name = "<init>") (hde : y.cls ≠ "java/lang/invoke/MethodHandle" ∧ y.cls ≠ "java/lang/invoke/VarHandle" ∧ (parseMethodDescriptor y.desc).map (fun d => d.parameters.length) = some 0) (hr : rm2.frames + 1 ≤ rm.frames ∧ 8 + (maxL + 11) + rm2.locals ≤ rm.locals) (d : decode cc pc = .ok (.invokespecial idx, 3)) (hp : pc + 3 = pc') (hce : kc + mc ≤ rm.cells ∧ ks + ms ≤ rm.slots) (hn : va_nd isR = true) (hCC : isC.map (fun i => (wr ++ [(q, e0)])[i]?) = [(q, e0)].map some) (hR : isR.map (fun i => (wr ++ [(q, e0)])[i]?) = wr.map some) (hdis : ∀ i ∈ isR, i ∉ isC) (hsm : (rest.map fun v => v.category).sum ≤ 8) {kc2 ks2 : Nat} (e1 : kc + mc = kc2) (e2 : ks + ms = ks2) (g : ∀ a : Nat → Nat, GN ω κ A pc' lv rest (wr ++ R a) kc2 ks2) : GN ω κ A pc lv (.ref q :: rest) (wr ++ [(q, e0)]) kc ks := by
  obtain ⟨p, e, R9, s, m, args, below, meth, c, Q, n⟩ := κ
  obtain ⟨⟨hx, hb, hml, hown, hts⟩, hK, hA, hM, hlk, hRm, hnn⟩ := C
  subst hRm; subst hnn; subst hp; subst e1; subst e2
  intro H locs ls hP hD hS hl
  have hPc : va_P (zD ω) vwCl [(q, e0)] H := fun k x hx => by
    match k, hx with
    | 0, hx =>
      have hx : (q, e0) = x := Option.some.inj hx
      subst hx
      refine hP wr.length _ ?_
      rw [List.getElem?_append_right (Nat.le_refl _), Nat.sub_self]; rfl
    | k + 1, hx => simp at hx
  have hDc : va_D A [(q, e0)] := ⟨fun i j x y hi hj _ => by
    have hi := (List.getElem?_eq_some_iff.mp hi).1
    have hj := (List.getElem?_eq_some_iff.mp hj).1
    simp at hi hj
    omega, fun k x hx => by
    match k, hx with
    | 0, hx =>
      have hx : (q, e0) = x := Option.some.inj hx
      subst hx
      refine hD.2 wr.length _ ?_
      rw [List.getElem?_append_right (Nat.le_refl _), Nat.sub_self]; rfl
    | k + 1, hx => simp at hx⟩
  have hFc := va_free (wc := [(q, e0)]) hD hS hA isC hCC
  refine va_callv (va_runI (As := []) (rest := rest) ⟨hx, hb, hml, hown, hts⟩ (hC H.size) (cwI 0 hts hG hwy hrc hrs (hts _ h3) (hts _ h1) (hts _ h2) hyn hde hr) ⟨zN0.blind, fun U hU hW => ⟨rfl, by rw [hU], by rw [hU]; exact hPc, va_K.moved hW.alike hK, hDc.weaken (fun _ _ _ _ => trivial), zM.sub hM hW hS.2.1 hU hFc⟩⟩ rfl rfl hl.1 rfl (lv_room hsm) d hce) hS (fun q _ h => hFc q h) hFc (fun a t H1 locs1 ht hvm hw hB hz1 hk1 hS1 => ?_)
  obtain ⟨hP1, hD1⟩ := hB
  rw [ht] at hP1
  obtain ⟨hP2, hD2⟩ := va_join (wr := wr) (w1 := R a) hP hD isC isR hCC hR hn hdis hk1 hFc hP1 hD1
  exact g a H1 locs1 ls hP2 hD2 hS1 hl
theorem N_callS (C : CN ω κ A cc Ts own nL rm) {y : MethodName} {wy : List Cond} {bytes : ByteArray} {maxL idx : Nat} {wy' : List Cond} {rm2 : Room} {q : Nat} {e0 e1 : va_E} {rest : List Value} (wr : va_W) (isC isR isB : List Nat) (hC : ZN ω y wy rm2 [.ref q] [(q, e0)] 0 0 (fun _ => [(q, e1)])) (hwy : wy = Cond.code y bytes maxL none :: wy') (hG : GoodIn Ts (va_wsS own idx y wy)) (hrc : rm2.cells = 0) (hrs : rm2.slots = 0) (hde : y.cls ≠ "java/lang/invoke/MethodHandle" ∧ y.cls ≠ "java/lang/invoke/VarHandle" ∧ (parseMethodDescriptor y.desc).map (fun d => d.parameters.length) = some 1) (hr : rm2.frames + 1 ≤ rm.frames ∧ 8 + (maxL + 11) + rm2.locals ≤ rm.locals) (d : decode cc pc = .ok (.invokestatic idx, 3)) (hp : pc + 3 = pc') (hce : kc ≤ rm.cells ∧ ks ≤ rm.slots) (hn : va_nd isR = true) (hCC : isC.map (fun i => ws[i]?) = [(q, e0)].map some) (hR : isR.map (fun i => ws[i]?) = wr.map some) (hdis : ∀ i ∈ isR, i ∉ isC) {ws2 : va_W} (hnB : va_nd isB = true) (hB1 : isB.filterMap (fun i => (wr ++ [(q, e1)])[i]?) = ws2) (hB2 : isB.map (fun i => (wr ++ [(q, e1)])[i]?) = ws2.map some) (hsm : (rest.map fun v => v.category).sum ≤ 8) (g : GN ω κ A pc' lv rest ws2 kc ks) : GN ω κ A pc lv (.ref q :: rest) ws kc ks := by
  obtain ⟨p, e, R9, s, m, args, below, meth, c, Q, n⟩ := κ
  obtain ⟨⟨hx, hb, hml, hown, hts⟩, hK, hA, hM, hlk, hRm, hnn⟩ := C
  subst hRm; subst hnn; subst hp
  intro H locs ls hP hD hS hl
  have hPc : va_P (zD ω) vwCl [(q, e0)] H := hP.sub isC (by
    have := congrArg (List.filterMap id) hCC
    simpa [List.filterMap_map, Function.comp_def] using this)
  have hDc : va_D A [(q, e0)] := ⟨fun i j x y hi hj _ => by
    have hi := (List.getElem?_eq_some_iff.mp hi).1
    have hj := (List.getElem?_eq_some_iff.mp hj).1
    simp at hi hj
    omega, fun k x hx => by
    match k, hx with
    | 0, hx =>
      have hx : (q, e0) = x := Option.some.inj hx
      subst hx
      match isC, hCC with
      | i :: _, hCC =>
        simp at hCC
        exact hD.2 i _ hCC.1
    | k + 1, hx => simp at hx⟩
  have hFc := va_free (wc := [(q, e0)]) hD hS hA isC hCC
  refine va_callv (va_runS (As := [.ref q]) (rest := rest) ⟨hx, hb, hml, hown, hts⟩ (hC H.size) (va_cwS 1 hts hG hwy hrc hrs hde hr) ⟨zN0.blind, fun U hU hW => ⟨rfl, by rw [hU], by rw [hU]; exact hPc, va_K.moved hW.alike hK, hDc.weaken (fun _ _ _ _ => trivial), zM.sub hM hW hS.2.1 hU hFc⟩⟩ rfl rfl hl.1 rfl (lv_room hsm) d hce) hS (fun q _ h => hFc q h) hFc (fun a t H1 locs1 ht hvm hw hB hz1 hk1 hS1 => ?_)
  obtain ⟨hP1, hD1⟩ := hB
  rw [ht] at hP1
  obtain ⟨hP2, hD2⟩ := va_join (wr := wr) (w1 := [(q, e1)]) hP hD isC isR hCC hR hn hdis hk1 hFc hP1 hD1
  exact g H1 locs1 ls (hP2.sub isB hB1) (hD2.sub isB hnB hB2) hS1 hl
theorem N_ret (C : CN ω κ A cc Ts own nL rm) {ws0 : va_W} {mc ms : Nat} {R : (Nat → Nat) → va_W} (hR : zRN ω κ A ws0 mc ms R) (a : Nat → Nat) (ha : R a = ws) (d : decode cc pc = .ok (.return_, 1)) (h1 : kc ≤ mc) (h2 : ks ≤ ms) : GN ω κ A pc lv [] ws kc ks := by
  obtain ⟨p, e, R9, s, m, args, below, meth, c, Q, n⟩ := κ
  obtain ⟨⟨hx, hb, hml, hown, hts⟩, hK, hA, hM, hlk, hRm, hnn⟩ := C
  subst hRm; subst hnn
  obtain ⟨rfl, hrt, rfl⟩ := hR
  subst ha
  intro H locs ls hP hD hS hl
  refine W.widen (k := mc) (n := ms) h1 h2 ?_
  exact W.vret hx hb hrt (fun t ht hW => ⟨⟨a, rfl, trivial, by show va_P _ _ _ t.heap; rw [ht]; exact hP, hD⟩, hS.F ht⟩) hS.2.2 d hlk
end NRows
