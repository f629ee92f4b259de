/-! ===== the walk's own judgement: a state of ints by place, a world of cells over it, and a row an instruction ===== -/
abbrev ZS : Type := Nat → Nat → Int32
def zu (σ : ZS) (p j : Nat) (x : Int32) : ZS := fun q => if q = p then upd (σ p) j x else σ q
abbrev ZO : Type := Launch × va_G × ClassId × ClassId × ClassId × (Nat → Prop) × (Nat → Nat) × (Nat → Nat)
def zL (ω : ZO) : Launch := ω.1
def zD (ω : ZO) : va_G := ω.2.1
def zI (ω : ZO) : ClassId := ω.2.2.1
def zB (ω : ZO) : ClassId := ω.2.2.2.1
def zZ (ω : ZO) : ClassId := ω.2.2.2.2.1
def zA (ω : ZO) : Nat → Prop := ω.2.2.2.2.2.1
def zS (ω : ZO) : Nat → Nat := ω.2.2.2.2.2.2.1
def za (ω : ZO) : Nat → Nat := ω.2.2.2.2.2.2.2
abbrev ztys (ω : ZO) : List (ClassId × FieldType) := [(zI ω, .int), (zB ω, .byte), (zZ ω, .boolean)]
def zNws : List Cond := [.methodLinkNest RX6 19 yX7_isWithin RX7, .methodLinkNest RX3 31 yX7_isWithin RX7, .methodLinkNest RX0 46 yX7_isBookNumber RX7, .methodLinkNest RX0 34 yX7_contains RX7, .methodLinkNest RX0 38 yX7_bit RX7, .methodLinkNest RX0 30 yX7_isJudge RX7, .methodLinkNest RX4 45 yX7_contains RX7, .methodLinkNest RX4 38 yX7_bit RX7, .methodLinkNest RX4 70 yX7_isWithin RX7, .methodLinkNest RX4 77 yX7_isPublisher RX7, .methodLinkNest RX1 22 yX7_isJudge RX7, .methodLinkNest RX1 35 yX7_isWithin RX7, .methodLinkNest RX2 22 yX7_isBookNumber RX7, .methodLinkNest RX2 49 yX7_contains RX7, .methodLinkNest RX2 30 yX7_bit RX7, .methodLinkNest RX2 42 yX7_isWithin RX7, .methodLinkNest RX5 41 yX7_isJudge RX7, .methodLinkNest RX5 60 yX7_isBookNumber RX7, .methodLinkNest RX5 80 yX7_contains RX7, .methodLinkNest RX5 92 yX7_bit RX7, .methodLinkNest RX5 72 yX7_isWithin RX7]
def zNm (k : Nat) : String := match k with
  | 0 => "LETTERS"
  | 1 => "AT_FIRST"
  | 2 => "LEAST"
  | _ => "GREATEST"
def zTb (k : Nat) : Nat → Int32 := match k with
  | 0 => fun j => ([112, 113, 102, 116, 98, 114, 100, 108, 115, 118, 99] : List Int32).getD j 0
  | 1 => fun j => ([50, 900, 0, 365, 3, 2, 30, 6, 3, 0, 0] : List Int32).getD j 0
  | 2 => fun j => ([0, 0, 0, 0, 0, 1, 0, 1, 1, 0, 0] : List Int32).getD j 0
  | _ => fun j => ([9999, 9999, 9999, 9999, 9999, 3, 9999, 12, 12, 2, 1] : List Int32).getD j 0
def zM (ω : ZO) (U : State) (H : Heap) : Prop := (∀ w ∈ zNws, va_Nw w U) ∧ ∀ k : Nat, k < 4 → va_Z RX3 (zNm k) "[I" (.ref (zS ω k)) (zA ω) U H ∧ va_T .int (zS ω k) 11 (fun j => .int (zTb k j)) (zA ω) U H
theorem zNws_all : ∀ w ∈ zNws, ∃ (a : String) (i : Nat) (x : MethodName) (h : String), w = .methodLinkNest a i x h := by
  intro w hw
  simp only [zNws, List.mem_cons, List.not_mem_nil, or_false] at hw
  rcases hw with h | h | h | h | h | h | h | h | h | h | h | h | h | h | h | h | h | h | h | h | h <;> exact ⟨_, _, _, _, h⟩
theorem zM.warm {ω : ZO} {s U : State} {H : Heap} (hW : s.WarmedH U.vm) (hq : ∀ q : Nat, q < s.heap.size → ¬ zA ω q → H[q]? = s.heap[q]?) (h : zM ω s s.heap) : zM ω U H := by
  refine ⟨fun w hw => ?_, fun k hk => ⟨?_, ?_⟩⟩
  · obtain ⟨a, i, x, hh, rfl⟩ := zNws_all w hw
    exact va_Nw.warmM hW (h.1 _ hw)
  · exact va_Z.moved hW.alike ((h.2 k hk).1.kept hq)
  · exact va_T.moved hW.alike ((h.2 k hk).2.kept hq)
theorem zM.same {ω : ZO} {s U : State} {H : Heap} (hv : s.vm = U.vm) (h : zM ω s H) : zM ω U H := by
  refine ⟨fun w hw => ?_, fun k hk => ⟨?_, ?_⟩⟩
  · obtain ⟨a, i, x, hh, rfl⟩ := zNws_all w hw
    exact va_Nw.same rfl hv (h.1 _ hw)
  · exact va_Z.moved (by rw [hv]; exact Vm.Alike.refl _) (h.2 k hk).1
  · exact va_T.moved (by rw [hv]; exact Vm.Alike.refl _) (h.2 k hk).2
abbrev ZW : Type := ZO → ZS → va_W
def zP (ω : ZO) (w : ZW) (σ : ZS) (U : State) : Prop := va_P (zD ω) vwCl (w ω σ) U.heap ∧ va_K (zD ω) vwCl (ztys ω) U ∧ (∀ τ : ZS, va_D (zA ω) (w ω τ)) ∧ zM ω U U.heap
theorem zP.blind {ω : ZO} {w : ZW} {σ : ZS} {av : List Value} : FrameBlind (va_Pc av (zP ω w σ)) := by
  intro a U g mk h
  obtain ⟨h0, h1, h2, h3, h4⟩ := h
  exact ⟨h0, h1, va_K.moved (u := U) (U := U.calling g mk a) (Vm.Alike.refl U.vm) h2, h3, zM.same (s := U) (U := U.calling g mk a) rfl h4⟩
abbrev ZB (ω : ZO) (w : ZW) : ZS → State → Prop := fun σ t => va_P (zD ω) vwCl (w ω σ) t.heap
def ZI (ω : ZO) (w : ZW) (y : MethodName) (ws : List Cond) (rm : Room) (av : List Value) (σ : ZS) (P : Int32 → ZS → Prop) : Prop := Met (zL ω) y ws rm (va_Pc av (zP ω w σ)) (va_Qi P (ZB ω w) (zA ω)) 0 0 (zA ω)
def ZV (ω : ZO) (w : ZW) (y : MethodName) (ws : List Cond) (rm : Room) (av : List Value) (σ : ZS) (P : ZS → Prop) : Prop := Met (zL ω) y ws rm (va_Pc av (zP ω w σ)) (va_Qv P (ZB ω w) (zA ω)) 0 0 (zA ω)
def ZR (ω : ZO) (w : ZW) (y : MethodName) (ws : List Cond) (rm : Room) (av : List Value) (σ : ZS) (r : Nat) : Prop := Met (zL ω) y ws rm (va_Pc av (zP ω w σ)) (va_Qr (fun τ : ZS => τ = σ) (fun τ a t => a = r ∧ va_P (zD ω) vwCl (w ω τ) t.heap) (zA ω)) 0 0 (zA ω)
/-- contracts by a partial function: where it has a value the method returns that -/
def ZIp (ω : ZO) (w : ZW) (y : MethodName) (ws : List Cond) (rm : Room) (av : List Value) (σ : ZS) (o : Option Int32) : Prop := ∀ r, o = some r → ZI ω w y ws rm av σ (fun v τ => v = r ∧ τ = σ)
def ZIs (ω : ZO) (w : ZW) (y : MethodName) (ws : List Cond) (rm : Room) (av : List Value) (σ : ZS) (o : Option (Int32 × ZS)) : Prop := ∀ r, o = some r → ZI ω w y ws rm av σ (fun v τ => (v, τ) = r)
def ZVs (ω : ZO) (w : ZW) (y : MethodName) (ws : List Cond) (rm : Room) (av : List Value) (σ : ZS) (o : Option ZS) : Prop := ∀ r, o = some r → ZV ω w y ws rm av σ (fun τ => τ = r)
abbrev ZK : Type := Program × Env × Room × State × MethodId × Array Value × List Frame × Method × Code × (State → Prop) × Nat
def G (ω : ZO) (w : ZW) (κ : ZK) (pc : Nat) (lv : List (Nat × Value)) (st : List Value) (σ : ZS) : Prop := match κ with
  | (p, e, R, s, m, args, below, meth, c, Q, nL) => ∀ (H : Heap) (locs : List Loc) (ls : Array Slot), va_P (zD ω) vwCl (w ω σ) H → va_S (zA ω) s.heap H locs → lv_has ls nL lv → W p (zL ω) e R s m args below meth c H locs 0 0 Q (F0 m pc ls st)
def CX (ω : ZO) (w : ZW) (κ : ZK) (cc : ByteArray) (Ts : List Cond) (own : String) (ret : Option FieldType) (nL : Nat) (rm : Room) : Prop := match κ with
  | (p, _, R, s, m, args, _, meth, c, _, n) => CallFix p m c cc nL s args Ts own ∧ va_K (zD ω) vwCl (ztys ω) s ∧ (∀ τ : ZS, va_D (zA ω) (w ω τ)) ∧ zM ω s s.heap ∧ meth.locks = false ∧ meth.sig.returnType = ret ∧ R = rm ∧ n = nL
def zRI (ω : ZO) (w : ZW) (κ : ZK) (P : Int32 → ZS → Prop) : Prop := match κ with
  | (_, _, _, s, _, args, below, _, _, Q, _) => Q = MQ below (va_Qi P (ZB ω w) (zA ω)) args s 0 0 (zA ω)
def zRV (ω : ZO) (w : ZW) (κ : ZK) (P : ZS → Prop) : Prop := match κ with
  | (_, _, _, s, _, args, below, _, _, Q, _) => Q = MQ below (va_Qv P (ZB ω w) (zA ω)) args s 0 0 (zA ω)
def zRR (ω : ZO) (w : ZW) (κ : ZK) (σ : ZS) (r : Nat) : Prop := match κ with
  | (_, _, _, s, _, args, below, _, _, Q, _) => Q = MQ below (va_Qr (fun τ : ZS => τ = σ) (fun τ a t => a = r ∧ va_P (zD ω) vwCl (w ω τ) t.heap) (zA ω)) args s 0 0 (zA ω)
section ZEntry
variable {ω : ZO} {w : ZW} {y : MethodName} {ws ws' : List Cond} {rm : Room} {cc : ByteArray} {maxL : Nat} {ret : Option FieldType} {own : String} {av : List Value} {lv : List (Nat × Value)} {σ : ZS}
theorem ZI.go {P : Int32 → ZS → Prop} (hy : plainName y.cls = true) (hw : ws = Cond.code y cc maxL ret :: ws') (ho : y.cls = own) (hn : (lg_sl av).length ≤ maxL) (hlv : lv_args 0 av = lv)
    (body : ∀ κ : ZK, CX ω w κ cc ws own ret maxL rm → zRI ω w κ P → G ω w κ 0 lv [] σ) : ZI ω w y ws rm av σ P := by
  refine Met.ofW (cc := cc) (maxL := maxL) (ret := ret) hy hw ?_
  intro p e s m args below meth c s₁ B hml hv
  obtain ⟨rfl, hP, hK, hD, hM⟩ := hv
  have hts := atoms_spec (ws := ws) B.pre
  have hown : s.vm.findClass own = some m.cls := by rw [← ho]; exact findClass_of_methodNamed B.named
  have hl := lv_entry av (n := maxL) hn
  rw [lg_entry_eq]
  rw [hlv] at hl
  exact body (p, e, (headSpec ws rm).room, s, m, av.toArray, below, meth, c, _, maxL) ⟨⟨B.exec, B.bytes, hml, hown, hts⟩, hK, hD, hM, B.notSynchronized, B.returns, rfl, rfl⟩ rfl s.heap [] _ hP va_S.rf hl
theorem ZV.go {P : ZS → Prop} (hy : plainName y.cls = true) (hw : ws = Cond.code y cc maxL ret :: ws') (ho : y.cls = own) (hn : (lg_sl av).length ≤ maxL) (hlv : lv_args 0 av = lv)
    (body : ∀ κ : ZK, CX ω w κ cc ws own ret maxL rm → zRV ω w κ P → G ω w κ 0 lv [] σ) : ZV ω w y ws rm av σ P := by
  refine Met.ofW (cc := cc) (maxL := maxL) (ret := ret) hy hw ?_
  intro p e s m args below meth c s₁ B hml hv
  obtain ⟨rfl, hP, hK, hD, hM⟩ := hv
  have hts := atoms_spec (ws := ws) B.pre
  have hown : s.vm.findClass own = some m.cls := by rw [← ho]; exact findClass_of_methodNamed B.named
  have hl := lv_entry av (n := maxL) hn
  rw [lg_entry_eq]
  rw [hlv] at hl
  exact body (p, e, (headSpec ws rm).room, s, m, av.toArray, below, meth, c, _, maxL) ⟨⟨B.exec, B.bytes, hml, hown, hts⟩, hK, hD, hM, B.notSynchronized, B.returns, rfl, rfl⟩ rfl s.heap [] _ hP va_S.rf hl
theorem ZR.go {r : Nat} (hy : plainName y.cls = true) (hw : ws = Cond.code y cc maxL ret :: ws') (ho : y.cls = own) (hn : (lg_sl av).length ≤ maxL) (hlv : lv_args 0 av = lv)
    (body : ∀ κ : ZK, CX ω w κ cc ws own ret maxL rm → zRR ω w κ σ r → G ω w κ 0 lv [] σ) : ZR ω w y ws rm av σ r := by
  refine Met.ofW (cc := cc) (maxL := maxL) (ret := ret) hy hw ?_
  intro p e s m args below meth c s₁ B hml hv
  obtain ⟨rfl, hP, hK, hD, hM⟩ := hv
  have hts := atoms_spec (ws := ws) B.pre
  have hown : s.vm.findClass own = some m.cls := by rw [← ho]; exact findClass_of_methodNamed B.named
  have hl := lv_entry av (n := maxL) hn
  rw [lg_entry_eq]
  rw [hlv] at hl
  exact body (p, e, (headSpec ws rm).room, s, m, av.toArray, below, meth, c, _, maxL) ⟨⟨B.exec, B.bytes, hml, hown, hts⟩, hK, hD, hM, B.notSynchronized, B.returns, rfl, rfl⟩ rfl s.heap [] _ hP va_S.rf hl
end ZEntry

/-! ===== trees: what a method's bytecode computes, as partial functions ===== -/
def g_rd {R0 : Type} (len : Nat) (f : Nat → Int32) (i : Int32) (K : Int32 → Option R0) : Option R0 := if i < 0 ∨ len ≤ i.toNatClampNeg then none else K (f i.toNatClampNeg)
def g_wr {R0 : Type} (len : Nat) (σ : ZS) (p : Nat) (i x : Int32) (K : ZS → Option R0) : Option R0 := if i < 0 ∨ len ≤ i.toNatClampNeg then none else K (zu σ p i.toNatClampNeg x)
def g_lt {A R0 : Type} (x : A) (K : A → Option R0) : Option R0 := K x
def g_dv {R0 : Type} (y : Int32) (T : Option R0) : Option R0 := if y = 0 then none else T
def g_zr {R0 : Type} (v : Int32) (T : Option R0) : Option R0 := if v = 0 ∨ v = 1 then T else none
def lq1 {A1 R0 : Type} (body : (A1 → Option R0) → A1 → Option R0) : Nat → A1 → Option R0
  | 0 => fun _ => none
  | n + 1 => fun x1 => body (lq1 body n) x1
def lq2 {A1 A2 R0 : Type} (body : (A1 → A2 → Option R0) → A1 → A2 → Option R0) : Nat → A1 → A2 → Option R0
  | 0 => fun _ _ => none
  | n + 1 => fun x1 x2 => body (lq2 body n) x1 x2
def lq3 {A1 A2 A3 R0 : Type} (body : (A1 → A2 → A3 → Option R0) → A1 → A2 → A3 → Option R0) : Nat → A1 → A2 → A3 → Option R0
  | 0 => fun _ _ _ => none
  | n + 1 => fun x1 x2 x3 => body (lq3 body n) x1 x2 x3
def lq4 {A1 A2 A3 A4 R0 : Type} (body : (A1 → A2 → A3 → A4 → Option R0) → A1 → A2 → A3 → A4 → Option R0) : Nat → A1 → A2 → A3 → A4 → Option R0
  | 0 => fun _ _ _ _ => none
  | n + 1 => fun x1 x2 x3 x4 => body (lq4 body n) x1 x2 x3 x4
def lq5 {A1 A2 A3 A4 A5 R0 : Type} (body : (A1 → A2 → A3 → A4 → A5 → Option R0) → A1 → A2 → A3 → A4 → A5 → Option R0) : Nat → A1 → A2 → A3 → A4 → A5 → Option R0
  | 0 => fun _ _ _ _ _ => none
  | n + 1 => fun x1 x2 x3 x4 x5 => body (lq5 body n) x1 x2 x3 x4 x5
def lq6 {A1 A2 A3 A4 A5 A6 R0 : Type} (body : (A1 → A2 → A3 → A4 → A5 → A6 → Option R0) → A1 → A2 → A3 → A4 → A5 → A6 → Option R0) : Nat → A1 → A2 → A3 → A4 → A5 → A6 → Option R0
  | 0 => fun _ _ _ _ _ _ => none
  | n + 1 => fun x1 x2 x3 x4 x5 x6 => body (lq6 body n) x1 x2 x3 x4 x5 x6
def lq7 {A1 A2 A3 A4 A5 A6 A7 R0 : Type} (body : (A1 → A2 → A3 → A4 → A5 → A6 → A7 → Option R0) → A1 → A2 → A3 → A4 → A5 → A6 → A7 → Option R0) : Nat → A1 → A2 → A3 → A4 → A5 → A6 → A7 → Option R0
  | 0 => fun _ _ _ _ _ _ _ => none
  | n + 1 => fun x1 x2 x3 x4 x5 x6 x7 => body (lq7 body n) x1 x2 x3 x4 x5 x6 x7
def lq8 {A1 A2 A3 A4 A5 A6 A7 A8 R0 : Type} (body : (A1 → A2 → A3 → A4 → A5 → A6 → A7 → A8 → Option R0) → A1 → A2 → A3 → A4 → A5 → A6 → A7 → A8 → Option R0) : Nat → A1 → A2 → A3 → A4 → A5 → A6 → A7 → A8 → Option R0
  | 0 => fun _ _ _ _ _ _ _ _ => none
  | n + 1 => fun x1 x2 x3 x4 x5 x6 x7 x8 => body (lq8 body n) x1 x2 x3 x4 x5 x6 x7 x8
def lq9 {A1 A2 A3 A4 A5 A6 A7 A8 A9 R0 : Type} (body : (A1 → A2 → A3 → A4 → A5 → A6 → A7 → A8 → A9 → Option R0) → A1 → A2 → A3 → A4 → A5 → A6 → A7 → A8 → A9 → Option R0) : Nat → A1 → A2 → A3 → A4 → A5 → A6 → A7 → A8 → A9 → Option R0
  | 0 => fun _ _ _ _ _ _ _ _ _ => none
  | n + 1 => fun x1 x2 x3 x4 x5 x6 x7 x8 x9 => body (lq9 body n) x1 x2 x3 x4 x5 x6 x7 x8 x9
theorem g_rd_some {R0 : Type} {len : Nat} {f : Nat → Int32} {i : Int32} {K : Int32 → Option R0} {r0 : R0} (h : g_rd len f i K = some r0) : vp_in i len ∧ K (f i.toNatClampNeg) = some r0 := by
  unfold g_rd at h
  by_cases hc : i < 0 ∨ len ≤ i.toNatClampNeg
  · rw [if_pos hc] at h; cases h
  · rw [if_neg hc] at h; exact ⟨hc, h⟩
theorem g_wr_some {R0 : Type} {len : Nat} {σ : ZS} {p : Nat} {i x : Int32} {K : ZS → Option R0} {r0 : R0} (h : g_wr len σ p i x K = some r0) : vp_in i len ∧ K (zu σ p i.toNatClampNeg x) = some r0 := by
  unfold g_wr at h
  by_cases hc : i < 0 ∨ len ≤ i.toNatClampNeg
  · rw [if_pos hc] at h; cases h
  · rw [if_neg hc] at h; exact ⟨hc, h⟩
theorem g_dv_some {R0 : Type} {y : Int32} {T : Option R0} {r0 : R0} (h : g_dv y T = some r0) : ¬ y = 0 ∧ T = some r0 := by
  unfold g_dv at h
  by_cases hc : y = 0
  · rw [if_pos hc] at h; cases h
  · rw [if_neg hc] at h; exact ⟨hc, h⟩
theorem g_zr_some {R0 : Type} {v : Int32} {T : Option R0} {r0 : R0} (h : g_zr v T = some r0) : (v = 0 ∨ v = 1) ∧ T = some r0 := by
  unfold g_zr at h
  by_cases hc : v = 0 ∨ v = 1
  · rw [if_pos hc] at h; exact ⟨hc, h⟩
  · rw [if_neg hc] at h; cases h
theorem g_nar {v : Int32} (h : v = 0 ∨ v = 1) : narrow .boolean (.int v) = .int v := by
  rcases h with rfl | rfl <;> rfl
/-- what a call needs of the method called -/
def ZG (y : MethodName) (ws : List Cond) (bytes : ByteArray) (maxL : Nat) (rt : Option FieldType) (Cn : String) (n : Nat) (rm : Room) : Prop := (∃ ws', ws = Cond.code y bytes maxL rt :: ws') ∧ (y.cls = Cn ∧ y.cls ≠ "java/lang/invoke/MethodHandle" ∧ y.cls ≠ "java/lang/invoke/VarHandle" ∧ (parseMethodDescriptor y.desc).map (fun d => d.parameters.length) = some n) ∧ rm.cells = 0 ∧ rm.slots = 0
section GRows
variable {ω : ZO} {w : ZW} {κ : ZK} {cc : ByteArray} {Ts : List Cond} {own : String} {ret : Option FieldType} {nL : Nat} {rm : Room} {pc pc' : Nat} {lv lv' : List (Nat × Value)} {st : List Value} {σ : ZS} {R0 : Type} {r0 : R0} {T1 T2 : Option R0}
theorem G_sub (C : CX ω w κ cc Ts own ret nL rm) (ks : List Nat) (h : lv_pick lv ks = lv') (g : G ω w κ pc lv' st σ) : G ω w κ pc lv st σ := by
  obtain ⟨p, e, R, s, m, args, below, meth, c, Q, n⟩ := κ
  obtain ⟨⟨hx, hb, hml, hown, hts⟩, hK, hD, hM, hlk, hrt, hRm, hnn⟩ := C
  subst hRm; subst hnn
  intro H locs ls hP hS hl
  exact g H locs ls hP hS (lv_sub hl ks h)
theorem G_iconst (C : CX ω w κ cc Ts own ret nL rm) {k : Int} {v : Int32} (d : decode cc pc = .ok (.iconst k, 1)) (hv : Int32.ofInt k = v) (hp : pc + 1 = pc') (g : G ω w κ pc' lv (.int v :: st) σ) : G ω w κ pc lv st σ := by
  obtain ⟨p, e, R, s, m, args, below, meth, c, Q, n⟩ := κ
  obtain ⟨⟨hx, hb, hml, hown, hts⟩, hK, hD, hM, hlk, hrt, hRm, hnn⟩ := C
  subst hRm; subst hnn; subst hp
  intro H locs ls hP hS hl
  exact lv_iconst hx hb d hv (g H locs ls hP hS hl)
theorem G_bipush (C : CX ω w κ cc Ts own ret nL rm) {k : Int} {v : Int32} (d : decode cc pc = .ok (.bipush k, 2)) (hv : (Int8.ofInt k).toInt32 = v) (hp : pc + 2 = pc') (g : G ω w κ pc' lv (.int v :: st) σ) : G ω w κ pc lv st σ := by
  obtain ⟨p, e, R, s, m, args, below, meth, c, Q, n⟩ := κ
  obtain ⟨⟨hx, hb, hml, hown, hts⟩, hK, hD, hM, hlk, hrt, hRm, hnn⟩ := C
  subst hRm; subst hnn; subst hp
  intro H locs ls hP hS hl
  exact lv_bipush hx hb d hv (g H locs ls hP hS hl)
theorem G_sipush (C : CX ω w κ cc Ts own ret nL rm) {k : Int} {v : Int32} (d : decode cc pc = .ok (.sipush k, 3)) (hv : (Int16.ofInt k).toInt32 = v) (hp : pc + 3 = pc') (g : G ω w κ pc' lv (.int v :: st) σ) : G ω w κ pc lv st σ := by
  obtain ⟨p, e, R, s, m, args, below, meth, c, Q, n⟩ := κ
  obtain ⟨⟨hx, hb, hml, hown, hts⟩, hK, hD, hM, hlk, hrt, hRm, hnn⟩ := C
  subst hRm; subst hnn; subst hp
  intro H locs ls hP hS hl
  exact lv_sipush hx hb d hv (g H locs ls hP hS hl)
theorem G_ldcw (C : CX ω w κ cc Ts own ret nL rm) {i : Nat} {v : Int32} (d : decode cc pc = .ok (.ldc_w i, 3)) (hc : Cond.constant own i v ∈ Ts) (hp : pc + 3 = pc') (g : G ω w κ pc' lv (.int v :: st) σ) : G ω w κ pc lv st σ := by
  obtain ⟨p, e, R, s, m, args, below, meth, c, Q, n⟩ := κ
  obtain ⟨⟨hx, hb, hml, hown, hts⟩, hK, hD, hM, hlk, hrt, hRm, hnn⟩ := C
  subst hRm; subst hnn; subst hp
  intro H locs ls hP hS hl
  exact lv_ldcw hx hb hown (hts _ hc) d (g H locs ls hP hS hl)
theorem G_ldc (C : CX ω w κ cc Ts own ret nL rm) {i : Nat} {v : Int32} (d : decode cc pc = .ok (.ldc i, 2)) (hc : Cond.constant own i v ∈ Ts) (hp : pc + 2 = pc') (g : G ω w κ pc' lv (.int v :: st) σ) : G ω w κ pc lv st σ := by
  obtain ⟨p, e, R, s, m, args, below, meth, c, Q, n⟩ := κ
  obtain ⟨⟨hx, hb, hml, hown, hts⟩, hK, hD, hM, hlk, hrt, hRm, hnn⟩ := C
  subst hRm; subst hnn; subst hp
  intro H locs ls hP hS hl
  exact lv_ldc hx hb hown (hts _ hc) d (g H locs ls hP hS hl)
theorem G_iload_n (C : CX ω w κ cc Ts own ret nL rm) {k : Fin 4} {x : Int32} (d : decode cc pc = .ok (.iload_n k, 1)) (q : Nat) (h : lv[q]? = some ((k : Nat), .int x)) (hp : pc + 1 = pc') (g : G ω w κ pc' lv (.int x :: st) σ) : G ω w κ pc lv st σ := by
  obtain ⟨p, e, R, s, m, args, below, meth, c, Q, n⟩ := κ
  obtain ⟨⟨hx, hb, hml, hown, hts⟩, hK, hD, hM, hlk, hrt, hRm, hnn⟩ := C
  subst hRm; subst hnn; subst hp
  intro H locs ls hP hS hl
  exact lv_iload_n hx hb d rfl (lv_at hl q h) (g H locs ls hP hS hl)
theorem G_iload (C : CX ω w κ cc Ts own ret nL rm) {k : Nat} {x : Int32} (d : decode cc pc = .ok (.iload k, 2)) (q : Nat) (h : lv[q]? = some (k, .int x)) (hp : pc + 2 = pc') (g : G ω w κ pc' lv (.int x :: st) σ) : G ω w κ pc lv st σ := by
  obtain ⟨p, e, R, s, m, args, below, meth, c, Q, n⟩ := κ
  obtain ⟨⟨hx, hb, hml, hown, hts⟩, hK, hD, hM, hlk, hrt, hRm, hnn⟩ := C
  subst hRm; subst hnn; subst hp
  intro H locs ls hP hS hl
  exact lv_iload hx hb d (lv_at hl q h) (g H locs ls hP hS hl)
theorem G_aload_n (C : CX ω w κ cc Ts own ret nL rm) {k : Fin 4} {x : Nat} (d : decode cc pc = .ok (.aload_n k, 1)) (q : Nat) (h : lv[q]? = some ((k : Nat), .ref x)) (hp : pc + 1 = pc') (g : G ω w κ pc' lv (.ref x :: st) σ) : G ω w κ pc lv st σ := by
  obtain ⟨p, e, R, s, m, args, below, meth, c, Q, n⟩ := κ
  obtain ⟨⟨hx, hb, hml, hown, hts⟩, hK, hD, hM, hlk, hrt, hRm, hnn⟩ := C
  subst hRm; subst hnn; subst hp
  intro H locs ls hP hS hl
  exact lv_aload_n hx hb d rfl (lv_at hl q h) (g H locs ls hP hS hl)
theorem G_aload (C : CX ω w κ cc Ts own ret nL rm) {k : Nat} {x : Nat} (d : decode cc pc = .ok (.aload k, 2)) (q : Nat) (h : lv[q]? = some (k, .ref x)) (hp : pc + 2 = pc') (g : G ω w κ pc' lv (.ref x :: st) σ) : G ω w κ pc lv st σ := by
  obtain ⟨p, e, R, s, m, args, below, meth, c, Q, n⟩ := κ
  obtain ⟨⟨hx, hb, hml, hown, hts⟩, hK, hD, hM, hlk, hrt, hRm, hnn⟩ := C
  subst hRm; subst hnn; subst hp
  intro H locs ls hP hS hl
  exact lv_aload hx hb d (lv_at hl q h) (g H locs ls hP hS hl)
theorem G_istore_n (C : CX ω w κ cc Ts own ret nL rm) {k : Fin 4} {x : Int32} (d : decode cc pc = .ok (.istore_n k, 1)) (hk : (k : Nat) < nL) (ks : List Nat) (h : lv_pick (((k : Nat), .int x) :: lv.filter (fun q => !(q.1 == (k : Nat)) && !(q.1 + 1 == (k : Nat) && q.2.category == 2))) ks = lv') (hp : pc + 1 = pc') (g : G ω w κ pc' lv' st σ) : G ω w κ pc lv (.int x :: st) σ := by
  obtain ⟨p, e, R, s, m, args, below, meth, c, Q, n⟩ := κ
  obtain ⟨⟨hx, hb, hml, hown, hts⟩, hK, hD, hM, hlk, hrt, hRm, hnn⟩ := C
  subst hRm; subst hnn; subst hp
  intro H locs ls hP hS hl
  exact lv_istore_n hx hb d rfl hl hk rfl (fun ls2 hl2 => g H locs ls2 hP hS (lv_sub hl2 ks h))
theorem G_istore (C : CX ω w κ cc Ts own ret nL rm) {k : Nat} {x : Int32} (d : decode cc pc = .ok (.istore k, 2)) (hk : k < nL) (ks : List Nat) (h : lv_pick ((k, .int x) :: lv.filter (fun q => !(q.1 == k) && !(q.1 + 1 == k && q.2.category == 2))) ks = lv') (hp : pc + 2 = pc') (g : G ω w κ pc' lv' st σ) : G ω w κ pc lv (.int x :: st) σ := by
  obtain ⟨p, e, R, s, m, args, below, meth, c, Q, n⟩ := κ
  obtain ⟨⟨hx, hb, hml, hown, hts⟩, hK, hD, hM, hlk, hrt, hRm, hnn⟩ := C
  subst hRm; subst hnn; subst hp
  intro H locs ls hP hS hl
  exact lv_istore hx hb d hl hk rfl (fun ls2 hl2 => g H locs ls2 hP hS (lv_sub hl2 ks h))
theorem G_astore_n (C : CX ω w κ cc Ts own ret nL rm) {k : Fin 4} {x : Nat} (d : decode cc pc = .ok (.astore_n k, 1)) (hk : (k : Nat) < nL) (ks : List Nat) (h : lv_pick (((k : Nat), .ref x) :: lv.filter (fun q => !(q.1 == (k : Nat)) && !(q.1 + 1 == (k : Nat) && q.2.category == 2))) ks = lv') (hp : pc + 1 = pc') (g : G ω w κ pc' lv' st σ) : G ω w κ pc lv (.ref x :: st) σ := by
  obtain ⟨p, e, R, s, m, args, below, meth, c, Q, n⟩ := κ
  obtain ⟨⟨hx, hb, hml, hown, hts⟩, hK, hD, hM, hlk, hrt, hRm, hnn⟩ := C
  subst hRm; subst hnn; subst hp
  intro H locs ls hP hS hl
  exact lv_astore_n hx hb d rfl hl hk rfl (fun ls2 hl2 => g H locs ls2 hP hS (lv_sub hl2 ks h))
theorem G_astore (C : CX ω w κ cc Ts own ret nL rm) {k : Nat} {x : Nat} (d : decode cc pc = .ok (.astore k, 2)) (hk : k < nL) (ks : List Nat) (h : lv_pick ((k, .ref x) :: lv.filter (fun q => !(q.1 == k) && !(q.1 + 1 == k && q.2.category == 2))) ks = lv') (hp : pc + 2 = pc') (g : G ω w κ pc' lv' st σ) : G ω w κ pc lv (.ref x :: st) σ := by
  obtain ⟨p, e, R, s, m, args, below, meth, c, Q, n⟩ := κ
  obtain ⟨⟨hx, hb, hml, hown, hts⟩, hK, hD, hM, hlk, hrt, hRm, hnn⟩ := C
  subst hRm; subst hnn; subst hp
  intro H locs ls hP hS hl
  exact lv_astore hx hb d hl hk rfl (fun ls2 hl2 => g H locs ls2 hP hS (lv_sub hl2 ks h))
theorem G_iinc (C : CX ω w κ cc Ts own ret nL rm) {k : Nat} {z : Int} {x v : Int32} (d : decode cc pc = .ok (.iinc k z, 3)) (q : Nat) (hq : lv[q]? = some (k, .int x)) (hv : x + Int32.ofInt z = v) (hk : k < nL) (ks : List Nat) (h : lv_pick ((k, .int v) :: lv.filter (fun q => !(q.1 == k) && !(q.1 + 1 == k && q.2.category == 2))) ks = lv') (hp : pc + 3 = pc') (g : G ω w κ pc' lv' st σ) : G ω w κ pc lv st σ := by
  obtain ⟨p, e, R, s, m, args, below, meth, c, Q, n⟩ := κ
  obtain ⟨⟨hx, hb, hml, hown, hts⟩, hK, hD, hM, hlk, hrt, hRm, hnn⟩ := C
  subst hRm; subst hnn; subst hp
  intro H locs ls hP hS hl
  exact lv_iinc hx hb d hl hq hv hk rfl (fun ls2 hl2 => g H locs ls2 hP hS (lv_sub hl2 ks h))
theorem G_iincL (C : CX ω w κ cc Ts own ret nL rm) {k : Nat} {z : Int} {x v : Int32} {K : Int32 → Option R0} (d : decode cc pc = .ok (.iinc k z, 3)) (q : Nat) (hq : lv[q]? = some (k, .int x)) (hv : x + Int32.ofInt z = v) (hk : k < nL) (ks : List Nat) (lw : Int32 → List (Nat × Value)) (h : ∀ v : Int32, lv_pick ((k, .int v) :: lv.filter (fun q => !(q.1 == k) && !(q.1 + 1 == k && q.2.category == 2))) ks = lw v) (hp : pc + 3 = pc') (hf : g_lt v K = some r0) (g : ∀ v : Int32, K v = some r0 → G ω w κ pc' (lw v) st σ) : G ω w κ pc lv st σ := by
  obtain ⟨p, e, R, s, m, args, below, meth, c, Q, n⟩ := κ
  obtain ⟨⟨hx, hb, hml, hown, hts⟩, hK, hD, hM, hlk, hrt, hRm, hnn⟩ := C
  subst hRm; subst hnn; subst hp
  intro H locs ls hP hS hl
  exact lv_iinc hx hb d hl hq hv hk rfl (fun ls2 hl2 => g v hf H locs ls2 hP hS (lv_sub hl2 ks (h v)))
theorem G_nm {x : Int32} {K : Int32 → Option R0} (hf : g_lt x K = some r0) (g : ∀ v : Int32, K v = some r0 → G ω w κ pc lv (.int v :: st) σ) : G ω w κ pc lv (.int x :: st) σ := g x hf
theorem G_iadd (C : CX ω w κ cc Ts own ret nL rm) {x y : Int32} (d : decode cc pc = .ok (.iadd, 1)) (hp : pc + 1 = pc') (g : G ω w κ pc' lv (.int (x + y) :: st) σ) : G ω w κ pc lv (.int y :: .int x :: st) σ := by
  obtain ⟨p, e, R, s, m, args, below, meth, c, Q, n⟩ := κ
  obtain ⟨⟨hx, hb, hml, hown, hts⟩, hK, hD, hM, hlk, hrt, hRm, hnn⟩ := C
  subst hRm; subst hnn; subst hp
  intro H locs ls hP hS hl
  exact lv_iadd hx hb d (g H locs ls hP hS hl)
theorem G_isub (C : CX ω w κ cc Ts own ret nL rm) {x y : Int32} (d : decode cc pc = .ok (.isub, 1)) (hp : pc + 1 = pc') (g : G ω w κ pc' lv (.int (x - y) :: st) σ) : G ω w κ pc lv (.int y :: .int x :: st) σ := by
  obtain ⟨p, e, R, s, m, args, below, meth, c, Q, n⟩ := κ
  obtain ⟨⟨hx, hb, hml, hown, hts⟩, hK, hD, hM, hlk, hrt, hRm, hnn⟩ := C
  subst hRm; subst hnn; subst hp
  intro H locs ls hP hS hl
  exact lv_isub hx hb d (g H locs ls hP hS hl)
theorem G_imul (C : CX ω w κ cc Ts own ret nL rm) {x y : Int32} (d : decode cc pc = .ok (.imul, 1)) (hp : pc + 1 = pc') (g : G ω w κ pc' lv (.int (x * y) :: st) σ) : G ω w κ pc lv (.int y :: .int x :: st) σ := by
  obtain ⟨p, e, R, s, m, args, below, meth, c, Q, n⟩ := κ
  obtain ⟨⟨hx, hb, hml, hown, hts⟩, hK, hD, hM, hlk, hrt, hRm, hnn⟩ := C
  subst hRm; subst hnn; subst hp
  intro H locs ls hP hS hl
  exact lv_imul hx hb d (g H locs ls hP hS hl)
theorem G_iand (C : CX ω w κ cc Ts own ret nL rm) {x y : Int32} (d : decode cc pc = .ok (.iand, 1)) (hp : pc + 1 = pc') (g : G ω w κ pc' lv (.int (x &&& y) :: st) σ) : G ω w κ pc lv (.int y :: .int x :: st) σ := by
  obtain ⟨p, e, R, s, m, args, below, meth, c, Q, n⟩ := κ
  obtain ⟨⟨hx, hb, hml, hown, hts⟩, hK, hD, hM, hlk, hrt, hRm, hnn⟩ := C
  subst hRm; subst hnn; subst hp
  intro H locs ls hP hS hl
  exact lv_iand hx hb d (g H locs ls hP hS hl)
theorem G_ior (C : CX ω w κ cc Ts own ret nL rm) {x y : Int32} (d : decode cc pc = .ok (.ior, 1)) (hp : pc + 1 = pc') (g : G ω w κ pc' lv (.int (x ||| y) :: st) σ) : G ω w κ pc lv (.int y :: .int x :: st) σ := by
  obtain ⟨p, e, R, s, m, args, below, meth, c, Q, n⟩ := κ
  obtain ⟨⟨hx, hb, hml, hown, hts⟩, hK, hD, hM, hlk, hrt, hRm, hnn⟩ := C
  subst hRm; subst hnn; subst hp
  intro H locs ls hP hS hl
  exact lv_ior hx hb d (g H locs ls hP hS hl)
theorem G_ixor (C : CX ω w κ cc Ts own ret nL rm) {x y : Int32} (d : decode cc pc = .ok (.ixor, 1)) (hp : pc + 1 = pc') (g : G ω w κ pc' lv (.int (x ^^^ y) :: st) σ) : G ω w κ pc lv (.int y :: .int x :: st) σ := by
  obtain ⟨p, e, R, s, m, args, below, meth, c, Q, n⟩ := κ
  obtain ⟨⟨hx, hb, hml, hown, hts⟩, hK, hD, hM, hlk, hrt, hRm, hnn⟩ := C
  subst hRm; subst hnn; subst hp
  intro H locs ls hP hS hl
  exact lv_ixor hx hb d (g H locs ls hP hS hl)
theorem G_ishl (C : CX ω w κ cc Ts own ret nL rm) {x y : Int32} (d : decode cc pc = .ok (.ishl, 1)) (hp : pc + 1 = pc') (g : G ω w κ pc' lv (.int (x <<< (y &&& 31)) :: st) σ) : G ω w κ pc lv (.int y :: .int x :: st) σ := by
  obtain ⟨p, e, R, s, m, args, below, meth, c, Q, n⟩ := κ
  obtain ⟨⟨hx, hb, hml, hown, hts⟩, hK, hD, hM, hlk, hrt, hRm, hnn⟩ := C
  subst hRm; subst hnn; subst hp
  intro H locs ls hP hS hl
  exact lv_ishl hx hb d (g H locs ls hP hS hl)
theorem G_ishr (C : CX ω w κ cc Ts own ret nL rm) {x y : Int32} (d : decode cc pc = .ok (.ishr, 1)) (hp : pc + 1 = pc') (g : G ω w κ pc' lv (.int (x >>> (y &&& 31)) :: st) σ) : G ω w κ pc lv (.int y :: .int x :: st) σ := by
  obtain ⟨p, e, R, s, m, args, below, meth, c, Q, n⟩ := κ
  obtain ⟨⟨hx, hb, hml, hown, hts⟩, hK, hD, hM, hlk, hrt, hRm, hnn⟩ := C
  subst hRm; subst hnn; subst hp
  intro H locs ls hP hS hl
  exact lv_ishr hx hb d (g H locs ls hP hS hl)
theorem G_iushr (C : CX ω w κ cc Ts own ret nL rm) {x y : Int32} (d : decode cc pc = .ok (.iushr, 1)) (hp : pc + 1 = pc') (g : G ω w κ pc' lv (.int ((x.toUInt32 >>> (y.toUInt32 &&& Int32.toUInt32 31)).toInt32) :: st) σ) : G ω w κ pc lv (.int y :: .int x :: st) σ := by
  obtain ⟨p, e, R, s, m, args, below, meth, c, Q, n⟩ := κ
  obtain ⟨⟨hx, hb, hml, hown, hts⟩, hK, hD, hM, hlk, hrt, hRm, hnn⟩ := C
  subst hRm; subst hnn; subst hp
  intro H locs ls hP hS hl
  exact lv_iushr hx hb d rfl (g H locs ls hP hS hl)
theorem G_i2b (C : CX ω w κ cc Ts own ret nL rm) {x : Int32} (d : decode cc pc = .ok (.i2b, 1)) (hp : pc + 1 = pc') (g : G ω w κ pc' lv (.int (x.toInt8.toInt32) :: st) σ) : G ω w κ pc lv (.int x :: st) σ := by
  obtain ⟨p, e, R, s, m, args, below, meth, c, Q, n⟩ := κ
  obtain ⟨⟨hx, hb, hml, hown, hts⟩, hK, hD, hM, hlk, hrt, hRm, hnn⟩ := C
  subst hRm; subst hnn; subst hp
  intro H locs ls hP hS hl
  exact lv_i2b hx hb d rfl (g H locs ls hP hS hl)
theorem G_ineg (C : CX ω w κ cc Ts own ret nL rm) {x : Int32} (d : decode cc pc = .ok (.ineg, 1)) (hp : pc + 1 = pc') (g : G ω w κ pc' lv (.int (-x) :: st) σ) : G ω w κ pc lv (.int x :: st) σ := by
  obtain ⟨p, e, R, s, m, args, below, meth, c, Q, n⟩ := κ
  obtain ⟨⟨hx, hb, hml, hown, hts⟩, hK, hD, hM, hlk, hrt, hRm, hnn⟩ := C
  subst hRm; subst hnn; subst hp
  intro H locs ls hP hS hl
  exact lv_ineg hx hb d (g H locs ls hP hS hl)
theorem G_idiv (C : CX ω w κ cc Ts own ret nL rm) {x y : Int32} (d : decode cc pc = .ok (.idiv, 1)) (hp : pc + 1 = pc') (hf : g_dv y T1 = some r0) (g : T1 = some r0 → G ω w κ pc' lv (.int (x / y) :: st) σ) : G ω w κ pc lv (.int y :: .int x :: st) σ := by
  obtain ⟨p, e, R, s, m, args, below, meth, c, Q, n⟩ := κ
  obtain ⟨⟨hx, hb, hml, hown, hts⟩, hK, hD, hM, hlk, hrt, hRm, hnn⟩ := C
  subst hRm; subst hnn; subst hp
  intro H locs ls hP hS hl
  exact lv_idiv hx hb d (g_dv_some hf).1 (g (g_dv_some hf).2 H locs ls hP hS hl)
theorem G_dup (C : CX ω w κ cc Ts own ret nL rm) {v : Value} (d : decode cc pc = .ok (.dup, 1)) (hv : v.category = 1) (hp : pc + 1 = pc') (g : G ω w κ pc' lv (v :: v :: st) σ) : G ω w κ pc lv (v :: st) σ := by
  obtain ⟨p, e, R, s, m, args, below, meth, c, Q, n⟩ := κ
  obtain ⟨⟨hx, hb, hml, hown, hts⟩, hK, hD, hM, hlk, hrt, hRm, hnn⟩ := C
  subst hRm; subst hnn; subst hp
  intro H locs ls hP hS hl
  exact lv_dup hx hb d hv (g H locs ls hP hS hl)
theorem G_dup2 (C : CX ω w κ cc Ts own ret nL rm) {v u : Value} (d : decode cc pc = .ok (.dup2, 1)) (hv : v.category = 1) (hu : u.category = 1) (hp : pc + 1 = pc') (g : G ω w κ pc' lv (v :: u :: v :: u :: st) σ) : G ω w κ pc lv (v :: u :: st) σ := by
  obtain ⟨p, e, R, s, m, args, below, meth, c, Q, n⟩ := κ
  obtain ⟨⟨hx, hb, hml, hown, hts⟩, hK, hD, hM, hlk, hrt, hRm, hnn⟩ := C
  subst hRm; subst hnn; subst hp
  intro H locs ls hP hS hl
  exact lv_dup2_11 hx hb d hv hu (g H locs ls hP hS hl)
theorem G_pop (C : CX ω w κ cc Ts own ret nL rm) {v : Value} (d : decode cc pc = .ok (.pop, 1)) (hv : v.category = 1) (hp : pc + 1 = pc') (g : G ω w κ pc' lv st σ) : G ω w κ pc lv (v :: st) σ := by
  obtain ⟨p, e, R, s, m, args, below, meth, c, Q, n⟩ := κ
  obtain ⟨⟨hx, hb, hml, hown, hts⟩, hK, hD, hM, hlk, hrt, hRm, hnn⟩ := C
  subst hRm; subst hnn; subst hp
  intro H locs ls hP hS hl
  exact lv_pop hx hb d hv (g H locs ls hP hS hl)
theorem G_goto (C : CX ω w κ cc Ts own ret nL rm) {off : Int} (d : decode cc pc = .ok (.goto off, 3)) (ht : (pc : Int) + off = (pc' : Int)) (g : G ω w κ pc' lv st σ) : G ω w κ pc lv st σ := by
  obtain ⟨p, e, R, s, m, args, below, meth, c, Q, n⟩ := κ
  obtain ⟨⟨hx, hb, hml, hown, hts⟩, hK, hD, hM, hlk, hrt, hRm, hnn⟩ := C
  subst hRm; subst hnn
  intro H locs ls hP hS hl
  exact lv_goto hx hb d ht (g H locs ls hP hS hl)
theorem G_icmp_eq (C : CX ω w κ cc Ts own ret nL rm) {x y : Int32} {off : Int} {tgt : Nat} (d : decode cc pc = .ok (.if_icmp .eq off, 3)) (ht : (pc : Int) + off = (tgt : Int)) (hp : pc + 3 = pc') (hf : (if x = y then T1 else T2) = some r0) (k1 : T1 = some r0 → G ω w κ tgt lv st σ) (k2 : T2 = some r0 → G ω w κ pc' lv st σ) : G ω w κ pc lv (.int y :: .int x :: st) σ := by
  obtain ⟨p, e, R, s, m, args, below, meth, c, Q, n⟩ := κ
  obtain ⟨⟨hx, hb, hml, hown, hts⟩, hK, hD, hM, hlk, hrt, hRm, hnn⟩ := C
  subst hRm; subst hnn; subst hp
  intro H locs ls hP hS hl
  exact lv_icmp_eq hx hb d ht (fun h => k1 (by rw [if_pos h] at hf; exact hf) H locs ls hP hS hl) (fun h => k2 (by rw [if_neg h] at hf; exact hf) H locs ls hP hS hl)
theorem G_if_eq (C : CX ω w κ cc Ts own ret nL rm) {x : Int32} {off : Int} {tgt : Nat} (d : decode cc pc = .ok (.ifCond .eq off, 3)) (ht : (pc : Int) + off = (tgt : Int)) (hp : pc + 3 = pc') (hf : (if x = 0 then T1 else T2) = some r0) (k1 : T1 = some r0 → G ω w κ tgt lv st σ) (k2 : T2 = some r0 → G ω w κ pc' lv st σ) : G ω w κ pc lv (.int x :: st) σ := by
  obtain ⟨p, e, R, s, m, args, below, meth, c, Q, n⟩ := κ
  obtain ⟨⟨hx, hb, hml, hown, hts⟩, hK, hD, hM, hlk, hrt, hRm, hnn⟩ := C
  subst hRm; subst hnn; subst hp
  intro H locs ls hP hS hl
  exact lv_if_eq hx hb d ht (fun h => k1 (by rw [if_pos h] at hf; exact hf) H locs ls hP hS hl) (fun h => k2 (by rw [if_neg h] at hf; exact hf) H locs ls hP hS hl)
theorem G_icmp_ne (C : CX ω w κ cc Ts own ret nL rm) {x y : Int32} {off : Int} {tgt : Nat} (d : decode cc pc = .ok (.if_icmp .ne off, 3)) (ht : (pc : Int) + off = (tgt : Int)) (hp : pc + 3 = pc') (hf : (if x = y then T1 else T2) = some r0) (k1 : T1 = some r0 → G ω w κ pc' lv st σ) (k2 : T2 = some r0 → G ω w κ tgt lv st σ) : G ω w κ pc lv (.int y :: .int x :: st) σ := by
  obtain ⟨p, e, R, s, m, args, below, meth, c, Q, n⟩ := κ
  obtain ⟨⟨hx, hb, hml, hown, hts⟩, hK, hD, hM, hlk, hrt, hRm, hnn⟩ := C
  subst hRm; subst hnn; subst hp
  intro H locs ls hP hS hl
  exact lv_icmp_ne hx hb d ht (fun h => k2 (by rw [if_neg h] at hf; exact hf) H locs ls hP hS hl) (fun h => k1 (by rw [if_pos h] at hf; exact hf) H locs ls hP hS hl)
theorem G_if_ne (C : CX ω w κ cc Ts own ret nL rm) {x : Int32} {off : Int} {tgt : Nat} (d : decode cc pc = .ok (.ifCond .ne off, 3)) (ht : (pc : Int) + off = (tgt : Int)) (hp : pc + 3 = pc') (hf : (if x = 0 then T1 else T2) = some r0) (k1 : T1 = some r0 → G ω w κ pc' lv st σ) (k2 : T2 = some r0 → G ω w κ tgt lv st σ) : G ω w κ pc lv (.int x :: st) σ := by
  obtain ⟨p, e, R, s, m, args, below, meth, c, Q, n⟩ := κ
  obtain ⟨⟨hx, hb, hml, hown, hts⟩, hK, hD, hM, hlk, hrt, hRm, hnn⟩ := C
  subst hRm; subst hnn; subst hp
  intro H locs ls hP hS hl
  exact lv_if_ne hx hb d ht (fun h => k2 (by rw [if_neg h] at hf; exact hf) H locs ls hP hS hl) (fun h => k1 (by rw [if_pos h] at hf; exact hf) H locs ls hP hS hl)
theorem G_icmp_lt (C : CX ω w κ cc Ts own ret nL rm) {x y : Int32} {off : Int} {tgt : Nat} (d : decode cc pc = .ok (.if_icmp .lt off, 3)) (ht : (pc : Int) + off = (tgt : Int)) (hp : pc + 3 = pc') (hf : (if x < y then T1 else T2) = some r0) (k1 : T1 = some r0 → G ω w κ tgt lv st σ) (k2 : T2 = some r0 → G ω w κ pc' lv st σ) : G ω w κ pc lv (.int y :: .int x :: st) σ := by
  obtain ⟨p, e, R, s, m, args, below, meth, c, Q, n⟩ := κ
  obtain ⟨⟨hx, hb, hml, hown, hts⟩, hK, hD, hM, hlk, hrt, hRm, hnn⟩ := C
  subst hRm; subst hnn; subst hp
  intro H locs ls hP hS hl
  exact lv_icmp_lt hx hb d ht (fun h => k1 (by rw [if_pos h] at hf; exact hf) H locs ls hP hS hl) (fun h => k2 (by rw [if_neg h] at hf; exact hf) H locs ls hP hS hl)
theorem G_if_lt (C : CX ω w κ cc Ts own ret nL rm) {x : Int32} {off : Int} {tgt : Nat} (d : decode cc pc = .ok (.ifCond .lt off, 3)) (ht : (pc : Int) + off = (tgt : Int)) (hp : pc + 3 = pc') (hf : (if x < 0 then T1 else T2) = some r0) (k1 : T1 = some r0 → G ω w κ tgt lv st σ) (k2 : T2 = some r0 → G ω w κ pc' lv st σ) : G ω w κ pc lv (.int x :: st) σ := by
  obtain ⟨p, e, R, s, m, args, below, meth, c, Q, n⟩ := κ
  obtain ⟨⟨hx, hb, hml, hown, hts⟩, hK, hD, hM, hlk, hrt, hRm, hnn⟩ := C
  subst hRm; subst hnn; subst hp
  intro H locs ls hP hS hl
  exact lv_if_lt hx hb d ht (fun h => k1 (by rw [if_pos h] at hf; exact hf) H locs ls hP hS hl) (fun h => k2 (by rw [if_neg h] at hf; exact hf) H locs ls hP hS hl)
theorem G_icmp_ge (C : CX ω w κ cc Ts own ret nL rm) {x y : Int32} {off : Int} {tgt : Nat} (d : decode cc pc = .ok (.if_icmp .ge off, 3)) (ht : (pc : Int) + off = (tgt : Int)) (hp : pc + 3 = pc') (hf : (if y ≤ x then T1 else T2) = some r0) (k1 : T1 = some r0 → G ω w κ tgt lv st σ) (k2 : T2 = some r0 → G ω w κ pc' lv st σ) : G ω w κ pc lv (.int y :: .int x :: st) σ := by
  obtain ⟨p, e, R, s, m, args, below, meth, c, Q, n⟩ := κ
  obtain ⟨⟨hx, hb, hml, hown, hts⟩, hK, hD, hM, hlk, hrt, hRm, hnn⟩ := C
  subst hRm; subst hnn; subst hp
  intro H locs ls hP hS hl
  exact lv_icmp_ge hx hb d ht (fun h => k1 (by rw [if_pos h] at hf; exact hf) H locs ls hP hS hl) (fun h => k2 (by rw [if_neg h] at hf; exact hf) H locs ls hP hS hl)
theorem G_if_ge (C : CX ω w κ cc Ts own ret nL rm) {x : Int32} {off : Int} {tgt : Nat} (d : decode cc pc = .ok (.ifCond .ge off, 3)) (ht : (pc : Int) + off = (tgt : Int)) (hp : pc + 3 = pc') (hf : (if 0 ≤ x then T1 else T2) = some r0) (k1 : T1 = some r0 → G ω w κ tgt lv st σ) (k2 : T2 = some r0 → G ω w κ pc' lv st σ) : G ω w κ pc lv (.int x :: st) σ := by
  obtain ⟨p, e, R, s, m, args, below, meth, c, Q, n⟩ := κ
  obtain ⟨⟨hx, hb, hml, hown, hts⟩, hK, hD, hM, hlk, hrt, hRm, hnn⟩ := C
  subst hRm; subst hnn; subst hp
  intro H locs ls hP hS hl
  exact lv_if_ge hx hb d ht (fun h => k1 (by rw [if_pos h] at hf; exact hf) H locs ls hP hS hl) (fun h => k2 (by rw [if_neg h] at hf; exact hf) H locs ls hP hS hl)
theorem G_icmp_gt (C : CX ω w κ cc Ts own ret nL rm) {x y : Int32} {off : Int} {tgt : Nat} (d : decode cc pc = .ok (.if_icmp .gt off, 3)) (ht : (pc : Int) + off = (tgt : Int)) (hp : pc + 3 = pc') (hf : (if y < x then T1 else T2) = some r0) (k1 : T1 = some r0 → G ω w κ tgt lv st σ) (k2 : T2 = some r0 → G ω w κ pc' lv st σ) : G ω w κ pc lv (.int y :: .int x :: st) σ := by
  obtain ⟨p, e, R, s, m, args, below, meth, c, Q, n⟩ := κ
  obtain ⟨⟨hx, hb, hml, hown, hts⟩, hK, hD, hM, hlk, hrt, hRm, hnn⟩ := C
  subst hRm; subst hnn; subst hp
  intro H locs ls hP hS hl
  exact lv_icmp_gt hx hb d ht (fun h => k1 (by rw [if_pos h] at hf; exact hf) H locs ls hP hS hl) (fun h => k2 (by rw [if_neg h] at hf; exact hf) H locs ls hP hS hl)
theorem G_if_gt (C : CX ω w κ cc Ts own ret nL rm) {x : Int32} {off : Int} {tgt : Nat} (d : decode cc pc = .ok (.ifCond .gt off, 3)) (ht : (pc : Int) + off = (tgt : Int)) (hp : pc + 3 = pc') (hf : (if 0 < x then T1 else T2) = some r0) (k1 : T1 = some r0 → G ω w κ tgt lv st σ) (k2 : T2 = some r0 → G ω w κ pc' lv st σ) : G ω w κ pc lv (.int x :: st) σ := by
  obtain ⟨p, e, R, s, m, args, below, meth, c, Q, n⟩ := κ
  obtain ⟨⟨hx, hb, hml, hown, hts⟩, hK, hD, hM, hlk, hrt, hRm, hnn⟩ := C
  subst hRm; subst hnn; subst hp
  intro H locs ls hP hS hl
  exact lv_if_gt hx hb d ht (fun h => k1 (by rw [if_pos h] at hf; exact hf) H locs ls hP hS hl) (fun h => k2 (by rw [if_neg h] at hf; exact hf) H locs ls hP hS hl)
theorem G_icmp_le (C : CX ω w κ cc Ts own ret nL rm) {x y : Int32} {off : Int} {tgt : Nat} (d : decode cc pc = .ok (.if_icmp .le off, 3)) (ht : (pc : Int) + off = (tgt : Int)) (hp : pc + 3 = pc') (hf : (if x ≤ y then T1 else T2) = some r0) (k1 : T1 = some r0 → G ω w κ tgt lv st σ) (k2 : T2 = some r0 → G ω w κ pc' lv st σ) : G ω w κ pc lv (.int y :: .int x :: st) σ := by
  obtain ⟨p, e, R, s, m, args, below, meth, c, Q, n⟩ := κ
  obtain ⟨⟨hx, hb, hml, hown, hts⟩, hK, hD, hM, hlk, hrt, hRm, hnn⟩ := C
  subst hRm; subst hnn; subst hp
  intro H locs ls hP hS hl
  exact lv_icmp_le hx hb d ht (fun h => k1 (by rw [if_pos h] at hf; exact hf) H locs ls hP hS hl) (fun h => k2 (by rw [if_neg h] at hf; exact hf) H locs ls hP hS hl)
theorem G_if_le (C : CX ω w κ cc Ts own ret nL rm) {x : Int32} {off : Int} {tgt : Nat} (d : decode cc pc = .ok (.ifCond .le off, 3)) (ht : (pc : Int) + off = (tgt : Int)) (hp : pc + 3 = pc') (hf : (if x ≤ 0 then T1 else T2) = some r0) (k1 : T1 = some r0 → G ω w κ tgt lv st σ) (k2 : T2 = some r0 → G ω w κ pc' lv st σ) : G ω w κ pc lv (.int x :: st) σ := by
  obtain ⟨p, e, R, s, m, args, below, meth, c, Q, n⟩ := κ
  obtain ⟨⟨hx, hb, hml, hown, hts⟩, hK, hD, hM, hlk, hrt, hRm, hnn⟩ := C
  subst hRm; subst hnn; subst hp
  intro H locs ls hP hS hl
  exact lv_if_le hx hb d ht (fun h => k1 (by rw [if_pos h] at hf; exact hf) H locs ls hP hS hl) (fun h => k2 (by rw [if_neg h] at hf; exact hf) H locs ls hP hS hl)
theorem G_tIn (C : CX ω w κ cc Ts own ret nL rm) {dflt lo hi : Int} {offs : Array Int} {len : Nat} {x k : Int32} {off : Int} {tgt : Nat} (h : x = k) (d : decode cc pc = .ok (.tableswitch dflt lo hi offs, len)) (h1 : ¬ k.toInt < lo) (h2 : ¬ hi < k.toInt) (ho : offs[(k.toInt - lo).toNat]? = some off) (ht : (pc : Int) + off = (tgt : Int)) (g : G ω w κ tgt lv st σ) : G ω w κ pc lv (.int x :: st) σ := by
  obtain ⟨p, e, R, s, m, args, below, meth, c, Q, n⟩ := κ
  obtain ⟨⟨hx, hb, hml, hown, hts⟩, hK, hD, hM, hlk, hrt, hRm, hnn⟩ := C
  subst hRm; subst hnn
  intro H locs ls hP hS hl
  subst h
  exact lv_tableIn hx hb d h1 h2 ho ht (g H locs ls hP hS hl)
theorem G_tOut (C : CX ω w κ cc Ts own ret nL rm) {dflt lo hi : Int} {offs : Array Int} {len : Nat} {x : Int32} {tgt : Nat} (d : decode cc pc = .ok (.tableswitch dflt lo hi offs, len)) (h : x.toInt < lo ∨ hi < x.toInt) (ht : (pc : Int) + dflt = (tgt : Int)) (g : G ω w κ tgt lv st σ) : G ω w κ pc lv (.int x :: st) σ := by
  obtain ⟨p, e, R, s, m, args, below, meth, c, Q, n⟩ := κ
  obtain ⟨⟨hx, hb, hml, hown, hts⟩, hK, hD, hM, hlk, hrt, hRm, hnn⟩ := C
  subst hRm; subst hnn
  intro H locs ls hP hS hl
  exact lv_tableOut hx hb d h ht (g H locs ls hP hS hl)
theorem G_lk (C : CX ω w κ cc Ts own ret nL rm) {dflt : Int} {ps : Array (Int × Int)} {len : Nat} {x : Int32} {off : Int} {tgt : Nat} (d : decode cc pc = .ok (.lookupswitch dflt ps, len)) (hs : (ps.toList.zip (ps.toList.drop 1)).all (fun (a, next) => a.1 < next.1) = true) (ho : Op.lookupswitch.offset ps.toList dflt x.toInt = off) (ht : (pc : Int) + off = (tgt : Int)) (g : G ω w κ tgt lv st σ) : G ω w κ pc lv (.int x :: st) σ := by
  obtain ⟨p, e, R, s, m, args, below, meth, c, Q, n⟩ := κ
  obtain ⟨⟨hx, hb, hml, hown, hts⟩, hK, hD, hM, hlk, hrt, hRm, hnn⟩ := C
  subst hRm; subst hnn
  intro H locs ls hP hS hl
  exact lv_lookup hx hb d hs ho ht (g H locs ls hP hS hl)
theorem G_get (C : CX ω w κ cc Ts own ret nL rm) {Cn : String} {T : u_T} {N ci idx a : Nat} {fs : List Value} {v : Value} {q0 : Nat} (he : (w ω σ)[q0]? = some (a, .inr (ci, fs))) (hc : vwCl[ci]? = some (Cn, T, N)) (k : Nat) (hk : k < N) (hv : fs[k]? = some v) (hin : ∀ w ∈ u_ws Cn T N, w ∈ Ts) (hlink : Cond.fieldLink own idx (T k).1 (T k).2.1 (T k).2.2.1 ∈ Ts) (d : decode cc pc = .ok (.getfield idx, 3)) (hp : pc + 3 = pc') (g : G ω w κ pc' lv (v :: st) σ) : G ω w κ pc lv (.ref a :: st) σ := by
  obtain ⟨p, e, R, s, m, args, below, meth, c, Q, n⟩ := κ
  obtain ⟨⟨hx, hb, hml, hown, hts⟩, hK, hD, hM, hlk, hrt, hRm, hnn⟩ := C
  subst hRm; subst hnn; subst hp
  intro H locs ls hP hS hl
  exact va_get hx hb hts hin hown hK hP q0 he hc k hk (hts _ hlink) (fun _ h9 => h9) hv d (g H locs ls hP hS hl)
theorem G_put (C : CX ω w κ cc Ts own ret nL rm) {Cn : String} {T : u_T} {N ci idx a : Nat} {fs : List Value} {x : Int32} {q0 : Nat} {K : ZS → Option R0} (ty0 : Nat → FieldType) (hty : ∀ k, k < N → parseFieldDescriptor (T k).2.2.1 = some (ty0 k)) (hnm : ∀ a, a < N → ∀ b, b < N → a ≠ b → (T a).2.1 ≠ (T b).2.1) (he : (w ω σ)[q0]? = some (a, .inr (ci, fs))) (hc : vwCl[ci]? = some (Cn, T, N)) (k : Nat) (hk : k < N) (hl9 : k < fs.length) (hin : ∀ w ∈ u_ws Cn T N, w ∈ Ts) (hlink : Cond.fieldLink own idx (T k).1 (T k).2.1 (T k).2.2.1 ∈ Ts) (hfin : (T k).2.2.2 = false) (hdp : parseFieldDescriptor (T k).2.2.1 = some .int) (hs : ∀ x : Int32, (w ω σ).set q0 (a, .inr (ci, fs.set k (.int x))) = w ω (zu σ q0 k x)) (d : decode cc pc = .ok (.putfield idx, 3)) (hp : pc + 3 = pc') (hf : g_lt (zu σ q0 k x) K = some r0) (g : ∀ τ : ZS, K τ = some r0 → G ω w κ pc' lv st τ) : G ω w κ pc lv (.int x :: .ref a :: st) σ := by
  obtain ⟨p, e, R, s, m, args, below, meth, c, Q, n⟩ := κ
  obtain ⟨⟨hx, hb, hml, hown, hts⟩, hK, hD, hM, hlk, hrt, hRm, hnn⟩ := C
  subst hRm; subst hnn; subst hp
  intro H locs ls hP hS hl
  refine va_put hx hb hts hin ty0 hty hnm hown hK hP (hD σ) hS q0 he hc k hk (hts _ hlink) (fun _ h9 => h9) hfin hdp rfl rfl hl9 d (fun H1 locs1 hP1 _ hS1 => ?_)
  rw [hs] at hP1
  exact g _ hf H1 locs1 ls hP1 hS1 hl
theorem G_iald (C : CX ω w κ cc Ts own ret nL rm) {a len q0 : Nat} {f : Nat → Int32} {i : Int32} {K : Int32 → Option R0} (he : (w ω σ)[q0]? = some (a, .inl (zI ω, len, .inl f))) (d : decode cc pc = .ok (.iaload, 1)) (hp : pc + 1 = pc') (hf : g_rd len f i K = some r0) (g : ∀ v : Int32, K v = some r0 → G ω w κ pc' lv (.int v :: st) σ) : G ω w κ pc lv (.int i :: .ref a :: st) σ := by
  obtain ⟨p, e, R, s, m, args, below, meth, c, Q, n⟩ := κ
  obtain ⟨⟨hx, hb, hml, hown, hts⟩, hK, hD, hM, hlk, hrt, hRm, hnn⟩ := C
  subst hRm; subst hnn; subst hp
  intro H locs ls hP hS hl
  exact va_iald hx hb hK hP q0 0 he rfl (g_rd_some hf).1 d (g _ (g_rd_some hf).2 H locs ls hP hS hl)
theorem G_bald (C : CX ω w κ cc Ts own ret nL rm) {a len q0 : Nat} {f : Nat → Int32} {i : Int32} {K : Int32 → Option R0} (he : (w ω σ)[q0]? = some (a, .inl (zB ω, len, .inl f))) (d : decode cc pc = .ok (.baload, 1)) (hp : pc + 1 = pc') (hf : g_rd len f i K = some r0) (g : ∀ v : Int32, K v = some r0 → G ω w κ pc' lv (.int v :: st) σ) : G ω w κ pc lv (.int i :: .ref a :: st) σ := by
  obtain ⟨p, e, R, s, m, args, below, meth, c, Q, n⟩ := κ
  obtain ⟨⟨hx, hb, hml, hown, hts⟩, hK, hD, hM, hlk, hrt, hRm, hnn⟩ := C
  subst hRm; subst hnn; subst hp
  intro H locs ls hP hS hl
  exact va_bald hx hb hK hP q0 1 he rfl (g_rd_some hf).1 d (g _ (g_rd_some hf).2 H locs ls hP hS hl)
theorem G_zald (C : CX ω w κ cc Ts own ret nL rm) {a len q0 : Nat} {f : Nat → Int32} {i : Int32} {K : Int32 → Option R0} (he : (w ω σ)[q0]? = some (a, .inl (zZ ω, len, .inl f))) (d : decode cc pc = .ok (.baload, 1)) (hp : pc + 1 = pc') (hf : g_rd len f i K = some r0) (g : ∀ v : Int32, K v = some r0 → G ω w κ pc' lv (.int v :: st) σ) : G ω w κ pc lv (.int i :: .ref a :: st) σ := by
  obtain ⟨p, e, R, s, m, args, below, meth, c, Q, n⟩ := κ
  obtain ⟨⟨hx, hb, hml, hown, hts⟩, hK, hD, hM, hlk, hrt, hRm, hnn⟩ := C
  subst hRm; subst hnn; subst hp
  intro H locs ls hP hS hl
  exact va_zald hx hb hK hP q0 2 he rfl (g_rd_some hf).1 d (g _ (g_rd_some hf).2 H locs ls hP hS hl)
theorem G_iast (C : CX ω w κ cc Ts own ret nL rm) {a len q0 : Nat} {f : Nat → Int32} {i x : Int32} {K : ZS → Option R0} (he : (w ω σ)[q0]? = some (a, .inl (zI ω, len, .inl f))) (hs : ∀ (j : Nat) (x : Int32), (w ω σ).set q0 (a, .inl (zI ω, len, .inl (upd f j x))) = w ω (zu σ q0 j x)) (d : decode cc pc = .ok (.iastore, 1)) (hp : pc + 1 = pc') (hf : g_wr len σ q0 i x K = some r0) (g : ∀ τ : ZS, K τ = some r0 → G ω w κ pc' lv st τ) : G ω w κ pc lv (.int x :: .int i :: .ref a :: st) σ := by
  obtain ⟨p, e, R, s, m, args, below, meth, c, Q, n⟩ := κ
  obtain ⟨⟨hx, hb, hml, hown, hts⟩, hK, hD, hM, hlk, hrt, hRm, hnn⟩ := C
  subst hRm; subst hnn; subst hp
  intro H locs ls hP hS hl
  refine va_iast hx hb hK hP (hD σ) hS q0 0 he rfl (g_wr_some hf).1 d (fun H1 locs1 hP1 _ hS1 => ?_)
  rw [hs] at hP1
  exact g _ (g_wr_some hf).2 H1 locs1 ls hP1 hS1 hl
theorem G_bast (C : CX ω w κ cc Ts own ret nL rm) {a len q0 : Nat} {f : Nat → Int32} {i x : Int32} {K : ZS → Option R0} (he : (w ω σ)[q0]? = some (a, .inl (zB ω, len, .inl f))) (hs : ∀ (j : Nat) (x : Int32), (w ω σ).set q0 (a, .inl (zB ω, len, .inl (upd f j x))) = w ω (zu σ q0 j x)) (d : decode cc pc = .ok (.bastore, 1)) (hp : pc + 1 = pc') (hf : g_wr len σ q0 i (vp_nar .byte x) K = some r0) (g : ∀ τ : ZS, K τ = some r0 → G ω w κ pc' lv st τ) : G ω w κ pc lv (.int x :: .int i :: .ref a :: st) σ := by
  obtain ⟨p, e, R, s, m, args, below, meth, c, Q, n⟩ := κ
  obtain ⟨⟨hx, hb, hml, hown, hts⟩, hK, hD, hM, hlk, hrt, hRm, hnn⟩ := C
  subst hRm; subst hnn; subst hp
  intro H locs ls hP hS hl
  refine va_bast hx hb hK hP (hD σ) hS q0 1 he rfl (g_wr_some hf).1 d (fun H1 locs1 hP1 _ hS1 => ?_)
  rw [hs] at hP1
  exact g _ (g_wr_some hf).2 H1 locs1 ls hP1 hS1 hl
theorem G_zast (C : CX ω w κ cc Ts own ret nL rm) {a len q0 : Nat} {f : Nat → Int32} {i x : Int32} {K : ZS → Option R0} (he : (w ω σ)[q0]? = some (a, .inl (zZ ω, len, .inl f))) (hs : ∀ (j : Nat) (x : Int32), (w ω σ).set q0 (a, .inl (zZ ω, len, .inl (upd f j x))) = w ω (zu σ q0 j x)) (d : decode cc pc = .ok (.bastore, 1)) (hp : pc + 1 = pc') (hf : g_wr len σ q0 i (vp_nar .boolean x) K = some r0) (g : ∀ τ : ZS, K τ = some r0 → G ω w κ pc' lv st τ) : G ω w κ pc lv (.int x :: .int i :: .ref a :: st) σ := by
  obtain ⟨p, e, R, s, m, args, below, meth, c, Q, n⟩ := κ
  obtain ⟨⟨hx, hb, hml, hown, hts⟩, hK, hD, hM, hlk, hrt, hRm, hnn⟩ := C
  subst hRm; subst hnn; subst hp
  intro H locs ls hP hS hl
  refine va_zast hx hb hK hP (hD σ) hS q0 2 he rfl (g_wr_some hf).1 d (fun H1 locs1 hP1 _ hS1 => ?_)
  rw [hs] at hP1
  exact g _ (g_wr_some hf).2 H1 locs1 ls hP1 hS1 hl
theorem G_alen (C : CX ω w κ cc Ts own ret nL rm) {a len q0 : Nat} {f : Nat → Int32} {v : Int32} (he : (w ω σ)[q0]? = some (a, .inl (zI ω, len, .inl f))) (hv : Int32.ofNat len = v) (d : decode cc pc = .ok (.arraylength, 1)) (hp : pc + 1 = pc') (g : G ω w κ pc' lv (.int v :: st) σ) : G ω w κ pc lv (.ref a :: st) σ := by
  obtain ⟨p, e, R, s, m, args, below, meth, c, Q, n⟩ := κ
  obtain ⟨⟨hx, hb, hml, hown, hts⟩, hK, hD, hM, hlk, hrt, hRm, hnn⟩ := C
  subst hRm; subst hnn; subst hp
  intro H locs ls hP hS hl
  exact va_alen hx hb hK hP q0 0 he rfl hv d (g H locs ls hP hS hl)
theorem G_gets (C : CX ω w κ cc Ts own ret nL rm) {idx : Nat} (k : Nat) (hk : k < 4) (hlink : Cond.fieldLink own idx RX3 (zNm k) "[I" ∈ Ts) (d : decode cc pc = .ok (.getstatic idx, 3)) (hp : pc + 3 = pc') (g : G ω w κ pc' lv (.ref (zS ω k) :: st) σ) : G ω w κ pc lv st σ := by
  obtain ⟨p, e, R, s, m, args, below, meth, c, Q, n⟩ := κ
  obtain ⟨⟨hx, hb, hml, hown, hts⟩, hK, hD, hM, hlk, hrt, hRm, hnn⟩ := C
  subst hRm; subst hnn; subst hp
  intro H locs ls hP hS hl
  exact va_gets hx hb (hM.2 k hk).1 hS hown (hts _ hlink) (fun _ h9 => h9) d (g H locs ls hP hS hl)
theorem G_tald (C : CX ω w κ cc Ts own ret nL rm) {i : Int32} {K : Int32 → Option R0} (k : Nat) (hk : k < 4) (d : decode cc pc = .ok (.iaload, 1)) (hp : pc + 1 = pc') (hf : g_rd 11 (zTb k) i K = some r0) (g : ∀ v : Int32, K v = some r0 → G ω w κ pc' lv (.int v :: st) σ) : G ω w κ pc lv (.int i :: .ref (zS ω k) :: st) σ := by
  obtain ⟨p, e, R, s, m, args, below, meth, c, Q, n⟩ := κ
  obtain ⟨⟨hx, hb, hml, hown, hts⟩, hK, hD, hM, hlk, hrt, hRm, hnn⟩ := C
  subst hRm; subst hnn; subst hp
  intro H locs ls hP hS hl
  exact va_ti hx hb (hM.2 k hk).2 hS (g_rd_some hf).1 rfl d (g _ (g_rd_some hf).2 H locs ls hP hS hl)
theorem G_mmax (C : CX ω w κ cc Ts own ret nL rm) {x y : Int32} {idx : Nat} {K : Int32 → Option R0} (hlink : Cond.methodLink own idx Lib.Math.max.name ∈ Ts) (hst : Cond.static Lib.Math.max.name ∈ Ts) (hini : Cond.initialized "java/lang/Math" ∈ Ts) (hcode : Cond.code Lib.Math.max.name Lib.Math.max.code 2 (some .int) ∈ Ts) (hfr : 1 ≤ rm.frames) (hlo : (st.map fun v => v.category).sum + 13 ≤ rm.locals) (d : decode cc pc = .ok (.invokestatic idx, 3)) (hp : pc + 3 = pc') (hf : g_lt (if x < y then y else x) K = some r0) (g : ∀ v : Int32, K v = some r0 → G ω w κ pc' lv (.int v :: st) σ) : G ω w κ pc lv (.int y :: .int x :: st) σ := by
  obtain ⟨p, e, R, s, m, args, below, meth, c, Q, n⟩ := κ
  obtain ⟨⟨hx, hb, hml, hown, hts⟩, hK, hD, hM, hlk, hrt, hRm, hnn⟩ := C
  subst hRm; subst hnn; subst hp
  intro H locs ls hP hS hl
  exact va_mmax hx hb (hml.trans hl.1.symm) hown (hts _ hlink) (hts _ hst) (hts _ hini) (hts _ hcode) hfr hlo (Nat.zero_le _) (Nat.zero_le _) d (g _ hf H locs ls hP hS hl)
theorem G_mmin (C : CX ω w κ cc Ts own ret nL rm) {x y : Int32} {idx : Nat} {K : Int32 → Option R0} (hlink : Cond.methodLink own idx Lib.Math.min.name ∈ Ts) (hst : Cond.static Lib.Math.min.name ∈ Ts) (hini : Cond.initialized "java/lang/Math" ∈ Ts) (hcode : Cond.code Lib.Math.min.name Lib.Math.min.code 2 (some .int) ∈ Ts) (hfr : 1 ≤ rm.frames) (hlo : (st.map fun v => v.category).sum + 13 ≤ rm.locals) (d : decode cc pc = .ok (.invokestatic idx, 3)) (hp : pc + 3 = pc') (hf : g_lt (if y < x then y else x) K = some r0) (g : ∀ v : Int32, K v = some r0 → G ω w κ pc' lv (.int v :: st) σ) : G ω w κ pc lv (.int y :: .int x :: st) σ := by
  obtain ⟨p, e, R, s, m, args, below, meth, c, Q, n⟩ := κ
  obtain ⟨⟨hx, hb, hml, hown, hts⟩, hK, hD, hM, hlk, hrt, hRm, hnn⟩ := C
  subst hRm; subst hnn; subst hp
  intro H locs ls hP hS hl
  exact va_mmin hx hb (hml.trans hl.1.symm) hown (hts _ hlink) (hts _ hst) (hts _ hini) (hts _ hcode) hfr hlo (Nat.zero_le _) (Nat.zero_le _) d (g _ hf H locs ls hP hS hl)
theorem G_iret (C : CX ω w κ cc Ts own (some .int) nL rm) {P : Int32 → ZS → Prop} (hR : zRI ω w κ P) {v : Int32} (d : decode cc pc = .ok (.ireturn, 1)) (h : P v σ) : G ω w κ pc lv [.int v] σ := by
  obtain ⟨p, e, R, s, m, args, below, meth, c, Q, n⟩ := κ
  obtain ⟨⟨hx, hb, hml, hown, hts⟩, hK, hD, hM, hlk, hrt, hRm, hnn⟩ := C
  subst hRm; subst hnn
  have hR : Q = _ := hR
  subst hR
  intro H locs ls hP hS hl
  exact W.iret (v := v) hx hb hrt (fun t ht hW => ⟨⟨v, σ, rfl, h, by show va_P _ _ _ t.heap; rw [ht]; exact hP⟩, hS.F ht⟩) hS.2.2 d hlk
theorem G_zret (C : CX ω w κ cc Ts own (some .boolean) nL rm) {P : Int32 → ZS → Prop} (hR : zRI ω w κ P) {v : Int32} (d : decode cc pc = .ok (.ireturn, 1)) (hv : v = 0 ∨ v = 1) (h : P v σ) : G ω w κ pc lv [.int v] σ := by
  obtain ⟨p, e, R, s, m, args, below, meth, c, Q, n⟩ := κ
  obtain ⟨⟨hx, hb, hml, hown, hts⟩, hK, hD, hM, hlk, hrt, hRm, hnn⟩ := C
  subst hRm; subst hnn
  have hR : Q = _ := hR
  subst hR
  intro H locs ls hP hS hl
  exact W.zret (v := v) hx hb hrt (g_nar hv) (fun t ht hW => ⟨⟨v, σ, rfl, h, by show va_P _ _ _ t.heap; rw [ht]; exact hP⟩, hS.F ht⟩) hS.2.2 d hlk
theorem G_vret (C : CX ω w κ cc Ts own none nL rm) {P : ZS → Prop} (hR : zRV ω w κ P) (d : decode cc pc = .ok (.return_, 1)) (h : P σ) : G ω w κ pc lv [] σ := by
  obtain ⟨p, e, R, s, m, args, below, meth, c, Q, n⟩ := κ
  obtain ⟨⟨hx, hb, hml, hown, hts⟩, hK, hD, hM, hlk, hrt, hRm, hnn⟩ := C
  subst hRm; subst hnn
  have hR : Q = _ := hR
  subst hR
  intro H locs ls hP hS hl
  exact W.vret hx hb hrt (fun t ht hW => ⟨⟨σ, rfl, h, by show va_P _ _ _ t.heap; rw [ht]; exact hP⟩, hS.F ht⟩) hS.2.2 d hlk

theorem G_callVp (C : CX ω w κ cc Ts own ret nL rm) {y : MethodName} {ws : List Cond} {bytes : ByteArray} {maxL : Nat} {rt : Option FieldType} {Cn : String} {na idx : Nat} {rm2 : Room} {rest : List Value} {b q0 ci N : Nat} {fs : List Value} {T : u_T} {o : Option Int32} {K : Int32 → Option R0} (As : List Value) (hC : ZIp ω w y ws rm2 (.ref b :: As) σ o) (hg : ZG y ws bytes maxL rt Cn na rm2) (hG : GoodIn Ts (wsV own idx Cn y ws)) (he : (w ω σ)[q0]? = some (b, .inr (ci, fs))) (hc : vwCl[ci]? = some (Cn, T, N)) (hr : rm2.frames + 1 ≤ rm.frames ∧ 8 + (maxL + 11) + rm2.locals ≤ rm.locals) (hn : As.length = na) (hst : st = As.reverse ++ .ref b :: rest) (hsm : (rest.map fun v => v.category).sum ≤ 8) (d : decode cc pc = .ok (.invokevirtual idx, 3)) (hp : pc + 3 = pc') (hf : o.bind K = some r0) (g : ∀ v : Int32, K v = some r0 → G ω w κ pc' lv (.int v :: rest) σ) : G ω w κ pc lv st σ := by
  obtain ⟨p, e, R, s, m, args, below, meth, c, Q, n⟩ := κ
  obtain ⟨⟨hx, hb, hml, hown, hts⟩, hK, hD, hM, hlk, hrt, hRm, hnn⟩ := C
  subst hRm; subst hnn; subst hp
  intro H locs ls hP hS hl
  obtain ⟨⟨ws9, hw⟩, hd, hrc, hrs⟩ := hg
  obtain ⟨r, h1, h2⟩ := Option.bind_eq_some_iff.mp hf
  have hM9 := hC r h1
  have hU : ∀ U : State, U.heap = H → s.WarmedH U.vm → va_Pc (.ref b :: As) (zP ω w σ) (.ref b :: As).toArray U := fun U hU hW => ⟨rfl, by rw [hU]; exact hP, va_K.moved hW.alike hK, hD, by rw [hU]; exact zM.warm hW hS.2.1 hM⟩
  refine va_calli (va_runV (As := As) (rest := rest) ⟨hx, hb, hml, hown, hts⟩ hM9 (cwV na hts hG hw hrc hrs hd hr) ⟨zP.blind, va_recv hK hP hc he, hU⟩ rfl hn hl.1 hst (lv_room hsm) d ⟨Nat.zero_le _, Nat.zero_le _⟩) hS (fun q _ h => h) (fun q h => h) (fun v τ t H1 locs1 ht hvm hw9 hB hz1 hk1 hS1 => ?_)
  obtain ⟨rfl, rfl⟩ := hw9
  have hB : va_P _ _ _ t.heap := hB
  rw [ht] at hB
  exact g v h2 H1 locs1 ls hB hS1 hl
theorem G_callVs (C : CX ω w κ cc Ts own ret nL rm) {y : MethodName} {ws : List Cond} {bytes : ByteArray} {maxL : Nat} {rt : Option FieldType} {Cn : String} {na idx : Nat} {rm2 : Room} {rest : List Value} {b q0 ci N : Nat} {fs : List Value} {T : u_T} {o : Option (Int32 × ZS)} {K : Int32 × ZS → Option R0} (As : List Value) (hC : ZIs ω w y ws rm2 (.ref b :: As) σ o) (hg : ZG y ws bytes maxL rt Cn na rm2) (hG : GoodIn Ts (wsV own idx Cn y ws)) (he : (w ω σ)[q0]? = some (b, .inr (ci, fs))) (hc : vwCl[ci]? = some (Cn, T, N)) (hr : rm2.frames + 1 ≤ rm.frames ∧ 8 + (maxL + 11) + rm2.locals ≤ rm.locals) (hn : As.length = na) (hst : st = As.reverse ++ .ref b :: rest) (hsm : (rest.map fun v => v.category).sum ≤ 8) (d : decode cc pc = .ok (.invokevirtual idx, 3)) (hp : pc + 3 = pc') (hf : o.bind K = some r0) (g : ∀ (v : Int32) (τ : ZS), K (v, τ) = some r0 → G ω w κ pc' lv (.int v :: rest) τ) : G ω w κ pc lv st σ := by
  obtain ⟨p, e, R, s, m, args, below, meth, c, Q, n⟩ := κ
  obtain ⟨⟨hx, hb, hml, hown, hts⟩, hK, hD, hM, hlk, hrt, hRm, hnn⟩ := C
  subst hRm; subst hnn; subst hp
  intro H locs ls hP hS hl
  obtain ⟨⟨ws9, hw⟩, hd, hrc, hrs⟩ := hg
  obtain ⟨r, h1, h2⟩ := Option.bind_eq_some_iff.mp hf
  have hM9 := hC r h1
  have hU : ∀ U : State, U.heap = H → s.WarmedH U.vm → va_Pc (.ref b :: As) (zP ω w σ) (.ref b :: As).toArray U := fun U hU hW => ⟨rfl, by rw [hU]; exact hP, va_K.moved hW.alike hK, hD, by rw [hU]; exact zM.warm hW hS.2.1 hM⟩
  refine va_calli (va_runV (As := As) (rest := rest) ⟨hx, hb, hml, hown, hts⟩ hM9 (cwV na hts hG hw hrc hrs hd hr) ⟨zP.blind, va_recv hK hP hc he, hU⟩ rfl hn hl.1 hst (lv_room hsm) d ⟨Nat.zero_le _, Nat.zero_le _⟩) hS (fun q _ h => h) (fun q h => h) (fun v τ t H1 locs1 ht hvm hw9 hB hz1 hk1 hS1 => ?_)
  have hB : va_P _ _ _ t.heap := hB
  rw [ht] at hB
  exact g v τ (by rw [hw9]; exact h2) H1 locs1 ls hB hS1 hl
theorem G_callVv (C : CX ω w κ cc Ts own ret nL rm) {y : MethodName} {ws : List Cond} {bytes : ByteArray} {maxL : Nat} {rt : Option FieldType} {Cn : String} {na idx : Nat} {rm2 : Room} {rest : List Value} {b q0 ci N : Nat} {fs : List Value} {T : u_T} {o : Option ZS} {K : ZS → Option R0} (As : List Value) (hC : ZVs ω w y ws rm2 (.ref b :: As) σ o) (hg : ZG y ws bytes maxL rt Cn na rm2) (hG : GoodIn Ts (wsV own idx Cn y ws)) (he : (w ω σ)[q0]? = some (b, .inr (ci, fs))) (hc : vwCl[ci]? = some (Cn, T, N)) (hr : rm2.frames + 1 ≤ rm.frames ∧ 8 + (maxL + 11) + rm2.locals ≤ rm.locals) (hn : As.length = na) (hst : st = As.reverse ++ .ref b :: rest) (hsm : (rest.map fun v => v.category).sum ≤ 8) (d : decode cc pc = .ok (.invokevirtual idx, 3)) (hp : pc + 3 = pc') (hf : o.bind K = some r0) (g : ∀ τ : ZS, K τ = some r0 → G ω w κ pc' lv rest τ) : G ω w κ pc lv st σ := by
  obtain ⟨p, e, R, s, m, args, below, meth, c, Q, n⟩ := κ
  obtain ⟨⟨hx, hb, hml, hown, hts⟩, hK, hD, hM, hlk, hrt, hRm, hnn⟩ := C
  subst hRm; subst hnn; subst hp
  intro H locs ls hP hS hl
  obtain ⟨⟨ws9, hw⟩, hd, hrc, hrs⟩ := hg
  obtain ⟨r, h1, h2⟩ := Option.bind_eq_some_iff.mp hf
  have hM9 := hC r h1
  have hU : ∀ U : State, U.heap = H → s.WarmedH U.vm → va_Pc (.ref b :: As) (zP ω w σ) (.ref b :: As).toArray U := fun U hU hW => ⟨rfl, by rw [hU]; exact hP, va_K.moved hW.alike hK, hD, by rw [hU]; exact zM.warm hW hS.2.1 hM⟩
  refine va_callv (va_runV (As := As) (rest := rest) ⟨hx, hb, hml, hown, hts⟩ hM9 (cwV na hts hG hw hrc hrs hd hr) ⟨zP.blind, va_recv hK hP hc he, hU⟩ rfl hn hl.1 hst (lv_room hsm) d ⟨Nat.zero_le _, Nat.zero_le _⟩) hS (fun q _ h => h) (fun q h => h) (fun τ t H1 locs1 ht hvm hw9 hB hz1 hk1 hS1 => ?_)
  have hB : va_P _ _ _ t.heap := hB
  rw [ht] at hB
  exact g τ (by rw [hw9]; exact h2) H1 locs1 ls hB hS1 hl
theorem G_callSp (C : CX ω w κ cc Ts own ret nL rm) {y : MethodName} {ws : List Cond} {bytes : ByteArray} {maxL : Nat} {rt : Option FieldType} {Cn : String} {na idx : Nat} {rm2 : Room} {rest : List Value} {o : Option Int32} {K : Int32 → Option R0} (As : List Value) (hC : ZIp ω w y ws rm2 As σ o) (hg : ZG y ws bytes maxL rt Cn na rm2) (hG : GoodIn Ts (va_wsS own idx y ws)) (hr : rm2.frames + 1 ≤ rm.frames ∧ 8 + (maxL + 11) + rm2.locals ≤ rm.locals) (hn : As.length = na) (hst : st = As.reverse ++ rest) (hsm : (rest.map fun v => v.category).sum ≤ 8) (d : decode cc pc = .ok (.invokestatic idx, 3)) (hp : pc + 3 = pc') (hf : o.bind K = some r0) (g : ∀ v : Int32, K v = some r0 → G ω w κ pc' lv (.int v :: rest) σ) : G ω w κ pc lv st σ := by
  obtain ⟨p, e, R, s, m, args, below, meth, c, Q, n⟩ := κ
  obtain ⟨⟨hx, hb, hml, hown, hts⟩, hK, hD, hM, hlk, hrt, hRm, hnn⟩ := C
  subst hRm; subst hnn; subst hp
  intro H locs ls hP hS hl
  obtain ⟨⟨ws9, hw⟩, ⟨-, hd⟩, hrc, hrs⟩ := hg
  obtain ⟨r, h1, h2⟩ := Option.bind_eq_some_iff.mp hf
  have hM9 := hC r h1
  have hU : ∀ U : State, U.heap = H → s.WarmedH U.vm → va_Pc As (zP ω w σ) As.toArray U := fun U hU hW => ⟨rfl, by rw [hU]; exact hP, va_K.moved hW.alike hK, hD, by rw [hU]; exact zM.warm hW hS.2.1 hM⟩
  refine va_calli (va_runS (As := As) (rest := rest) ⟨hx, hb, hml, hown, hts⟩ hM9 (va_cwS na hts hG hw hrc hrs hd hr) ⟨zP.blind, hU⟩ rfl hn hl.1 hst (lv_room hsm) d ⟨Nat.zero_le _, Nat.zero_le _⟩) hS (fun q _ h => h) (fun q h => h) (fun v τ t H1 locs1 ht hvm hw9 hB hz1 hk1 hS1 => ?_)
  obtain ⟨rfl, rfl⟩ := hw9
  have hB : va_P _ _ _ t.heap := hB
  rw [ht] at hB
  exact g v h2 H1 locs1 ls hB hS1 hl
theorem G_callSs (C : CX ω w κ cc Ts own ret nL rm) {y : MethodName} {ws : List Cond} {bytes : ByteArray} {maxL : Nat} {rt : Option FieldType} {Cn : String} {na idx : Nat} {rm2 : Room} {rest : List Value} {o : Option (Int32 × ZS)} {K : Int32 × ZS → Option R0} (As : List Value) (hC : ZIs ω w y ws rm2 As σ o) (hg : ZG y ws bytes maxL rt Cn na rm2) (hG : GoodIn Ts (va_wsS own idx y ws)) (hr : rm2.frames + 1 ≤ rm.frames ∧ 8 + (maxL + 11) + rm2.locals ≤ rm.locals) (hn : As.length = na) (hst : st = As.reverse ++ rest) (hsm : (rest.map fun v => v.category).sum ≤ 8) (d : decode cc pc = .ok (.invokestatic idx, 3)) (hp : pc + 3 = pc') (hf : o.bind K = some r0) (g : ∀ (v : Int32) (τ : ZS), K (v, τ) = some r0 → G ω w κ pc' lv (.int v :: rest) τ) : G ω w κ pc lv st σ := by
  obtain ⟨p, e, R, s, m, args, below, meth, c, Q, n⟩ := κ
  obtain ⟨⟨hx, hb, hml, hown, hts⟩, hK, hD, hM, hlk, hrt, hRm, hnn⟩ := C
  subst hRm; subst hnn; subst hp
  intro H locs ls hP hS hl
  obtain ⟨⟨ws9, hw⟩, ⟨-, hd⟩, hrc, hrs⟩ := hg
  obtain ⟨r, h1, h2⟩ := Option.bind_eq_some_iff.mp hf
  have hM9 := hC r h1
  have hU : ∀ U : State, U.heap = H → s.WarmedH U.vm → va_Pc As (zP ω w σ) As.toArray U := fun U hU hW => ⟨rfl, by rw [hU]; exact hP, va_K.moved hW.alike hK, hD, by rw [hU]; exact zM.warm hW hS.2.1 hM⟩
  refine va_calli (va_runS (As := As) (rest := rest) ⟨hx, hb, hml, hown, hts⟩ hM9 (va_cwS na hts hG hw hrc hrs hd hr) ⟨zP.blind, hU⟩ rfl hn hl.1 hst (lv_room hsm) d ⟨Nat.zero_le _, Nat.zero_le _⟩) hS (fun q _ h => h) (fun q h => h) (fun v τ t H1 locs1 ht hvm hw9 hB hz1 hk1 hS1 => ?_)
  have hB : va_P _ _ _ t.heap := hB
  rw [ht] at hB
  exact g v τ (by rw [hw9]; exact h2) H1 locs1 ls hB hS1 hl
theorem G_callSv (C : CX ω w κ cc Ts own ret nL rm) {y : MethodName} {ws : List Cond} {bytes : ByteArray} {maxL : Nat} {rt : Option FieldType} {Cn : String} {na idx : Nat} {rm2 : Room} {rest : List Value} {o : Option ZS} {K : ZS → Option R0} (As : List Value) (hC : ZVs ω w y ws rm2 As σ o) (hg : ZG y ws bytes maxL rt Cn na rm2) (hG : GoodIn Ts (va_wsS own idx y ws)) (hr : rm2.frames + 1 ≤ rm.frames ∧ 8 + (maxL + 11) + rm2.locals ≤ rm.locals) (hn : As.length = na) (hst : st = As.reverse ++ rest) (hsm : (rest.map fun v => v.category).sum ≤ 8) (d : decode cc pc = .ok (.invokestatic idx, 3)) (hp : pc + 3 = pc') (hf : o.bind K = some r0) (g : ∀ τ : ZS, K τ = some r0 → G ω w κ pc' lv rest τ) : G ω w κ pc lv st σ := by
  obtain ⟨p, e, R, s, m, args, below, meth, c, Q, n⟩ := κ
  obtain ⟨⟨hx, hb, hml, hown, hts⟩, hK, hD, hM, hlk, hrt, hRm, hnn⟩ := C
  subst hRm; subst hnn; subst hp
  intro H locs ls hP hS hl
  obtain ⟨⟨ws9, hw⟩, ⟨-, hd⟩, hrc, hrs⟩ := hg
  obtain ⟨r, h1, h2⟩ := Option.bind_eq_some_iff.mp hf
  have hM9 := hC r h1
  have hU : ∀ U : State, U.heap = H → s.WarmedH U.vm → va_Pc As (zP ω w σ) As.toArray U := fun U hU hW => ⟨rfl, by rw [hU]; exact hP, va_K.moved hW.alike hK, hD, by rw [hU]; exact zM.warm hW hS.2.1 hM⟩
  refine va_callv (va_runS (As := As) (rest := rest) ⟨hx, hb, hml, hown, hts⟩ hM9 (va_cwS na hts hG hw hrc hrs hd hr) ⟨zP.blind, hU⟩ rfl hn hl.1 hst (lv_room hsm) d ⟨Nat.zero_le _, Nat.zero_le _⟩) hS (fun q _ h => h) (fun q h => h) (fun τ t H1 locs1 ht hvm hw9 hB hz1 hk1 hS1 => ?_)
  have hB : va_P _ _ _ t.heap := hB
  rw [ht] at hB
  exact g τ (by rw [hw9]; exact h2) H1 locs1 ls hB hS1 hl
theorem G_callNp (C : CX ω w κ cc Ts own ret nL rm) {y : MethodName} {ws : List Cond} {bytes : ByteArray} {maxL : Nat} {rt : Option FieldType} {Cn : String} {na idx : Nat} {rm2 : Room} {rest : List Value} {o : Option Int32} {K : Int32 → Option R0} (As : List Value) (hC : ZIp ω w y ws rm2 As σ o) (hg : ZG y ws bytes maxL rt Cn na rm2) (hG : GoodIn Ts ws) (hnw : Cond.methodLinkNest own idx y Cn ∈ zNws) (hsw : Cond.static y ∈ Ts) (hiw : Cond.initialized y.cls ∈ Ts) (hr : rm2.frames + 1 ≤ rm.frames ∧ 8 + (maxL + 11) + rm2.locals ≤ rm.locals) (hn : As.length = na) (hst : st = As.reverse ++ rest) (hsm : (rest.map fun v => v.category).sum ≤ 8) (d : decode cc pc = .ok (.invokestatic idx, 3)) (hp : pc + 3 = pc') (hf : o.bind K = some r0) (g : ∀ v : Int32, K v = some r0 → G ω w κ pc' lv (.int v :: rest) σ) : G ω w κ pc lv st σ := by
  obtain ⟨p, e, R, s, m, args, below, meth, c, Q, n⟩ := κ
  obtain ⟨⟨hx, hb, hml, hown, hts⟩, hK, hD, hM, hlk, hrt, hRm, hnn⟩ := C
  subst hRm; subst hnn; subst hp
  intro H locs ls hP hS hl
  obtain ⟨⟨ws9, hw⟩, ⟨-, hd⟩, hrc, hrs⟩ := hg
  obtain ⟨r, h1, h2⟩ := Option.bind_eq_some_iff.mp hf
  have hM9 := hC r h1
  have hU : ∀ U : State, U.heap = H → s.WarmedH U.vm → va_Pc As (zP ω w σ) As.toArray U := fun U hU hW => ⟨rfl, by rw [hU]; exact hP, va_K.moved hW.alike hK, hD, by rw [hU]; exact zM.warm hW hS.2.1 hM⟩
  refine va_calli (va_runSN (As := As) (rest := rest) ⟨hx, hb, hml, hown, hts⟩ hM9 ⟨va_cnB na hts hG hw hrc hrs (hM.1 _ hnw) (hts _ hiw) hd hr, hts _ hsw, trivial⟩ ⟨zP.blind, hU⟩ rfl hn hl.1 hst (lv_room hsm) d ⟨Nat.zero_le _, Nat.zero_le _⟩) hS (fun q _ h => h) (fun q h => h) (fun v τ t H1 locs1 ht hvm hw9 hB hz1 hk1 hS1 => ?_)
  obtain ⟨rfl, rfl⟩ := hw9
  have hB : va_P _ _ _ t.heap := hB
  rw [ht] at hB
  exact g v h2 H1 locs1 ls hB hS1 hl
theorem G_callNs (C : CX ω w κ cc Ts own ret nL rm) {y : MethodName} {ws : List Cond} {bytes : ByteArray} {maxL : Nat} {rt : Option FieldType} {Cn : String} {na idx : Nat} {rm2 : Room} {rest : List Value} {o : Option (Int32 × ZS)} {K : Int32 × ZS → Option R0} (As : List Value) (hC : ZIs ω w y ws rm2 As σ o) (hg : ZG y ws bytes maxL rt Cn na rm2) (hG : GoodIn Ts ws) (hnw : Cond.methodLinkNest own idx y Cn ∈ zNws) (hsw : Cond.static y ∈ Ts) (hiw : Cond.initialized y.cls ∈ Ts) (hr : rm2.frames + 1 ≤ rm.frames ∧ 8 + (maxL + 11) + rm2.locals ≤ rm.locals) (hn : As.length = na) (hst : st = As.reverse ++ rest) (hsm : (rest.map fun v => v.category).sum ≤ 8) (d : decode cc pc = .ok (.invokestatic idx, 3)) (hp : pc + 3 = pc') (hf : o.bind K = some r0) (g : ∀ (v : Int32) (τ : ZS), K (v, τ) = some r0 → G ω w κ pc' lv (.int v :: rest) τ) : G ω w κ pc lv st σ := by
  obtain ⟨p, e, R, s, m, args, below, meth, c, Q, n⟩ := κ
  obtain ⟨⟨hx, hb, hml, hown, hts⟩, hK, hD, hM, hlk, hrt, hRm, hnn⟩ := C
  subst hRm; subst hnn; subst hp
  intro H locs ls hP hS hl
  obtain ⟨⟨ws9, hw⟩, ⟨-, hd⟩, hrc, hrs⟩ := hg
  obtain ⟨r, h1, h2⟩ := Option.bind_eq_some_iff.mp hf
  have hM9 := hC r h1
  have hU : ∀ U : State, U.heap = H → s.WarmedH U.vm → va_Pc As (zP ω w σ) As.toArray U := fun U hU hW => ⟨rfl, by rw [hU]; exact hP, va_K.moved hW.alike hK, hD, by rw [hU]; exact zM.warm hW hS.2.1 hM⟩
  refine va_calli (va_runSN (As := As) (rest := rest) ⟨hx, hb, hml, hown, hts⟩ hM9 ⟨va_cnB na hts hG hw hrc hrs (hM.1 _ hnw) (hts _ hiw) hd hr, hts _ hsw, trivial⟩ ⟨zP.blind, hU⟩ rfl hn hl.1 hst (lv_room hsm) d ⟨Nat.zero_le _, Nat.zero_le _⟩) hS (fun q _ h => h) (fun q h => h) (fun v τ t H1 locs1 ht hvm hw9 hB hz1 hk1 hS1 => ?_)
  have hB : va_P _ _ _ t.heap := hB
  rw [ht] at hB
  exact g v τ (by rw [hw9]; exact h2) H1 locs1 ls hB hS1 hl
theorem G_callNv (C : CX ω w κ cc Ts own ret nL rm) {y : MethodName} {ws : List Cond} {bytes : ByteArray} {maxL : Nat} {rt : Option FieldType} {Cn : String} {na idx : Nat} {rm2 : Room} {rest : List Value} {o : Option ZS} {K : ZS → Option R0} (As : List Value) (hC : ZVs ω w y ws rm2 As σ o) (hg : ZG y ws bytes maxL rt Cn na rm2) (hG : GoodIn Ts ws) (hnw : Cond.methodLinkNest own idx y Cn ∈ zNws) (hsw : Cond.static y ∈ Ts) (hiw : Cond.initialized y.cls ∈ Ts) (hr : rm2.frames + 1 ≤ rm.frames ∧ 8 + (maxL + 11) + rm2.locals ≤ rm.locals) (hn : As.length = na) (hst : st = As.reverse ++ rest) (hsm : (rest.map fun v => v.category).sum ≤ 8) (d : decode cc pc = .ok (.invokestatic idx, 3)) (hp : pc + 3 = pc') (hf : o.bind K = some r0) (g : ∀ τ : ZS, K τ = some r0 → G ω w κ pc' lv rest τ) : G ω w κ pc lv st σ := by
  obtain ⟨p, e, R, s, m, args, below, meth, c, Q, n⟩ := κ
  obtain ⟨⟨hx, hb, hml, hown, hts⟩, hK, hD, hM, hlk, hrt, hRm, hnn⟩ := C
  subst hRm; subst hnn; subst hp
  intro H locs ls hP hS hl
  obtain ⟨⟨ws9, hw⟩, ⟨-, hd⟩, hrc, hrs⟩ := hg
  obtain ⟨r, h1, h2⟩ := Option.bind_eq_some_iff.mp hf
  have hM9 := hC r h1
  have hU : ∀ U : State, U.heap = H → s.WarmedH U.vm → va_Pc As (zP ω w σ) As.toArray U := fun U hU hW => ⟨rfl, by rw [hU]; exact hP, va_K.moved hW.alike hK, hD, by rw [hU]; exact zM.warm hW hS.2.1 hM⟩
  refine va_callv (va_runSN (As := As) (rest := rest) ⟨hx, hb, hml, hown, hts⟩ hM9 ⟨va_cnB na hts hG hw hrc hrs (hM.1 _ hnw) (hts _ hiw) hd hr, hts _ hsw, trivial⟩ ⟨zP.blind, hU⟩ rfl hn hl.1 hst (lv_room hsm) d ⟨Nat.zero_le _, Nat.zero_le _⟩) hS (fun q _ h => h) (fun q h => h) (fun τ t H1 locs1 ht hvm hw9 hB hz1 hk1 hS1 => ?_)
  have hB : va_P _ _ _ t.heap := hB
  rw [ht] at hB
  exact g τ (by rw [hw9]; exact h2) H1 locs1 ls hB hS1 hl
end GRows
