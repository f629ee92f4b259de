/-! ===== the law: rows, and calls into one of its two objects ===== -/
def zwd (ω : ZO) (a : Nat → Nat) (n : Nat) : ZO := (zL ω, zD ω, zI ω, zB ω, zZ ω, (fun q => ∃ k, k < n ∧ q = a k), zS ω, a)
def zX (κ : ZK) (A : Nat → Prop) (b L : Nat) (xs : Nat → Int32) : Prop := match κ with
  | (_, _, _, s, _, _, _, _, _, _, _) => va_X b L xs s s.heap ∧ b < s.heap.size ∧ ¬ A b
section LRows
variable {ω : ZO} {κ : ZK} {A : Nat → Prop} {cc : ByteArray} {Ts : List Cond} {own : String} {nL : Nat} {rm : Room} {pc pc' : Nat} {lv lv' : List (Nat × Value)} {st : List Value} {ws : va_W} {kc ks : Nat}
theorem N_iadd (C : CN ω κ A cc Ts own nL rm) {x y : Int32} (d : decode cc pc = .ok (.iadd, 1)) (hp : pc + 1 = pc') (g : GN ω κ A pc' lv (.int (x + y) :: st) ws kc ks) : GN ω κ A pc lv (.int y :: .int x :: st) ws kc ks := by
  obtain ⟨p, e, R, s, m, args, below, meth, c, Q, n⟩ := κ
  obtain ⟨⟨hx, hb, hml, hown, hts⟩, hK, hA, hM, hlk, hRm, hnn⟩ := C
  subst hRm; subst hnn; subst hp
  intro H locs ls hP hD hS hl
  exact lv_iadd hx hb d (g H locs ls hP hD hS hl)
theorem N_isub (C : CN ω κ A cc Ts own nL rm) {x y : Int32} (d : decode cc pc = .ok (.isub, 1)) (hp : pc + 1 = pc') (g : GN ω κ A pc' lv (.int (x - y) :: st) ws kc ks) : GN ω κ A pc lv (.int y :: .int x :: st) ws kc ks := by
  obtain ⟨p, e, R, s, m, args, below, meth, c, Q, n⟩ := κ
  obtain ⟨⟨hx, hb, hml, hown, hts⟩, hK, hA, hM, hlk, hRm, hnn⟩ := C
  subst hRm; subst hnn; subst hp
  intro H locs ls hP hD hS hl
  exact lv_isub hx hb d (g H locs ls hP hD hS hl)
theorem N_iand (C : CN ω κ A cc Ts own nL rm) {x y : Int32} (d : decode cc pc = .ok (.iand, 1)) (hp : pc + 1 = pc') (g : GN ω κ A pc' lv (.int (x &&& y) :: st) ws kc ks) : GN ω κ A pc lv (.int y :: .int x :: st) ws kc ks := by
  obtain ⟨p, e, R, s, m, args, below, meth, c, Q, n⟩ := κ
  obtain ⟨⟨hx, hb, hml, hown, hts⟩, hK, hA, hM, hlk, hRm, hnn⟩ := C
  subst hRm; subst hnn; subst hp
  intro H locs ls hP hD hS hl
  exact lv_iand hx hb d (g H locs ls hP hD hS hl)
theorem N_astore_n (C : CN ω κ A cc Ts own nL rm) {k : Fin 4} {x : Nat} (d : decode cc pc = .ok (.astore_n k, 1)) (hk : (k : Nat) < nL) (qs : List Nat) (h : lv_pick (((k : Nat), .ref x) :: lv.filter (fun q => !(q.1 == (k : Nat)) && !(q.1 + 1 == (k : Nat) && q.2.category == 2))) qs = lv') (hp : pc + 1 = pc') (g : GN ω κ A pc' lv' st ws kc ks) : GN ω κ A pc lv (.ref x :: st) ws kc ks := by
  obtain ⟨p, e, R, s, m, args, below, meth, c, Q, n⟩ := κ
  obtain ⟨⟨hx, hb, hml, hown, hts⟩, hK, hA, hM, hlk, hRm, hnn⟩ := C
  subst hRm; subst hnn; subst hp
  intro H locs ls hP hD hS hl
  exact lv_astore_n hx hb d rfl hl hk rfl (fun ls2 hl2 => g H locs ls2 hP hD hS (lv_sub hl2 qs h))
theorem N_gt (C : CN ω κ A cc Ts own nL rm) {x y : Int32} {off : Int} {tgt : Nat} (d : decode cc pc = .ok (.if_icmp .gt off, 3)) (ht : (pc : Int) + off = (tgt : Int)) (hp : pc + 3 = pc') (g1 : y < x → GN ω κ A tgt lv st ws kc ks) (g2 : ¬ y < x → GN ω κ A pc' lv st ws kc ks) : GN ω κ A pc lv (.int y :: .int x :: st) ws kc ks := by
  obtain ⟨p, e, R, s, m, args, below, meth, c, Q, n⟩ := κ
  obtain ⟨⟨hx, hb, hml, hown, hts⟩, hK, hA, hM, hlk, hRm, hnn⟩ := C
  subst hRm; subst hnn; subst hp
  intro H locs ls hP hD hS hl
  exact lv_icmp_gt hx hb d ht (fun h => g1 h H locs ls hP hD hS hl) (fun h => g2 h H locs ls hP hD hS hl)
theorem N_eq_t (C : CN ω κ A cc Ts own nL rm) {x y : Int32} {off : Int} {tgt : Nat} (d : decode cc pc = .ok (.if_icmp .eq off, 3)) (ht : (pc : Int) + off = (tgt : Int)) (h0 : x = y) (g : GN ω κ A tgt lv st ws kc ks) : GN ω κ A pc lv (.int y :: .int x :: st) ws kc ks := by
  obtain ⟨p, e, R, s, m, args, below, meth, c, Q, n⟩ := κ
  obtain ⟨⟨hx, hb, hml, hown, hts⟩, hK, hA, hM, hlk, hRm, hnn⟩ := C
  subst hRm; subst hnn
  intro H locs ls hP hD hS hl
  exact lv_icmp_eq hx hb d ht (fun _ => g H locs ls hP hD hS hl) (fun h => absurd h0 h)
theorem N_tIn (C : CN ω κ A cc Ts own nL rm) {dflt lo hi : Int} {offs : Array Int} {len : Nat} {x k : Int32} {off : Int} {tgt : Nat} (h : x = k) (d : decode cc pc = .ok (.tableswitch dflt lo hi offs, len)) (h1 : ¬ k.toInt < lo) (h2 : ¬ hi < k.toInt) (ho : offs[(k.toInt - lo).toNat]? = some off) (ht : (pc : Int) + off = (tgt : Int)) (g : GN ω κ A tgt lv st ws kc ks) : GN ω κ A pc lv (.int x :: st) ws kc ks := by
  subst h
  obtain ⟨p, e, R, s, m, args, below, meth, c, Q, n⟩ := κ
  obtain ⟨⟨hx, hb, hml, hown, hts⟩, hK, hA, hM, hlk, hRm, hnn⟩ := C
  subst hRm; subst hnn
  intro H locs ls hP hD hS hl
  exact lv_tableIn hx hb d h1 h2 ho ht (g H locs ls hP hD hS hl)
theorem N_tOut (C : CN ω κ A cc Ts own nL rm) {dflt lo hi : Int} {offs : Array Int} {len : Nat} {x : Int32} {tgt : Nat} (d : decode cc pc = .ok (.tableswitch dflt lo hi offs, len)) (h : x.toInt < lo ∨ hi < x.toInt) (ht : (pc : Int) + dflt = (tgt : Int)) (g : GN ω κ A tgt lv st ws kc ks) : GN ω κ A pc lv (.int x :: st) ws kc ks := by
  obtain ⟨p, e, R, s, m, args, below, meth, c, Q, n⟩ := κ
  obtain ⟨⟨hx, hb, hml, hown, hts⟩, hK, hA, hM, hlk, hRm, hnn⟩ := C
  subst hRm; subst hnn
  intro H locs ls hP hD hS hl
  exact lv_tableOut hx hb d h ht (g H locs ls hP hD hS hl)
theorem N_slen (C : CN ω κ A cc Ts own nL rm) {b L : Nat} {xs : Nat → Int32} (hX : zX κ A b L xs) (d : decode cc pc = .ok (.arraylength, 1)) (hp : pc + 1 = pc') (g : GN ω κ A pc' lv (.int (nI L) :: st) ws kc ks) : GN ω κ A pc lv (.ref b :: st) ws kc ks := by
  obtain ⟨p, e, R, s, m, args, below, meth, c, Q, n⟩ := κ
  obtain ⟨⟨hx, hb, hml, hown, hts⟩, hK, hA, hM, hlk, hRm, hnn⟩ := C
  subst hRm; subst hnn; subst hp
  obtain ⟨h1, h2, h3⟩ := hX
  intro H locs ls hP hD hS hl
  exact va_slen hx hb h1 h2 h3 hS d (g H locs ls hP hD hS hl)
theorem N_sald (C : CN ω κ A cc Ts own nL rm) {b L : Nat} {xs : Nat → Int32} (hX : zX κ A b L xs) {i : Int32} (hi : vp_in i L) (d : decode cc pc = .ok (.iaload, 1)) (hp : pc + 1 = pc') (g : GN ω κ A pc' lv (.int (xs i.toNatClampNeg) :: st) ws kc ks) : GN ω κ A pc lv (.int i :: .ref b :: st) ws kc ks := by
  obtain ⟨p, e, R, s, m, args, below, meth, c, Q, n⟩ := κ
  obtain ⟨⟨hx, hb, hml, hown, hts⟩, hK, hA, hM, hlk, hRm, hnn⟩ := C
  subst hRm; subst hnn; subst hp
  obtain ⟨h1, h2, h3⟩ := hX
  intro H locs ls hP hD hS hl
  exact va_sld hx hb h1 h2 h3 hS hi d (g H locs ls hP hD hS hl)
theorem va_P_l {D : va_G} {cl : List vw_C} {a b : va_W} {H : Heap} (h : va_P D cl (a ++ b) H) : va_P D cl a H := fun k q hk => h k q (by rw [List.getElem?_append_left (List.getElem?_eq_some_iff.mp hk).1]; exact hk)
theorem va_P_r {D : va_G} {cl : List vw_C} {a b : va_W} {H : Heap} (h : va_P D cl (a ++ b) H) : va_P D cl b H := fun k q hk => h (a.length + k) q (by rw [List.getElem?_append_right (by omega), show a.length + k - a.length = k by omega]; exact hk)
theorem va_D_adr {B : Nat → Prop} {w1 w2 : va_W} (h : va_D B w1) (e : w2.map (·.1) = w1.map (·.1)) : va_D B w2 := by
  have key : ∀ (i : Nat) (p : Nat × va_E), w2[i]? = some p → ∃ q, w1[i]? = some q ∧ q.1 = p.1 := by
    intro i p hp
    have h1 : (w2.map (·.1))[i]? = some p.1 := by rw [List.getElem?_map, hp]; rfl
    rw [e, List.getElem?_map] at h1
    cases h2 : w1[i]? with
    | none => rw [h2] at h1; cases h1
    | some q =>
      rw [h2] at h1
      exact ⟨q, rfl, Option.some.inj h1⟩
  refine ⟨fun i j p q hi hj hpq => ?_, fun k q hk => ?_⟩
  · obtain ⟨p', hp', e1⟩ := key i p hi
    obtain ⟨q', hq', e2⟩ := key j q hj
    exact h.1 i j p' q' hp' hq' (by rw [e1, e2, hpq])
  · obtain ⟨q', hq', e1⟩ := key k q hk
    rw [← e1]; exact h.2 k q' hq'
theorem va_D_mid {B : Nat → Prop} {a b c : va_W} (h : va_D B (a ++ (b ++ c))) : va_D B b ∧ (∀ (i j : Nat) (p q : Nat × va_E), a[i]? = some p → b[j]? = some q → p.1 ≠ q.1) ∧ (∀ (i j : Nat) (p q : Nat × va_E), c[i]? = some p → b[j]? = some q → p.1 ≠ q.1) := by
  have ib : ∀ (j : Nat) (q : Nat × va_E), b[j]? = some q → (a ++ (b ++ c))[a.length + j]? = some q := fun j q hj => by
    rw [List.getElem?_append_right (by omega), show a.length + j - a.length = j by omega, List.getElem?_append_left (List.getElem?_eq_some_iff.mp hj).1]; exact hj
  have ia : ∀ (j : Nat) (q : Nat × va_E), a[j]? = some q → (a ++ (b ++ c))[j]? = some q := fun j q hj => by
    rw [List.getElem?_append_left (List.getElem?_eq_some_iff.mp hj).1]; exact hj
  have ic : ∀ (j : Nat) (q : Nat × va_E), c[j]? = some q → (a ++ (b ++ c))[a.length + (b.length + j)]? = some q := fun j q hj => by
    rw [List.getElem?_append_right (by omega), show a.length + (b.length + j) - a.length = b.length + j by omega, List.getElem?_append_right (by omega), show b.length + j - b.length = j by omega]; exact hj
  refine ⟨⟨fun i j p q hi hj e => ?_, fun k q hk => h.2 _ _ (ib k q hk)⟩, fun i j p q hi hj e => ?_, fun i j p q hi hj e => ?_⟩
  · have := h.1 _ _ _ _ (ib i p hi) (ib j q hj) e
    omega
  · have := h.1 _ _ _ _ (ia i p hi) (ib j q hj) e
    have := (List.getElem?_eq_some_iff.mp hi).1
    omega
  · have := h.1 _ _ _ _ (ic i p hi) (ib j q hj) e
    have := (List.getElem?_eq_some_iff.mp hj).1
    omega
theorem L_call (C : CN ω κ A cc Ts own nL rm) {w : ZW} {ad : Nat → Nat} {nw : Nat} {σ σ' : ZS} (wl wr : va_W) {y : MethodName} {wy : List Cond} {bytes : ByteArray} {maxL : Nat} {rt : Option FieldType} {Cn : String} {na idx : Nat} {rm2 : Room} {rest : List Value} {b q0 ci N : Nat} {fs : List Value} {T : u_T} {P : Int32 → ZS → Prop} {v : Int32} (As : List Value) (hadr : ∀ τ : ZS, (w (zwd ω ad nw) τ).map (·.1) = (List.range nw).map ad) (hC : ZI (zwd ω ad nw) w y wy rm2 (.ref b :: As) σ P) (hPv : ∀ v' τ', P v' τ' → v' = v ∧ τ' = σ') (hg : ZG y wy bytes maxL rt Cn na rm2) (hG : GoodIn Ts (wsV own idx Cn y wy)) (he : (w (zwd ω ad nw) σ)[q0]? = some (b, .inr (ci, fs))) (hc : vwCl[ci]? = some (Cn, T, N)) (hr : rm2.frames + 1 ≤ rm.frames ∧ 8 + (maxL + 11) + rm2.locals ≤ rm.locals) (hn : As.length = na) (hst : st = As.reverse ++ .ref b :: rest) (hsm : (rest.map fun v => v.category).sum ≤ 8) (hce : kc ≤ rm.cells ∧ ks ≤ rm.slots) (d : decode cc pc = .ok (.invokevirtual idx, 3)) (hp : pc + 3 = pc') (g : GN ω κ A pc' lv (.int v :: rest) (wl ++ (w (zwd ω ad nw) σ' ++ wr)) kc ks) : GN ω κ A pc lv st (wl ++ (w (zwd ω ad nw) σ ++ wr)) kc ks := by
  obtain ⟨p, e, R, s, m, args, below, meth, c, Q, n⟩ := κ
  obtain ⟨⟨hx, hb, hml, hown, hts⟩, hK, hA, hM, hlk, hRm, hnn⟩ := C
  subst hRm; subst hnn; subst hp
  obtain ⟨⟨ws9, hw⟩, hd, hrc, hrs⟩ := hg
  intro H locs ls hP hD hS hl
  obtain ⟨hDb, hDa, hDc⟩ := va_D_mid hD
  have hPc : va_P (zD ω) vwCl (w (zwd ω ad nw) σ) H := va_P_l (va_P_r hP)
  have inA : ∀ (τ : ZS) (k : Nat) (q : Nat × va_E), (w (zwd ω ad nw) τ)[k]? = some q → ∃ j, j < nw ∧ q.1 = ad j := by
    intro τ k q hk
    have h1 : ((w (zwd ω ad nw) τ).map (·.1))[k]? = some q.1 := by rw [List.getElem?_map, hk]; rfl
    rw [hadr, List.getElem?_map] at h1
    cases h2 : (List.range nw)[k]? with
    | none => rw [h2] at h1; cases h1
    | some j =>
      rw [h2] at h1
      refine ⟨j, ?_, (Option.some.inj h1).symm⟩
      exact List.mem_range.mp (List.mem_of_getElem? h2)
  have outA : ∀ j, j < nw → ∃ (k : Nat) (q : Nat × va_E), (w (zwd ω ad nw) σ)[k]? = some q ∧ q.1 = ad j := by
    intro j hj
    have h1 : ((w (zwd ω ad nw) σ).map (·.1))[j]? = some (ad j) := by
      rw [hadr, List.getElem?_map, List.getElem?_range hj]; rfl
    rw [List.getElem?_map] at h1
    cases h2 : (w (zwd ω ad nw) σ)[j]? with
    | none => rw [h2] at h1; cases h1
    | some q =>
      rw [h2] at h1
      exact ⟨j, q, h2, Option.some.inj h1⟩
  have hDall : ∀ τ : ZS, va_D (zA (zwd ω ad nw)) (w (zwd ω ad nw) τ) := by
    intro τ
    refine ⟨(va_D_adr hDb ((hadr τ).trans (hadr σ).symm)).1, fun k q hk => ?_⟩
    exact inA τ k q hk
  have hFc : ∀ q, zA (zwd ω ad nw) q → A q := by
    rintro q ⟨j, hj, rfl⟩
    obtain ⟨k, x, h1, h2⟩ := outA j hj
    rw [← h2]; exact hDb.2 k x h1
  have hU : ∀ U : State, U.heap = H → s.WarmedH U.vm → va_Pc (.ref b :: As) (zP (zwd ω ad nw) w σ) (.ref b :: As).toArray U := fun U hU hW => ⟨rfl, by rw [hU]; exact hPc, va_K.moved hW.alike hK, hDall, zM.sub hM hW hS.2.1 hU hFc⟩
  refine va_calli (va_runV (As := As) (rest := rest) ⟨hx, hb, hml, hown, hts⟩ hC (cwV na hts hG hw hrc hrs hd hr) ⟨zP.blind, va_recv hK hPc hc he, hU⟩ rfl hn hl.1 hst (lv_room hsm) d hce) hS (fun q _ h => hFc q h) hFc (fun r u t H1 locs1 ht hvm hw9 hB hz1 hk1 hS1 => ?_)
  obtain ⟨rfl, rfl⟩ := hPv r u hw9
  have hB : va_P (zD ω) vwCl (w (zwd ω ad nw) u) t.heap := hB
  rw [ht] at hB
  have kl : va_P (zD ω) vwCl wl H1 := (va_P_l hP).kept (fun k q hk => hk1 q.1 ((va_P_l hP) k q hk).lt (fun hq => by
    obtain ⟨j, hj, e⟩ := hq
    obtain ⟨k', x, h1, h2⟩ := outA j hj
    exact hDa k k' q x hk h1 (by rw [h2]; exact e)))
  have kr : va_P (zD ω) vwCl wr H1 := (va_P_r (va_P_r hP)).kept (fun k q hk => hk1 q.1 ((va_P_r (va_P_r hP)) k q hk).lt (fun hq => by
    obtain ⟨j, hj, e⟩ := hq
    obtain ⟨k', x, h1, h2⟩ := outA j hj
    exact hDc k k' q x hk h1 (by rw [h2]; exact e)))
  refine g H1 locs1 ls (va_P.app kl (va_P.app hB kr)) (va_D_adr hD ?_) hS1 hl
  rw [List.map_append, List.map_append, List.map_append, List.map_append, hadr u, hadr σ]
end LRows
