/-! methods that may throw: they return, or they throw, the pool is told in both cases -/
abbrev XO : Type := (Option Value × pS) ⊕ (String × pS)
def QxC (D : va_G) (cy : Nat → ClassId) (G : pG) (x : XO) (A : Nat → Prop) : Array Value → State → Outcome → State → Prop := match x with
  | .inl q => Qcc D cy G q.1 q.2 A
  | .inr _ => fun _ _ _ _ => False
def XxC (D : va_G) (cy : Nat → ClassId) (G : pG) (x : XO) (A : Nat → Prop) : String → State → State → Prop := match x with
  | .inl _ => fun _ _ _ => False
  | .inr q => fun E st t => E = q.1 ∧ va_P D vwCl (pool cy G q.2) t.heap ∧ va_K D vwCl (tyC cy) t ∧ va_D A (pool cy G q.2) ∧ va_F A st t
def Zx (G : pG) (x : XO) (mc ms : Nat) : ZZ := fun below args s A D cy => vx_MQ below (QxC D cy G x A) (XxC D cy G x A) args s mc ms A
def Dx (Y : MI) (y : MethodName) (d mc ms : Nat) (G : pG) (SK : Nat → Nat) (av : List Value) (σ : pS) (x : XO) : Prop :=
  ∀ (l : Launch) (_ : l.stackTraces = false) (D : va_G) (cy : Nat → ClassId) (SV : Nat → Nat) (sz : Nat), vx_Met l y (Cond.code y Y.2.1 Y.2.2.1 Y.2.2.2.1 :: Gw) (rmD d mc ms) (Pcc D cy G σ SK SV sz av) (QxC D cy G x (va_A (pool cy G σ) sz)) (XxC D cy G x (va_A (pool cy G σ) sz)) mc ms (va_A (pool cy G σ) sz)
theorem dx_of {Y : MI} {y : MethodName} {d mc ms : Nat} {G : pG} {SK : Nat → Nat} {av : List Value} {σ : pS} {x : XO} {lv : List (Option Value)} (hy : plainName y.cls = true) (hY : y.cls = Y.1) (hh : Y.2.2.2.2 = []) (hlen : (lg_sl av).length ≤ Y.2.2.1) (hlv : lvA lv = lv_args 0 av)
    (k : Ev Y (d, mc, ms) G (Zx G x mc ms) SK (0, 0) 0 lv [] σ) : Dx Y y d mc ms G SK av σ x := by
  intro l hst D cy SV sz
  refine vx_ofW (cc := Y.2.1) (maxL := Y.2.2.1) (ret := Y.2.2.2.1) hy rfl ?_
  intro p e s m args below meth c s₁ B hml htb hv
  obtain ⟨rfl, hsz, hP, hK, hD0, hX⟩ := hv
  have hts := atoms_spec (ws := Cond.code y Y.2.1 Y.2.2.1 Y.2.2.2.1 :: Gw) B.pre
  have hown : s.vm.findClass Y.1 = some m.cls := hY ▸ findClass_of_methodNamed B.named
  have ht : c.exceptionTable.toList = tableOf Y.2.2.2.2 := by
    rw [hh]
    exact List.eq_nil_iff_forall_not_mem.mpr (fun x hx => htb x hx)
  subst hsz
  have hD := hD0.self (sz := s.heap.size)
  have hl := lv_entry av hlen
  rw [lg_entry_eq]
  generalize (lg_sl av ++ List.replicate (Y.2.2.1 - (lg_sl av).length) Slot.unset).toArray = ls at hl ⊢
  have hl' : lvOk ls Y.2.2.1 lv := ⟨hl.1, hl.2.1, fun i v h => hl.2.2 (i, v) (by rw [← hlv]; exact lvA_mem.mpr h)⟩
  exact k p l e _ s m _ below meth c s.heap [] (va_A (pool cy G σ) s.heap.size) ls D cy SV ⟨B.exec, B.bytes, B.returns, hml, hown, fun w hw => hts w (List.mem_cons_of_mem _ hw), ⟨B.notSynchronized, hst, ht⟩, hK, ⟨Nat.le_refl _, Nat.le_refl _, Nat.le_refl _, Nat.le_refl _⟩, fun q h => Or.inr h, hX⟩ hP hD va_S.rf hl'
/-- the answers of methods that may throw -/
def xoI (r : (Int32 × pS) ⊕ (String × pS)) : XO := match r with
  | .inl q => .inl (some (.int q.1), q.2)
  | .inr e => .inr e
def xoV (r : pS ⊕ (String × pS)) : XO := match r with
  | .inl q => .inl (none, q)
  | .inr e => .inr e
/-- what a throw of E, made by the call ic of own, stands on -/
def XA (own : String) (ic : Nat) (E : String) : Prop := Bundle.fit E = true ∧ (∀ n ∈ ["java/lang/RuntimeException", "java/lang/Exception"], Bundle.fit n = true) ∧ (∀ w ∈ (vx_atS own ic E ["java/lang/RuntimeException", "java/lang/Exception"]).filter goodWord, w ∈ Gw) ∧ (∀ w ∈ (vx_atS own ic E ["java/lang/RuntimeException", "java/lang/Exception"]).filter (fun w => !goodWord w), w ∈ (cTab.map (fun q => Cond.castable q.1 q.2)) ++ (dTab.map Cond.declares)) ∧ (∀ w ∈ vx_atS own ic E ["java/lang/RuntimeException", "java/lang/Exception"], vx_ot w = true) ∧ Cond.initialized E ∈ Gw
section EvX
variable {Y : MI} {B : Nat × Nat × Nat} {G : pG} {Z : ZZ} {SK : Nat → Nat} {u : Nat × Nat} {pc pc' : Nat} {lv lv' : List (Option Value)} {st : List Value} {σ : pS} {mc ms : Nat}
theorem xa_words {own : String} {ic : Nat} {E : String} {args : Array Value} {s : State} {SV : Nat → Nat} {A : Nat → Prop} (hX : XA own ic E) (hts : ∀ w ∈ Gw, w.before args s = true) (hE : XE SK SV A s s.heap) : ∀ w ∈ vx_atS own ic E ["java/lang/RuntimeException", "java/lang/Exception"], w.before args s = true := by
  refine vx_hat (fun w hw => hts w (hX.2.2.1 w hw)) hX.2.2.2.1 (fun w hw => ?_)
  rcases List.mem_append.mp hw with h | h
  · obtain ⟨q, hq, rfl⟩ := List.mem_map.mp h
    exact va_Nw.use rfl (hE.2.2.2.2.2.2.2.1 q hq)
  · obtain ⟨q, hq, rfl⟩ := List.mem_map.mp h
    exact va_Nw.use rfl (hE.2.2.2.2.2.2.2.2.1 q hq)
theorem ev_throwS {E tx : String} {ik is ic sid p3 p4 p6 p9 p10 : Nat} (hh : Y.2.2.2.2 = []) (d0 : Dc Y pc (.new ik) 3 p3) (d3 : Dc Y p3 .dup 1 p4) (d4 : Dc Y p4 (.ldc is) 2 p6) (d6 : Dc Y p6 (.invokespecial ic) 3 p9) (d9 : Dc Y p9 .athrow 1 p10) (hk : Cond.classLink Y.1 ik E ∈ Gw) (hs : (Y.1, is, tx, sid) ∈ rTab) (hX : XA Y.1 ic E) (hB : 6 ≤ B.1) (hr : (st.map fun v => v.category).sum ≤ 8) (hu : u.1 + 1 ≤ mc ∧ u.2 + 6 ≤ ms) (hm : mc ≤ B.2.1 ∧ ms ≤ B.2.2) : Ev Y B G (Zx G (.inr (E, σ)) mc ms) SK u pc lv st σ := by
  obtain ⟨d0, rfl⟩ := d0
  obtain ⟨d3, rfl⟩ := d3
  obtain ⟨d4, rfl⟩ := d4
  obtain ⟨d6, rfl⟩ := d6
  obtain ⟨d9, -⟩ := d9
  intro p l e R s m args below meth c H locs A ls D cy SV C hP hD hS hl
  obtain ⟨r1, r2, r3, r4⟩ := C.2.2.2.2.2.2.2.2.1
  have hts := C.2.2.2.2.2.1
  have hE := C.2.2.2.2.2.2.2.2.2.2
  have hlk := C.2.2.2.2.2.2.1
  refine vx_throwS (cls := E) (text := tx) (names := ["java/lang/RuntimeException", "java/lang/Exception"]) (ik := ik) (is := is) (ic := ic) (A := A) C.1 C.2.1 hlk.2.1 C.2.2.2.2.1 hX.1 hX.2.1 (hts _ hk) (hts _ hX.2.2.2.2.2) (hE.2.1 _ hs) (xa_words hX hts hE) ?_ hE.2.2.1 hE.2.2.2.1 hS (by rw [hl.1, C.2.2.2.1]) d0 d3 d4 d6 d9 ?_ ?_ ?_ (by omega) (by omega) hlk.1 ?_ hS.2.2 (by omega) (by omega)
  · intro w hw
    rcases List.mem_cons.mp hw with rfl | hw
    · rfl
    · rcases List.mem_cons.mp hw with rfl | hw
      · rfl
      · exact hX.2.2.2.2.1 w hw
  · intro x hx
    rw [hlk.2.2, hh] at hx
    cases hx
  · show 2 + 3 < R.frames
    omega
  · show _ + (13 * (2 + 1) + 43) ≤ R.locals
    omega
  · intro t hal hz hq
    exact ⟨rfl, fun k q hk => (hP k q hk).kept (hq q.1 (hP k q hk).lt), va_K.moved hal C.2.2.2.2.2.2.2.1, hD, Nat.le_trans hS.1 hz, fun q h1 h2 => by rw [hq q (Nat.lt_of_lt_of_le h1 hS.1)]; exact hS.2.1 q h1 h2⟩
theorem ev_throwSW {E tx : String} {ik is ic sid p3 p4 p6 p9 p10 : Nat} (hh : Y.2.2.2.2 = []) (d0 : Dc Y pc (.new ik) 3 p3) (d3 : Dc Y p3 .dup 1 p4) (d4 : Dc Y p4 (.ldc_w is) 3 p6) (d6 : Dc Y p6 (.invokespecial ic) 3 p9) (d9 : Dc Y p9 .athrow 1 p10) (hk : Cond.classLink Y.1 ik E ∈ Gw) (hs : (Y.1, is, tx, sid) ∈ rTab) (hX : XA Y.1 ic E) (hB : 6 ≤ B.1) (hr : (st.map fun v => v.category).sum ≤ 8) (hu : u.1 + 1 ≤ mc ∧ u.2 + 6 ≤ ms) (hm : mc ≤ B.2.1 ∧ ms ≤ B.2.2) : Ev Y B G (Zx G (.inr (E, σ)) mc ms) SK u pc lv st σ := by
  obtain ⟨d0, rfl⟩ := d0
  obtain ⟨d3, rfl⟩ := d3
  obtain ⟨d4, rfl⟩ := d4
  obtain ⟨d6, rfl⟩ := d6
  obtain ⟨d9, -⟩ := d9
  intro p l e R s m args below meth c H locs A ls D cy SV C hP hD hS hl
  obtain ⟨r1, r2, r3, r4⟩ := C.2.2.2.2.2.2.2.2.1
  have hts := C.2.2.2.2.2.1
  have hE := C.2.2.2.2.2.2.2.2.2.2
  have hlk := C.2.2.2.2.2.2.1
  refine vx_throwSW (cls := E) (text := tx) (names := ["java/lang/RuntimeException", "java/lang/Exception"]) (ik := ik) (is := is) (ic := ic) (A := A) C.1 C.2.1 hlk.2.1 C.2.2.2.2.1 hX.1 hX.2.1 (hts _ hk) (hts _ hX.2.2.2.2.2) (hE.2.1 _ hs) (xa_words hX hts hE) ?_ hE.2.2.1 hE.2.2.2.1 hS (by rw [hl.1, C.2.2.2.1]) d0 d3 d4 d6 d9 ?_ ?_ ?_ (by omega) (by omega) hlk.1 ?_ hS.2.2 (by omega) (by omega)
  · intro w hw
    rcases List.mem_cons.mp hw with rfl | hw
    · rfl
    · rcases List.mem_cons.mp hw with rfl | hw
      · rfl
      · exact hX.2.2.2.2.1 w hw
  · intro x hx
    rw [hlk.2.2, hh] at hx
    cases hx
  · show 2 + 3 < R.frames
    omega
  · show _ + (13 * (2 + 1) + 43) ≤ R.locals
    omega
  · intro t hal hz hq
    exact ⟨rfl, fun k q hk => (hP k q hk).kept (hq q.1 (hP k q hk).lt), va_K.moved hal C.2.2.2.2.2.2.2.1, hD, Nat.le_trans hS.1 hz, fun q h1 h2 => by rw [hq q (Nat.lt_of_lt_of_le h1 hS.1)]; exact hS.2.1 q h1 h2⟩
theorem ev_iretX {v : Int32} {o : Option Value} {σ' : pS} (hd : Dc Y pc .ireturn 1 pc') (hY : Y.2.2.2.1 = some .int) (hu : u.1 ≤ mc ∧ u.2 ≤ ms) (ho : some (.int v) = o) (hσ : σ = σ') : Ev Y B G (Zx G (.inl (o, σ')) mc ms) SK u pc lv [.int v] σ := by
  obtain ⟨hd, rfl⟩ := hd
  subst ho hσ
  intro p l e R s m args below meth c H locs A ls D cy SV C hP hD hS hl
  have hlk := C.2.2.2.2.2.2.1.1
  refine W.widen (k := mc) (n := ms) hu.1 hu.2 (vx_ret ?_)
  exact W.iret (v := v) C.1 C.2.1 (C.2.2.1.trans hY) (fun t ht hW => ⟨rfl, by rw [ht]; exact hP, va_K.moved hW.alike C.2.2.2.2.2.2.2.1, hD, hS.F ht⟩) hS.2.2 hd
theorem ev_zretX {α : Type} {P : Option α} {r : α} {v : Int32} {o : Option Value} {σ' : pS} (hd : Dc Y pc .ireturn 1 pc') (hY : Y.2.2.2.1 = some .boolean) (h : ck (isZ v) P = some r) (hu : u.1 ≤ mc ∧ u.2 ≤ ms) (ho : some (.int v) = o) (hσ : σ = σ') : Ev Y B G (Zx G (.inl (o, σ')) mc ms) SK u pc lv [.int v] σ := by
  obtain ⟨hd, rfl⟩ := hd
  subst ho hσ
  obtain ⟨h1, -⟩ := ck_s h
  have hv : v = 0 ∨ v = 1 := by simpa [isZ] using h1
  intro p l e R s m args below meth c H locs A ls D cy SV C hP hD hS hl
  have hlk := C.2.2.2.2.2.2.1.1
  refine W.widen (k := mc) (n := ms) hu.1 hu.2 (vx_ret ?_)
  exact W.zret (v := v) C.1 C.2.1 (C.2.2.1.trans hY) (by rcases hv with rfl | rfl <;> decide) (fun t ht hW => ⟨rfl, by rw [ht]; exact hP, va_K.moved hW.alike C.2.2.2.2.2.2.2.1, hD, hS.F ht⟩) hS.2.2 hd
theorem ev_vretX {o : Option Value} {σ' : pS} (hd : Dc Y pc .return_ 1 pc') (hY : Y.2.2.2.1 = none) (hu : u.1 ≤ mc ∧ u.2 ≤ ms) (ho : none = o) (hσ : σ = σ') : Ev Y B G (Zx G (.inl (o, σ')) mc ms) SK u pc lv [] σ := by
  obtain ⟨hd, rfl⟩ := hd
  subst ho hσ
  intro p l e R s m args below meth c H locs A ls D cy SV C hP hD hS hl
  have hlk := C.2.2.2.2.2.2.1.1
  refine W.widen (k := mc) (n := ms) hu.1 hu.2 (vx_ret ?_)
  exact W.vret C.1 C.2.1 (C.2.2.1.trans hY) (fun t ht hW => ⟨rfl, by rw [ht]; exact hP, va_K.moved hW.alike C.2.2.2.2.2.2.2.1, hD, hS.F ht⟩) hS.2.2 hd
theorem ev_roomX {B : Nat × Nat × Nat} {R : Room} {d nl mc ms : Nat} (hB : d + 1 ≤ B.1) (hn : nl ≤ 45) (h : B.1 ≤ R.frames ∧ 64 * B.1 ≤ R.locals ∧ B.2.1 ≤ R.cells ∧ B.2.2 ≤ R.slots) : (rmD d mc ms).frames + 1 ≤ R.frames ∧ 8 + (nl + 11) + (rmD d mc ms).locals ≤ R.locals := by
  obtain ⟨h1, h2, -, -⟩ := h
  simp only [rmD]
  omega
/-- a call that may throw; what is thrown goes on to the caller -/
theorem ev_callX {Y' : MI} {y : MethodName} {d' mc' ms' idx n b ci : Nat} {av st0 : List Value} {x : XO} (hh : Y.2.2.2.2 = []) (hd : Dc Y pc (.invokevirtual idx) 3 pc') (hM : Dx Y' y d' mc' ms' G SK (.ref b :: av) σ x) (hl : Cond.methodLink Y.1 idx y ∈ Gw) (hy : CY Y' y n) (hb : Is G b ci) (hc : ci < 12) (hcl : (vwCl[ci]?).map (fun q => q.1) = some y.cls) (hn : av.length = n) (hst : av.reverse ++ .ref b :: st = st0) (hr : (st.map fun v => v.category).sum ≤ 8) (hB : d' + 1 ≤ B.1) (hu : u.1 + mc' ≤ B.2.1 ∧ u.2 + ms' ≤ B.2.2)
    (kx : ∀ q, x = .inr q → Z = Zx G (.inr q) mc ms ∧ u.1 + mc' ≤ mc ∧ u.2 + ms' ≤ ms) (k9 : ∀ q, x = .inl q → Ev Y B G Z SK (u.1 + mc', u.2 + ms') pc' lv (q.1.toList ++ st) q.2) : Ev Y B G Z SK u pc lv st0 σ := by
  obtain ⟨hd, rfl⟩ := hd
  obtain ⟨y1, y2, y3, y4, y5, y6⟩ := hy
  subst hst
  intro p l e R s m args below meth c H locs A ls D cy SV C hP hD hS hlv
  have hts := C.2.2.2.2.2.1
  obtain ⟨q9, hq9, hq8⟩ : ∃ q, vwCl[ci]? = some q ∧ q.1 = y.cls := by
    cases h : vwCl[ci]? with
    | none => rw [h] at hcl; cases hcl
    | some q => rw [h] at hcl; exact ⟨q, rfl, Option.some.inj hcl⟩
  obtain ⟨j, hj⟩ := pl_get (f := pE cy G σ) hb.1
  rw [pE_obj hb.2 hc] at hj
  have hrec := va_recv C.2.2.2.2.2.2.2.1 hP hq9 hj
  rw [hq8] at hrec
  have hp := pre_of (av := .ref b :: av) C hP hD hS
  have hF := pool_free hD hS C.2.2.2.2.2.2.2.2.2.1
  have hR := ev_roomX (mc := mc') (ms := ms') hB y6 C.2.2.2.2.2.2.2.2.1
  have hlk := C.2.2.2.2.2.2.1
  have hrun := vx_runV (As := av) (rest := st) (Ts := Gw) (cc := Y.2.1) (nL := Y.2.2.1) (own := Y.1) (C := y.cls) (g := F0 m pc ls (av.reverse ++ .ref b :: st)) (locs := locs) (cells := u.1) (slots := u.2) (meth := meth) (below := below) (e := e) ⟨C.1, C.2.1, C.2.2.2.1, C.2.2.2.2.1, hts⟩ (hM l hlk.2.1 D cy SV H.size)
    ⟨callB_of n hts (gw_in y4) rfl rfl rfl (hts _ y3) (hts _ hl) y5 hR, hts _ y1, hts _ y2⟩ ⟨hp.1, hrec, hp.2⟩ rfl hn hlv.1 rfl (lv_room hr) hd ⟨Nat.le_trans hu.1 C.2.2.2.2.2.2.2.2.1.2.2.1, Nat.le_trans hu.2 C.2.2.2.2.2.2.2.2.1.2.2.2⟩
  intro T hT X
  rcases hrun T hT X with ⟨v, st₀, t, T', L, h0, X', hL, e1, e2, hq, stp⟩ | ⟨q, st₀, t, T', L, E, ce, h0, X', hL, e1, e2, hx, hce, hcv, hcl9, stp⟩
  · cases x with
    | inr z => exact hq.elim
    | inl z =>
      obtain ⟨hv, hP1, hK1, hD1, hFF⟩ := hq
      cases hv
      obtain ⟨k1, k2, k3⟩ := vx_keep h0 e1 hS (fun q _ h => hF q h) hF hL hFF
      obtain ⟨t2, a1, b1⟩ := k9 z rfl p l e R s m args below meth c T'.heap (locs ++ L) A ls D cy SV C (by rw [e1]; exact hP1) (pool_D hD) k3 hlv T' rfl X'
      exact ⟨t2, stp t2 a1, b1⟩
  · cases x with
    | inl z => exact hx.elim
    | inr z =>
      obtain ⟨rfl, hP1, hK1, hD1, hFF⟩ := hx
      obtain ⟨k1, k2, k3⟩ := vx_keep h0 e1 hS (fun q _ h => hF q h) hF hL hFF
      obtain ⟨rfl, m1, m2⟩ := kx z rfl
      obtain ⟨t2, a1, b1⟩ := vx_out (Qc := QxC D cy G (.inr z) A) (XC := XxC D cy G (.inr z) A) (free := A) (mc := mc) (ms := ms) (pc := pc) (ls := ls) (rest := st) (H := T'.heap) (E := z.1) (ce := ce) (q := q) (cells := u.1 + mc') (slots := u.2 + ms') (locs := locs ++ L)
        (by intro x hx; rw [hlk.2.2, hh] at hx; cases hx) hlk.1 (by rw [e1]; exact hce) hcv hcl9
        (fun t9 ht9 hal => ⟨rfl, by rw [ht9, e1]; exact hP1, va_K.moved hal C.2.2.2.2.2.2.2.1, pool_D hD, k3.F ht9⟩) k3.2.2 m1 m2 T' rfl X'
      exact ⟨t2, stp.trans a1, b1⟩
end EvX
