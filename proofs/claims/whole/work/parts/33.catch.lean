/-! methods with handlers: the law's own small ones -/
section CatchRows
variable {p : Program} {l : Launch} {e : Env} {R : Room} {s : State} {m : MethodId} {args : Array Value} {below : List Frame} {meth : Method} {c : Code} {H : Heap} {locs : List Loc} {cells slots : Nat} {Q : State → Prop} {ls : Array Slot} {rest : List Value} {pc : Nat}
theorem cx_catch {own name : String} {E : String} {ce : Cell} {q : Addr} (hown : s.vm.findClass own = some m.cls) (pre : List ExceptionTableEntry) (x : ExceptionTableEntry) (suf : List ExceptionTableEntry) (hsplit : c.exceptionTable.toList = pre ++ x :: suf)
    (hpass : ∀ z ∈ pre, covers z pc = false ∨ (z.catchType ≠ 0 ∧ ∃ nm : String, (Cond.classLink own z.catchType nm).before args s = true ∧ va_Nc E nm s)) (hx : covers x pc = true) (h0 : x.catchType ≠ 0)
    (hlink : (Cond.classLink own x.catchType name).before args s = true) (hcast : va_Nw (.castable E name) s) (hcell : H[q]? = some ce) (hv : ce.vm = .none) (hcl : s.vm.findClass E = some ce.cls)
    (kk : W p l e R s m args below meth c H locs cells slots Q (F0 m x.handlerPc ls [.ref q])) : vx_W p l e R s m args below meth c H locs cells slots Q (F0 m pc ls rest) q := by
  intro T hT X
  have hpl : e.platform.magicAccessors = ({} : Platform).magicAccessors := by rw [X.admits.platform]
  have hcast' : (Cond.castable E name).before args s = true := va_Nw.use rfl hcast
  obtain ⟨c3, c4, hc3, hc4, hasg⟩ := Cond.castable_spec hcast'
  cases Option.some.inj (hc3.symm.trans hcl)
  obtain ⟨c5, hc5, hcl5⟩ := Cond.classLink_spec hown hlink e.platform hpl
  cases Option.some.inj (hc4.symm.trans hc5)
  obtain ⟨vm', X', st⟩ := Jvm.Stand.thenCaughtThrough X q (g := F0 m pc ls rest) rfl (Steps.refl _) (by rw [hT]; exact hcell) (by rw [hv]; rfl) (by obtain ⟨k9, h9, -⟩ := Vm.findClass_spec hcl; exact ⟨k9, h9⟩) pre x suf hsplit
    (fun z hz => by
      rcases hpass z hz with h | ⟨hz0, nm, hl1, hn1⟩
      · exact Or.inl h
      · obtain ⟨c6, hc6, hcl6⟩ := Cond.classLink_spec hown hl1 e.platform hpl
        obtain ⟨a8, b8, h1, h2, h3⟩ := hn1
        cases Option.some.inj (h1.symm.trans hcl)
        cases Option.some.inj (h2.symm.trans hc6)
        exact Or.inr ⟨hz0, _, hcl6, h3⟩) hx (Or.inr ⟨h0, c4, hcl5, hasg⟩)
  obtain ⟨t, a1, b1⟩ := kk (T.setVm vm') hT X'
  exact ⟨t, st.trans a1, b1⟩
end CatchRows
def DxH (Y : MI) (y : MethodName) (d mc ms : Nat) (G : pG) (SK : Nat → Nat) (av : List Value) (σ : pS) (x : XO) : Prop :=
  ∀ (l : Launch) (_ : l.stackTraces = false) (D : va_G) (cy : Nat → ClassId) (SV : Nat → Nat) (sz : Nat), vx_Met l y (Cond.codeWith y Y.2.1 Y.2.2.1 Y.2.2.2.1 Y.2.2.2.2 :: Gw) (rmD d mc ms) (Pcc D cy G σ SK SV sz av) (QxC D cy G x (va_A (pool cy G σ) sz)) (XxC D cy G x (va_A (pool cy G σ) sz)) mc ms (va_A (pool cy G σ) sz)
theorem dxh_of {Y : MI} {y : MethodName} {d mc ms : Nat} {G : pG} {SK : Nat → Nat} {av : List Value} {σ : pS} {x : XO} {lv : List (Option Value)} (hy : plainName y.cls = true) (hY : y.cls = Y.1) (hlen : (lg_sl av).length ≤ Y.2.2.1) (hlv : lvA lv = lv_args 0 av)
    (k : Ev Y (d, mc, ms) G (Zx G x mc ms) SK (0, 0) 0 lv [] σ) : DxH Y y d mc ms G SK av σ x := by
  intro l hst D cy SV sz
  refine vx_ofWH (cc := Y.2.1) (maxL := Y.2.2.1) (ret := Y.2.2.2.1) (hh := Y.2.2.2.2) hy rfl ?_
  intro p e s m args below meth c s₁ B hml hv
  obtain ⟨rfl, hsz, hP, hK, hD0, hX⟩ := hv
  have hts := atoms_spec (ws := Cond.codeWith y Y.2.1 Y.2.2.1 Y.2.2.2.1 Y.2.2.2.2 :: Gw) B.pre
  have hown : s.vm.findClass Y.1 = some m.cls := hY ▸ findClass_of_methodNamed B.named
  have ht : c.exceptionTable.toList = tableOf Y.2.2.2.2 := vx_table (x := y) B (hts _ List.mem_cons_self)
  subst hsz
  have hD := hD0.self (sz := s.heap.size)
  have hl := lv_entry av hlen
  rw [lg_entry_eq]
  generalize (lg_sl av ++ List.replicate (Y.2.2.1 - (lg_sl av).length) Slot.unset).toArray = ls at hl ⊢
  have hl' : lvOk ls Y.2.2.1 lv := ⟨hl.1, hl.2.1, fun i v h => hl.2.2 (i, v) (by rw [← hlv]; exact lvA_mem.mpr h)⟩
  exact k p l e _ s m _ below meth c s.heap [] (va_A (pool cy G σ) s.heap.size) ls D cy SV ⟨B.exec, B.bytes, B.returns, hml, hown, fun w hw => hts w (List.mem_cons_of_mem _ hw), ⟨B.notSynchronized, hst, ht⟩, hK, ⟨Nat.le_refl _, Nat.le_refl _, Nat.le_refl _, Nat.le_refl _⟩, fun q h => Or.inr h, hX⟩ hP hD va_S.rf hl'
/-- a call whose throw is caught here -/
theorem ev_callC {Y : MI} {B : Nat × Nat × Nat} {G : pG} {Z : ZZ} {SK : Nat → Nat} {u : Nat × Nat} {pc pc' : Nat} {lv : List (Option Value)} {st : List Value} {σ : pS} {Y' : MI} {y : MethodName} {d' mc' ms' idx n b ci : Nat} {av st0 : List Value} {x : XO} (hd : Dc Y pc (.invokevirtual idx) 3 pc') (hM : Dx Y' y d' mc' ms' G SK (.ref b :: av) σ x) (hl : Cond.methodLink Y.1 idx y ∈ Gw) (hy : CY Y' y n) (hb : Is G b ci) (hc : ci < 12) (hcl : (vwCl[ci]?).map (fun q => q.1) = some y.cls) (hn : av.length = n) (hst : av.reverse ++ .ref b :: st = st0) (hr : (st.map fun v => v.category).sum ≤ 8) (hB : d' + 1 ≤ B.1) (hu : u.1 + mc' ≤ B.2.1 ∧ u.2 + ms' ≤ B.2.2)
    (kx : ∀ q, x = .inr q → ∃ (pre : List (Nat × Nat × Nat × Nat)) (z : Nat × Nat × Nat × Nat) (suf : List (Nat × Nat × Nat × Nat)) (nm : String), Y.2.2.2.2 = pre ++ z :: suf ∧ (∀ w ∈ pre, w.2.2.2 ≠ 0 ∧ ∃ nm' : String, Cond.classLink Y.1 w.2.2.2 nm' ∈ Gw ∧ (q.1, nm') ∈ ncTab) ∧ covers ⟨z.1, z.2.1, z.2.2.1, z.2.2.2⟩ pc = true ∧ z.2.2.2 ≠ 0 ∧ Cond.classLink Y.1 z.2.2.2 nm ∈ Gw ∧ (q.1, nm) ∈ cTab ∧ ∀ a : Nat, Ev Y B G Z SK (u.1 + mc', u.2 + ms') z.2.2.1 lv [.ref a] q.2)
    (k9 : ∀ q, x = .inl q → Ev Y B G Z SK (u.1 + mc', u.2 + ms') pc' lv (q.1.toList ++ st) q.2) : Ev Y B G Z SK u pc lv st0 σ := by
  obtain ⟨hd, rfl⟩ := hd
  obtain ⟨y1, y2, y3, y4, y5, y6⟩ := hy
  subst hst
  intro p l e R s m args below meth c H locs A ls D cy SV C hP hD hS hlv
  have hts := C.2.2.2.2.2.1
  obtain ⟨q9, hq9, hq8⟩ : ∃ q, vwCl[ci]? = some q ∧ q.1 = y.cls := by
    cases h : vwCl[ci]? with
    | none => rw [h] at hcl; cases hcl
    | some q => rw [h] at hcl; exact ⟨q, rfl, Option.some.inj hcl⟩
  obtain ⟨j, hj⟩ := pl_get (f := pE cy G σ) hb.1
  rw [pE_obj hb.2 hc] at hj
  have hrec := va_recv C.2.2.2.2.2.2.2.1 hP hq9 hj
  rw [hq8] at hrec
  have hp := pre_of (av := .ref b :: av) C hP hD hS
  have hF := pool_free hD hS C.2.2.2.2.2.2.2.2.2.1
  have hR := ev_roomX (mc := mc') (ms := ms') hB y6 C.2.2.2.2.2.2.2.2.1
  have hlk := C.2.2.2.2.2.2.1
  have hE := C.2.2.2.2.2.2.2.2.2.2
  have hrun := vx_runV (As := av) (rest := st) (Ts := Gw) (cc := Y.2.1) (nL := Y.2.2.1) (own := Y.1) (C := y.cls) (g := F0 m pc ls (av.reverse ++ .ref b :: st)) (locs := locs) (cells := u.1) (slots := u.2) (meth := meth) (below := below) (e := e) ⟨C.1, C.2.1, C.2.2.2.1, C.2.2.2.2.1, hts⟩ (hM l hlk.2.1 D cy SV H.size)
    ⟨callB_of n hts (gw_in y4) rfl rfl rfl (hts _ y3) (hts _ hl) y5 hR, hts _ y1, hts _ y2⟩ ⟨hp.1, hrec, hp.2⟩ rfl hn hlv.1 rfl (lv_room hr) hd ⟨Nat.le_trans hu.1 C.2.2.2.2.2.2.2.2.1.2.2.1, Nat.le_trans hu.2 C.2.2.2.2.2.2.2.2.1.2.2.2⟩
  intro T hT X
  rcases hrun T hT X with ⟨v, st₀, t, T', L, h0, X', hL, e1, e2, hq, stp⟩ | ⟨q, st₀, t, T', L, E, ce, h0, X', hL, e1, e2, hx, hce, hcv, hcl9, stp⟩
  · cases x with
    | inr z => exact hq.elim
    | inl z =>
      obtain ⟨hv, hP1, hK1, hD1, hFF⟩ := hq
      cases hv
      obtain ⟨k1, k2, k3⟩ := vx_keep h0 e1 hS (fun q _ h => hF q h) hF hL hFF
      obtain ⟨t2, a1, b1⟩ := k9 z rfl p l e R s m args below meth c T'.heap (locs ++ L) A ls D cy SV C (by rw [e1]; exact hP1) (pool_D hD) k3 hlv T' rfl X'
      exact ⟨t2, stp t2 a1, b1⟩
  · cases x with
    | inl z => exact hx.elim
    | inr z =>
      obtain ⟨rfl, hP1, hK1, hD1, hFF⟩ := hx
      obtain ⟨k1, k2, k3⟩ := vx_keep h0 e1 hS (fun q _ h => hF q h) hF hL hFF
      obtain ⟨pre, w, suf, nm, g1, g2, g3, g4, g5, g6, kk⟩ := kx z rfl
      have hsp : c.exceptionTable.toList = tableOf pre ++ ⟨w.1, w.2.1, w.2.2.1, w.2.2.2⟩ :: tableOf suf := by
        rw [hlk.2.2, g1]
        simp [tableOf]
      obtain ⟨t2, a1, b1⟩ := cx_catch (name := nm) (E := z.1) (ce := ce) (q := q) (pc := pc) (ls := ls) (rest := st) (H := T'.heap) (cells := u.1 + mc') (slots := u.2 + ms') (locs := locs ++ L) C.2.2.2.2.1 (tableOf pre) ⟨w.1, w.2.1, w.2.2.1, w.2.2.2⟩ (tableOf suf) hsp
        (fun z9 hz9 => by
          obtain ⟨w9, hw9, rfl⟩ := List.mem_map.mp hz9
          obtain ⟨n1, nm9, n2, n3⟩ := g2 w9 hw9
          exact Or.inr ⟨n1, nm9, hts _ n2, hE.2.2.2.2.2.2.2.2.2 _ n3⟩) g3 g4 (hts _ g5) (hE.2.2.2.2.2.2.2.1 _ g6) (by rw [e1]; exact hce) hcv hcl9
        (kk q p l e R s m args below meth c T'.heap (locs ++ L) A ls D cy SV C (by rw [e1]; exact hP1) (pool_D hD) k3 hlv) T' rfl X'
      exact ⟨t2, stp.trans a1, b1⟩
