/-! constructors: one fresh cell, and what is made behind it, at the next addresses -/
def dfl (ci : Nat) : List Value := (List.range (nFl.getD ci 0)).map (fun k => if isR ci k = true then .null else .int 0)
abbrev wF : Type := (Nat → ClassId) → va_W
/-- the machine at pc, over the world w, in a heap of sz cells -/
def EvW (Y : MI) (B : Nat × Nat × Nat) (nm : Bool) (Z : ZZ) (SK : Nat → Nat) (u : Nat × Nat) (pc : Nat) (lv : List (Option Value)) (st : List Value) (w : wF) (sz : Nat) : Prop :=
  ∀ (p : Program) (l : Launch) (e : Env) (R : Room) (s : State) (m : MethodId) (args : Array Value) (below : List Frame) (meth : Method) (c : Code) (H : Heap) (locs : List Loc) (A : Nat → Prop) (ls : Array Slot) (D : va_G) (cy : Nat → ClassId) (SV : Nat → Nat),
    EvC Y B l p R s m args meth c A D cy SK SV → ((nm = true → meth.name = "<init>") ∧ va_AO "UnaskedName$Mind" s) → H.size = sz → va_P D vwCl (w cy) H → va_D A (w cy) → va_S A s.heap H locs → lvOk ls Y.2.2.1 lv →
    W p l e R s m args below meth c H locs u.1 u.2 (Z below args s A D cy) (F0 m pc ls st)
/-- .. of a constructor: the cell that it fills, and what it made -/
def EvK (Y : MI) (B : Nat × Nat × Nat) (ci a : Nat) (Z : ZZ) (SK : Nat → Nat) (u : Nat × Nat) (pc : Nat) (lv : List (Option Value)) (st : List Value) (fs : List Value) (X : wF) (sz : Nat) : Prop := EvW Y B true Z SK u pc lv st (fun cy => (a, .inr (ci, fs)) :: X cy) sz
def QKc (D : va_G) (cy : Nat → ClassId) (w : wF) (z : Nat) (A : Nat → Prop) : Array Value → State → Outcome → State → Prop := fun _ st oc t => oc = .returned none ∧ t.heap.size = z ∧ va_P D vwCl (w cy) t.heap ∧ va_K D vwCl (tyC cy) t ∧ va_D A (w cy) ∧ va_F A st t
def ZK (w : wF) (z mc ms : Nat) : ZZ := fun below args s A D cy => MQ below (QKc D cy w z A) args s mc ms A
def PKc (D : va_G) (cy : Nat → ClassId) (SK SV : Nat → Nat) (ci a sz : Nat) : Array Value → State → Prop := va_Pc [.ref a] (fun U => U.heap.size = sz ∧ va_P D vwCl [(a, .inr (ci, dfl ci))] U.heap ∧ va_K D vwCl (tyC cy) U ∧ va_D (fun _ => True) [(a, .inr (ci, dfl ci))] ∧ va_AO "UnaskedName$Mind" U ∧ XE SK SV (va_A [(a, .inr (ci, dfl ci))] sz) U U.heap)
/-- a constructor's contract: from the fresh cell a, at a heap of size sz, it makes n cells of ms slots; what stands then: w a sz -/
def Kn (Y : MI) (y : MethodName) (d n ms ci : Nat) (w : Nat → Nat → wF) : Prop :=
  ∀ (l : Launch) (_ : l.stackTraces = false) (D : va_G) (cy : Nat → ClassId) (SK SV : Nat → Nat) (a sz : Nat), Met l y (Cond.code y Y.2.1 Y.2.2.1 Y.2.2.2.1 :: Gw) (rmD d n ms) (PKc D cy SK SV ci a sz) (QKc D cy (w a sz) (sz + n) (va_A [(a, .inr (ci, dfl ci))] sz)) n ms (va_A [(a, .inr (ci, dfl ci))] sz)
theorem PKc_blind {D : va_G} {cy : Nat → ClassId} {SK SV : Nat → Nat} {ci a sz : Nat} : FrameBlind (PKc D cy SK SV ci a sz) := by
  intro v U g mk q
  obtain ⟨q0, q1, qP, qK, qD, qO, qX⟩ := q
  exact ⟨q0, q1, qP, va_K.moved (u := U) (U := U.calling g mk v) (Vm.Alike.refl U.vm) qK, qD, va_AO.moved (u := U) (U := U.calling g mk v) (Vm.Alike.refl U.vm) qO, XE.go qX (State.WarmedH.refl U) (fun _ _ _ => rfl) (fun _ h => h)⟩
theorem kn_of {Y : MI} {y : MethodName} {d n ms ci : Nat} {w : Nat → Nat → wF} {lv : Nat → List (Option Value)} (hy : plainName y.cls = true) (hY : y.cls = Y.1) (hn : y.name = "<init>") (hh : Y.2.2.2.2 = []) (hlen : 1 ≤ Y.2.2.1) (hlv : ∀ a, lvA (lv a) = [(0, .ref a)])
    (k : ∀ (SK : Nat → Nat) (a sz : Nat), EvK Y (d, n, ms) ci a (ZK (w a sz) (sz + n) n ms) SK (0, 0) 0 (lv a) [] (dfl ci) (fun _ => []) sz) : Kn Y y d n ms ci w := by
  intro l hst D cy SK SV a sz
  refine Met.ofW (cc := Y.2.1) (maxL := Y.2.2.1) (ret := Y.2.2.2.1) hy rfl ?_
  intro p e s m args below meth c s₁ B hml hv
  obtain ⟨rfl, hsz, hP, hK, hD0, hO, hX⟩ := hv
  have hts := atoms_spec (ws := Cond.code y Y.2.1 Y.2.2.1 Y.2.2.2.1 :: Gw) B.pre
  have hown : s.vm.findClass Y.1 = some m.cls := hY ▸ findClass_of_methodNamed B.named
  have ht : c.exceptionTable.toList = tableOf Y.2.2.2.2 := by
    obtain ⟨meth9, c9, h1, h2, -, -, -, -, h7, -⟩ := Cond.code_spec B.named (hts _ List.mem_cons_self)
    cases Option.some.inj (h1.symm.trans B.method)
    cases Option.some.inj (h2.symm.trans (Stand.of_body B).code)
    rw [Array.isEmpty_iff.mp h7, hh]
    rfl
  subst hsz
  have hD := hD0.self (sz := s.heap.size)
  have hl := lv_entry [.ref a] (n := Y.2.2.1) hlen
  rw [lg_entry_eq]
  generalize (lg_sl [Value.ref a] ++ List.replicate (Y.2.2.1 - (lg_sl [Value.ref a]).length) Slot.unset).toArray = ls at hl ⊢
  have hl' : lvOk ls Y.2.2.1 (lv a) := ⟨hl.1, hl.2.1, fun i v h => hl.2.2 (i, v) (by
    have h9 := lvA_mem (q := (i, v)) |>.mpr h
    rw [hlv a] at h9
    exact h9)⟩
  have hin : meth.name = "<init>" := ((name_of_methodNamed B.named B.method).1).trans hn
  exact k SK a s.heap.size p l e _ s m _ below meth c s.heap [] (va_A [(a, .inr (ci, dfl ci))] s.heap.size) ls D cy SV ⟨B.exec, B.bytes, B.returns, hml, hown, fun w hw => hts w (List.mem_cons_of_mem _ hw), ⟨B.notSynchronized, hst, ht⟩, hK, ⟨Nat.le_refl _, Nat.le_refl _, Nat.le_refl _, Nat.le_refl _⟩, fun q h => Or.inr h, hX⟩ ⟨fun _ => hin, hO⟩ rfl hP hD va_S.rf hl'
section VZ
variable {p : Program} {l : Launch} {e : Env} {R : Room} {s : State} {m : MethodId} {args : Array Value} {below : List Frame} {meth : Method} {c : Code} {H : Heap} {locs : List Loc} {cells slots : Nat} {Q : State → Prop}
variable {cc : ByteArray} {pc : Nat} {ls : Array Slot} {rest : List Value} {D : va_G} {cl : List vw_C} {A : Nat → Prop} {a : Nat} {tys : List (ClassId × FieldType)} {ws : va_W} {H0 : Heap}
/-- stores into rows, with the heap's size told -/
theorem vz_iast (hexec : p.tables.exec = Jvm.exec) (hb : c.code = cc) (hK : va_K D cl tys s) (hP : va_P D cl ws H) (hD : va_D A ws) (hS : va_S A H0 H locs) (q0 t0 : Nat) {cA : ClassId} {n : Nat} {f : Nat → Int32} (ha : ws[q0]? = some (a, .inl (cA, n, .inl f))) (ht : tys[t0]? = some (cA, .int)) {i : Int32} {x : Int32} (hin : vp_in i n) (hdg : decode cc pc = .ok (.iastore, 1))
    (kk : ∀ (H1 : Heap) (locs1 : List Loc), H1.size = H.size → va_P D cl (ws.set q0 (a, .inl (cA, n, .inl (upd f i.toNatClampNeg x)))) H1 → va_D A (ws.set q0 (a, .inl (cA, n, .inl (upd f i.toNatClampNeg x)))) → va_S A H0 H1 locs1 → W p l e R s m args below meth c H1 locs1 cells slots Q (F0 m (pc + 1) ls rest)) : W p l e R s m args below meth c H locs cells slots Q (F0 m pc ls (.int x :: .int i :: .ref a :: rest)) := by
  refine W.iast hexec hb (hP q0 _ ha) ((hK.2 t0 _ ht).1 n (fun j => .int (f j))) (fun q => by cases q) (by show ¬ (i < 0 ∨ (arrV _ _ _).slots.size ≤ _); rw [arrV_size]; exact hin) rfl rfl hdg fun H1 e z oq => ?_
  refine kk H1 _ z (hP.set hD ha ?_ oq) (hD.set ha) (hS.put z oq (hD.2 q0 _ ha))
  show H1[a]? = some (vp_cell _ _)
  rw [e, vp_cell_i, vp_cell_i, arrV_store]
  congr 2
  funext q
  by_cases hq : q = i.toNatClampNeg
  · subst hq
    simp [updV, upd]
  · simp [updV, upd, hq]
theorem vz_astq (hexec : p.tables.exec = Jvm.exec) (hb : c.code = cc) (hK : va_K D cl tys s) (hP : va_P D cl ws H) (hD : va_D A ws) (hS : va_S A H0 H locs) (q0 t0 qk ci : Nat) {cA : ClassId} {r : vw_C} {n v : Nat} {vs : List Value} {f : Nat → Option Nat} (ha : ws[q0]? = some (a, .inl (cA, n, .inr (.inr (.inr (.inr f)))))) (ht : tys[t0]? = some (cA, .object r.1)) (hv : ws[qk]? = some (v, .inr (ci, vs))) (hc : cl[ci]? = some r) {i : Int32} (hin : vp_in i n) (hdg : decode cc pc = .ok (.aastore, 1))
    (kk : ∀ (H1 : Heap) (locs1 : List Loc), H1.size = H.size → va_P D cl (ws.set q0 (a, .inl (cA, n, .inr (.inr (.inr (.inr (va_up f i.toNatClampNeg (some v)))))))) H1 → va_D A (ws.set q0 (a, .inl (cA, n, .inr (.inr (.inr (.inr (va_up f i.toNatClampNeg (some v)))))))) → va_S A H0 H1 locs1 → W p l e R s m args below meth c H1 locs1 cells slots Q (F0 m (pc + 1) ls rest)) : W p l e R s m args below meth c H locs cells slots Q (F0 m pc ls (.ref v :: .int i :: .ref a :: rest)) := by
  have hlt : i.toNatClampNeg < n := Nat.not_le.mp fun q => hin (Or.inr q)
  have h0 : ¬ i < 0 := fun q => hin (Or.inl q)
  obtain ⟨r', hr', cellV, g1, g2, g3, -⟩ := hP qk _ hv
  have hcls := (hK.1 ci r hc).2
  obtain ⟨kA, comp, k1, k2, k3, -⟩ := (hK.2 t0 _ ht).2
  have hcomp : comp = D.1 ci := Option.some.inj (k3.symm.trans hcls.1)
  subst hcomp
  obtain ⟨kC, hkC, -⟩ := hcls.2
  refine W.aast hexec hb (hP q0 _ ha) (fun q h => by cases h) (fun h => by cases h) k1 k2 rfl hkC ⟨h0, by show _ < (arrV _ _ _).slots.size; rw [arrV_size]; exact hlt⟩ g1 (fun q h => by rw [g3] at h; cases h) (by rw [g2]; exact hkC) (by rw [g2]; exact va_assign hcls) rfl rfl hdg fun H1 e z oq => ?_
  refine kk H1 _ z (hP.set hD ha ?_ oq) (hD.set ha) (hS.put z oq (hD.2 q0 _ ha))
  show H1[a]? = some (vp_cell _ _)
  rw [e, vp_cell_q, vp_cell_q, arrV_store]
  congr 2
  funext q
  by_cases hq : q = i.toNatClampNeg
  · subst hq
    simp [updV, va_up, va_rf]
  · simp [updV, va_up, hq]
end VZ
section EvKs
variable {Y : MI} {B : Nat × Nat × Nat} {ci a : Nat} {Z : ZZ} {SK : Nat → Nat} {u u' : Nat × Nat} {pc pc' : Nat} {lv lv' : List (Option Value)} {st : List Value} {fs fs' : List Value} {X X' w : wF} {nm : Bool} {sz sz' : Nat}
theorem k_aload_n {i : Fin 4} {x : Nat} (hd : Dc Y pc (.aload_n i) 1 pc') (hx : lv[(i : Nat)]? = some (some (.ref x))) (k : EvK Y B ci a Z SK u pc' lv (.ref x :: st) fs X sz) : EvK Y B ci a Z SK u pc lv st fs X sz := by
  obtain ⟨hd, rfl⟩ := hd
  intro p l e R s m args below meth c H locs A ls D cy SV C hin hz hP hD hS hl
  exact lv_aload_n C.1 C.2.1 hd rfl (hl.2.2 _ _ hx) (k p l e R s m args below meth c H locs A ls D cy SV C hin hz hP hD hS hl)
theorem k_iload_n {i : Fin 4} {x : Int32} (hd : Dc Y pc (.iload_n i) 1 pc') (hx : lv[(i : Nat)]? = some (some (.int x))) (k : EvK Y B ci a Z SK u pc' lv (.int x :: st) fs X sz) : EvK Y B ci a Z SK u pc lv st fs X sz := by
  obtain ⟨hd, rfl⟩ := hd
  intro p l e R s m args below meth c H locs A ls D cy SV C hin hz hP hD hS hl
  exact lv_iload_n C.1 C.2.1 hd rfl (hl.2.2 _ _ hx) (k p l e R s m args below meth c H locs A ls D cy SV C hin hz hP hD hS hl)
theorem k_istore_n {i : Fin 4} {x : Int32} (hd : Dc Y pc (.istore_n i) 1 pc') (hn : noL lv (i : Nat) = true) (hi : (i : Nat) < Y.2.2.1) (hs : lv.set (i : Nat) (some (.int x)) = lv') (k : EvK Y B ci a Z SK u pc' lv' st fs X sz) : EvK Y B ci a Z SK u pc lv (.int x :: st) fs X sz := by
  obtain ⟨hd, rfl⟩ := hd
  intro p l e R s m args below meth c H locs A ls D cy SV C hin hz hP hD hS hl
  exact lv_istore_n C.1 C.2.1 hd rfl hl.has hi rfl (fun ls hl => k p l e R s m args below meth c H locs A ls D cy SV C hin hz hP hD hS (lvOk.st1 hl hn hs))
theorem k_iinc {i : Nat} {n : Int} {x v : Int32} (hd : Dc Y pc (.iinc i n) 3 pc') (hx : lv[i]? = some (some (.int x))) (hv : Int32.ofInt n = v) (hn : noL lv i = true) (hi : i < Y.2.2.1) (hs : lv.set i (some (.int (x + v))) = lv') (k : EvK Y B ci a Z SK u pc' lv' st fs X sz) : EvK Y B ci a Z SK u pc lv st fs X sz := by
  obtain ⟨hd, rfl⟩ := hd
  subst hv
  intro p l e R s m args below meth c H locs A ls D cy SV C hin hz hP hD hS hl
  obtain ⟨j, hj⟩ := List.getElem?_of_mem ((lvA_mem (q := (i, .int x))).mpr hx)
  exact lv_iinc C.1 C.2.1 hd hl.has hj rfl hi rfl (fun ls hl => k p l e R s m args below meth c H locs A ls D cy SV C hin hz hP hD hS (lvOk.st1 hl hn hs))
theorem k_icmp_ge {x y : Int32} {off : Int} {tgt : Nat} (hd : Dc Y pc (.if_icmp .ge off) 3 pc') (ht : (pc : Int) + off = (tgt : Int)) (kp : y ≤ x → EvK Y B ci a Z SK u tgt lv st fs X sz) (kq : ¬ y ≤ x → EvK Y B ci a Z SK u pc' lv st fs X sz) : EvK Y B ci a Z SK u pc lv (.int y :: .int x :: st) fs X sz := by
  obtain ⟨hd, rfl⟩ := hd
  intro p l e R s m args below meth c H locs A ls D cy SV C hin hz hP hD hS hl
  exact lv_icmp_ge C.1 C.2.1 hd ht (fun z => kp z p l e R s m args below meth c H locs A ls D cy SV C hin hz hP hD hS hl) (fun z => kq z p l e R s m args below meth c H locs A ls D cy SV C hin hz hP hD hS hl)
theorem k_goto {off : Int} {tgt : Nat} (hd : Dc Y pc (.goto off) 3 pc') (ht : (pc : Int) + off = (tgt : Int)) (k : EvK Y B ci a Z SK u tgt lv st fs X sz) : EvK Y B ci a Z SK u pc lv st fs X sz := by
  obtain ⟨hd, rfl⟩ := hd
  intro p l e R s m args below meth c H locs A ls D cy SV C hin hz hP hD hS hl
  exact lv_goto C.1 C.2.1 hd ht (k p l e R s m args below meth c H locs A ls D cy SV C hin hz hP hD hS hl)
theorem k_iconst {n : Int} {v : Int32} (hd : Dc Y pc (.iconst n) 1 pc') (hv : Int32.ofInt n = v) (k : EvK Y B ci a Z SK u pc' lv (.int v :: st) fs X sz) : EvK Y B ci a Z SK u pc lv st fs X sz := by
  obtain ⟨hd, rfl⟩ := hd
  intro p l e R s m args below meth c H locs A ls D cy SV C hin hz hP hD hS hl
  exact lv_iconst C.1 C.2.1 hd hv (k p l e R s m args below meth c H locs A ls D cy SV C hin hz hP hD hS hl)
theorem k_bipush {n : Int} {v : Int32} (hd : Dc Y pc (.bipush n) 2 pc') (hv : (Int8.ofInt n).toInt32 = v) (k : EvK Y B ci a Z SK u pc' lv (.int v :: st) fs X sz) : EvK Y B ci a Z SK u pc lv st fs X sz := by
  obtain ⟨hd, rfl⟩ := hd
  intro p l e R s m args below meth c H locs A ls D cy SV C hin hz hP hD hS hl
  exact lv_bipush C.1 C.2.1 hd hv (k p l e R s m args below meth c H locs A ls D cy SV C hin hz hP hD hS hl)
theorem k_sipush {n : Int} {v : Int32} (hd : Dc Y pc (.sipush n) 3 pc') (hv : (Int16.ofInt n).toInt32 = v) (k : EvK Y B ci a Z SK u pc' lv (.int v :: st) fs X sz) : EvK Y B ci a Z SK u pc lv st fs X sz := by
  obtain ⟨hd, rfl⟩ := hd
  intro p l e R s m args below meth c H locs A ls D cy SV C hin hz hP hD hS hl
  exact lv_sipush C.1 C.2.1 hd hv (k p l e R s m args below meth c H locs A ls D cy SV C hin hz hP hD hS hl)
theorem k_obj {i x : Nat} (hd : Dc Y pc (.invokespecial i) 3 pc') (hw : Cond.methodLink Y.1 i Lib.objectInit ∈ Gw) (hB : 1 ≤ B.1) (hr : (st.map fun v => v.category).sum ≤ 8) (k : EvK Y B ci a Z SK u pc' lv st fs X sz) : EvK Y B ci a Z SK u pc lv (.ref x :: st) fs X sz := by
  obtain ⟨hd, rfl⟩ := hd
  intro p l e R s m args below meth c H locs A ls D cy SV C hin hz hP hD hS hl
  obtain ⟨r1, r2, r3, r4⟩ := C.2.2.2.2.2.2.2.2.1
  have hts := C.2.2.2.2.2.1
  refine W.objInit C.1 C.2.1 C.2.2.2.2.1 (hts _ hw) (hts _ mw_oi1) (hts _ mw_oi2) rfl (by rw [C.2.2.2.1]; exact hl.1) rfl hd (by omega) ?_ (k p l e R s m args below meth c H locs A ls D cy SV C hin hz hP hD hS hl)
  show 2 * 0 + _ + 12 ≤ R.locals
  omega
theorem k_put {idx k : Nat} {ty : FieldType} {v : Value} (hd : Dc Y pc (.putfield idx) 3 pc') (hf : FI Y.1 idx ci k ty false) (hn : narrow ty v = v) (hfit : fits ty v = true) (hl9 : k < fs.length) (hs : fs.set k v = fs') (k9 : EvK Y B ci a Z SK u pc' lv st fs' X sz) : EvK Y B ci a Z SK u pc lv (v :: .ref a :: st) fs X sz := by
  obtain ⟨hd, rfl⟩ := hd
  subst hs
  obtain ⟨C9, T9, ty0, h1, h2, h3, h4, h5, h6, h7, h8, h9⟩ := hf
  intro p l e R s m args below meth c H locs A ls D cy SV C hin hz hP hD hS0 hl
  have hts := C.2.2.2.2.2.1
  have hK := C.2.2.2.2.2.2.2.1
  have hap := va_apart (own := Y.1) hts h4 ty0 h5 h6 hK h1
  have he : ((a, .inr (ci, fs)) :: X cy)[0]? = some (a, .inr (ci, fs)) := rfl
  obtain ⟨r, g1, cell, q1, q2, q3, q4⟩ := hP 0 _ he
  have hr : r = (C9, T9, nFl.getD ci 0) := Option.some.inj (g1.symm.trans h1)
  subst hr
  obtain ⟨hS, hfc, kC, hkC, hkind⟩ := hK.1 ci _ h1
  obtain ⟨cf, kf, fi, f, hi, hsl⟩ := hS k h2
  have hlay := hts _ (h4 _ (u_in_lay h2))
  unfold u_lay at hlay
  rw [if_neg (by rw [h8]; decide)] at hlay
  have hst := (u_facts hfc hkC (u_lays hts h4 h2) hi).1
  have h6' := u_store hfc hkC hkind hlay hi h7 hn hfit
  refine W.putK C.1 C.2.1 (f := f) ⟨C.2.2.2.2.1, hts _ h3, ⟨_, _, _, hi⟩, hst⟩ (by rw [q2]; exact h6') q1 q3 (by rw [hsl]; exact k2_hasslot (q4 k h2)) rfl rfl hd fun H' e1 e2 e3 => ?_
  rw [hsl] at e1 ⊢
  exact k9 p l e R s m args below meth c H' _ A ls D cy SV C hin (e2.trans hz) (hP.set hD he ⟨_, h1, t_OB.to (V := updV (vp_V fs) k v) ⟨_, e1, q2, q3, t_set q4 hap h2 v⟩ (fun j _ => vp_updV_set hl9 v j)⟩ e3) (hD.set he) (hS0.put e2 e3 (hD.2 0 _ he)) hl
theorem k_putF {idx k : Nat} {ty : FieldType} {v : Value} (hd : Dc Y pc (.putfield idx) 3 pc') (hf : FI Y.1 idx ci k ty true) (hown9 : ∀ (C9 : String) (T9 : u_T) (n9 : Nat), vwCl[ci]? = some (C9, T9, n9) → (T9 k).1 = Y.1) (hn : narrow ty v = v) (hfit : fits ty v = true) (hl9 : k < fs.length) (hs : fs.set k v = fs') (k9 : EvK Y B ci a Z SK u pc' lv st fs' X sz) : EvK Y B ci a Z SK u pc lv (v :: .ref a :: st) fs X sz := by
  obtain ⟨hd, rfl⟩ := hd
  subst hs
  obtain ⟨C9, T9, ty0, h1, h2, h3, h4, h5, h6, h7, h8, h9⟩ := hf
  have hdecl := hown9 _ _ _ h1
  intro p l e R s m args below meth c H locs A ls D cy SV C hin hz hP hD hS0 hl
  have hts := C.2.2.2.2.2.1
  have hK := C.2.2.2.2.2.2.2.1
  have hown := C.2.2.2.2.1
  have hap := va_apart (own := Y.1) hts h4 ty0 h5 h6 hK h1
  have he : ((a, .inr (ci, fs)) :: X cy)[0]? = some (a, .inr (ci, fs)) := rfl
  obtain ⟨r, g1, cell, q1, q2, q3, q4⟩ := hP 0 _ he
  have hr : r = (C9, T9, nFl.getD ci 0) := Option.some.inj (g1.symm.trans h1)
  subst hr
  obtain ⟨hS, hfc, kC, hkC, hkind⟩ := hK.1 ci _ h1
  obtain ⟨cf, kf, fi, f, hi, hsl⟩ := hS k h2
  have hlay := hts _ (h4 _ (u_in_lay h2))
  unfold u_lay at hlay
  rw [if_pos h8] at hlay
  have hst := (u_facts hfc hkC (u_lays hts h4 h2) hi).1
  have hcf : m.cls = cf := by
    obtain ⟨_, _, c', _, _, _, -, -, hf', -, -, -, hown2, -⟩ := Cond.laysFinal_spec hlay
    have e1 : c' = cf := by have := hi.symm.trans hf'; simp at this; exact this.1.symm
    rw [hdecl] at hown2
    rw [← e1]; exact Option.some.inj (hown.symm.trans hown2)
  have h6' := u_fits hfc hkC hkind (Or.inr hlay) hi h7 hn hfit
  refine W.putFinK C.1 C.2.1 hown (hts _ h3) hi hst hcf (hin.1 rfl) (by rw [q2]; exact h6') q1 q3 (by rw [hsl]; exact k2_hasslot (q4 k h2)) rfl rfl hd fun H' e1 e2 e3 => ?_
  rw [hsl] at e1 ⊢
  exact k9 p l e R s m args below meth c H' _ A ls D cy SV C hin (e2.trans hz) (hP.set hD he ⟨_, h1, t_OB.to (V := updV (vp_V fs) k v) ⟨_, e1, q2, q3, t_set q4 hap h2 v⟩ (fun j _ => vp_updV_set hl9 v j)⟩ e3) (hD.set he) (hS0.put e2 e3 (hD.2 0 _ he)) hl
theorem kw_push {D : va_G} {w : va_W} {H H1 : Heap} {q : Nat} {e : va_E} {A : Nat → Prop} (hP : va_P D vwCl w H) (hD : va_D A w) (hq : H.size = q) (ho : ∀ x, x < q → H1[x]? = H[x]?) (he : va_at D vwCl (q, e) H1) (hA : A q) : va_P D vwCl (w ++ [(q, e)]) H1 ∧ va_D A (w ++ [(q, e)]) := by
  refine ⟨(hP.kept (fun k x hx => ho x.1 (by rw [← hq]; exact (hP k x hx).lt))).app (fun k x hx => ?_), hD.push hP hq.symm hA⟩
  have hz : k < 1 := (List.getElem?_eq_some_iff.mp hx).1
  rw [show k = 0 by omega] at hx
  cases hx
  exact he
theorem kw_S {A : Nat → Prop} {H0 H H1 : Heap} {locs : List Loc} {q : Nat} (hS : va_S A H0 H locs) (hq : H.size = q) (hz : H1.size = q + 1) (ho : ∀ x, x < q → H1[x]? = H[x]?) : va_S A H0 H1 locs :=
  ⟨Nat.le_trans hS.1 (by omega), fun x h1 h2 => (ho x (by rw [← hq]; exact Nat.lt_of_lt_of_le h1 hS.1)).trans (hS.2.1 x h1 h2), hS.2.2⟩
/-- a new row of ints, bytes or booleans (j: its type), or of longs -/
theorem w_newa {at9 : ArrayType} {ty : FieldType} {j N : Nat} {n : Int32} (hd : Dc Y pc (.newarray at9) 2 pc') (hw : Cond.arrayClass (newarray.typeOf at9) ∈ Gw) (hty : newarray.typeOf at9 = ty) (hj : ∀ cy : Nat → ClassId, (tyC cy)[j]? = some (cy j, ty)) (hdv : defaultValue ty = .int 0) (hra : ∀ (U : State) (cA : ClassId), va_RA U cA ty → U.vm.findClass ("[" ++ ty.toString) = some cA) (hn : ¬ n < 0) (hN : n.toNatClampNeg = N) (hby : N * componentBytes ty ≤ 536870912) (hu : u.1 + 1 ≤ B.2.1 ∧ u.2 + N ≤ B.2.2)
    (k : EvW Y B nm Z SK (u.1 + 1, u.2 + N) pc' lv (.ref sz :: st) (fun cy => w cy ++ [(sz, .inl (cy j, N, .inl (fun _ => 0)))]) (sz + 1)) : EvW Y B nm Z SK u pc lv (.int n :: st) w sz := by
  obtain ⟨hd, rfl⟩ := hd
  intro p l e R s m args below meth c H locs A ls D cy SV C hin hz hP hD hS hl
  obtain ⟨r1, r2, r3, r4⟩ := C.2.2.2.2.2.2.2.2.1
  have hts := C.2.2.2.2.2.1
  have hK := C.2.2.2.2.2.2.2.1
  refine va_newaK C.1 C.2.1 (hts _ hw) rfl hd rfl hn hN (by rw [hty]; exact hby) (by omega) (by omega) hz (fun H1 cA e1 e2 e3 e4 e5 => ?_)
  rw [hty] at e1 e4 e5
  have hcA : cA = cy j := Option.some.inj (e5.symm.trans (hra s _ (hK.2 j _ (hj cy)).2))
  subst hcA
  obtain ⟨hP1, hD1⟩ := kw_push (e := .inl (cy j, N, .inl (fun _ => 0))) hP hD hz e3 (by show H1[sz]? = some (vp_cell (cy j) (N, .inl (fun _ => 0))); rw [e1, hdv]; rfl) (C.2.2.2.2.2.2.2.2.2.1 _ (by rw [← hz]; exact hS.1))
  exact k p l e R s m args below meth c H1 locs A ls D cy SV C hin e2 hP1 hD1 (kw_S hS hz e2 e3) hl
theorem w_newl {N : Nat} {n : Int32} (hd : Dc Y pc (.newarray .long) 2 pc') (hw : Cond.arrayClass (newarray.typeOf .long) ∈ Gw) (hn : ¬ n < 0) (hN : n.toNatClampNeg = N) (hby : N * componentBytes .long ≤ 536870912) (hu : u.1 + 1 ≤ B.2.1 ∧ u.2 + N ≤ B.2.2)
    (k : EvW Y B nm Z SK (u.1 + 1, u.2 + N) pc' lv (.ref sz :: st) (fun cy => w cy ++ [(sz, .inl (cy 2, N, .inr (.inl (fun _ => 0))))]) (sz + 1)) : EvW Y B nm Z SK u pc lv (.int n :: st) w sz := by
  obtain ⟨hd, rfl⟩ := hd
  intro p l e R s m args below meth c H locs A ls D cy SV C hin hz hP hD hS hl
  obtain ⟨r1, r2, r3, r4⟩ := C.2.2.2.2.2.2.2.2.1
  have hts := C.2.2.2.2.2.1
  have hK := C.2.2.2.2.2.2.2.1
  refine va_newaK C.1 C.2.1 (hts _ hw) rfl hd rfl hn hN hby (by omega) (by omega) hz (fun H1 cA e1 e2 e3 e4 e5 => ?_)
  have hcA : cA = cy 2 := Option.some.inj (e5.symm.trans (hK.2 2 _ rfl).2)
  subst hcA
  obtain ⟨hP1, hD1⟩ := kw_push (e := .inl (cy 2, N, .inr (.inl (fun _ => 0)))) hP hD hz e3 (by show H1[sz]? = some (vp_cell (cy 2) (N, .inr (.inl (fun _ => 0)))); rw [e1]; rfl) (C.2.2.2.2.2.2.2.2.2.1 _ (by rw [← hz]; exact hS.1))
  exact k p l e R s m args below meth c H1 locs A ls D cy SV C hin e2 hP1 hD1 (kw_S hS hz e2 e3) hl
/-- a new row of Minds -/
theorem w_anew {index N : Nat} {n : Int32} (hd : Dc Y pc (.anewarray index) 3 pc') (hcl : Cond.classLink Y.1 index "UnaskedName$Mind" ∈ Gw) (hn : ¬ n < 0) (hN : n.toNatClampNeg = N) (hby : N * 4 ≤ 536870912) (hu : u.1 + 1 ≤ B.2.1 ∧ u.2 + N ≤ B.2.2)
    (k : EvW Y B nm Z SK (u.1 + 1, u.2 + N) pc' lv (.ref sz :: st) (fun cy => w cy ++ [(sz, .inl (cy 4, N, .inr (.inr (.inr (.inr (fun _ => none))))))]) (sz + 1)) : EvW Y B nm Z SK u pc lv (.int n :: st) w sz := by
  obtain ⟨hd, rfl⟩ := hd
  subst hN
  intro p l e R s m args below meth c H locs A ls D cy SV C hin hz hP hD hS hl
  obtain ⟨r1, r2, r3, r4⟩ := C.2.2.2.2.2.2.2.2.1
  have hts := C.2.2.2.2.2.1
  have hK := C.2.2.2.2.2.2.2.1
  refine W.anew C.1 C.2.1 C.2.2.2.2.1 (hts _ hcl) (va_AO.use hin.2) rfl hd rfl hn hby (by omega) (by omega) fun cA kA comp f1 f2 f3 f4 => ?_
  obtain ⟨kA9, comp9, g1, g2, g3, g4⟩ := (hK.2 4 _ rfl).2
  have hcA : cA = cy 4 := Option.some.inj (f1.symm.trans g4)
  subst hcA
  subst hz
  generalize hH1 : H.push ({ cls := cy 4, slots := Array.replicate n.toNatClampNeg .null, vm := .none } : Cell) = H1
  have z1 : H1.size = H.size + 1 := by rw [← hH1, Array.size_push]
  have e1 : H1[H.size]? = some (arrV (cy 4) n.toNatClampNeg (fun _ => .null)) := by rw [← hH1, Array.getElem?_push_size, ← arrV_new]
  have o1 : ∀ q : Nat, q < H.size → H1[q]? = H[q]? := fun q hq => by rw [← hH1, Array.getElem?_push, if_neg (Nat.ne_of_lt hq)]
  obtain ⟨hP1, hD1⟩ := kw_push (e := .inl (cy 4, n.toNatClampNeg, .inr (.inr (.inr (.inr (fun _ => none)))))) hP hD rfl o1 e1 (C.2.2.2.2.2.2.2.2.2.1 _ hS.1)
  exact k p l e R s m args below meth c H1 locs A ls D cy SV C hin z1 hP1 hD1 (kw_S hS rfl z1 o1) hl
/-- a Mind into such a row -/
theorem w_aast {x v j q : Nat} {i : Int32} {n : Nat} {f : Nat → Option Nat} {vs : List Value} {w' : wF} (hd : Dc Y pc .aastore 1 pc') (hj : ∀ cy, (w cy)[j]? = some (x, .inl (cy 4, n, .inr (.inr (.inr (.inr f)))))) (hq : ∀ cy, (w cy)[q]? = some (v, .inr (3, vs))) (hin9 : vp_in i n) (hs : ∀ cy, (w cy).set j (x, .inl (cy 4, n, .inr (.inr (.inr (.inr (va_up f i.toNatClampNeg (some v))))))) = w' cy)
    (k : EvW Y B nm Z SK u pc' lv st w' sz) : EvW Y B nm Z SK u pc lv (.ref v :: .int i :: .ref x :: st) w sz := by
  obtain ⟨hd, rfl⟩ := hd
  intro p l e R s m args below meth c H locs A ls D cy SV C hin hz hP hD hS hl
  refine vz_astq C.1 C.2.1 C.2.2.2.2.2.2.2.1 hP hD hS j 4 q 3 (r := (RX3, TX3, 9)) (hj cy) rfl (hq cy) rfl hin9 hd (fun H1 locs1 hz1 hP1 hD1 hS1 => ?_)
  rw [hs cy] at hP1 hD1
  exact k p l e R s m args below meth c H1 locs1 A ls D cy SV C hin (hz1.trans hz) hP1 hD1 hS1 hl
/-- what a constructor's caller needs -/
def CI (Y' : MI) (y : MethodName) (cj : Nat) : Prop := y.name = "<init>" ∧ Cond.instanceMethod y ∈ Gw ∧ Cond.initialized y.cls ∈ Gw ∧ Cond.code y Y'.2.1 Y'.2.2.1 none ∈ Gw ∧ Y'.2.2.2.1 = none ∧ (y.cls ≠ "java/lang/invoke/MethodHandle" ∧ y.cls ≠ "java/lang/invoke/VarHandle" ∧ (parseMethodDescriptor y.desc).map (fun d => d.parameters.length) = some 0) ∧ Y'.2.2.1 ≤ 45 ∧ Cond.instantiable y.cls (nFl.getD cj 0) ∈ Gw ∧ ∃ (T : u_T) (ty0 : Nat → FieldType), vwCl[cj]? = some (y.cls, T, nFl.getD cj 0) ∧ (∀ w ∈ u_ws y.cls T (nFl.getD cj 0), w ∈ Gw) ∧ (∀ k, k < nFl.getD cj 0 → parseFieldDescriptor (T k).2.2.1 = some (ty0 k)) ∧ ∀ k, k < nFl.getD cj 0 → defaultValue (ty0 k) = vp_V (dfl cj) k
theorem w_new {Y' : MI} {y : MethodName} {d' n' ms' cj ik idx p3 p4 : Nat} {host : String} {w' : Nat → Nat → wF} (d0 : Dc Y pc (.new ik) 3 p3) (d1 : Dc Y p3 .dup 1 p4) (d2 : Dc Y p4 (.invokespecial idx) 3 pc') (hM : Kn Y' y d' n' ms' cj w') (hy : CI Y' y cj) (hcl : Cond.classLink Y.1 ik y.cls ∈ Gw) (hl : (Y.1, idx, y, host) ∈ nTab ∨ Cond.methodLink Y.1 idx y ∈ Gw) (hr : ((st.map fun v => v.category).sum) ≤ 7) (hB : d' + 1 ≤ B.1) (hu : u.1 + 1 + n' ≤ B.2.1 ∧ u.2 + nFl.getD cj 0 + ms' ≤ B.2.2)
    (k : EvW Y B nm Z SK (u.1 + 1 + n', u.2 + nFl.getD cj 0 + ms') pc' lv (.ref sz :: st) (fun cy => w cy ++ w' sz (sz + 1) cy) (sz + 1 + n')) : EvW Y B nm Z SK u pc lv st w sz := by
  obtain ⟨d0, rfl⟩ := d0
  obtain ⟨d1, rfl⟩ := d1
  obtain ⟨d2, rfl⟩ := d2
  obtain ⟨y1, y2, y3, y4, y5, y6, y7, y8, T9, ty0, h1, h4, h5, h6⟩ := hy
  intro p l e R s m args below meth c H locs A ls D cy SV C hin hz hP hD hS hlv
  have hts := C.2.2.2.2.2.1
  have hK := C.2.2.2.2.2.2.2.1
  have hE := C.2.2.2.2.2.2.2.2.2.2
  have hA := C.2.2.2.2.2.2.2.2.2.1
  have hRm := C.2.2.2.2.2.2.2.2.1
  have hKn := hK.1 cj _ h1
  have hsz : s.heap.size ≤ sz := by rw [← hz]; exact hS.1
  refine W.newcK C.1 C.2.1 C.2.2.2.2.1 (hts _ hcl) (hts _ y8) (hts _ y3) rfl d0 (Nat.le_trans (by omega) hRm.2.2.1) (Nat.le_trans (by omega) hRm.2.2.2) hKn.2.1 hz (fun H1 kC hkC e1 z1 o1 => ?_)
  have hat : va_at D vwCl (sz, .inr (cj, dfl cj)) H1 := ⟨_, h1, (u_born ty0 hts h4 hKn hkC e1 h5).to h6⟩
  obtain ⟨hP1, hD1⟩ := kw_push hP hD hz o1 hat (hA _ hsz)
  have hS1 := kw_S hS hz z1 o1
  refine lv_dup C.1 C.2.1 d1 rfl ?_
  have hPc : va_P D vwCl [(sz, .inr (cj, dfl cj))] H1 := by
    intro k9 q hq
    have hz9 : k9 < 1 := (List.getElem?_eq_some_iff.mp hq).1
    rw [show k9 = 0 by omega] at hq
    cases hq
    exact hat
  have hDc : ∀ A9 : Nat → Prop, A9 sz → va_D A9 [(sz, .inr (cj, dfl cj))] := by
    intro A9 h9
    refine ⟨fun i j x y hx hy _ => ?_, fun k9 q hq => ?_⟩
    · have a1 : i < 1 := (List.getElem?_eq_some_iff.mp hx).1
      have a2 : j < 1 := (List.getElem?_eq_some_iff.mp hy).1
      omega
    · have hz9 : k9 < 1 := (List.getElem?_eq_some_iff.mp hq).1
      rw [show k9 = 0 by omega] at hq
      cases hq
      exact h9
  have hF : ∀ q, va_A [(sz, .inr (cj, dfl cj))] (sz + 1) q → A q := by
    intro q h
    rcases h with ⟨k9, e9, hq⟩ | h
    · have hz9 : k9 < 1 := (List.getElem?_eq_some_iff.mp hq).1
      rw [show k9 = 0 by omega] at hq
      cases hq
      exact hA _ hsz
    · exact hA q (by omega)
  have hF2 : ∀ q, va_A [(sz, .inr (cj, dfl cj))] (sz + 1) q → sz ≤ q := by
    intro q h
    rcases h with ⟨k9, e9, hq⟩ | h
    · have hz9 : k9 < 1 := (List.getElem?_eq_some_iff.mp hq).1
      rw [show k9 = 0 by omega] at hq
      cases hq
      exact Nat.le_refl _
    · omega
  have hp : PreS s H1 (PKc D cy SK SV cj sz (sz + 1)) [.ref sz] := by
    refine ⟨PKc_blind, fun U hU hW => ⟨rfl, by rw [hU]; exact z1, by rw [hU]; exact hPc, va_K.moved hW.alike hK, hDc _ trivial, va_AO.moved hW.alike hin.2, ?_⟩⟩
    rw [hU]
    exact XE.go hE hW hS1.2.1 hF
  have hR : (rmD d' n' ms').frames + 1 ≤ R.frames ∧ 8 + (Y'.2.2.1 + 11) + (rmD d' n' ms').locals ≤ R.locals := ev_roomX hB y7 hRm
  have hM9 := hM l C.2.2.2.2.2.2.1.2.1 D cy SK SV sz (sz + 1)
  rw [y5] at hM9
  have hrun : va_Run p l e R s m args below meth c H1 locs (u.1 + 1) (u.2 + nFl.getD cj 0) n' ms' (F0 m (pc + 3 + 1) ls (.ref sz :: .ref sz :: st)) (.ref sz :: st) (QKc D cy (w' sz (sz + 1)) (sz + 1 + n') (va_A [(sz, .inr (cj, dfl cj))] (sz + 1)) [Value.ref sz].toArray) (va_A [(sz, .inr (cj, dfl cj))] (sz + 1)) := by
    have hcat : ((Value.ref sz :: st).map fun v => v.category).sum ≤ 8 := by
      simp only [List.map_cons, List.sum_cons]
      show 1 + _ ≤ 8
      omega
    rcases hl with hl | hl
    · exact va_runIN (As := []) (rest := .ref sz :: st) (Ts := Gw) (cc := Y.2.1) (nL := Y.2.2.1) (own := Y.1) ⟨C.1, C.2.1, C.2.2.2.1, C.2.2.2.2.1, hts⟩ hM9
        ⟨va_cnB 0 hts (gw_in y4) rfl rfl rfl (hE.2.2.2.2.1 _ hl) (hts _ y3) y6 hR, y1, hts _ y2⟩ hp rfl rfl hlv.1 rfl (lv_room hcat) d2 ⟨Nat.le_trans hu.1 hRm.2.2.1, Nat.le_trans hu.2 hRm.2.2.2⟩
    · exact va_runI (As := []) (rest := .ref sz :: st) (Ts := Gw) (cc := Y.2.1) (nL := Y.2.2.1) (own := Y.1) ⟨C.1, C.2.1, C.2.2.2.1, C.2.2.2.2.1, hts⟩ hM9
        ⟨callB_of 0 hts (gw_in y4) rfl rfl rfl (hts _ y3) (hts _ hl) y6 hR, y1, hts _ y2⟩ hp rfl rfl hlv.1 rfl (lv_room hcat) d2 ⟨Nat.le_trans hu.1 hRm.2.2.1, Nat.le_trans hu.2 hRm.2.2.2⟩
  intro T hT X9
  obtain ⟨v, st₀, t, T', L, h0, X', hL, e3, e4, ⟨hv, hzt, hPt, hKt, hDt, hzz, hkk⟩, stp⟩ := hrun T hT X9
  cases hv
  rw [h0] at hzz hkk
  have hold : ∀ (k9 : Nat) (q : Nat × va_E), (w cy)[k9]? = some q → q.1 < sz := fun k9 q hq => by rw [← hz]; exact (hP k9 q hq).lt
  have hPn : va_P D vwCl (w cy ++ w' sz (sz + 1) cy) T'.heap := by
    refine va_P.app (fun k9 q hq => ?_) (by rw [e3]; exact hPt)
    have hlt := hold k9 q hq
    refine (hP k9 q hq).kept ?_
    rw [e3, hkk q.1 (by omega) (fun h => by have := hF2 _ h; omega), o1 q.1 hlt]
  have hDn : va_D A (w cy ++ w' sz (sz + 1) cy) := by
    refine va_D.app hD (hDt.weaken (fun k9 q _ h => hF q.1 h)) (fun i j x y hx hy hxy => ?_)
    have g1 := hold i x hx
    have g2 := hF2 _ (hDt.2 j y hy)
    omega
  obtain ⟨t2, a1, b1⟩ := k p l e R s m args below meth c T'.heap (locs ++ L) A ls D cy SV C hin (by rw [e3]; exact hzt) hPn hDn
    ⟨Nat.le_trans hS1.1 (by rw [e3]; exact hzz), fun q h1 h2 => by rw [e3, hkk q (Nat.lt_of_lt_of_le h1 hS1.1) (fun z => h2 (hF q z))]; exact hS1.2.1 q h1 h2, fun q hq => by
      rcases List.mem_append.mp hq with h | h
      · exact hS1.2.2 q h
      · exact hF _ (hL q h)⟩ hlv T' rfl X'
  exact ⟨t2, stp t2 a1, b1⟩
theorem k_newa {at9 : ArrayType} {ty : FieldType} {j N : Nat} {n : Int32} (hd : Dc Y pc (.newarray at9) 2 pc') (hw : Cond.arrayClass (newarray.typeOf at9) ∈ Gw) (hty : newarray.typeOf at9 = ty) (hj : ∀ cy : Nat → ClassId, (tyC cy)[j]? = some (cy j, ty)) (hdv : defaultValue ty = .int 0) (hra : ∀ (U : State) (cA : ClassId), va_RA U cA ty → U.vm.findClass ("[" ++ ty.toString) = some cA) (hn : ¬ n < 0) (hN : n.toNatClampNeg = N) (hby : N * componentBytes ty ≤ 536870912) (hu : u.1 + 1 ≤ B.2.1 ∧ u.2 + N ≤ B.2.2)
    (k : EvK Y B ci a Z SK (u.1 + 1, u.2 + N) pc' lv (.ref sz :: st) fs (fun cy => X cy ++ [(sz, .inl (cy j, N, .inl (fun _ => 0)))]) (sz + 1)) : EvK Y B ci a Z SK u pc lv (.int n :: st) fs X sz := w_newa hd hw hty hj hdv hra hn hN hby hu k
theorem k_newl {N : Nat} {n : Int32} (hd : Dc Y pc (.newarray .long) 2 pc') (hw : Cond.arrayClass (newarray.typeOf .long) ∈ Gw) (hn : ¬ n < 0) (hN : n.toNatClampNeg = N) (hby : N * componentBytes .long ≤ 536870912) (hu : u.1 + 1 ≤ B.2.1 ∧ u.2 + N ≤ B.2.2)
    (k : EvK Y B ci a Z SK (u.1 + 1, u.2 + N) pc' lv (.ref sz :: st) fs (fun cy => X cy ++ [(sz, .inl (cy 2, N, .inr (.inl (fun _ => 0))))]) (sz + 1)) : EvK Y B ci a Z SK u pc lv (.int n :: st) fs X sz := w_newl hd hw hn hN hby hu k
theorem k_anew {index N : Nat} {n : Int32} (hd : Dc Y pc (.anewarray index) 3 pc') (hcl : Cond.classLink Y.1 index "UnaskedName$Mind" ∈ Gw) (hn : ¬ n < 0) (hN : n.toNatClampNeg = N) (hby : N * 4 ≤ 536870912) (hu : u.1 + 1 ≤ B.2.1 ∧ u.2 + N ≤ B.2.2)
    (k : EvK Y B ci a Z SK (u.1 + 1, u.2 + N) pc' lv (.ref sz :: st) fs (fun cy => X cy ++ [(sz, .inl (cy 4, N, .inr (.inr (.inr (.inr (fun _ => none))))))]) (sz + 1)) : EvK Y B ci a Z SK u pc lv (.int n :: st) fs X sz := w_anew hd hcl hn hN hby hu k
theorem k_new {Y' : MI} {y : MethodName} {d' n' ms' cj ik idx p3 p4 : Nat} {host : String} {w' : Nat → Nat → wF} (d0 : Dc Y pc (.new ik) 3 p3) (d1 : Dc Y p3 .dup 1 p4) (d2 : Dc Y p4 (.invokespecial idx) 3 pc') (hM : Kn Y' y d' n' ms' cj w') (hy : CI Y' y cj) (hcl : Cond.classLink Y.1 ik y.cls ∈ Gw) (hl : (Y.1, idx, y, host) ∈ nTab ∨ Cond.methodLink Y.1 idx y ∈ Gw) (hr : ((st.map fun v => v.category).sum) ≤ 7) (hB : d' + 1 ≤ B.1) (hu : u.1 + 1 + n' ≤ B.2.1 ∧ u.2 + nFl.getD cj 0 + ms' ≤ B.2.2)
    (k : EvK Y B ci a Z SK (u.1 + 1 + n', u.2 + nFl.getD cj 0 + ms') pc' lv (.ref sz :: st) fs (fun cy => X cy ++ w' sz (sz + 1) cy) (sz + 1 + n')) : EvK Y B ci a Z SK u pc lv st fs X sz := w_new d0 d1 d2 hM hy hcl hl hr hB hu k
theorem k_aast {x v j q : Nat} {i : Int32} {n : Nat} {f : Nat → Option Nat} {vs : List Value} {X' : wF} (hd : Dc Y pc .aastore 1 pc') (hj : ∀ cy, (X cy)[j]? = some (x, .inl (cy 4, n, .inr (.inr (.inr (.inr f)))))) (hq : ∀ cy, (X cy)[q]? = some (v, .inr (3, vs))) (hin9 : vp_in i n) (hs : ∀ cy, (X cy).set j (x, .inl (cy 4, n, .inr (.inr (.inr (.inr (va_up f i.toNatClampNeg (some v))))))) = X' cy)
    (k : EvK Y B ci a Z SK u pc' lv st fs X' sz) : EvK Y B ci a Z SK u pc lv (.ref v :: .int i :: .ref x :: st) fs X sz := w_aast (j := j + 1) (q := q + 1) hd hj hq hin9 (fun cy => by rw [← hs cy]; rfl) k
theorem k_getR {idx k x : Nat} {ty : FieldType} {fin : Bool} (hd : Dc Y pc (.getfield idx) 3 pc') (hf : FI Y.1 idx ci k ty fin) (hv : fs[k]? = some (.ref x)) (k9 : EvK Y B ci a Z SK u pc' lv (.ref x :: st) fs X sz) : EvK Y B ci a Z SK u pc lv (.ref a :: st) fs X sz := by
  obtain ⟨hd, rfl⟩ := hd
  obtain ⟨C9, T9, ty0, h1, h2, h3, h4, h5, h6, h7, h8, h9⟩ := hf
  intro p l e R s m args below meth c H locs A ls D cy SV C hin hz hP hD hS hl
  exact va_get (D := D) (C := C9) (T := T9) C.1 C.2.1 C.2.2.2.2.2.1 h4 C.2.2.2.2.1 C.2.2.2.2.2.2.2.1 hP 0 rfl h1 k h2 (C.2.2.2.2.2.1 _ h3) (fun _ h => h) (v := .ref x) hv hd (k9 p l e R s m args below meth c H locs A ls D cy SV C hin hz hP hD hS hl)
theorem k_iast {x j n : Nat} {i v : Int32} {f : Nat → Int32} {X' : wF} (hd : Dc Y pc .iastore 1 pc') (hj : ∀ cy, (X cy)[j]? = some (x, .inl (cy 1, n, .inl f))) (hin9 : vp_in i n) (hs : ∀ cy, (X cy).set j (x, .inl (cy 1, n, .inl (upd f i.toNatClampNeg v))) = X' cy) (k : EvK Y B ci a Z SK u pc' lv st fs X' sz) : EvK Y B ci a Z SK u pc lv (.int v :: .int i :: .ref x :: st) fs X sz := by
  obtain ⟨hd, rfl⟩ := hd
  intro p l e R s m args below meth c H locs A ls D cy SV C hin hz hP hD hS hl
  refine vz_iast C.1 C.2.1 C.2.2.2.2.2.2.2.1 hP hD hS (j + 1) 1 (hj cy) rfl hin9 hd (fun H1 locs1 hz1 hP1 hD1 hS1 => ?_)
  have e9 : ((a, (.inr (ci, fs) : va_E)) :: X cy).set (j + 1) (x, .inl (cy 1, n, .inl (upd f i.toNatClampNeg v))) = (a, .inr (ci, fs)) :: X' cy := by rw [← hs cy]; rfl
  have hP2 : va_P D vwCl ((a, .inr (ci, fs)) :: X' cy) H1 := e9 ▸ hP1
  have hD2 : va_D A ((a, .inr (ci, fs)) :: X' cy) := e9 ▸ hD1
  exact k p l e R s m args below meth c H1 locs1 A ls D cy SV C hin (hz1.trans hz) hP2 hD2 hS1 hl
theorem k_vret (hd : Dc Y pc .return_ 1 pc') (hY : Y.2.2.2.1 = none) {w : wF} {z mc ms : Nat} (hw : ∀ cy, (a, .inr (ci, fs)) :: X cy = w cy) (hz9 : sz = z) (hu : u.1 ≤ mc ∧ u.2 ≤ ms) : EvK Y B ci a (ZK w z mc ms) SK u pc lv [] fs X sz := by
  obtain ⟨hd, rfl⟩ := hd
  subst hz9
  intro p l e R s m args below meth c H locs A ls D cy SV C hin hz hP hD hS hl
  have hP : va_P D vwCl (w cy) H := hw cy ▸ hP
  have hD : va_D A (w cy) := hw cy ▸ hD
  have hlk := C.2.2.2.2.2.2.1.1
  refine W.widen (k := mc) (n := ms) hu.1 hu.2 ?_
  exact W.vret C.1 C.2.1 (C.2.2.1.trans hY) (fun t ht hW => ⟨rfl, by rw [ht]; exact hz, by rw [ht]; exact hP, va_K.moved hW.alike C.2.2.2.2.2.2.2.1, hD, hS.F ht⟩) hS.2.2 hd
end EvKs
