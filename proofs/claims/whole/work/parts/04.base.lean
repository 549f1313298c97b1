/-! The pool: all objects and arrays of one side (class, or reference), at fixed addresses; what changes are numbers. -/
/-- the shape: addresses, kind of each (0..11 objects by vwCl, 12.. arrays by their types), lengths, where references lead, where rows of references lead -/
abbrev pG : Type := List Nat × (Nat → Nat) × (Nat → Nat) × (Nat → Nat → Nat) × (Nat → Nat → Nat)
/-- the numbers: int fields, int rows (bytes and booleans too), long rows -/
abbrev pS : Type := (Nat → Nat → Int32) × (Nat → Nat → Int32) × (Nat → Nat → Int64)
def pL (G : pG) : List Nat := G.1
def pK (G : pG) : Nat → Nat := G.2.1
def pN (G : pG) : Nat → Nat := G.2.2.1
def pR (G : pG) : Nat → Nat → Nat := G.2.2.2.1
def pQ (G : pG) : Nat → Nat → Nat := G.2.2.2.2
def up2 {α : Type} (f : Nat → Nat → α) (a k : Nat) (v : α) : Nat → Nat → α := fun b j => if b = a ∧ j = k then v else f b j
def putF (σ : pS) (a k : Nat) (v : Int32) : pS := (up2 σ.1 a k v, σ.2)
def putA (σ : pS) (a i : Nat) (v : Int32) : pS := (σ.1, up2 σ.2.1 a i v, σ.2.2)
def putJ (σ : pS) (a i : Nat) (v : Int64) : pS := (σ.1, σ.2.1, up2 σ.2.2 a i v)
def rowA (σ : pS) (a : Nat) (f : Nat → Int32) : pS := (σ.1, va_up σ.2.1 a f, σ.2.2)
def rowJ (σ : pS) (a : Nat) (f : Nat → Int64) : pS := (σ.1, σ.2.1, va_up σ.2.2 a f)
def nFl : List Nat := [8, 8, 3, 9, 3, 4, 5, 18, 6, 3, 11, 29]
/-- which fields are references -/
def rfT : List (List Bool) := [[false, false, true, true, true, true, true, false], [false, false, false, false, false, false, false, true], [false, false, true], [false, false, false, false, false, false, false, true, true], [false, false, true], [true, true, true, true], [true, true, true, false, false], [false, false, false, false, false, false, false, false, false, true, true, true, true, true, true, true, true, true], [false, false, false, false, false, true], [true, true, true], [true, true, true, true, true, true, true, true, true, false, false], [false, true, true, true, true, true, false, false, true, false, false, false, false, false, false, true, false, true, false, false, false, false, false, false, false, true, true, true, true]]
def isR (c k : Nat) : Bool := (rfT.getD c []).getD k false
def pFs (G : pG) (σ : pS) (c a : Nat) : List Value := (List.range (nFl.getD c 0)).map (fun k => if isR c k = true then .ref (pR G a k) else .int (σ.1 a k))
def pE (cy : Nat → ClassId) (G : pG) (σ : pS) (a : Nat) : va_E :=
  if pK G a < 12 then .inr (pK G a, pFs G σ (pK G a) a)
  else if pK G a = 14 then .inl (cy 2, pN G a, .inr (.inl (σ.2.2 a)))
  else if pK G a = 16 then .inl (cy 4, pN G a, .inr (.inr (.inr (.inr (fun i => some (pQ G a i))))))
  else .inl (cy (pK G a - 12), pN G a, .inl (σ.2.1 a))
def pool (cy : Nat → ClassId) (G : pG) (σ : pS) : va_W := va_pl (pL G) (pE cy G σ)
def tyC (cy : Nat → ClassId) : List (ClassId × FieldType) := [(cy 0, .byte), (cy 1, .int), (cy 2, .long), (cy 3, .boolean), (cy 4, .object "UnaskedName$Mind")]
/-- the thing at a is of kind c -/
def Is (G : pG) (a c : Nat) : Prop := a ∈ pL G ∧ pK G a = c
theorem pl_get {L : List Nat} {f : Nat → va_E} {a : Nat} (h : a ∈ L) : ∃ k : Nat, (va_pl L f)[k]? = some (a, f a) := List.getElem?_of_mem (List.mem_map.mpr ⟨a, h, rfl⟩)
theorem pl_set {A : Nat → Prop} {L : List Nat} {f : Nat → va_E} {a k : Nat} {e : va_E} (hD : va_D A (va_pl L f)) (h : a ∈ L) (hk : (va_pl L f)[k]? = some (a, f a)) : (va_pl L f).set k (a, e) = va_pl L (va_up f a e) := va_pl_set (X := []) hD h hk
theorem pE_obj {cy : Nat → ClassId} {G : pG} {σ : pS} {a c : Nat} (h : pK G a = c) (hc : c < 12) : pE cy G σ a = .inr (c, pFs G σ c a) := by
  subst h; simp [pE, hc]
theorem pE_int {cy : Nat → ClassId} {G : pG} {σ : pS} {a c : Nat} (h : pK G a = c) (hc : c = 12 ∨ c = 13 ∨ c = 15) : pE cy G σ a = .inl (cy (c - 12), pN G a, .inl (σ.2.1 a)) := by
  rcases hc with rfl | rfl | rfl <;> simp [pE, h]
theorem pE_long {cy : Nat → ClassId} {G : pG} {σ : pS} {a : Nat} (h : pK G a = 14) : pE cy G σ a = .inl (cy 2, pN G a, .inr (.inl (σ.2.2 a))) := by simp [pE, h]
theorem pE_rows {cy : Nat → ClassId} {G : pG} {σ : pS} {a : Nat} (h : pK G a = 16) : pE cy G σ a = .inl (cy 4, pN G a, .inr (.inr (.inr (.inr (fun i => some (pQ G a i)))))) := by simp [pE, h]
theorem pFs_at {G : pG} {σ : pS} {c a k : Nat} (hk : k < nFl.getD c 0) : (pFs G σ c a)[k]? = some (if isR c k = true then .ref (pR G a k) else .int (σ.1 a k)) := by
  simp only [pFs, List.getElem?_map]
  rw [List.getElem?_range hk]
  rfl
theorem pFs_len {G : pG} {σ : pS} {c a : Nat} : (pFs G σ c a).length = nFl.getD c 0 := by simp [pFs]
theorem pFs_set {G : pG} {σ : pS} {c a k : Nat} {v : Int32} (hr : isR c k = false) (hk : k < nFl.getD c 0) : (pFs G σ c a).set k (.int v) = pFs G (putF σ a k v) c a := by
  apply List.ext_getElem?
  intro j
  by_cases hj : j = k
  · subst hj
    rw [List.getElem?_set_self (by rw [pFs_len]; exact hk), pFs_at hk]
    simp [hr, putF, up2]
  · rw [List.getElem?_set_ne (Ne.symm hj)]
    by_cases hl : j < nFl.getD c 0
    · rw [pFs_at hl, pFs_at hl]
      simp [putF, up2, hj]
    · rw [List.getElem?_eq_none (by rw [pFs_len]; omega), List.getElem?_eq_none (by rw [pFs_len]; omega)]
theorem pE_putF {cy : Nat → ClassId} {G : pG} {σ : pS} {a c k : Nat} {v : Int32} (h : pK G a = c) (hc : c < 12) (hr : isR c k = false) (hk : k < nFl.getD c 0) :
    va_up (pE cy G σ) a (.inr (c, (pFs G σ c a).set k (.int v))) = pE cy G (putF σ a k v) := by
  funext b
  by_cases hb : b = a
  · subst hb
    rw [va_up_self, pE_obj h hc, pFs_set hr hk]
  · rw [va_up_ne _ _ hb]
    have e : ∀ c', pFs G (putF σ a k v) c' b = pFs G σ c' b := by
      intro c'
      simp [pFs, putF, up2, hb]
    simp only [pE, e]
    rfl
theorem pE_putA {cy : Nat → ClassId} {G : pG} {σ : pS} {a c : Nat} {f : Nat → Int32} (h : pK G a = c) (hc : c = 12 ∨ c = 13 ∨ c = 15) :
    va_up (pE cy G σ) a (.inl (cy (c - 12), pN G a, .inl f)) = pE cy G (rowA σ a f) := by
  funext b
  by_cases hb : b = a
  · subst hb
    rw [va_up_self, pE_int h hc]
    simp [rowA, va_up]
  · rw [va_up_ne _ _ hb]
    have e : ∀ c', pFs G (rowA σ a f) c' b = pFs G σ c' b := fun c' => rfl
    simp only [pE, e, rowA, va_up_ne _ _ hb]
    rfl
theorem pE_putJ {cy : Nat → ClassId} {G : pG} {σ : pS} {a : Nat} {f : Nat → Int64} (h : pK G a = 14) :
    va_up (pE cy G σ) a (.inl (cy 2, pN G a, .inr (.inl f))) = pE cy G (rowJ σ a f) := by
  funext b
  by_cases hb : b = a
  · subst hb
    rw [va_up_self, pE_long h]
    simp [rowJ, va_up]
  · rw [va_up_ne _ _ hb]
    have e : ∀ c', pFs G (rowJ σ a f) c' b = pFs G σ c' b := fun c' => rfl
    simp only [pE, e, rowJ, va_up_ne _ _ hb]
    rfl
theorem rowA_upd {σ : pS} {a i : Nat} {v : Int32} : rowA σ a (upd (σ.2.1 a) i v) = putA σ a i v := by
  simp only [rowA, putA, Prod.mk.injEq, true_and, and_true]
  funext b j
  by_cases hb : b = a
  · subst hb
    by_cases hj : j = i
    · subst hj; simp [va_up, up2, upd]
    · simp [va_up, up2, upd, hj]
  · simp [va_up, up2, hb]
/-! locals, by their places -/
def lvOk (ls : Array Slot) (nL : Nat) (lv : List (Option Value)) : Prop := ls.size = nL ∧ lv_wf ls ∧ ∀ (i : Nat) (v : Value), lv[i]? = some (some v) → ls[i]? = some (.val v)
def lvA (lv : List (Option Value)) : List (Nat × Value) := (List.range lv.length).filterMap (fun i => (lv.getD i none).map (fun v => (i, v)))
theorem lvA_mem {lv : List (Option Value)} {q : Nat × Value} : q ∈ lvA lv ↔ lv[q.1]? = some (some q.2) := by
  obtain ⟨i, v⟩ := q
  simp only [lvA, List.mem_filterMap, List.mem_range, Option.map_eq_some_iff, Prod.mk.injEq]
  constructor
  · rintro ⟨j, hj, w, hw, rfl, rfl⟩
    rw [List.getD_eq_getElem?_getD, List.getElem?_eq_getElem hj] at hw
    rw [List.getElem?_eq_getElem hj]
    simpa using hw
  · intro h
    have hi : i < lv.length := (List.getElem?_eq_some_iff.mp h).1
    exact ⟨i, hi, v, by rw [List.getD_eq_getElem?_getD, h]; rfl, rfl, rfl⟩
theorem lvOk.has {ls : Array Slot} {nL : Nat} {lv : List (Option Value)} (h : lvOk ls nL lv) : lv_has ls nL (lvA lv) := ⟨h.1, h.2.1, fun q hq => h.2.2 q.1 q.2 (lvA_mem.mp hq)⟩
/-- no long stands just before i -/
def noL (lv : List (Option Value)) (i : Nat) : Bool := match i with
  | 0 => true
  | j + 1 => match lv.getD j none with
    | some v => v.category == 1
    | none => true
theorem noL_spec {lv : List (Option Value)} {i j : Nat} {v : Value} (h : noL lv i = true) (hj : j + 1 = i) (hv : lv[j]? = some (some v)) : v.category = 1 := by
  subst hj
  simp only [noL, List.getD_eq_getElem?_getD, hv] at h
  simpa using h
theorem lvOk.st1 {ls : Array Slot} {nL i : Nat} {lv lv' : List (Option Value)} {v : Value} (h : lv_has ls nL ((i, v) :: (lvA lv).filter (fun q => !(q.1 == i) && !(q.1 + 1 == i && q.2.category == 2)))) (hn : noL lv i = true) (hl : lv.set i (some v) = lv') : lvOk ls nL lv' := by
  subst hl
  refine ⟨h.1, h.2.1, fun j w hj => ?_⟩
  by_cases hji : j = i
  · subst hji
    have hlt : j < lv.length := by have := (List.getElem?_eq_some_iff.mp hj).1; simpa using this
    rw [List.getElem?_set_self hlt] at hj
    cases hj
    exact h.2.2 (j, v) List.mem_cons_self
  · rw [List.getElem?_set_ne (Ne.symm hji)] at hj
    refine h.2.2 (j, w) (List.mem_cons_of_mem _ (List.mem_filter.mpr ⟨lvA_mem.mpr hj, ?_⟩))
    by_cases h1 : j + 1 = i
    · have := noL_spec hn h1 hj
      simp [hji, this]
    · simp [hji, h1]
/-! what a method stands on -/
abbrev MI : Type := String × ByteArray × Nat × Option FieldType × List (Nat × Nat × Nat × Nat)
abbrev ZZ : Type := List Frame → Array Value → State → (Nat → Prop) → va_G → (Nat → ClassId) → State → Prop
def XE (SK SV : Nat → Nat) (A : Nat → Prop) (U : State) (H : Heap) : Prop :=
  (∀ i : Nat, i < nStr → vk_S 1 [lenS.getD i 0] [bytS.getD i []] (fun _ => SK i) (fun _ => SK (1000 + i)) A U H) ∧ (∀ q ∈ rTab, vk_R q.1 q.2.1 q.2.2.1 (SK q.2.2.2) U) ∧ vx_Zq Bundle.tN "UNASSIGNED_STACK" Bundle.steD A U H ∧ vx_Zq Bundle.tN "SUPPRESSED_SENTINEL" Bundle.listD A U H ∧ (∀ q ∈ nTab, va_Nw (.methodLinkNest q.1 q.2.1 q.2.2.1 q.2.2.2) U) ∧ va_Z "java/lang/String" "COMPACT_STRINGS" "Z" (.int 1) A U H ∧ va_Zq "jdk/internal/util/Preconditions" "SIOOBE_FORMATTER" "Ljava/util/function/BiFunction;" A U H ∧ (∀ q ∈ cTab, va_Nw (.castable q.1 q.2) U) ∧ (∀ q ∈ dTab, va_Nw (.declares q) U) ∧ (∀ q ∈ ncTab, va_Nc q.1 q.2 U)
theorem XE.go {SK SV : Nat → Nat} {A B : Nat → Prop} {s U : State} {H H1 : Heap} (h : XE SK SV A s H) (hW : s.WarmedH U.vm) (hq : ∀ a : Nat, a < H.size → ¬ A a → H1[a]? = H[a]?) (hAB : ∀ q, B q → A q) : XE SK SV B U H1 :=
  ⟨fun i hi => (((h.1 i hi).moved hW.alike).kept hq).narrow hAB, fun q hm => (h.2.1 q hm).warm hW, ((h.2.2.1.moved hW.alike).kept hq).narrow hAB, ((h.2.2.2.1.moved hW.alike).kept hq).narrow hAB, fun q hm => (h.2.2.2.2.1 q hm).warmM hW, ((h.2.2.2.2.2.1.moved hW.alike).kept hq).narrow hAB, ((h.2.2.2.2.2.2.1.moved hW.alike).kept hq).narrow hAB, fun q hm => (h.2.2.2.2.2.2.2.1 q hm).warmC hW, fun q hm => (h.2.2.2.2.2.2.2.2.1 q hm).warmD hW, fun q hm => (h.2.2.2.2.2.2.2.2.2 q hm).moved hW.alike⟩
def EvC (Y : MI) (B : Nat × Nat × Nat) (l : Launch) (p : Program) (R : Room) (s : State) (m : MethodId) (args : Array Value) (meth : Method) (c : Code) (A : Nat → Prop) (D : va_G) (cy : Nat → ClassId) (SK SV : Nat → Nat) : Prop :=
  p.tables.exec = Jvm.exec ∧ c.code = Y.2.1 ∧ meth.sig.returnType = Y.2.2.2.1 ∧ c.maxLocals = Y.2.2.1 ∧ s.vm.findClass Y.1 = some m.cls ∧ (∀ w ∈ Gw, w.before args s = true) ∧ (meth.locks = false ∧ l.stackTraces = false ∧ c.exceptionTable.toList = tableOf Y.2.2.2.2) ∧ va_K D vwCl (tyC cy) s ∧ (B.1 ≤ R.frames ∧ 64 * B.1 ≤ R.locals ∧ B.2.1 ≤ R.cells ∧ B.2.2 ≤ R.slots) ∧ (∀ q, s.heap.size ≤ q → A q) ∧ XE SK SV A s s.heap
/-- the machine at pc, with locals lv and stack st, over the pool (G, σ): it comes to Z. B: frames, cells, slots that may be used; u: cells and slots used so far; SK: where the texts lie -/
def Ev (Y : MI) (B : Nat × Nat × Nat) (G : pG) (Z : ZZ) (SK : Nat → Nat) (u : Nat × Nat) (pc : Nat) (lv : List (Option Value)) (st : List Value) (σ : pS) : Prop :=
  ∀ (p : Program) (l : Launch) (e : Env) (R : Room) (s : State) (m : MethodId) (args : Array Value) (below : List Frame) (meth : Method) (c : Code) (H : Heap) (locs : List Loc) (A : Nat → Prop) (ls : Array Slot) (D : va_G) (cy : Nat → ClassId) (SV : Nat → Nat),
    EvC Y B l p R s m args meth c A D cy SK SV → va_P D vwCl (pool cy G σ) H → va_D A (pool cy G σ) → va_S A s.heap H locs → lvOk ls Y.2.2.1 lv →
    W p l e R s m args below meth c H locs u.1 u.2 (Z below args s A D cy) (F0 m pc ls st)
def Dc (Y : MI) (pc : Nat) (i : Instr) (n pc' : Nat) : Prop := decode Y.2.1 pc = .ok (i, n) ∧ pc + n = pc'
theorem pool_D {cy : Nat → ClassId} {G : pG} {σ σ1 : pS} {A : Nat → Prop} (h : va_D A (pool cy G σ)) : va_D A (pool cy G σ1) := by
  have key : ∀ (k : Nat) (q : Nat × va_E), (pool cy G σ1)[k]? = some q → ∃ q', (pool cy G σ)[k]? = some q' ∧ q'.1 = q.1 := by
    intro k q hk
    simp only [pool, va_pl, List.getElem?_map, Option.map_eq_some_iff] at hk ⊢
    obtain ⟨a, ha, rfl⟩ := hk
    exact ⟨(a, pE cy G σ a), ⟨a, ha, rfl⟩, rfl⟩
  refine ⟨fun i j x y hx hy hxy => ?_, fun k q hk => ?_⟩
  · obtain ⟨x', h1, e1⟩ := key i x hx
    obtain ⟨y', h2, e2⟩ := key j y hy
    exact h.1 i j x' y' h1 h2 (by rw [e1, e2]; exact hxy)
  · obtain ⟨q', h1, e1⟩ := key k q hk
    rw [← e1]
    exact h.2 k q' h1
def rmD (d mc ms : Nat) : Room := { frames := d, cells := mc, slots := ms, locals := 64 * d }
def Qcc (D : va_G) (cy : Nat → ClassId) (G : pG) (o : Option Value) (σ' : pS) (A : Nat → Prop) : Array Value → State → Outcome → State → Prop := fun _ st oc t => oc = .returned o ∧ va_P D vwCl (pool cy G σ') t.heap ∧ va_K D vwCl (tyC cy) t ∧ va_D A (pool cy G σ') ∧ va_F A st t
def Zp (G : pG) (o : Option Value) (σ' : pS) : ZZ := fun below args s A D cy => MQ below (Qcc D cy G o σ' A) args s 0 0 A
def Pcc (D : va_G) (cy : Nat → ClassId) (G : pG) (σ : pS) (SK SV : Nat → Nat) (sz : Nat) (av : List Value) : Array Value → State → Prop := va_Pc av (fun U => U.heap.size = sz ∧ va_P D vwCl (pool cy G σ) U.heap ∧ va_K D vwCl (tyC cy) U ∧ va_D (fun _ => True) (pool cy G σ) ∧ XE SK SV (va_A (pool cy G σ) sz) U U.heap)
/-- THE CONTRACT: called with av over the pool (G, σ), the method returns o, the pool is (G, σ') -/
def Dn (Y : MI) (y : MethodName) (d : Nat) (G : pG) (SK : Nat → Nat) (av : List Value) (σ : pS) (o : Option Value) (σ' : pS) : Prop :=
  ∀ (l : Launch) (_ : l.stackTraces = false) (D : va_G) (cy : Nat → ClassId) (SV : Nat → Nat) (sz : Nat), Met l y (Cond.code y Y.2.1 Y.2.2.1 Y.2.2.2.1 :: Gw) (rmD d 0 0) (Pcc D cy G σ SK SV sz av) (Qcc D cy G o σ' (va_A (pool cy G σ) sz)) 0 0 (va_A (pool cy G σ) sz)
theorem Pcc_blind {D : va_G} {cy : Nat → ClassId} {G : pG} {σ : pS} {SK SV : Nat → Nat} {sz : Nat} {av : List Value} : FrameBlind (Pcc D cy G σ SK SV sz av) := by
  intro a U g mk q
  obtain ⟨q0, q1, qP, qK, qD, qX⟩ := q
  exact ⟨q0, q1, qP, va_K.moved (u := U) (U := U.calling g mk a) (Vm.Alike.refl U.vm) qK, qD, XE.go qX (State.WarmedH.refl U) (fun _ _ _ => rfl) (fun _ h => h)⟩
theorem dn_of {Y : MI} {y : MethodName} {d : Nat} {G : pG} {SK : Nat → Nat} {av : List Value} {σ : pS} {o : Option Value} {σ' : pS} {lv : List (Option Value)} (hy : plainName y.cls = true) (hY : y.cls = Y.1) (hh : Y.2.2.2.2 = []) (hlen : (lg_sl av).length ≤ Y.2.2.1) (hlv : lvA lv = lv_args 0 av)
    (k : Ev Y (d, 0, 0) G (Zp G o σ') SK (0, 0) 0 lv [] σ) : Dn Y y d G SK av σ o σ' := by
  intro l hst D cy SV sz
  refine Met.ofW (cc := Y.2.1) (maxL := Y.2.2.1) (ret := Y.2.2.2.1) hy rfl ?_
  intro p e s m args below meth c s₁ B hml hv
  obtain ⟨rfl, hsz, hP, hK, hD0, hX⟩ := hv
  have hts := atoms_spec (ws := Cond.code y Y.2.1 Y.2.2.1 Y.2.2.2.1 :: Gw) B.pre
  have hown : s.vm.findClass Y.1 = some m.cls := hY ▸ findClass_of_methodNamed B.named
  have ht : c.exceptionTable.toList = tableOf Y.2.2.2.2 := by
    obtain ⟨meth9, c9, h1, h2, -, -, -, -, h7, -⟩ := Cond.code_spec B.named (hts _ List.mem_cons_self)
    cases Option.some.inj (h1.symm.trans B.method)
    cases Option.some.inj (h2.symm.trans (Stand.of_body B).code)
    rw [Array.isEmpty_iff.mp h7, hh]
    rfl
  subst hsz
  have hD := hD0.self (sz := s.heap.size)
  have hl := lv_entry av hlen
  rw [lg_entry_eq]
  generalize (lg_sl av ++ List.replicate (Y.2.2.1 - (lg_sl av).length) Slot.unset).toArray = ls at hl ⊢
  have hl' : lvOk ls Y.2.2.1 lv := ⟨hl.1, hl.2.1, fun i v h => hl.2.2 (i, v) (by rw [← hlv]; exact lvA_mem.mpr h)⟩
  exact k p l e _ s m _ below meth c s.heap [] (va_A (pool cy G σ) s.heap.size) ls D cy SV ⟨B.exec, B.bytes, B.returns, hml, hown, fun w hw => hts w (List.mem_cons_of_mem _ hw), ⟨B.notSynchronized, hst, ht⟩, hK, ⟨Nat.le_refl _, Nat.le_refl _, Nat.zero_le _, Nat.zero_le _⟩, fun q h => Or.inr h, hX⟩ hP hD va_S.rf hl'
/-! the rows -/
section EvRows
variable {Y : MI} {B : Nat × Nat × Nat} {G : pG} {Z : ZZ} {SK : Nat → Nat} {u : Nat × Nat} {pc pc' : Nat} {lv lv' : List (Option Value)} {st : List Value} {σ : pS}
theorem ev_iconst {n : Int} {v : Int32} (hd : Dc Y pc (.iconst n) 1 pc') (hv : Int32.ofInt n = v) (k : Ev Y B G Z SK u pc' lv (.int v :: st) σ) : Ev Y B G Z SK u pc lv st σ := by
  obtain ⟨hd, rfl⟩ := hd
  intro p l e R s m args below meth c H locs A ls D cy SV C hP hD hS hl
  exact lv_iconst C.1 C.2.1 hd hv (k p l e R s m args below meth c H locs A ls D cy SV C hP hD hS hl)
theorem ev_bipush {n : Int} {v : Int32} (hd : Dc Y pc (.bipush n) 2 pc') (hv : (Int8.ofInt n).toInt32 = v) (k : Ev Y B G Z SK u pc' lv (.int v :: st) σ) : Ev Y B G Z SK u pc lv st σ := by
  obtain ⟨hd, rfl⟩ := hd
  intro p l e R s m args below meth c H locs A ls D cy SV C hP hD hS hl
  exact lv_bipush C.1 C.2.1 hd hv (k p l e R s m args below meth c H locs A ls D cy SV C hP hD hS hl)
theorem ev_sipush {n : Int} {v : Int32} (hd : Dc Y pc (.sipush n) 3 pc') (hv : (Int16.ofInt n).toInt32 = v) (k : Ev Y B G Z SK u pc' lv (.int v :: st) σ) : Ev Y B G Z SK u pc lv st σ := by
  obtain ⟨hd, rfl⟩ := hd
  intro p l e R s m args below meth c H locs A ls D cy SV C hP hD hS hl
  exact lv_sipush C.1 C.2.1 hd hv (k p l e R s m args below meth c H locs A ls D cy SV C hP hD hS hl)
theorem ev_lconst {n : Fin 2} {v : Int64} (hd : Dc Y pc (.lconst n) 1 pc') (hv : Int64.ofNat (n : Nat) = v) (k : Ev Y B G Z SK u pc' lv (.long v :: st) σ) : Ev Y B G Z SK u pc lv st σ := by
  obtain ⟨hd, rfl⟩ := hd
  intro p l e R s m args below meth c H locs A ls D cy SV C hP hD hS hl
  exact lv_lconst C.1 C.2.1 hd hv (k p l e R s m args below meth c H locs A ls D cy SV C hP hD hS hl)
theorem ev_ldc {i : Nat} {v : Int32} (hd : Dc Y pc (.ldc i) 2 pc') (hw : Cond.constant Y.1 i v ∈ Gw) (k : Ev Y B G Z SK u pc' lv (.int v :: st) σ) : Ev Y B G Z SK u pc lv st σ := by
  obtain ⟨hd, rfl⟩ := hd
  intro p l e R s m args below meth c H locs A ls D cy SV C hP hD hS hl
  exact lv_ldc C.1 C.2.1 C.2.2.2.2.1 (C.2.2.2.2.2.1 _ hw) hd (k p l e R s m args below meth c H locs A ls D cy SV C hP hD hS hl)
theorem ev_ldcw {i : Nat} {v : Int32} (hd : Dc Y pc (.ldc_w i) 3 pc') (hw : Cond.constant Y.1 i v ∈ Gw) (k : Ev Y B G Z SK u pc' lv (.int v :: st) σ) : Ev Y B G Z SK u pc lv st σ := by
  obtain ⟨hd, rfl⟩ := hd
  intro p l e R s m args below meth c H locs A ls D cy SV C hP hD hS hl
  exact lv_ldcw C.1 C.2.1 C.2.2.2.2.1 (C.2.2.2.2.2.1 _ hw) hd (k p l e R s m args below meth c H locs A ls D cy SV C hP hD hS hl)
theorem ev_ldcS {i sid : Nat} {tx : String} (hd : Dc Y pc (.ldc i) 2 pc') (hw : (Y.1, i, tx, sid) ∈ rTab) (k : Ev Y B G Z SK u pc' lv (.ref (SK sid) :: st) σ) : Ev Y B G Z SK u pc lv st σ := by
  obtain ⟨hd, rfl⟩ := hd
  intro p l e R s m args below meth c H locs A ls D cy SV C hP hD hS hl
  exact va_ldcS C.1 C.2.1 C.2.2.2.2.1 (C.2.2.2.2.2.2.2.2.2.2.2.1 _ hw) hd (k p l e R s m args below meth c H locs A ls D cy SV C hP hD hS hl)
theorem ev_iload {i : Nat} {x : Int32} (hd : Dc Y pc (.iload i) 2 pc') (hx : lv[i]? = some (some (.int x))) (k : Ev Y B G Z SK u pc' lv (.int x :: st) σ) : Ev Y B G Z SK u pc lv st σ := by
  obtain ⟨hd, rfl⟩ := hd
  intro p l e R s m args below meth c H locs A ls D cy SV C hP hD hS hl
  exact lv_iload C.1 C.2.1 hd (hl.2.2 _ _ hx) (k p l e R s m args below meth c H locs A ls D cy SV C hP hD hS hl)
theorem ev_iload_n {i : Fin 4} {x : Int32} (hd : Dc Y pc (.iload_n i) 1 pc') (hx : lv[(i : Nat)]? = some (some (.int x))) (k : Ev Y B G Z SK u pc' lv (.int x :: st) σ) : Ev Y B G Z SK u pc lv st σ := by
  obtain ⟨hd, rfl⟩ := hd
  intro p l e R s m args below meth c H locs A ls D cy SV C hP hD hS hl
  exact lv_iload_n C.1 C.2.1 hd rfl (hl.2.2 _ _ hx) (k p l e R s m args below meth c H locs A ls D cy SV C hP hD hS hl)
theorem ev_aload {i : Nat} {x : Nat} (hd : Dc Y pc (.aload i) 2 pc') (hx : lv[i]? = some (some (.ref x))) (k : Ev Y B G Z SK u pc' lv (.ref x :: st) σ) : Ev Y B G Z SK u pc lv st σ := by
  obtain ⟨hd, rfl⟩ := hd
  intro p l e R s m args below meth c H locs A ls D cy SV C hP hD hS hl
  exact lv_aload C.1 C.2.1 hd (hl.2.2 _ _ hx) (k p l e R s m args below meth c H locs A ls D cy SV C hP hD hS hl)
theorem ev_aload_n {i : Fin 4} {x : Nat} (hd : Dc Y pc (.aload_n i) 1 pc') (hx : lv[(i : Nat)]? = some (some (.ref x))) (k : Ev Y B G Z SK u pc' lv (.ref x :: st) σ) : Ev Y B G Z SK u pc lv st σ := by
  obtain ⟨hd, rfl⟩ := hd
  intro p l e R s m args below meth c H locs A ls D cy SV C hP hD hS hl
  exact lv_aload_n C.1 C.2.1 hd rfl (hl.2.2 _ _ hx) (k p l e R s m args below meth c H locs A ls D cy SV C hP hD hS hl)
theorem ev_lload {i : Nat} {x : Int64} (hd : Dc Y pc (.lload i) 2 pc') (hx : lv[i]? = some (some (.long x))) (k : Ev Y B G Z SK u pc' lv (.long x :: st) σ) : Ev Y B G Z SK u pc lv st σ := by
  obtain ⟨hd, rfl⟩ := hd
  intro p l e R s m args below meth c H locs A ls D cy SV C hP hD hS hl
  exact lv_lload C.1 C.2.1 hd (hl.2.2 _ _ hx) (k p l e R s m args below meth c H locs A ls D cy SV C hP hD hS hl)
theorem ev_istore {i : Nat} {x : Int32} (hd : Dc Y pc (.istore i) 2 pc') (hn : noL lv i = true) (hi : i < Y.2.2.1) (hs : lv.set i (some (.int x)) = lv') (k : Ev Y B G Z SK u pc' lv' st σ) : Ev Y B G Z SK u pc lv (.int x :: st) σ := by
  obtain ⟨hd, rfl⟩ := hd
  intro p l e R s m args below meth c H locs A ls D cy SV C hP hD hS hl
  exact lv_istore C.1 C.2.1 hd hl.has hi rfl (fun ls hl => k p l e R s m args below meth c H locs A ls D cy SV C hP hD hS (lvOk.st1 hl hn hs))
theorem ev_istore_n {i : Fin 4} {x : Int32} (hd : Dc Y pc (.istore_n i) 1 pc') (hn : noL lv (i : Nat) = true) (hi : (i : Nat) < Y.2.2.1) (hs : lv.set (i : Nat) (some (.int x)) = lv') (k : Ev Y B G Z SK u pc' lv' st σ) : Ev Y B G Z SK u pc lv (.int x :: st) σ := by
  obtain ⟨hd, rfl⟩ := hd
  intro p l e R s m args below meth c H locs A ls D cy SV C hP hD hS hl
  exact lv_istore_n C.1 C.2.1 hd rfl hl.has hi rfl (fun ls hl => k p l e R s m args below meth c H locs A ls D cy SV C hP hD hS (lvOk.st1 hl hn hs))
theorem ev_astore {i : Nat} {x : Nat} (hd : Dc Y pc (.astore i) 2 pc') (hn : noL lv i = true) (hi : i < Y.2.2.1) (hs : lv.set i (some (.ref x)) = lv') (k : Ev Y B G Z SK u pc' lv' st σ) : Ev Y B G Z SK u pc lv (.ref x :: st) σ := by
  obtain ⟨hd, rfl⟩ := hd
  intro p l e R s m args below meth c H locs A ls D cy SV C hP hD hS hl
  exact lv_astore C.1 C.2.1 hd hl.has hi rfl (fun ls hl => k p l e R s m args below meth c H locs A ls D cy SV C hP hD hS (lvOk.st1 hl hn hs))
theorem ev_astore_n {i : Fin 4} {x : Nat} (hd : Dc Y pc (.astore_n i) 1 pc') (hn : noL lv (i : Nat) = true) (hi : (i : Nat) < Y.2.2.1) (hs : lv.set (i : Nat) (some (.ref x)) = lv') (k : Ev Y B G Z SK u pc' lv' st σ) : Ev Y B G Z SK u pc lv (.ref x :: st) σ := by
  obtain ⟨hd, rfl⟩ := hd
  intro p l e R s m args below meth c H locs A ls D cy SV C hP hD hS hl
  exact lv_astore_n C.1 C.2.1 hd rfl hl.has hi rfl (fun ls hl => k p l e R s m args below meth c H locs A ls D cy SV C hP hD hS (lvOk.st1 hl hn hs))
theorem ev_iinc {i : Nat} {n : Int} {x v : Int32} (hd : Dc Y pc (.iinc i n) 3 pc') (hx : lv[i]? = some (some (.int x))) (hv : Int32.ofInt n = v) (hn : noL lv i = true) (hi : i < Y.2.2.1) (hs : lv.set i (some (.int (x + v))) = lv') (k : Ev Y B G Z SK u pc' lv' st σ) : Ev Y B G Z SK u pc lv st σ := by
  obtain ⟨hd, rfl⟩ := hd
  subst hv
  intro p l e R s m args below meth c H locs A ls D cy SV C hP hD hS hl
  obtain ⟨j, hj⟩ := List.getElem?_of_mem ((lvA_mem (q := (i, .int x))).mpr hx)
  exact lv_iinc C.1 C.2.1 hd hl.has hj rfl hi rfl (fun ls hl => k p l e R s m args below meth c H locs A ls D cy SV C hP hD hS (lvOk.st1 hl hn hs))
theorem ev_iadd {x y : Int32} (hd : Dc Y pc (.iadd) 1 pc') (k : Ev Y B G Z SK u pc' lv (.int (x + y) :: st) σ) : Ev Y B G Z SK u pc lv (.int y :: .int x :: st) σ := by
  obtain ⟨hd, rfl⟩ := hd
  intro p l e R s m args below meth c H locs A ls D cy SV C hP hD hS hl
  exact lv_iadd C.1 C.2.1 hd (k p l e R s m args below meth c H locs A ls D cy SV C hP hD hS hl)
theorem ev_isub {x y : Int32} (hd : Dc Y pc (.isub) 1 pc') (k : Ev Y B G Z SK u pc' lv (.int (x - y) :: st) σ) : Ev Y B G Z SK u pc lv (.int y :: .int x :: st) σ := by
  obtain ⟨hd, rfl⟩ := hd
  intro p l e R s m args below meth c H locs A ls D cy SV C hP hD hS hl
  exact lv_isub C.1 C.2.1 hd (k p l e R s m args below meth c H locs A ls D cy SV C hP hD hS hl)
theorem ev_imul {x y : Int32} (hd : Dc Y pc (.imul) 1 pc') (k : Ev Y B G Z SK u pc' lv (.int (x * y) :: st) σ) : Ev Y B G Z SK u pc lv (.int y :: .int x :: st) σ := by
  obtain ⟨hd, rfl⟩ := hd
  intro p l e R s m args below meth c H locs A ls D cy SV C hP hD hS hl
  exact lv_imul C.1 C.2.1 hd (k p l e R s m args below meth c H locs A ls D cy SV C hP hD hS hl)
theorem ev_iand {x y : Int32} (hd : Dc Y pc (.iand) 1 pc') (k : Ev Y B G Z SK u pc' lv (.int (x &&& y) :: st) σ) : Ev Y B G Z SK u pc lv (.int y :: .int x :: st) σ := by
  obtain ⟨hd, rfl⟩ := hd
  intro p l e R s m args below meth c H locs A ls D cy SV C hP hD hS hl
  exact lv_iand C.1 C.2.1 hd (k p l e R s m args below meth c H locs A ls D cy SV C hP hD hS hl)
theorem ev_ior {x y : Int32} (hd : Dc Y pc (.ior) 1 pc') (k : Ev Y B G Z SK u pc' lv (.int (x ||| y) :: st) σ) : Ev Y B G Z SK u pc lv (.int y :: .int x :: st) σ := by
  obtain ⟨hd, rfl⟩ := hd
  intro p l e R s m args below meth c H locs A ls D cy SV C hP hD hS hl
  exact lv_ior C.1 C.2.1 hd (k p l e R s m args below meth c H locs A ls D cy SV C hP hD hS hl)
theorem ev_ixor {x y : Int32} (hd : Dc Y pc (.ixor) 1 pc') (k : Ev Y B G Z SK u pc' lv (.int (x ^^^ y) :: st) σ) : Ev Y B G Z SK u pc lv (.int y :: .int x :: st) σ := by
  obtain ⟨hd, rfl⟩ := hd
  intro p l e R s m args below meth c H locs A ls D cy SV C hP hD hS hl
  exact lv_ixor C.1 C.2.1 hd (k p l e R s m args below meth c H locs A ls D cy SV C hP hD hS hl)
theorem ev_ishl {x y : Int32} (hd : Dc Y pc (.ishl) 1 pc') (k : Ev Y B G Z SK u pc' lv (.int (x <<< (y &&& 31)) :: st) σ) : Ev Y B G Z SK u pc lv (.int y :: .int x :: st) σ := by
  obtain ⟨hd, rfl⟩ := hd
  intro p l e R s m args below meth c H locs A ls D cy SV C hP hD hS hl
  exact lv_ishl C.1 C.2.1 hd (k p l e R s m args below meth c H locs A ls D cy SV C hP hD hS hl)
theorem ev_ishr {x y : Int32} (hd : Dc Y pc (.ishr) 1 pc') (k : Ev Y B G Z SK u pc' lv (.int (x >>> (y &&& 31)) :: st) σ) : Ev Y B G Z SK u pc lv (.int y :: .int x :: st) σ := by
  obtain ⟨hd, rfl⟩ := hd
  intro p l e R s m args below meth c H locs A ls D cy SV C hP hD hS hl
  exact lv_ishr C.1 C.2.1 hd (k p l e R s m args below meth c H locs A ls D cy SV C hP hD hS hl)
def jrem (x y : Int32) : Int32 := x - x / y * y
def jushr (x y : Int32) : Int32 := (x.toUInt32 >>> (y.toUInt32 &&& Int32.toUInt32 31)).toInt32
def jlushr (x : Int64) (y : Int32) : Int64 := (x.toUInt64 >>> (y.toInt64.toUInt64 &&& Int64.toUInt64 63)).toInt64
def jlshl (x : Int64) (y : Int32) : Int64 := x <<< (y.toInt64 &&& 63)
def jmax (x y : Int32) : Int32 := if x < y then y else x
def jmin (x y : Int32) : Int32 := if y < x then y else x
theorem ev_idiv {x y : Int32} (hd : Dc Y pc (.idiv) 1 pc') (h0 : ¬ y = 0) (k : Ev Y B G Z SK u pc' lv (.int (x / y) :: st) σ) : Ev Y B G Z SK u pc lv (.int y :: .int x :: st) σ := by
  obtain ⟨hd, rfl⟩ := hd
  intro p l e R s m args below meth c H locs A ls D cy SV C hP hD hS hl
  exact lv_idiv C.1 C.2.1 hd h0 (k p l e R s m args below meth c H locs A ls D cy SV C hP hD hS hl)
theorem ev_irem {x y : Int32} (hd : Dc Y pc (.irem) 1 pc') (h0 : ¬ y = 0) (k : Ev Y B G Z SK u pc' lv (.int (jrem x y) :: st) σ) : Ev Y B G Z SK u pc lv (.int y :: .int x :: st) σ := by
  obtain ⟨hd, rfl⟩ := hd
  intro p l e R s m args below meth c H locs A ls D cy SV C hP hD hS hl
  exact lv_irem C.1 C.2.1 hd h0 (k p l e R s m args below meth c H locs A ls D cy SV C hP hD hS hl)
theorem ev_iushr {x y : Int32} (hd : Dc Y pc (.iushr) 1 pc') (k : Ev Y B G Z SK u pc' lv (.int (jushr x y) :: st) σ) : Ev Y B G Z SK u pc lv (.int y :: .int x :: st) σ := by
  obtain ⟨hd, rfl⟩ := hd
  intro p l e R s m args below meth c H locs A ls D cy SV C hP hD hS hl
  exact lv_iushr C.1 C.2.1 hd rfl (k p l e R s m args below meth c H locs A ls D cy SV C hP hD hS hl)
theorem ev_lushr {x : Int64} {y : Int32} (hd : Dc Y pc (.lushr) 1 pc') (k : Ev Y B G Z SK u pc' lv (.long (jlushr x y) :: st) σ) : Ev Y B G Z SK u pc lv (.int y :: .long x :: st) σ := by
  obtain ⟨hd, rfl⟩ := hd
  intro p l e R s m args below meth c H locs A ls D cy SV C hP hD hS hl
  exact lv_lushr C.1 C.2.1 hd rfl (k p l e R s m args below meth c H locs A ls D cy SV C hP hD hS hl)
theorem ev_lshl {x : Int64} {y : Int32} (hd : Dc Y pc (.lshl) 1 pc') (k : Ev Y B G Z SK u pc' lv (.long (jlshl x y) :: st) σ) : Ev Y B G Z SK u pc lv (.int y :: .long x :: st) σ := by
  obtain ⟨hd, rfl⟩ := hd
  intro p l e R s m args below meth c H locs A ls D cy SV C hP hD hS hl
  exact lv_lshl C.1 C.2.1 hd rfl (k p l e R s m args below meth c H locs A ls D cy SV C hP hD hS hl)
theorem ev_land {x y : Int64} (hd : Dc Y pc (.land) 1 pc') (k : Ev Y B G Z SK u pc' lv (.long (x &&& y) :: st) σ) : Ev Y B G Z SK u pc lv (.long y :: .long x :: st) σ := by
  obtain ⟨hd, rfl⟩ := hd
  intro p l e R s m args below meth c H locs A ls D cy SV C hP hD hS hl
  exact lv_land C.1 C.2.1 hd (k p l e R s m args below meth c H locs A ls D cy SV C hP hD hS hl)
theorem ev_lor {x y : Int64} (hd : Dc Y pc (.lor) 1 pc') (k : Ev Y B G Z SK u pc' lv (.long (x ||| y) :: st) σ) : Ev Y B G Z SK u pc lv (.long y :: .long x :: st) σ := by
  obtain ⟨hd, rfl⟩ := hd
  intro p l e R s m args below meth c H locs A ls D cy SV C hP hD hS hl
  exact lv_lor C.1 C.2.1 hd (k p l e R s m args below meth c H locs A ls D cy SV C hP hD hS hl)
theorem ev_i2l {x : Int32} (hd : Dc Y pc (.i2l) 1 pc') (k : Ev Y B G Z SK u pc' lv (.long x.toInt64 :: st) σ) : Ev Y B G Z SK u pc lv (.int x :: st) σ := by
  obtain ⟨hd, rfl⟩ := hd
  intro p l e R s m args below meth c H locs A ls D cy SV C hP hD hS hl
  exact lv_i2l C.1 C.2.1 hd rfl (k p l e R s m args below meth c H locs A ls D cy SV C hP hD hS hl)
theorem ev_i2b {x : Int32} (hd : Dc Y pc (.i2b) 1 pc') (k : Ev Y B G Z SK u pc' lv (.int x.toInt8.toInt32 :: st) σ) : Ev Y B G Z SK u pc lv (.int x :: st) σ := by
  obtain ⟨hd, rfl⟩ := hd
  intro p l e R s m args below meth c H locs A ls D cy SV C hP hD hS hl
  exact lv_i2b C.1 C.2.1 hd rfl (k p l e R s m args below meth c H locs A ls D cy SV C hP hD hS hl)
theorem ev_dup {a : Value} (hd : Dc Y pc (.dup) 1 pc') (ha : a.category = 1) (k : Ev Y B G Z SK u pc' lv (a :: a :: st) σ) : Ev Y B G Z SK u pc lv (a :: st) σ := by
  obtain ⟨hd, rfl⟩ := hd
  intro p l e R s m args below meth c H locs A ls D cy SV C hP hD hS hl
  exact lv_dup C.1 C.2.1 hd ha (k p l e R s m args below meth c H locs A ls D cy SV C hP hD hS hl)
theorem ev_pop {a : Value} (hd : Dc Y pc (.pop) 1 pc') (ha : a.category = 1) (k : Ev Y B G Z SK u pc' lv (st) σ) : Ev Y B G Z SK u pc lv (a :: st) σ := by
  obtain ⟨hd, rfl⟩ := hd
  intro p l e R s m args below meth c H locs A ls D cy SV C hP hD hS hl
  exact lv_pop C.1 C.2.1 hd ha (k p l e R s m args below meth c H locs A ls D cy SV C hP hD hS hl)
theorem ev_dup2 {a b : Value} (hd : Dc Y pc (.dup2) 1 pc') (ha : a.category = 1) (hb : b.category = 1) (k : Ev Y B G Z SK u pc' lv (a :: b :: a :: b :: st) σ) : Ev Y B G Z SK u pc lv (a :: b :: st) σ := by
  obtain ⟨hd, rfl⟩ := hd
  intro p l e R s m args below meth c H locs A ls D cy SV C hP hD hS hl
  exact lv_dup2_11 C.1 C.2.1 hd ha hb (k p l e R s m args below meth c H locs A ls D cy SV C hP hD hS hl)
theorem ev_if_eq {α : Type} {x : Int32} {off : Int} {tgt : Nat} {P Q : Option α} {r : α} (hd : Dc Y pc (.ifCond .eq off) 3 pc') (ht : (pc : Int) + off = (tgt : Int)) (h : (if x = 0 then P else Q) = some r) (kp : P = some r → Ev Y B G Z SK u tgt lv st σ) (kq : Q = some r → Ev Y B G Z SK u pc' lv st σ) : Ev Y B G Z SK u pc lv (.int x :: st) σ := by
  obtain ⟨hd, rfl⟩ := hd
  intro p l e R s m args below meth c H locs A ls D cy SV C hP hD hS hl
  exact lv_if_eq C.1 C.2.1 hd ht (fun z => (kp (by rw [if_pos z] at h; exact h) p l e R s m args below meth c H locs A ls D cy SV C hP hD hS hl)) (fun z => (kq (by rw [if_neg z] at h; exact h) p l e R s m args below meth c H locs A ls D cy SV C hP hD hS hl))
theorem ev_if_ne {α : Type} {x : Int32} {off : Int} {tgt : Nat} {P Q : Option α} {r : α} (hd : Dc Y pc (.ifCond .ne off) 3 pc') (ht : (pc : Int) + off = (tgt : Int)) (h : (if x = 0 then P else Q) = some r) (kp : P = some r → Ev Y B G Z SK u pc' lv st σ) (kq : Q = some r → Ev Y B G Z SK u tgt lv st σ) : Ev Y B G Z SK u pc lv (.int x :: st) σ := by
  obtain ⟨hd, rfl⟩ := hd
  intro p l e R s m args below meth c H locs A ls D cy SV C hP hD hS hl
  exact lv_if_ne C.1 C.2.1 hd ht (fun z => (kq (by rw [if_neg z] at h; exact h) p l e R s m args below meth c H locs A ls D cy SV C hP hD hS hl)) (fun z => (kp (by rw [if_pos z] at h; exact h) p l e R s m args below meth c H locs A ls D cy SV C hP hD hS hl))
theorem ev_if_lt {α : Type} {x : Int32} {off : Int} {tgt : Nat} {P Q : Option α} {r : α} (hd : Dc Y pc (.ifCond .lt off) 3 pc') (ht : (pc : Int) + off = (tgt : Int)) (h : (if x < 0 then P else Q) = some r) (kp : P = some r → Ev Y B G Z SK u tgt lv st σ) (kq : Q = some r → Ev Y B G Z SK u pc' lv st σ) : Ev Y B G Z SK u pc lv (.int x :: st) σ := by
  obtain ⟨hd, rfl⟩ := hd
  intro p l e R s m args below meth c H locs A ls D cy SV C hP hD hS hl
  exact lv_if_lt C.1 C.2.1 hd ht (fun z => (kp (by rw [if_pos z] at h; exact h) p l e R s m args below meth c H locs A ls D cy SV C hP hD hS hl)) (fun z => (kq (by rw [if_neg z] at h; exact h) p l e R s m args below meth c H locs A ls D cy SV C hP hD hS hl))
theorem ev_if_ge {α : Type} {x : Int32} {off : Int} {tgt : Nat} {P Q : Option α} {r : α} (hd : Dc Y pc (.ifCond .ge off) 3 pc') (ht : (pc : Int) + off = (tgt : Int)) (h : (if 0 ≤ x then P else Q) = some r) (kp : P = some r → Ev Y B G Z SK u tgt lv st σ) (kq : Q = some r → Ev Y B G Z SK u pc' lv st σ) : Ev Y B G Z SK u pc lv (.int x :: st) σ := by
  obtain ⟨hd, rfl⟩ := hd
  intro p l e R s m args below meth c H locs A ls D cy SV C hP hD hS hl
  exact lv_if_ge C.1 C.2.1 hd ht (fun z => (kp (by rw [if_pos z] at h; exact h) p l e R s m args below meth c H locs A ls D cy SV C hP hD hS hl)) (fun z => (kq (by rw [if_neg z] at h; exact h) p l e R s m args below meth c H locs A ls D cy SV C hP hD hS hl))
theorem ev_if_gt {α : Type} {x : Int32} {off : Int} {tgt : Nat} {P Q : Option α} {r : α} (hd : Dc Y pc (.ifCond .gt off) 3 pc') (ht : (pc : Int) + off = (tgt : Int)) (h : (if 0 < x then P else Q) = some r) (kp : P = some r → Ev Y B G Z SK u tgt lv st σ) (kq : Q = some r → Ev Y B G Z SK u pc' lv st σ) : Ev Y B G Z SK u pc lv (.int x :: st) σ := by
  obtain ⟨hd, rfl⟩ := hd
  intro p l e R s m args below meth c H locs A ls D cy SV C hP hD hS hl
  exact lv_if_gt C.1 C.2.1 hd ht (fun z => (kp (by rw [if_pos z] at h; exact h) p l e R s m args below meth c H locs A ls D cy SV C hP hD hS hl)) (fun z => (kq (by rw [if_neg z] at h; exact h) p l e R s m args below meth c H locs A ls D cy SV C hP hD hS hl))
theorem ev_if_le {α : Type} {x : Int32} {off : Int} {tgt : Nat} {P Q : Option α} {r : α} (hd : Dc Y pc (.ifCond .le off) 3 pc') (ht : (pc : Int) + off = (tgt : Int)) (h : (if x ≤ 0 then P else Q) = some r) (kp : P = some r → Ev Y B G Z SK u tgt lv st σ) (kq : Q = some r → Ev Y B G Z SK u pc' lv st σ) : Ev Y B G Z SK u pc lv (.int x :: st) σ := by
  obtain ⟨hd, rfl⟩ := hd
  intro p l e R s m args below meth c H locs A ls D cy SV C hP hD hS hl
  exact lv_if_le C.1 C.2.1 hd ht (fun z => (kp (by rw [if_pos z] at h; exact h) p l e R s m args below meth c H locs A ls D cy SV C hP hD hS hl)) (fun z => (kq (by rw [if_neg z] at h; exact h) p l e R s m args below meth c H locs A ls D cy SV C hP hD hS hl))
theorem ev_icmp_eq {α : Type} {x y : Int32} {off : Int} {tgt : Nat} {P Q : Option α} {r : α} (hd : Dc Y pc (.if_icmp .eq off) 3 pc') (ht : (pc : Int) + off = (tgt : Int)) (h : (if x = y then P else Q) = some r) (kp : P = some r → Ev Y B G Z SK u tgt lv st σ) (kq : Q = some r → Ev Y B G Z SK u pc' lv st σ) : Ev Y B G Z SK u pc lv (.int y :: .int x :: st) σ := by
  obtain ⟨hd, rfl⟩ := hd
  intro p l e R s m args below meth c H locs A ls D cy SV C hP hD hS hl
  exact lv_icmp_eq C.1 C.2.1 hd ht (fun z => (kp (by rw [if_pos z] at h; exact h) p l e R s m args below meth c H locs A ls D cy SV C hP hD hS hl)) (fun z => (kq (by rw [if_neg z] at h; exact h) p l e R s m args below meth c H locs A ls D cy SV C hP hD hS hl))
theorem ev_icmp_ne {α : Type} {x y : Int32} {off : Int} {tgt : Nat} {P Q : Option α} {r : α} (hd : Dc Y pc (.if_icmp .ne off) 3 pc') (ht : (pc : Int) + off = (tgt : Int)) (h : (if x = y then P else Q) = some r) (kp : P = some r → Ev Y B G Z SK u pc' lv st σ) (kq : Q = some r → Ev Y B G Z SK u tgt lv st σ) : Ev Y B G Z SK u pc lv (.int y :: .int x :: st) σ := by
  obtain ⟨hd, rfl⟩ := hd
  intro p l e R s m args below meth c H locs A ls D cy SV C hP hD hS hl
  exact lv_icmp_ne C.1 C.2.1 hd ht (fun z => (kq (by rw [if_neg z] at h; exact h) p l e R s m args below meth c H locs A ls D cy SV C hP hD hS hl)) (fun z => (kp (by rw [if_pos z] at h; exact h) p l e R s m args below meth c H locs A ls D cy SV C hP hD hS hl))
theorem ev_icmp_lt {α : Type} {x y : Int32} {off : Int} {tgt : Nat} {P Q : Option α} {r : α} (hd : Dc Y pc (.if_icmp .lt off) 3 pc') (ht : (pc : Int) + off = (tgt : Int)) (h : (if x < y then P else Q) = some r) (kp : P = some r → Ev Y B G Z SK u tgt lv st σ) (kq : Q = some r → Ev Y B G Z SK u pc' lv st σ) : Ev Y B G Z SK u pc lv (.int y :: .int x :: st) σ := by
  obtain ⟨hd, rfl⟩ := hd
  intro p l e R s m args below meth c H locs A ls D cy SV C hP hD hS hl
  exact lv_icmp_lt C.1 C.2.1 hd ht (fun z => (kp (by rw [if_pos z] at h; exact h) p l e R s m args below meth c H locs A ls D cy SV C hP hD hS hl)) (fun z => (kq (by rw [if_neg z] at h; exact h) p l e R s m args below meth c H locs A ls D cy SV C hP hD hS hl))
theorem ev_icmp_ge {α : Type} {x y : Int32} {off : Int} {tgt : Nat} {P Q : Option α} {r : α} (hd : Dc Y pc (.if_icmp .ge off) 3 pc') (ht : (pc : Int) + off = (tgt : Int)) (h : (if y ≤ x then P else Q) = some r) (kp : P = some r → Ev Y B G Z SK u tgt lv st σ) (kq : Q = some r → Ev Y B G Z SK u pc' lv st σ) : Ev Y B G Z SK u pc lv (.int y :: .int x :: st) σ := by
  obtain ⟨hd, rfl⟩ := hd
  intro p l e R s m args below meth c H locs A ls D cy SV C hP hD hS hl
  exact lv_icmp_ge C.1 C.2.1 hd ht (fun z => (kp (by rw [if_pos z] at h; exact h) p l e R s m args below meth c H locs A ls D cy SV C hP hD hS hl)) (fun z => (kq (by rw [if_neg z] at h; exact h) p l e R s m args below meth c H locs A ls D cy SV C hP hD hS hl))
theorem ev_icmp_gt {α : Type} {x y : Int32} {off : Int} {tgt : Nat} {P Q : Option α} {r : α} (hd : Dc Y pc (.if_icmp .gt off) 3 pc') (ht : (pc : Int) + off = (tgt : Int)) (h : (if y < x then P else Q) = some r) (kp : P = some r → Ev Y B G Z SK u tgt lv st σ) (kq : Q = some r → Ev Y B G Z SK u pc' lv st σ) : Ev Y B G Z SK u pc lv (.int y :: .int x :: st) σ := by
  obtain ⟨hd, rfl⟩ := hd
  intro p l e R s m args below meth c H locs A ls D cy SV C hP hD hS hl
  exact lv_icmp_gt C.1 C.2.1 hd ht (fun z => (kp (by rw [if_pos z] at h; exact h) p l e R s m args below meth c H locs A ls D cy SV C hP hD hS hl)) (fun z => (kq (by rw [if_neg z] at h; exact h) p l e R s m args below meth c H locs A ls D cy SV C hP hD hS hl))
theorem ev_icmp_le {α : Type} {x y : Int32} {off : Int} {tgt : Nat} {P Q : Option α} {r : α} (hd : Dc Y pc (.if_icmp .le off) 3 pc') (ht : (pc : Int) + off = (tgt : Int)) (h : (if x ≤ y then P else Q) = some r) (kp : P = some r → Ev Y B G Z SK u tgt lv st σ) (kq : Q = some r → Ev Y B G Z SK u pc' lv st σ) : Ev Y B G Z SK u pc lv (.int y :: .int x :: st) σ := by
  obtain ⟨hd, rfl⟩ := hd
  intro p l e R s m args below meth c H locs A ls D cy SV C hP hD hS hl
  exact lv_icmp_le C.1 C.2.1 hd ht (fun z => (kp (by rw [if_pos z] at h; exact h) p l e R s m args below meth c H locs A ls D cy SV C hP hD hS hl)) (fun z => (kq (by rw [if_neg z] at h; exact h) p l e R s m args below meth c H locs A ls D cy SV C hP hD hS hl))
theorem ev_goto {off : Int} {tgt : Nat} (hd : Dc Y pc (.goto off) 3 pc') (ht : (pc : Int) + off = (tgt : Int)) (k : Ev Y B G Z SK u tgt lv st σ) : Ev Y B G Z SK u pc lv st σ := by
  obtain ⟨hd, rfl⟩ := hd
  intro p l e R s m args below meth c H locs A ls D cy SV C hP hD hS hl
  exact lv_goto C.1 C.2.1 hd ht (k p l e R s m args below meth c H locs A ls D cy SV C hP hD hS hl)
theorem ev_lcmp {x y : Int64} (hd : Dc Y pc .lcmp 1 pc') (k : Ev Y B G Z SK u pc' lv (.int (lg_cmp x y) :: st) σ) : Ev Y B G Z SK u pc lv (.long y :: .long x :: st) σ := by
  obtain ⟨hd, rfl⟩ := hd
  intro p l e R s m args below meth c H locs A ls D cy SV C hP hD hS hl
  exact W.lcmp C.1 C.2.1 hd (k p l e R s m args below meth c H locs A ls D cy SV C hP hD hS hl)
/-! fields -/
def FI (own : String) (idx c k : Nat) (ty : FieldType) (fin : Bool) : Prop := ∃ (C : String) (T : u_T) (ty0 : Nat → FieldType), vwCl[c]? = some (C, T, nFl.getD c 0) ∧ k < nFl.getD c 0 ∧ Cond.fieldLink own idx (T k).1 (T k).2.1 (T k).2.2.1 ∈ Gw ∧ (∀ w ∈ u_ws C T (nFl.getD c 0), w ∈ Gw) ∧ (∀ k, k < nFl.getD c 0 → parseFieldDescriptor (T k).2.2.1 = some (ty0 k)) ∧ (∀ a, a < nFl.getD c 0 → ∀ b, b < nFl.getD c 0 → a ≠ b → (T a).2.1 ≠ (T b).2.1) ∧ parseFieldDescriptor (T k).2.2.1 = some ty ∧ (T k).2.2.2 = fin ∧ c < 12
theorem ev_getI {idx ci k a : Nat} {ty : FieldType} {fin : Bool} (hd : Dc Y pc (.getfield idx) 3 pc') (hf : FI Y.1 idx ci k ty fin) (hr : isR ci k = false) (ha : Is G a ci) (k9 : Ev Y B G Z SK u pc' lv (.int (σ.1 a k) :: st) σ) : Ev Y B G Z SK u pc lv (.ref a :: st) σ := by
  obtain ⟨hd, rfl⟩ := hd
  obtain ⟨C9, T9, ty0, h1, h2, h3, h4, h5, h6, h7, h8, h9⟩ := hf
  intro p l e R s m args below meth c H locs A ls D cy SV C hP hD hS hl
  obtain ⟨j, hj⟩ := pl_get (f := pE cy G σ) ha.1
  rw [pE_obj ha.2 h9] at hj
  exact va_get (D := D) (C := C9) (T := T9) C.1 C.2.1 C.2.2.2.2.2.1 h4 C.2.2.2.2.1 C.2.2.2.2.2.2.2.1 hP j hj h1 k h2 (C.2.2.2.2.2.1 _ h3) (fun _ h => h) (v := .int (σ.1 a k)) (by rw [pFs_at h2]; simp [hr]) hd (k9 p l e R s m args below meth c H locs A ls D cy SV C hP hD hS hl)
theorem ev_getR {idx ci k a : Nat} {ty : FieldType} {fin : Bool} (hd : Dc Y pc (.getfield idx) 3 pc') (hf : FI Y.1 idx ci k ty fin) (hr : isR ci k = true) (ha : Is G a ci) (k9 : Ev Y B G Z SK u pc' lv (.ref (pR G a k) :: st) σ) : Ev Y B G Z SK u pc lv (.ref a :: st) σ := by
  obtain ⟨hd, rfl⟩ := hd
  obtain ⟨C9, T9, ty0, h1, h2, h3, h4, h5, h6, h7, h8, h9⟩ := hf
  intro p l e R s m args below meth c H locs A ls D cy SV C hP hD hS hl
  obtain ⟨j, hj⟩ := pl_get (f := pE cy G σ) ha.1
  rw [pE_obj ha.2 h9] at hj
  exact va_get (D := D) (C := C9) (T := T9) C.1 C.2.1 C.2.2.2.2.2.1 h4 C.2.2.2.2.1 C.2.2.2.2.2.2.2.1 hP j hj h1 k h2 (C.2.2.2.2.2.1 _ h3) (fun _ h => h) (v := .ref (pR G a k)) (by rw [pFs_at h2]; simp [hr]) hd (k9 p l e R s m args below meth c H locs A ls D cy SV C hP hD hS hl)
theorem ev_putW {idx ci k a : Nat} {ty : FieldType} {v : Int32} (hd : Dc Y pc (.putfield idx) 3 pc') (hf : FI Y.1 idx ci k ty false) (hr : isR ci k = false) (hn : narrow ty (.int v) = .int v) (hfit : fits ty (.int v) = true) (ha : Is G a ci) (k9 : Ev Y B G Z SK u pc' lv st (putF σ a k v)) : Ev Y B G Z SK u pc lv (.int v :: .ref a :: st) σ := by
  obtain ⟨hd, rfl⟩ := hd
  obtain ⟨C9, T9, ty0, h1, h2, h3, h4, h5, h6, h7, h8, h9⟩ := hf
  intro p l e R s m args below meth c H locs A ls D cy SV C hP hD hS hl
  obtain ⟨j, hj⟩ := pl_get (f := pE cy G σ) ha.1
  have hj' := hj
  rw [pE_obj ha.2 h9] at hj
  refine va_put (D := D) (C := C9) (T := T9) C.1 C.2.1 C.2.2.2.2.2.1 h4 ty0 h5 h6 C.2.2.2.2.1 C.2.2.2.2.2.2.2.1 hP hD hS j hj h1 k h2 (C.2.2.2.2.2.1 _ h3) (fun _ h => h) h8 (v := .int v) h7 hn hfit (by rw [pFs_len]; exact h2) hd (fun H1 locs1 hP1 hD1 hS1 => ?_)
  have e9 : (pool cy G σ).set j (a, .inr (ci, (pFs G σ ci a).set k (.int v))) = pool cy G (putF σ a k v) := by
    show (va_pl (pL G) (pE cy G σ)).set j _ = va_pl (pL G) (pE cy G (putF σ a k v))
    rw [pl_set hD ha.1 hj', pE_putF ha.2 h9 hr h2]
  exact k9 p l e R s m args below meth c H1 locs1 A ls D cy SV C (e9 ▸ hP1) (e9 ▸ hD1) hS1 hl
theorem ev_putI {idx ci k a : Nat} {v : Int32} (hd : Dc Y pc (.putfield idx) 3 pc') (hf : FI Y.1 idx ci k .int false) (hr : isR ci k = false) (ha : Is G a ci) (k9 : Ev Y B G Z SK u pc' lv st (putF σ a k v)) : Ev Y B G Z SK u pc lv (.int v :: .ref a :: st) σ := ev_putW hd hf hr rfl rfl ha k9
/-- no more than a check -/
def ck {α : Type} (b : Bool) (x : Option α) : Option α := if b = true then x else none
theorem ck_s {α : Type} {b : Bool} {x : Option α} {r : α} (h : ck b x = some r) : b = true ∧ x = some r := by
  cases b
  · cases h
  · exact ⟨rfl, h⟩
def isZ (v : Int32) : Bool := v == 0 || v == 1
theorem ev_putZ {α : Type} {P : Option α} {r : α} {idx ci k a : Nat} {v : Int32} (hd : Dc Y pc (.putfield idx) 3 pc') (hf : FI Y.1 idx ci k .boolean false) (hr : isR ci k = false) (ha : Is G a ci) (h : ck (isZ v) P = some r) (k9 : P = some r → Ev Y B G Z SK u pc' lv st (putF σ a k v)) : Ev Y B G Z SK u pc lv (.int v :: .ref a :: st) σ := by
  obtain ⟨h1, h2⟩ := ck_s h
  have hv : v = 0 ∨ v = 1 := by simpa [isZ] using h1
  exact ev_putW hd hf hr (by rcases hv with rfl | rfl <;> decide) (by rcases hv with rfl | rfl <;> decide) ha (k9 h2)
/-! arrays -/
def inB (i : Int32) (n : Nat) : Bool := !(decide (i < 0)) && decide (i.toNatClampNeg < n)
theorem inB_s {i : Int32} {n : Nat} (h : inB i n = true) : vp_in i n := by
  simp only [inB, Bool.and_eq_true, Bool.not_eq_true', decide_eq_false_iff_not, decide_eq_true_eq] at h
  intro q
  rcases q with q | q
  · exact h.1 q
  · omega
def gA (σ : pS) (a : Nat) (i : Int32) : Int32 := σ.2.1 a i.toNatClampNeg
def gJ (σ : pS) (a : Nat) (i : Int32) : Int64 := σ.2.2 a i.toNatClampNeg
def sA (σ : pS) (a : Nat) (i : Int32) (v : Int32) : pS := putA σ a i.toNatClampNeg v
def sJ (σ : pS) (a : Nat) (i : Int32) (v : Int64) : pS := putJ σ a i.toNatClampNeg v
theorem ev_iald {α : Type} {P : Option α} {r : α} {a : Nat} {i : Int32} (hd : Dc Y pc .iaload 1 pc') (ha : Is G a 13) (h : ck (inB i (pN G a)) P = some r) (k9 : P = some r → Ev Y B G Z SK u pc' lv (.int (gA σ a i) :: st) σ) : Ev Y B G Z SK u pc lv (.int i :: .ref a :: st) σ := by
  obtain ⟨hd, rfl⟩ := hd
  obtain ⟨h1, h2⟩ := ck_s h
  intro p l e R s m args below meth c H locs A ls D cy SV C hP hD hS hl
  obtain ⟨j, hj⟩ := pl_get (f := pE cy G σ) ha.1
  rw [pE_int ha.2 (by decide)] at hj
  exact va_iald C.1 C.2.1 C.2.2.2.2.2.2.2.1 hP j 1 hj rfl (inB_s h1) hd (k9 h2 p l e R s m args below meth c H locs A ls D cy SV C hP hD hS hl)
theorem ev_bald {α : Type} {P : Option α} {r : α} {a : Nat} {i : Int32} (hd : Dc Y pc .baload 1 pc') (ha : Is G a 12) (h : ck (inB i (pN G a)) P = some r) (k9 : P = some r → Ev Y B G Z SK u pc' lv (.int (gA σ a i) :: st) σ) : Ev Y B G Z SK u pc lv (.int i :: .ref a :: st) σ := by
  obtain ⟨hd, rfl⟩ := hd
  obtain ⟨h1, h2⟩ := ck_s h
  intro p l e R s m args below meth c H locs A ls D cy SV C hP hD hS hl
  obtain ⟨j, hj⟩ := pl_get (f := pE cy G σ) ha.1
  rw [pE_int ha.2 (by decide)] at hj
  exact va_bald C.1 C.2.1 C.2.2.2.2.2.2.2.1 hP j 0 hj rfl (inB_s h1) hd (k9 h2 p l e R s m args below meth c H locs A ls D cy SV C hP hD hS hl)
theorem ev_zald {α : Type} {P : Option α} {r : α} {a : Nat} {i : Int32} (hd : Dc Y pc .baload 1 pc') (ha : Is G a 15) (h : ck (inB i (pN G a)) P = some r) (k9 : P = some r → Ev Y B G Z SK u pc' lv (.int (gA σ a i) :: st) σ) : Ev Y B G Z SK u pc lv (.int i :: .ref a :: st) σ := by
  obtain ⟨hd, rfl⟩ := hd
  obtain ⟨h1, h2⟩ := ck_s h
  intro p l e R s m args below meth c H locs A ls D cy SV C hP hD hS hl
  obtain ⟨j, hj⟩ := pl_get (f := pE cy G σ) ha.1
  rw [pE_int ha.2 (by decide)] at hj
  exact va_zald C.1 C.2.1 C.2.2.2.2.2.2.2.1 hP j 3 hj rfl (inB_s h1) hd (k9 h2 p l e R s m args below meth c H locs A ls D cy SV C hP hD hS hl)
theorem ev_lald {α : Type} {P : Option α} {r : α} {a : Nat} {i : Int32} (hd : Dc Y pc .laload 1 pc') (ha : Is G a 14) (h : ck (inB i (pN G a)) P = some r) (k9 : P = some r → Ev Y B G Z SK u pc' lv (.long (gJ σ a i) :: st) σ) : Ev Y B G Z SK u pc lv (.int i :: .ref a :: st) σ := by
  obtain ⟨hd, rfl⟩ := hd
  obtain ⟨h1, h2⟩ := ck_s h
  intro p l e R s m args below meth c H locs A ls D cy SV C hP hD hS hl
  obtain ⟨j, hj⟩ := pl_get (f := pE cy G σ) ha.1
  rw [pE_long ha.2] at hj
  exact va_lald C.1 C.2.1 C.2.2.2.2.2.2.2.1 hP j 2 hj rfl (inB_s h1) hd (k9 h2 p l e R s m args below meth c H locs A ls D cy SV C hP hD hS hl)
theorem ev_aald {α : Type} {P : Option α} {r : α} {a : Nat} {i : Int32} (hd : Dc Y pc .aaload 1 pc') (ha : Is G a 16) (h : ck (inB i (pN G a)) P = some r) (k9 : P = some r → Ev Y B G Z SK u pc' lv (.ref (pQ G a i.toNatClampNeg) :: st) σ) : Ev Y B G Z SK u pc lv (.int i :: .ref a :: st) σ := by
  obtain ⟨hd, rfl⟩ := hd
  obtain ⟨h1, h2⟩ := ck_s h
  intro p l e R s m args below meth c H locs A ls D cy SV C hP hD hS hl
  obtain ⟨j, hj⟩ := pl_get (f := pE cy G σ) ha.1
  rw [pE_rows ha.2] at hj
  exact va_aldq C.1 C.2.1 C.2.2.2.2.2.2.2.1 hP j 4 hj rfl (inB_s h1) hd (k9 h2 p l e R s m args below meth c H locs A ls D cy SV C hP hD hS hl)
theorem ev_alen {a c : Nat} {v : Int32} (hd : Dc Y pc .arraylength 1 pc') (ha : Is G a c) (hc : c = 12 ∨ c = 13 ∨ c = 15) (hv : Int32.ofNat (pN G a) = v) (k9 : Ev Y B G Z SK u pc' lv (.int v :: st) σ) : Ev Y B G Z SK u pc lv (.ref a :: st) σ := by
  obtain ⟨hd, rfl⟩ := hd
  intro p l e R s m args below meth c_ H locs A ls D cy SV C hP hD hS hl
  obtain ⟨j, hj⟩ := pl_get (f := pE cy G σ) ha.1
  rw [pE_int ha.2 hc] at hj
  rcases hc with rfl | rfl | rfl
  · exact va_alen C.1 C.2.1 C.2.2.2.2.2.2.2.1 hP j 0 hj rfl hv hd (k9 p l e R s m args below meth c_ H locs A ls D cy SV C hP hD hS hl)
  · exact va_alen C.1 C.2.1 C.2.2.2.2.2.2.2.1 hP j 1 hj rfl hv hd (k9 p l e R s m args below meth c_ H locs A ls D cy SV C hP hD hS hl)
  · exact va_alen C.1 C.2.1 C.2.2.2.2.2.2.2.1 hP j 3 hj rfl hv hd (k9 p l e R s m args below meth c_ H locs A ls D cy SV C hP hD hS hl)
theorem pool_row {cy : Nat → ClassId} {σ : pS} {A : Nat → Prop} {a c j : Nat} {f : Nat → Int32} (hD : va_D A (pool cy G σ)) (ha : Is G a c) (hc : c = 12 ∨ c = 13 ∨ c = 15) (hj : (va_pl (pL G) (pE cy G σ))[j]? = some (a, pE cy G σ a)) : (pool cy G σ).set j (a, .inl (cy (c - 12), pN G a, .inl f)) = pool cy G (rowA σ a f) := by
  show (va_pl (pL G) (pE cy G σ)).set j _ = va_pl (pL G) (pE cy G (rowA σ a f))
  rw [pl_set hD ha.1 hj, pE_putA ha.2 hc]
theorem ev_iast {α : Type} {P : Option α} {r : α} {a : Nat} {i v : Int32} (hd : Dc Y pc .iastore 1 pc') (ha : Is G a 13) (h : ck (inB i (pN G a)) P = some r) (k9 : P = some r → Ev Y B G Z SK u pc' lv st (sA σ a i v)) : Ev Y B G Z SK u pc lv (.int v :: .int i :: .ref a :: st) σ := by
  obtain ⟨hd, rfl⟩ := hd
  obtain ⟨h1, h2⟩ := ck_s h
  intro p l e R s m args below meth c H locs A ls D cy SV C hP hD hS hl
  obtain ⟨j, hj⟩ := pl_get (f := pE cy G σ) ha.1
  have hj' := hj
  rw [pE_int ha.2 (by decide)] at hj
  refine va_iast C.1 C.2.1 C.2.2.2.2.2.2.2.1 hP hD hS j 1 hj rfl (inB_s h1) hd (fun H1 locs1 hP1 hD1 hS1 => ?_)
  have e9 := pool_row (f := upd (σ.2.1 a) i.toNatClampNeg v) hD ha (by decide) hj'
  rw [rowA_upd] at e9
  exact k9 h2 p l e R s m args below meth c H1 locs1 A ls D cy SV C (e9 ▸ hP1) (e9 ▸ hD1) hS1 hl
theorem ev_bast {α : Type} {P : Option α} {r : α} {a : Nat} {i v : Int32} (hd : Dc Y pc .bastore 1 pc') (ha : Is G a 12) (h : ck (inB i (pN G a)) P = some r) (k9 : P = some r → Ev Y B G Z SK u pc' lv st (sA σ a i (vp_nar .byte v))) : Ev Y B G Z SK u pc lv (.int v :: .int i :: .ref a :: st) σ := by
  obtain ⟨hd, rfl⟩ := hd
  obtain ⟨h1, h2⟩ := ck_s h
  intro p l e R s m args below meth c H locs A ls D cy SV C hP hD hS hl
  obtain ⟨j, hj⟩ := pl_get (f := pE cy G σ) ha.1
  have hj' := hj
  rw [pE_int ha.2 (by decide)] at hj
  refine va_bast C.1 C.2.1 C.2.2.2.2.2.2.2.1 hP hD hS j 0 hj rfl (inB_s h1) hd (fun H1 locs1 hP1 hD1 hS1 => ?_)
  have e9 := pool_row (f := upd (σ.2.1 a) i.toNatClampNeg (vp_nar .byte v)) hD ha (by decide) hj'
  rw [rowA_upd] at e9
  exact k9 h2 p l e R s m args below meth c H1 locs1 A ls D cy SV C (e9 ▸ hP1) (e9 ▸ hD1) hS1 hl
theorem ev_zast {α : Type} {P : Option α} {r : α} {a : Nat} {i v : Int32} (hd : Dc Y pc .bastore 1 pc') (ha : Is G a 15) (h : ck (inB i (pN G a)) P = some r) (k9 : P = some r → Ev Y B G Z SK u pc' lv st (sA σ a i (vp_nar .boolean v))) : Ev Y B G Z SK u pc lv (.int v :: .int i :: .ref a :: st) σ := by
  obtain ⟨hd, rfl⟩ := hd
  obtain ⟨h1, h2⟩ := ck_s h
  intro p l e R s m args below meth c H locs A ls D cy SV C hP hD hS hl
  obtain ⟨j, hj⟩ := pl_get (f := pE cy G σ) ha.1
  have hj' := hj
  rw [pE_int ha.2 (by decide)] at hj
  refine va_zast C.1 C.2.1 C.2.2.2.2.2.2.2.1 hP hD hS j 3 hj rfl (inB_s h1) hd (fun H1 locs1 hP1 hD1 hS1 => ?_)
  have e9 := pool_row (f := upd (σ.2.1 a) i.toNatClampNeg (vp_nar .boolean v)) hD ha (by decide) hj'
  rw [rowA_upd] at e9
  exact k9 h2 p l e R s m args below meth c H1 locs1 A ls D cy SV C (e9 ▸ hP1) (e9 ▸ hD1) hS1 hl

/-! calls -/
/-- what a caller needs of an instance method, of a static one -/
def CY (Y' : MI) (y : MethodName) (n : Nat) : Prop := Cond.instanceMethod y ∈ Gw ∧ Cond.selects y.cls y y ∈ Gw ∧ Cond.initialized y.cls ∈ Gw ∧ Cond.code y Y'.2.1 Y'.2.2.1 Y'.2.2.2.1 ∈ Gw ∧ (y.cls ≠ "java/lang/invoke/MethodHandle" ∧ y.cls ≠ "java/lang/invoke/VarHandle" ∧ (parseMethodDescriptor y.desc).map (fun d => d.parameters.length) = some n) ∧ Y'.2.2.1 ≤ 45
def CS (Y' : MI) (y : MethodName) (n : Nat) : Prop := Cond.static y ∈ Gw ∧ Cond.initialized y.cls ∈ Gw ∧ Cond.code y Y'.2.1 Y'.2.2.1 Y'.2.2.2.1 ∈ Gw ∧ (y.cls ≠ "java/lang/invoke/MethodHandle" ∧ y.cls ≠ "java/lang/invoke/VarHandle" ∧ (parseMethodDescriptor y.desc).map (fun d => d.parameters.length) = some n) ∧ Y'.2.2.1 ≤ 45
theorem gw_in {y : MethodName} {b : ByteArray} {n : Nat} {r : Option FieldType} (h : Cond.code y b n r ∈ Gw) : GoodIn Gw (Cond.code y b n r :: Gw) := by
  intro w hw
  rcases List.mem_cons.mp hw with rfl | hw
  · exact ⟨h, good_of_word (gw_good _ h)⟩
  · exact ⟨hw, good_of_word (gw_good _ hw)⟩
theorem ev_room {B : Nat × Nat × Nat} {R : Room} {d nl : Nat} (hB : d + 1 ≤ B.1) (hn : nl ≤ 45) (h : B.1 ≤ R.frames ∧ 64 * B.1 ≤ R.locals ∧ B.2.1 ≤ R.cells ∧ B.2.2 ≤ R.slots) : (rmD d 0 0).frames + 1 ≤ R.frames ∧ 8 + (nl + 11) + (rmD d 0 0).locals ≤ R.locals := by
  obtain ⟨h1, h2, -, -⟩ := h
  simp only [rmD]
  omega
/-- behind a call -/
theorem run_go {p : Program} {l : Launch} {e : Env} {R : Room} {s : State} {m : MethodId} {args : Array Value} {below : List Frame} {meth : Method} {c : Code} {H : Heap} {locs : List Loc} {k n : Nat} {Q : State → Prop} {D : va_G} {cy : Nat → ClassId} {o : Option Value} {σ1 : pS} {A A1 : Nat → Prop} {a : Array Value} {free : Addr → Prop} {ls : Array Slot} {st0 rest : List Value}
    (hr : va_Run p l e R s m args below meth c H locs k n 0 0 (F0 m pc ls st0) rest (Qcc D cy G o σ1 A1 a) free) (hS : va_S A s.heap H locs) (hA : ∀ q, q < H.size → A1 q → A q) (hf : ∀ q, free q → A q)
    (kk : ∀ (H1 : Heap) (locs1 : List Loc), va_P D vwCl (pool cy G σ1) H1 → va_S A s.heap H1 locs1 → W p l e R s m args below meth c H1 locs1 k n Q (F0 m (pc + 3) ls (o.toList ++ rest))) : W p l e R s m args below meth c H locs k n Q (F0 m pc ls st0) := by
  intro T hT X
  obtain ⟨v, st₀, t, T', L, h0, X', hL, e1, e2, ⟨hv, hP, hK, hD, hz, hk⟩, st⟩ := hr T hT X
  cases hv
  rw [h0] at hz hk
  obtain ⟨t2, a1, b1⟩ := kk T'.heap (locs ++ L) (by rw [e1]; exact hP)
    ⟨Nat.le_trans hS.1 (by rw [e1]; exact hz), fun q h1 h2 => by rw [e1, hk q (Nat.lt_of_lt_of_le h1 hS.1) (fun z => h2 (hA q (Nat.lt_of_lt_of_le h1 hS.1) z))]; exact hS.2.1 q h1 h2, fun q hq => by
      rcases List.mem_append.mp hq with h | h
      · exact hS.2.2 q h
      · exact hf _ (hL q h)⟩ T' rfl X'
  exact ⟨t2, st t2 a1, b1⟩
theorem pool_free {cy : Nat → ClassId} {σ : pS} {A : Nat → Prop} {H0 H : Heap} {locs : List Loc} (hD : va_D A (pool cy G σ)) (hS : va_S A H0 H locs) (hA : ∀ q, H0.size ≤ q → A q) : ∀ q, va_A (pool cy G σ) H.size q → A q := by
  intro q h
  rcases h with ⟨k, e, h⟩ | h
  · exact hD.2 k _ h
  · exact hA q (Nat.le_trans hS.1 h)
theorem pre_of {l : Launch} {p : Program} {R : Room} {s : State} {m : MethodId} {args : Array Value} {meth : Method} {c : Code} {H : Heap} {locs : List Loc} {A : Nat → Prop} {D : va_G} {cy : Nat → ClassId} {SV : Nat → Nat} {av : List Value} (C : EvC Y B l p R s m args meth c A D cy SK SV) (hP : va_P D vwCl (pool cy G σ) H) (hD : va_D A (pool cy G σ)) (hS : va_S A s.heap H locs) :
    PreS s H (Pcc D cy G σ SK SV H.size av) av := by
  refine ⟨Pcc_blind, fun U hU hW => ⟨rfl, by rw [hU], by rw [hU]; exact hP, va_K.moved hW.alike C.2.2.2.2.2.2.2.1, hD.weaken (fun _ _ _ _ => trivial), ?_⟩⟩
  rw [hU]
  exact XE.go C.2.2.2.2.2.2.2.2.2.2 hW hS.2.1 (pool_free hD hS C.2.2.2.2.2.2.2.2.2.1)
theorem ev_callV {Y' : MI} {y : MethodName} {d' idx n b ci : Nat} {av st0 st1 : List Value} {o : Option Value} {σ1 : pS} (hd : Dc Y pc (.invokevirtual idx) 3 pc') (hM : Dn Y' y d' G SK (.ref b :: av) σ o σ1) (hl : Cond.methodLink Y.1 idx y ∈ Gw) (hy : CY Y' y n) (hb : Is G b ci) (hc : ci < 12) (hcl : (vwCl[ci]?).map (fun q => q.1) = some y.cls) (hn : av.length = n) (hst : av.reverse ++ .ref b :: st = st0) (hs1 : o.toList ++ st = st1) (hr : (st.map fun v => v.category).sum ≤ 8) (hB : d' + 1 ≤ B.1) (hu : u.1 ≤ B.2.1 ∧ u.2 ≤ B.2.2)
    (k9 : Ev Y B G Z SK u pc' lv st1 σ1) : Ev Y B G Z SK u pc lv st0 σ := by
  obtain ⟨hd, rfl⟩ := hd
  obtain ⟨y1, y2, y3, y4, y5, y6⟩ := hy
  subst hst hs1
  intro p l e R s m args below meth c H locs A ls D cy SV C hP hD hS hlv
  have hts := C.2.2.2.2.2.1
  obtain ⟨q9, hq9, hq8⟩ : ∃ q, vwCl[ci]? = some q ∧ q.1 = y.cls := by
    cases h : vwCl[ci]? with
    | none => rw [h] at hcl; cases hcl
    | some q => rw [h] at hcl; exact ⟨q, rfl, Option.some.inj hcl⟩
  obtain ⟨j, hj⟩ := pl_get (f := pE cy G σ) hb.1
  rw [pE_obj hb.2 hc] at hj
  have hrec := va_recv C.2.2.2.2.2.2.2.1 hP hq9 hj
  rw [hq8] at hrec
  have hp := pre_of (av := .ref b :: av) C hP hD hS
  have hF := pool_free hD hS C.2.2.2.2.2.2.2.2.2.1
  have hR := ev_room hB y6 C.2.2.2.2.2.2.2.2.1
  exact run_go (va_runV (As := av) (rest := st) (Ts := Gw) (cc := Y.2.1) (nL := Y.2.2.1) (own := Y.1) (C := y.cls) ⟨C.1, C.2.1, C.2.2.2.1, C.2.2.2.2.1, hts⟩ (hM l C.2.2.2.2.2.2.1.2.1 D cy SV H.size)
    ⟨callB_of n hts (gw_in y4) rfl rfl rfl (hts _ y3) (hts _ hl) y5 hR, hts _ y1, hts _ y2⟩ ⟨hp.1, hrec, hp.2⟩ rfl hn hlv.1 rfl (lv_room hr) hd ⟨Nat.le_trans hu.1 C.2.2.2.2.2.2.2.2.1.2.2.1, Nat.le_trans hu.2 C.2.2.2.2.2.2.2.2.1.2.2.2⟩) hS (fun q _ h => hF q h) hF
    (fun H1 locs1 hP1 hS1 => k9 p l e R s m args below meth c H1 locs1 A ls D cy SV C hP1 (pool_D hD) hS1 hlv)
theorem ev_callS {Y' : MI} {y : MethodName} {d' idx n : Nat} {av st0 st1 : List Value} {o : Option Value} {σ1 : pS} (hd : Dc Y pc (.invokestatic idx) 3 pc') (hM : Dn Y' y d' G SK av σ o σ1) (hl : Cond.methodLink Y.1 idx y ∈ Gw) (hy : CS Y' y n) (hn : av.length = n) (hst : av.reverse ++ st = st0) (hs1 : o.toList ++ st = st1) (hr : (st.map fun v => v.category).sum ≤ 8) (hB : d' + 1 ≤ B.1) (hu : u.1 ≤ B.2.1 ∧ u.2 ≤ B.2.2)
    (k9 : Ev Y B G Z SK u pc' lv st1 σ1) : Ev Y B G Z SK u pc lv st0 σ := by
  obtain ⟨hd, rfl⟩ := hd
  obtain ⟨y1, y3, y4, y5, y6⟩ := hy
  subst hst hs1
  intro p l e R s m args below meth c H locs A ls D cy SV C hP hD hS hlv
  have hts := C.2.2.2.2.2.1
  have hp := pre_of (av := av) C hP hD hS
  have hF := pool_free hD hS C.2.2.2.2.2.2.2.2.2.1
  have hR := ev_room hB y6 C.2.2.2.2.2.2.2.2.1
  exact run_go (va_runS (As := av) (rest := st) (Ts := Gw) (cc := Y.2.1) (nL := Y.2.2.1) (own := Y.1) ⟨C.1, C.2.1, C.2.2.2.1, C.2.2.2.2.1, hts⟩ (hM l C.2.2.2.2.2.2.1.2.1 D cy SV H.size)
    ⟨callB_of n hts (gw_in y4) rfl rfl rfl (hts _ y3) (hts _ hl) y5 hR, hts _ y1⟩ hp rfl hn hlv.1 rfl (lv_room hr) hd ⟨Nat.le_trans hu.1 C.2.2.2.2.2.2.2.2.1.2.2.1, Nat.le_trans hu.2 C.2.2.2.2.2.2.2.2.1.2.2.2⟩) hS (fun q _ h => hF q h) hF
    (fun H1 locs1 hP1 hS1 => k9 p l e R s m args below meth c H1 locs1 A ls D cy SV C hP1 (pool_D hD) hS1 hlv)
theorem ev_callN {Y' : MI} {y : MethodName} {d' idx n : Nat} {host : String} {av st0 st1 : List Value} {o : Option Value} {σ1 : pS} (hd : Dc Y pc (.invokestatic idx) 3 pc') (hM : Dn Y' y d' G SK av σ o σ1) (hl : (Y.1, idx, y, host) ∈ nTab) (hy : CS Y' y n) (hn : av.length = n) (hst : av.reverse ++ st = st0) (hs1 : o.toList ++ st = st1) (hr : (st.map fun v => v.category).sum ≤ 8) (hB : d' + 1 ≤ B.1) (hu : u.1 ≤ B.2.1 ∧ u.2 ≤ B.2.2)
    (k9 : Ev Y B G Z SK u pc' lv st1 σ1) : Ev Y B G Z SK u pc lv st0 σ := by
  obtain ⟨hd, rfl⟩ := hd
  obtain ⟨y1, y3, y4, y5, y6⟩ := hy
  subst hst hs1
  intro p l e R s m args below meth c H locs A ls D cy SV C hP hD hS hlv
  have hts := C.2.2.2.2.2.1
  have hp := pre_of (av := av) C hP hD hS
  have hF := pool_free hD hS C.2.2.2.2.2.2.2.2.2.1
  have hR := ev_room hB y6 C.2.2.2.2.2.2.2.2.1
  have hX := C.2.2.2.2.2.2.2.2.2.2
  exact run_go (va_runSN (As := av) (rest := st) (Ts := Gw) (cc := Y.2.1) (nL := Y.2.2.1) (own := Y.1) ⟨C.1, C.2.1, C.2.2.2.1, C.2.2.2.2.1, hts⟩ (hM l C.2.2.2.2.2.2.1.2.1 D cy SV H.size)
    ⟨va_cnB n hts (gw_in y4) rfl rfl rfl (hX.2.2.2.2.1 _ hl) (hts _ y3) y5 hR, hts _ y1, trivial⟩ hp rfl hn hlv.1 rfl (lv_room hr) hd ⟨Nat.le_trans hu.1 C.2.2.2.2.2.2.2.2.1.2.2.1, Nat.le_trans hu.2 C.2.2.2.2.2.2.2.2.1.2.2.2⟩) hS (fun q _ h => hF q h) hF
    (fun H1 locs1 hP1 hS1 => k9 p l e R s m args below meth c H1 locs1 A ls D cy SV C hP1 (pool_D hD) hS1 hlv)
/-! ends -/
theorem ev_iret {v : Int32} {o : Option Value} {σ' : pS} (hd : Dc Y pc .ireturn 1 pc') (hY : Y.2.2.2.1 = some .int) (ho : some (.int v) = o) (hσ : σ = σ') : Ev Y B G (Zp G o σ') SK (0, 0) pc lv [.int v] σ := by
  obtain ⟨hd, rfl⟩ := hd
  subst ho hσ
  intro p l e R s m args below meth c H locs A ls D cy SV C hP hD hS hl
  have hlk := C.2.2.2.2.2.2.1.1
  exact W.iret (v := v) C.1 C.2.1 (C.2.2.1.trans hY) (fun t ht hW => ⟨rfl, by rw [ht]; exact hP, va_K.moved hW.alike C.2.2.2.2.2.2.2.1, hD, hS.F ht⟩) hS.2.2 hd
theorem ev_zret {α : Type} {P : Option α} {r : α} {v : Int32} {o : Option Value} {σ' : pS} (hd : Dc Y pc .ireturn 1 pc') (hY : Y.2.2.2.1 = some .boolean) (h : ck (isZ v) P = some r) (ho : some (.int v) = o) (hσ : σ = σ') : Ev Y B G (Zp G o σ') SK (0, 0) pc lv [.int v] σ := by
  obtain ⟨hd, rfl⟩ := hd
  subst ho hσ
  obtain ⟨h1, -⟩ := ck_s h
  have hv : v = 0 ∨ v = 1 := by simpa [isZ] using h1
  intro p l e R s m args below meth c H locs A ls D cy SV C hP hD hS hl
  have hlk := C.2.2.2.2.2.2.1.1
  exact W.zret (v := v) C.1 C.2.1 (C.2.2.1.trans hY) (by rcases hv with rfl | rfl <;> decide) (fun t ht hW => ⟨rfl, by rw [ht]; exact hP, va_K.moved hW.alike C.2.2.2.2.2.2.2.1, hD, hS.F ht⟩) hS.2.2 hd
theorem ev_vret {o : Option Value} {σ' : pS} (hd : Dc Y pc .return_ 1 pc') (hY : Y.2.2.2.1 = none) (ho : none = o) (hσ : σ = σ') : Ev Y B G (Zp G o σ') SK (0, 0) pc lv [] σ := by
  obtain ⟨hd, rfl⟩ := hd
  subst ho hσ
  intro p l e R s m args below meth c H locs A ls D cy SV C hP hD hS hl
  have hlk := C.2.2.2.2.2.2.1.1
  exact W.vret C.1 C.2.1 (C.2.2.1.trans hY) (fun t ht hW => ⟨rfl, by rw [ht]; exact hP, va_K.moved hW.alike C.2.2.2.2.2.2.2.1, hD, hS.F ht⟩) hS.2.2 hd
end EvRows
