/-! THE LAW: two pools, the class's (with the law's own row) and the reference's -/
def R_law : String := "UnaskedNameLaw"
def lw_P (b : Addr) (xs : List Int32) (args : Array Value) (s : State) : Prop := args = #[.ref b] ∧ s.IntsAt b xs ∧ xs.length ≤ 3072 ∧ (Jvm.Cond.and given_1 narrow_1).before args s = true
def lw_Q (_ : Array Value) (s : State) (o : Outcome) (t : State) : Prop := o = .returned (some (.int 1)) ∧ Framed s o t [] 601024 7293034
def lw_Z (below : List Frame) (a : Array Value) (s : State) : State → Prop := fun t => ∃ o, t.status = .running ∧ Ended t below o ∧ lw_Q a s o t
theorem lw_ret9 {p : Program} {l : Launch} {e : Env} {R : Room} {s : State} {m : MethodId} {below : List Frame} {meth : Method} {c : Code} {b : Nat} (hx : p.tables.exec = Jvm.exec) (hb : c.code = code) (hr : meth.sig.returnType = ret) (hlocks : meth.locks = false) {pc : Nat} {H : Heap} {ls : Array Slot} (hdg : decode code pc = .ok (.ireturn, 1)) : W p l e R s m #[Value.ref b] below meth c H [] 601024 7293034 (lw_Z below #[Value.ref b] s) (F0 m pc ls [.int 1]) := by
  intro T hT X
  obtain ⟨fs, hret, hrun, hended, hW, hframe⟩ := X.leave (v := some (.int 1)) (hlocks := hlocks) (fun h => by rw [hr] at h; cases h)
  have hmeth' : T.vm.method? m = some meth := X.method'
  refine ⟨T.setFrames fs, ?_, .returned (some (.int 1)), hrun, hended, rfl, ⟨_, rfl⟩, hW, hframe⟩
  jvm_step X.here [X.here.top, hx, hb, hdg, hmeth', hr, ret, narrow_b1]
  (try refine ⟨rfl, ?_⟩); (try refine ⟨rfl, ?_⟩)
  first | (intro acts; rw [hret _ acts rfl rfl rfl]) | rw [hret _ _ rfl rfl rfl]
  exact Steps.refl _
/-! worlds by membership -/
theorem wP_iff {D : va_G} {cl : List vw_C} {ws : va_W} {H : Heap} : va_P D cl ws H ↔ ∀ q ∈ ws, va_at D cl q H :=
  ⟨fun h q hq => by obtain ⟨k, hk⟩ := List.getElem?_of_mem hq; exact h k q hk, fun h k q hk => h q (List.mem_of_getElem? hk)⟩
theorem wD_iff {A : Nat → Prop} {ws : va_W} : va_D A ws ↔ (ws.map Prod.fst).Nodup ∧ ∀ a ∈ ws.map Prod.fst, A a := by
  constructor
  · intro h
    refine ⟨List.pairwise_iff_getElem.mpr (fun i j hi hj hij => ?_), fun a ha => ?_⟩
    · intro he
      rw [List.length_map] at hi hj
      rw [List.getElem_map, List.getElem_map] at he
      have := h.1 i j _ _ (List.getElem?_eq_getElem hi) (List.getElem?_eq_getElem hj) he
      omega
    · obtain ⟨q, hq, rfl⟩ := List.mem_map.mp ha
      obtain ⟨k, hk⟩ := List.getElem?_of_mem hq
      exact h.2 k q hk
  · intro h
    refine ⟨fun i j x y hx hy hxy => ?_, fun k q hk => h.2 _ (List.mem_map.mpr ⟨q, List.mem_of_getElem? hk, rfl⟩)⟩
    have hp := List.pairwise_iff_getElem.mp h.1
    obtain ⟨hi, hx⟩ := List.getElem?_eq_some_iff.mp hx
    obtain ⟨hj, hy⟩ := List.getElem?_eq_some_iff.mp hy
    rcases Nat.lt_trichotomy i j with q | q | q
    · exact absurd (by rw [List.getElem_map, List.getElem_map, hx, hy]; exact hxy) (hp i j (by rw [List.length_map]; exact hi) (by rw [List.length_map]; exact hj) q)
    · exact q
    · exact absurd (by rw [List.getElem_map, List.getElem_map, hx, hy]; exact hxy.symm) (hp j i (by rw [List.length_map]; exact hj) (by rw [List.length_map]; exact hi) q)
theorem pool_fst {cy : Nat → ClassId} {G : pG} {σ : pS} : (pool cy G σ).map Prod.fst = pL G := by
  simp only [pool, va_pl, List.map_map]
  exact List.map_id _
theorem two_D {A : Nat → Prop} {cy : Nat → ClassId} {G1 G2 : pG} {σ1 σ2 : pS} : va_D A (pool cy G1 σ1 ++ pool cy G2 σ2) ↔ (pL G1 ++ pL G2).Nodup ∧ ∀ a ∈ pL G1 ++ pL G2, A a := by
  rw [wD_iff, List.map_append, pool_fst, pool_fst]
theorem one_D {A : Nat → Prop} {cy : Nat → ClassId} {G : pG} {σ : pS} : va_D A (pool cy G σ) ↔ (pL G).Nodup ∧ ∀ a ∈ pL G, A a := by
  rw [wD_iff, pool_fst]
theorem two_l {D : va_G} {cl : List vw_C} {w1 w2 : va_W} {H : Heap} (h : va_P D cl (w1 ++ w2) H) : va_P D cl w1 H := wP_iff.mpr (fun q hq => wP_iff.mp h q (List.mem_append_left _ hq))
theorem two_r {D : va_G} {cl : List vw_C} {w1 w2 : va_W} {H : Heap} (h : va_P D cl (w1 ++ w2) H) : va_P D cl w2 H := wP_iff.mpr (fun q hq => wP_iff.mp h q (List.mem_append_right _ hq))
theorem two_swap {D : va_G} {cl : List vw_C} {w1 w2 : va_W} {H : Heap} (h : va_P D cl (w1 ++ w2) H) : va_P D cl (w2 ++ w1) H := wP_iff.mpr (fun q hq => wP_iff.mp h q (by rcases List.mem_append.mp hq with z | z; exact List.mem_append_right _ z; exact List.mem_append_left _ z))
theorem swapD {A : Nat → Prop} {cy : Nat → ClassId} {G1 G2 : pG} {σ1 σ2 : pS} (h : va_D A (pool cy G1 σ1 ++ pool cy G2 σ2)) : va_D A (pool cy G2 σ2 ++ pool cy G1 σ1) := by
  rw [two_D] at h ⊢
  refine ⟨(List.perm_append_comm.nodup_iff).mp h.1, fun a ha => h.2 a ?_⟩
  rcases List.mem_append.mp ha with z | z
  · exact List.mem_append_right _ z
  · exact List.mem_append_left _ z
theorem leftD {A : Nat → Prop} {cy : Nat → ClassId} {G1 G2 : pG} {σ1 σ2 : pS} (h : va_D A (pool cy G1 σ1 ++ pool cy G2 σ2)) : va_D A (pool cy G1 σ1) := by
  rw [two_D] at h
  rw [one_D]
  exact ⟨(List.nodup_append.mp h.1).1, fun a ha => h.2 a (List.mem_append_left _ ha)⟩
section LawJoin
variable {p : Program} {l : Launch} {e : Env} {R : Room} {s : State} {m : MethodId} {args : Array Value} {below : List Frame} {meth : Method} {c : Code} {H : Heap} {locs : List Loc} {k n mc ms pc : Nat} {Q : State → Prop} {D : va_G} {cy : Nat → ClassId} {o : Option Value} {A : Nat → Prop} {a : Array Value} {ls : Array Slot} {st0 rest : List Value} {G1 G2 : pG} {σ1 σ2 τ : pS}
/-- behind a call over the left pool: the right one stands as it stood -/
theorem law_join {st₀ t : State} {T' : State} {L : List Loc} (h0 : st₀.heap = H) (e1 : T'.heap = t.heap) (hP : va_P D vwCl (pool cy G1 σ1 ++ pool cy G2 σ2) H) (hD : va_D A (pool cy G1 σ1 ++ pool cy G2 σ2)) (hS : va_S A s.heap H locs) (hA : ∀ q, s.heap.size ≤ q → A q)
    (hL : ∀ q ∈ L, va_A (pool cy G1 σ1) H.size q.base) (hP1 : va_P D vwCl (pool cy G1 τ) t.heap) (hF : va_F (va_A (pool cy G1 σ1) H.size) st₀ t) :
    va_P D vwCl (pool cy G1 τ ++ pool cy G2 σ2) T'.heap ∧ va_D A (pool cy G1 τ ++ pool cy G2 σ2) ∧ va_S A s.heap T'.heap (locs ++ L) := by
  have hfree := pool_free (leftD hD) hS hA
  obtain ⟨hz, hk⟩ := hF
  rw [h0] at hz hk
  have hD2 : va_D A (pool cy G1 τ ++ pool cy G2 σ2) := two_D.mpr (two_D.mp hD)
  have hdis : ∀ x ∈ pL G1, ∀ y ∈ pL G2, x ≠ y := (List.nodup_append.mp (two_D.mp hD).1).2.2
  refine ⟨?_, hD2, Nat.le_trans hS.1 (by rw [e1]; exact hz), fun q h1 h2 => ?_, fun q hq => ?_⟩
  · rw [e1]
    refine wP_iff.mpr (fun q hq => ?_)
    rcases List.mem_append.mp hq with z | z
    · exact wP_iff.mp hP1 q z
    · have hat := wP_iff.mp (two_r hP) q z
      refine va_at.kept hat (hk q.1 hat.lt ?_)
      rintro (⟨j, e9, h9⟩ | h9)
      · have m1 : q.1 ∈ pL G1 := by
          have : q.1 ∈ (pool cy G1 σ1).map Prod.fst := List.mem_map.mpr ⟨_, List.mem_of_getElem? h9, rfl⟩
          rw [pool_fst] at this
          exact this
        have m2 : q.1 ∈ pL G2 := by
          have : q.1 ∈ (pool cy G2 σ2).map Prod.fst := List.mem_map.mpr ⟨q, z, rfl⟩
          rw [pool_fst] at this
          exact this
        exact hdis _ m1 _ m2 rfl
      · exact absurd hat.lt (Nat.not_lt.mpr h9)
  · rw [e1, hk q (Nat.lt_of_lt_of_le h1 hS.1) (fun z => h2 (hfree q z))]
    exact hS.2.1 q h1 h2
  · rcases List.mem_append.mp hq with z | z
    · exact hS.2.2 q z
    · exact hfree _ (hL q z)
theorem law_go (hr : va_Run p l e R s m args below meth c H locs k n mc ms (F0 m pc ls st0) rest (Qcc D cy G1 o τ (va_A (pool cy G1 σ1) H.size) a) (va_A (pool cy G1 σ1) H.size)) (hP : va_P D vwCl (pool cy G1 σ1 ++ pool cy G2 σ2) H) (hD : va_D A (pool cy G1 σ1 ++ pool cy G2 σ2)) (hS : va_S A s.heap H locs) (hA : ∀ q, s.heap.size ≤ q → A q)
    (kk : ∀ (H1 : Heap) (locs1 : List Loc), va_P D vwCl (pool cy G1 τ ++ pool cy G2 σ2) H1 → va_D A (pool cy G1 τ ++ pool cy G2 σ2) → va_S A s.heap H1 locs1 → W p l e R s m args below meth c H1 locs1 (k + mc) (n + ms) Q (F0 m (pc + 3) ls (o.toList ++ rest))) : W p l e R s m args below meth c H locs k n Q (F0 m pc ls st0) := by
  intro T hT X
  obtain ⟨v, st₀, t, T', L, h0, X', hL, e1, e2, ⟨hv, hP1, hK, hD1, hF⟩, st⟩ := hr T hT X
  cases hv
  obtain ⟨j1, j2, j3⟩ := law_join (τ := τ) h0 e1 hP hD hS hA hL hP1 hF
  obtain ⟨t2, a1, b1⟩ := kk T'.heap (locs ++ L) j1 j2 j3 T' rfl X'
  exact ⟨t2, st t2 a1, b1⟩
theorem law_goX {v9 : Option Value} (hr : vx_Run p l e R s m args below meth c H locs k n mc ms (F0 m pc ls st0) rest (QxC D cy G1 (.inl (v9, τ)) (va_A (pool cy G1 σ1) H.size) a) (XxC D cy G1 (.inl (v9, τ)) (va_A (pool cy G1 σ1) H.size)) (va_A (pool cy G1 σ1) H.size)) (hP : va_P D vwCl (pool cy G1 σ1 ++ pool cy G2 σ2) H) (hD : va_D A (pool cy G1 σ1 ++ pool cy G2 σ2)) (hS : va_S A s.heap H locs) (hA : ∀ q, s.heap.size ≤ q → A q)
    (kk : ∀ (H1 : Heap) (locs1 : List Loc), va_P D vwCl (pool cy G1 τ ++ pool cy G2 σ2) H1 → va_D A (pool cy G1 τ ++ pool cy G2 σ2) → va_S A s.heap H1 locs1 → W p l e R s m args below meth c H1 locs1 (k + mc) (n + ms) Q (F0 m (pc + 3) ls (v9.toList ++ rest))) : W p l e R s m args below meth c H locs k n Q (F0 m pc ls st0) := by
  intro T hT X
  rcases hr T hT X with ⟨v, st₀, t, T', L, h0, X', hL, e1, e2, hq, st⟩ | ⟨q, st₀, t, T', L, E, ce, h0, X', hL, e1, e2, hx, hce, hcv, hcl9, stp⟩
  · obtain ⟨hv, hP1, hK, hD1, hF⟩ := hq
    cases hv
    obtain ⟨j1, j2, j3⟩ := law_join (τ := τ) h0 e1 hP hD hS hA hL hP1 hF
    obtain ⟨t2, a1, b1⟩ := kk T'.heap (locs ++ L) j1 j2 j3 T' rfl X'
    exact ⟨t2, st t2 a1, b1⟩
  · exact hx.elim
end LawJoin
abbrev miL_law_ : MI := (RL, code, 7, ret, [])
/-- the script: L ints xs at the cell bs, which no one writes -/
def LX (bs L : Nat) (xs : Nat → Int32) (A : Nat → Prop) (args : Array Value) (s : State) : Prop := args = #[.ref bs] ∧ va_X bs L xs s s.heap ∧ bs < s.heap.size ∧ ¬ A bs ∧ ∀ q, A q → s.heap.size ≤ q
def EvL (B : Nat × Nat × Nat) (bs L : Nat) (xs : Nat → Int32) (G1 G2 : pG) (SK : Nat → Nat) (u : Nat × Nat) (pc : Nat) (lv : List (Option Value)) (st : List Value) (σ1 σ2 : pS) : Prop :=
  ∀ (p : Program) (l : Launch) (e : Env) (R : Room) (s : State) (m : MethodId) (args : Array Value) (below : List Frame) (meth : Method) (c : Code) (H : Heap) (locs : List Loc) (A : Nat → Prop) (ls : Array Slot) (D : va_G) (cy : Nat → ClassId) (SV : Nat → Nat),
    EvC miL_law_ B l p R s m args meth c A D cy SK SV → LX bs L xs A args s → va_P D vwCl (pool cy G1 σ1 ++ pool cy G2 σ2) H → va_D A (pool cy G1 σ1 ++ pool cy G2 σ2) → va_S A s.heap H locs → lvOk ls miL_law_.2.2.1 lv →
    W p l e R s m args below meth c H locs u.1 u.2 (lw_Z below args s) (F0 m pc ls st)
section LawRows
variable {B : Nat × Nat × Nat} {bs L : Nat} {xs : Nat → Int32} {G1 G2 : pG} {SK : Nat → Nat} {u : Nat × Nat} {pc pc' : Nat} {lv lv' : List (Option Value)} {st : List Value} {σ1 σ2 : pS}
theorem el_iload {i : Nat} {x : Int32} (hd : Dc miL_law_ pc (.iload i) 2 pc') (hx : lv[i]? = some (some (.int x))) (k : EvL B bs L xs G1 G2 SK u pc' lv (.int x :: st) σ1 σ2) : EvL B bs L xs G1 G2 SK u pc lv st σ1 σ2 := by
  obtain ⟨hd, rfl⟩ := hd
  intro p l e R s m args below meth c H locs A ls D cy SV C hX hP hD hS hl
  exact lv_iload C.1 C.2.1 hd (hl.2.2 _ _ hx) (k p l e R s m args below meth c H locs A ls D cy SV C hX hP hD hS hl)
theorem el_iload_n {i : Fin 4} {x : Int32} (hd : Dc miL_law_ pc (.iload_n i) 1 pc') (hx : lv[(i : Nat)]? = some (some (.int x))) (k : EvL B bs L xs G1 G2 SK u pc' lv (.int x :: st) σ1 σ2) : EvL B bs L xs G1 G2 SK u pc lv st σ1 σ2 := by
  obtain ⟨hd, rfl⟩ := hd
  intro p l e R s m args below meth c H locs A ls D cy SV C hX hP hD hS hl
  exact lv_iload_n C.1 C.2.1 hd rfl (hl.2.2 _ _ hx) (k p l e R s m args below meth c H locs A ls D cy SV C hX hP hD hS hl)
theorem el_aload_n {i : Fin 4} {x : Nat} (hd : Dc miL_law_ pc (.aload_n i) 1 pc') (hx : lv[(i : Nat)]? = some (some (.ref x))) (k : EvL B bs L xs G1 G2 SK u pc' lv (.ref x :: st) σ1 σ2) : EvL B bs L xs G1 G2 SK u pc lv st σ1 σ2 := by
  obtain ⟨hd, rfl⟩ := hd
  intro p l e R s m args below meth c H locs A ls D cy SV C hX hP hD hS hl
  exact lv_aload_n C.1 C.2.1 hd rfl (hl.2.2 _ _ hx) (k p l e R s m args below meth c H locs A ls D cy SV C hX hP hD hS hl)
theorem el_istore {i : Nat} {x : Int32} (hd : Dc miL_law_ pc (.istore i) 2 pc') (hn : noL lv i = true) (hi : i < miL_law_.2.2.1) (hs : lv.set i (some (.int x)) = lv') (k : EvL B bs L xs G1 G2 SK u pc' lv' st σ1 σ2) : EvL B bs L xs G1 G2 SK u pc lv (.int x :: st) σ1 σ2 := by
  obtain ⟨hd, rfl⟩ := hd
  intro p l e R s m args below meth c H locs A ls D cy SV C hX hP hD hS hl
  exact lv_istore C.1 C.2.1 hd hl.has hi rfl (fun ls hl => k p l e R s m args below meth c H locs A ls D cy SV C hX hP hD hS (lvOk.st1 hl hn hs))
theorem el_iconst {n : Int} {v : Int32} (hd : Dc miL_law_ pc (.iconst n) 1 pc') (hv : Int32.ofInt n = v) (k : EvL B bs L xs G1 G2 SK u pc' lv (.int v :: st) σ1 σ2) : EvL B bs L xs G1 G2 SK u pc lv st σ1 σ2 := by
  obtain ⟨hd, rfl⟩ := hd
  intro p l e R s m args below meth c H locs A ls D cy SV C hX hP hD hS hl
  exact lv_iconst C.1 C.2.1 hd hv (k p l e R s m args below meth c H locs A ls D cy SV C hX hP hD hS hl)
theorem el_bipush {n : Int} {v : Int32} (hd : Dc miL_law_ pc (.bipush n) 2 pc') (hv : (Int8.ofInt n).toInt32 = v) (k : EvL B bs L xs G1 G2 SK u pc' lv (.int v :: st) σ1 σ2) : EvL B bs L xs G1 G2 SK u pc lv st σ1 σ2 := by
  obtain ⟨hd, rfl⟩ := hd
  intro p l e R s m args below meth c H locs A ls D cy SV C hX hP hD hS hl
  exact lv_bipush C.1 C.2.1 hd hv (k p l e R s m args below meth c H locs A ls D cy SV C hX hP hD hS hl)
theorem el_lconst {n : Fin 2} {v : Int64} (hd : Dc miL_law_ pc (.lconst n) 1 pc') (hv : Int64.ofNat (n : Nat) = v) (k : EvL B bs L xs G1 G2 SK u pc' lv (.long v :: st) σ1 σ2) : EvL B bs L xs G1 G2 SK u pc lv st σ1 σ2 := by
  obtain ⟨hd, rfl⟩ := hd
  intro p l e R s m args below meth c H locs A ls D cy SV C hX hP hD hS hl
  exact lv_lconst C.1 C.2.1 hd hv (k p l e R s m args below meth c H locs A ls D cy SV C hX hP hD hS hl)
theorem el_iadd {x y : Int32} (hd : Dc miL_law_ pc (.iadd) 1 pc') (k : EvL B bs L xs G1 G2 SK u pc' lv (.int (x + y) :: st) σ1 σ2) : EvL B bs L xs G1 G2 SK u pc lv (.int y :: .int x :: st) σ1 σ2 := by
  obtain ⟨hd, rfl⟩ := hd
  intro p l e R s m args below meth c H locs A ls D cy SV C hX hP hD hS hl
  exact lv_iadd C.1 C.2.1 hd (k p l e R s m args below meth c H locs A ls D cy SV C hX hP hD hS hl)
theorem el_isub {x y : Int32} (hd : Dc miL_law_ pc (.isub) 1 pc') (k : EvL B bs L xs G1 G2 SK u pc' lv (.int (x - y) :: st) σ1 σ2) : EvL B bs L xs G1 G2 SK u pc lv (.int y :: .int x :: st) σ1 σ2 := by
  obtain ⟨hd, rfl⟩ := hd
  intro p l e R s m args below meth c H locs A ls D cy SV C hX hP hD hS hl
  exact lv_isub C.1 C.2.1 hd (k p l e R s m args below meth c H locs A ls D cy SV C hX hP hD hS hl)
theorem el_iand {x y : Int32} (hd : Dc miL_law_ pc (.iand) 1 pc') (k : EvL B bs L xs G1 G2 SK u pc' lv (.int (x &&& y) :: st) σ1 σ2) : EvL B bs L xs G1 G2 SK u pc lv (.int y :: .int x :: st) σ1 σ2 := by
  obtain ⟨hd, rfl⟩ := hd
  intro p l e R s m args below meth c H locs A ls D cy SV C hX hP hD hS hl
  exact lv_iand C.1 C.2.1 hd (k p l e R s m args below meth c H locs A ls D cy SV C hX hP hD hS hl)
theorem el_i2l {x : Int32} (hd : Dc miL_law_ pc (.i2l) 1 pc') (k : EvL B bs L xs G1 G2 SK u pc' lv (.long x.toInt64 :: st) σ1 σ2) : EvL B bs L xs G1 G2 SK u pc lv (.int x :: st) σ1 σ2 := by
  obtain ⟨hd, rfl⟩ := hd
  intro p l e R s m args below meth c H locs A ls D cy SV C hX hP hD hS hl
  exact lv_i2l C.1 C.2.1 hd rfl (k p l e R s m args below meth c H locs A ls D cy SV C hX hP hD hS hl)
theorem el_lcmp {x y : Int64} (hd : Dc miL_law_ pc .lcmp 1 pc') (k : EvL B bs L xs G1 G2 SK u pc' lv (.int (lg_cmp x y) :: st) σ1 σ2) : EvL B bs L xs G1 G2 SK u pc lv (.long y :: .long x :: st) σ1 σ2 := by
  obtain ⟨hd, rfl⟩ := hd
  intro p l e R s m args below meth c H locs A ls D cy SV C hX hP hD hS hl
  exact W.lcmp C.1 C.2.1 hd (k p l e R s m args below meth c H locs A ls D cy SV C hX hP hD hS hl)
theorem el_goto {off : Int} {tgt : Nat} (hd : Dc miL_law_ pc (.goto off) 3 pc') (ht : (pc : Int) + off = (tgt : Int)) (k : EvL B bs L xs G1 G2 SK u tgt lv st σ1 σ2) : EvL B bs L xs G1 G2 SK u pc lv st σ1 σ2 := by
  obtain ⟨hd, rfl⟩ := hd
  intro p l e R s m args below meth c H locs A ls D cy SV C hX hP hD hS hl
  exact lv_goto C.1 C.2.1 hd ht (k p l e R s m args below meth c H locs A ls D cy SV C hX hP hD hS hl)
theorem el_iinc {i : Nat} {n : Int} {x v : Int32} (hd : Dc miL_law_ pc (.iinc i n) 3 pc') (hx : lv[i]? = some (some (.int x))) (hv : Int32.ofInt n = v) (hn : noL lv i = true) (hi : i < miL_law_.2.2.1) (hs : lv.set i (some (.int (x + v))) = lv') (k : EvL B bs L xs G1 G2 SK u pc' lv' st σ1 σ2) : EvL B bs L xs G1 G2 SK u pc lv st σ1 σ2 := by
  obtain ⟨hd, rfl⟩ := hd
  subst hv
  intro p l e R s m args below meth c H locs A ls D cy SV C hX hP hD hS hl
  obtain ⟨j, hj⟩ := List.getElem?_of_mem ((lvA_mem (q := (i, .int x))).mpr hx)
  exact lv_iinc C.1 C.2.1 hd hl.has hj rfl hi rfl (fun ls hl => k p l e R s m args below meth c H locs A ls D cy SV C hX hP hD hS (lvOk.st1 hl hn hs))
theorem el_tabIn {x : Int32} {dflt lo hi : Int} {offs : Array Int} {len tgt : Nat} {off : Int} (v : Int32) (hx : x = v) (hd : Dc miL_law_ pc (.tableswitch dflt lo hi offs) len pc') (h1 : ¬ v.toInt < lo) (h2 : ¬ hi < v.toInt) (ho : offs[(v.toInt - lo).toNat]? = some off) (ht : (pc : Int) + off = (tgt : Int)) (k : EvL B bs L xs G1 G2 SK u tgt lv st σ1 σ2) : EvL B bs L xs G1 G2 SK u pc lv (.int x :: st) σ1 σ2 := by
  subst hx
  intro p l e R s m args below meth c H locs A ls D cy SV C hX hP hD hS hl
  exact lv_tableIn C.1 C.2.1 hd.1 h1 h2 ho ht (k p l e R s m args below meth c H locs A ls D cy SV C hX hP hD hS hl)
theorem el_tabOut {x : Int32} {dflt lo hi : Int} {offs : Array Int} {len tgt : Nat} (hd : Dc miL_law_ pc (.tableswitch dflt lo hi offs) len pc') (hx : x.toInt < lo ∨ hi < x.toInt) (ht : (pc : Int) + dflt = (tgt : Int)) (k : EvL B bs L xs G1 G2 SK u tgt lv st σ1 σ2) : EvL B bs L xs G1 G2 SK u pc lv (.int x :: st) σ1 σ2 := by
  intro p l e R s m args below meth c H locs A ls D cy SV C hX hP hD hS hl
  exact lv_tableOut C.1 C.2.1 hd.1 hx ht (k p l e R s m args below meth c H locs A ls D cy SV C hX hP hD hS hl)
theorem el_sub (k : EvL B bs L xs G1 G2 SK u pc lv' st σ1 σ2) (hs : lvS lv' lv) : EvL B bs L xs G1 G2 SK u pc lv st σ1 σ2 := by
  intro p l e R s m args below meth c H locs A ls D cy SV C hX hP hD hS hl
  exact k p l e R s m args below meth c H locs A ls D cy SV C hX hP hD hS ⟨hl.1, hl.2.1, fun i v h => hl.2.2 i v (lvS_spec hs i v h)⟩
theorem el_wid {v : Nat × Nat} (hv : u.1 ≤ v.1 ∧ u.2 ≤ v.2) (k : EvL B bs L xs G1 G2 SK v pc lv st σ1 σ2) : EvL B bs L xs G1 G2 SK u pc lv st σ1 σ2 := by
  intro p l e R s m args below meth c H locs A ls D cy SV C hX hP hD hS hl
  exact W.widen (k := v.1) (n := v.2) hv.1 hv.2 (k p l e R s m args below meth c H locs A ls D cy SV C hX hP hD hS hl)
theorem el_if_eq {x : Int32} {off : Int} {tgt : Nat} (hd : Dc miL_law_ pc (.ifCond .eq off) 3 pc') (ht : (pc : Int) + off = (tgt : Int)) (kp : x = 0 → EvL B bs L xs G1 G2 SK u tgt lv st σ1 σ2) (kq : ¬ (x = 0) → EvL B bs L xs G1 G2 SK u pc' lv st σ1 σ2) : EvL B bs L xs G1 G2 SK u pc lv (.int x :: st) σ1 σ2 := by
  obtain ⟨hd, rfl⟩ := hd
  intro p l e R s m args below meth c H locs A ls D cy SV C hX hP hD hS hl
  exact lv_if_eq C.1 C.2.1 hd ht (fun z => kp z p l e R s m args below meth c H locs A ls D cy SV C hX hP hD hS hl) (fun z => kq z p l e R s m args below meth c H locs A ls D cy SV C hX hP hD hS hl)
theorem el_if_ne {x : Int32} {off : Int} {tgt : Nat} (hd : Dc miL_law_ pc (.ifCond .ne off) 3 pc') (ht : (pc : Int) + off = (tgt : Int)) (kp : ¬ x = 0 → EvL B bs L xs G1 G2 SK u tgt lv st σ1 σ2) (kq : ¬ (¬ x = 0) → EvL B bs L xs G1 G2 SK u pc' lv st σ1 σ2) : EvL B bs L xs G1 G2 SK u pc lv (.int x :: st) σ1 σ2 := by
  obtain ⟨hd, rfl⟩ := hd
  intro p l e R s m args below meth c H locs A ls D cy SV C hX hP hD hS hl
  exact lv_if_ne C.1 C.2.1 hd ht (fun z => kp z p l e R s m args below meth c H locs A ls D cy SV C hX hP hD hS hl) (fun z => kq (fun y => y z) p l e R s m args below meth c H locs A ls D cy SV C hX hP hD hS hl)
theorem el_icmp_eq {x y : Int32} {off : Int} {tgt : Nat} (hd : Dc miL_law_ pc (.if_icmp .eq off) 3 pc') (ht : (pc : Int) + off = (tgt : Int)) (kp : x = y → EvL B bs L xs G1 G2 SK u tgt lv st σ1 σ2) (kq : ¬ (x = y) → EvL B bs L xs G1 G2 SK u pc' lv st σ1 σ2) : EvL B bs L xs G1 G2 SK u pc lv (.int y :: .int x :: st) σ1 σ2 := by
  obtain ⟨hd, rfl⟩ := hd
  intro p l e R s m args below meth c H locs A ls D cy SV C hX hP hD hS hl
  exact lv_icmp_eq C.1 C.2.1 hd ht (fun z => kp z p l e R s m args below meth c H locs A ls D cy SV C hX hP hD hS hl) (fun z => kq z p l e R s m args below meth c H locs A ls D cy SV C hX hP hD hS hl)
theorem el_icmp_gt {x y : Int32} {off : Int} {tgt : Nat} (hd : Dc miL_law_ pc (.if_icmp .gt off) 3 pc') (ht : (pc : Int) + off = (tgt : Int)) (kp : y < x → EvL B bs L xs G1 G2 SK u tgt lv st σ1 σ2) (kq : ¬ (y < x) → EvL B bs L xs G1 G2 SK u pc' lv st σ1 σ2) : EvL B bs L xs G1 G2 SK u pc lv (.int y :: .int x :: st) σ1 σ2 := by
  obtain ⟨hd, rfl⟩ := hd
  intro p l e R s m args below meth c H locs A ls D cy SV C hX hP hD hS hl
  exact lv_icmp_gt C.1 C.2.1 hd ht (fun z => kp z p l e R s m args below meth c H locs A ls D cy SV C hX hP hD hS hl) (fun z => kq z p l e R s m args below meth c H locs A ls D cy SV C hX hP hD hS hl)
theorem el_slen (hd : Dc miL_law_ pc .arraylength 1 pc') (k : EvL B bs L xs G1 G2 SK u pc' lv (.int (Int32.ofNat L) :: st) σ1 σ2) : EvL B bs L xs G1 G2 SK u pc lv (.ref bs :: st) σ1 σ2 := by
  obtain ⟨hd, rfl⟩ := hd
  intro p l e R s m args below meth c H locs A ls D cy SV C hX hP hD hS hl
  exact va_slen C.1 C.2.1 hX.2.1 hX.2.2.1 hX.2.2.2.1 hS hd (k p l e R s m args below meth c H locs A ls D cy SV C hX hP hD hS hl)
theorem el_sld {i : Int32} (hd : Dc miL_law_ pc .iaload 1 pc') (hi : vp_in i L) (k : EvL B bs L xs G1 G2 SK u pc' lv (.int (xs i.toNatClampNeg) :: st) σ1 σ2) : EvL B bs L xs G1 G2 SK u pc lv (.int i :: .ref bs :: st) σ1 σ2 := by
  obtain ⟨hd, rfl⟩ := hd
  intro p l e R s m args below meth c H locs A ls D cy SV C hX hP hD hS hl
  exact va_sld C.1 C.2.1 hX.2.1 hX.2.2.1 hX.2.2.2.1 hS hi hd (k p l e R s m args below meth c H locs A ls D cy SV C hX hP hD hS hl)
theorem el_lald {a : Nat} {i : Int32} (hd : Dc miL_law_ pc .laload 1 pc') (ha : Is G1 a 14) (hi : inB i (pN G1 a) = true) (k : EvL B bs L xs G1 G2 SK u pc' lv (.long (gJ σ1 a i) :: st) σ1 σ2) : EvL B bs L xs G1 G2 SK u pc lv (.int i :: .ref a :: st) σ1 σ2 := by
  obtain ⟨hd, rfl⟩ := hd
  intro p l e R s m args below meth c H locs A ls D cy SV C hX hP hD hS hl
  obtain ⟨j, hj⟩ := pl_get (f := pE cy G1 σ1) ha.1
  rw [pE_long ha.2] at hj
  exact va_lald C.1 C.2.1 C.2.2.2.2.2.2.2.1 (two_l hP) j 2 hj rfl (inB_s hi) hd (k p l e R s m args below meth c H locs A ls D cy SV C hX hP hD hS hl)
theorem el_ret (hd : Dc miL_law_ pc .ireturn 1 pc') (hu : u.1 ≤ 601024 ∧ u.2 ≤ 7293034) : EvL B bs L xs G1 G2 SK u pc lv [.int 1] σ1 σ2 := by
  intro p l e R s m args below meth c H locs A ls D cy SV C hX hP hD hS hl
  obtain ⟨rfl, -, -, -, hAs⟩ := hX
  refine va_forget (fun q hq => hAs _ (hS.2.2 q hq)) ?_
  refine W.widen (k := 601024) (n := 7293034) hu.1 hu.2 ?_
  exact lw_ret9 C.1 C.2.1 C.2.2.1 C.2.2.2.2.2.2.1.1 hd.1
theorem el_call1 {Y' : MI} {y : MethodName} {d' idx n a ci : Nat} {av st0 st1 : List Value} {o : Option Value} {τ : pS} (hd : Dc miL_law_ pc (.invokevirtual idx) 3 pc') (hM : Dn Y' y d' G1 SK (.ref a :: av) σ1 o τ) (hl : Cond.methodLink RL idx y ∈ Gw) (hy : CY Y' y n) (hb : Is G1 a ci) (hc : ci < 12) (hcl : (vwCl[ci]?).map (fun q => q.1) = some y.cls) (hn : av.length = n) (hst : av.reverse ++ .ref a :: st = st0) (hs1 : o.toList ++ st = st1) (hr : (st.map fun v => v.category).sum ≤ 8) (hB : d' + 1 ≤ B.1) (hu : u.1 ≤ B.2.1 ∧ u.2 ≤ B.2.2)
    (k9 : EvL B bs L xs G1 G2 SK u pc' lv st1 τ σ2) : EvL B bs L xs G1 G2 SK u pc lv st0 σ1 σ2 := by
  obtain ⟨hd, rfl⟩ := hd
  obtain ⟨y1, y2, y3, y4, y5, y6⟩ := hy
  subst hst hs1
  intro p l e R s m args below meth c H locs A ls D cy SV C hX hP hD hS hlv
  have hts := C.2.2.2.2.2.1
  obtain ⟨q9, hq9, hq8⟩ : ∃ q, vwCl[ci]? = some q ∧ q.1 = y.cls := by
    cases h : vwCl[ci]? with
    | none => rw [h] at hcl; cases hcl
    | some q => rw [h] at hcl; exact ⟨q, rfl, Option.some.inj hcl⟩
  obtain ⟨j, hj⟩ := pl_get (f := pE cy G1 σ1) hb.1
  rw [pE_obj hb.2 hc] at hj
  have hP' : va_P D vwCl (pool cy G1 σ1 ++ pool cy G2 σ2) H := hP
  have hD' : va_D A (pool cy G1 σ1 ++ pool cy G2 σ2) := hD
  have hrec := va_recv C.2.2.2.2.2.2.2.1 (two_l hP') hq9 hj
  rw [hq8] at hrec
  have hp := pre_of (av := .ref a :: av) C (two_l hP') (leftD hD') hS
  have hR := ev_room hB y6 C.2.2.2.2.2.2.2.2.1
  exact law_go (va_runV (As := av) (rest := st) (Ts := Gw) (cc := code) (nL := 7) (own := RL) (C := y.cls) ⟨C.1, C.2.1, C.2.2.2.1, C.2.2.2.2.1, hts⟩ (hM l C.2.2.2.2.2.2.1.2.1 D cy SV H.size)
    ⟨callB_of n hts (gw_in y4) rfl rfl rfl (hts _ y3) (hts _ hl) y5 hR, hts _ y1, hts _ y2⟩ ⟨hp.1, hrec, hp.2⟩ rfl hn hlv.1 rfl (lv_room hr) hd ⟨Nat.le_trans hu.1 C.2.2.2.2.2.2.2.2.1.2.2.1, Nat.le_trans hu.2 C.2.2.2.2.2.2.2.2.1.2.2.2⟩) hP' hD' hS C.2.2.2.2.2.2.2.2.2.1
    (fun H1 locs1 hP1 hD1 hS1 => k9 p l e R s m args below meth c H1 locs1 A ls D cy SV C hX hP1 hD1 hS1 hlv)
theorem el_call2 {Y' : MI} {y : MethodName} {d' idx n a ci : Nat} {av st0 st1 : List Value} {o : Option Value} {τ : pS} (hd : Dc miL_law_ pc (.invokevirtual idx) 3 pc') (hM : Dn Y' y d' G2 SK (.ref a :: av) σ2 o τ) (hl : Cond.methodLink RL idx y ∈ Gw) (hy : CY Y' y n) (hb : Is G2 a ci) (hc : ci < 12) (hcl : (vwCl[ci]?).map (fun q => q.1) = some y.cls) (hn : av.length = n) (hst : av.reverse ++ .ref a :: st = st0) (hs1 : o.toList ++ st = st1) (hr : (st.map fun v => v.category).sum ≤ 8) (hB : d' + 1 ≤ B.1) (hu : u.1 ≤ B.2.1 ∧ u.2 ≤ B.2.2)
    (k9 : EvL B bs L xs G1 G2 SK u pc' lv st1 σ1 τ) : EvL B bs L xs G1 G2 SK u pc lv st0 σ1 σ2 := by
  obtain ⟨hd, rfl⟩ := hd
  obtain ⟨y1, y2, y3, y4, y5, y6⟩ := hy
  subst hst hs1
  intro p l e R s m args below meth c H locs A ls D cy SV C hX hP hD hS hlv
  have hts := C.2.2.2.2.2.1
  obtain ⟨q9, hq9, hq8⟩ : ∃ q, vwCl[ci]? = some q ∧ q.1 = y.cls := by
    cases h : vwCl[ci]? with
    | none => rw [h] at hcl; cases hcl
    | some q => rw [h] at hcl; exact ⟨q, rfl, Option.some.inj hcl⟩
  obtain ⟨j, hj⟩ := pl_get (f := pE cy G2 σ2) hb.1
  rw [pE_obj hb.2 hc] at hj
  have hP' : va_P D vwCl (pool cy G2 σ2 ++ pool cy G1 σ1) H := two_swap hP
  have hD' : va_D A (pool cy G2 σ2 ++ pool cy G1 σ1) := swapD hD
  have hrec := va_recv C.2.2.2.2.2.2.2.1 (two_l hP') hq9 hj
  rw [hq8] at hrec
  have hp := pre_of (av := .ref a :: av) C (two_l hP') (leftD hD') hS
  have hR := ev_room hB y6 C.2.2.2.2.2.2.2.2.1
  exact law_go (va_runV (As := av) (rest := st) (Ts := Gw) (cc := code) (nL := 7) (own := RL) (C := y.cls) ⟨C.1, C.2.1, C.2.2.2.1, C.2.2.2.2.1, hts⟩ (hM l C.2.2.2.2.2.2.1.2.1 D cy SV H.size)
    ⟨callB_of n hts (gw_in y4) rfl rfl rfl (hts _ y3) (hts _ hl) y5 hR, hts _ y1, hts _ y2⟩ ⟨hp.1, hrec, hp.2⟩ rfl hn hlv.1 rfl (lv_room hr) hd ⟨Nat.le_trans hu.1 C.2.2.2.2.2.2.2.2.1.2.2.1, Nat.le_trans hu.2 C.2.2.2.2.2.2.2.2.1.2.2.2⟩) hP' hD' hS C.2.2.2.2.2.2.2.2.2.1
    (fun H1 locs1 hP1 hD1 hS1 => k9 p l e R s m args below meth c H1 locs1 A ls D cy SV C hX (two_swap hP1) (swapD hD1) hS1 hlv)
/-- a call of one of the law's own methods with handlers -/
def CW (Y' : MI) (y : MethodName) (n : Nat) : Prop := Cond.static y ∈ Gw ∧ Cond.initialized y.cls ∈ Gw ∧ Cond.codeWith y Y'.2.1 Y'.2.2.1 Y'.2.2.2.1 Y'.2.2.2.2 ∈ Gw ∧ (y.cls ≠ "java/lang/invoke/MethodHandle" ∧ y.cls ≠ "java/lang/invoke/VarHandle" ∧ (parseMethodDescriptor y.desc).map (fun d => d.parameters.length) = some n) ∧ Y'.2.2.1 ≤ 45
theorem gw_inW {own : String} {idx : Nat} {y : MethodName} {b : ByteArray} {n : Nat} {r : Option FieldType} {hh : List (Nat × Nat × Nat × Nat)} (h : Cond.codeWith y b n r hh ∈ Gw) (h1 : Cond.methodLink own idx y ∈ Gw) (h2 : Cond.static y ∈ Gw) (h3 : Cond.initialized y.cls ∈ Gw) : GoodIn Gw (va_wsS own idx y (Cond.codeWith y b n r hh :: Gw)) := by
  intro w hw
  have hm : w ∈ Gw := by
    simp only [va_wsS, List.cons_append, List.nil_append, List.mem_cons] at hw
    rcases hw with rfl | rfl | rfl | rfl | hw
    all_goals first | assumption | exact hw
  exact ⟨hm, good_of_word (gw_good _ hm)⟩
theorem el_wrap {Y' : MI} {y : MethodName} {d' mc' ms' idx n : Nat} {av st0 : List Value} {v9 : Option Value} {τ : pS} (hd : Dc miL_law_ pc (.invokestatic idx) 3 pc') (hM : DxH Y' y d' mc' ms' G1 SK av σ1 (.inl (v9, τ))) (hl : Cond.methodLink RL idx y ∈ Gw) (hy : CW Y' y n) (hn : av.length = n) (hst : av.reverse ++ st = st0) (hr : (st.map fun v => v.category).sum ≤ 8) (hB : d' + 1 ≤ B.1) (hu : u.1 + mc' ≤ B.2.1 ∧ u.2 + ms' ≤ B.2.2)
    (k9 : EvL B bs L xs G1 G2 SK (u.1 + mc', u.2 + ms') pc' lv (v9.toList ++ st) τ σ2) : EvL B bs L xs G1 G2 SK u pc lv st0 σ1 σ2 := by
  obtain ⟨hd, rfl⟩ := hd
  obtain ⟨y1, y3, y4, y5, y6⟩ := hy
  subst hst
  intro p l e R s m args below meth c H locs A ls D cy SV C hX hP hD hS hlv
  have hts := C.2.2.2.2.2.1
  have hp := pre_of (av := av) C (two_l hP) (leftD hD) hS
  have hR := ev_roomX (mc := mc') (ms := ms') hB y6 C.2.2.2.2.2.2.2.2.1
  exact law_goX (vx_runSX (As := av) (rest := st) (Ts := Gw) (cc := code) (nL := 7) (own := RL) (hh := Y'.2.2.2.2) (bytes := Y'.2.1) (maxL := Y'.2.2.1) (ret := Y'.2.2.2.1) ⟨C.1, C.2.1, C.2.2.2.1, C.2.2.2.2.1, hts⟩ (hM l C.2.2.2.2.2.2.1.2.1 D cy SV H.size)
    (vx_cwSW n hts (gw_inW y4 hl y1 y3) rfl rfl rfl y5 hR) hp rfl hn hlv.1 rfl (lv_room hr) hd ⟨Nat.le_trans hu.1 C.2.2.2.2.2.2.2.2.1.2.2.1, Nat.le_trans hu.2 C.2.2.2.2.2.2.2.2.1.2.2.2⟩) hP hD hS C.2.2.2.2.2.2.2.2.2.1
    (fun H1 locs1 hP1 hD1 hS1 => k9 p l e R s m args below meth c H1 locs1 A ls D cy SV C hX hP1 hD1 hS1 hlv)
end LawRows
