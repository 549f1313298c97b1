/-! more rows: Math, arraycopy, longs, null, switches, texts; loops -/
/-- a loop with fuel -/
def lp {β α : Type} (body : (β → Option α) → β → Option α) : Nat → β → Option α
  | 0 => fun _ => none
  | n + 1 => fun b => body (lp body n) b
theorem lp_ind {β α : Type} {body : (β → Option α) → β → Option α} {P : β → α → Prop} (step : ∀ (k : β → Option α) (b : β) (r : α), (∀ (b : β) (r : α), k b = some r → P b r) → body k b = some r → P b r) : ∀ (n : Nat) (b : β) (r : α), lp body n b = some r → P b r := by
  intro n
  induction n with
  | zero => intro b r h; cases h
  | succ n ih => intro b r h; exact step _ b r ih h
/-- what kind a field leads to -/
def kdT : List (List Nat) := [[0, 0, 13, 13, 13, 13, 13, 0], [0, 0, 0, 0, 0, 0, 0, 13], [0, 0, 13], [0, 0, 0, 0, 0, 0, 0, 13, 2], [0, 0, 16], [3, 14, 14, 14], [3, 13, 13, 0, 0], [0, 0, 0, 0, 0, 0, 0, 0, 0, 13, 13, 13, 13, 13, 13, 13, 13, 13], [0, 0, 0, 0, 0, 12], [7, 0, 3], [8, 9, 9, 9, 4, 3, 6, 5, 1, 0, 0], [0, 13, 13, 13, 13, 13, 0, 0, 12, 0, 0, 0, 0, 0, 0, 13, 0, 13, 0, 0, 0, 0, 0, 0, 0, 13, 15, 15, 13]]
def kd (c k : Nat) : Nat := (kdT.getD c []).getD k 0
/-- the shape is well made: each reference leads to a thing of its kind -/
def WT (G : pG) : Prop := (∀ a c k : Nat, Is G a c → isR c k = true → Is G (pR G a k) (kd c k)) ∧ ∀ a i : Nat, Is G a 16 → i < pN G a → Is G (pQ G a i) 3
theorem wt {G : pG} (hW : WT G) {a c : Nat} (h : Is G a c) (k : Nat) (hr : isR c k = true) {c' : Nat} (hc : kd c k = c') : Is G (pR G a k) c' := hc ▸ hW.1 a c k h hr
theorem wq {G : pG} (hW : WT G) {a : Nat} {i : Int32} (h : Is G a 16) (hi : inB i (pN G a) = true) : Is G (pQ G a i.toNatClampNeg) 3 := by
  refine hW.2 _ _ h ?_
  simp only [inB, Bool.and_eq_true, Bool.not_eq_true', decide_eq_false_iff_not, decide_eq_true_eq] at hi
  exact hi.2
section EvMore
variable {Y : MI} {B : Nat × Nat × Nat} {G : pG} {Z : ZZ} {SK : Nat → Nat} {u : Nat × Nat} {pc pc' : Nat} {lv lv' : List (Option Value)} {st : List Value} {σ : pS}
def lvS : List (Option Value) → List (Option Value) → Prop
  | [], _ => True
  | none :: t, x => lvS t x.tail
  | some v :: t, x => x.head? = some (some v) ∧ lvS t x.tail
theorem lvS_spec {a b : List (Option Value)} (h : lvS a b) : ∀ (i : Nat) (v : Value), a[i]? = some (some v) → b[i]? = some (some v) := by
  induction a generalizing b with
  | nil => intro i v hi; simp at hi
  | cons x t ih =>
    intro i v hi
    cases x with
    | none =>
      cases i with
      | zero => simp at hi
      | succ j =>
        have h2 : lvS t b.tail := h
        have := ih h2 j v (by simpa using hi)
        cases b with
        | nil => simp at this
        | cons y r => simpa using this
    | some w =>
      have h2 : b.head? = some (some w) ∧ lvS t b.tail := h
      cases i with
      | zero =>
        have e : w = v := by simpa using hi
        subst e
        cases b with
        | nil => simp at h2
        | cons y r => simpa using h2.1
      | succ j =>
        have := ih h2.2 j v (by simpa using hi)
        cases b with
        | nil => simp at this
        | cons y r => simpa using this
/-- fewer known locals -/
theorem ev_sub (k : Ev Y B G Z SK u pc lv' st σ) (hs : lvS lv' lv) : Ev Y B G Z SK u pc lv st σ := by
  intro p l e R s m args below meth c H locs A ls D cy SV C hP hD hS hl
  exact k p l e R s m args below meth c H locs A ls D cy SV C hP hD hS ⟨hl.1, hl.2.1, fun i v h => hl.2.2 i v (lvS_spec hs i v h)⟩
theorem ev_max {i : Nat} {x y : Int32} (hd : Dc Y pc (.invokestatic i) 3 pc') (hw : Cond.methodLink Y.1 i Lib.Math.max.name ∈ Gw) (hr : (st.map fun v => v.category).sum ≤ 8) (hB : 1 ≤ B.1) (hu : u.1 ≤ B.2.1 ∧ u.2 ≤ B.2.2) (k : Ev Y B G Z SK u pc' lv (.int (jmax x y) :: st) σ) : Ev Y B G Z SK u pc lv (.int y :: .int x :: st) σ := by
  obtain ⟨hd, rfl⟩ := hd
  intro p l e R s m args below meth c H locs A ls D cy SV C hP hD hS hl
  obtain ⟨r1, r2, r3, r4⟩ := C.2.2.2.2.2.2.2.2.1
  have hts := C.2.2.2.2.2.1
  exact va_mmax C.1 C.2.1 (by rw [C.2.2.2.1, hl.1]) C.2.2.2.2.1 (hts _ hw) (hts _ mw_max1) (hts _ mw_max2) (hts _ mw_max3) (by omega) (by omega) (by omega) (by omega) hd (k p l e R s m args below meth c H locs A ls D cy SV C hP hD hS hl)
theorem ev_min {i : Nat} {x y : Int32} (hd : Dc Y pc (.invokestatic i) 3 pc') (hw : Cond.methodLink Y.1 i Lib.Math.min.name ∈ Gw) (hr : (st.map fun v => v.category).sum ≤ 8) (hB : 1 ≤ B.1) (hu : u.1 ≤ B.2.1 ∧ u.2 ≤ B.2.2) (k : Ev Y B G Z SK u pc' lv (.int (jmin x y) :: st) σ) : Ev Y B G Z SK u pc lv (.int y :: .int x :: st) σ := by
  obtain ⟨hd, rfl⟩ := hd
  intro p l e R s m args below meth c H locs A ls D cy SV C hP hD hS hl
  obtain ⟨r1, r2, r3, r4⟩ := C.2.2.2.2.2.2.2.2.1
  have hts := C.2.2.2.2.2.1
  exact va_mmin C.1 C.2.1 (by rw [C.2.2.2.1, hl.1]) C.2.2.2.2.1 (hts _ hw) (hts _ mw_min1) (hts _ mw_max2) (hts _ mw_min3) (by omega) (by omega) (by omega) (by omega) hd (k p l e R s m args below meth c H locs A ls D cy SV C hP hD hS hl)
/-- what arraycopy tests -/
def cpB (sp dp n : Int32) (n0 n1 : Nat) : Bool := !(decide (sp < 0)) && !(decide (dp < 0)) && !(decide (n < 0)) && decide (sp.toNatClampNeg + n.toNatClampNeg ≤ n0) && decide (dp.toNatClampNeg + n.toNatClampNeg ≤ n1)
def cpA (σ : pS) (a : Nat) (sp : Int32) (b : Nat) (dp n : Int32) : pS := rowA σ b (va_cpy (σ.2.1 a) (σ.2.1 b) sp.toNatClampNeg dp.toNatClampNeg n.toNatClampNeg)
def cpJ (σ : pS) (a : Nat) (sp : Int32) (b : Nat) (dp n : Int32) : pS := rowJ σ b (va_cpy (σ.2.2 a) (σ.2.2 b) sp.toNatClampNeg dp.toNatClampNeg n.toNatClampNeg)
theorem ev_cpI {α : Type} {P : Option α} {r : α} {i a b : Nat} {sp dp n : Int32} (hd : Dc Y pc (.invokestatic i) 3 pc') (hw : Cond.methodLink Y.1 i arraycopyName ∈ Gw) (ha : Is G a 13) (hb : Is G b 13) (hr : (st.map fun v => v.category).sum ≤ 8) (hB : 1 ≤ B.1) (h : ck (cpB sp dp n (pN G a) (pN G b)) P = some r) (k : P = some r → Ev Y B G Z SK u pc' lv st (cpA σ a sp b dp n)) : Ev Y B G Z SK u pc lv (.int n :: .int dp :: .ref b :: .int sp :: .ref a :: st) σ := by
  obtain ⟨hd, rfl⟩ := hd
  obtain ⟨h1, h2⟩ := ck_s h
  simp only [cpB, Bool.and_eq_true, Bool.not_eq_true', decide_eq_false_iff_not, decide_eq_true_eq] at h1
  obtain ⟨⟨⟨⟨g1, g2⟩, g3⟩, g4⟩, g5⟩ := h1
  intro p l e R s m args below meth c H locs A ls D cy SV C hP hD hS hl
  obtain ⟨r1, r2, r3, r4⟩ := C.2.2.2.2.2.2.2.2.1
  have hts := C.2.2.2.2.2.1
  obtain ⟨j0, hj0⟩ := pl_get (f := pE cy G σ) ha.1
  rw [pE_int ha.2 (by decide)] at hj0
  obtain ⟨j, hj⟩ := pl_get (f := pE cy G σ) hb.1
  have hj' := hj
  rw [pE_int hb.2 (by decide)] at hj
  have hnw : nativeFrameWords "java/lang/System" "arraycopy" 5 + 11 ≤ 50 := by decide
  refine va_copyi C.1 C.2.1 (by rw [C.2.2.2.1, hl.1]) C.2.2.2.2.1 (hts _ hw) (hts _ mw_cp1) (hts _ mw_cp2) (hts _ mw_cp3) C.2.2.2.2.2.2.2.1 hP hD hS j0 j 1 1 hj0 hj rfl rfl rfl g1 g2 g3 g4 g5 (fun _ _ => rfl) (by omega) (by omega) hd (fun H1 locs1 hP1 hD1 hS1 => ?_)
  have e9 := pool_row (f := va_cpy (σ.2.1 a) (σ.2.1 b) sp.toNatClampNeg dp.toNatClampNeg n.toNatClampNeg) hD hb (by decide) hj'
  exact k h2 p l e R s m args below meth c H1 locs1 A ls D cy SV C (e9 ▸ hP1) (e9 ▸ hD1) hS1 hl
theorem pool_rowJ {cy : Nat → ClassId} {σ : pS} {A : Nat → Prop} {a j : Nat} {f : Nat → Int64} (hD : va_D A (pool cy G σ)) (ha : Is G a 14) (hj : (va_pl (pL G) (pE cy G σ))[j]? = some (a, pE cy G σ a)) : (pool cy G σ).set j (a, .inl (cy 2, pN G a, .inr (.inl f))) = pool cy G (rowJ σ a f) := by
  show (va_pl (pL G) (pE cy G σ)).set j _ = va_pl (pL G) (pE cy G (rowJ σ a f))
  rw [pl_set hD ha.1 hj, pE_putJ ha.2]
theorem ev_cpJ {α : Type} {P : Option α} {r : α} {i a b : Nat} {sp dp n : Int32} (hd : Dc Y pc (.invokestatic i) 3 pc') (hw : Cond.methodLink Y.1 i arraycopyName ∈ Gw) (ha : Is G a 14) (hb : Is G b 14) (hr : (st.map fun v => v.category).sum ≤ 8) (hB : 1 ≤ B.1) (h : ck (cpB sp dp n (pN G a) (pN G b)) P = some r) (k : P = some r → Ev Y B G Z SK u pc' lv st (cpJ σ a sp b dp n)) : Ev Y B G Z SK u pc lv (.int n :: .int dp :: .ref b :: .int sp :: .ref a :: st) σ := by
  obtain ⟨hd, rfl⟩ := hd
  obtain ⟨h1, h2⟩ := ck_s h
  simp only [cpB, Bool.and_eq_true, Bool.not_eq_true', decide_eq_false_iff_not, decide_eq_true_eq] at h1
  obtain ⟨⟨⟨⟨g1, g2⟩, g3⟩, g4⟩, g5⟩ := h1
  intro p l e R s m args below meth c H locs A ls D cy SV C hP hD hS hl
  obtain ⟨r1, r2, r3, r4⟩ := C.2.2.2.2.2.2.2.2.1
  have hts := C.2.2.2.2.2.1
  obtain ⟨j0, hj0⟩ := pl_get (f := pE cy G σ) ha.1
  rw [pE_long ha.2] at hj0
  obtain ⟨j, hj⟩ := pl_get (f := pE cy G σ) hb.1
  have hj' := hj
  rw [pE_long hb.2] at hj
  have hnw : nativeFrameWords "java/lang/System" "arraycopy" 5 + 11 ≤ 50 := by decide
  refine va_copyl C.1 C.2.1 (by rw [C.2.2.2.1, hl.1]) C.2.2.2.2.1 (hts _ hw) (hts _ mw_cp1) (hts _ mw_cp2) (hts _ mw_cp3) C.2.2.2.2.2.2.2.1 hP hD hS j0 j 2 2 hj0 hj rfl rfl rfl g1 g2 g3 g4 g5 (fun _ _ => rfl) (by omega) (by omega) hd (fun H1 locs1 hP1 hD1 hS1 => ?_)
  have e9 := pool_rowJ (f := va_cpy (σ.2.2 a) (σ.2.2 b) sp.toNatClampNeg dp.toNatClampNeg n.toNatClampNeg) hD hb hj'
  exact k h2 p l e R s m args below meth c H1 locs1 A ls D cy SV C (e9 ▸ hP1) (e9 ▸ hD1) hS1 hl
theorem rowJ_upd {a i : Nat} {v : Int64} : rowJ σ a (vp_updL (σ.2.2 a) i v) = putJ σ a i v := by
  simp only [rowJ, putJ, Prod.mk.injEq, true_and, and_true]
  funext b j
  by_cases hb : b = a
  · subst hb
    by_cases hj : j = i
    · subst hj; simp [va_up, up2, vp_updL]
    · simp [va_up, up2, vp_updL, hj]
  · simp [va_up, up2, hb]
theorem ev_last {α : Type} {P : Option α} {r : α} {a : Nat} {i : Int32} {v : Int64} (hd : Dc Y pc .lastore 1 pc') (ha : Is G a 14) (h : ck (inB i (pN G a)) P = some r) (k9 : P = some r → Ev Y B G Z SK u pc' lv st (sJ σ a i v)) : Ev Y B G Z SK u pc lv (.long v :: .int i :: .ref a :: st) σ := by
  obtain ⟨hd, rfl⟩ := hd
  obtain ⟨h1, h2⟩ := ck_s h
  intro p l e R s m args below meth c H locs A ls D cy SV C hP hD hS hl
  obtain ⟨j, hj⟩ := pl_get (f := pE cy G σ) ha.1
  have hj' := hj
  rw [pE_long ha.2] at hj
  refine va_last C.1 C.2.1 C.2.2.2.2.2.2.2.1 hP hD hS j 2 hj rfl (inB_s h1) hd (fun H1 locs1 hP1 hD1 hS1 => ?_)
  have e9 := pool_rowJ (f := vp_updL (σ.2.2 a) i.toNatClampNeg v) hD ha hj'
  rw [rowJ_upd] at e9
  exact k9 h2 p l e R s m args below meth c H1 locs1 A ls D cy SV C (e9 ▸ hP1) (e9 ▸ hD1) hS1 hl
theorem ev_lstore {i : Nat} {x : Int64} (hd : Dc Y pc (.lstore i) 2 pc') (hn : noL lv i = true) (hi : i + 1 < Y.2.2.1) (hs : (lv.set i (some (.long x))).set (i + 1) none = lv') (k : Ev Y B G Z SK u pc' lv' st σ) : Ev Y B G Z SK u pc lv (.long x :: st) σ := by
  obtain ⟨hd, rfl⟩ := hd
  intro p l e R s m args below meth c H locs A ls D cy SV C hP hD hS hl
  refine lv_lstore C.1 C.2.1 hd hl.has hi rfl (fun ls h => k p l e R s m args below meth c H locs A ls D cy SV C hP hD hS ⟨h.1, h.2.1, fun j w hj => ?_⟩)
  subst hs
  by_cases h1 : j = i + 1
  · subst h1
    by_cases hlt : i + 1 < (lv.set i (some (.long x))).length
    · rw [List.getElem?_set_self hlt] at hj; cases hj
    · rw [List.getElem?_eq_none (by rw [List.length_set]; omega)] at hj; cases hj
  · rw [List.getElem?_set_ne (Ne.symm h1)] at hj
    by_cases h2 : j = i
    · subst h2
      have hlt : j < lv.length := by have := (List.getElem?_eq_some_iff.mp hj).1; simpa using this
      rw [List.getElem?_set_self hlt] at hj
      cases hj
      exact h.2.2 (j, .long x) List.mem_cons_self
    · rw [List.getElem?_set_ne (Ne.symm h2)] at hj
      refine h.2.2 (j, w) (List.mem_cons_of_mem _ (List.mem_filter.mpr ⟨lvA_mem.mpr hj, ?_⟩))
      by_cases h3 : j + 1 = i
      · have := noL_spec hn h3 hj
        simp [h2, h1, this]
      · simp [h2, h1, h3]
theorem ev_zretc {v : Int32} {o : Option Value} {σ' : pS} (hd : Dc Y pc .ireturn 1 pc') (hY : Y.2.2.2.1 = some .boolean) (hz : isZ v = true) (ho : some (.int v) = o) (hσ : σ = σ') : Ev Y B G (Zp G o σ') SK (0, 0) pc lv [.int v] σ := ev_zret (P := some ()) (r := ()) hd hY (by simp [ck, hz]) ho hσ
theorem ev_aret {a : Option Nat} {o : Option Value} {σ' : pS} {C9 : String} (hd : Dc Y pc .areturn 1 pc') (hY : Y.2.2.2.1 = some (.object C9)) (ho : some (va_rf a) = o) (hσ : σ = σ') : Ev Y B G (Zp G o σ') SK (0, 0) pc lv [va_rf a] σ := by
  obtain ⟨hd, rfl⟩ := hd
  subst ho hσ
  intro p l e R s m args below meth c H locs A ls D cy SV C hP hD hS hl
  have hlk := C.2.2.2.2.2.2.1.1
  exact W.aret (v := va_rf a) C.1 C.2.1 (C.2.2.1.trans hY) (Or.inl ⟨_, rfl⟩) (by cases a with | none => exact Or.inl rfl | some a => exact Or.inr ⟨a, rfl⟩) (fun t ht hW => ⟨rfl, by rw [ht]; exact hP, va_K.moved hW.alike C.2.2.2.2.2.2.2.1, hD, hS.F ht⟩) hS.2.2 hd
theorem ev_null (hd : Dc Y pc .aconst_null 1 pc') (k : Ev Y B G Z SK u pc' lv (.null :: st) σ) : Ev Y B G Z SK u pc lv st σ := by
  obtain ⟨hd, rfl⟩ := hd
  intro p l e R s m args below meth c H locs A ls D cy SV C hP hD hS hl
  exact lv_null C.1 C.2.1 hd (k p l e R s m args below meth c H locs A ls D cy SV C hP hD hS hl)
theorem ev_tabIn {x : Int32} {dflt lo hi : Int} {offs : Array Int} {len tgt : Nat} {off : Int} (v : Int32) (hx : x = v) (hd : Dc Y pc (.tableswitch dflt lo hi offs) len pc') (h1 : ¬ v.toInt < lo) (h2 : ¬ hi < v.toInt) (ho : offs[(v.toInt - lo).toNat]? = some off) (ht : (pc : Int) + off = (tgt : Int)) (k : Ev Y B G Z SK u tgt lv st σ) : Ev Y B G Z SK u pc lv (.int x :: st) σ := by
  subst hx
  intro p l e R s m args below meth c H locs A ls D cy SV C hP hD hS hl
  exact lv_tableIn C.1 C.2.1 hd.1 h1 h2 ho ht (k p l e R s m args below meth c H locs A ls D cy SV C hP hD hS hl)
theorem ev_tabOut {x : Int32} {dflt lo hi : Int} {offs : Array Int} {len tgt : Nat} (hd : Dc Y pc (.tableswitch dflt lo hi offs) len pc') (hx : x.toInt < lo ∨ hi < x.toInt) (ht : (pc : Int) + dflt = (tgt : Int)) (k : Ev Y B G Z SK u tgt lv st σ) : Ev Y B G Z SK u pc lv (.int x :: st) σ := by
  intro p l e R s m args below meth c H locs A ls D cy SV C hP hD hS hl
  exact lv_tableOut C.1 C.2.1 hd.1 hx ht (k p l e R s m args below meth c H locs A ls D cy SV C hP hD hS hl)
end EvMore
def swN (x : Int32) : List Int32 → Prop
  | [] => True
  | v :: t => ¬ x = v ∧ swN x t
theorem swN_ne {x : Int32} {vs : List Int32} (h : swN x vs) : ∀ v ∈ vs, x ≠ v := by
  induction vs with
  | nil => intro v hv; cases hv
  | cons a t ih =>
    intro v hv
    rcases List.mem_cons.mp hv with rfl | hv
    · exact h.1
    · exact ih h.2 v hv
theorem sw_out {x : Int32} {lo hi : Int} {vs : List Int32} (e1 : vs.map Int32.toInt = (List.range vs.length).map (fun (k : Nat) => lo + (k : Int))) (e2 : hi = lo + vs.length - 1) (h : swN x vs) : x.toInt < lo ∨ hi < x.toInt := by
  by_cases h1 : x.toInt < lo
  · exact Or.inl h1
  by_cases h2 : hi < x.toInt
  · exact Or.inr h2
  exfalso
  have hj : (x.toInt - lo).toNat < vs.length := by omega
  have e3 : (vs.map Int32.toInt)[(x.toInt - lo).toNat]? = some x.toInt := by
    rw [e1, List.getElem?_map, List.getElem?_range hj]
    simp only [Option.map_some, Option.some.injEq]
    omega
  rw [List.getElem?_map, Option.map_eq_some_iff] at e3
  obtain ⟨v, hv, e4⟩ := e3
  exact swN_ne h v (List.mem_of_getElem? hv) (Int32.toInt_inj.mp e4.symm)
theorem lp_ind2 {β α : Type} {body : (β → Option α) → β → Option α} {P : Nat → β → α → Prop} (step : ∀ (n : Nat) (k : β → Option α) (b : β) (r : α), (∀ (b : β) (r : α), k b = some r → P n b r) → body k b = some r → P (n + 1) b r) : ∀ (n : Nat) (b : β) (r : α), lp body n b = some r → P n b r := by
  intro n
  induction n with
  | zero => intro b r h; cases h
  | succ n ih => intro b r h; exact step n _ b r ih h
section EvNull
variable {Y : MI} {B : Nat × Nat × Nat} {G : pG} {Z : ZZ} {SK : Nat → Nat} {u : Nat × Nat} {pc pc' : Nat} {lv lv' : List (Option Value)} {st : List Value} {σ : pS}
theorem ev_aload_nN {i : Fin 4} (hd : Dc Y pc (.aload_n i) 1 pc') (hx : lv[(i : Nat)]? = some (some .null)) (k : Ev Y B G Z SK u pc' lv (.null :: st) σ) : Ev Y B G Z SK u pc lv st σ := by
  obtain ⟨hd, rfl⟩ := hd
  intro p l e R s m args below meth c H locs A ls D cy SV C hP hD hS hl
  exact lv_aload_nN C.1 C.2.1 hd rfl (hl.2.2 _ _ hx) (k p l e R s m args below meth c H locs A ls D cy SV C hP hD hS hl)
theorem ev_astore_nN {i : Fin 4} (hd : Dc Y pc (.astore_n i) 1 pc') (hn : noL lv (i : Nat) = true) (hi : (i : Nat) < Y.2.2.1) (hs : lv.set (i : Nat) (some .null) = lv') (k : Ev Y B G Z SK u pc' lv' st σ) : Ev Y B G Z SK u pc lv (.null :: st) σ := by
  obtain ⟨hd, rfl⟩ := hd
  intro p l e R s m args below meth c H locs A ls D cy SV C hP hD hS hl
  exact lv_astore_nN C.1 C.2.1 hd rfl hl.has hi rfl (fun ls hl => k p l e R s m args below meth c H locs A ls D cy SV C hP hD hS (lvOk.st1 hl hn hs))
theorem ev_ifnull {x : Nat} {off : Int} (hd : Dc Y pc (.ifnull off) 3 pc') (k : Ev Y B G Z SK u pc' lv st σ) : Ev Y B G Z SK u pc lv (.ref x :: st) σ := by
  obtain ⟨hd, rfl⟩ := hd
  intro p l e R s m args below meth c H locs A ls D cy SV C hP hD hS hl
  exact lv_ifnull C.1 C.2.1 hd (k p l e R s m args below meth c H locs A ls D cy SV C hP hD hS hl)
theorem ev_ifnullN {off : Int} {tgt : Nat} (hd : Dc Y pc (.ifnull off) 3 pc') (ht : (pc : Int) + off = (tgt : Int)) (k : Ev Y B G Z SK u tgt lv st σ) : Ev Y B G Z SK u pc lv (.null :: st) σ := by
  obtain ⟨hd, rfl⟩ := hd
  intro p l e R s m args below meth c H locs A ls D cy SV C hP hD hS hl
  exact lv_ifnullN C.1 C.2.1 hd ht (k p l e R s m args below meth c H locs A ls D cy SV C hP hD hS hl)
theorem ev_ifnonnull {x : Nat} {off : Int} {tgt : Nat} (hd : Dc Y pc (.ifnonnull off) 3 pc') (ht : (pc : Int) + off = (tgt : Int)) (k : Ev Y B G Z SK u tgt lv st σ) : Ev Y B G Z SK u pc lv (.ref x :: st) σ := by
  obtain ⟨hd, rfl⟩ := hd
  intro p l e R s m args below meth c H locs A ls D cy SV C hP hD hS hl
  exact lv_ifnonnull C.1 C.2.1 hd ht (k p l e R s m args below meth c H locs A ls D cy SV C hP hD hS hl)
theorem ev_ifnonnullN {off : Int} (hd : Dc Y pc (.ifnonnull off) 3 pc') (k : Ev Y B G Z SK u pc' lv st σ) : Ev Y B G Z SK u pc lv (.null :: st) σ := by
  obtain ⟨hd, rfl⟩ := hd
  intro p l e R s m args below meth c H locs A ls D cy SV C hP hD hS hl
  exact lv_ifnonnullN C.1 C.2.1 hd (k p l e R s m args below meth c H locs A ls D cy SV C hP hD hS hl)
end EvNull
