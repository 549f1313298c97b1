/-! acts: what stays when only the mind's cells change -/
theorem rH_w {w w' : Nat → Int32} (e : ∀ k, 383 ≤ k → w' k = w k) (g : Nat → Int32) (t : Int32) : ∀ (n i : Nat) (st : List Int32), rH w' g t i n st = rH w g t i n st := by
  intro n
  induction n with
  | zero => intro i st; rfl
  | succ n ih =>
    intro i st
    show (rS (w' (432 + 2 * i)) (w' (433 + 2 * i)) g t st).bind (rH w' g t (i + 1) n) = (rS (w (432 + 2 * i)) (w (433 + 2 * i)) g t st).bind (rH w g t (i + 1) n)
    rw [e _ (by omega), e _ (by omega), show rH w' g t (i + 1) n = rH w g t (i + 1) n from funext fun s => ih (i + 1) s]
theorem law_w {f K A E S w w' : Nat → Int32} (e6 : w' 6 = w 6) (e : ∀ k, 383 ≤ k → w' k = w k) (h : LawR f K A E S w) : LawR f K A E S w' := by
  unfold LawR LineR cN at h ⊢
  have e2 : ∀ g t i n st, rH w' g t i n st = rH w g t i n st := fun g t i n st => rH_w e g t n i st
  simp only [e6, e 383 (by omega), show ∀ i, w' (384 + 4 * i) = w (384 + 4 * i) from fun i => e _ (by omega), show ∀ i, w' (385 + 4 * i) = w (385 + 4 * i) from fun i => e _ (by omega), show ∀ i, w' (386 + 4 * i) = w (386 + 4 * i) from fun i => e _ (by omega), show ∀ i, w' (387 + 4 * i) = w (387 + 4 * i) from fun i => e _ (by omega), e2]
  exact h
theorem mk_side (i : Nat) (h : i < 6) : mindK (37 + 3 * i) = false := by
  have : ∀ i, i < 6 → mindK (37 + 3 * i) = false := by decide
  exact this i h
theorem mk_name (i : Nat) (h : i < 20) : mindK (17 + i) = false := by
  have : ∀ i, i < 20 → mindK (17 + i) = false := by decide
  exact this i h
theorem mk_word (i : Nat) (h : i < 28) : mindK (55 + i) = false := by
  have : ∀ i, i < 28 → mindK (55 + i) = false := by decide
  exact this i h
theorem mk_law (k : Nat) (h : 383 ≤ k) : mindK k = false := by
  have a : ∀ n, n < 17 → (k == n) = false := fun n hn => by simp; omega
  unfold mindK
  rw [a 7 (by omega), a 9 (by omega), a 11 (by omega), a 12 (by omega), a 13 (by omega), a 15 (by omega), a 16 (by omega), show decide (k < 55) = false from decide_eq_false (by omega), show decide (k < 383) = false from decide_eq_false (by omega)]
  simp
theorem tale_w {f : Nat → Int32} {A : Nat → Nat → Int32} {w w' : Nat → Int32} (hi : WInv w) (e : ∀ k, mindK k = false → w' k = w k) (h : TaleR f A w) : TaleR f A w' := by
  have e0 : ∀ k, (k = 0 ∨ k = 1 ∨ k = 2 ∨ k = 3 ∨ k = 4 ∨ k = 5 ∨ k = 8 ∨ k = 10 ∨ k = 14) → w' k = w k := by
    intro k hk
    apply e
    rcases hk with rfl | rfl | rfl | rfl | rfl | rfl | rfl | rfl | rfl <;> rfl
  obtain ⟨b0, b1, b2, b3, b4, _⟩ := hi
  have c0 : cN w 0 ≤ 10 := by unfold cN; omega
  have c1 : cN w 1 ≤ 6 := by unfold cN; omega
  have c2 : cN w 2 ≤ 6 := by unfold cN; omega
  have c3 : cN w 3 ≤ 4 := by unfold cN; omega
  have c4 : cN w 4 ≤ 8 := by unfold cN; omega
  have d0 : cN w' 0 = cN w 0 := by unfold cN; rw [e0 0 (by simp)]
  have d1 : cN w' 1 = cN w 1 := by unfold cN; rw [e0 1 (by simp)]
  have d2 : cN w' 2 = cN w 2 := by unfold cN; rw [e0 2 (by simp)]
  have d3 : cN w' 3 = cN w 3 := by unfold cN; rw [e0 3 (by simp)]
  have d4 : cN w' 4 = cN w 4 := by unfold cN; rw [e0 4 (by simp)]
  obtain ⟨h1, h2, h3, h4, h5, h6, h7⟩ := h
  refine ⟨?_, ?_, ?_, ?_, ?_, ?_, ?_⟩
  · rw [e0 5 (by simp), e0 0 (by simp), e0 2 (by simp), e0 3 (by simp), e0 1 (by simp), e0 4 (by simp), e0 8 (by simp), e0 10 (by simp), e0 14 (by simp)]
    exact h1
  · intro i hi
    rw [d0] at hi
    rw [e _ (mk_name (2 * i) (by omega)), e (18 + 2 * i) (by rw [show 18 + 2 * i = 17 + (2 * i + 1) by omega]; exact mk_name _ (by omega))]
    exact h2 i hi
  · intro t ht i
    rw [d0, h3 t ht i]
    by_cases hi : i < cN w 0
    · rw [e _ (mk_name (2 * i) (by omega))]
    · simp [hi]
  · intro i hi
    rw [d2] at hi
    rw [e _ (mk_word (2 * i) (by omega)), e (56 + 2 * i) (by rw [show 56 + 2 * i = 55 + (2 * i + 1) by omega]; exact mk_word _ (by omega))]
    exact h4 i hi
  · intro i hi
    rw [d3] at hi
    rw [e (67 + 2 * i) (by rw [show 67 + 2 * i = 55 + (2 * i + 12) by omega]; exact mk_word _ (by omega)), e (68 + 2 * i) (by rw [show 68 + 2 * i = 55 + (2 * i + 13) by omega]; exact mk_word _ (by omega))]
    exact h5 i hi
  · intro i hi
    rw [d1] at hi
    rw [e _ (mk_side i (by omega))]
    exact h6 i hi
  · intro i hi
    rw [d4] at hi
    rw [e (75 + i) (by rw [show 75 + i = 55 + (i + 20) by omega]; exact mk_word _ (by omega))]
    exact h7 i hi
/-- the mind's part of what the world keeps to -/
def MInv (w : Nat → Int32) : Prop :=
  (0 ≤ (w 7).toInt ∧ (w 7).toInt ≤ 99) ∧ (0 ≤ (w 9).toInt ∧ (w 9).toInt ≤ 400) ∧ (0 ≤ (w 11).toInt ∧ ((w 11).toInt < (w 0).toInt ∨ w 11 = 0)) ∧
  (∀ i, bit (w 12) i = true → i < cN w 0) ∧ (w 13 = 0 ∨ w 13 = 1) ∧ (0 ≤ (w 15).toInt ∧ (w 15).toInt ≤ 60) ∧
  (∀ i, i < cN w 1 → (0 ≤ (w (38 + 3 * i)).toInt ∧ (w (38 + 3 * i)).toInt < (w 2).toInt) ∧ (w (39 + 3 * i) = 0 ∨ w (39 + 3 * i) = 1)) ∧
  (∀ i, i < cN w 15 → (0 ≤ (w (83 + 5 * i)).toInt ∧ (w (83 + 5 * i)).toInt ≤ 400) ∧ (0 ≤ (w (84 + 5 * i)).toInt ∧ (w (84 + 5 * i)).toInt < (w 1).toInt) ∧ (0 ≤ (w (85 + 5 * i)).toInt ∧ (w (85 + 5 * i)).toInt < 6) ∧ (0 ≤ (w (86 + 5 * i)).toInt ∧ (w (86 + 5 * i)).toInt ≤ 99) ∧ (0 ≤ (w (87 + 5 * i)).toInt ∧ (w (87 + 5 * i)).toInt ≤ 10))
theorem WInv.m {w : Nat → Int32} (h : WInv w) : MInv w := by
  obtain ⟨a0, a1, a2, a3, a4, a5, a6, a7, a8, a9, a10, a11, a12, a13, a14, a15, n, c, wo, d, du, l⟩ := h
  exact ⟨a7, a9, a11, a12, a13, a15, fun i hi => (c i hi).2, l⟩
theorem WInv.act {w w' : Nat → Int32} (h : WInv w) (e : ∀ k, mindK k = false → w' k = w k) (m : MInv w') : WInv w' := by
  obtain ⟨a0, a1, a2, a3, a4, a5, a6, a7, a8, a9, a10, a11, a12, a13, a14, a15, n, c, wo, d, du, l⟩ := h
  obtain ⟨m7, m9, m11, m12, m13, m15, mc, ml⟩ := m
  have c0 : cN w 0 ≤ 10 := by unfold cN; omega
  have c1 : cN w 1 ≤ 6 := by unfold cN; omega
  have c2 : cN w 2 ≤ 6 := by unfold cN; omega
  have c3 : cN w 3 ≤ 4 := by unfold cN; omega
  have c4 : cN w 4 ≤ 8 := by unfold cN; omega
  have e0 := e 0 rfl
  have e1 := e 1 rfl
  have e2 := e 2 rfl
  have e3 := e 3 rfl
  have e4 := e 4 rfl
  refine ⟨by rw [e0]; exact a0, by rw [e1]; exact a1, by rw [e2]; exact a2, by rw [e3]; exact a3, by rw [e4]; exact a4, by rw [e 5 rfl]; exact a5, by rw [e 6 rfl]; exact a6, m7, by rw [e 8 rfl]; exact a8, m9, by rw [e 10 rfl]; exact a10, m11, m12, m13, by rw [e 14 rfl]; exact a14, m15, ?_, ?_, ?_, ?_, ?_, ml⟩
  · intro i hi
    have hi' : i < cN w 0 := by unfold cN at hi ⊢; rw [e0] at hi; exact hi
    rw [e _ (mk_name (2 * i) (by omega)), e (18 + 2 * i) (by rw [show 18 + 2 * i = 17 + (2 * i + 1) by omega]; exact mk_name _ (by omega))]
    exact n i hi'
  · intro i hi
    have hi' : i < cN w 1 := by unfold cN at hi ⊢; rw [e1] at hi; exact hi
    rw [e _ (mk_side i (by omega))]
    exact ⟨(c i hi').1, mc i hi⟩
  · intro i hi
    have hi' : i < cN w 2 := by unfold cN at hi ⊢; rw [e2] at hi; exact hi
    rw [e _ (mk_word (2 * i) (by omega)), e (56 + 2 * i) (by rw [show 56 + 2 * i = 55 + (2 * i + 1) by omega]; exact mk_word _ (by omega))]
    exact wo i hi'
  · intro i hi
    have hi' : i < cN w 3 := by unfold cN at hi ⊢; rw [e3] at hi; exact hi
    rw [e (67 + 2 * i) (by rw [show 67 + 2 * i = 55 + (2 * i + 12) by omega]; exact mk_word _ (by omega)), e (68 + 2 * i) (by rw [show 68 + 2 * i = 55 + (2 * i + 13) by omega]; exact mk_word _ (by omega))]
    exact d i hi'
  · intro i hi
    have hi' : i < cN w 4 := by unfold cN at hi ⊢; rw [e4] at hi; exact hi
    rw [e (75 + i) (by rw [show 75 + i = 55 + (i + 20) by omega]; exact mk_word _ (by omega))]
    exact du i hi'
theorem rtF_p {o k : Nat} (h1 : 66 ≤ o) (h2 : o ≤ 115) : rtF o k = true := by
  have e : (o == 1) = false := by simp; omega
  rw [rtF, rlF_p h1 h2, e]
  rfl
theorem rtA_p {o : Nat} (h1 : 66 ≤ o) (h2 : o ≤ 115) : rtA o = true := by
  have e : (o == 2) = false := by simp; omega
  rw [rtA, rlA_p h1 h2, e]
  rfl
theorem Sim.tape {z y : Nat} {σ1 σ2 τ1 τ2 : pS} (h : Sim z y σ1 σ2) (e1 : EE rtF rtA z σ1 τ1) (f : ∀ k, (k = 6 ∨ k = 7 ∨ k = 14) → τ2.1 y k = σ2.1 y k) (a : ∀ j, (j = 1 ∨ j = 2 ∨ j = 5) → τ2.2.1 (y + j) = σ2.2.1 (y + j)) (ht : τ1.1 (z + 1) 0 = τ2.1 y 9 ∧ 0 ≤ (τ2.1 y 9).toInt ∧ (τ2.1 y 9).toInt ≤ 400 ∧ ∀ i, i < (τ2.1 y 9).toInt.toNat → τ1.2.1 (z + 2) i = τ2.2.1 (y + 6) i ∧ ByteR (τ2.2.1 (y + 6) i)) : Sim z y τ1 τ2 := by
  obtain ⟨h1, h2, h3, ⟨h4, h5, h6⟩, h7, _⟩ := h
  have f6 := f 6 (by simp)
  have f7 := f 7 (by simp)
  have f14 := f 14 (by simp)
  have a1 := a 1 (by simp)
  have a2 := a 2 (by simp)
  have a5 := a 5 (by simp)
  refine ⟨?_, ?_, ?_, ⟨?_, ?_, ?_⟩, ?_, ht⟩
  · rw [a1]
    exact e1.wor (fun k => ⟨rfl, rfl, rfl⟩) rfl (by decide) h1
  · rw [a1, a5, f7]
    exact e1.past (fun o a b k => rtF_p a b) (fun o a b => rtA_p a b) h2
  · rw [f7]
    exact h3
  · rw [f6]
    exact (e1.1 0 10 rfl).trans h4
  · rw [f6]
    exact h5
  · rw [f6, a2]
    exact fun e => e1.wor (fun k => ⟨rfl, rfl, rfl⟩) rfl (by decide) (h6 e)
  · rw [f14]
    exact (e1.1 0 9 rfl).trans h7
theorem raA_r {o : Nat} (h1 : 5 ≤ o) (h2 : o ≤ 18) : raA o = true := by
  simp [raA, h1, h2]
/-- an act: the mind, the log and the past change -/
theorem Sim.act {z y : Nat} {σ1 σ2 τ1 τ2 : pS} (h : Sim z y σ1 σ2) (e1 : EE raF raA z σ1 τ1) (f : ∀ k, (k = 6 ∨ k = 9 ∨ k = 14) → τ2.1 y k = σ2.1 y k) (a : ∀ j, (j = 2 ∨ j = 6) → τ2.2.1 (y + j) = σ2.2.1 (y + j)) (ew : ∀ k, mindK k = false → τ2.2.1 (y + 1) k = σ2.2.1 (y + 1) k) (mi : MInv (τ2.2.1 (y + 1))) (mm : MindR (τ1.1 (z + 20)) (τ1.2.1 (z + 21)) (τ2.2.1 (y + 1))) (ml : LogR (τ1.1 (z + 22)) (τ1.2.1 (z + 23)) (τ2.2.1 (y + 1))) (hp : PastR τ1 z (τ2.2.1 (y + 5)) (τ2.2.1 (y + 1)) (τ2.1 y 7).toInt.toNat) (hn : 0 ≤ (τ2.1 y 7).toInt ∧ (τ2.1 y 7).toInt ≤ 12) : Sim z y τ1 τ2 := by
  obtain ⟨⟨w1, w2, w3, w4, w5⟩, h2, h3, ⟨h4, h5, h6⟩, h7, h8, h9, h10, h11⟩ := h
  have f6 := f 6 (by simp)
  have f9 := f 9 (by simp)
  have f14 := f 14 (by simp)
  have a2 := a 2 (by simp)
  have a6 := a 6 (by simp)
  refine ⟨⟨w1.act ew mi, tale_w w1 ew (e1.tale (fun k => rfl) (fun j a b => raA_r (by omega) (by omega)) w2), law_w (ew 6 rfl) (fun k hk => ew k (mk_law k hk)) (e1.law rfl (fun j a b => raA_r (by omega) (by omega)) w3), mm, ml⟩, hp, hn, ⟨?_, ?_, ?_⟩, ?_, ?_, ?_, ?_, ?_⟩
  · rw [f6]
    exact (e1.1 0 10 rfl).trans h4
  · rw [f6]
    exact h5
  · rw [f6, a2]
    exact fun e => e1.wor (fun k => ⟨rfl, rfl, rfl⟩) rfl (by decide) (h6 e)
  · rw [f14]
    exact (e1.1 0 9 rfl).trans h7
  · rw [f9]
    exact (e1.1 1 0 rfl).trans h8
  · rw [f9]
    exact h9
  · rw [f9]
    exact h10
  · intro i hi
    rw [f9] at hi
    rw [a6, e1.2 2 rfl]
    exact h11 i hi
theorem past_w {σ : pS} {z n : Nat} {a w w' : Nat → Int32} (e : ∀ k, mindK k = false → w' k = w k) (h : PastR σ z a w n) : PastR σ z a w' n := by
  obtain ⟨h1, h2, j, h3, h4, h5⟩ := h
  refine ⟨h1, h2, j, h3, h4, fun i hi => ?_⟩
  obtain ⟨b1, b2, b3, b4⟩ := h5 i hi
  exact ⟨b1, fun k hk hm => (b2 k hk hm).trans (e k hm).symm, b3, b4⟩
