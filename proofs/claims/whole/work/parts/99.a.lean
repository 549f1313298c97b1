/-! the story's lines: what a line does to the world, both sides -/
theorem WInv.s17 {w w' : Nat → Int32} (h : WInv w) (e0 : w' 0 = w 0) (e : ∀ k, 17 ≤ k → k < 37 → w' k = w k) : ∀ i, i < cN w' 0 → (0 ≤ (w' (17 + 2 * i)).toInt ∧ (w' (17 + 2 * i)).toInt < 64) ∧ (1 ≤ (w' (18 + 2 * i)).toInt ∧ (w' (18 + 2 * i)).toInt ≤ 9) := by
  intro i hi
  have c := h.c0
  have hi2 : i < cN w 0 := by
    unfold cN at hi ⊢
    rw [e0] at hi
    exact hi
  rw [e _ (by omega) (by omega), e _ (by omega) (by omega)]
  exact h.na i hi2
theorem WInv.s37 {w w' : Nat → Int32} (h : WInv w) (e1 : w' 1 = w 1) (e2 : (w 2).toInt ≤ (w' 2).toInt) (e : ∀ k, 37 ≤ k → k < 55 → w' k = w k) : ∀ i, i < cN w' 1 → (w' (37 + 3 * i) = 0 ∨ w' (37 + 3 * i) = 1) ∧ (0 ≤ (w' (38 + 3 * i)).toInt ∧ (w' (38 + 3 * i)).toInt < (w' 2).toInt) ∧ (w' (39 + 3 * i) = 0 ∨ w' (39 + 3 * i) = 1) := by
  intro i hi
  have c := h.c1
  have hi2 : i < cN w 1 := by
    unfold cN at hi ⊢
    rw [e1] at hi
    exact hi
  rw [e (37 + 3 * i) (by omega) (by omega), e (38 + 3 * i) (by omega) (by omega), e (39 + 3 * i) (by omega) (by omega)]
  obtain ⟨a, b, d⟩ := h.2.2.2.2.2.2.2.2.2.2.2.2.2.2.2.2.2.1 i hi2
  exact ⟨a, ⟨b.1, by omega⟩, d⟩
theorem WInv.s55 {w w' : Nat → Int32} (h : WInv w) (e0 : w' 2 = w 2) (e : ∀ k, 55 ≤ k → k < 67 → w' k = w k) : ∀ i, i < cN w' 2 → (0 ≤ (w' (55 + 2 * i)).toInt ∧ (w' (55 + 2 * i)).toInt ≤ 20) ∧ (-1 ≤ (w' (56 + 2 * i)).toInt ∧ (w' (56 + 2 * i)).toInt < 6) := by
  intro i hi
  have c := h.c2
  have hi2 : i < cN w 2 := by
    unfold cN at hi ⊢
    rw [e0] at hi
    exact hi
  rw [e _ (by omega) (by omega), e _ (by omega) (by omega)]
  exact h.wo i hi2
theorem WInv.s67 {w w' : Nat → Int32} (h : WInv w) (e0 : w' 3 = w 3) (e : ∀ k, 67 ≤ k → k < 75 → w' k = w k) : ∀ i, i < cN w' 3 → (0 ≤ (w' (67 + 2 * i)).toInt ∧ (w' (67 + 2 * i)).toInt ≤ 20) ∧ (0 ≤ (w' (68 + 2 * i)).toInt ∧ (w' (68 + 2 * i)).toInt ≤ 9) := by
  intro i hi
  have c := h.c3
  have hi2 : i < cN w 3 := by
    unfold cN at hi ⊢
    rw [e0] at hi
    exact hi
  rw [e _ (by omega) (by omega), e _ (by omega) (by omega)]
  exact h.de i hi2
theorem WInv.s75 {w w' : Nat → Int32} (h : WInv w) (e0 : w' 4 = w 4) (e : ∀ k, 75 ≤ k → k < 83 → w' k = w k) : ∀ i, i < cN w' 4 → (0 ≤ (w' (75 + i)).toInt ∧ (w' (75 + i)).toInt < 64) := by
  intro i hi
  have c := h.c4
  have hi2 : i < cN w 4 := by
    unfold cN at hi ⊢
    rw [e0] at hi
    exact hi
  rw [e _ (by omega) (by omega)]
  exact h.du i hi2
theorem WInv.st {w w' : Nat → Int32} (h : WInv w) (e : ∀ k, (k = 5 ∨ k = 6 ∨ k = 9 ∨ k = 13 ∨ k = 15 ∨ 83 ≤ k) → w' k = w k) (b0 : 0 ≤ (w' 0).toInt ∧ (w' 0).toInt ≤ 10) (b1 : (w 1).toInt ≤ (w' 1).toInt ∧ (w' 1).toInt ≤ 6) (b2 : 0 ≤ (w' 2).toInt ∧ (w' 2).toInt ≤ 6) (b3 : 0 ≤ (w' 3).toInt ∧ (w' 3).toInt ≤ 4) (b4 : 0 ≤ (w' 4).toInt ∧ (w' 4).toInt ≤ 8) (b7 : 0 ≤ (w' 7).toInt ∧ (w' 7).toInt ≤ 99) (b8 : 1 ≤ (w' 8).toInt ∧ (w' 8).toInt ≤ 99) (b10 : 1 ≤ (w' 10).toInt ∧ (w' 10).toInt ≤ 400) (b11 : 0 ≤ (w' 11).toInt ∧ ((w' 11).toInt < (w' 0).toInt ∨ w' 11 = 0)) (b12 : ∀ i, bit (w' 12) i = true → i < cN w' 0) (b14 : 0 ≤ (w' 14).toInt ∧ (w' 14).toInt ≤ 100)
    (r17 : ∀ i, i < cN w' 0 → (0 ≤ (w' (17 + 2 * i)).toInt ∧ (w' (17 + 2 * i)).toInt < 64) ∧ (1 ≤ (w' (18 + 2 * i)).toInt ∧ (w' (18 + 2 * i)).toInt ≤ 9))
    (r37 : ∀ i, i < cN w' 1 → (w' (37 + 3 * i) = 0 ∨ w' (37 + 3 * i) = 1) ∧ (0 ≤ (w' (38 + 3 * i)).toInt ∧ (w' (38 + 3 * i)).toInt < (w' 2).toInt) ∧ (w' (39 + 3 * i) = 0 ∨ w' (39 + 3 * i) = 1))
    (r55 : ∀ i, i < cN w' 2 → (0 ≤ (w' (55 + 2 * i)).toInt ∧ (w' (55 + 2 * i)).toInt ≤ 20) ∧ (-1 ≤ (w' (56 + 2 * i)).toInt ∧ (w' (56 + 2 * i)).toInt < 6))
    (r67 : ∀ i, i < cN w' 3 → (0 ≤ (w' (67 + 2 * i)).toInt ∧ (w' (67 + 2 * i)).toInt ≤ 20) ∧ (0 ≤ (w' (68 + 2 * i)).toInt ∧ (w' (68 + 2 * i)).toInt ≤ 9))
    (r75 : ∀ i, i < cN w' 4 → (0 ≤ (w' (75 + i)).toInt ∧ (w' (75 + i)).toInt < 64)) : WInv w' := by
  have lo := h.lo
  obtain ⟨h0, h1, h2, h3, h4, h5, h6, h7, h8, h9, h10, h11, h12, h13, h14, h15, h17, h37, h55, h67, h75, h83⟩ := h
  refine ⟨b0, ⟨by omega, b1.2⟩, b2, b3, b4, by rw [e 5 (by omega)]; exact h5, by rw [e 6 (by omega)]; exact h6, b7, b8, by rw [e 9 (by omega)]; exact h9, b10, b11, b12, by rw [e 13 (by omega)]; exact h13, b14, by rw [e 15 (by omega)]; exact h15, r17, r37, r55, r67, r75, fun i hi => ?_⟩
  have hi2 : i < cN w 15 := by
    unfold cN at hi ⊢
    rw [e 15 (by omega)] at hi
    exact hi
  rw [e (83 + 5 * i) (by omega), e (84 + 5 * i) (by omega), e (85 + 5 * i) (by omega), e (86 + 5 * i) (by omega), e (87 + 5 * i) (by omega)]
  obtain ⟨a, b, c⟩ := lo i hi2
  exact ⟨a, ⟨b.1, by omega⟩, c⟩
theorem mind_e {f f' hb hb' w w' : Nat → Int32} (ef : ∀ k, f' k = f k) (eh : ∀ k, hb' k = hb k) (e : ∀ k, (k = 0 ∨ k = 1 ∨ k = 7 ∨ k = 9 ∨ k = 11 ∨ k = 12 ∨ k = 13 ∨ k = 16 ∨ 37 ≤ k ∧ k < 55) → w' k = w k) (c1 : cN w 1 ≤ 6) (m : MindR f hb w) : MindR f' hb' w' := by
  have hc : cN w' 1 = cN w 1 := by
    unfold cN
    rw [e 1 (by omega)]
  unfold MindR at m ⊢
  rw [hc, ef, ef, ef, ef, ef, ef, ef, e 7 (by omega), e 9 (by omega), e 0 (by omega), e 11 (by omega), e 12 (by omega), e 16 (by omega), e 13 (by omega)]
  obtain ⟨m1, m2, m3, m4, m5, m6, m7, m8⟩ := m
  refine ⟨m1, m2, m3, m4, fun i => ?_, m6, m7, fun i hi => ?_⟩
  · rw [m5 i]
    by_cases q : i < cN w 1
    · rw [e (39 + 3 * i) (by omega)]
    · rw [decide_eq_false q, Bool.false_and, Bool.false_and]
  · rw [eh, e (38 + 3 * i) (by omega)]
    exact m8 i hi
/-- the rows of a tale that a line lets be -/
def trow (k : Nat) (A : Nat → Nat → Int32) (w : Nat → Int32) : Prop := match k with
  | 0 => (∀ i, i < cN w 0 → A 0 i = w (17 + 2 * i) ∧ A 1 i = w (18 + 2 * i)) ∧ (∀ t, t < 6 → ∀ i, bit (A 2 t) i = (decide (i < cN w 0) && bit (w (17 + 2 * i)) t))
  | 1 => ∀ i, i < cN w 2 → A 3 i = w (55 + 2 * i) ∧ A 4 i = w (56 + 2 * i)
  | 2 => ∀ i, i < cN w 3 → A 5 i = w (67 + 2 * i) ∧ A 6 i = w (68 + 2 * i)
  | 3 => ∀ i, i < cN w 1 → A 7 i = w (37 + 3 * i)
  | _ => ∀ i, i < cN w 4 → A 8 i = w (75 + i)
theorem tale_of {f w : Nat → Int32} {A : Nat → Nat → Int32} (h0 : f 0 = w 5 ∧ f 1 = w 0 ∧ f 2 = w 2 ∧ f 3 = w 3 ∧ f 4 = w 1 ∧ f 5 = w 4 ∧ f 6 = w 8 ∧ f 7 = w 10 ∧ f 8 = w 14) (h : ∀ k, k < 5 → trow k A w) : TaleR f A w := ⟨h0, (h 0 (by omega)).1, (h 0 (by omega)).2, h 1 (by omega), h 2 (by omega), h 3 (by omega), h 4 (by omega)⟩
theorem tale_to {f w : Nat → Int32} {A : Nat → Nat → Int32} (h : TaleR f A w) : ∀ k, k < 5 → trow k A w := by
  obtain ⟨_, h1, h2, h3, h4, h5, h6⟩ := h
  intro k hk
  match k, hk with
  | 0, _ => exact ⟨h1, h2⟩
  | 1, _ => exact h3
  | 2, _ => exact h4
  | 3, _ => exact h5
  | 4, _ => exact h6
theorem trow_e {k : Nat} {A A' : Nat → Nat → Int32} {w w' : Nat → Int32} (hw : WInv w) (hk : k < 5) (h : trow k A w) (eA : ∀ j, (k = 0 ∧ j ≤ 2 ∨ k = 1 ∧ (j = 3 ∨ j = 4) ∨ k = 2 ∧ (j = 5 ∨ j = 6) ∨ k = 3 ∧ j = 7 ∨ k = 4 ∧ j = 8) → A' j = A j) (e : ∀ j, (k = 0 ∧ (j = 0 ∨ 17 ≤ j ∧ j < 37) ∨ k = 1 ∧ (j = 2 ∨ 55 ≤ j ∧ j < 67) ∨ k = 2 ∧ (j = 3 ∨ 67 ≤ j ∧ j < 75) ∨ k = 3 ∧ (j = 1 ∨ 37 ≤ j ∧ j < 55) ∨ k = 4 ∧ (j = 4 ∨ 75 ≤ j ∧ j < 83)) → w' j = w j) : trow k A' w' := by
  have k0 := hw.c0
  have k1 := hw.c1
  have k2 := hw.c2
  have k3 := hw.c3
  have k4 := hw.c4
  match k, hk with
  | 0, _ =>
    have c : cN w' 0 = cN w 0 := by
      unfold cN
      rw [e 0 (by omega)]
    refine ⟨fun i hi => ?_, fun t ht i => ?_⟩
    · rw [c] at hi
      rw [eA 0 (by omega), eA 1 (by omega), e _ (by omega), e _ (by omega)]
      exact h.1 i hi
    · rw [c, eA 2 (by omega), h.2 t ht i]
      by_cases q : i < cN w 0
      · rw [e (17 + 2 * i) (by omega)]
      · rw [decide_eq_false q, Bool.false_and, Bool.false_and]
  | 1, _ =>
    have c : cN w' 2 = cN w 2 := by
      unfold cN
      rw [e 2 (by omega)]
    intro i hi
    rw [c] at hi
    rw [eA 3 (by omega), eA 4 (by omega), e _ (by omega), e _ (by omega)]
    exact h i hi
  | 2, _ =>
    have c : cN w' 3 = cN w 3 := by
      unfold cN
      rw [e 3 (by omega)]
    intro i hi
    rw [c] at hi
    rw [eA 5 (by omega), eA 6 (by omega), e _ (by omega), e _ (by omega)]
    exact h i hi
  | 3, _ =>
    have c : cN w' 1 = cN w 1 := by
      unfold cN
      rw [e 1 (by omega)]
    intro i hi
    rw [c] at hi
    rw [eA 7 (by omega), e _ (by omega)]
    exact h i hi
  | 4, _ =>
    have c : cN w' 4 = cN w 4 := by
      unfold cN
      rw [e 4 (by omega)]
    intro i hi
    rw [c] at hi
    rw [eA 8 (by omega), e _ (by omega)]
    exact h i hi
