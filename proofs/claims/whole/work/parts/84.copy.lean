/-! worlds are copied -/
def TA (z t : Nat) : Prop := pR (G1 z) t 9 = t + 1 ∧ pR (G1 z) t 10 = t + 2 ∧ pR (G1 z) t 11 = t + 3 ∧ pR (G1 z) t 12 = t + 4 ∧ pR (G1 z) t 13 = t + 5 ∧ pR (G1 z) t 14 = t + 6 ∧ pR (G1 z) t 15 = t + 7 ∧ pR (G1 z) t 16 = t + 8 ∧ pR (G1 z) t 17 = t + 9 ∧ pN (G1 z) (t + 1) = 10 ∧ pN (G1 z) (t + 2) = 10 ∧ pN (G1 z) (t + 3) = 6 ∧ pN (G1 z) (t + 4) = 6 ∧ pN (G1 z) (t + 5) = 6 ∧ pN (G1 z) (t + 6) = 4 ∧ pN (G1 z) (t + 7) = 4 ∧ pN (G1 z) (t + 8) = 6 ∧ pN (G1 z) (t + 9) = 8
def LA (z l : Nat) : Prop := pR (G1 z) l 2 = l + 1 ∧ pR (G1 z) l 3 = l + 2 ∧ pR (G1 z) l 4 = l + 3 ∧ pR (G1 z) l 5 = l + 4 ∧ pN (G1 z) (l + 1) = 12 ∧ pN (G1 z) (l + 2) = 12 ∧ pN (G1 z) (l + 3) = 12 ∧ pN (G1 z) (l + 4) = 400
def WA (z a t : Nat) : Prop := pR (G1 z) a 0 = t ∧ pR (G1 z) a 1 = t + 10 ∧ pR (G1 z) a 2 = t + 16 ∧ TA z t ∧ LA z (t + 10) ∧ MA z (t + 16)
theorem wa_4 {z : Nat} : WA z (z + 3) (z + 4) := ⟨g1r_3_0, g1r_3_1, g1r_3_2, ⟨g1r_4_9, g1r_4_10, g1r_4_11, g1r_4_12, g1r_4_13, g1r_4_14, g1r_4_15, g1r_4_16, g1r_4_17, g1n_5, g1n_6, g1n_7, g1n_8, g1n_9, g1n_10, g1n_11, g1n_12, g1n_13⟩, ⟨g1r_14_2, g1r_14_3, g1r_14_4, g1r_14_5, g1n_15, g1n_16, g1n_17, g1n_18⟩, ⟨g1r_20_7, g1r_20_8, g1r_22_2, g1n_21, g1n_23⟩⟩
theorem wa_25 {z : Nat} : WA z (z + 24) (z + 25) := ⟨g1r_24_0, g1r_24_1, g1r_24_2, ⟨g1r_25_9, g1r_25_10, g1r_25_11, g1r_25_12, g1r_25_13, g1r_25_14, g1r_25_15, g1r_25_16, g1r_25_17, g1n_26, g1n_27, g1n_28, g1n_29, g1n_30, g1n_31, g1n_32, g1n_33, g1n_34⟩, ⟨g1r_35_2, g1r_35_3, g1r_35_4, g1r_35_5, g1n_36, g1n_37, g1n_38, g1n_39⟩, ⟨g1r_41_7, g1r_41_8, g1r_43_2, g1n_42, g1n_44⟩⟩
theorem wa_46 {z : Nat} : WA z (z + 45) (z + 46) := ⟨g1r_45_0, g1r_45_1, g1r_45_2, ⟨g1r_46_9, g1r_46_10, g1r_46_11, g1r_46_12, g1r_46_13, g1r_46_14, g1r_46_15, g1r_46_16, g1r_46_17, g1n_47, g1n_48, g1n_49, g1n_50, g1n_51, g1n_52, g1n_53, g1n_54, g1n_55⟩, ⟨g1r_56_2, g1r_56_3, g1r_56_4, g1r_56_5, g1n_57, g1n_58, g1n_59, g1n_60⟩, ⟨g1r_62_7, g1r_62_8, g1r_64_2, g1n_63, g1n_65⟩⟩
def tl (j : Nat) : Nat := ([10, 10, 6, 6, 6, 4, 4, 6, 8] : List Nat).getD j 0
theorem c_copyTale {N z a b : Nat} {σ : pS} (hab : a + 10 ≤ b ∨ b + 10 ≤ a) (ha : TA z a) (hb : TA z b) : ∃ τ, fX8_copyFrom N (G1 z) a b σ = some τ ∧ (∀ k, k ≤ 8 → τ.1 a k = σ.1 b k) ∧ (∀ c k, c ≠ a → τ.1 c k = σ.1 c k) ∧ (∀ j, j < 9 → ∀ i, i < tl j → τ.2.1 (a + (1 + j)) i = σ.2.1 (b + (1 + j)) i) ∧ (∀ c, (c ≤ a ∨ a + 10 ≤ c) → τ.2.1 c = σ.2.1 c) := by
  have e : ∀ (τ : pS) k v j, (putF τ a k v).1 b j = τ.1 b j := fun τ k v j => by rw [pf_o (by omega)]
  obtain ⟨p0, p1, p2, p3, p4, p5, p6, p7, p8, n0, n1, n2, n3, n4, n5, n6, n7, n8⟩ := ha
  obtain ⟨qp0, qp1, qp2, qp3, qp4, qp5, qp6, qp7, qp8, qn0, qn1, qn2, qn3, qn4, qn5, qn6, qn7, qn8⟩ := hb
  refine ⟨cpA (cpA (cpA (cpA (cpA (cpA (cpA (cpA (cpA (putF (putF (putF (putF (putF (putF (putF (putF (putF σ a 0 (σ.1 b 0)) a 1 (σ.1 b 1)) a 2 (σ.1 b 2)) a 3 (σ.1 b 3)) a 4 (σ.1 b 4)) a 5 (σ.1 b 5)) a 6 (σ.1 b 6)) a 7 (σ.1 b 7)) a 8 (σ.1 b 8)) (b + 1) 0 (a + 1) 0 10) (b + 2) 0 (a + 2) 0 10) (b + 3) 0 (a + 3) 0 6) (b + 4) 0 (a + 4) 0 6) (b + 5) 0 (a + 5) 0 6) (b + 6) 0 (a + 6) 0 4) (b + 7) 0 (a + 7) 0 4) (b + 8) 0 (a + 8) 0 6) (b + 9) 0 (a + 9) 0 8, ?_, ?_, ?_, ?_, ?_⟩
  · unfold fX8_copyFrom
    simp only [e, p0, p1, p2, p3, p4, p5, p6, p7, p8, n0, n1, n2, n3, n4, n5, n6, n7, n8, qp0, qp1, qp2, qp3, qp4, qp5, qp6, qp7, qp8, qn0, qn1, qn2, qn3, qn4, qn5, qn6, qn7, qn8]
    rfl
  · intro k hk
    show (putF (putF (putF (putF (putF (putF (putF (putF (putF σ a 0 (σ.1 b 0)) a 1 (σ.1 b 1)) a 2 (σ.1 b 2)) a 3 (σ.1 b 3)) a 4 (σ.1 b 4)) a 5 (σ.1 b 5)) a 6 (σ.1 b 6)) a 7 (σ.1 b 7)) a 8 (σ.1 b 8)).1 a k = _
    match k, hk with
    | 0, _ => rw [pf0n (by decide), pf0n (by decide), pf0n (by decide), pf0n (by decide), pf0n (by decide), pf0n (by decide), pf0n (by decide), pf0n (by decide), pf0]
    | 1, _ => rw [pf0n (by decide), pf0n (by decide), pf0n (by decide), pf0n (by decide), pf0n (by decide), pf0n (by decide), pf0n (by decide), pf0]
    | 2, _ => rw [pf0n (by decide), pf0n (by decide), pf0n (by decide), pf0n (by decide), pf0n (by decide), pf0n (by decide), pf0]
    | 3, _ => rw [pf0n (by decide), pf0n (by decide), pf0n (by decide), pf0n (by decide), pf0n (by decide), pf0]
    | 4, _ => rw [pf0n (by decide), pf0n (by decide), pf0n (by decide), pf0n (by decide), pf0]
    | 5, _ => rw [pf0n (by decide), pf0n (by decide), pf0n (by decide), pf0]
    | 6, _ => rw [pf0n (by decide), pf0n (by decide), pf0]
    | 7, _ => rw [pf0n (by decide), pf0]
    | 8, _ => rw [pf0]
  · intro c k hc
    show (putF (putF (putF (putF (putF (putF (putF (putF (putF σ a 0 (σ.1 b 0)) a 1 (σ.1 b 1)) a 2 (σ.1 b 2)) a 3 (σ.1 b 3)) a 4 (σ.1 b 4)) a 5 (σ.1 b 5)) a 6 (σ.1 b 6)) a 7 (σ.1 b 7)) a 8 (σ.1 b 8)).1 c k = _
    rw [pf_o hc, pf_o hc, pf_o hc, pf_o hc, pf_o hc, pf_o hc, pf_o hc, pf_o hc, pf_o hc]
  · intro j hj i hi
    match j, hj with
    | 0, _ =>
      show (cpA (cpA (cpA (cpA (cpA (cpA (cpA (cpA (cpA (putF (putF (putF (putF (putF (putF (putF (putF (putF σ a 0 (σ.1 b 0)) a 1 (σ.1 b 1)) a 2 (σ.1 b 2)) a 3 (σ.1 b 3)) a 4 (σ.1 b 4)) a 5 (σ.1 b 5)) a 6 (σ.1 b 6)) a 7 (σ.1 b 7)) a 8 (σ.1 b 8)) (b + 1) 0 (a + 1) 0 10) (b + 2) 0 (a + 2) 0 10) (b + 3) 0 (a + 3) 0 6) (b + 4) 0 (a + 4) 0 6) (b + 5) 0 (a + 5) 0 6) (b + 6) 0 (a + 6) 0 4) (b + 7) 0 (a + 7) 0 4) (b + 8) 0 (a + 8) 0 6) (b + 9) 0 (a + 9) 0 8).2.1 (a + 1) i = σ.2.1 (b + 1) i
      rw [cp_o (by omega), cp_o (by omega), cp_o (by omega), cp_o (by omega), cp_o (by omega), cp_o (by omega), cp_o (by omega), cp_o (by omega), cp_in (m := 10) rfl hi]
      rfl
    | 1, _ =>
      show (cpA (cpA (cpA (cpA (cpA (cpA (cpA (cpA (cpA (putF (putF (putF (putF (putF (putF (putF (putF (putF σ a 0 (σ.1 b 0)) a 1 (σ.1 b 1)) a 2 (σ.1 b 2)) a 3 (σ.1 b 3)) a 4 (σ.1 b 4)) a 5 (σ.1 b 5)) a 6 (σ.1 b 6)) a 7 (σ.1 b 7)) a 8 (σ.1 b 8)) (b + 1) 0 (a + 1) 0 10) (b + 2) 0 (a + 2) 0 10) (b + 3) 0 (a + 3) 0 6) (b + 4) 0 (a + 4) 0 6) (b + 5) 0 (a + 5) 0 6) (b + 6) 0 (a + 6) 0 4) (b + 7) 0 (a + 7) 0 4) (b + 8) 0 (a + 8) 0 6) (b + 9) 0 (a + 9) 0 8).2.1 (a + 2) i = σ.2.1 (b + 2) i
      rw [cp_o (by omega), cp_o (by omega), cp_o (by omega), cp_o (by omega), cp_o (by omega), cp_o (by omega), cp_o (by omega), cp_in (m := 10) rfl hi, cp_o (by omega)]
      rfl
    | 2, _ =>
      show (cpA (cpA (cpA (cpA (cpA (cpA (cpA (cpA (cpA (putF (putF (putF (putF (putF (putF (putF (putF (putF σ a 0 (σ.1 b 0)) a 1 (σ.1 b 1)) a 2 (σ.1 b 2)) a 3 (σ.1 b 3)) a 4 (σ.1 b 4)) a 5 (σ.1 b 5)) a 6 (σ.1 b 6)) a 7 (σ.1 b 7)) a 8 (σ.1 b 8)) (b + 1) 0 (a + 1) 0 10) (b + 2) 0 (a + 2) 0 10) (b + 3) 0 (a + 3) 0 6) (b + 4) 0 (a + 4) 0 6) (b + 5) 0 (a + 5) 0 6) (b + 6) 0 (a + 6) 0 4) (b + 7) 0 (a + 7) 0 4) (b + 8) 0 (a + 8) 0 6) (b + 9) 0 (a + 9) 0 8).2.1 (a + 3) i = σ.2.1 (b + 3) i
      rw [cp_o (by omega), cp_o (by omega), cp_o (by omega), cp_o (by omega), cp_o (by omega), cp_o (by omega), cp_in (m := 6) rfl hi, cp_o (by omega), cp_o (by omega)]
      rfl
    | 3, _ =>
      show (cpA (cpA (cpA (cpA (cpA (cpA (cpA (cpA (cpA (putF (putF (putF (putF (putF (putF (putF (putF (putF σ a 0 (σ.1 b 0)) a 1 (σ.1 b 1)) a 2 (σ.1 b 2)) a 3 (σ.1 b 3)) a 4 (σ.1 b 4)) a 5 (σ.1 b 5)) a 6 (σ.1 b 6)) a 7 (σ.1 b 7)) a 8 (σ.1 b 8)) (b + 1) 0 (a + 1) 0 10) (b + 2) 0 (a + 2) 0 10) (b + 3) 0 (a + 3) 0 6) (b + 4) 0 (a + 4) 0 6) (b + 5) 0 (a + 5) 0 6) (b + 6) 0 (a + 6) 0 4) (b + 7) 0 (a + 7) 0 4) (b + 8) 0 (a + 8) 0 6) (b + 9) 0 (a + 9) 0 8).2.1 (a + 4) i = σ.2.1 (b + 4) i
      rw [cp_o (by omega), cp_o (by omega), cp_o (by omega), cp_o (by omega), cp_o (by omega), cp_in (m := 6) rfl hi, cp_o (by omega), cp_o (by omega), cp_o (by omega)]
      rfl
    | 4, _ =>
      show (cpA (cpA (cpA (cpA (cpA (cpA (cpA (cpA (cpA (putF (putF (putF (putF (putF (putF (putF (putF (putF σ a 0 (σ.1 b 0)) a 1 (σ.1 b 1)) a 2 (σ.1 b 2)) a 3 (σ.1 b 3)) a 4 (σ.1 b 4)) a 5 (σ.1 b 5)) a 6 (σ.1 b 6)) a 7 (σ.1 b 7)) a 8 (σ.1 b 8)) (b + 1) 0 (a + 1) 0 10) (b + 2) 0 (a + 2) 0 10) (b + 3) 0 (a + 3) 0 6) (b + 4) 0 (a + 4) 0 6) (b + 5) 0 (a + 5) 0 6) (b + 6) 0 (a + 6) 0 4) (b + 7) 0 (a + 7) 0 4) (b + 8) 0 (a + 8) 0 6) (b + 9) 0 (a + 9) 0 8).2.1 (a + 5) i = σ.2.1 (b + 5) i
      rw [cp_o (by omega), cp_o (by omega), cp_o (by omega), cp_o (by omega), cp_in (m := 6) rfl hi, cp_o (by omega), cp_o (by omega), cp_o (by omega), cp_o (by omega)]
      rfl
    | 5, _ =>
      show (cpA (cpA (cpA (cpA (cpA (cpA (cpA (cpA (cpA (putF (putF (putF (putF (putF (putF (putF (putF (putF σ a 0 (σ.1 b 0)) a 1 (σ.1 b 1)) a 2 (σ.1 b 2)) a 3 (σ.1 b 3)) a 4 (σ.1 b 4)) a 5 (σ.1 b 5)) a 6 (σ.1 b 6)) a 7 (σ.1 b 7)) a 8 (σ.1 b 8)) (b + 1) 0 (a + 1) 0 10) (b + 2) 0 (a + 2) 0 10) (b + 3) 0 (a + 3) 0 6) (b + 4) 0 (a + 4) 0 6) (b + 5) 0 (a + 5) 0 6) (b + 6) 0 (a + 6) 0 4) (b + 7) 0 (a + 7) 0 4) (b + 8) 0 (a + 8) 0 6) (b + 9) 0 (a + 9) 0 8).2.1 (a + 6) i = σ.2.1 (b + 6) i
      rw [cp_o (by omega), cp_o (by omega), cp_o (by omega), cp_in (m := 4) rfl hi, cp_o (by omega), cp_o (by omega), cp_o (by omega), cp_o (by omega), cp_o (by omega)]
      rfl
    | 6, _ =>
      show (cpA (cpA (cpA (cpA (cpA (cpA (cpA (cpA (cpA (putF (putF (putF (putF (putF (putF (putF (putF (putF σ a 0 (σ.1 b 0)) a 1 (σ.1 b 1)) a 2 (σ.1 b 2)) a 3 (σ.1 b 3)) a 4 (σ.1 b 4)) a 5 (σ.1 b 5)) a 6 (σ.1 b 6)) a 7 (σ.1 b 7)) a 8 (σ.1 b 8)) (b + 1) 0 (a + 1) 0 10) (b + 2) 0 (a + 2) 0 10) (b + 3) 0 (a + 3) 0 6) (b + 4) 0 (a + 4) 0 6) (b + 5) 0 (a + 5) 0 6) (b + 6) 0 (a + 6) 0 4) (b + 7) 0 (a + 7) 0 4) (b + 8) 0 (a + 8) 0 6) (b + 9) 0 (a + 9) 0 8).2.1 (a + 7) i = σ.2.1 (b + 7) i
      rw [cp_o (by omega), cp_o (by omega), cp_in (m := 4) rfl hi, cp_o (by omega), cp_o (by omega), cp_o (by omega), cp_o (by omega), cp_o (by omega), cp_o (by omega)]
      rfl
    | 7, _ =>
      show (cpA (cpA (cpA (cpA (cpA (cpA (cpA (cpA (cpA (putF (putF (putF (putF (putF (putF (putF (putF (putF σ a 0 (σ.1 b 0)) a 1 (σ.1 b 1)) a 2 (σ.1 b 2)) a 3 (σ.1 b 3)) a 4 (σ.1 b 4)) a 5 (σ.1 b 5)) a 6 (σ.1 b 6)) a 7 (σ.1 b 7)) a 8 (σ.1 b 8)) (b + 1) 0 (a + 1) 0 10) (b + 2) 0 (a + 2) 0 10) (b + 3) 0 (a + 3) 0 6) (b + 4) 0 (a + 4) 0 6) (b + 5) 0 (a + 5) 0 6) (b + 6) 0 (a + 6) 0 4) (b + 7) 0 (a + 7) 0 4) (b + 8) 0 (a + 8) 0 6) (b + 9) 0 (a + 9) 0 8).2.1 (a + 8) i = σ.2.1 (b + 8) i
      rw [cp_o (by omega), cp_in (m := 6) rfl hi, cp_o (by omega), cp_o (by omega), cp_o (by omega), cp_o (by omega), cp_o (by omega), cp_o (by omega), cp_o (by omega)]
      rfl
    | 8, _ =>
      show (cpA (cpA (cpA (cpA (cpA (cpA (cpA (cpA (cpA (putF (putF (putF (putF (putF (putF (putF (putF (putF σ a 0 (σ.1 b 0)) a 1 (σ.1 b 1)) a 2 (σ.1 b 2)) a 3 (σ.1 b 3)) a 4 (σ.1 b 4)) a 5 (σ.1 b 5)) a 6 (σ.1 b 6)) a 7 (σ.1 b 7)) a 8 (σ.1 b 8)) (b + 1) 0 (a + 1) 0 10) (b + 2) 0 (a + 2) 0 10) (b + 3) 0 (a + 3) 0 6) (b + 4) 0 (a + 4) 0 6) (b + 5) 0 (a + 5) 0 6) (b + 6) 0 (a + 6) 0 4) (b + 7) 0 (a + 7) 0 4) (b + 8) 0 (a + 8) 0 6) (b + 9) 0 (a + 9) 0 8).2.1 (a + 9) i = σ.2.1 (b + 9) i
      rw [cp_in (m := 8) rfl hi, cp_o (by omega), cp_o (by omega), cp_o (by omega), cp_o (by omega), cp_o (by omega), cp_o (by omega), cp_o (by omega), cp_o (by omega)]
      rfl
  · intro c hc
    rw [cp_o (by omega), cp_o (by omega), cp_o (by omega), cp_o (by omega), cp_o (by omega), cp_o (by omega), cp_o (by omega), cp_o (by omega), cp_o (by omega)]
    rfl
def ll (j : Nat) : Nat := ([12, 12, 12, 400] : List Nat).getD j 0
theorem c_copyLaw {N z a b : Nat} {σ : pS} (hab : a + 5 ≤ b ∨ b + 5 ≤ a) (ha : LA z a) (hb : LA z b) : ∃ τ, fX0_copyFrom N (G1 z) a b σ = some τ ∧ (∀ k, k ≤ 1 → τ.1 a k = σ.1 b k) ∧ (∀ c k, c ≠ a → τ.1 c k = σ.1 c k) ∧ (∀ j, j < 4 → ∀ i, i < ll j → τ.2.1 (a + (1 + j)) i = σ.2.1 (b + (1 + j)) i) ∧ (∀ c, (c ≤ a ∨ a + 5 ≤ c) → τ.2.1 c = σ.2.1 c) := by
  have e : ∀ (τ : pS) k v j, (putF τ a k v).1 b j = τ.1 b j := fun τ k v j => by rw [pf_o (by omega)]
  obtain ⟨p0, p1, p2, p3, n0, n1, n2, n3⟩ := ha
  obtain ⟨qp0, qp1, qp2, qp3, qn0, qn1, qn2, qn3⟩ := hb
  refine ⟨cpA (cpA (cpA (cpA (putF (putF σ a 0 (σ.1 b 0)) a 1 (σ.1 b 1)) (b + 1) 0 (a + 1) 0 12) (b + 2) 0 (a + 2) 0 12) (b + 3) 0 (a + 3) 0 12) (b + 4) 0 (a + 4) 0 400, ?_, ?_, ?_, ?_, ?_⟩
  · unfold fX0_copyFrom
    simp only [e, p0, p1, p2, p3, n0, n1, n2, n3, qp0, qp1, qp2, qp3, qn0, qn1, qn2, qn3]
    rfl
  · intro k hk
    show (putF (putF σ a 0 (σ.1 b 0)) a 1 (σ.1 b 1)).1 a k = _
    match k, hk with
    | 0, _ => rw [pf0n (by decide), pf0]
    | 1, _ => rw [pf0]
  · intro c k hc
    show (putF (putF σ a 0 (σ.1 b 0)) a 1 (σ.1 b 1)).1 c k = _
    rw [pf_o hc, pf_o hc]
  · intro j hj i hi
    match j, hj with
    | 0, _ =>
      show (cpA (cpA (cpA (cpA (putF (putF σ a 0 (σ.1 b 0)) a 1 (σ.1 b 1)) (b + 1) 0 (a + 1) 0 12) (b + 2) 0 (a + 2) 0 12) (b + 3) 0 (a + 3) 0 12) (b + 4) 0 (a + 4) 0 400).2.1 (a + 1) i = σ.2.1 (b + 1) i
      rw [cp_o (by omega), cp_o (by omega), cp_o (by omega), cp_in (m := 12) rfl hi]
      rfl
    | 1, _ =>
      show (cpA (cpA (cpA (cpA (putF (putF σ a 0 (σ.1 b 0)) a 1 (σ.1 b 1)) (b + 1) 0 (a + 1) 0 12) (b + 2) 0 (a + 2) 0 12) (b + 3) 0 (a + 3) 0 12) (b + 4) 0 (a + 4) 0 400).2.1 (a + 2) i = σ.2.1 (b + 2) i
      rw [cp_o (by omega), cp_o (by omega), cp_in (m := 12) rfl hi, cp_o (by omega)]
      rfl
    | 2, _ =>
      show (cpA (cpA (cpA (cpA (putF (putF σ a 0 (σ.1 b 0)) a 1 (σ.1 b 1)) (b + 1) 0 (a + 1) 0 12) (b + 2) 0 (a + 2) 0 12) (b + 3) 0 (a + 3) 0 12) (b + 4) 0 (a + 4) 0 400).2.1 (a + 3) i = σ.2.1 (b + 3) i
      rw [cp_o (by omega), cp_in (m := 12) rfl hi, cp_o (by omega), cp_o (by omega)]
      rfl
    | 3, _ =>
      show (cpA (cpA (cpA (cpA (putF (putF σ a 0 (σ.1 b 0)) a 1 (σ.1 b 1)) (b + 1) 0 (a + 1) 0 12) (b + 2) 0 (a + 2) 0 12) (b + 3) 0 (a + 3) 0 12) (b + 4) 0 (a + 4) 0 400).2.1 (a + 4) i = σ.2.1 (b + 4) i
      rw [cp_in (m := 400) rfl hi, cp_o (by omega), cp_o (by omega), cp_o (by omega)]
      rfl
  · intro c hc
    rw [cp_o (by omega), cp_o (by omega), cp_o (by omega), cp_o (by omega)]
    rfl
theorem tale_c {f f' : Nat → Int32} {A A' : Nat → Nat → Int32} {w : Nat → Int32} (hw : WInv w) (e : ∀ k, k ≤ 8 → f' k = f k) (eA : ∀ j, j < 9 → ∀ i, i < tl j → A' j i = A j i) (h : TaleR f A w) : TaleR f' A' w := by
  have c0 := hw.c0
  have c1 := hw.c1
  have c2 := hw.c2
  have c3 := hw.c3
  have c4 := hw.c4
  obtain ⟨h1, h2, h3, h4, h5, h6, h7⟩ := h
  refine ⟨?_, fun i hi => ?_, fun t ht i => ?_, fun i hi => ?_, fun i hi => ?_, fun i hi => ?_, fun i hi => ?_⟩
  · rw [e 0 (by omega), e 1 (by omega), e 2 (by omega), e 3 (by omega), e 4 (by omega), e 5 (by omega), e 6 (by omega), e 7 (by omega), e 8 (by omega)]
    exact h1
  · rw [eA 0 (by omega) i (show i < 10 by omega), eA 1 (by omega) i (show i < 10 by omega)]
    exact h2 i hi
  · rw [eA 2 (by omega) t ht]
    exact h3 t ht i
  · rw [eA 3 (by omega) i (show i < 6 by omega), eA 4 (by omega) i (show i < 6 by omega)]
    exact h4 i hi
  · rw [eA 5 (by omega) i (show i < 4 by omega), eA 6 (by omega) i (show i < 4 by omega)]
    exact h5 i hi
  · rw [eA 7 (by omega) i (show i < 6 by omega)]
    exact h6 i hi
  · rw [eA 8 (by omega) i (show i < 8 by omega)]
    exact h7 i hi
theorem cH_S {S S' g : Nat → Int32} {t : Int32} (e : ∀ j, j < 400 → S' j = S j) : ∀ (n i : Nat) (x : Int32 × Int32 × Int32), i + n ≤ 400 → cH S' g t i n x = cH S g t i n x := by
  intro n
  induction n with
  | zero => intro i x _; rfl
  | succ n ih =>
    intro i x h
    show cH S' g t (i + 1) n (cS (S' i) g t x) = cH S g t (i + 1) n (cS (S i) g t x)
    rw [e i (by omega), ih _ _ (by omega)]
theorem line_c {E E' S S' w : Nat → Int32} {i : Nat} (hE : ∀ j, j < 12 → E' j = E j) (hS : ∀ j, j < 400 → S' j = S j) (hi : i < 12) (h : LineR E S w i) : LineR E' S' w i := by
  have eb : cB E' i = cB E i := by
    cases i with
    | zero => rfl
    | succ i =>
      show (E' i).toInt.toNat = (E i).toInt.toNat
      rw [hE i (by omega)]
  obtain ⟨h1, h2, h3, h4⟩ := h
  unfold LineR
  rw [eb, hE i hi]
  refine ⟨h1, h2, trivial, fun g t ht => ?_⟩
  rw [cH_S hS _ _ _ (by omega)]
  exact h4 g t ht
theorem law_c {f f' K K' A A' E E' S S' w : Nat → Int32} (e : f' 0 = f 0) (eK : ∀ j, j < 12 → K' j = K j) (eA : ∀ j, j < 12 → A' j = A j) (hE : ∀ j, j < 12 → E' j = E j) (hS : ∀ j, j < 400 → S' j = S j) (h : LawR f K A E S w) : LawR f' K' A' E' S' w := by
  refine ⟨e.trans h.1, fun h6 => ?_⟩
  obtain ⟨a, b⟩ := h.2 h6
  have c12 : cN w 383 ≤ 12 := by unfold cN; omega
  refine ⟨a, fun i hi => ?_⟩
  obtain ⟨b1, b2, b3, b4, b5⟩ := b i hi
  exact ⟨b1, b2, by rw [eK i (by omega)]; exact b3, by rw [eA i (by omega)]; exact b4, line_c hE hS (by omega) b5⟩
/-- a whole world is copied -/
theorem c_copyW {N z A B a b : Nat} {σ : pS} {w : Nat → Int32} (hab : a + 20 ≤ b ∨ b + 20 ≤ a) (hA : WA z A a) (hB : WA z B b) (h : WorldR σ b w) : ∃ τ, fX10_copyFrom N (G1 z) A B σ = some τ ∧ WorldR τ a w ∧ (∀ c k, (c < a ∨ a + 20 ≤ c) → τ.1 c k = σ.1 c k) ∧ (∀ c, (c < a ∨ a + 20 ≤ c) → τ.2.1 c = σ.2.1 c) ∧ τ.1 (a + 10) 1 = σ.1 (b + 10) 1 := by
  obtain ⟨A0, A1, A2, At, Al, Am⟩ := hA
  obtain ⟨B0, B1, B2, Bt, Bl, Bm⟩ := hB
  obtain ⟨hw, ht, hl, hm, hg⟩ := h
  obtain ⟨τ, t1, t2, t3, t4, t5⟩ := c_copyTale (N := N) (z := z) (a := a) (b := b) (σ := σ) (by omega) At Bt
  obtain ⟨υ, u1, u2, u3, u4, u5⟩ := c_copyLaw (N := N) (z := z) (a := a + 10) (b := b + 10) (σ := τ) (by omega) Al Bl
  have hz : isZ (υ.1 (b + 16) 6) = true := by
    rw [u3 _ _ (by omega), t3 _ _ (by omega), hm.2.2.2.2.2.2.1]
    exact isZ_of hw.a01
  obtain ⟨ρ, r1, r2, r3, r4, r5, r6, r7, r8⟩ := c_copyM (N := N) (z := z) (a := a + 16) (b := b + 16) (σ := υ) (by omega) Am Bm hz
  have FF : ∀ c k, c ≠ a → c ≠ a + 10 → c ≠ a + 16 → c ≠ a + 18 → ρ.1 c k = σ.1 c k := fun c k e1 e2 e3 e4 => (r4 c k e3 e4).trans ((u3 c k e2).trans (t3 c k e1))
  refine ⟨ρ, ?_, ⟨hw, ?_, ?_, ?_, ?_⟩, fun c k hc => FF c k (by omega) (by omega) (by omega) (by omega), fun c hc => (r7 c (by omega) (by omega)).trans ((u5 c (by omega)).trans (t5 c (by omega))), ?_⟩
  · unfold fX10_copyFrom
    rw [A0, B0, t1, b_some, A1, B1, u1, b_some, A2, B2, r1]
    rfl
  · refine tale_c hw (fun k hk => ?_) (fun j hj i hi => ?_) ht
    · rw [r4 _ _ (by omega) (by omega), u3 _ _ (by omega), t2 k hk]
    · rw [r7 _ (by omega) (by omega), u5 _ (by omega), t4 j hj i hi]
  · have q : ∀ j, j < 4 → ∀ i, i < ll j → ρ.2.1 (a + 10 + (1 + j)) i = σ.2.1 (b + 10 + (1 + j)) i := fun j hj i hi => by
      rw [r7 _ (by omega) (by omega), u4 j hj i hi, t5 _ (by omega)]
    refine law_c ?_ (fun i hi => q 0 (by omega) i hi) (fun i hi => q 1 (by omega) i hi) (fun i hi => q 2 (by omega) i hi) (fun i hi => q 3 (by omega) i hi) hl
    rw [r4 _ _ (by omega) (by omega), u2 0 (by omega), t3 _ _ (by omega)]
  · refine mind_c hw.c1 (fun k hk => ?_) (fun i hi => ?_) hm
    · rw [r2 k hk, u3 _ _ (by omega), t3 _ _ (by omega)]
    · have := r5 i hi
      rw [u5 _ (by omega), t5 _ (by omega)] at this
      exact this
  · refine log_p (fun k hk => ?_) (fun i hi => ?_) hg
    · have := r3 k hk
      rw [u3 _ _ (by omega), t3 _ _ (by omega)] at this
      exact this
    · have := r6 i hi
      rw [u5 _ (by omega), t5 _ (by omega)] at this
      exact this
  · rw [r4 _ _ (by omega) (by omega), u2 1 (by omega), t3 _ _ (by omega)]
theorem tale_b {f : Nat → Int32} {A : Nat → Nat → Int32} {w w' : Nat → Int32} (hw : WInv w) (e : ∀ k, k < 383 → w' k = w k) (h : TaleR f A w) : TaleR f A w' := by
  have c0 := hw.c0
  have c1 := hw.c1
  have c2 := hw.c2
  have c3 := hw.c3
  have c4 := hw.c4
  have d : ∀ k, k < 383 → cN w' k = cN w k := fun k hk => by unfold cN; rw [e k hk]
  obtain ⟨h1, h2, h3, h4, h5, h6, h7⟩ := h
  refine ⟨?_, fun i hi => ?_, fun t ht i => ?_, fun i hi => ?_, fun i hi => ?_, fun i hi => ?_, fun i hi => ?_⟩
  · rw [e 5 (by omega), e 0 (by omega), e 2 (by omega), e 3 (by omega), e 1 (by omega), e 4 (by omega), e 8 (by omega), e 10 (by omega), e 14 (by omega)]
    exact h1
  · rw [d 0 (by omega)] at hi
    rw [e (17 + 2 * i) (by omega), e (18 + 2 * i) (by omega)]
    exact h2 i hi
  · rw [d 0 (by omega), h3 t ht i]
    by_cases hi : i < cN w 0
    · rw [e (17 + 2 * i) (by omega)]
    · simp [hi]
  · rw [d 2 (by omega)] at hi
    rw [e (55 + 2 * i) (by omega), e (56 + 2 * i) (by omega)]
    exact h4 i hi
  · rw [d 3 (by omega)] at hi
    rw [e (67 + 2 * i) (by omega), e (68 + 2 * i) (by omega)]
    exact h5 i hi
  · rw [d 1 (by omega)] at hi
    rw [e (37 + 3 * i) (by omega)]
    exact h6 i hi
  · rw [d 4 (by omega)] at hi
    rw [e (75 + i) (by omega)]
    exact h7 i hi
theorem rH_b {w w' : Nat → Int32} (e : ∀ k, 383 ≤ k → k < 1232 → w' k = w k) (g : Nat → Int32) (t : Int32) : ∀ (n i : Nat) (st : List Int32), i + n ≤ 400 → rH w' g t i n st = rH w g t i n st := by
  intro n
  induction n with
  | zero => intro i st _; rfl
  | succ n ih =>
    intro i st h
    show (rS (w' (432 + 2 * i)) (w' (433 + 2 * i)) g t st).bind (rH w' g t (i + 1) n) = (rS (w (432 + 2 * i)) (w (433 + 2 * i)) g t st).bind (rH w g t (i + 1) n)
    rw [e _ (by omega) (by omega), e _ (by omega) (by omega), show rH w' g t (i + 1) n = rH w g t (i + 1) n from funext fun s => ih (i + 1) s (by omega)]
theorem law_b {f K A E S w w' : Nat → Int32} (e6 : w' 6 = w 6) (e : ∀ k, 383 ≤ k → k < 1232 → w' k = w k) (h : LawR f K A E S w) : LawR f K A E S w' := by
  refine ⟨by rw [e6, e 383 (by omega) (by omega)]; exact h.1, fun h6 => ?_⟩
  rw [e6] at h6
  obtain ⟨a, b⟩ := h.2 h6
  have c12 : cN w 383 ≤ 12 := by unfold cN; omega
  have ec : cN w' 383 = cN w 383 := by unfold cN; rw [e 383 (by omega) (by omega)]
  refine ⟨by rw [e 383 (by omega) (by omega)]; exact a, fun i hi => ?_⟩
  rw [ec] at hi
  obtain ⟨b1, b2, b3, b4, c1, c2, c3, c4⟩ := b i hi
  unfold LineR
  rw [e (384 + 4 * i) (by omega) (by omega), e (385 + 4 * i) (by omega) (by omega), e (386 + 4 * i) (by omega) (by omega), e (387 + 4 * i) (by omega) (by omega)]
  refine ⟨b1, b2, b3, b4, c1, c2, c3, fun g t ht => ?_⟩
  rw [rH_b e g t _ _ _ (by omega)]
  exact c4 g t ht
theorem world_b {σ : pS} {t : Nat} {w w' : Nat → Int32} (e : ∀ k, k < 1232 → w' k = w k) (h : WorldR σ t w) : WorldR σ t w' := by
  obtain ⟨hw, ht, hl, hm, hg⟩ := h
  exact ⟨WInv_w hw (fun k hk => e k (by omega)), tale_b hw (fun k hk => e k (by omega)) ht, law_b (e 6 (by omega)) (fun k _ hk => e k hk) hl, mind_w hw.c1 (fun k hk => e k (by omega)) hm, log_w hw.c15.2 (fun k hk => e k (by omega)) hg⟩
