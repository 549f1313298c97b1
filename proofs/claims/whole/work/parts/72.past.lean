/-! acts that are remembered -/
theorem sA_rowA {σ : pS} {a n : Nat} {f : Nat → Int32} {i v : Int32} (h : i.toNatClampNeg = n) : sA (rowA σ a f) a i v = rowA σ a (fun j => if j = n then v else f j) := by
  subst h
  show (_, _, _) = (_, _, _)
  refine congrArg (fun x => (σ.1, x, σ.2.2)) ?_
  funext b j
  show (if b = a ∧ j = i.toNatClampNeg then v else va_up σ.2.1 a f b j) = va_up σ.2.1 a _ b j
  by_cases e : b = a
  · subst e
    rw [va_up_self, va_up_self]
    simp
  · rw [va_up_ne _ _ e, va_up_ne _ _ e]
    simp [e]
theorem rowA_self {σ : pS} {a : Nat} : rowA σ a (σ.2.1 a) = σ := by
  show (σ.1, va_up σ.2.1 a (σ.2.1 a), σ.2.2) = σ
  have e : va_up σ.2.1 a (σ.2.1 a) = σ.2.1 := by
    funext b
    by_cases e : b = a
    · subst e
      rw [va_up_self]
    · rw [va_up_ne _ _ e]
  rw [e]
theorem row_s {σ : pS} {a : Nat} {f : Nat → Int32} : (rowA σ a f).2.1 a = f := va_up_self _ _ _
theorem row_o {σ : pS} {a b : Nat} {f : Nat → Int32} (h : b ≠ a) : (rowA σ a f).2.1 b = σ.2.1 b := va_up_ne _ _ h
def cpF (D S : Nat → Int32) (lo k : Nat) : Nat → Int32 := fun i => if lo ≤ i ∧ i < lo + k then S (i - lo) else D i
theorem cpF_0 {D S : Nat → Int32} {lo : Nat} : cpF D S lo 0 = D := by
  funext i
  show (if lo ≤ i ∧ i < lo + 0 then S (i - lo) else D i) = _
  rw [if_neg (by omega)]
theorem cpF_s {D S : Nat → Int32} {lo k : Nat} : (fun j => if j = lo + k then S k else cpF D S lo k j) = cpF D S lo (k + 1) := by
  funext i
  show (if i = lo + k then S k else if lo ≤ i ∧ i < lo + k then S (i - lo) else D i) = (if lo ≤ i ∧ i < lo + (k + 1) then S (i - lo) else D i)
  by_cases e : i = lo + k
  · rw [if_pos e, if_pos (by omega), e, show lo + k - lo = k by omega]
  · rw [if_neg e]
    by_cases q : lo ≤ i ∧ i < lo + k
    · rw [if_pos q, if_pos (by omega)]
    · rw [if_neg q, if_neg (by omega)]
theorem cpF_in {D S : Nat → Int32} {lo k i : Nat} (h : i < k) : cpF D S lo k (lo + i) = S i := by
  show (if lo ≤ lo + i ∧ lo + i < lo + k then S (lo + i - lo) else D (lo + i)) = _
  rw [if_pos (by omega), show lo + i - lo = i by omega]
theorem cpF_out {D S : Nat → Int32} {lo k i : Nat} (h : i < lo ∨ lo + k ≤ i) : cpF D S lo k i = D i := by
  show (if lo ≤ i ∧ i < lo + k then S (i - lo) else D i) = _
  rw [if_neg (by omega)]
/-- copy the world into the newest row -/
theorem r_rem53 {N y n : Nat} {σ : pS} (hN : 20000 < N) (hn : 1 ≤ n ∧ n ≤ 12) (h7 : σ.1 y 7 = nI n) : fX12_remembers_b53 N (G2 y) y σ = some (rowA σ (y + 5) (cpF (σ.2.1 (y + 5)) (σ.2.1 (y + 1)) (383 * (n - 1)) 383)) := by
  unfold fX12_remembers_b53 fX12_remembers_b55
  simp only [g2r_0_1, g2r_0_2, g2r_0_3, g2r_0_4, g2r_0_5, g2r_0_8, g2r_0_15, g2r_0_17, g2r_0_25, g2r_0_26, g2r_0_27, g2r_0_28, g2n_1, g2n_2, g2n_3, g2n_4, g2n_5, g2n_6, g2n_7, g2n_8, g2n_9, g2n_10, g2n_11, g2n_12]
  have h0 : ((0 : Int32), σ) = (nI 0, rowA σ (y + 5) (cpF (σ.2.1 (y + 5)) (σ.2.1 (y + 1)) (383 * (n - 1)) 0)) := by
    rw [cpF_0, rowA_self]
    rfl
  rw [h0]
  refine lp_for (fun k => (nI k, rowA σ (y + 5) (cpF (σ.2.1 (y + 5)) (σ.2.1 (y + 1)) (383 * (n - 1)) k))) 383 _ (by omega) ?_ ?_
  · intro k hk q
    dsimp only
    rw [if_neg (show ¬ (383 : Int32) ≤ nI k from lit_lt (m := 383) hk (by decide)), show (rowA σ (y + 5) (cpF (σ.2.1 (y + 5)) (σ.2.1 (y + 1)) (383 * (n - 1)) k)).1 y 7 = nI n from h7, show nI n - 1 = nI (n - 1) from by rw [show n = n - 1 + 1 by omega, nI_p1]; rfl, show (383 : Int32) * nI (n - 1) + nI k = nI (383 * (n - 1) + k) from by rw [show (383 : Int32) = nI 383 from rfl, nI_mul, nI_add], ck_nI (by omega) (by omega), ck_nI (by omega) (by omega), gA_nI (by omega), row_o (by omega), sA_rowA (nI_clamp (by omega)), cpF_s, nI_1]
  · intro q
    dsimp only
    rw [if_pos (show (383 : Int32) ≤ nI 383 from lit_end)]
theorem r_rem11 {N y : Nat} {σ : pS} (hN : 20000 < N) : fX12_remembers_b11 N (G2 y) y (0, σ) = fX12_remembers_b53 N (G2 y) y (rowA σ (y + 5) (fun i => if i < 4213 then σ.2.1 (y + 5) (i + 383) else σ.2.1 (y + 5) i)) := by
  unfold fX12_remembers_b11
  simp only [g2r_0_1, g2r_0_2, g2r_0_3, g2r_0_4, g2r_0_5, g2r_0_8, g2r_0_15, g2r_0_17, g2r_0_25, g2r_0_26, g2r_0_27, g2r_0_28, g2n_1, g2n_2, g2n_3, g2n_4, g2n_5, g2n_6, g2n_7, g2n_8, g2n_9, g2n_10, g2n_11, g2n_12]
  have h0 : ((0 : Int32), σ) = (nI 0, rowA σ (y + 5) (fun i => if i < 0 then σ.2.1 (y + 5) (i + 383) else σ.2.1 (y + 5) i)) := by
    rw [show (fun i => if i < 0 then σ.2.1 (y + 5) (i + 383) else σ.2.1 (y + 5) i) = σ.2.1 (y + 5) from funext fun i => if_neg (by omega), rowA_self]
    rfl
  rw [h0]
  refine lp_forK (fun k => (nI k, rowA σ (y + 5) (fun i => if i < k then σ.2.1 (y + 5) (i + 383) else σ.2.1 (y + 5) i))) 4213 _ (by omega) ?_ ?_
  · intro k hk q
    dsimp only
    rw [if_neg (show ¬ (4213 : Int32) ≤ nI k from lit_lt (m := 4213) hk (by decide)), show nI k + 383 = nI (k + 383) from nI_add k 383, ck_nI (by omega) (by omega), ck_nI (by omega) (by omega), gA_nI (by omega), row_s, sA_rowA (nI_clamp (by omega)), nI_1, if_neg (show ¬ k + 383 < k by omega)]
    congr 3
    funext j
    by_cases e : j = k
    · rw [if_pos e, if_pos (by omega), e]
    · rw [if_neg e]
      by_cases g : j < k
      · rw [if_pos g, if_pos (by omega)]
      · rw [if_neg g, if_neg (by omega)]
  · intro q
    dsimp only
    rw [if_pos (show (4213 : Int32) ≤ nI 4213 from lit_end)]
theorem r_remembers {N y n : Nat} {σ : pS} (hN : 20000 < N) (hn : n ≤ 12) (h7 : σ.1 y 7 = nI n) : ∃ τ, fX12_remembers N (G2 y) y σ = some τ ∧ (∀ a k, ¬ (a = y ∧ k = 7) → τ.1 a k = σ.1 a k) ∧ τ.1 y 7 = nI (min 12 (n + 1)) ∧ (∀ a, a ≠ y + 5 → τ.2.1 a = σ.2.1 a) ∧ (∀ k, k < 383 → τ.2.1 (y + 5) (383 * (min 12 (n + 1) - 1) + k) = σ.2.1 (y + 1) k) ∧ ∀ i, 1 ≤ i → i < min 12 (n + 1) → ∀ k, k < 383 → τ.2.1 (y + 5) (383 * (min 12 (n + 1) - 1 - i) + k) = σ.2.1 (y + 5) (383 * (n - 1 - (i - 1)) + k) := by
  unfold fX12_remembers
  by_cases e : n = 12
  · subst e
    rw [h7, if_pos (show nI 12 = 12 from rfl), r_rem11 hN, r_rem53 (n := 12) (σ := rowA σ (y + 5) (fun i => if i < 4213 then σ.2.1 (y + 5) (i + 383) else σ.2.1 (y + 5) i)) hN (by omega) h7]
    refine ⟨_, rfl, fun a k _ => rfl, h7, fun a ha => ?_, fun k hk => ?_, fun i h1 h2 k hk => ?_⟩
    · rw [row_o ha, row_o ha]
    · rw [row_s, show 383 * (min 12 (12 + 1) - 1) = 383 * (12 - 1) by omega, cpF_in hk, row_o (by omega)]
    · rw [row_s, cpF_out (by omega), row_s, if_pos (by omega), show 383 * (min 12 (12 + 1) - 1 - i) + k + 383 = 383 * (12 - 1 - (i - 1)) + k by omega]
  · have hn1 : ¬ nI n = 12 := fun q => e ((nI_eq (b := 12) (by omega) (by omega)).mp q)
    have hm : min 12 (n + 1) = n + 1 := by omega
    rw [h7, if_neg hn1, nI_1, r_rem53 (n := n + 1) (σ := putF σ y 7 (nI (n + 1))) hN (by omega) pf0, hm]
    refine ⟨_, rfl, fun a k q => ?_, ?_, fun a ha => ?_, fun k hk => ?_, fun i h1 h2 k hk => ?_⟩
    · show (putF σ y 7 (nI (n + 1))).1 a k = _
      rw [pf1, if_neg q]
    · show (putF σ y 7 (nI (n + 1))).1 y 7 = _
      rw [pf0]
    · rw [row_o ha]
      rfl
    · rw [row_s, cpF_in hk]
      rfl
    · rw [row_s, cpF_out (by omega), show 383 * (n + 1 - 1 - i) + k = 383 * (n - 1 - (i - 1)) + k by omega]
      rfl
theorem pq_past {z a r : Nat} (h : r < 12) : pQ (G1 z) a r = z + (68 + 4 * r) := by
  show z + k1Q.getD r 0 = _
  have : ∀ r, r < 12 → k1Q.getD r 0 = 68 + 4 * r := by decide
  rw [this r h]
theorem isZ_of {x : Int32} (h : x = 0 ∨ x = 1) : isZ x = true := by
  rcases h with h | h <;> rw [h] <;> rfl
theorem c_remember {N z n j : Nat} {σ : pS} (hn : n ≤ 12) (hj : j < 12) (h0 : σ.1 (z + 66) 0 = nI n) (h1 : σ.1 (z + 66) 1 = nI j) (hz : isZ (σ.1 (z + 20) 6) = true) : ∃ τ, fX4_remember N (G1 z) (z + 66) (z + 20) σ = some τ ∧ τ.1 (z + 66) 0 = nI (min 12 (n + 1)) ∧ τ.1 (z + 66) 1 = nI ((j + 1) % 12) ∧ (∀ k, k ≤ 6 → τ.1 (z + (68 + 4 * ((j + 1) % 12))) k = σ.1 (z + 20) k) ∧ (∀ k, k ≤ 1 → τ.1 (z + (70 + 4 * ((j + 1) % 12))) k = σ.1 (z + 22) k) ∧ (∀ c k, c ≠ z + 66 → c ≠ z + (68 + 4 * ((j + 1) % 12)) → c ≠ z + (70 + 4 * ((j + 1) % 12)) → τ.1 c k = σ.1 c k) ∧ (∀ i, i < 6 → τ.2.1 (z + (69 + 4 * ((j + 1) % 12))) i = σ.2.1 (z + 21) i) ∧ (∀ i, i < 60 → τ.2.1 (z + (71 + 4 * ((j + 1) % 12))) i = σ.2.1 (z + 23) i) ∧ (∀ c, c ≠ z + (69 + 4 * ((j + 1) % 12)) → c ≠ z + (71 + 4 * ((j + 1) % 12)) → τ.2.1 c = σ.2.1 c) := by
  have hr : (j + 1) % 12 < 12 := Nat.mod_lt _ (by omega)
  have hsz : isZ ((putF (putF σ (z + 66) 1 (nI ((j + 1) % 12))) (z + 66) 0 (nI (min 12 (n + 1)))).1 (z + 20) 6) = true := by
    rw [pf_o (by omega), pf_o (by omega)]
    exact hz
  obtain ⟨τ, g1, g2, g3, g4, g5, g6, g7, g8⟩ := c_copyM (N := N) (σ := putF (putF σ (z + 66) 1 (nI ((j + 1) % 12))) (z + 66) 0 (nI (min 12 (n + 1)))) (show z + (68 + 4 * ((j + 1) % 12)) + 4 ≤ z + 20 ∨ z + 20 + 4 ≤ z + (68 + 4 * ((j + 1) % 12)) by omega) (ma_past hr) ma_20 hsz
  have b46 : ∀ y1, y1 = nI (min 12 (n + 1)) → fX4_remember_b46 N (G1 z) (z + 66) (z + 20) y1 (putF σ (z + 66) 1 (nI ((j + 1) % 12))) = some τ := by
    intro y1 e
    subst e
    unfold fX4_remember_b46 fX4_newestRow
    rw [pf0n (by decide), pf0, if_neg (nI_pos (by omega)), if_neg (show ¬ (12 : Int32) ≤ nI ((j + 1) % 12) from lit_lt (m := 12) hr (by decide)), g1r_66_2, g1n_67, ck_nI hr (by omega), nI_clamp (by omega), b_some]
    show (fX3_copyFrom N (G1 z) (pQ (G1 z) (z + 67) ((j + 1) % 12)) (z + 20) _).bind _ = _
    rw [pq_past hr, g1]
    rfl
  have b22 : ∀ y1, y1 = nI ((j + 1) % 12) → fX4_remember_b22 N (G1 z) (z + 66) (z + 20) y1 σ = some τ := by
    intro y1 e
    subst e
    unfold fX4_remember_b22
    rw [pf0n (by decide), h0]
    by_cases q : n = 12
    · rw [if_pos (show (12 : Int32) ≤ nI n from by rw [q]; exact lit_end)]
      exact b46 _ (by rw [q]; rfl)
    · rw [if_neg (show ¬ (12 : Int32) ≤ nI n from lit_lt (m := 12) (by omega) (by decide))]
      exact b46 _ (by rw [nI_1, show min 12 (n + 1) = n + 1 by omega])
  refine ⟨τ, ?_, ?_, ?_, ?_, ?_, ?_, ?_, ?_, ?_⟩
  · unfold fX4_remember
    rw [h1, nI_1]
    by_cases q : j = 11
    · rw [if_pos (show (12 : Int32) ≤ nI (j + 1) from by rw [q]; exact lit_end)]
      exact b22 _ (by rw [q]; rfl)
    · rw [if_neg (show ¬ (12 : Int32) ≤ nI (j + 1) from lit_lt (m := 12) (by omega) (by decide))]
      exact b22 _ (by rw [Nat.mod_eq_of_lt (by omega)])
  · rw [g4 _ _ (by omega) (by omega), pf0]
  · rw [g4 _ _ (by omega) (by omega), pf0n (by decide), pf0]
  · intro k hk
    rw [g2 k hk, pf_o (by omega), pf_o (by omega)]
  · intro k hk
    have e := g3 k hk
    rw [pf_o (by omega), pf_o (by omega)] at e
    rw [show z + (70 + 4 * ((j + 1) % 12)) = z + (68 + 4 * ((j + 1) % 12)) + 2 by omega]
    exact e
  · intro c k a1 a2 a3
    rw [g4 c k a2 (by omega), pf_o a1, pf_o a1]
  · intro i hi
    rw [show z + (69 + 4 * ((j + 1) % 12)) = z + (68 + 4 * ((j + 1) % 12)) + 1 by omega]
    exact g5 i hi
  · intro i hi
    rw [show z + (71 + 4 * ((j + 1) % 12)) = z + (68 + 4 * ((j + 1) % 12)) + 3 by omega]
    exact g6 i hi
  · intro c a1 a2
    rw [g7 c (by omega) (by omega)]
    rfl
/-- both remember -/
theorem Sim.rem {N z y : Nat} {σ1 σ2 : pS} (hN : 20000 < N) (h : Sim z y σ1 σ2) : ∃ τ1 τ2, fX4_remember N (G1 z) (z + 66) (z + 20) σ1 = some τ1 ∧ fX12_remembers N (G2 y) y σ2 = some τ2 ∧ Sim z y τ1 τ2 ∧ τ2.1 y 0 = σ2.1 y 0 ∧ τ2.2.1 (y + 1) = σ2.2.1 (y + 1) := by
  have wi := h.wi
  have c15 := wi.c15
  have c1 := wi.c1
  obtain ⟨hn, p0, j, hj, p1, pr⟩ := h.2.1
  have n12 := h.2.2.1
  have e7 : σ2.1 y 7 = nI (σ2.1 y 7).toInt.toNat := nI_cN n12.1
  generalize hnn : (σ2.1 y 7).toInt.toNat = n at hn p0 pr e7
  obtain ⟨τ1, a0, a1, a2, a3, a4, a5, a6, a7, a8⟩ := c_remember (N := N) hn hj p0 p1 (isZ_of (by rw [h.mind.2.2.2.2.2.2.1]; exact wi.m.2.2.2.2.1))
  obtain ⟨τ2, b0, b1, b2, b3, b4, b5⟩ := r_remembers (N := N) hN hn e7
  have hr : (j + 1) % 12 < 12 := Nat.mod_lt _ (by omega)
  have ew : τ2.2.1 (y + 1) = σ2.2.1 (y + 1) := b3 _ (by omega)
  have n7 : (τ2.1 y 7).toInt.toNat = min 12 (n + 1) := by
    rw [b2, nI_toInt (by omega)]
    omega
  refine ⟨τ1, τ2, a0, b0, ?_, b1 y 0 (by omega), ew⟩
  have cut : ∀ c, (c < 68 ∨ 115 < c) → c ≠ 66 → ∀ k, τ1.1 (z + c) k = σ1.1 (z + c) k := fun c hc h66 k => a5 _ _ (by omega) (by omega) (by omega)
  have cutA : ∀ c, (c < 68 ∨ 115 < c) → τ1.2.1 (z + c) = σ1.2.1 (z + c) := fun c hc => a8 _ (by omega) (by omega)
  refine h.act ⟨fun o k e => ?_, fun o e => ?_⟩ (fun k hk => b1 y k (by omega)) (fun j hj => b3 _ (by omega)) (fun k _ => by rw [ew]) (by rw [ew]; exact wi.m) ?_ ?_ ?_ ?_
  · refine cut o ?_ ?_ k
    · rcases Nat.lt_or_ge o 68 with q | q
      · exact Or.inl q
      · exfalso
        have : raF o k = false := by
          have e2 : ∀ m, m < 68 → (o == m) = false := fun m hm => by simp; omega
          unfold raF
          rw [e2 0 (by omega), e2 1 (by omega), e2 4 (by omega), e2 14 (by omega), e2 46 (by omega), e2 56 (by omega), e2 62 (by omega), e2 64 (by omega)]
          simp
        rw [this] at e
        cases e
    · intro q
      subst q
      cases e
  · refine cutA o ?_
    rcases Nat.lt_or_ge o 68 with q | q
    · exact Or.inl q
    · exfalso
      have : raA o = false := by
        have e2 : ∀ m, m < 68 → (o == m) = false := fun m hm => by simp; omega
        unfold raA
        rw [e2 2 (by omega), e2 63 (by omega), e2 65 (by omega), decide_eq_false (show ¬ o ≤ 18 by omega), decide_eq_false (show ¬ o ≤ 60 by omega)]
        simp
      rw [this] at e
      cases e
  · rw [ew, cutA 21 (by omega), show τ1.1 (z + 20) = σ1.1 (z + 20) from funext fun k => cut 20 (by omega) (by omega) k]
    exact h.mind
  · rw [ew, cutA 23 (by omega), show τ1.1 (z + 22) = σ1.1 (z + 22) from funext fun k => cut 22 (by omega) (by omega) k]
    exact h.log
  · rw [ew, n7]
    refine ⟨by omega, a1, (j + 1) % 12, hr, a2, fun i hi => ?_⟩
    by_cases i0 : i = 0
    · subst i0
      have em : ((j + 1) % 12 + 12 - 0) % 12 = (j + 1) % 12 := by omega
      have ef : ∀ k, k < 383 → (fun k => τ2.2.1 (y + 5) (383 * (min 12 (n + 1) - 1 - 0) + k)) k = σ2.2.1 (y + 1) k := by
        intro k hk
        exact b4 k hk
      rw [em]
      refine ⟨WInv_w wi ef, fun k hk _ => ef k hk, ?_, ?_⟩
      · exact mind_c (by unfold cN; dsimp only; rw [show τ2.2.1 (y + 5) (383 * (min 12 (n + 1) - 1 - 0) + 1) = σ2.2.1 (y + 1) 1 from ef 1 (by omega)]; exact c1) a3 a6 (mind_w c1 ef h.mind)
      · exact log_p a4 a7 (log_w c15.2 ef h.log)
    · obtain ⟨d1, d2, d3, d4⟩ := pr (i - 1) (by omega)
      have em : ((j + 1) % 12 + 12 - i) % 12 = (j + 12 - (i - 1)) % 12 := by omega
      have rr : (j + 12 - (i - 1)) % 12 < 12 := Nat.mod_lt _ (by omega)
      have ne : (j + 12 - (i - 1)) % 12 ≠ (j + 1) % 12 := by omega
      have ef : ∀ k, k < 383 → (fun k => τ2.2.1 (y + 5) (383 * (min 12 (n + 1) - 1 - i) + k)) k = σ2.2.1 (y + 5) (383 * (n - 1 - (i - 1)) + k) := by
        intro k hk
        exact b5 i (by omega) hi k hk
      have d1' : WInv (fun k => τ2.2.1 (y + 5) (383 * (min 12 (n + 1) - 1 - i) + k)) := WInv_w d1 ef
      rw [em]
      refine ⟨d1', fun k hk hm => (ef k hk).trans (d2 k hk hm), ?_, ?_⟩
      · rw [show τ1.1 (z + (68 + 4 * ((j + 12 - (i - 1)) % 12))) = σ1.1 (z + (68 + 4 * ((j + 12 - (i - 1)) % 12))) from funext fun k => a5 _ _ (by omega) (by omega) (by omega), a8 (z + (69 + 4 * ((j + 12 - (i - 1)) % 12))) (by omega) (by omega)]
        exact mind_w d1.c1 ef d3
      · rw [show τ1.1 (z + (70 + 4 * ((j + 12 - (i - 1)) % 12))) = σ1.1 (z + (70 + 4 * ((j + 12 - (i - 1)) % 12))) from funext fun k => a5 _ _ (by omega) (by omega) (by omega), a8 (z + (71 + 4 * ((j + 12 - (i - 1)) % 12))) (by omega) (by omega)]
        exact log_w d1.c15.2 ef d4
  · rw [b2, nI_toInt (by omega)]
    omega
