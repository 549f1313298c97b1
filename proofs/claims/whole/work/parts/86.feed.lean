/-! feed -/
theorem div_nI {a b : Nat} (ha : a < 2147483648) (hb2 : b < 2147483648) : nI a / nI b = nI (a / b) := by
  have hd : a / b ≤ a := Nat.div_le_self a b
  apply i_ext
  rw [Int32.toInt_div, nI_toInt (by omega), nI_toInt (by omega), nI_toInt (by omega), ← Int.ofNat_tdiv]
  generalize a / b = c at hd ⊢
  exact Int.bmod_eq_of_le (by omega) (by omega)
/-- a byte of a number -/
def byV (x : Int32) (s : Nat) : Int32 := vp_nar .byte ((x >>> (nI s &&& 31)).toInt8.toInt32)
theorem ush8 {x : Int32} {s : Nat} (hs : s ≤ 24) : (jushr x (nI s)).toInt8 = (x >>> (nI s &&& 31)).toInt8 := by
  apply Int8.toBitVec_inj.mp
  apply BitVec.eq_of_getLsbD_eq
  intro i hi
  have sm : ((nI s).toUInt32 &&& Int32.toUInt32 31).toNat = s := by
    have : ∀ s, s ≤ 24 → ((nI s).toUInt32 &&& Int32.toUInt32 31).toNat = s := by decide +kernel
    exact this s hs
  have a : ((jushr x (nI s)).toInt8).toBitVec.getLsbD i = (jushr x (nI s)).toBitVec.getLsbD i := by
    rw [Int32.toBitVec_toInt8, BitVec.getLsbD_signExtend, decide_eq_true hi, Bool.true_and, if_pos (by omega)]
  have b : ((x >>> (nI s &&& 31)).toInt8).toBitVec.getLsbD i = (x >>> (nI s &&& 31)).toBitVec.getLsbD i := by
    rw [Int32.toBitVec_toInt8, BitVec.getLsbD_signExtend, decide_eq_true hi, Bool.true_and, if_pos (by omega)]
  have c : (jushr x (nI s)).toBitVec = x.toBitVec >>> s := by
    have : (jushr x (nI s)).toBitVec = x.toBitVec >>> (((nI s).toUInt32 &&& Int32.toUInt32 31).toNat % 32) := by
      apply BitVec.eq_of_toNat_eq
      unfold jushr
      rw [BitVec.toNat_ushiftRight]
      show (x.toUInt32 >>> ((nI s).toUInt32 &&& Int32.toUInt32 31)).toNat = _
      rw [UInt32.toNat_shiftRight]
      rfl
    rw [this, sm, Nat.mod_eq_of_lt (by omega)]
  rw [a, b, c, BitVec.getLsbD_ushiftRight]
  exact (bit_shr (x := x) (k := s) (i := i) (by omega) (by omega)).symm
theorem putF_self {σ : pS} {a k : Nat} {v : Int32} (h : σ.1 a k = v) : putF σ a k v = σ := by
  show (up2 σ.1 a k v, σ.2) = σ
  have e : up2 σ.1 a k v = σ.1 := by
    funext b j
    show (if b = a ∧ j = k then v else σ.1 b j) = _
    split
    · rename_i q
      rw [q.1, q.2, h]
    · rfl
  rw [e]
theorem putF_putF {σ : pS} {a k : Nat} {u v : Int32} : putF (putF σ a k u) a k v = putF σ a k v := by
  show (up2 (up2 σ.1 a k u) a k v, σ.2) = (up2 σ.1 a k v, σ.2)
  have e : up2 (up2 σ.1 a k u) a k v = up2 σ.1 a k v := by
    funext b j
    show (if b = a ∧ j = k then v else if b = a ∧ j = k then u else σ.1 b j) = if b = a ∧ j = k then v else σ.1 b j
    split <;> rfl
  rw [e]
/-- four bytes more -/
def ptL (B : Nat → Int32) (L : Nat) (x : Int32) (k : Nat) : Nat → Int32 := fun i => if L ≤ i ∧ i < L + k then byV x (24 - 8 * (i - L)) else B i
theorem c_put {N z L : Nat} {σ : pS} {x : Int32} (hN : 20000 < N) (hL : L + 4 ≤ 400) (h0 : σ.1 (z + 1) 0 = nI L) : fX9_put N (G1 z) (z + 1) x σ = some (putF (rowA σ (z + 2) (ptL (σ.2.1 (z + 2)) L x 4)) (z + 1) 0 (nI (L + 4))) := by
  unfold fX9_put fX9_put_b3
  simp only [g1r_1_5]
  have e0 : ((24 : Int32), σ) = (nI (32 - 8 * 0) + (-8), putF (rowA σ (z + 2) (ptL (σ.2.1 (z + 2)) L x 0)) (z + 1) 0 (nI (L + 0))) := by
    rw [show ptL (σ.2.1 (z + 2)) L x 0 = σ.2.1 (z + 2) from funext fun i => if_neg (by omega), rowA_self]
    show ((24 : Int32), σ) = (nI 32 + (-8), putF σ (z + 1) 0 (nI L))
    rw [putF_self h0]
    rfl
  rw [e0]
  refine lp_for (fun k => (nI (32 - 8 * k) + (-8), putF (rowA σ (z + 2) (ptL (σ.2.1 (z + 2)) L x k)) (z + 1) 0 (nI (L + k)))) 4 _ (by omega) ?_ ?_
  · intro k hk q
    have es : nI (32 - 8 * k) + (-8) = nI (24 - 8 * k) := by
      have : ∀ k, k < 4 → nI (32 - 8 * k) + (-8) = nI (24 - 8 * k) := by decide
      exact this k hk
    dsimp only
    rw [es, if_neg (nI_pos (by omega)), pf0, if_neg (nI_pos (by omega)), if_neg (show ¬ (400 : Int32) ≤ nI (L + k) from lit_lt (m := 400) (by omega) (by decide)), g1n_2, ck_nI (by omega) (by omega), ush8 (by omega), show nI (24 - 8 * k) + (-8) = nI (32 - 8 * (k + 1)) + (-8) from by rw [show 24 - 8 * k = 32 - 8 * (k + 1) by omega]]
    show q (_, putF (putF (sA (rowA σ (z + 2) (ptL (σ.2.1 (z + 2)) L x k)) (z + 2) (nI (L + k)) (byV x (24 - 8 * k))) (z + 1) 0 (nI (L + k))) (z + 1) 0 ((putF (sA (rowA σ (z + 2) (ptL (σ.2.1 (z + 2)) L x k)) (z + 2) (nI (L + k)) (byV x (24 - 8 * k))) (z + 1) 0 (nI (L + k))).1 (z + 1) 0 + 1)) = _
    rw [pf0, putF_putF, sA_rowA (nI_clamp (by omega)), nI_1, show (fun j => if j = L + k then byV x (24 - 8 * k) else ptL (σ.2.1 (z + 2)) L x k j) = ptL (σ.2.1 (z + 2)) L x (k + 1) from funext fun j => by
      unfold ptL
      by_cases e : j = L + k
      · rw [if_pos e, if_pos (by omega), show j - L = k by omega]
      · rw [if_neg e]
        by_cases g : L ≤ j ∧ j < L + k
        · rw [if_pos g, if_pos (by omega)]
        · rw [if_neg g, if_neg (by omega)], Nat.add_assoc]
  · intro q
    dsimp only
    rw [if_pos (show nI (32 - 8 * 4) + (-8) < 0 by decide)]
/-- which of five -/
def fv5 (a b c d e : Int32) : Nat → Int32
  | 0 => a
  | 1 => b
  | 2 => c
  | 3 => d
  | _ => e
def rfL (B : Nat → Int32) (L : Nat) (fv : Nat → Int32) (k : Nat) : Nat → Int32 := fun i => if L ≤ i ∧ i < L + k then byV (fv ((i - L) / 4)) (24 - 8 * ((i - L) % 4)) else B i
theorem r_feed60 {N y L : Nat} {σ : pS} {fv : Nat → Int32} (hN : 20000 < N) (hL : L + 20 ≤ 400) (h9 : σ.1 y 9 = nI L) (h5 : ∀ q, q < 5 → σ.2.1 (y + 7) q = fv q) : fX12_feed_b60 N (G2 y) y (0, σ) = some (nI (L + 20), putF (rowA σ (y + 6) (rfL (σ.2.1 (y + 6)) L fv 20)) y 9 (nI (L + 20))) := by
  unfold fX12_feed_b60
  simp only [g2r_0_1, g2r_0_2, g2r_0_3, g2r_0_4, g2r_0_5, g2r_0_8, g2r_0_15, g2r_0_17, g2r_0_25, g2r_0_26, g2r_0_27, g2r_0_28, g2n_1, g2n_2, g2n_3, g2n_4, g2n_5, g2n_6, g2n_7, g2n_8, g2n_9, g2n_10, g2n_11, g2n_12]
  have e0 : ((0 : Int32), σ) = (nI 0, rowA σ (y + 6) (rfL (σ.2.1 (y + 6)) L fv 0)) := by
    rw [show rfL (σ.2.1 (y + 6)) L fv 0 = σ.2.1 (y + 6) from funext fun i => if_neg (by omega), rowA_self]
    rfl
  rw [e0]
  refine lp_for (fun k => (nI k, rowA σ (y + 6) (rfL (σ.2.1 (y + 6)) L fv k))) 20 _ (by omega) ?_ ?_
  · intro k hk q
    have e9 : (rowA σ (y + 6) (rfL (σ.2.1 (y + 6)) L fv k)).1 y 9 = nI L := h9
    have es : (24 : Int32) - 8 * jrem (nI k) 4 = nI (24 - 8 * (k % 4)) := by
      rw [show (4 : Int32) = nI 4 from rfl, jrem_nI (by omega) (by omega) (by omega)]
      have : ∀ j, j < 4 → (24 : Int32) - 8 * nI j = nI (24 - 8 * j) := by decide
      exact this _ (Nat.mod_lt _ (by omega))
    dsimp only
    rw [if_neg (show ¬ (20 : Int32) ≤ nI k from lit_lt (m := 20) hk (by decide)), es, show nI k / (4 : Int32) = nI (k / 4) from div_nI (b := 4) (by omega) (by omega), ck_nI (by omega) (by omega), e9, nI_add, ck_nI (by omega) (by omega), gA_nI (by omega), row_o (by omega), h5 _ (by omega), sA_rowA (nI_clamp (by omega)), nI_1]
    congr 3
    funext j
    show (if j = L + k then byV (fv (k / 4)) (24 - 8 * (k % 4)) else rfL (σ.2.1 (y + 6)) L fv k j) = _
    unfold rfL
    by_cases e : j = L + k
    · rw [if_pos e, if_pos (by omega), show j - L = k by omega]
    · rw [if_neg e]
      by_cases g : L ≤ j ∧ j < L + k
      · rw [if_pos g, if_pos (by omega)]
      · rw [if_neg g, if_neg (by omega)]
  · intro q
    have e9 : (rowA σ (y + 6) (rfL (σ.2.1 (y + 6)) L fv 20)).1 y 9 = nI L := h9
    dsimp only
    rw [if_pos (show (20 : Int32) ≤ nI 20 from lit_end), pf0, e9, show nI L + 20 = nI (L + 20) from nI_add L 20]
theorem nar_b {v : Int32} : ByteR (vp_nar .byte v) := by
  have e : vp_nar .byte v = v.toInt8.toInt32 := rfl
  rw [e]
  unfold ByteR
  rw [Int8.toInt_toInt32]
  have a := Int8.toInt_lt v.toInt8
  have b := Int8.le_toInt v.toInt8
  omega
theorem gd_feed {N z y : Nat} (hN : 20000 < N) : Gd_feed N (G1 z) (G2 y) z y (z + 150) (Sim z y) := by
  intro σ1 σ2 h c1 c2 c3 c4 c5
  obtain ⟨t0, t1, t2, t3⟩ := h.2.2.2.2.2
  have e9 : σ2.1 y 9 = nI (σ2.1 y 9).toInt.toNat := nI_cN t1
  generalize hL : (σ2.1 y 9).toInt.toNat = L at t3 e9
  have hL4 : L ≤ 400 := by omega
  unfold fX11_feed fX12_feed fX9_hasRoomForFeed
  simp only [g1r_0_0]
  rw [t0, pf0n (by decide), e9, show nI L + 20 = nI (L + 20) from nI_add L 20]
  by_cases q : L + 20 ≤ 400
  · rw [if_neg (show ¬ (400 : Int32) < nI (L + 20) from nI_nlt (a := 400) (by omega) (by omega)), if_pos (show nI (L + 20) ≤ (400 : Int32) from nI_le (b := 400) (by omega) (by omega)), b_some, if_neg (by decide)]
    have s1 : σ1.1 (z + 1) 0 = nI L := t0.trans e9
    rw [c_put hN (by omega) s1, b_some, c_put (L := L + 4) hN (by omega) pf0, b_some, c_put (L := L + 4 + 4) hN (by omega) pf0, b_some, c_put (L := L + 4 + 4 + 4) hN (by omega) pf0, b_some, c_put (L := L + 4 + 4 + 4 + 4) hN (by omega) pf0, b_some]
    have f5 : ∀ i, i < 5 → (sA (sA (sA (sA (sA (putF σ2 y 0 0) (y + 7) 0 c1) (y + 7) 1 c2) (y + 7) 2 c3) (y + 7) 3 c4) (y + 7) 4 c5).2.1 (y + 7) i = fv5 c1 c2 c3 c4 c5 i := by
      intro i hi
      rw [sA_w (n := 4) rfl, sA_w (n := 3) rfl, sA_w (n := 2) rfl, sA_w (n := 1) rfl, sA_w (n := 0) rfl]
      match i, hi with
      | 0, _ => rfl
      | 1, _ => rfl
      | 2, _ => rfl
      | 3, _ => rfl
      | 4, _ => rfl
    have r9 : (sA (sA (sA (sA (sA (putF σ2 y 0 0) (y + 7) 0 c1) (y + 7) 1 c2) (y + 7) 2 c3) (y + 7) 3 c4) (y + 7) 4 c5).1 y 9 = nI L := by
      show (putF σ2 y 0 0).1 y 9 = _
      rw [pf0n (by decide)]
      exact e9
    have rr := r_feed60 (N := N) (y := y) hN q r9 f5
    have o6 : (sA (sA (sA (sA (sA (putF σ2 y 0 0) (y + 7) 0 c1) (y + 7) 1 c2) (y + 7) 2 c3) (y + 7) 3 c4) (y + 7) 4 c5).2.1 (y + 6) = σ2.2.1 (y + 6) := by
      rw [sA_o (by omega), sA_o (by omega), sA_o (by omega), sA_o (by omega), sA_o (by omega)]
      rfl
    rw [o6] at rr
    simp only [g2r_0_1, g2r_0_2, g2r_0_3, g2r_0_4, g2r_0_5, g2r_0_8, g2r_0_15, g2r_0_17, g2r_0_25, g2r_0_26, g2r_0_27, g2r_0_28, g2n_1, g2n_2, g2n_3, g2n_4, g2n_5, g2n_6, g2n_7, g2n_8, g2n_9, g2n_10, g2n_11, g2n_12]
    rw [pf0, show L + 4 + 4 + 4 + 4 + 4 = L + 20 by omega]
    refine ⟨_, _, _, rfl, rr, ?_⟩
    refine h.tape ((((((((((EE.r.row rfl).pf rfl).row rfl).pf rfl).row rfl).pf rfl).row rfl).pf rfl).row rfl).pf rfl) ?_ ?_ ?_
    · intro k hk
      rw [pf0n (by omega)]
      show (putF σ2 y 0 0).1 y k = _
      rw [pf0n (by omega)]
    · intro j hj
      rw [pfA, row_o (by omega), sA_o (by omega), sA_o (by omega), sA_o (by omega), sA_o (by omega), sA_o (by omega)]
      rfl
    · rw [pf0, pf0, nI_toInt (by omega)]
      refine ⟨rfl, by omega, by omega, fun i hi => ?_⟩
      rw [pfA, pfA, row_s, row_s]
      simp only [pfA, row_s]
      have hi' : i < L + 20 := by omega
      have br : ByteR (rfL (σ2.2.1 (y + 6)) L (fv5 c1 c2 c3 c4 c5) 20 i) := by
        unfold rfL
        split
        · exact nar_b
        · exact (t3 i (by omega)).2
      refine ⟨?_, br⟩
      unfold rfL
      by_cases g : L ≤ i
      · rw [if_pos (by omega)]
        have c : (i - L) / 4 = 0 ∨ (i - L) / 4 = 1 ∨ (i - L) / 4 = 2 ∨ (i - L) / 4 = 3 ∨ (i - L) / 4 = 4 := by omega
        unfold ptL
        rcases c with c | c | c | c | c
        · rw [c, if_neg (by omega), if_neg (by omega), if_neg (by omega), if_neg (by omega), if_pos (by omega), show (i - L) % 4 = i - L by omega]
          rfl
        · rw [c, if_neg (by omega), if_neg (by omega), if_neg (by omega), if_pos (by omega), show (i - L) % 4 = i - (L + 4) by omega]
          rfl
        · rw [c, if_neg (by omega), if_neg (by omega), if_pos (by omega), show (i - L) % 4 = i - (L + 4 + 4) by omega]
          rfl
        · rw [c, if_neg (by omega), if_pos (by omega), show (i - L) % 4 = i - (L + 4 + 4 + 4) by omega]
          rfl
        · rw [c, if_pos (by omega), show (i - L) % 4 = i - (L + 4 + 4 + 4 + 4) by omega]
          rfl
      · rw [if_neg (by omega)]
        unfold ptL
        rw [if_neg (by omega), if_neg (by omega), if_neg (by omega), if_neg (by omega), if_neg (by omega)]
        exact (t3 i (by omega)).1
  · rw [if_pos (show (400 : Int32) < nI (L + 20) from nI_lt (a := 400) (by omega) (by omega)), if_neg (show ¬ nI (L + 20) ≤ (400 : Int32) from nI_ge (a := 400) (by omega) (by omega)), b_some, if_pos rfl]
    exact ⟨-1, σ1, _, rfl, rfl, h.t0⟩
