/-! the log -/
theorem bit_shlN {x : Int32} {k i : Nat} (hk : k < 32) (hi : i < 32) : bit (x <<< (nI k &&& 31)) i = (decide (k ≤ i) && bit x (i - k)) := by
  unfold bit
  have e : (x <<< (nI k &&& 31)).toBitVec = x.toBitVec <<< ((nI k &&& 31).toBitVec.smod 32) := rfl
  rw [e, sh_mod k hk]
  show (x.toBitVec <<< (BitVec.ofNat 32 k).toNat).getLsbD i = _
  have e2 : (BitVec.ofNat 32 k).toNat = k := by
    rw [BitVec.toNat_ofNat]
    omega
  rw [e2, BitVec.getLsbD_shiftLeft]
  by_cases h : i < k
  · have h2 : ¬ k ≤ i := by omega
    simp [h, h2]
  · have h2 : k ≤ i := by omega
    simp [h, h2, hi]
theorem bit_shr_hi {x : Int32} {k i : Nat} (hk : k < 32) (hi : i < 32) (h : 32 ≤ k + i) : bit (x >>> (nI k &&& 31)) i = bit x 31 := by
  unfold bit
  have e : (x >>> (nI k &&& 31)).toBitVec = BitVec.sshiftRight' x.toBitVec ((nI k &&& 31).toBitVec.smod 32) := rfl
  rw [e, sh_mod k hk]
  show (BitVec.sshiftRight x.toBitVec (BitVec.ofNat 32 k).toNat).getLsbD i = _
  have e2 : (BitVec.ofNat 32 k).toNat = k := by
    rw [BitVec.toNat_ofNat]
    omega
  rw [e2, BitVec.getLsbD_sshiftRight]
  have h1 : ¬ 32 ≤ i := by omega
  have h2 : ¬ k + i < 32 := by omega
  simp [h1, h2]
  rfl
def pk5 (a b c d e : Int32) : Int32 := (a <<< 17) ||| (b <<< 14) ||| (c <<< 11) ||| (d <<< 4) ||| e
theorem bit_pk {a b c d e : Int32} {i : Nat} (hi : i < 32) : bit (pk5 a b c d e) i = ((((decide (17 ≤ i) && bit a (i - 17)) || (decide (14 ≤ i) && bit b (i - 14))) || (decide (11 ≤ i) && bit c (i - 11)) || (decide (4 ≤ i) && bit d (i - 4))) || bit e i) := by
  unfold pk5
  rw [bit_or, bit_or, bit_or, bit_or, show a <<< 17 = a <<< (nI 17 &&& 31) from rfl, show b <<< 14 = b <<< (nI 14 &&& 31) from rfl, show c <<< 11 = c <<< (nI 11 &&& 31) from rfl, show d <<< 4 = d <<< (nI 4 &&& 31) from rfl, bit_shlN (by omega) hi, bit_shlN (by omega) hi, bit_shlN (by omega) hi, bit_shlN (by omega) hi]
theorem hi_bits {x : Int32} {n : Nat} (h0 : 0 ≤ x.toInt) (h1 : x.toInt < 2 ^ n) (hn : n ≤ 30) : ∀ j, n ≤ j → bit x j = false := by
  intro j hj
  have e : x = nI x.toInt.toNat := nI_cN h0
  have hx := i_hi x
  rw [e, bit_nI (by omega)]
  refine Nat.testBit_lt_two_pow (Nat.lt_of_lt_of_le ?_ (Nat.pow_le_pow_right (by decide) hj))
  have : ((2 ^ n : Nat) : Int) = 2 ^ n := by simp
  omega
theorem pk_a {a b c d e : Int32} (ha : ∀ j, 9 ≤ j → bit a j = false) (hb : ∀ j, 3 ≤ j → bit b j = false) (hc : ∀ j, 3 ≤ j → bit c j = false) (hd : ∀ j, 7 ≤ j → bit d j = false) (he : ∀ j, 4 ≤ j → bit e j = false) : pk5 a b c d e >>> ((17 : Int32) &&& 31) = a := by
  apply bit_ext
  intro i hi
  show bit (pk5 a b c d e >>> (nI 17 &&& 31)) i = _
  rcases Nat.lt_or_ge (17 + i) 32 with h | h
  · rw [bit_shr (by omega) h, bit_pk h, hb (17 + i - 14) (by omega), hc (17 + i - 11) (by omega), hd (17 + i - 4) (by omega), he (17 + i) (by omega), show 17 + i - 17 = i by omega, decide_eq_true (show 17 ≤ 17 + i by omega)]
    simp
  · rw [bit_shr_hi (by omega) hi h, bit_pk (by omega), ha (31 - 17) (by omega), hb (31 - 14) (by omega), hc (31 - 11) (by omega), hd (31 - 4) (by omega), he 31 (by omega), ha i (by omega)]
    simp
theorem bit7 : ∀ i, i < 32 → bit 7 i = decide (i < 3) := by decide
theorem bit127 : ∀ i, i < 32 → bit 127 i = decide (i < 7) := by decide
theorem bit15 : ∀ i, i < 32 → bit 15 i = decide (i < 4) := by decide
theorem pk_b {a b c d e : Int32} (hb : ∀ j, 3 ≤ j → bit b j = false) (hc : ∀ j, 3 ≤ j → bit c j = false) (hd : ∀ j, 7 ≤ j → bit d j = false) (he : ∀ j, 4 ≤ j → bit e j = false) : (pk5 a b c d e >>> ((14 : Int32) &&& 31)) &&& 7 = b := by
  apply bit_ext
  intro i hi
  rw [bit_and, bit7 i hi]
  show (bit (pk5 a b c d e >>> (nI 14 &&& 31)) i && _) = _
  rcases Nat.lt_or_ge i 3 with h | h
  · rw [bit_shr (by omega) (by omega), bit_pk (by omega), hc (14 + i - 11) (by omega), hd (14 + i - 4) (by omega), he (14 + i) (by omega), show 14 + i - 14 = i by omega, decide_eq_true (show 14 ≤ 14 + i by omega), decide_eq_false (show ¬ 17 ≤ 14 + i by omega), decide_eq_true h]
    simp
  · rw [decide_eq_false (show ¬ i < 3 by omega), hb i h, Bool.and_false]
theorem pk_c {a b c d e : Int32} (hc : ∀ j, 3 ≤ j → bit c j = false) (hd : ∀ j, 7 ≤ j → bit d j = false) (he : ∀ j, 4 ≤ j → bit e j = false) : (pk5 a b c d e >>> ((11 : Int32) &&& 31)) &&& 7 = c := by
  apply bit_ext
  intro i hi
  rw [bit_and, bit7 i hi]
  show (bit (pk5 a b c d e >>> (nI 11 &&& 31)) i && _) = _
  rcases Nat.lt_or_ge i 3 with h | h
  · rw [bit_shr (by omega) (by omega), bit_pk (by omega), hd (11 + i - 4) (by omega), he (11 + i) (by omega), show 11 + i - 11 = i by omega, decide_eq_true (show 11 ≤ 11 + i by omega), decide_eq_false (show ¬ 17 ≤ 11 + i by omega), decide_eq_false (show ¬ 14 ≤ 11 + i by omega), decide_eq_true h]
    simp
  · rw [decide_eq_false (show ¬ i < 3 by omega), hc i h, Bool.and_false]
theorem pk_d {a b c d e : Int32} (hd : ∀ j, 7 ≤ j → bit d j = false) (he : ∀ j, 4 ≤ j → bit e j = false) : (pk5 a b c d e >>> ((4 : Int32) &&& 31)) &&& 127 = d := by
  apply bit_ext
  intro i hi
  rw [bit_and, bit127 i hi]
  show (bit (pk5 a b c d e >>> (nI 4 &&& 31)) i && _) = _
  rcases Nat.lt_or_ge i 7 with h | h
  · rw [bit_shr (by omega) (by omega), bit_pk (by omega), he (4 + i) (by omega), show 4 + i - 4 = i by omega, decide_eq_true (show 4 ≤ 4 + i by omega), decide_eq_false (show ¬ 17 ≤ 4 + i by omega), decide_eq_false (show ¬ 14 ≤ 4 + i by omega), decide_eq_false (show ¬ 11 ≤ 4 + i by omega), decide_eq_true h]
    simp
  · rw [decide_eq_false (show ¬ i < 7 by omega), hd i h, Bool.and_false]
theorem pk_e {a b c d e : Int32} (he : ∀ j, 4 ≤ j → bit e j = false) : pk5 a b c d e &&& 15 = e := by
  apply bit_ext
  intro i hi
  rw [bit_and, bit15 i hi]
  rcases Nat.lt_or_ge i 4 with h | h
  · rw [bit_pk hi, decide_eq_false (show ¬ 17 ≤ i by omega), decide_eq_false (show ¬ 14 ≤ i by omega), decide_eq_false (show ¬ 11 ≤ i by omega), decide_eq_false (show ¬ 4 ≤ i by omega), decide_eq_true h]
    simp
  · rw [decide_eq_false (show ¬ i < 4 by omega), he i h, Bool.and_false]
theorem WInv.lo {w : Nat → Int32} (h : WInv w) : ∀ i, i < cN w 15 → (0 ≤ (w (83 + 5 * i)).toInt ∧ (w (83 + 5 * i)).toInt ≤ 400) ∧ (0 ≤ (w (84 + 5 * i)).toInt ∧ (w (84 + 5 * i)).toInt < (w 1).toInt) ∧ (0 ≤ (w (85 + 5 * i)).toInt ∧ (w (85 + 5 * i)).toInt < 6) ∧ (0 ≤ (w (86 + 5 * i)).toInt ∧ (w (86 + 5 * i)).toInt ≤ 99) ∧ (0 ≤ (w (87 + 5 * i)).toInt ∧ (w (87 + 5 * i)).toInt ≤ 10) := h.m.2.2.2.2.2.2.2
theorem WInv.c15 {w : Nat → Int32} (h : WInv w) : 0 ≤ (w 15).toInt ∧ cN w 15 ≤ 60 := by
  have := h.m.2.2.2.2.2.1
  unfold cN
  omega
/-- a part of a row -/
theorem c_part {N z i j : Nat} {σ : pS} {w : Nat → Int32} (hw : WInv w) (h : LogR (σ.1 (z + 22)) (σ.2.1 (z + 23)) w) (hi : i < cN w 15) (hj : j < 5) : fX2_part N (G1 z) (z + 22) (nI i) (nI j) σ = some (w (83 + 5 * i + j)) := by
  obtain ⟨h0, n, hn, h1, h2⟩ := h
  have c15 := hw.c15
  obtain ⟨la, lb, lc, ld, le⟩ := hw.lo i hi
  have w1 := hw.2.1
  have ba := hi_bits (n := 9) la.1 (by omega) (by omega)
  have bb := hi_bits (n := 3) lb.1 (by omega) (by omega)
  have bc' := hi_bits (n := 3) lc.1 (by omega) (by omega)
  have bd := hi_bits (n := 7) ld.1 (by omega) (by omega)
  have be := hi_bits (n := 4) le.1 (by omega) (by omega)
  have e44 : ∀ k, k = (n + 60 - i) % 60 → fX2_part_b44 N (G1 z) (nI j) (z + 23) (nI k) σ = some (w (83 + 5 * i + j)) := by
    intro k hk
    have hk60 : k < 60 := by
      rw [hk]
      exact Nat.mod_lt _ (by omega)
    unfold fX2_part_b44
    rw [at_fn g1n_23 hk60 (by omega), b_some, hk, h2 i hi]
    show (if nI j = 0 then some (pk5 (w (83 + 5 * i)) (w (84 + 5 * i)) (w (85 + 5 * i)) (w (86 + 5 * i)) (w (87 + 5 * i)) >>> ((17 : Int32) &&& 31)) else if nI j = 1 then some ((pk5 (w (83 + 5 * i)) (w (84 + 5 * i)) (w (85 + 5 * i)) (w (86 + 5 * i)) (w (87 + 5 * i)) >>> ((14 : Int32) &&& 31)) &&& 7) else if nI j = 2 then some ((pk5 (w (83 + 5 * i)) (w (84 + 5 * i)) (w (85 + 5 * i)) (w (86 + 5 * i)) (w (87 + 5 * i)) >>> ((11 : Int32) &&& 31)) &&& 7) else if nI j = 3 then some ((pk5 (w (83 + 5 * i)) (w (84 + 5 * i)) (w (85 + 5 * i)) (w (86 + 5 * i)) (w (87 + 5 * i)) >>> ((4 : Int32) &&& 31)) &&& 127) else some (pk5 (w (83 + 5 * i)) (w (84 + 5 * i)) (w (85 + 5 * i)) (w (86 + 5 * i)) (w (87 + 5 * i)) &&& 15)) = _
    rw [pk_a ba bb bc' bd be, pk_b bb bc' bd be, pk_c bc' bd be, pk_d bd be, pk_e be]
    match j, hj with
    | 0, _ => rfl
    | 1, _ => rw [show 83 + 5 * i + 1 = 84 + 5 * i by omega]; rfl
    | 2, _ => rw [show 83 + 5 * i + 2 = 85 + 5 * i by omega]; rfl
    | 3, _ => rw [show 83 + 5 * i + 3 = 86 + 5 * i by omega]; rfl
    | 4, _ => rw [show 83 + 5 * i + 4 = 87 + 5 * i by omega]; rfl
  unfold fX2_part
  simp only [g1r_22_2]
  have l15 : nI i < w 15 := by
    rw [nI_cN c15.1]
    exact nI_lt hi (by unfold cN at *; omega)
  rw [if_neg (nI_pos (by omega)), h0, if_pos l15, h1]
  by_cases q : n < i
  · rw [if_pos (nI_lt q (by omega))]
    have e : nI n - nI i + 60 = nI (n + 60 - i) := by
      apply i_ext
      have e1 : (nI n).toInt = n := nI_toInt (by omega)
      have e2 : (nI i).toInt = i := nI_toInt (by omega)
      have e3 : (nI n - nI i).toInt = n - i := by rw [i_sub (by omega) (by omega), e1, e2]
      have e4 : (60 : Int32).toInt = 60 := rfl
      rw [i_add (by omega) (by omega), e3, e4, nI_toInt (by omega)]
      omega
    rw [e]
    refine e44 _ ?_
    rw [Nat.mod_eq_of_lt (by omega)]
  · rw [if_neg (nI_nlt (by omega) (by omega))]
    have e : nI n - nI i = nI (n - i) := by
      apply i_ext
      have e1 : (nI n).toInt = n := nI_toInt (by omega)
      have e2 : (nI i).toInt = i := nI_toInt (by omega)
      rw [i_sub (by omega) (by omega), e1, e2, nI_toInt (by omega)]
      omega
    rw [e]
    refine e44 _ ?_
    rw [show n + 60 - i = n - i + 60 by omega, Nat.add_mod_right, Nat.mod_eq_of_lt (by omega)]
theorem r_ofLog {N y i j : Nat} {σ : pS} (hi : i < 60) (hj : j < 5) : fX12_ofLog N (G2 y) y (nI i) (nI j) σ = some (σ.2.1 (y + 1) (83 + 5 * i + j)) := by
  unfold fX12_ofLog
  simp only [g2r_0_1, g2r_0_2, g2r_0_3, g2r_0_4, g2r_0_5, g2r_0_8, g2r_0_15, g2r_0_17, g2r_0_25, g2r_0_26, g2r_0_27, g2r_0_28, g2n_1, g2n_2, g2n_3, g2n_4, g2n_5, g2n_6, g2n_7, g2n_8, g2n_9, g2n_10, g2n_11, g2n_12]
  rw [show (83 : Int32) + 5 * nI i + nI j = nI (83 + 5 * i + j) from ix3 83 5 i j, ck_nI (by omega) (by omega), gA_nI (by omega)]
