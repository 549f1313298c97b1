/-! names as bits -/
theorem WInv.hB {w : Nat → Int32} (h : WInv w) : 0 ≤ (w 11).toInt ∧ ((w 11).toInt < (w 0).toInt ∨ w 11 = 0) := h.m.2.2.1
theorem WInv.pos {w : Nat → Int32} (h : WInv w) : ∀ i, bit (w 12) i = true → i < cN w 0 := h.m.2.2.2.1
/-- who has a trait -/
def hv (w : Nat → Int32) (t : Nat) : Int32 := orL (fun i => decide (bit (w (17 + 2 * i)) t = true)) (cN w 0)
theorem bit_hv {w : Nat → Int32} (h : WInv w) (t i : Nat) : bit (hv w t) i = (decide (i < cN w 0) && bit (w (17 + 2 * i)) t) := by
  have := h.c0
  unfold hv
  rw [bit_orL (by omega)]
  simp
theorem bear_eq {f : Nat → Int32} {A : Nat → Nat → Int32} {w : Nat → Int32} (hw : WInv w) (h : TaleR f A w) {t : Nat} (ht : t < 6) : A 2 t = hv w t := by
  apply bit_ext
  intro i _
  rw [bit_hv hw, h.2.2.1 t ht i]
theorem r_whoHave {N y t : Nat} {σ : pS} (hN : 20000 < N) (hw : WInv (σ.2.1 (y + 1))) (ht : t < 32) : fX12_whoHave N (G2 y) y (nI t) σ = some (hv (σ.2.1 (y + 1)) t) := by
  unfold fX12_whoHave fX12_whoHave_b4
  have c0 := hw.c0
  refine lp_for (fun k => (orL (fun i => decide (bit (σ.2.1 (y + 1) (17 + 2 * i)) t = true)) k, nI k)) (cN (σ.2.1 (y + 1)) 0) _ (by omega) ?_ ?_
  · intro k hk q
    simp only [r_names, b_some]
    rw [if_neg (cnt_lt hw.1.1 hk), r_ofName0 (by omega), b_some, has_fn2 ht, b_some, ite01]
    exact orL_q decide_eq_true_iff.symm
  · intro q
    simp only [r_names, b_some]
    rw [if_pos (cnt_eN hw.1.1)]
    rfl
/-- his traits -/
def hisT (w : Nat → Int32) : Int32 := if w 0 = 0 then 0 else w (17 + 2 * (w 11).toInt.toNat)
theorem r_traitsOfHis {N y : Nat} {σ : pS} (hw : WInv (σ.2.1 (y + 1))) : fX12_traitsOfHis N (G2 y) y σ = some (hisT (σ.2.1 (y + 1))) := by
  unfold fX12_traitsOfHis hisT
  rw [r_names, b_some]
  by_cases e : σ.2.1 (y + 1) 0 = 0
  · rw [if_pos e, if_pos e]
  · rw [if_neg e, if_neg e]
    simp only [g2r_0_1, g2r_0_2, g2r_0_3, g2r_0_4, g2r_0_5, g2r_0_8, g2r_0_15, g2r_0_17, g2r_0_25, g2r_0_26, g2r_0_27, g2r_0_28, g2n_1, g2n_2, g2n_3, g2n_4, g2n_5, g2n_6, g2n_7, g2n_8, g2n_9, g2n_10, g2n_11, g2n_12]
    have hb := hw.hB
    have c0 := hw.1
    show (fX12_ofName N (G2 y) y (σ.2.1 (y + 1) 11) 0 σ).bind _ = _
    rw [nI_cN hb.1, r_ofName0, nI_toInt]
    · rfl
    · have := i_hi (σ.2.1 (y + 1) 11)
      omega
    · rcases hb.2 with q | q
      · omega
      · rw [q]
        decide
/-- whom a trait, told of him, leaves -/
def nar (w : Nat → Int32) (s : Int32) (t : Nat) : Int32 := orL (fun i => decide (bit s i = true ∧ bit (w (17 + 2 * i)) t = bit (hisT w) t)) (cN w 0)
theorem bit_nar {w : Nat → Int32} (h : WInv w) (s : Int32) (t i : Nat) : bit (nar w s t) i = (decide (i < cN w 0) && (bit s i && (bit (w (17 + 2 * i)) t == bit (hisT w) t))) := by
  have := h.c0
  unfold nar
  rw [bit_orL (by omega)]
  simp only [Bool.decide_and, Bool.decide_eq_true]
  rfl
theorem one_eq {a b : Bool} : ((if a = true then (1 : Int32) else 0) = if b = true then (1 : Int32) else 0) ↔ a = b := by
  cases a <;> cases b <;> decide
theorem r_staysOf {N y t : Nat} {s : Int32} {σ : pS} (hN : 20000 < N) (hw : WInv (σ.2.1 (y + 1))) (ht : t < 32) : fX12_staysOf N (G2 y) y s (nI t) σ = some (nar (σ.2.1 (y + 1)) s t) := by
  unfold fX12_staysOf fX12_staysOf_b5
  have c0 := hw.c0
  refine lp_for (fun k => (orL (fun i => decide (bit s i = true ∧ bit (σ.2.1 (y + 1) (17 + 2 * i)) t = bit (hisT (σ.2.1 (y + 1))) t)) k, nI k)) (cN (σ.2.1 (y + 1)) 0) _ (by omega) ?_ ?_
  · intro k hk q
    simp only [r_names, b_some]
    rw [if_neg (cnt_lt hw.1.1 hk), has_fn2 (by omega), b_some, ite01]
    refine Eq.trans ?_ (orL_q (c := bit s k = true ∧ bit (σ.2.1 (y + 1) (17 + 2 * k)) t = bit (hisT (σ.2.1 (y + 1))) t) (p := fun i => decide (bit s i = true ∧ bit (σ.2.1 (y + 1) (17 + 2 * i)) t = bit (hisT (σ.2.1 (y + 1))) t)) (q := q) (k := k) decide_eq_true_iff.symm)
    by_cases a : bit s k = true
    · rw [if_pos a, r_ofName0 (by omega), b_some, has_fn2 ht, b_some, r_traitsOfHis hw, b_some, has_fn2 ht, b_some]
      by_cases b : bit (σ.2.1 (y + 1) (17 + 2 * k)) t = bit (hisT (σ.2.1 (y + 1))) t
      · rw [if_pos (one_eq.mpr b), if_pos ⟨a, b⟩]
      · rw [if_neg (fun e => b (one_eq.mp e)), if_neg (fun e => b e.2)]
        rfl
    · rw [if_neg a, if_neg (fun e => a e.1)]
      rfl
  · intro q
    simp only [r_names, b_some]
    rw [if_pos (cnt_eN hw.1.1)]
    rfl
theorem nar_sub {w : Nat → Int32} (h : WInv w) {s : Int32} {t : Nat} : ∀ i, bit (nar w s t) i = true → i < cN w 0 := by
  intro i hi
  rw [bit_nar h] at hi
  simp only [Bool.and_eq_true, decide_eq_true_eq] at hi
  exact hi.1
theorem zero_of {x : Int32} (h : ∀ i, bit x i = true → i < 0) : x = 0 := by
  apply bit_ext
  intro i _
  rw [bit_0]
  cases e : bit x i
  · rfl
  · exact absurd (h i e) (by omega)
/-- the bearer, as the class has him -/
def bea (w : Nat → Int32) : Int32 := if w 0 = 0 then -1 else w 11
theorem c_narrowed {N z t : Nat} {p : Int32} {σ : pS} {w : Nat → Int32} (hw : WInv w) (h : TaleR (σ.1 (z + 4)) (fun j => σ.2.1 (z + (5 + j))) w) (ht : t < 6) (hp : ∀ i, bit p i = true → i < cN w 0) : fX8_narrowed N (G1 z) (z + 4) p (bea w) (nI t) σ = some (nar w p t) := by
  unfold fX8_narrowed
  by_cases e : w 0 = 0
  · have c : cN w 0 = 0 := by
      unfold cN
      rw [e]
      rfl
    rw [c] at hp
    rw [show bea w = -1 from if_pos e, if_pos (by decide), zero_of hp]
    unfold nar
    rw [c]
    rfl
  · have hb := hw.hB
    have hb2 : (w 11).toInt < (w 0).toInt := by
      rcases hb.2 with q | q
      · exact q
      · have : (w 0).toInt ≠ 0 := fun q2 => e (i_ext q2)
        have h0 := hw.1.1
        rw [q, show (0 : Int32).toInt = 0 from rfl]
        omega
    have c0 := hw.1
    have eb : w 11 = nI (w 11).toInt.toNat := nI_cN hb.1
    rw [show bea w = nI (w 11).toInt.toNat from (if_neg e).trans eb, if_neg (nI_pos (by omega)), if_pos (nI_pos' (by omega))]
    simp only [g1r_0_0, g1r_0_1, g1r_0_2, g1r_0_3, g1r_0_4, g1r_0_5, g1r_0_6, g1r_0_7, g1r_0_8, g1r_1_5, g1n_2, g1r_3_0, g1r_3_1, g1r_3_2, g1r_4_9, g1r_4_10, g1r_4_11, g1r_4_12, g1r_4_13, g1r_4_14, g1r_4_15, g1r_4_16, g1r_4_17, g1n_5, g1n_6, g1n_7, g1n_8, g1n_9, g1n_10, g1n_11, g1n_12, g1n_13, g1r_14_2, g1r_14_3, g1r_14_4, g1r_14_5, g1r_14_6, g1n_15, g1n_16, g1n_17, g1n_18, g1n_19, g1r_20_7, g1r_20_8, g1n_21, g1r_22_2, g1n_23, g1r_24_0, g1r_24_1, g1r_24_2, g1r_25_9, g1r_25_10, g1r_25_11, g1r_25_12, g1r_25_13, g1r_25_14, g1r_25_15, g1r_25_16, g1r_25_17, g1n_26, g1n_27, g1n_28, g1n_29, g1n_30, g1n_31, g1n_32, g1n_33, g1n_34, g1r_35_2, g1r_35_3, g1r_35_4, g1r_35_5, g1r_35_6, g1n_36, g1n_37, g1n_38, g1n_39, g1n_40, g1r_41_7, g1r_41_8, g1n_42, g1r_43_2, g1n_44, g1r_45_0, g1r_45_1, g1r_45_2, g1r_46_9, g1r_46_10, g1r_46_11, g1r_46_12, g1r_46_13, g1r_46_14, g1r_46_15, g1r_46_16, g1r_46_17, g1n_47, g1n_48, g1n_49, g1n_50, g1n_51, g1n_52, g1n_53, g1n_54, g1n_55, g1r_56_2, g1r_56_3, g1r_56_4, g1r_56_5, g1r_56_6, g1n_57, g1n_58, g1n_59, g1n_60, g1n_61, g1r_62_7, g1r_62_8, g1n_63, g1r_64_2, g1n_65, g1r_66_2, g1n_67, g1r_68_7, g1r_68_8, g1n_69, g1r_70_2, g1n_71, g1r_72_7, g1r_72_8, g1n_73, g1r_74_2, g1n_75, g1r_76_7, g1r_76_8, g1n_77, g1r_78_2, g1n_79, g1r_80_7, g1r_80_8, g1n_81, g1r_82_2, g1n_83, g1r_84_7, g1r_84_8, g1n_85, g1r_86_2, g1n_87, g1r_88_7, g1r_88_8, g1n_89, g1r_90_2, g1n_91, g1r_92_7, g1r_92_8, g1n_93, g1r_94_2, g1n_95, g1r_96_7, g1r_96_8, g1n_97, g1r_98_2, g1n_99, g1r_100_7, g1r_100_8, g1n_101, g1r_102_2, g1n_103, g1r_104_7, g1r_104_8, g1n_105, g1r_106_2, g1n_107, g1r_108_7, g1r_108_8, g1n_109, g1r_110_2, g1n_111, g1r_112_7, g1r_112_8, g1n_113, g1r_114_2, g1n_115, g1r_116_7, g1r_116_8, g1n_117, g1r_118_2, g1n_119, g1r_120_0, g1r_120_1, g1r_120_2, g1r_121_7, g1r_121_8, g1n_122, g1r_123_2, g1n_124, g1n_125, g1n_126, g1r_127_0, g1r_127_1, g1r_127_2, g1r_127_3, g1r_128_7, g1r_128_8, g1n_129, g1r_130_2, g1n_131, g1n_132, g1n_133, g1n_134, g1r_135_7, g1n_136, g1n_150]
    rw [at_fn g1n_7 ht (by omega), b_some, has_fn (by omega), b_some, ite01]
    have ea : σ.2.1 (z + 7) t = hv w t := bear_eq hw h ht
    have hT : hisT w = w (17 + 2 * (w 11).toInt.toNat) := if_neg e
    have hbb : bit (hv w t) (w 11).toInt.toNat = bit (hisT w) t := by
      rw [bit_hv hw, hT, show decide ((w 11).toInt.toNat < cN w 0) = true from decide_eq_true (by unfold cN; omega)]
      rfl
    rw [ea, hbb]
    cases hc : bit (hisT w) t
    · simp only [Bool.false_eq_true, if_false]
      congr 1
      apply bit_ext
      intro i hi
      rw [bit_and, bit_not hi, bit_hv hw, bit_nar hw, hc]
      cases hpi : bit p i
      · simp
      · have := hp i hpi
        simp [this]
    · simp only [if_true]
      congr 1
      apply bit_ext
      intro i hi
      rw [bit_and, bit_hv hw, bit_nar hw, hc]
      cases hpi : bit p i
      · simp
      · have := hp i hpi
        simp [this]
theorem c_narrowed_m1 {N z : Nat} {p : Int32} {σ : pS} {b t : Int32} (ht : t < 0) : fX8_narrowed N (G1 z) (z + 4) p b t σ = some p := by
  unfold fX8_narrowed
  by_cases e : b < 0
  · rw [if_pos e]
  · rw [if_neg e, if_neg (by rw [i_lt] at ht; rw [i_le]; omega)]
/-- counting bits -/
def pcN (m : Nat) : Nat := (List.range 10).countP (fun i => m.testBit i)
set_option maxRecDepth 100000 in
theorem bc_pc : ∀ m, m < 1024 → bc (nI m) = nI (pcN m) := by decide +kernel
theorem bit_nI {m i : Nat} (hm : m < 2147483648) : bit (nI m) i = m.testBit i := by
  show (BitVec.ofNat 32 m).getLsbD i = _
  rw [BitVec.getLsbD_ofNat]
  by_cases h : i < 32
  · simp [h]
  · have : m.testBit i = false := Nat.testBit_lt_two_pow (Nat.lt_of_lt_of_le hm (Nat.le_trans (by decide : 2147483648 ≤ 2 ^ 32) (Nat.pow_le_pow_right (by decide) (by omega))))
    simp [h, this]
theorem small_bits {x : Int32} {n : Nat} (h : ∀ i, bit x i = true → i < n) (hn : n ≤ 30) : ∃ m, m < 2 ^ n ∧ x = nI m := by
  refine ⟨x.toBitVec.toNat, ?_, ?_⟩
  · apply Nat.lt_pow_two_of_testBit
    intro i hi
    cases e : x.toBitVec.toNat.testBit i
    · rfl
    · exact absurd (h i e) (by omega)
  · apply bit_ext
    intro i hi
    show _ = (BitVec.ofNat 32 _).getLsbD i
    rw [BitVec.ofNat_toNat, BitVec.setWidth_eq]
    rfl
theorem pcN_le {a b : Nat} (h : ∀ i, a.testBit i = true → b.testBit i = true) : pcN a ≤ pcN b := List.countP_mono_left (fun i _ => h i)
theorem pcN_10 (a : Nat) : pcN a ≤ 10 := List.countP_le_length
theorem countP_lt {p q : Nat → Bool} : ∀ {l : List Nat}, (∀ i, p i = true → q i = true) → (∃ i, i ∈ l ∧ p i = false ∧ q i = true) → l.countP p < l.countP q := by
  intro l
  induction l with
  | nil =>
    intro _ ⟨i, hi, _⟩
    cases hi
  | cons a l ih =>
    intro h ⟨i, hi, h1, h2⟩
    have hm : l.countP p ≤ l.countP q := List.countP_mono_left (fun i _ => h i)
    rw [List.countP_cons, List.countP_cons]
    rcases List.mem_cons.mp hi with e | e
    · subst e
      rw [h1, h2]
      simp
      omega
    · have := ih h ⟨i, e, h1, h2⟩
      cases hp : p a
      · cases hq : q a <;> simp <;> omega
      · rw [h a hp]
        simp
        omega
theorem pcN_lt {a b : Nat} (h : ∀ i, a.testBit i = true → b.testBit i = true) (hb : b < 1024) (ne : a ≠ b) : pcN a < pcN b := by
  apply countP_lt h
  obtain ⟨i, hi⟩ := Nat.exists_testBit_ne_of_ne ne
  have : b.testBit i = true := by
    cases e : b.testBit i
    · cases e2 : a.testBit i
      · rw [e, e2] at hi
        exact absurd rfl hi
      · rw [h i e2] at e
        cases e
    · rfl
  have e2 : a.testBit i = false := by
    cases e3 : a.testBit i
    · rfl
    · rw [this, e3] at hi
      exact absurd rfl hi
  refine ⟨i, ?_, e2, this⟩
  rw [List.mem_range]
  rcases Nat.lt_or_ge i 10 with q | q
  · exact q
  · have e9 := Nat.testBit_lt_two_pow (x := b) (i := i) (Nat.lt_of_lt_of_le hb (Nat.le_trans (by decide : 1024 ≤ 2 ^ 10) (Nat.pow_le_pow_right (by decide) q)))
    rw [e9] at this
    cases this
/-- the count of bits of a set of names -/
theorem bc_sub {x s : Int32} {n : Nat} (hn : n ≤ 10) (hs : ∀ i, bit s i = true → i < n) (h : ∀ i, bit x i = true → bit s i = true) : bc s ≤ bc x ↔ x = s := by
  obtain ⟨a, ha, rfl⟩ := small_bits (fun i hi => hs i (h i hi)) (by omega : n ≤ 30)
  obtain ⟨b, hb, rfl⟩ := small_bits hs (by omega : n ≤ 30)
  have p10 : (2 : Nat) ^ n ≤ 1024 := Nat.le_trans (Nat.pow_le_pow_right (by decide) hn) (by decide : 2 ^ 10 ≤ 1024)
  rw [bc_pc a (by omega), bc_pc b (by omega)]
  have l1 := pcN_10 a
  have l2 := pcN_10 b
  rw [nI_leI (by omega) (by omega), nI_eq (by omega) (by omega)]
  have h' : ∀ i, a.testBit i = true → b.testBit i = true := by
    intro i hi
    have := h i
    rw [bit_nI (by omega), bit_nI (by omega)] at this
    exact this hi
  constructor
  · intro q
    rcases Nat.lt_or_ge (pcN a) (pcN b) with r | r
    · omega
    · by_cases e : a = b
      · exact e
      · have := pcN_lt h' (by omega) e
        omega
  · intro q
    rw [q]
    exact Nat.le_refl _
theorem bc_bd {s : Int32} {n : Nat} (hn : n ≤ 10) (hs : ∀ i, bit s i = true → i < n) : ∃ c, c ≤ 10 ∧ bc s = nI c ∧ (c = 0 ↔ s = 0) := by
  obtain ⟨b, hb, rfl⟩ := small_bits hs (by omega : n ≤ 30)
  have p10 : (2 : Nat) ^ n ≤ 1024 := Nat.le_trans (Nat.pow_le_pow_right (by decide) hn) (by decide : 2 ^ 10 ≤ 1024)
  refine ⟨pcN b, pcN_10 b, bc_pc b (by omega), ?_⟩
  constructor
  · intro q
    by_cases e : 0 = b
    · rw [← e]
      rfl
    · have := pcN_lt (a := 0) (b := b) (fun i hi => by rw [Nat.zero_testBit] at hi; cases hi) (by omega) e
      omega
  · intro q
    have : b = 0 := by
      rw [show (0 : Int32) = nI 0 from rfl, nI_eq (by omega) (by omega)] at q
      exact q
    rw [this]
    rfl
