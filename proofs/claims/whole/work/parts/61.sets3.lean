/-! duties and seals; the best of many sets -/
theorem orL_qn0 {α : Type} {p : Nat → Bool} {c : Prop} [Decidable c] {k : Nat} {q : Int32 × Int32 → α} (h : c ↔ ¬ p k = true) : (if c then q (orL p k ||| 0, nI k + 1) else q (orL p k ||| ((1 : Int32) <<< (nI k &&& 31)), nI k + 1)) = q (orL p (k + 1), nI (k + 1)) := by
  rw [or_0]
  exact orL_qn h
def dd (w : Nat → Int32) (s : Int32) : Int32 := orL (fun i => decide (¬ w (75 + i) &&& s = 0)) (cN w 4)
def allD (w : Nat → Int32) : Int32 := ((1 : Int32) <<< (w 4 &&& 31)) - 1
theorem r_doneBy {N y : Nat} {s : Int32} {σ : pS} (hN : 20000 < N) (hw : WInv (σ.2.1 (y + 1))) : fX12_doneBy N (G2 y) y s σ = some (dd (σ.2.1 (y + 1)) s) := by
  unfold fX12_doneBy fX12_doneBy_b4
  have c4 := hw.c4
  refine lp_for (fun k => (orL (fun i => decide (¬ σ.2.1 (y + 1) (75 + i) &&& s = 0)) k, nI k)) (cN (σ.2.1 (y + 1)) 4) _ (by omega) ?_ ?_
  · intro k hk q
    simp only [r_duties, b_some, g2r_0_1, g2r_0_2, g2r_0_3, g2r_0_4, g2r_0_5, g2r_0_8, g2r_0_15, g2r_0_17, g2r_0_25, g2r_0_26, g2r_0_27, g2r_0_28, g2n_1, g2n_2, g2n_3, g2n_4, g2n_5, g2n_6, g2n_7, g2n_8, g2n_9, g2n_10, g2n_11, g2n_12]
    rw [if_neg (cnt_lt hw.2.2.2.2.1.1 hk), show (75 : Int32) + nI k = nI (75 + k) from nI_add 75 k, ck_nI (by omega) (by omega), gA_nI (by omega)]
    exact orL_qn0 (by simp)
  · intro q
    simp only [r_duties, b_some]
    rw [if_pos (cnt_eN hw.2.2.2.2.1.1)]
    rfl
theorem r_allDuties {N y : Nat} {σ : pS} : fX12_allDuties N (G2 y) y σ = some (allD (σ.2.1 (y + 1))) := by
  unfold fX12_allDuties
  rw [r_duties, b_some]
  rfl
theorem c_dutiesDone {N z : Nat} {s : Int32} {σ : pS} {w : Nat → Int32} (hN : 20000 < N) (hw : WInv w) (h : TaleR (σ.1 (z + 4)) (fun j => σ.2.1 (z + (5 + j))) w) : fX8_dutiesDone N (G1 z) (z + 4) s σ = some (dd w s) := by
  unfold fX8_dutiesDone fX8_dutiesDone_b4
  simp only [g1r_0_0, g1r_0_1, g1r_0_2, g1r_0_3, g1r_0_4, g1r_0_5, g1r_0_6, g1r_0_7, g1r_0_8, g1r_1_5, g1n_2, g1r_3_0, g1r_3_1, g1r_3_2, g1r_4_9, g1r_4_10, g1r_4_11, g1r_4_12, g1r_4_13, g1r_4_14, g1r_4_15, g1r_4_16, g1r_4_17, g1n_5, g1n_6, g1n_7, g1n_8, g1n_9, g1n_10, g1n_11, g1n_12, g1n_13, g1r_14_2, g1r_14_3, g1r_14_4, g1r_14_5, g1r_14_6, g1n_15, g1n_16, g1n_17, g1n_18, g1n_19, g1r_20_7, g1r_20_8, g1n_21, g1r_22_2, g1n_23, g1r_24_0, g1r_24_1, g1r_24_2, g1r_25_9, g1r_25_10, g1r_25_11, g1r_25_12, g1r_25_13, g1r_25_14, g1r_25_15, g1r_25_16, g1r_25_17, g1n_26, g1n_27, g1n_28, g1n_29, g1n_30, g1n_31, g1n_32, g1n_33, g1n_34, g1r_35_2, g1r_35_3, g1r_35_4, g1r_35_5, g1r_35_6, g1n_36, g1n_37, g1n_38, g1n_39, g1n_40, g1r_41_7, g1r_41_8, g1n_42, g1r_43_2, g1n_44, g1r_45_0, g1r_45_1, g1r_45_2, g1r_46_9, g1r_46_10, g1r_46_11, g1r_46_12, g1r_46_13, g1r_46_14, g1r_46_15, g1r_46_16, g1r_46_17, g1n_47, g1n_48, g1n_49, g1n_50, g1n_51, g1n_52, g1n_53, g1n_54, g1n_55, g1r_56_2, g1r_56_3, g1r_56_4, g1r_56_5, g1r_56_6, g1n_57, g1n_58, g1n_59, g1n_60, g1n_61, g1r_62_7, g1r_62_8, g1n_63, g1r_64_2, g1n_65, g1r_66_2, g1n_67, g1r_68_7, g1r_68_8, g1n_69, g1r_70_2, g1n_71, g1r_72_7, g1r_72_8, g1n_73, g1r_74_2, g1n_75, g1r_76_7, g1r_76_8, g1n_77, g1r_78_2, g1n_79, g1r_80_7, g1r_80_8, g1n_81, g1r_82_2, g1n_83, g1r_84_7, g1r_84_8, g1n_85, g1r_86_2, g1n_87, g1r_88_7, g1r_88_8, g1n_89, g1r_90_2, g1n_91, g1r_92_7, g1r_92_8, g1n_93, g1r_94_2, g1n_95, g1r_96_7, g1r_96_8, g1n_97, g1r_98_2, g1n_99, g1r_100_7, g1r_100_8, g1n_101, g1r_102_2, g1n_103, g1r_104_7, g1r_104_8, g1n_105, g1r_106_2, g1n_107, g1r_108_7, g1r_108_8, g1n_109, g1r_110_2, g1n_111, g1r_112_7, g1r_112_8, g1n_113, g1r_114_2, g1n_115, g1r_116_7, g1r_116_8, g1n_117, g1r_118_2, g1n_119, g1r_120_0, g1r_120_1, g1r_120_2, g1r_121_7, g1r_121_8, g1n_122, g1r_123_2, g1n_124, g1n_125, g1n_126, g1r_127_0, g1r_127_1, g1r_127_2, g1r_127_3, g1r_128_7, g1r_128_8, g1n_129, g1r_130_2, g1n_131, g1n_132, g1n_133, g1n_134, g1r_135_7, g1n_136, g1n_150]
  have c4 := hw.c4
  rw [h.1.2.2.2.2.2.1]
  refine lp_for (fun k => (orL (fun i => decide (¬ w (75 + i) &&& s = 0)) k, nI k)) (cN w 4) _ (by omega) ?_ ?_
  · intro k hk q
    dsimp only
    rw [if_neg (cnt_lt hw.2.2.2.2.1.1 hk), at_fn g1n_13 (by omega : k < 8) (by omega), b_some, show σ.2.1 (z + 13) k = w (75 + k) from h.2.2.2.2.2.2 k hk]
    exact orL_qn (by simp)
  · intro q
    dsimp only
    rw [if_pos (cnt_eN hw.2.2.2.2.1.1)]
    rfl
theorem gd_seals {N z y : Nat} (hN : 20000 < N) : Gd_seals N (G1 z) (G2 y) z y (z + 150) (Sim z y) := by
  intro σ1 σ2 h c
  refine ⟨dd (σ2.2.1 (y + 1)) c, putF σ2 y 0 0, ?_, ?_, h.t0⟩
  · unfold fX11_seals
    simp only [g1r_0_0, g1r_0_1, g1r_0_2, g1r_0_3, g1r_0_4, g1r_0_5, g1r_0_6, g1r_0_7, g1r_0_8, g1r_1_5, g1n_2, g1r_3_0, g1r_3_1, g1r_3_2, g1r_4_9, g1r_4_10, g1r_4_11, g1r_4_12, g1r_4_13, g1r_4_14, g1r_4_15, g1r_4_16, g1r_4_17, g1n_5, g1n_6, g1n_7, g1n_8, g1n_9, g1n_10, g1n_11, g1n_12, g1n_13, g1r_14_2, g1r_14_3, g1r_14_4, g1r_14_5, g1r_14_6, g1n_15, g1n_16, g1n_17, g1n_18, g1n_19, g1r_20_7, g1r_20_8, g1n_21, g1r_22_2, g1n_23, g1r_24_0, g1r_24_1, g1r_24_2, g1r_25_9, g1r_25_10, g1r_25_11, g1r_25_12, g1r_25_13, g1r_25_14, g1r_25_15, g1r_25_16, g1r_25_17, g1n_26, g1n_27, g1n_28, g1n_29, g1n_30, g1n_31, g1n_32, g1n_33, g1n_34, g1r_35_2, g1r_35_3, g1r_35_4, g1r_35_5, g1r_35_6, g1n_36, g1n_37, g1n_38, g1n_39, g1n_40, g1r_41_7, g1r_41_8, g1n_42, g1r_43_2, g1n_44, g1r_45_0, g1r_45_1, g1r_45_2, g1r_46_9, g1r_46_10, g1r_46_11, g1r_46_12, g1r_46_13, g1r_46_14, g1r_46_15, g1r_46_16, g1r_46_17, g1n_47, g1n_48, g1n_49, g1n_50, g1n_51, g1n_52, g1n_53, g1n_54, g1n_55, g1r_56_2, g1r_56_3, g1r_56_4, g1r_56_5, g1r_56_6, g1n_57, g1n_58, g1n_59, g1n_60, g1n_61, g1r_62_7, g1r_62_8, g1n_63, g1r_64_2, g1n_65, g1r_66_2, g1n_67, g1r_68_7, g1r_68_8, g1n_69, g1r_70_2, g1n_71, g1r_72_7, g1r_72_8, g1n_73, g1r_74_2, g1n_75, g1r_76_7, g1r_76_8, g1n_77, g1r_78_2, g1n_79, g1r_80_7, g1r_80_8, g1n_81, g1r_82_2, g1n_83, g1r_84_7, g1r_84_8, g1n_85, g1r_86_2, g1n_87, g1r_88_7, g1r_88_8, g1n_89, g1r_90_2, g1n_91, g1r_92_7, g1r_92_8, g1n_93, g1r_94_2, g1n_95, g1r_96_7, g1r_96_8, g1n_97, g1r_98_2, g1n_99, g1r_100_7, g1r_100_8, g1n_101, g1r_102_2, g1n_103, g1r_104_7, g1r_104_8, g1n_105, g1r_106_2, g1n_107, g1r_108_7, g1r_108_8, g1n_109, g1r_110_2, g1n_111, g1r_112_7, g1r_112_8, g1n_113, g1r_114_2, g1n_115, g1r_116_7, g1r_116_8, g1n_117, g1r_118_2, g1n_119, g1r_120_0, g1r_120_1, g1r_120_2, g1r_121_7, g1r_121_8, g1n_122, g1r_123_2, g1n_124, g1n_125, g1n_126, g1r_127_0, g1r_127_1, g1r_127_2, g1r_127_3, g1r_128_7, g1r_128_8, g1n_129, g1r_130_2, g1n_131, g1n_132, g1n_133, g1n_134, g1r_135_7, g1n_136, g1n_150]
    rw [c_dutiesDone hN h.wi h.tale]
    rfl
  · unfold fX12_seals
    rw [r_doneBy (σ := putF σ2 y 0 0) hN h.wi]
    rfl
theorem small64 {x : Int32} (h0 : 0 ≤ x.toInt) (h1 : x.toInt < 64) : ∃ m, m < 64 ∧ x = nI m := ⟨x.toInt.toNat, by omega, nI_cN h0⟩
theorem bits64 {m i : Nat} (hm : m < 64) (h : bit (nI m) i = true) : i < 6 := by
  rw [bit_nI (by omega)] at h
  rcases Nat.lt_or_ge i 6 with q | q
  · exact q
  · have e9 := Nat.testBit_lt_two_pow (x := m) (i := i) (Nat.lt_of_lt_of_le hm (Nat.le_trans (by decide : 64 ≤ 2 ^ 6) (Nat.pow_le_pow_right (by decide) q)))
    rw [e9] at h
    cases h
theorem bit63 : ∀ i, i < 32 → bit 63 i = decide (i < 6) := by decide
theorem and63 {x s : Int32} (h0 : 0 ≤ x.toInt) (h1 : x.toInt < 64) : x &&& (63 &&& s) = x &&& s := by
  obtain ⟨m, hm, rfl⟩ := small64 h0 h1
  apply bit_ext
  intro i hi
  rw [bit_and, bit_and, bit_and, bit63 i hi]
  cases e : bit (nI m) i
  · rfl
  · rw [decide_eq_true (bits64 hm e), Bool.true_and, Bool.true_and]
theorem WInv.du {w : Nat → Int32} (h : WInv w) : ∀ i, i < cN w 4 → (0 ≤ (w (75 + i)).toInt ∧ (w (75 + i)).toInt < 64) := h.2.2.2.2.2.2.2.2.2.2.2.2.2.2.2.2.2.2.2.2.1
theorem dd63 {w : Nat → Int32} (hw : WInv w) (s : Int32) : dd w (63 &&& s) = dd w s := by
  unfold dd
  refine orL_congr (fun k hk => ?_)
  have := hw.du k hk
  rw [and63 this.1 this.2]
theorem gd_alone {N z y : Nat} (hN : 20000 < N) : Gd_alone N (G1 z) (G2 y) z y (z + 150) (Sim z y) := by
  intro σ1 σ2 h
  have wi := h.wi
  refine ⟨orL (fun k => decide (¬ dd (σ2.2.1 (y + 1)) (((1 : Int32) <<< (nI k &&& 31)) ^^^ (-1)) = allD (σ2.2.1 (y + 1)))) 6, putF σ2 y 0 0, ?_, ?_, h.t0⟩
  · unfold fX11_alone fX11_alone_b19
    simp only [g1r_0_0, g1r_0_1, g1r_0_2, g1r_0_3, g1r_0_4, g1r_0_5, g1r_0_6, g1r_0_7, g1r_0_8, g1r_1_5, g1n_2, g1r_3_0, g1r_3_1, g1r_3_2, g1r_4_9, g1r_4_10, g1r_4_11, g1r_4_12, g1r_4_13, g1r_4_14, g1r_4_15, g1r_4_16, g1r_4_17, g1n_5, g1n_6, g1n_7, g1n_8, g1n_9, g1n_10, g1n_11, g1n_12, g1n_13, g1r_14_2, g1r_14_3, g1r_14_4, g1r_14_5, g1r_14_6, g1n_15, g1n_16, g1n_17, g1n_18, g1n_19, g1r_20_7, g1r_20_8, g1n_21, g1r_22_2, g1n_23, g1r_24_0, g1r_24_1, g1r_24_2, g1r_25_9, g1r_25_10, g1r_25_11, g1r_25_12, g1r_25_13, g1r_25_14, g1r_25_15, g1r_25_16, g1r_25_17, g1n_26, g1n_27, g1n_28, g1n_29, g1n_30, g1n_31, g1n_32, g1n_33, g1n_34, g1r_35_2, g1r_35_3, g1r_35_4, g1r_35_5, g1r_35_6, g1n_36, g1n_37, g1n_38, g1n_39, g1n_40, g1r_41_7, g1r_41_8, g1n_42, g1r_43_2, g1n_44, g1r_45_0, g1r_45_1, g1r_45_2, g1r_46_9, g1r_46_10, g1r_46_11, g1r_46_12, g1r_46_13, g1r_46_14, g1r_46_15, g1r_46_16, g1r_46_17, g1n_47, g1n_48, g1n_49, g1n_50, g1n_51, g1n_52, g1n_53, g1n_54, g1n_55, g1r_56_2, g1r_56_3, g1r_56_4, g1r_56_5, g1r_56_6, g1n_57, g1n_58, g1n_59, g1n_60, g1n_61, g1r_62_7, g1r_62_8, g1n_63, g1r_64_2, g1n_65, g1r_66_2, g1n_67, g1r_68_7, g1r_68_8, g1n_69, g1r_70_2, g1n_71, g1r_72_7, g1r_72_8, g1n_73, g1r_74_2, g1n_75, g1r_76_7, g1r_76_8, g1n_77, g1r_78_2, g1n_79, g1r_80_7, g1r_80_8, g1n_81, g1r_82_2, g1n_83, g1r_84_7, g1r_84_8, g1n_85, g1r_86_2, g1n_87, g1r_88_7, g1r_88_8, g1n_89, g1r_90_2, g1n_91, g1r_92_7, g1r_92_8, g1n_93, g1r_94_2, g1n_95, g1r_96_7, g1r_96_8, g1n_97, g1r_98_2, g1n_99, g1r_100_7, g1r_100_8, g1n_101, g1r_102_2, g1n_103, g1r_104_7, g1r_104_8, g1n_105, g1r_106_2, g1n_107, g1r_108_7, g1r_108_8, g1n_109, g1r_110_2, g1n_111, g1r_112_7, g1r_112_8, g1n_113, g1r_114_2, g1n_115, g1r_116_7, g1r_116_8, g1n_117, g1r_118_2, g1n_119, g1r_120_0, g1r_120_1, g1r_120_2, g1r_121_7, g1r_121_8, g1n_122, g1r_123_2, g1n_124, g1n_125, g1n_126, g1r_127_0, g1r_127_1, g1r_127_2, g1r_127_3, g1r_128_7, g1r_128_8, g1n_129, g1r_130_2, g1n_131, g1n_132, g1n_133, g1n_134, g1r_135_7, g1n_136, g1n_150]
    rw [h.tale.1.2.2.2.2.2.1]
    refine lp_for (fun k => (orL (fun k => decide (¬ dd (σ2.2.1 (y + 1)) (((1 : Int32) <<< (nI k &&& 31)) ^^^ (-1)) = allD (σ2.2.1 (y + 1)))) k, nI k)) 6 _ (by omega) ?_ ?_
    · intro k hk q
      dsimp only
      rw [if_neg (l6 hk), c_dutiesDone hN wi h.tale, b_some, dd63 wi]
      exact orL_qn (by simp [allD])
    · intro q
      dsimp only
      rw [if_pos l6e]
  · unfold fX12_alone fX12_alone_b9
    refine lp_for (fun k => (orL (fun k => decide (¬ dd (σ2.2.1 (y + 1)) (((1 : Int32) <<< (nI k &&& 31)) ^^^ (-1)) = allD (σ2.2.1 (y + 1)))) k, nI k, putF σ2 y 0 0)) 6 _ (by omega) ?_ ?_
    · intro k hk q
      dsimp only
      rw [if_neg (l6 hk), r_doneBy (σ := putF σ2 y 0 0) hN wi, b_some, r_allDuties, b_some]
      exact orL_qns (by simp [pfA])
    · intro q
      dsimp only
      rw [if_pos l6e]
/-- the best in a range: fewest by c, then the least -/
def Bst (P : Nat → Bool) (c : Nat → Nat) (lo hi : Nat) : Option Nat → Prop
  | none => ∀ j, lo ≤ j → j < hi → P j = false
  | some m => (lo ≤ m ∧ m < hi ∧ P m = true) ∧ ∀ j, lo ≤ j → j < hi → P j = true → c m < c j ∨ (c m = c j ∧ m ≤ j)
theorem Bst.uniq {P : Nat → Bool} {c : Nat → Nat} {lo hi : Nat} {f g : Option Nat} (hf : Bst P c lo hi f) (hg : Bst P c lo hi g) : f = g := by
  cases f with
  | none =>
    cases g with
    | none => rfl
    | some m =>
      obtain ⟨⟨a, b, d⟩, _⟩ := hg
      rw [hf m a b] at d
      cases d
  | some n =>
    obtain ⟨⟨a, b, d⟩, e⟩ := hf
    cases g with
    | none =>
      rw [hg n a b] at d
      cases d
    | some m =>
      obtain ⟨⟨a', b', d'⟩, e'⟩ := hg
      have q1 := e m a' b' d'
      have q2 := e' n a b d
      rw [show n = m by omega]
theorem Bst.z {P : Nat → Bool} {c : Nat → Nat} {n : Nat} : Bst P c n n none := fun j a b => by omega
theorem Bst.up_n {P : Nat → Bool} {c : Nat → Nat} {k : Nat} {f : Option Nat} (h : Bst P c 0 k f) (hp : P k = false) : Bst P c 0 (k + 1) f := by
  cases f with
  | none =>
    intro j a b
    by_cases e : j = k
    · rw [e]
      exact hp
    · exact h j a (by omega)
  | some m =>
    obtain ⟨⟨a, b, d⟩, e⟩ := h
    refine ⟨⟨a, by omega, d⟩, fun j a2 b2 p2 => ?_⟩
    by_cases q : j = k
    · rw [q, hp] at p2
      cases p2
    · exact e j a2 (by omega) p2
theorem Bst.up_0 {P : Nat → Bool} {c : Nat → Nat} {k : Nat} (h : Bst P c 0 k none) (hp : P k = true) : Bst P c 0 (k + 1) (some k) := by
  refine ⟨⟨by omega, by omega, hp⟩, fun j a b p => ?_⟩
  by_cases q : j = k
  · rw [q]
    exact Or.inr ⟨rfl, Nat.le_refl _⟩
  · rw [h j a (by omega)] at p
    cases p
theorem Bst.up_l {P : Nat → Bool} {c : Nat → Nat} {k m : Nat} (h : Bst P c 0 k (some m)) (hp : P k = true) (hc : c k < c m) : Bst P c 0 (k + 1) (some k) := by
  obtain ⟨⟨a, b, d⟩, e⟩ := h
  refine ⟨⟨by omega, by omega, hp⟩, fun j a2 b2 p => ?_⟩
  by_cases q : j = k
  · rw [q]
    exact Or.inr ⟨rfl, Nat.le_refl _⟩
  · have := e j a2 (by omega) p
    omega
theorem Bst.up_g {P : Nat → Bool} {c : Nat → Nat} {k m : Nat} (h : Bst P c 0 k (some m)) (hc : c m ≤ c k) : Bst P c 0 (k + 1) (some m) := by
  obtain ⟨⟨a, b, d⟩, e⟩ := h
  refine ⟨⟨by omega, by omega, d⟩, fun j a2 b2 p => ?_⟩
  by_cases q : j = k
  · rw [q]
    omega
  · exact e j a2 (by omega) p
theorem Bst.dn_n {P : Nat → Bool} {c : Nat → Nat} {k n : Nat} {f : Option Nat} (h : Bst P c (k + 1) n f) (hp : P k = false) : Bst P c k n f := by
  cases f with
  | none =>
    intro j a b
    by_cases e : j = k
    · rw [e]
      exact hp
    · exact h j (by omega) b
  | some m =>
    obtain ⟨⟨a, b, d⟩, e⟩ := h
    refine ⟨⟨by omega, b, d⟩, fun j a2 b2 p2 => ?_⟩
    by_cases q : j = k
    · rw [q, hp] at p2
      cases p2
    · exact e j (by omega) b2 p2
theorem Bst.dn_0 {P : Nat → Bool} {c : Nat → Nat} {k n : Nat} (h : Bst P c (k + 1) n none) (hk : k < n) (hp : P k = true) : Bst P c k n (some k) := by
  refine ⟨⟨by omega, hk, hp⟩, fun j a b p => ?_⟩
  by_cases q : j = k
  · rw [q]
    exact Or.inr ⟨rfl, Nat.le_refl _⟩
  · rw [h j (by omega) b] at p
    cases p
theorem Bst.dn_l {P : Nat → Bool} {c : Nat → Nat} {k n m : Nat} (h : Bst P c (k + 1) n (some m)) (hk : k < n) (hp : P k = true) (hc : c k ≤ c m) : Bst P c k n (some k) := by
  obtain ⟨⟨a, b, d⟩, e⟩ := h
  refine ⟨⟨by omega, hk, hp⟩, fun j a2 b2 p => ?_⟩
  by_cases q : j = k
  · rw [q]
    exact Or.inr ⟨rfl, Nat.le_refl _⟩
  · have := e j (by omega) b2 p
    omega
theorem Bst.dn_g {P : Nat → Bool} {c : Nat → Nat} {k n m : Nat} (h : Bst P c (k + 1) n (some m)) (hc : c m < c k) : Bst P c k n (some m) := by
  obtain ⟨⟨a, b, d⟩, e⟩ := h
  refine ⟨⟨by omega, by omega, d⟩, fun j a2 b2 p => ?_⟩
  by_cases q : j = k
  · rw [q]
    omega
  · exact e j (by omega) b2 p
def oD (d : Int32) : Option Nat → Int32
  | none => d
  | some m => nI m
theorem dn_s (k : Nat) : nI (k + 1) + (-1) = nI k := by
  rw [← nI_1]
  apply i_ext
  rw [Int32.add_assoc, show (1 : Int32) + (-1) = 0 from by decide, Int32.add_zero]
theorem l64 {k : Nat} (h : k < 64) : ¬ (64 : Int32) ≤ nI k := lit_lt (m := 64) h (by decide)
theorem l64e : (64 : Int32) ≤ nI 64 := lit_end
theorem pc6 : ∀ k, k < 64 → pcN 63 ≤ pcN k → k = 63 := by decide
theorem bc_le {a b : Nat} (ha : a < 1024) (hb : b < 1024) : bc (nI a) ≤ bc (nI b) ↔ pcN a ≤ pcN b := by
  have l1 := pcN_10 a
  have l2 := pcN_10 b
  rw [bc_pc a ha, bc_pc b hb, nI_leI (by omega) (by omega)]
theorem bc_lt {a b : Nat} (ha : a < 1024) (hb : b < 1024) : bc (nI a) < bc (nI b) ↔ pcN a < pcN b := by
  have l1 := pcN_10 a
  have l2 := pcN_10 b
  rw [bc_pc a ha, bc_pc b hb, nI_ltI (by omega) (by omega)]
theorem cov_c {N z y : Nat} {σ1 σ2 : pS} (hN : 20000 < N) (h : Sim z y σ1 σ2) : ∃ r, (∃ f, Bst (fun k => decide (dd (σ2.2.1 (y + 1)) (nI k) = allD (σ2.2.1 (y + 1)))) pcN 0 64 f ∧ r = oD 63 f) ∧ fX11_cover N (G1 z) z σ1 = some r := by
  have wi := h.wi
  unfold fX11_cover fX11_cover_b20
  simp only [g1r_0_0, g1r_0_1, g1r_0_2, g1r_0_3, g1r_0_4, g1r_0_5, g1r_0_6, g1r_0_7, g1r_0_8, g1r_1_5, g1n_2, g1r_3_0, g1r_3_1, g1r_3_2, g1r_4_9, g1r_4_10, g1r_4_11, g1r_4_12, g1r_4_13, g1r_4_14, g1r_4_15, g1r_4_16, g1r_4_17, g1n_5, g1n_6, g1n_7, g1n_8, g1n_9, g1n_10, g1n_11, g1n_12, g1n_13, g1r_14_2, g1r_14_3, g1r_14_4, g1r_14_5, g1r_14_6, g1n_15, g1n_16, g1n_17, g1n_18, g1n_19, g1r_20_7, g1r_20_8, g1n_21, g1r_22_2, g1n_23, g1r_24_0, g1r_24_1, g1r_24_2, g1r_25_9, g1r_25_10, g1r_25_11, g1r_25_12, g1r_25_13, g1r_25_14, g1r_25_15, g1r_25_16, g1r_25_17, g1n_26, g1n_27, g1n_28, g1n_29, g1n_30, g1n_31, g1n_32, g1n_33, g1n_34, g1r_35_2, g1r_35_3, g1r_35_4, g1r_35_5, g1r_35_6, g1n_36, g1n_37, g1n_38, g1n_39, g1n_40, g1r_41_7, g1r_41_8, g1n_42, g1r_43_2, g1n_44, g1r_45_0, g1r_45_1, g1r_45_2, g1r_46_9, g1r_46_10, g1r_46_11, g1r_46_12, g1r_46_13, g1r_46_14, g1r_46_15, g1r_46_16, g1r_46_17, g1n_47, g1n_48, g1n_49, g1n_50, g1n_51, g1n_52, g1n_53, g1n_54, g1n_55, g1r_56_2, g1r_56_3, g1r_56_4, g1r_56_5, g1r_56_6, g1n_57, g1n_58, g1n_59, g1n_60, g1n_61, g1r_62_7, g1r_62_8, g1n_63, g1r_64_2, g1n_65, g1r_66_2, g1n_67, g1r_68_7, g1r_68_8, g1n_69, g1r_70_2, g1n_71, g1r_72_7, g1r_72_8, g1n_73, g1r_74_2, g1n_75, g1r_76_7, g1r_76_8, g1n_77, g1r_78_2, g1n_79, g1r_80_7, g1r_80_8, g1n_81, g1r_82_2, g1n_83, g1r_84_7, g1r_84_8, g1n_85, g1r_86_2, g1n_87, g1r_88_7, g1r_88_8, g1n_89, g1r_90_2, g1n_91, g1r_92_7, g1r_92_8, g1n_93, g1r_94_2, g1n_95, g1r_96_7, g1r_96_8, g1n_97, g1r_98_2, g1n_99, g1r_100_7, g1r_100_8, g1n_101, g1r_102_2, g1n_103, g1r_104_7, g1r_104_8, g1n_105, g1r_106_2, g1n_107, g1r_108_7, g1r_108_8, g1n_109, g1r_110_2, g1n_111, g1r_112_7, g1r_112_8, g1n_113, g1r_114_2, g1n_115, g1r_116_7, g1r_116_8, g1n_117, g1r_118_2, g1n_119, g1r_120_0, g1r_120_1, g1r_120_2, g1r_121_7, g1r_121_8, g1n_122, g1r_123_2, g1n_124, g1n_125, g1n_126, g1r_127_0, g1r_127_1, g1r_127_2, g1r_127_3, g1r_128_7, g1r_128_8, g1n_129, g1r_130_2, g1n_131, g1n_132, g1n_133, g1n_134, g1r_135_7, g1n_136, g1n_150]
  rw [h.tale.1.2.2.2.2.2.1]
  refine lp_forR (fun k b => ∃ f, Bst (fun k => decide (dd (σ2.2.1 (y + 1)) (nI k) = allD (σ2.2.1 (y + 1)))) pcN 0 k f ∧ b = (oD 63 f, nI k)) _ 64 (by omega) ?_ ?_ ⟨none, Bst.z, rfl⟩
  · rintro k hk b ⟨f, hf, rfl⟩
    left
    dsimp only
    simp only [if_neg (l64 hk), bc_fn, b_some, c_dutiesDone hN wi h.tale]
    show ∃ b', _ ∧ ∀ q : Int32 × Int32 → Option Int32, (if bc (oD 63 f) ≤ bc (nI k) then q (oD 63 f, nI k + 1) else if dd (σ2.2.1 (y + 1)) (nI k) = allD (σ2.2.1 (y + 1)) then q (nI k, nI k + 1) else q (oD 63 f, nI k + 1)) = q b'
    cases f with
    | none =>
      by_cases p : dd (σ2.2.1 (y + 1)) (nI k) = allD (σ2.2.1 (y + 1))
      · refine ⟨(nI k, nI (k + 1)), ⟨some k, hf.up_0 (decide_eq_true p), rfl⟩, fun q => ?_⟩
        rw [if_pos p, ← nI_1]
        by_cases l : bc (oD 63 none) ≤ bc (nI k)
        · have := pc6 k hk ((bc_le (a := 63) (by omega) (by omega)).mp l)
          rw [if_pos l, this]
          rfl
        · rw [if_neg l]
      · refine ⟨(oD 63 none, nI (k + 1)), ⟨none, hf.up_n (decide_eq_false p), rfl⟩, fun q => ?_⟩
        rw [if_neg p, ← nI_1]
        split <;> rfl
    | some m =>
      have hm := hf.1.2.1
      by_cases l : bc (oD 63 (some m)) ≤ bc (nI k)
      · refine ⟨(nI m, nI (k + 1)), ⟨some m, hf.up_g ((bc_le (by omega) (by omega)).mp l), rfl⟩, fun q => ?_⟩
        rw [if_pos l, ← nI_1]
        rfl
      · have l2 : pcN k < pcN m := by
          have : ¬ pcN m ≤ pcN k := fun e => l ((bc_le (by omega) (by omega)).mpr e)
          omega
        by_cases p : dd (σ2.2.1 (y + 1)) (nI k) = allD (σ2.2.1 (y + 1))
        · refine ⟨(nI k, nI (k + 1)), ⟨some k, hf.up_l (decide_eq_true p) l2, rfl⟩, fun q => ?_⟩
          rw [if_neg l, if_pos p, ← nI_1]
        · refine ⟨(nI m, nI (k + 1)), ⟨some m, hf.up_n (decide_eq_false p), rfl⟩, fun q => ?_⟩
          rw [if_neg l, if_neg p, ← nI_1]
          rfl
  · rintro b ⟨f, hf, rfl⟩
    refine ⟨oD 63 f, ⟨f, hf, rfl⟩, fun q => ?_⟩
    dsimp only
    rw [if_pos l64e]
theorem cov_r {N y : Nat} {σ : pS} (hN : 20000 < N) (wi : WInv (σ.2.1 (y + 1))) : ∃ r, (∃ f, Bst (fun k => decide (dd (σ.2.1 (y + 1)) (nI k) = allD (σ.2.1 (y + 1)))) pcN 0 64 f ∧ r = (oD 63 f, putF σ y 0 0)) ∧ fX12_cover N (G2 y) y σ = some r := by
  unfold fX12_cover fX12_cover_b10
  refine lp_forR (fun j b => ∃ f, Bst (fun k => decide (dd (σ.2.1 (y + 1)) (nI k) = allD (σ.2.1 (y + 1)))) pcN (64 - j) 64 f ∧ b = (oD 63 f, nI (64 - j) + (-1), putF σ y 0 0)) _ 64 (by omega) ?_ ?_ ⟨none, Bst.z, rfl⟩
  · rintro j hj b ⟨f, hf, rfl⟩
    left
    obtain ⟨k, hk⟩ : ∃ k, 64 - j = k + 1 := ⟨63 - j, by omega⟩
    have hk64 : k < 64 := by omega
    rw [hk] at hf
    rw [hk, show 64 - (j + 1) = k by omega, dn_s]
    dsimp only
    simp only [if_neg (show ¬ nI k < 0 from nI_pos (by omega)), bc_fn, b_some, r_doneBy (σ := putF σ y 0 0) hN wi, r_allDuties]
    show ∃ b', _ ∧ ∀ q : Int32 × Int32 × pS → Option (Int32 × pS), (if bc (oD 63 f) < bc (nI k) then q (oD 63 f, nI k + (-1), putF σ y 0 0) else if dd (σ.2.1 (y + 1)) (nI k) = allD (σ.2.1 (y + 1)) then q (nI k, nI k + (-1), putF σ y 0 0) else q (oD 63 f, nI k + (-1), putF σ y 0 0)) = q b'
    cases f with
    | none =>
      have l : ¬ bc (oD 63 none) < bc (nI k) := by
        have : ∀ k, k < 64 → ¬ pcN 63 < pcN k := by decide
        exact fun e => this k hk64 ((bc_lt (a := 63) (by omega) (by omega)).mp e)
      by_cases p : dd (σ.2.1 (y + 1)) (nI k) = allD (σ.2.1 (y + 1))
      · refine ⟨(nI k, nI k + (-1), putF σ y 0 0), ⟨some k, hf.dn_0 hk64 (decide_eq_true p), rfl⟩, fun q => ?_⟩
        rw [if_neg l, if_pos p]
      · refine ⟨(oD 63 none, nI k + (-1), putF σ y 0 0), ⟨none, hf.dn_n (decide_eq_false p), rfl⟩, fun q => ?_⟩
        rw [if_neg l, if_neg p]
    | some m =>
      have hm := hf.1.2.1
      by_cases l : bc (oD 63 (some m)) < bc (nI k)
      · refine ⟨(nI m, nI k + (-1), putF σ y 0 0), ⟨some m, hf.dn_g ((bc_lt (by omega) (by omega)).mp l), rfl⟩, fun q => ?_⟩
        rw [if_pos l]
        rfl
      · have l2 : pcN k ≤ pcN m := by
          have : ¬ pcN m < pcN k := fun e => l ((bc_lt (by omega) (by omega)).mpr e)
          omega
        by_cases p : dd (σ.2.1 (y + 1)) (nI k) = allD (σ.2.1 (y + 1))
        · refine ⟨(nI k, nI k + (-1), putF σ y 0 0), ⟨some k, hf.dn_l hk64 (decide_eq_true p) l2, rfl⟩, fun q => ?_⟩
          rw [if_neg l, if_pos p]
        · refine ⟨(nI m, nI k + (-1), putF σ y 0 0), ⟨some m, hf.dn_n (decide_eq_false p), rfl⟩, fun q => ?_⟩
          rw [if_neg l, if_neg p]
          rfl
  · rintro b ⟨f, hf, rfl⟩
    refine ⟨(oD 63 f, putF σ y 0 0), ⟨f, hf, rfl⟩, fun q => ?_⟩
    dsimp only
    rw [if_pos (by decide)]
theorem gd_cover {N z y : Nat} (hN : 20000 < N) : Gd_cover N (G1 z) (G2 y) z y (z + 150) (Sim z y) := by
  intro σ1 σ2 h
  obtain ⟨r, ⟨f, hf, rfl⟩, h1⟩ := cov_c hN h
  obtain ⟨r2, ⟨g, hg, rfl⟩, h2⟩ := cov_r (σ := σ2) hN h.wi
  rw [hg.uniq hf] at h2
  exact ⟨_, _, h1, h2, h.t0⟩
